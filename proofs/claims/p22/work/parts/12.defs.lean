/-! what the class's methods answer, over its numbers -/
noncomputable def ic (P : Prop) (a : Int) : Int := @ite Int P (Classical.propDecidable P) a 0
theorem ic_t {P : Prop} {a : Int} (h : P) : ic P a = a := if_pos h
theorem ic_f {P : Prop} {a : Int} (h : ¬ P) : ic P a = 0 := if_neg h
noncomputable def ie (P : Prop) (a b : Int) : Int := @ite Int P (Classical.propDecidable P) a b
theorem ie_t {P : Prop} {a b : Int} (h : P) : ie P a b = a := if_pos h
theorem ie_f {P : Prop} {a b : Int} (h : ¬ P) : ie P a b = b := if_neg h
def pl (σ : Nat → Nat → Int) (k : Nat) (mi : Int) : Prop := σ 14 k ≠ 0 ∧ σ 8 k ≤ mi ∧ mi < σ 8 k + σ 9 k
def nr (σ : Nat → Nat → Int) (k j : Nat) (ch : Int) : Prop := σ 8 k < σ 8 j + σ 9 j + ch ∧ σ 8 j < σ 8 k + σ 9 k + ch
def hit (σ : Nat → Nat → Int) (s k : Nat) : Prop := σ 16 s = σ 7 k ∧ σ 8 k < σ 18 s ∧ σ 17 s < σ 8 k + σ 9 k
def bt (z : Int) (i : Nat) : Prop := (iz z).toBitVec.getLsbD i = true
def hc (z cz : Int) : Prop := 0 ≤ cz ∧ cz < 32 ∧ bt z cz.toNat
def pr (z mid : Int) : Prop := ∃ a : Nat, 1 ≤ a ∧ hc z (mid - a) ∧ hc z (mid + a)
def mid (z : Int) : Prop := ∃ b : Nat, 1 ≤ b ∧ b ≤ 30 ∧ hc z b ∧ pr z b
def stN (σ : Nat → Nat → Int) (mi : Int) : Nat → Int
  | 0 => 0
  | i + 1 => stN σ mi i + (if σ 1 i ≤ mi then 1 else 0)
def nz (σ : Nat → Nat → Int) (k : Nat) (hs : Int) (w : Int) : Int := max 0 (σ 12 k - (10 + 10 * max (σ 7 k - hs) (-(σ 7 k - hs)) + w))
noncomputable def ldS (σ : Nat → Nat → Int) (mi : Int) (p : Nat) : Nat → Int
  | 0 => 0
  | i + 1 => ldS σ mi p i + ic (pl σ i mi ∧ σ 10 i = p) (σ 11 i)
noncomputable def nsS (σ : Nat → Nat → Int) (mi w : Int) (hs : Nat) : Nat → Int
  | 0 => 0
  | i + 1 => nsS σ mi w hs i + ic (pl σ i mi) (nz σ i hs w)
noncomputable def chS (σ : Nat → Nat → Int) (mi : Int) : Nat → Int
  | 0 => 0
  | i + 1 => ie (pl σ i mi ∧ σ 13 i ≠ -1) (ior (chS σ mi i) (ish 1 (σ 13 i))) (chS σ mi i)
noncomputable def tcS (σ : Nat → Nat → Int) (mi : Int) : Nat → Int
  | 0 => 0
  | i + 1 => ie (pl σ i mi ∧ σ 13 i ≠ -1) (b2i (tcS σ mi i ≠ 0 ∨ hc (chS σ mi i) (σ 13 i - 1) ∨ hc (chS σ mi i) (σ 13 i) ∨ hc (chS σ mi i) (σ 13 i + 1))) (tcS σ mi i)
def wd (σ : Nat → Nat → Int) (mi : Int) : Int := σ 4 (mi / 60).toNat
/-- what lookAt leaves in the scratch cells -/
def LK (σ : Nat → Nat → Int) (mi : Int) (i : Nat) (κ : Nat → Nat → Int) : Prop :=
  (∀ p, p < 3 → κ 0 p = ldS σ mi p i) ∧ (∀ hs, hs < 3 → κ 1 hs = nsS σ mi (wd σ mi) hs i) ∧ κ 2 0 = chS σ mi i ∧ κ 2 1 = tcS σ mi i
def bad2 (σ : Nat → Nat → Int) (mi : Int) : Prop := ∃ p, p < 3 ∧ 100 * stN σ mi (σ 0 0).toNat < ldS σ mi p 16
def bad3 (σ : Nat → Nat → Int) (mi : Int) : Prop := tcS σ mi 16 ≠ 0 ∨ mid (chS σ mi 16)
def ev (mi : Int) : Int := if 600 ≤ mi then 10 else 0
def bad4 (σ : Nat → Nat → Int) (mi : Int) : Prop := ∃ hs, hs < 3 ∧ σ 3 hs - ev mi < nsS σ mi (wd σ mi) hs 16
/-- the first point that is broken in a minute -/
noncomputable def pt (σ : Nat → Nat → Int) (mi : Int) : Int := ie (bad2 σ mi) 2 (ie (bad3 σ mi) 3 (ie (bad4 σ mi) 4 0))
theorem pt_rg {σ : Nat → Nat → Int} {mi : Int} : 0 ≤ pt σ mi ∧ pt σ mi ≤ 4 := by
  unfold pt
  rcases Classical.em (bad2 σ mi) with h | h
  · rw [ie_t h]; decide
  · rw [ie_f h]
    rcases Classical.em (bad3 σ mi) with h | h
    · rw [ie_t h]; decide
    · rw [ie_f h]
      rcases Classical.em (bad4 σ mi) with h | h
      · rw [ie_t h]; decide
      · rw [ie_f h]; decide
theorem stN_rg {σ : Nat → Nat → Int} {mi : Int} (i : Nat) : 0 ≤ stN σ mi i ∧ stN σ mi i ≤ i := by
  induction i with
  | zero => exact ⟨by simp [stN], by simp [stN]⟩
  | succ i ih => simp only [stN]; split <;> omega
theorem ldS_rg {σ : Nat → Nat → Int} (hG : GI σ) {mi : Int} {p : Nat} (i : Nat) : 0 ≤ ldS σ mi p i ∧ ldS σ mi p i ≤ 200 * i := by
  induction i with
  | zero => exact ⟨by simp [ldS], by simp [ldS]⟩
  | succ i ih =>
    have := GI_11 hG i
    simp only [ldS]
    rcases Classical.em (pl σ i mi ∧ σ 10 i = p) with h | h
    · rw [ic_t h]; omega
    · rw [ic_f h]; omega
theorem nsS_rg {σ : Nat → Nat → Int} (hG : GI σ) {mi w : Int} (hw : -10 ≤ w ∧ w ≤ 10) {hs : Nat} (i : Nat) : 0 ≤ nsS σ mi w hs i ∧ nsS σ mi w hs i ≤ 200 * i := by
  induction i with
  | zero => exact ⟨by simp [nsS], by simp [nsS]⟩
  | succ i ih =>
    have := GI_12 hG i
    simp only [nsS]
    have : 0 ≤ nz σ i hs w ∧ nz σ i hs w ≤ 200 := by unfold nz; omega
    rcases Classical.em (pl σ i mi) with h | h
    · rw [ic_t h]; omega
    · rw [ic_f h]; omega
theorem tcS_rg {σ : Nat → Nat → Int} {mi : Int} (i : Nat) : 0 ≤ tcS σ mi i ∧ tcS σ mi i ≤ 1 := by
  induction i with
  | zero => exact ⟨by simp [tcS], by simp [tcS]⟩
  | succ i ih =>
    simp only [tcS]
    rcases Classical.em (pl σ i mi ∧ σ 13 i ≠ -1) with h | h
    · rw [ie_t h]; exact b2i_rg
    · rw [ie_f h]; exact ih
theorem chS_rg {σ : Nat → Nat → Int} {mi : Int} (i : Nat) : -2147483648 ≤ chS σ mi i ∧ chS σ mi i ≤ 2147483647 := by
  induction i with
  | zero => exact ⟨by simp [chS], by simp [chS]⟩
  | succ i ih =>
    simp only [chS]
    rcases Classical.em (pl σ i mi ∧ σ 13 i ≠ -1) with h | h
    · rw [ie_t h]; exact ti_rg _
    · rw [ie_f h]; exact ih
def fits' (σ : Nat → Nat → Int) (k : Nat) : Prop := σ 8 k + σ 9 k ≤ 1000 ∧ (∀ s, s < 5 → ¬ hit σ s k) ∧ ∀ j, j < 16 → ¬ (j ≠ k ∧ σ 14 j ≠ 0 ∧ σ 7 j = σ 7 k ∧ nr σ k j (σ 2 (σ 7 k).toNat))
def stormy (σ : Nat → Nat → Int) (st mi : Int) : Prop := ∃ s, s < 5 ∧ σ 16 s = st ∧ σ 17 s ≤ mi ∧ mi < σ 18 s
def held (σ : Nat → Nat → Int) (k : Nat) (mi : Int) : Prop := ∃ j, j < 16 ∧ j ≠ k ∧ σ 14 j ≠ 0 ∧ σ 7 j = σ 7 k ∧ σ 8 j ≤ mi ∧ mi < σ 8 j + σ 9 j + σ 2 (σ 7 k).toNat
def stFine (σ : Nat → Nat → Int) (st : Int) : Prop := ∀ k, k < 16 → σ 14 k ≠ 0 → σ 7 k = st → fits' σ k
def stsFine (σ : Nat → Nat → Int) (mi : Int) : Prop := ∀ k, k < 16 → pl σ k mi → ¬ stormy σ (σ 7 k) mi ∧ ¬ held σ k mi
/-- the first of the points 2 to 4 that is broken in a minute from a to before b -/
noncomputable def bw (σ : Nat → Nat → Int) (a b : Int) : Int := ie (∃ m, a ≤ m ∧ m < b ∧ pt σ m = 2) 2 (ie (∃ m, a ≤ m ∧ m < b ∧ pt σ m = 3) 3 (ie (∃ m, a ≤ m ∧ m < b ∧ pt σ m = 4) 4 0))
noncomputable def bby (σ : Nat → Nat → Int) (k : Nat) : Int := ie (fits' σ k) (bw σ (σ 8 k) (σ 8 k + σ 9 k)) 1
