/-! the class's numbers beside the reference's: what is alike -/
def Rel (σ τ : Nat → Nat → Int) : Prop :=
  (∀ r, r = 1 ∨ r = 2 ∨ r = 3 ∨ r = 4 ∨ r = 7 ∨ (9 ≤ r ∧ r ≤ 13) → σ r = τ r) ∧
  (∀ k, k < 16 → σ 14 k = τ 14 k) ∧ τ 14 16 = 0 ∧
  (∀ k, k < 16 → σ 14 k ≠ 0 → σ 8 k = τ 8 k) ∧
  (σ 0 0 = τ 0 0 ∧ σ 0 1 = τ 0 1 ∧ σ 0 2 = τ 0 2) ∧
  (∀ s : Nat, (s : Int) < σ 0 2 → σ 16 s = τ 16 s ∧ σ 17 s = τ 17 s ∧ σ 18 s = τ 18 s) ∧
  (∀ s : Nat, s < 5 → σ 0 2 ≤ (s : Int) → σ 16 s = -1)
/-- planned acts have a length -/
def Len (σ : Nat → Nat → Int) : Prop := ∀ k, k < 16 → σ 14 k ≠ 0 → 1 ≤ σ 9 k
section R
variable {σ τ : Nat → Nat → Int}
theorem R_1 (h : Rel σ τ) : σ 1 = τ 1 := h.1 1 (by omega)
theorem R_2 (h : Rel σ τ) : σ 2 = τ 2 := h.1 2 (by omega)
theorem R_3 (h : Rel σ τ) : σ 3 = τ 3 := h.1 3 (by omega)
theorem R_4 (h : Rel σ τ) : σ 4 = τ 4 := h.1 4 (by omega)
theorem R_7 (h : Rel σ τ) : σ 7 = τ 7 := h.1 7 (by omega)
theorem R_9 (h : Rel σ τ) : σ 9 = τ 9 := h.1 9 (by omega)
theorem R_10 (h : Rel σ τ) : σ 10 = τ 10 := h.1 10 (by omega)
theorem R_11 (h : Rel σ τ) : σ 11 = τ 11 := h.1 11 (by omega)
theorem R_12 (h : Rel σ τ) : σ 12 = τ 12 := h.1 12 (by omega)
theorem R_13 (h : Rel σ τ) : σ 13 = τ 13 := h.1 13 (by omega)
theorem R_14 (h : Rel σ τ) {k : Nat} (hk : k < 16) : σ 14 k = τ 14 k := h.2.1 k hk
theorem R_off (h : Rel σ τ) : τ 14 16 = 0 := h.2.2.1
theorem R_8 (h : Rel σ τ) {k : Nat} (hk : k < 16) (ho : σ 14 k ≠ 0) : σ 8 k = τ 8 k := h.2.2.2.1 k hk ho
theorem R_00 (h : Rel σ τ) : σ 0 0 = τ 0 0 := h.2.2.2.2.1.1
theorem R_01 (h : Rel σ τ) : σ 0 1 = τ 0 1 := h.2.2.2.2.1.2.1
theorem R_02 (h : Rel σ τ) : σ 0 2 = τ 0 2 := h.2.2.2.2.1.2.2
theorem R_st (h : Rel σ τ) {s : Nat} (hs : (s : Int) < σ 0 2) : σ 16 s = τ 16 s ∧ σ 17 s = τ 17 s ∧ σ 18 s = τ 18 s := h.2.2.2.2.2.1 s hs
theorem R_no (h : Rel σ τ) {s : Nat} (h5 : s < 5) (hs : σ 0 2 ≤ (s : Int)) : σ 16 s = -1 := h.2.2.2.2.2.2 s h5 hs
theorem pl_rel (h : Rel σ τ) {k : Nat} (hk : k < 16) {mi : Int} : pl σ k mi ↔ pl τ k mi := by
  unfold pl
  rw [R_14 h hk, R_9 h]
  constructor
  · rintro ⟨a, b, c⟩
    have e := R_8 h hk (by rw [R_14 h hk]; exact a)
    rw [e] at b c
    exact ⟨a, b, c⟩
  · rintro ⟨a, b, c⟩
    have e := R_8 h hk (by rw [R_14 h hk]; exact a)
    rw [e]
    exact ⟨a, b, c⟩
theorem pl_16 (h : Rel σ τ) {mi : Int} : ¬ pl τ 16 mi := fun q => q.1 (R_off h)
theorem ic_iff {P P' : Prop} {a : Int} (h : P ↔ P') : ic P a = ic P' a := by rw [propext h]
theorem ldS_rel (h : Rel σ τ) {mi : Int} {p : Nat} : ∀ n, n ≤ 16 → ldS σ mi p n = ldS τ mi p n := by
  intro n
  induction n with
  | zero => intro _; rfl
  | succ n ih =>
    intro hn
    simp only [ldS]
    rw [ih (by omega), R_11 h, R_10 h, ic_iff (and_congr (pl_rel h (k := n) (by omega)) Iff.rfl)]
theorem ld_rel (h : Rel σ τ) {mi : Int} {p : Nat} : ldS τ mi p 17 = ldS σ mi p 16 := by
  have e : ldS τ mi p 17 = ldS τ mi p 16 + ic (pl τ 16 mi ∧ τ 10 16 = p) (τ 11 16) := rfl
  rw [ldS_rel h 16 (Nat.le_refl _), e, ic_f (fun q => pl_16 h q.1)]
  omega
theorem nsS_rel (h : Rel σ τ) {mi w : Int} {hs : Nat} : ∀ n, n ≤ 16 → nsS σ mi w hs n = nsS τ mi w hs n := by
  intro n
  induction n with
  | zero => intro _; rfl
  | succ n ih =>
    intro hn
    simp only [nsS]
    have e : nz σ n hs w = nz τ n hs w := by unfold nz; rw [R_12 h, R_7 h]
    rw [ih (by omega), e, ic_iff (pl_rel h (k := n) (by omega))]
theorem ns_rel (h : Rel σ τ) {mi w : Int} {hs : Nat} : nsS τ mi w hs 17 = nsS σ mi w hs 16 := by
  have e : nsS τ mi w hs 17 = nsS τ mi w hs 16 + ic (pl τ 16 mi) (nz τ 16 hs w) := rfl
  rw [nsS_rel h 16 (Nat.le_refl _), e, ic_f (fun q => pl_16 h q)]
  omega
theorem stN_rel (h : Rel σ τ) {mi : Int} : ∀ n, stN σ mi n = stN τ mi n := by
  intro n
  induction n with
  | zero => rfl
  | succ n ih => simp only [stN]; rw [ih, R_1 h]
theorem wd_rel (h : Rel σ τ) {mi : Int} : wd σ mi = wd τ mi := by unfold wd; rw [R_4 h]
theorem fed_rel (h : Rel σ τ) {mi : Int} : fed τ mi ↔ ¬ bad2 σ mi := by
  unfold fed bad2
  constructor
  · rintro q ⟨p, hp, hb⟩
    have := q p hp
    rw [ld_rel h, ← stN_rel h, ← R_00 h] at this
    omega
  · intro q p hp
    rw [ld_rel h, ← stN_rel h, ← R_00 h]
    exact Int.not_lt.mp fun z => q ⟨p, hp, z⟩
theorem quiet_rel (h : Rel σ τ) {mi : Int} : quiet τ mi ↔ ¬ bad4 σ mi := by
  unfold quiet bad4
  constructor
  · rintro q ⟨p, hp, hb⟩
    have := q p hp
    rw [ns_rel h, ← wd_rel h, ← R_3 h] at this
    omega
  · intro q p hp
    rw [ns_rel h, ← wd_rel h, ← R_3 h]
    exact Int.not_lt.mp fun z => q ⟨p, hp, z⟩
theorem nr_symm {k j : Nat} {ch : Int} : nr σ k j ch ↔ nr σ j k ch := by unfold nr; omega
/-- all acts are placed -/
def allfit (σ : Nat → Nat → Int) : Prop := ∀ k, k < 16 → σ 14 k ≠ 0 → fits' σ k
theorem placed_rel (h : Rel σ τ) (hG : GI σ) (hL : Len σ) : placed τ ↔ allfit σ := by
  have h02 := GI_02 hG
  have e02 := R_02 h
  constructor
  · intro q k hk ho
    obtain ⟨⟨q1, q2⟩, q3⟩ := q k (by omega)
    have e8 := R_8 h hk ho
    have ho' : τ 14 k ≠ 0 := by rw [← R_14 h hk]; exact ho
    refine ⟨?_, ?_, ?_⟩
    · rcases q1 with q1 | q1
      · exact absurd q1 ho'
      · rw [← e8, ← R_9 h] at q1; exact q1
    · intro s hs hh
      obtain ⟨a, b, d⟩ := hh
      have h7 := GI_7 hG k
      rcases (show (s : Int) < σ 0 2 ∨ σ 0 2 ≤ (s : Int) by omega) with z | z
      · obtain ⟨r1, r2, r3⟩ := R_st h z
        rcases q3 s (by omega) with y | y | y | y
        · exact ho' y
        · exact y (by rw [← r1, ← R_7 h]; exact a)
        · rw [← r3, ← e8] at y; omega
        · rw [← r2, ← e8, ← R_9 h] at y; omega
      · have := R_no h hs z
        omega
    · intro j hj hh
      obtain ⟨hjk, hoj, h7, hn1, hn2⟩ := hh
      have e8j := R_8 h hj hoj
      have hoj' : τ 14 j ≠ 0 := by rw [← R_14 h hj]; exact hoj
      obtain ⟨⟨p1, p2⟩, p3⟩ := q j (by omega)
      have a1 := q2 j (by omega)
      have a2 := p2 k (by omega)
      unfold mB mN at a1 a2
      rw [← R_7 h, ← R_2 h, ← R_9 h, ← e8, ← e8j] at a1 a2
      have l1 := hL k hk ho
      have l2 := hL j hj hoj
      rw [h7] at a2
      rcases Int.le_total (σ 8 k) (σ 8 j) with z | z
      · rcases a1 with a1 | a1
        · exact a1 ⟨hjk, ho', hoj', h7, z⟩
        · omega
      · rcases a2 with a2 | a2
        · exact a2 ⟨fun e => hjk e.symm, hoj', ho', rfl, z⟩
        · omega
  · intro q k hk
    rcases Nat.lt_or_ge k 16 with hk16 | hk16
    · rcases Classical.em (σ 14 k = 0) with ho | ho
      · have ho' : τ 14 k = 0 := by rw [← R_14 h hk16]; exact ho
        exact ⟨⟨Or.inl ho', fun m hm => Or.inl fun z => z.2.1 ho'⟩, fun w hw => Or.inl ho'⟩
      · obtain ⟨f1, f2, f3⟩ := q k hk16 ho
        have e8 := R_8 h hk16 ho
        refine ⟨⟨Or.inr (by rw [← e8, ← R_9 h]; exact f1), fun m hm => ?_⟩, fun w hw => ?_⟩
        · rcases Classical.em (mN τ k m) with z | z
          · refine Or.inr ?_
            obtain ⟨z1, z2, z3, z4, z5⟩ := z
            have hm16 : m < 16 := by
              rcases Nat.lt_or_ge m 16 with y | y
              · exact y
              · rw [show m = 16 by omega] at z3; exact absurd (R_off h) z3
            have hom : σ 14 m ≠ 0 := by rw [R_14 h hm16]; exact z3
            have e8m := R_8 h hm16 hom
            rw [← R_7 h, ← R_2 h, ← R_9 h, ← e8, ← e8m]
            rw [← e8, ← e8m] at z5
            rw [← R_7 h] at z4
            have l2 := hL m hm16 hom
            have g2 := GI_2 hG (σ 7 k).toNat
            have := f3 m hm16
            refine Int.not_lt.mp fun y => this ⟨z1, hom, z4, ?_, ?_⟩ <;> omega
          · exact Or.inl z
        · rcases Classical.em (τ 16 w = τ 7 k ∧ τ 8 k < τ 18 w ∧ τ 17 w < τ 8 k + τ 9 k) with z | z
          · have hw5 : w < 5 := by omega
            obtain ⟨r1, r2, r3⟩ := R_st h (s := w) (by omega)
            refine absurd ?_ (f2 w hw5)
            unfold hit
            rw [r1, r2, r3, e8, R_9 h, R_7 h]
            exact z
          · unfold mCs
            omega
    · have e : k = 16 := by omega
      rw [e]
      exact ⟨⟨Or.inl (R_off h), fun m hm => Or.inl fun z => z.2.1 (R_off h)⟩, fun w hw => Or.inl (R_off h)⟩
end R
