def spk (τ : Nat → Nat → Int) (mi : Int) (k : Nat) : Prop := pl τ k mi ∧ 0 ≤ τ 13 k
noncomputable def spL (τ : Nat → Nat → Int) (mi : Int) : Nat → List Nat
  | 0 => []
  | i + 1 => @ite (List Nat) (spk τ mi i) (Classical.propDecidable _) (spL τ mi i ++ [i]) (spL τ mi i)
theorem spL_t {τ : Nat → Nat → Int} {mi : Int} {i : Nat} (h : spk τ mi i) : spL τ mi (i + 1) = spL τ mi i ++ [i] := if_pos h
theorem spL_f {τ : Nat → Nat → Int} {mi : Int} {i : Nat} (h : ¬ spk τ mi i) : spL τ mi (i + 1) = spL τ mi i := if_neg h
theorem spL_len {τ : Nat → Nat → Int} {mi : Int} (i : Nat) : (spL τ mi i).length ≤ i := by
  induction i with
  | zero => exact Nat.le_refl _
  | succ i ih =>
    rcases Classical.em (spk τ mi i) with h | h
    · rw [spL_t h]; simp; exact ih
    · rw [spL_f h]; omega
def cE1 (H : Nat → Int) (a b : Nat) : Prop := a = b ∨ ¬ (-1 ≤ H a - H b ∧ H a - H b ≤ 1)
def cE2 (H : Nat → Int) (a b c : Nat) : Prop := a = b ∨ c = a ∨ c = b ∨ 2 * H a - H b ≠ H c
def clear (H : Nat → Int) (n : Nat) (x : Nat) : Prop := cE1 H (x / n) (x % n) ∧ ∀ c, c < n → cE2 H (x / n) (x % n) c
noncomputable def spH (τ : Nat → Nat → Int) (mi : Int) (j : Nat) : Int := τ 13 ((spL τ mi 17).getD j 0)
noncomputable def spn (τ : Nat → Nat → Int) (mi : Int) : Nat := (spL τ mi 17).length
def clr (τ : Nat → Nat → Int) (mi : Int) : Prop := ∀ x, x < spn τ mi * spn τ mi → clear (spH τ mi) (spn τ mi) x
theorem zi_mulE {p : Program} {l : Launch} {e : Env} {R : Room} {s : State} {m : MethodId} {args : Array Value} {below : List Frame} {meth : Method} {c : Code} {H : Heap} {locs : List Loc} {cells slots : Nat} {Q : State → Prop} {cc : ByteArray} {pc : Nat} {ls : Array Slot} {rest : List Value} (hx : p.tables.exec = Jvm.exec) (hb : c.code = cc) {a b r : Int} (h : a * b = r) (hd : decode cc pc = .ok (.imul, 1))
    (k : W p l e R s m args below meth c H locs cells slots Q (F0 m (pc + 1) ls (.int (iz r) :: rest))) : W p l e R s m args below meth c H locs cells slots Q (F0 m pc ls (.int (iz b) :: .int (iz a) :: rest)) := zi_mul hx hb hd (by rw [h]; exact k)
theorem zi_divE {p : Program} {l : Launch} {e : Env} {R : Room} {s : State} {m : MethodId} {args : Array Value} {below : List Frame} {meth : Method} {c : Code} {H : Heap} {locs : List Loc} {cells slots : Nat} {Q : State → Prop} {cc : ByteArray} {pc : Nat} {ls : Array Slot} {rest : List Value} (hx : p.tables.exec = Jvm.exec) (hb : c.code = cc) {a b r : Int} (h : a / b = r) (hd : decode cc pc = .ok (.idiv, 1)) (ha : 0 ≤ a ∧ a ≤ 2147483647) (hb0 : 0 < b ∧ b ≤ 2147483647)
    (k : W p l e R s m args below meth c H locs cells slots Q (F0 m (pc + 1) ls (.int (iz r) :: rest))) : W p l e R s m args below meth c H locs cells slots Q (F0 m pc ls (.int (iz b) :: .int (iz a) :: rest)) := zi_div hx hb hd ha hb0 (by rw [h]; exact k)
theorem zi_remE {p : Program} {l : Launch} {e : Env} {R : Room} {s : State} {m : MethodId} {args : Array Value} {below : List Frame} {meth : Method} {c : Code} {H : Heap} {locs : List Loc} {cells slots : Nat} {Q : State → Prop} {cc : ByteArray} {pc : Nat} {ls : Array Slot} {rest : List Value} (hx : p.tables.exec = Jvm.exec) (hb : c.code = cc) {a b r : Int} (h : a % b = r) (hd : decode cc pc = .ok (.irem, 1)) (ha : 0 ≤ a ∧ a ≤ 2147483647) (hb0 : 0 < b ∧ b ≤ 2147483647)
    (k : W p l e R s m args below meth c H locs cells slots Q (F0 m (pc + 1) ls (.int (iz r) :: rest))) : W p l e R s m args below meth c H locs cells slots Q (F0 m pc ls (.int (iz b) :: .int (iz a) :: rest)) := zi_rem hx hb hd ha hb0 (by rw [h]; exact k)
def mb (τ : Nat → Nat → Int) (i : Nat) : Int := if i < 17 then 60 * (i : Int) else τ 8 (i - 17)
def vld (τ : Nat → Nat → Int) (i : Nat) : Prop := i < 17 ∨ τ 14 (i - 17) ≠ 0
noncomputable def s1 (τ : Nat → Nat → Int) (mi f : Int) : Int := ie (2 < f ∧ ¬ fed τ mi) 2 f
noncomputable def s2 (τ : Nat → Nat → Int) (mi f : Int) : Int := ie (3 < f ∧ ¬ clr τ mi) 3 f
noncomputable def s3 (τ : Nat → Nat → Int) (mi f : Int) : Int := ie (4 < f ∧ ¬ quiet τ mi) 4 f
noncomputable def wF (τ : Nat → Nat → Int) : Nat → Int
  | 0 => 5
  | i + 1 => ie (vld τ i) (s3 τ (mb τ i) (s2 τ (mb τ i) (s1 τ (mb τ i) (wF τ i)))) (wF τ i)
theorem ie_rg {P : Prop} {a b lo hi : Int} (ha : lo ≤ a ∧ a ≤ hi) (hb : lo ≤ b ∧ b ≤ hi) : lo ≤ ie P a b ∧ ie P a b ≤ hi := by
  rcases Classical.em P with h | h
  · rw [ie_t h]; exact ha
  · rw [ie_f h]; exact hb
theorem s1_rg {τ : Nat → Nat → Int} {mi f : Int} (h : 2 ≤ f ∧ f ≤ 5) : 2 ≤ s1 τ mi f ∧ s1 τ mi f ≤ 5 := ie_rg (by decide) h
theorem s2_rg {τ : Nat → Nat → Int} {mi f : Int} (h : 2 ≤ f ∧ f ≤ 5) : 2 ≤ s2 τ mi f ∧ s2 τ mi f ≤ 5 := ie_rg (by decide) h
theorem s3_rg {τ : Nat → Nat → Int} {mi f : Int} (h : 2 ≤ f ∧ f ≤ 5) : 2 ≤ s3 τ mi f ∧ s3 τ mi f ≤ 5 := ie_rg (by decide) h
theorem wF_rg {τ : Nat → Nat → Int} (i : Nat) : 2 ≤ wF τ i ∧ wF τ i ≤ 5 := by
  induction i with
  | zero => exact ⟨by simp [wF], by simp [wF]⟩
  | succ i ih => exact ie_rg (s3_rg (s2_rg (s1_rg ih))) ih
noncomputable def wrg (τ : Nat → Nat → Int) : Int := ie (placed τ) (wF τ 34 % 5) 1
theorem wrg_rg {τ : Nat → Nat → Int} : 0 ≤ wrg τ ∧ wrg τ ≤ 4 := ie_rg (by have := @wF_rg τ 34; omega) (by decide)
