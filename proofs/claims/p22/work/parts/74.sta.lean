/-! both sides change alike; first starts -/
section S
variable {σ τ β : Nat → Nat → Int} {k : Nat}
theorem rel_row {r i : Nat} {v : Int} (h : Rel σ τ) (hr : r = 1 ∨ r = 2 ∨ r = 3 ∨ r = 4 ∨ r = 7 ∨ (9 ≤ r ∧ r ≤ 13)) : Rel (u2 σ r i v) (u2 τ r i v) := by
  have e : ∀ {σ : Nat → Nat → Int} (r' : Nat), r' ≠ r → u2 σ r i v r' = σ r' := fun r' q => u2_row q
  refine ⟨fun r' hr' => ?_, ?_, ?_, ?_, ?_, ?_, ?_⟩
  · rcases Classical.em (r' = r) with q | q
    · subst q
      funext j
      rcases Classical.em (j = i) with w | w
      · rw [w, u2_at, u2_at]
      · rw [u2_ne w, u2_ne w, h.1 r' hr']
    · rw [e r' q, e r' q, h.1 r' hr']
  · rw [e 14 (by omega), e 14 (by omega)]; exact h.2.1
  · rw [e 14 (by omega)]; exact h.2.2.1
  · rw [e 14 (by omega), e 8 (by omega), e 8 (by omega)]; exact h.2.2.2.1
  · rw [e 0 (by omega), e 0 (by omega)]; exact h.2.2.2.2.1
  · rw [e 0 (by omega), e 16 (by omega), e 16 (by omega), e 17 (by omega), e 17 (by omega), e 18 (by omega), e 18 (by omega)]; exact h.2.2.2.2.2.1
  · rw [e 0 (by omega), e 16 (by omega)]; exact h.2.2.2.2.2.2
theorem rel_8 {i : Nat} {v : Int} (h : Rel σ τ) : Rel (u2 σ 8 i v) (u2 τ 8 i v) := by
  have e : ∀ {σ : Nat → Nat → Int} (r' : Nat), r' ≠ 8 → u2 σ 8 i v r' = σ r' := fun r' q => u2_row q
  refine ⟨fun r' hr' => ?_, ?_, ?_, fun k hk ho => ?_, ?_, ?_, ?_⟩
  · rw [e r' (by omega), e r' (by omega), h.1 r' hr']
  · rw [e 14 (by omega), e 14 (by omega)]; exact h.2.1
  · rw [e 14 (by omega)]; exact h.2.2.1
  · rw [e 14 (by omega)] at ho
    rcases Classical.em (k = i) with w | w
    · rw [w, u2_at, u2_at]
    · rw [u2_ne w, u2_ne w, h.2.2.2.1 k hk ho]
  · rw [e 0 (by omega), e 0 (by omega)]; exact h.2.2.2.2.1
  · rw [e 0 (by omega), e 16 (by omega), e 16 (by omega), e 17 (by omega), e 17 (by omega), e 18 (by omega), e 18 (by omega)]; exact h.2.2.2.2.2.1
  · rw [e 0 (by omega), e 16 (by omega)]; exact h.2.2.2.2.2.2
/-- the class's start of an act that isn't planned doesn't matter -/
theorem rel_8c {i : Nat} {v : Int} (h : Rel σ τ) (ho : i < 16 → σ 14 i = 0) : Rel (u2 σ 8 i v) τ := by
  have e : ∀ (r' : Nat), r' ≠ 8 → u2 σ 8 i v r' = σ r' := fun r' q => u2_row q
  refine ⟨fun r' hr' => ?_, ?_, h.2.2.1, fun k hk hk2 => ?_, ?_, ?_, ?_⟩
  · rw [e r' (by omega), h.1 r' hr']
  · rw [e 14 (by omega)]; exact h.2.1
  · rw [e 14 (by omega)] at hk2
    have w : k ≠ i := fun z => hk2 (by rw [z]; exact ho (z ▸ hk))
    rw [u2_ne w, h.2.2.2.1 k hk hk2]
  · rw [e 0 (by omega)]; exact h.2.2.2.2.1
  · rw [e 0 (by omega), e 16 (by omega), e 17 (by omega), e 18 (by omega)]; exact h.2.2.2.2.2.1
  · rw [e 0 (by omega), e 16 (by omega)]; exact h.2.2.2.2.2.2
theorem rel_14 {i : Nat} {v : Int} (h : Rel σ τ) (hi : i < 16) (hv : v ≠ 0 → σ 8 i = τ 8 i) : Rel (u2 σ 14 i v) (u2 τ 14 i v) := by
  have e : ∀ {σ : Nat → Nat → Int} (r' : Nat), r' ≠ 14 → u2 σ 14 i v r' = σ r' := fun r' q => u2_row q
  refine ⟨fun r' hr' => ?_, fun k hk => ?_, ?_, fun k hk ho => ?_, ?_, ?_, ?_⟩
  · rw [e r' (by omega), e r' (by omega), h.1 r' hr']
  · rcases Classical.em (k = i) with w | w
    · rw [w, u2_at, u2_at]
    · rw [u2_ne w, u2_ne w, h.2.1 k hk]
  · rw [u2_ne (by omega)]; exact h.2.2.1
  · rw [e 8 (by omega), e 8 (by omega)]
    rcases Classical.em (k = i) with w | w
    · rw [w, u2_at] at ho
      rw [w]; exact hv ho
    · rw [u2_ne w] at ho
      exact h.2.2.2.1 k hk ho
  · rw [e 0 (by omega), e 0 (by omega)]; exact h.2.2.2.2.1
  · rw [e 0 (by omega), e 16 (by omega), e 16 (by omega), e 17 (by omega), e 17 (by omega), e 18 (by omega), e 18 (by omega)]; exact h.2.2.2.2.2.1
  · rw [e 0 (by omega), e 16 (by omega)]; exact h.2.2.2.2.2.2
/-- who waits is the class's own -/
theorem rel_15 {i : Nat} {v : Int} (h : Rel σ τ) : Rel (u2 σ 15 i v) τ := by
  have e : ∀ (r' : Nat), r' ≠ 15 → u2 σ 15 i v r' = σ r' := fun r' q => u2_row q
  refine ⟨fun r' hr' => ?_, ?_, h.2.2.1, ?_, ?_, ?_, ?_⟩
  · rw [e r' (by omega), h.1 r' hr']
  · rw [e 14 (by omega)]; exact h.2.1
  · rw [e 14 (by omega), e 8 (by omega)]; exact h.2.2.2.1
  · rw [e 0 (by omega)]; exact h.2.2.2.2.1
  · rw [e 0 (by omega), e 16 (by omega), e 17 (by omega), e 18 (by omega)]; exact h.2.2.2.2.2.1
  · rw [e 0 (by omega), e 16 (by omega)]; exact h.2.2.2.2.2.2
theorem rel_00 {v : Int} (h : Rel σ τ) : Rel (u2 σ 0 0 v) (u2 τ 0 0 v) := by
  have e : ∀ {σ : Nat → Nat → Int} (r' : Nat), r' ≠ 0 → u2 σ 0 0 v r' = σ r' := fun r' q => u2_row q
  have e1 : ∀ {σ : Nat → Nat → Int} (j : Nat), j ≠ 0 → u2 σ 0 0 v 0 j = σ 0 j := fun r' q => u2_ne q
  refine ⟨fun r' hr' => ?_, ?_, ?_, ?_, ?_, ?_, ?_⟩
  · rw [e r' (by omega), e r' (by omega), h.1 r' hr']
  · rw [e 14 (by omega), e 14 (by omega)]; exact h.2.1
  · rw [e 14 (by omega)]; exact h.2.2.1
  · rw [e 14 (by omega), e 8 (by omega), e 8 (by omega)]; exact h.2.2.2.1
  · rw [u2_at, u2_at, e1 1 (by omega), e1 1 (by omega), e1 2 (by omega), e1 2 (by omega)]
    exact ⟨rfl, h.2.2.2.2.1.2⟩
  · rw [e1 2 (by omega), e 16 (by omega), e 16 (by omega), e 17 (by omega), e 17 (by omega), e 18 (by omega), e 18 (by omega)]; exact h.2.2.2.2.2.1
  · rw [e1 2 (by omega), e 16 (by omega)]; exact h.2.2.2.2.2.2
theorem rel_01 {v : Int} (h : Rel σ τ) : Rel (u2 σ 0 1 v) (u2 τ 0 1 v) := by
  have e : ∀ {σ : Nat → Nat → Int} (r' : Nat), r' ≠ 0 → u2 σ 0 1 v r' = σ r' := fun r' q => u2_row q
  have e1 : ∀ {σ : Nat → Nat → Int} (j : Nat), j ≠ 1 → u2 σ 0 1 v 0 j = σ 0 j := fun r' q => u2_ne q
  refine ⟨fun r' hr' => ?_, ?_, ?_, ?_, ?_, ?_, ?_⟩
  · rw [e r' (by omega), e r' (by omega), h.1 r' hr']
  · rw [e 14 (by omega), e 14 (by omega)]; exact h.2.1
  · rw [e 14 (by omega)]; exact h.2.2.1
  · rw [e 14 (by omega), e 8 (by omega), e 8 (by omega)]; exact h.2.2.2.1
  · rw [u2_at, u2_at, e1 0 (by omega), e1 0 (by omega), e1 2 (by omega), e1 2 (by omega)]
    exact ⟨h.2.2.2.2.1.1, rfl, h.2.2.2.2.1.2.2⟩
  · rw [e1 2 (by omega), e 16 (by omega), e 16 (by omega), e 17 (by omega), e 17 (by omega), e 18 (by omega), e 18 (by omega)]; exact h.2.2.2.2.2.1
  · rw [e1 2 (by omega), e 16 (by omega)]; exact h.2.2.2.2.2.2
/-- the reference's word and letters are no part of it -/
theorem rel_0w {i : Nat} {v : Int} (h : Rel σ τ) (hi : 3 ≤ i) : Rel σ (u2 τ 0 i v) := by
  have e : ∀ (r' : Nat), r' ≠ 0 → u2 τ 0 i v r' = τ r' := fun r' q => u2_row q
  have e1 : ∀ (j : Nat), j ≠ i → u2 τ 0 i v 0 j = τ 0 j := fun r' q => u2_ne q
  refine ⟨fun r' hr' => ?_, ?_, ?_, ?_, ?_, ?_, h.2.2.2.2.2.2⟩
  · rw [e r' (by omega), h.1 r' hr']
  · rw [e 14 (by omega)]; exact h.2.1
  · rw [e 14 (by omega)]; exact h.2.2.1
  · rw [e 8 (by omega)]; exact h.2.2.2.1
  · rw [e1 0 (by omega), e1 1 (by omega), e1 2 (by omega)]; exact h.2.2.2.2.1
  · rw [e 16 (by omega), e 17 (by omega), e 18 (by omega)]; exact h.2.2.2.2.2.1
theorem len_up {r i : Nat} {v : Int} (h : Len σ) (hr : r ≠ 9) (h14 : r = 14 → v ≠ 0 → i < 16 → 1 ≤ σ 9 i) : Len (u2 σ r i v) := by
  intro k hk ho
  rw [u2_row (fun e => hr e.symm)]
  rcases Classical.em (14 = r) with e | e
  · subst e
    rcases Classical.em (k = i) with w | w
    · rw [w, u2_at] at ho; rw [w]; exact h14 rfl ho (w ▸ hk)
    · rw [u2_ne w] at ho; exact h k hk ho
  · rw [u2_row e] at ho; exact h k hk ho
theorem okS_iff {sx : Int} (hO : Oth β σ k) (hk : k < 16) (hGb : GI β) (hFb : Fine β) (hG : GI σ) (ho : σ 14 k ≠ 0) (hl : 1 ≤ σ 9 k) (h1 : 0 ≤ sx) (h2 : sx + σ 9 k ≤ 1000) : okS σ k sx ↔ wS (u2 σ 8 k sx) = 0 := by
  have hGx : ∀ x, 0 ≤ x → x ≤ 999 → GI (u2 σ 8 k x) := fun x a b => GI_u8 hG ⟨a, b⟩
  have hO1 : Oth β (u2 σ 8 k sx) k := hO.up (by decide)
  have e : ∀ {x : Int} (r : Nat), r ≠ 8 → u2 σ 8 k x r = σ r := fun r q => u2_row q
  rw [bby_oth hO1 hk hGb (hGx sx h1 (by omega)) (by rw [e 14 (by decide)]; exact ho) hFb]
  unfold okS bby
  rcases Classical.em (fits' (u2 σ 8 k sx) k) with z | z
  · rw [ie_t z, bw_0, u2_at, e 9 (by decide)]
    have same : ∀ m, sx ≤ m → m < sx + σ 9 k → ∀ a b, (a = m ∧ b = sx ∨ a = sx ∧ b = m) → pt (u2 σ 8 k a) m = 0 → pt (u2 σ 8 k b) m = 0 := by
      intro m m1 m2 a b hab
      refine pt_mono0 (e := m) (fun j hj hp => ?_) (hGx b (by omega) (by omega)) (hGx a (by omega) (by omega)) ?_ ?_ (fun hs _ => ?_)
      · refine ⟨?_, by rw [e 7 (by decide), e 7 (by decide)], by rw [e 10 (by decide), e 10 (by decide)], by rw [e 11 (by decide), e 11 (by decide)], by rw [e 12 (by decide), e 12 (by decide)], by rw [e 13 (by decide), e 13 (by decide)]⟩
        unfold pl at hp ⊢
        rw [e 14 (by decide), e 9 (by decide)] at hp ⊢
        rcases Classical.em (j = k) with w | w
        · subst w
          rw [u2_at] at hp ⊢
          exact ⟨hp.1, by omega, by omega⟩
        · rw [u2_ne w] at hp ⊢
          exact hp
      · have : ∀ n, stN (u2 σ 8 k a) m n = stN (u2 σ 8 k b) m n := fun n => by
          induction n with
          | zero => rfl
          | succ n ih => simp only [stN]; rw [ih, e 1 (by decide), e 1 (by decide)]
        rw [this, e 0 (by decide), e 0 (by decide)]
        exact Int.le_refl _
      · unfold wd; rw [e 4 (by decide), e 4 (by decide)]
      · rw [e 3 (by decide), e 3 (by decide)]; exact Int.le_refl _
    constructor
    · intro q m m1 m2
      exact same m m1 m2 m sx (Or.inl ⟨rfl, rfl⟩) (q.1 m m1 m2)
    · intro q
      exact ⟨fun m m1 m2 => same m m1 m2 sx m (Or.inr ⟨rfl, rfl⟩) (q m m1 m2), z⟩
  · rw [ie_f z]
    exact ⟨fun q => absurd q.2 z, fun q => by omega⟩
/-- both find the same first start -/
theorem first_eq {fr z z' : Int} {σ9 : Nat → Nat → Int} (hR : Rel σ τ) (hO : Oth β σ k) (hk : k < 16) (hGb : GI β) (hFb : Fine β) (hG : GI σ) (hL : Len σ) (ho : σ 14 k ≠ 0) (hfr : 0 ≤ fr) (hf : FFS σ k fr z σ9) (hm : MF τ k fr z') : z = z' ∧ (z ≠ -1 → 0 ≤ z ∧ z + σ 9 k ≤ 1000 ∧ σ9 = u2 σ 8 k z ∧ Fine (u2 σ 8 k z)) := by
  have hl := hL k hk ho
  have key : ∀ sx, 0 ≤ sx → sx + σ 9 k ≤ 1000 → (okS σ k sx ↔ wrg (u2 τ 8 k sx) = 0) := fun sx a b => by
    rw [okS_iff hO hk hGb hFb hG ho hl a b, wrg_rel (rel_8 hR) (GI_u8 hG ⟨a, by omega⟩) (len_up hL (by decide) (fun q => absurd q (by decide)))]
  unfold MF at hm
  rw [← R_9 hR] at hm
  obtain ⟨_, hf⟩ := hf
  have pos : z ≠ -1 → 0 ≤ z ∧ z + σ 9 k ≤ 1000 ∧ σ9 = u2 σ 8 k z ∧ Fine (u2 σ 8 k z) := by
    intro q
    rcases hf with f | ⟨f1, f2, f3, f4, f5⟩
    · exact absurd f.1 q
    · exact ⟨by omega, f2, f4, wS_0.mp ((okS_iff hO hk hGb hFb hG ho hl (by omega) f2).mp f3)⟩
  refine ⟨?_, pos⟩
  rcases hf with ⟨f1, f2⟩ | ⟨f1, f2, f3, f4, f5⟩ <;> rcases hm with ⟨m1, m2⟩ | ⟨m1, m2, m3, m4⟩
  · omega
  · exact absurd ((key z' (by omega) m2).mpr m3) (f2 z' m1 m2)
  · exact absurd ((key z (by omega) f2).mp f3) (m2 z f1 f2)
  · rcases Int.lt_trichotomy z z' with y | y | y
    · exact absurd ((key z (by omega) f2).mp f3) (m4 z f1 y)
    · exact y
    · exact absurd ((key z' (by omega) m2).mpr m3) (f5 z' m1 y)
end S
