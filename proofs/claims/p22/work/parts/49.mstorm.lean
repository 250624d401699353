theorem stT_row {τ : Nat → Nat → Int} {sg mi en : Int} {r : Nat} (h : r ≠ 0 ∧ r ≠ 16 ∧ r ≠ 17 ∧ r ≠ 18) : stT τ sg mi en r = τ r := by
  unfold stT
  rw [u2_row h.1, u2_row h.2.2.2, u2_row h.2.2.1, u2_row h.2.1]
theorem on_s {τ τ1 : Nat → Nat → Int} {i : Nat} {x : Int} {P : Nat → Prop} (hon : ∀ k : Nat, τ1 14 k = ie (k < i ∧ P k) 0 (τ 14 k)) (hx : x = ie (P i) 0 (τ 14 i)) : ∀ k : Nat, u2 τ1 14 i x 14 k = ie (k < i + 1 ∧ P k) 0 (τ 14 k) := by
  intro k
  by_cases hk : k = i
  · subst hk
    rw [u2_at, hx]
    rcases Classical.em (P k) with q | q
    · rw [ie_t q, ie_t ⟨by omega, q⟩]
    · rw [ie_f q, ie_f (fun z => q z.2)]
  · have e : u2 τ1 14 i x 14 k = τ1 14 k := by simp [u2, hk]
    rw [e, hon k]
    rcases Classical.em (k < i ∧ P k) with q | q
    · rw [ie_t q, ie_t ⟨by omega, q.2⟩]
    · rw [ie_f q, ie_f (fun z => q ⟨by omega, z.2⟩)]
theorem bt_s1 {st : Int} {i : Nat} {P : Nat → Prop} (hb : ∀ k, k < 32 → (bt st k ↔ (k < i ∧ P k))) (hi : i < 32) (hp : P i) : ∀ k, k < 32 → (bt (ior st (ish 1 i)) k ↔ (k < i + 1 ∧ P k)) := fun k hk => by
  rw [bt_or_one hi hk, hb k hk]
  constructor
  · rintro (q | rfl)
    · exact ⟨by omega, q.2⟩
    · exact ⟨by omega, hp⟩
  · intro q
    rcases Nat.lt_or_ge k i with z | z
    · exact Or.inl ⟨z, q.2⟩
    · exact Or.inr (by omega)
theorem bt_s0 {st : Int} {i : Nat} {P : Nat → Prop} (hb : ∀ k, k < 32 → (bt st k ↔ (k < i ∧ P k))) (hp : ¬ P i) : ∀ k, k < 32 → (bt (ior st 0) k ↔ (k < i + 1 ∧ P k)) := fun k hk => by
  rw [bt_or_0, hb k hk]
  constructor
  · exact fun q => ⟨by omega, q.2⟩
  · intro q
    rcases Nat.lt_or_ge k i with z | z
    · exact ⟨z, q.2⟩
    · exact absurd q.2 (by rw [show k = i by omega]; exact hp)
theorem ie_iff {P P' : Prop} {a b : Int} (h : P ↔ P') : ie P a b = ie P' a b := by rw [propext h]
