/-! the two object graphs: their cells out of numbers -/
def u2 (σ : Nat → Nat → Int) (r i : Nat) (v : Int) : Nat → Nat → Int := fun r' => if r' = r then (fun i' => if i' = i then v else σ r i') else σ r'
theorem u2_row {σ : Nat → Nat → Int} {r i r' : Nat} {v : Int} (h : r' ≠ r) : u2 σ r i v r' = σ r' := if_neg h
theorem u2_at {σ : Nat → Nat → Int} {r i : Nat} {v : Int} : u2 σ r i v r i = v := by simp [u2]
theorem u2_ne {σ : Nat → Nat → Int} {r i r' i' : Nat} {v : Int} (h : i' ≠ i) : u2 σ r i v r' i' = σ r' i' := by
  unfold u2
  by_cases hr : r' = r
  · subst hr; simp [h]
  · simp [hr]
theorem u2_up {σ : Nat → Nat → Int} {r i : Nat} {v : Int} : (fun j => iz (u2 σ r i v r j)) = upd (fun j => iz (σ r j)) i (iz v) := by
  funext j
  unfold u2 upd
  by_cases hj : j = i
  · subst hj; simp
  · simp [hj]
/-- the class: 0 the grid, 1 sets, 2 changes, 3 bounds, 4 winds, 5 acts, 6 the word, 7 storms, 8 loads, 9 noises, 10 the word's bytes, 11 on: 16 acts, 27 on: 5 storms. σ: what lasts; κ: scratch; ω: the word (how many letters, the bytes, the builder's flag) -/
def gC (c : Nat → ClassId) (h : Nat → Nat) (σ κ : Nat → Nat → Int) (ω : Nat × (Nat → Int32) × Int32) : Nat → va_E
  | 0 => .inr (6, [.ref (h 1), .int (iz (σ 0 0)), .ref (h 2), .ref (h 3), .ref (h 4), .ref (h 5), .int (iz (σ 0 1)), .ref (h 6), .ref (h 7), .int (iz (σ 0 2)), .ref (h 8), .ref (h 9), .int (iz (κ 2 0)), .int (iz (κ 2 1))])
  | 1 => .inl (c 0, 6, .inl fun i => iz (σ 1 i))
  | 2 => .inl (c 0, 3, .inl fun i => iz (σ 2 i))
  | 3 => .inl (c 0, 3, .inl fun i => iz (σ 3 i))
  | 4 => .inl (c 0, 17, .inl fun i => iz (σ 4 i))
  | 5 => .inl (c 2, 16, .inr (.inr (.inr (.inr fun i => some (h (i + 11))))))
  | 6 => .inr (1, [.ref (h 10), .int 0, .int ω.2.2, .int (nI ω.1)])
  | 7 => .inl (c 3, 5, .inr (.inr (.inr (.inr fun i => some (h (i + 27))))))
  | 8 => .inl (c 0, 3, .inl fun i => iz (κ 0 i))
  | 9 => .inl (c 0, 3, .inl fun i => iz (κ 1 i))
  | 10 => .inl (c 1, 16, .inl ω.2.1)
  | k + 11 => if k < 16 then .inr (4, [.int (iz (σ 7 k)), .int (iz (σ 8 k)), .int (iz (σ 9 k)), .int (iz (σ 10 k)), .int (iz (σ 11 k)), .int (iz (σ 12 k)), .int (iz (σ 13 k)), .int (iz (σ 14 k)), .int (iz (σ 15 k))])
      else .inr (5, [.int (iz (σ 16 (k - 16))), .int (iz (σ 17 (k - 16))), .int (iz (σ 18 (k - 16)))])
/-- the array classes: 0 int, 1 byte, 2 acts, 3 storms, 4 boolean -/
def gT (c : Nat → ClassId) : List (ClassId × FieldType) := [(c 0, .int), (c 1, .byte), (c 2, .object "Festivalgrid$Act"), (c 3, .object "Festivalgrid$Storm")]
/-- the reference: 0 the model, 1 begun, 2 change, 3 bound, 4 wind, 5 stage, 6 start, 7 length, 8 phase, 9 draw, 10 loud, 11 channel, 12 on, 13 where, 14 from, 15 behind, 16 heard -/
def mC (c : Nat → ClassId) (h : Nat → Nat) (τ κ : Nat → Nat → Int) : Nat → va_E
  | 0 => .inr (7, [.int (iz (τ 0 0)), .ref (h 1), .ref (h 2), .ref (h 3), .ref (h 4), .int (iz (τ 0 1)), .ref (h 5), .ref (h 6), .ref (h 7), .ref (h 8), .ref (h 9), .ref (h 10), .ref (h 11), .ref (h 12), .int (iz (τ 0 4)), .int (iz (τ 0 3)), .int (iz (τ 0 2)), .ref (h 13), .ref (h 14), .ref (h 15), .ref (h 16), .int (iz (κ 1 0))])
  | 1 => .inl (c 0, 6, .inl fun i => iz (τ 1 i))
  | 2 => .inl (c 0, 3, .inl fun i => iz (τ 2 i))
  | 3 => .inl (c 0, 3, .inl fun i => iz (τ 3 i))
  | 4 => .inl (c 0, 17, .inl fun i => iz (τ 4 i))
  | 5 => .inl (c 0, 17, .inl fun i => iz (τ 7 i))
  | 6 => .inl (c 0, 17, .inl fun i => iz (τ 8 i))
  | 7 => .inl (c 0, 17, .inl fun i => iz (τ 9 i))
  | 8 => .inl (c 0, 17, .inl fun i => iz (τ 10 i))
  | 9 => .inl (c 0, 17, .inl fun i => iz (τ 11 i))
  | 10 => .inl (c 0, 17, .inl fun i => iz (τ 12 i))
  | 11 => .inl (c 0, 17, .inl fun i => iz (τ 13 i))
  | 12 => .inl (c 4, 17, .inl fun i => iz (τ 14 i))
  | 13 => .inl (c 0, 5, .inl fun i => iz (τ 16 i))
  | 14 => .inl (c 0, 5, .inl fun i => iz (τ 17 i))
  | 15 => .inl (c 0, 5, .inl fun i => iz (τ 18 i))
  | _ => .inl (c 0, 17, .inl fun i => iz (κ 0 i))
section ST
variable {c : Nat → ClassId} {h : Nat → Nat} {σ κ : Nat → Nat → Int} {ω : Nat × (Nat → Int32) × Int32}
theorem gC_act {k : Nat} (hk : k < 16) : gC c h σ κ ω (k + 11) = .inr (4, [.int (iz (σ 7 k)), .int (iz (σ 8 k)), .int (iz (σ 9 k)), .int (iz (σ 10 k)), .int (iz (σ 11 k)), .int (iz (σ 12 k)), .int (iz (σ 13 k)), .int (iz (σ 14 k)), .int (iz (σ 15 k))]) := if_pos hk
theorem gC_storm {k : Nat} : gC c h σ κ ω (k + 27) = .inr (5, [.int (iz (σ 16 k)), .int (iz (σ 17 k)), .int (iz (σ 18 k))]) := by
  have e : gC c h σ κ ω (k + 27) = gC c h σ κ ω ((k + 16) + 11) := rfl
  rw [e]
  simp only [gC]
  rw [if_neg (by omega)]
  simp
/-- a field of an act is written: the other cells stay -/
theorem gC_act_o {k r : Nat} {v : Int} (hr : 7 ≤ r ∧ r ≤ 15) : ∀ i, i < 32 → i ≠ k + 11 → gC c h (u2 σ r k v) κ ω i = gC c h σ κ ω i := by
  have e : ∀ r', r' < 7 ∨ 15 < r' → u2 σ r k v r' = σ r' := fun r' q => u2_row (by omega)
  intro i hi hne
  match i with
  | 0 => simp only [gC, e 0 (by omega)]
  | 1 => simp only [gC, e 1 (by omega)]
  | 2 => simp only [gC, e 2 (by omega)]
  | 3 => simp only [gC, e 3 (by omega)]
  | 4 => simp only [gC, e 4 (by omega)]
  | 5 => rfl
  | 6 => rfl
  | 7 => rfl
  | 8 => rfl
  | 9 => rfl
  | 10 => rfl
  | k' + 11 =>
    have hk' : k' ≠ k := by omega
    simp only [gC, e 16 (by omega), e 17 (by omega), e 18 (by omega), u2_ne hk']
theorem gC_storm_o {k r : Nat} {v : Int} (hr : 16 ≤ r ∧ r ≤ 18) : ∀ i, i < 32 → i ≠ k + 27 → gC c h (u2 σ r k v) κ ω i = gC c h σ κ ω i := by
  have e : ∀ r', r' < 16 → u2 σ r k v r' = σ r' := fun r' q => u2_row (by omega)
  intro i hi hne
  match i with
  | 0 => simp only [gC, e 0 (by omega)]
  | 1 => simp only [gC, e 1 (by omega)]
  | 2 => simp only [gC, e 2 (by omega)]
  | 3 => simp only [gC, e 3 (by omega)]
  | 4 => simp only [gC, e 4 (by omega)]
  | 5 => rfl
  | 6 => rfl
  | 7 => rfl
  | 8 => rfl
  | 9 => rfl
  | 10 => rfl
  | k' + 11 =>
    simp only [gC]
    by_cases h16 : k' < 16
    · simp only [h16, if_true, e 7 (by omega), e 8 (by omega), e 9 (by omega), e 10 (by omega), e 11 (by omega), e 12 (by omega), e 13 (by omega), e 14 (by omega), e 15 (by omega)]
    · have hk' : k' - 16 ≠ k := by omega
      simp only [h16, if_false, u2_ne hk']
/-- a scalar of the grid -/
theorem gC_sc_o {i0 : Nat} {v : Int} : ∀ i, i < 32 → i ≠ 0 → gC c h (u2 σ 0 i0 v) κ ω i = gC c h σ κ ω i := by
  have e : ∀ r', 0 < r' → u2 σ 0 i0 v r' = σ r' := fun r' q => u2_row (by omega)
  intro i hi hne
  match i with
  | 0 => exact absurd rfl hne
  | 1 => simp only [gC, e 1 (by omega)]
  | 2 => simp only [gC, e 2 (by omega)]
  | 3 => simp only [gC, e 3 (by omega)]
  | 4 => simp only [gC, e 4 (by omega)]
  | 5 => rfl
  | 6 => rfl
  | 7 => rfl
  | 8 => rfl
  | 9 => rfl
  | 10 => rfl
  | k' + 11 => simp only [gC, e 7 (by omega), e 8 (by omega), e 9 (by omega), e 10 (by omega), e 11 (by omega), e 12 (by omega), e 13 (by omega), e 14 (by omega), e 15 (by omega), e 16 (by omega), e 17 (by omega), e 18 (by omega)]
/-- a place of one of the rows 1 to 4 -/
theorem gC_row_o {r i0 : Nat} {v : Int} (hr : 1 ≤ r ∧ r ≤ 4) : ∀ i, i < 32 → i ≠ r → gC c h (u2 σ r i0 v) κ ω i = gC c h σ κ ω i := by
  have e : ∀ r', r' ≠ r → u2 σ r i0 v r' = σ r' := fun r' q => u2_row q
  intro i hi hne
  match i with
  | 0 => simp only [gC, e 0 (by omega)]
  | 1 => simp only [gC, e 1 hne]
  | 2 => simp only [gC, e 2 hne]
  | 3 => simp only [gC, e 3 hne]
  | 4 => simp only [gC, e 4 hne]
  | 5 => rfl
  | 6 => rfl
  | 7 => rfl
  | 8 => rfl
  | 9 => rfl
  | 10 => rfl
  | k' + 11 => simp only [gC, e 7 (by omega), e 8 (by omega), e 9 (by omega), e 10 (by omega), e 11 (by omega), e 12 (by omega), e 13 (by omega), e 14 (by omega), e 15 (by omega), e 16 (by omega), e 17 (by omega), e 18 (by omega)]
/-- scratch: the two rows, the two scalars -/
theorem gC_k_o {r i0 : Nat} {v : Int} (hr : r ≤ 1) : ∀ i, i < 32 → i ≠ r + 8 → gC c h σ (u2 κ r i0 v) ω i = gC c h σ κ ω i := by
  have e : ∀ r', r' ≠ r → u2 κ r i0 v r' = κ r' := fun r' q => u2_row q
  intro i hi hne
  match i with
  | 0 => simp only [gC, e 2 (by omega)]
  | 1 => rfl
  | 2 => rfl
  | 3 => rfl
  | 4 => rfl
  | 5 => rfl
  | 6 => rfl
  | 7 => rfl
  | 8 => simp only [gC, e 0 (by omega)]
  | 9 => simp only [gC, e 1 (by omega)]
  | 10 => rfl
  | k' + 11 => rfl
theorem gC_ks_o {i0 : Nat} {v : Int} : ∀ i, i < 32 → i ≠ 0 → gC c h σ (u2 κ 2 i0 v) ω i = gC c h σ κ ω i := by
  have e : ∀ r', r' ≠ 2 → u2 κ 2 i0 v r' = κ r' := fun r' q => u2_row q
  intro i hi hne
  match i with
  | 0 => exact absurd rfl hne
  | 1 => rfl
  | 2 => rfl
  | 3 => rfl
  | 4 => rfl
  | 5 => rfl
  | 6 => rfl
  | 7 => rfl
  | 8 => simp only [gC, e 0 (by omega)]
  | 9 => simp only [gC, e 1 (by omega)]
  | 10 => rfl
  | k' + 11 => rfl
/-- the reference: a place of the row that the cell a holds -/
def mRow : Nat → Nat := fun a => if a ≤ 4 then a else if a ≤ 12 then a + 2 else a + 3
theorem mC_row_o {τ : Nat → Nat → Int} {a i0 : Nat} {v : Int} (ha : 1 ≤ a ∧ a ≤ 15) : ∀ i, i < 17 → i ≠ a → mC c h (u2 τ (mRow a) i0 v) κ i = mC c h τ κ i := by
  have hr : mRow a = if a ≤ 4 then a else if a ≤ 12 then a + 2 else a + 3 := rfl
  have e : ∀ r', r' ≠ mRow a → u2 τ (mRow a) i0 v r' = τ r' := fun r' q => u2_row q
  intro i hi hne
  match i with
  | 0 => simp only [mC, e 0 (by split at hr <;> (try split at hr) <;> omega)]
  | 1 => simp only [mC, e 1 (by split at hr <;> (try split at hr) <;> omega)]
  | 2 => simp only [mC, e 2 (by split at hr <;> (try split at hr) <;> omega)]
  | 3 => simp only [mC, e 3 (by split at hr <;> (try split at hr) <;> omega)]
  | 4 => simp only [mC, e 4 (by split at hr <;> (try split at hr) <;> omega)]
  | 5 => simp only [mC, e 7 (by split at hr <;> (try split at hr) <;> omega)]
  | 6 => simp only [mC, e 8 (by split at hr <;> (try split at hr) <;> omega)]
  | 7 => simp only [mC, e 9 (by split at hr <;> (try split at hr) <;> omega)]
  | 8 => simp only [mC, e 10 (by split at hr <;> (try split at hr) <;> omega)]
  | 9 => simp only [mC, e 11 (by split at hr <;> (try split at hr) <;> omega)]
  | 10 => simp only [mC, e 12 (by split at hr <;> (try split at hr) <;> omega)]
  | 11 => simp only [mC, e 13 (by split at hr <;> (try split at hr) <;> omega)]
  | 12 => simp only [mC, e 14 (by split at hr <;> (try split at hr) <;> omega)]
  | 13 => simp only [mC, e 16 (by split at hr <;> (try split at hr) <;> omega)]
  | 14 => simp only [mC, e 17 (by split at hr <;> (try split at hr) <;> omega)]
  | 15 => simp only [mC, e 18 (by split at hr <;> (try split at hr) <;> omega)]
  | 16 => rfl
  | i9 + 17 => exact absurd hi (by omega)
theorem mC_sc_o {τ : Nat → Nat → Int} {i0 : Nat} {v : Int} : ∀ i, i < 17 → i ≠ 0 → mC c h (u2 τ 0 i0 v) κ i = mC c h τ κ i := by
  have e : ∀ r', 0 < r' → u2 τ 0 i0 v r' = τ r' := fun r' q => u2_row (by omega)
  intro i hi hne
  match i with
  | 0 => exact absurd rfl hne
  | 1 => simp only [mC, e 1 (by omega)]
  | 2 => simp only [mC, e 2 (by omega)]
  | 3 => simp only [mC, e 3 (by omega)]
  | 4 => simp only [mC, e 4 (by omega)]
  | 5 => simp only [mC, e 7 (by omega)]
  | 6 => simp only [mC, e 8 (by omega)]
  | 7 => simp only [mC, e 9 (by omega)]
  | 8 => simp only [mC, e 10 (by omega)]
  | 9 => simp only [mC, e 11 (by omega)]
  | 10 => simp only [mC, e 12 (by omega)]
  | 11 => simp only [mC, e 13 (by omega)]
  | 12 => simp only [mC, e 14 (by omega)]
  | 13 => simp only [mC, e 16 (by omega)]
  | 14 => simp only [mC, e 17 (by omega)]
  | 15 => simp only [mC, e 18 (by omega)]
  | 16 => rfl
  | i9 + 17 => exact absurd hi (by omega)
theorem mC_h_o {τ : Nat → Nat → Int} {i0 : Nat} {v : Int} : ∀ i, i < 17 → i ≠ 16 → mC c h τ (u2 κ 0 i0 v) i = mC c h τ κ i := by
  have e : u2 κ 0 i0 v 1 = κ 1 := u2_row (by omega)
  intro i hi hne
  match i with
  | 0 => simp only [mC, e]
  | 1 => rfl
  | 2 => rfl
  | 3 => rfl
  | 4 => rfl
  | 5 => rfl
  | 6 => rfl
  | 7 => rfl
  | 8 => rfl
  | 9 => rfl
  | 10 => rfl
  | 11 => rfl
  | 12 => rfl
  | 13 => rfl
  | 14 => rfl
  | 15 => rfl
  | 16 => exact absurd rfl hne
  | i9 + 17 => exact absurd hi (by omega)
theorem mC_t_o {τ : Nat → Nat → Int} {i0 : Nat} {v : Int} : ∀ i, i < 17 → i ≠ 0 → mC c h τ (u2 κ 1 i0 v) i = mC c h τ κ i := by
  have e : u2 κ 1 i0 v 0 = κ 0 := u2_row (by omega)
  intro i hi hne
  match i with
  | 0 => exact absurd rfl hne
  | 1 => rfl
  | 2 => rfl
  | 3 => rfl
  | 4 => rfl
  | 5 => rfl
  | 6 => rfl
  | 7 => rfl
  | 8 => rfl
  | 9 => rfl
  | 10 => rfl
  | 11 => rfl
  | 12 => rfl
  | 13 => rfl
  | 14 => rfl
  | 15 => rfl
  | 16 => simp only [mC, e]
  | i9 + 17 => exact absurd hi (by omega)
end ST
