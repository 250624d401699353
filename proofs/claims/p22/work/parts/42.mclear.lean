theorem spL_get {τ : Nat → Nat → Int} {mi : Int} {i j : Nat} (h : j < (spL τ mi i).length) : (spL τ mi (i + 1)).getD j 0 = (spL τ mi i).getD j 0 := by
  rcases Classical.em (spk τ mi i) with q | q
  · rw [spL_t q]; simp [List.getD_eq_getElem?_getD, List.getElem?_append_left h]
  · rw [spL_f q]
theorem spH_rg {τ : Nat → Nat → Int} (hG : GI τ) (mi : Int) (j : Nat) : -1 ≤ spH τ mi j ∧ spH τ mi j ≤ 31 := GI_13 hG _
theorem spL_last {τ : Nat → Nat → Int} {mi : Int} {i : Nat} (q : spk τ mi i) : (spL τ mi (i + 1)).getD (spL τ mi i).length 0 = i := by
  rw [spL_t q]; simp [List.getD_eq_getElem?_getD]
