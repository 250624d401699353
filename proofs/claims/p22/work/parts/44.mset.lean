theorem GI_u0x {σ : Nat → Nat → Int} {v : Int} {i : Nat} (hG : GI σ) (hi : 3 ≤ i) : GI (u2 σ 0 i v) := by
  have e : ∀ r', 1 ≤ r' → u2 σ 0 i v r' = σ r' := fun r' h => u2_row (by omega)
  exact ⟨by rw [u2_ne (by omega)]; exact hG.1, by rw [u2_ne (by omega)]; exact hG.2.1, by rw [u2_ne (by omega)]; exact hG.2.2.1, fun r i h => by rw [e r h]; exact hG.2.2.2 r i h⟩
theorem GI_u03 {σ : Nat → Nat → Int} {v : Int} (hG : GI σ) (h : True) : GI (u2 σ 0 3 v) := GI_u0x hG (by decide)
theorem GI_u04 {σ : Nat → Nat → Int} {v : Int} (hG : GI σ) (h : True) : GI (u2 σ 0 4 v) := GI_u0x hG (by decide)
/-- what a call of the reference that tries a change leaves: the thrown number, the answer, the state -/
def MS (τ : Nat → Nat → Int) (thr : Int) (τ1 : Nat → Nat → Int) (z : Int) (τ' : Nat → Nat → Int) (t : Int) : Prop := t = thr ∧ ((0 < thr ∧ z = 0 ∧ τ' = τ) ∨ (thr = 0 ∧ ((wrg τ1 = 0 ∧ z = 1 ∧ τ' = τ1) ∨ (wrg τ1 ≠ 0 ∧ z = 0 ∧ τ' = τ)))) ∧ GI τ'
def thC (sg mi : Int) : Int := if 0 ≤ sg ∧ sg ≤ 2 then (if 0 ≤ mi ∧ mi ≤ 60 then 0 else 2) else 1
def thB (hs bd : Int) : Int := if 0 ≤ hs ∧ hs ≤ 2 then (if 10 ≤ bd ∧ bd ≤ 300 then 0 else 2) else 1
def thW (hr wn : Int) : Int := if 0 ≤ hr ∧ hr ≤ 16 then (if -10 ≤ wn ∧ wn ≤ 10 then 0 else 2) else 1
def thS (τ : Nat → Nat → Int) (mi : Int) : Int := if 0 ≤ mi ∧ mi ≤ 999 then (if τ 0 0 = 6 then 2 else 0) else 1
def isA (τ : Nat → Nat → Int) (a : Int) : Prop := 0 ≤ a ∧ a ≤ τ 0 1 - 1
def thM (τ : Nat → Nat → Int) (a mi : Int) : Int := if 0 ≤ a ∧ a ≤ τ 0 1 - 1 then (if 0 ≤ mi ∧ mi ≤ 999 then (if τ 14 a.toNat = 0 then 3 else 0) else 2) else 1
def thD (τ : Nat → Nat → Int) (a : Int) : Int := if 0 ≤ a ∧ a ≤ τ 0 1 - 1 then (if τ 14 a.toNat = 0 then 2 else 0) else 1
def th1 (τ : Nat → Nat → Int) (a : Int) : Int := if 0 ≤ a ∧ a ≤ τ 0 1 - 1 then 0 else 1
/-- a set is started: the answer, the state -/
def MSet (τ : Nat → Nat → Int) (mi z : Int) (τ' : Nat → Nat → Int) (t : Int) : Prop := t = thS τ mi ∧ ((0 < thS τ mi ∧ z = 0 ∧ τ' = τ) ∨ (thS τ mi = 0 ∧ (((∃ k, k < (τ 0 0).toNat ∧ -9 ≤ mi - τ 1 k ∧ mi - τ 1 k ≤ 9) ∧ z = -1 ∧ τ' = τ) ∨ ((∀ k, k < (τ 0 0).toNat → ¬ (-9 ≤ mi - τ 1 k ∧ mi - τ 1 k ≤ 9)) ∧ z = τ 0 0 + 1 ∧ τ' = u2 (u2 τ 1 (τ 0 0).toNat mi) 0 0 (τ 0 0 + 1))))) ∧ GI τ'
