def MF (τ : Nat → Nat → Int) (k : Nat) (fr z : Int) : Prop := (z = -1 ∧ ∀ sx, fr ≤ sx → sx + τ 9 k ≤ 1000 → wrg (u2 τ 8 k sx) ≠ 0) ∨ (fr ≤ z ∧ z + τ 9 k ≤ 1000 ∧ wrg (u2 τ 8 k z) = 0 ∧ ∀ sx, fr ≤ sx → sx < z → wrg (u2 τ 8 k sx) ≠ 0)
theorem u2_upc {σ : Nat → Nat → Int} {r i : Nat} {x y : Int} : (fun j => iz (u2 σ r i y r j)) = upd (fun j => iz (u2 σ r i x r j)) i (iz y) := by
  funext j
  unfold u2 upd
  by_cases hj : j = i
  · subst hj; simp
  · simp [hj]
def MFi (τ : Nat → Nat → Int) (k : Nat) (fr mj f : Int) : Prop := (f = -1 ∧ ∀ sx, fr ≤ sx → sx < mj → sx + τ 9 k ≤ 1000 → wrg (u2 τ 8 k sx) ≠ 0) ∨ (fr ≤ f ∧ mj = f + 1 ∧ f + τ 9 k ≤ 1000 ∧ wrg (u2 τ 8 k f) = 0 ∧ ∀ sx, fr ≤ sx → sx < f → wrg (u2 τ 8 k sx) ≠ 0)
/-- an act is laid at the first free number -/
def lay (τ : Nat → Nat → Int) (n : Nat) (sg sa ln ph dr lo ch : Int) : Nat → Nat → Int := u2 (u2 (u2 (u2 (u2 (u2 (u2 (u2 τ 7 n sg) 8 n sa) 9 n ln) 10 n ph) 11 n dr) 12 n lo) 13 n ch) 14 n 1
def inA (sa ln dr lo ch : Int) : Prop := (0 ≤ sa ∧ sa ≤ 999) ∧ (1 ≤ ln ∧ ln ≤ 200) ∧ (0 ≤ dr ∧ dr ≤ 200) ∧ (0 ≤ lo ∧ lo ≤ 200) ∧ (-1 ≤ ch ∧ ch ≤ 31)
def thL (τ : Nat → Nat → Int) (sg sa ln ph dr lo ch : Int) : Int := if (0 ≤ sg ∧ sg ≤ 2) ∧ (0 ≤ ph ∧ ph ≤ 2) then (if (0 ≤ sa ∧ sa ≤ 999) ∧ (1 ≤ ln ∧ ln ≤ 200) ∧ (0 ≤ dr ∧ dr ≤ 200) ∧ (0 ≤ lo ∧ lo ≤ 200) ∧ (-1 ≤ ch ∧ ch ≤ 31) then (if τ 0 1 = 16 then 3 else 0) else 2) else 1
def ML (τ : Nat → Nat → Int) (thr : Int) (τ1 : Nat → Nat → Int) (z : Int) (τ' : Nat → Nat → Int) (t : Int) : Prop := t = thr ∧ ((0 < thr ∧ z = 0 ∧ τ' = τ) ∨ (thr = 0 ∧ z = wrg τ1 ∧ τ' = u2 τ1 14 (τ 0 1).toNat 0)) ∧ GI τ'
def MPl (τ : Nat → Nat → Int) (thr : Int) (τ1 : Nat → Nat → Int) (z : Int) (τ' : Nat → Nat → Int) (t : Int) : Prop := t = thr ∧ ((0 < thr ∧ z = 0 ∧ τ' = τ) ∨ (thr = 0 ∧ ((wrg τ1 ≠ 0 ∧ z = -1 ∧ τ' = u2 τ1 14 (τ 0 1).toNat 0) ∨ (wrg τ1 = 0 ∧ z = τ 0 1 ∧ τ' = u2 (u2 τ1 14 (τ 0 1).toNat 1) 0 1 (τ 0 1 + 1))))) ∧ GI τ'
