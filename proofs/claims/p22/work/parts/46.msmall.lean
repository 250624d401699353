def thP (ph mi : Int) : Int := if 0 ≤ ph ∧ ph ≤ 2 then (if 0 ≤ mi ∧ mi ≤ 999 then 0 else 2) else 1
def thK (mi : Int) : Int := if 0 ≤ mi ∧ mi ≤ 999 then 0 else 1
def thO (τ : Nat → Nat → Int) (a wh : Int) : Int := if (0 ≤ a ∧ a ≤ τ 0 1 - 1) ∧ (0 ≤ wh ∧ wh ≤ 2) then 0 else 1
def thT (τ : Nat → Nat → Int) (ch : Int) : Int := if 97 ≤ ch ∧ ch ≤ 122 then (if τ 0 3 = 6 then 2 else 0) else 1
noncomputable def chM (τ : Nat → Nat → Int) (mi : Int) : Nat → Int
  | 0 => 0
  | i + 1 => ior (chM τ mi i) (ic (spk τ mi i) (ish 1 (τ 13 i)))
theorem chM_rg {τ : Nat → Nat → Int} {mi : Int} (i : Nat) : -2147483648 ≤ chM τ mi i ∧ chM τ mi i ≤ 2147483647 := by
  cases i with
  | zero => exact ⟨by simp [chM], by simp [chM]⟩
  | succ i => exact ti_rg _
def f4 (a b c d : Int) : Int := 27 * (27 * (27 * (a - 96) + b - 96) + c - 96) + d - 96
def sptl (a b c d e : Int) : Int := if e < 97 then f4 a b c d else 27 * f4 a b c d + e - 96

def wishOf (w : Int) : Int := if w = 6559778 then 0 else if w = 79958 then 1 else if w = 247702 then 2 else if w = 385094 then 3 else if w = 990 then 4 else -1
theorem wishOf_rg (w : Int) : -1 ≤ wishOf w ∧ wishOf w ≤ 4 := by unfold wishOf; (repeat' split) <;> omega
