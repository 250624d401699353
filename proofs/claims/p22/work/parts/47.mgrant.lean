def wD (its d : Int) : Int := if its = 0 then d + 20 else if its = 1 then d - 20 else d
def wL (its l : Int) : Int := if its = 2 then l + 5 else if its = 3 then l - 5 else l
def wC (its ch : Int) : Int := if its < 4 then ch else if ch = 31 then -1 else ch + 1
def grT (τ : Nat → Nat → Int) (n : Nat) (its : Int) : Nat → Nat → Int := u2 (u2 (u2 τ 11 n (max 0 (min (wD its (τ 11 n)) 200))) 12 n (max 0 (min (wL its (τ 12 n)) 200))) 13 n (wC its (τ 13 n))
def thG (τ : Nat → Nat → Int) (a : Int) : Int := if 0 ≤ a ∧ a ≤ τ 0 1 - 1 then (if τ 14 a.toNat = 0 then 2 else if wishOf (τ 0 4) < 0 then 2 else 0) else 1
theorem u2_3 {τ : Nat → Nat → Int} {n : Nat} {x y z : Int} : u2 (u2 (u2 (u2 (u2 (u2 τ 11 n x) 12 n y) 13 n z) 11 n (τ 11 n)) 12 n (τ 12 n)) 13 n (τ 13 n) = τ := by
  funext r i
  unfold u2
  by_cases h1 : r = 13
  · subst h1
    by_cases h : i = n
    · subst h; simp
    · simp [h]
  · by_cases h2 : r = 12
    · subst h2
      by_cases h : i = n
      · subst h; simp
      · simp [h]
    · by_cases h3 : r = 11
      · subst h3
        by_cases h : i = n
        · subst h; simp
        · simp [h]
      · simp [h1, h2, h3]
