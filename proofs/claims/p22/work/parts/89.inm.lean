/-! the reference's constructor -/
def nrf (h : Nat → Nat) (n k : Nat) : Value := if k < n then .ref (h k) else .null
/-- the model while its rows are made: those at places before n are there -/
def mFl (h : Nat → Nat) (n : Nat) : List Value := [.int 0, nrf h n 1, nrf h n 2, nrf h n 3, nrf h n 4, .int 0, nrf h n 5, nrf h n 6, nrf h n 7, nrf h n 8, nrf h n 9, nrf h n 10, nrf h n 11, nrf h n 12, .int 0, .int 0, .int 0, nrf h n 13, nrf h n 14, nrf h n 15, nrf h n 16, .int 0]
def mAr (c : Nat → ClassId) : Nat → va_E
  | 1 => .inl (c 0, 6, .inl fun _ => 0)
  | 2 => .inl (c 0, 3, .inl fun _ => 0)
  | 3 => .inl (c 0, 3, .inl fun _ => 0)
  | 4 => .inl (c 0, 17, .inl fun _ => 0)
  | 5 => .inl (c 0, 17, .inl fun _ => 0)
  | 6 => .inl (c 0, 17, .inl fun _ => 0)
  | 7 => .inl (c 0, 17, .inl fun _ => 0)
  | 8 => .inl (c 0, 17, .inl fun _ => 0)
  | 9 => .inl (c 0, 17, .inl fun _ => 0)
  | 10 => .inl (c 0, 17, .inl fun _ => 0)
  | 11 => .inl (c 0, 17, .inl fun _ => 0)
  | 12 => .inl (c 4, 17, .inl fun _ => 0)
  | 13 => .inl (c 0, 5, .inl fun _ => 0)
  | 14 => .inl (c 0, 5, .inl fun _ => 0)
  | 15 => .inl (c 0, 5, .inl fun _ => 0)
  | _ => .inl (c 0, 17, .inl fun _ => 0)
def gM (c : Nat → ClassId) (h : Nat → Nat) (n : Nat) : Nat → va_E := fun k => if k = 0 then .inr (7, mFl h n) else mAr c k
theorem gM_0 {c : Nat → ClassId} {h : Nat → Nat} {n : Nat} : gM c h n 0 = .inr (7, mFl h n) := if_pos rfl
theorem gM_ne {c : Nat → ClassId} {h : Nat → Nat} {n k : Nat} (hk : k ≠ 0) : gM c h n k = mAr c k := if_neg hk
/-- the reference at its beginning -/
def tau0 : Nat → Nat → Int := fun r _ => if r = 3 then 60 else 0
def kap0 : Nat → Nat → Int := fun _ _ => 0
theorem GI_tau0 : GI tau0 := by
  refine ⟨by decide, by decide, by decide, fun r i h => ?_⟩
  unfold tau0 GR
  split <;> simp_all
