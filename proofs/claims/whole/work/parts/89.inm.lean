/-! the reference's constructor -/
def nrf (h : Nat → Nat) (n k : Nat) : Value := if k < n then .ref (h k) else .null
/-- the model while its rows are made: those at places before n are there -/
def mFl (h : Nat → Nat) (n : Nat) : List Value := [.int 0, nrf h n 1, nrf h n 2, nrf h n 3, nrf h n 4, .int 0, nrf h n 5, nrf h n 6, nrf h n 7, nrf h n 8, nrf h n 9, nrf h n 10, nrf h n 11, nrf h n 12, .int 0, .int 0, .int 0, nrf h n 13, nrf h n 14, nrf h n 15, nrf h n 16, .int 0]
def mAr (c : Nat → ClassId) : Nat → va_E
  | 1 => .inl (c 0, 6, .inl fun _ => 0)
  | 2 => .inl (c 0, 3, .inl fun _ => 0)
  | 3 => .inl (c 0, 3, .inl fun _ => 0)
  | 4 => .inl (c 0, 17, .inl fun _ => 0)
  | 5 => .inl (c 0, 17, .inl fun _ => 0)
  | 6 => .inl (c 0, 17, .inl fun _ => 0)
  | 7 => .inl (c 0, 17, .inl fun _ => 0)
  | 8 => .inl (c 0, 17, .inl fun _ => 0)
  | 9 => .inl (c 0, 17, .inl fun _ => 0)
  | 10 => .inl (c 0, 17, .inl fun _ => 0)
  | 11 => .inl (c 0, 17, .inl fun _ => 0)
  | 12 => .inl (c 4, 17, .inl fun _ => 0)
  | 13 => .inl (c 0, 5, .inl fun _ => 0)
  | 14 => .inl (c 0, 5, .inl fun _ => 0)
  | 15 => .inl (c 0, 5, .inl fun _ => 0)
  | _ => .inl (c 0, 17, .inl fun _ => 0)
def gM (c : Nat → ClassId) (h : Nat → Nat) (n : Nat) : Nat → va_E := fun k => if k = 0 then .inr (7, mFl h n) else mAr c k
theorem gM_0 {c : Nat → ClassId} {h : Nat → Nat} {n : Nat} : gM c h n 0 = .inr (7, mFl h n) := if_pos rfl
theorem gM_ne {c : Nat → ClassId} {h : Nat → Nat} {n k : Nat} (hk : k ≠ 0) : gM c h n k = mAr c k := if_neg hk
/-- the reference at its beginning -/
def tau0 : Nat → Nat → Int := fun r _ => if r = 3 then 60 else 0
def kap0 : Nat → Nat → Int := fun _ _ => 0
theorem GI_tau0 : GI tau0 := by
  refine ⟨by decide, by decide, by decide, fun r i h => ?_⟩
  unfold tau0 GR
  split <;> simp_all

set_option maxRecDepth 100000 in
set_option maxHeartbeats 4000000 in
theorem c_X4_init (l : Launch) (b : Nat) (D : va_G) (c : Nat → ClassId) :
    zNv (S := Nat → Nat) l yX4_init cX4_init 2 1 20 16 197 [.ref b] 1 (fun _ => b) D (gT c) (gM c (fun _ => b) 1) 17 (fun h => h) (fun h => mC c h tau0 kap0) (fun h => h 0 = b) := by
  have hinj : ∀ i j, i < 1 → j < 1 → (fun _ : Nat => b) i = (fun _ : Nat => b) j → i = j := fun i j h1 h2 _ => by omega
  refine zIM_of (by decide) (Nat.le_of_ble_eq_true rfl) rfl ?_
  intro p e s m below meth cd ls ⟨hF, hr, hlocks, hK, hX⟩ hmn hP hl
  have hz : zD (zA 1 (fun _ => b) s.heap.size) 1 (fun _ => b) := zD.self hinj s.heap.size
  have hA : ∀ q, s.heap.size ≤ q → zA 1 (fun _ => b) s.heap.size q := zA_new
  generalize zA 1 (fun _ => b) s.heap.size = A at hz hA hX ⊢
  have hS : va_S A s.heap s.heap [] := va_S.rf
  have hl : lv_has ls 2 [(0, .ref b)] := hl
  refine lv_aload_n hF.1 hF.2.1 dX4_init_0 rfl (lv_at hl 0 rfl) ?_
  refine W.objInit hF.1 hF.2.1 hF.2.2.2.1 (hF.2.2.2.2 _ mw_423) (hF.2.2.2.2 _ mw_2) (hF.2.2.2.2 _ mw_3) rfl (hl.1.trans hF.2.2.1.symm) rfl dX4_init_1 (Nat.le_of_ble_eq_true rfl) (Nat.le_of_ble_eq_true rfl) ?_
  show W p l e _ s m _ below meth cd _ _ _ _ _ (F0 m 4 ls [])
  obtain ⟨h, eh⟩ : ∃ h : Nat → Nat, h = fun _ => b := ⟨_, rfl⟩
  have h0 : h 0 = b := by rw [eh]
  rw [← eh] at hP hz
  clear eh

  refine lv_aload_n hF.1 hF.2.1 dX4_init_4 rfl (lv_at hl 0 rfl) ?_
  refine zi_bipush hF.1 hF.2.1 dX4_init_5 (by decide) ?_
  refine z_newa hF hK hz hA hP hS (atype := .int) mw_54 rfl 0 rfl (N' := 6) (fun cA => rfl) rfl (by omega) (by decide) (Nat.le_of_ble_eq_true rfl) (Nat.le_of_ble_eq_true rfl) dX4_init_7 (fun q H hP hz hS => ?_)
  refine W_top2 (b' := hx h 1 q 0) (by rw [hx_ne (by decide)]; exact h0.symm) ?_
  refine z_putF hF hK hz hP hS hmn (k := 0) (C := RX4) (T := TX4) (N := 22) (by decide) (by rw [gx_ne (by decide)]; exact gM_0) rfl uin_X4 tyX4_ok nmX4 1 (by decide) mw_424 rfl rfl ⟨rfl, rfl⟩ (Nat.le_of_ble_eq_true rfl) (g' := gM c (hx h 1 q) 2) (by rw [gM_0]; simp [mFl, nrf, hx]) (fun i hi hne => by
    rw [gM_ne hne]
    rcases Classical.em (i = 1) with e9 | e9
    · rw [e9, gx_at]; rfl
    · rw [gx_ne e9, gM_ne hne]) dX4_init_9 (fun H locs hP hS => ?_)
  obtain ⟨h', eh⟩ : ∃ h' : Nat → Nat, h' = hx h 1 q := ⟨_, rfl⟩
  have h0 : h' 0 = b := by rw [eh, hx_ne (by decide)]; exact h0
  rw [← eh] at hP hz
  clear eh
  generalize h' = h at hP hz h0
  refine lv_aload_n hF.1 hF.2.1 dX4_init_12 rfl (lv_at hl 0 rfl) ?_
  refine zi_const hF.1 hF.2.1 dX4_init_13 ?_
  refine z_newa hF hK hz hA hP hS (atype := .int) mw_54 rfl 0 rfl (N' := 3) (fun cA => rfl) rfl (by omega) (by decide) (Nat.le_of_ble_eq_true rfl) (Nat.le_of_ble_eq_true rfl) dX4_init_14 (fun q H hP hz hS => ?_)
  refine W_top2 (b' := hx h 2 q 0) (by rw [hx_ne (by decide)]; exact h0.symm) ?_
  refine z_putF hF hK hz hP hS hmn (k := 0) (C := RX4) (T := TX4) (N := 22) (by decide) (by rw [gx_ne (by decide)]; exact gM_0) rfl uin_X4 tyX4_ok nmX4 2 (by decide) mw_425 rfl rfl ⟨rfl, rfl⟩ (Nat.le_of_ble_eq_true rfl) (g' := gM c (hx h 2 q) 3) (by rw [gM_0]; simp [mFl, nrf, hx]) (fun i hi hne => by
    rw [gM_ne hne]
    rcases Classical.em (i = 2) with e9 | e9
    · rw [e9, gx_at]; rfl
    · rw [gx_ne e9, gM_ne hne]) dX4_init_16 (fun H locs hP hS => ?_)
  obtain ⟨h', eh⟩ : ∃ h' : Nat → Nat, h' = hx h 2 q := ⟨_, rfl⟩
  have h0 : h' 0 = b := by rw [eh, hx_ne (by decide)]; exact h0
  rw [← eh] at hP hz
  clear eh
  generalize h' = h at hP hz h0
  refine lv_aload_n hF.1 hF.2.1 dX4_init_19 rfl (lv_at hl 0 rfl) ?_
  refine zi_const hF.1 hF.2.1 dX4_init_20 ?_
  refine z_newa hF hK hz hA hP hS (atype := .int) mw_54 rfl 0 rfl (N' := 3) (fun cA => rfl) rfl (by omega) (by decide) (Nat.le_of_ble_eq_true rfl) (Nat.le_of_ble_eq_true rfl) dX4_init_21 (fun q H hP hz hS => ?_)
  refine W_top2 (b' := hx h 3 q 0) (by rw [hx_ne (by decide)]; exact h0.symm) ?_
  refine z_putF hF hK hz hP hS hmn (k := 0) (C := RX4) (T := TX4) (N := 22) (by decide) (by rw [gx_ne (by decide)]; exact gM_0) rfl uin_X4 tyX4_ok nmX4 3 (by decide) mw_426 rfl rfl ⟨rfl, rfl⟩ (Nat.le_of_ble_eq_true rfl) (g' := gM c (hx h 3 q) 4) (by rw [gM_0]; simp [mFl, nrf, hx]) (fun i hi hne => by
    rw [gM_ne hne]
    rcases Classical.em (i = 3) with e9 | e9
    · rw [e9, gx_at]; rfl
    · rw [gx_ne e9, gM_ne hne]) dX4_init_23 (fun H locs hP hS => ?_)
  obtain ⟨h', eh⟩ : ∃ h' : Nat → Nat, h' = hx h 3 q := ⟨_, rfl⟩
  have h0 : h' 0 = b := by rw [eh, hx_ne (by decide)]; exact h0
  rw [← eh] at hP hz
  clear eh
  generalize h' = h at hP hz h0
  refine lv_aload_n hF.1 hF.2.1 dX4_init_26 rfl (lv_at hl 0 rfl) ?_
  refine zi_bipush hF.1 hF.2.1 dX4_init_27 (by decide) ?_
  refine z_newa hF hK hz hA hP hS (atype := .int) mw_54 rfl 0 rfl (N' := 17) (fun cA => rfl) rfl (by omega) (by decide) (Nat.le_of_ble_eq_true rfl) (Nat.le_of_ble_eq_true rfl) dX4_init_29 (fun q H hP hz hS => ?_)
  refine W_top2 (b' := hx h 4 q 0) (by rw [hx_ne (by decide)]; exact h0.symm) ?_
  refine z_putF hF hK hz hP hS hmn (k := 0) (C := RX4) (T := TX4) (N := 22) (by decide) (by rw [gx_ne (by decide)]; exact gM_0) rfl uin_X4 tyX4_ok nmX4 4 (by decide) mw_427 rfl rfl ⟨rfl, rfl⟩ (Nat.le_of_ble_eq_true rfl) (g' := gM c (hx h 4 q) 5) (by rw [gM_0]; simp [mFl, nrf, hx]) (fun i hi hne => by
    rw [gM_ne hne]
    rcases Classical.em (i = 4) with e9 | e9
    · rw [e9, gx_at]; rfl
    · rw [gx_ne e9, gM_ne hne]) dX4_init_31 (fun H locs hP hS => ?_)
  obtain ⟨h', eh⟩ : ∃ h' : Nat → Nat, h' = hx h 4 q := ⟨_, rfl⟩
  have h0 : h' 0 = b := by rw [eh, hx_ne (by decide)]; exact h0
  rw [← eh] at hP hz
  clear eh
  generalize h' = h at hP hz h0
  refine lv_aload_n hF.1 hF.2.1 dX4_init_34 rfl (lv_at hl 0 rfl) ?_
  refine zi_bipush hF.1 hF.2.1 dX4_init_35 (by decide) ?_
  refine z_newa hF hK hz hA hP hS (atype := .int) mw_54 rfl 0 rfl (N' := 17) (fun cA => rfl) rfl (by omega) (by decide) (Nat.le_of_ble_eq_true rfl) (Nat.le_of_ble_eq_true rfl) dX4_init_37 (fun q H hP hz hS => ?_)
  refine W_top2 (b' := hx h 5 q 0) (by rw [hx_ne (by decide)]; exact h0.symm) ?_
  refine z_putF hF hK hz hP hS hmn (k := 0) (C := RX4) (T := TX4) (N := 22) (by decide) (by rw [gx_ne (by decide)]; exact gM_0) rfl uin_X4 tyX4_ok nmX4 6 (by decide) mw_428 rfl rfl ⟨rfl, rfl⟩ (Nat.le_of_ble_eq_true rfl) (g' := gM c (hx h 5 q) 6) (by rw [gM_0]; simp [mFl, nrf, hx]) (fun i hi hne => by
    rw [gM_ne hne]
    rcases Classical.em (i = 5) with e9 | e9
    · rw [e9, gx_at]; rfl
    · rw [gx_ne e9, gM_ne hne]) dX4_init_39 (fun H locs hP hS => ?_)
  obtain ⟨h', eh⟩ : ∃ h' : Nat → Nat, h' = hx h 5 q := ⟨_, rfl⟩
  have h0 : h' 0 = b := by rw [eh, hx_ne (by decide)]; exact h0
  rw [← eh] at hP hz
  clear eh
  generalize h' = h at hP hz h0
  refine lv_aload_n hF.1 hF.2.1 dX4_init_42 rfl (lv_at hl 0 rfl) ?_
  refine zi_bipush hF.1 hF.2.1 dX4_init_43 (by decide) ?_
  refine z_newa hF hK hz hA hP hS (atype := .int) mw_54 rfl 0 rfl (N' := 17) (fun cA => rfl) rfl (by omega) (by decide) (Nat.le_of_ble_eq_true rfl) (Nat.le_of_ble_eq_true rfl) dX4_init_45 (fun q H hP hz hS => ?_)
  refine W_top2 (b' := hx h 6 q 0) (by rw [hx_ne (by decide)]; exact h0.symm) ?_
  refine z_putF hF hK hz hP hS hmn (k := 0) (C := RX4) (T := TX4) (N := 22) (by decide) (by rw [gx_ne (by decide)]; exact gM_0) rfl uin_X4 tyX4_ok nmX4 7 (by decide) mw_429 rfl rfl ⟨rfl, rfl⟩ (Nat.le_of_ble_eq_true rfl) (g' := gM c (hx h 6 q) 7) (by rw [gM_0]; simp [mFl, nrf, hx]) (fun i hi hne => by
    rw [gM_ne hne]
    rcases Classical.em (i = 6) with e9 | e9
    · rw [e9, gx_at]; rfl
    · rw [gx_ne e9, gM_ne hne]) dX4_init_47 (fun H locs hP hS => ?_)
  obtain ⟨h', eh⟩ : ∃ h' : Nat → Nat, h' = hx h 6 q := ⟨_, rfl⟩
  have h0 : h' 0 = b := by rw [eh, hx_ne (by decide)]; exact h0
  rw [← eh] at hP hz
  clear eh
  generalize h' = h at hP hz h0
  refine lv_aload_n hF.1 hF.2.1 dX4_init_50 rfl (lv_at hl 0 rfl) ?_
  refine zi_bipush hF.1 hF.2.1 dX4_init_51 (by decide) ?_
  refine z_newa hF hK hz hA hP hS (atype := .int) mw_54 rfl 0 rfl (N' := 17) (fun cA => rfl) rfl (by omega) (by decide) (Nat.le_of_ble_eq_true rfl) (Nat.le_of_ble_eq_true rfl) dX4_init_53 (fun q H hP hz hS => ?_)
  refine W_top2 (b' := hx h 7 q 0) (by rw [hx_ne (by decide)]; exact h0.symm) ?_
  refine z_putF hF hK hz hP hS hmn (k := 0) (C := RX4) (T := TX4) (N := 22) (by decide) (by rw [gx_ne (by decide)]; exact gM_0) rfl uin_X4 tyX4_ok nmX4 8 (by decide) mw_430 rfl rfl ⟨rfl, rfl⟩ (Nat.le_of_ble_eq_true rfl) (g' := gM c (hx h 7 q) 8) (by rw [gM_0]; simp [mFl, nrf, hx]) (fun i hi hne => by
    rw [gM_ne hne]
    rcases Classical.em (i = 7) with e9 | e9
    · rw [e9, gx_at]; rfl
    · rw [gx_ne e9, gM_ne hne]) dX4_init_55 (fun H locs hP hS => ?_)
  obtain ⟨h', eh⟩ : ∃ h' : Nat → Nat, h' = hx h 7 q := ⟨_, rfl⟩
  have h0 : h' 0 = b := by rw [eh, hx_ne (by decide)]; exact h0
  rw [← eh] at hP hz
  clear eh
  generalize h' = h at hP hz h0
  refine lv_aload_n hF.1 hF.2.1 dX4_init_58 rfl (lv_at hl 0 rfl) ?_
  refine zi_bipush hF.1 hF.2.1 dX4_init_59 (by decide) ?_
  refine z_newa hF hK hz hA hP hS (atype := .int) mw_54 rfl 0 rfl (N' := 17) (fun cA => rfl) rfl (by omega) (by decide) (Nat.le_of_ble_eq_true rfl) (Nat.le_of_ble_eq_true rfl) dX4_init_61 (fun q H hP hz hS => ?_)
  refine W_top2 (b' := hx h 8 q 0) (by rw [hx_ne (by decide)]; exact h0.symm) ?_
  refine z_putF hF hK hz hP hS hmn (k := 0) (C := RX4) (T := TX4) (N := 22) (by decide) (by rw [gx_ne (by decide)]; exact gM_0) rfl uin_X4 tyX4_ok nmX4 9 (by decide) mw_431 rfl rfl ⟨rfl, rfl⟩ (Nat.le_of_ble_eq_true rfl) (g' := gM c (hx h 8 q) 9) (by rw [gM_0]; simp [mFl, nrf, hx]) (fun i hi hne => by
    rw [gM_ne hne]
    rcases Classical.em (i = 8) with e9 | e9
    · rw [e9, gx_at]; rfl
    · rw [gx_ne e9, gM_ne hne]) dX4_init_63 (fun H locs hP hS => ?_)
  obtain ⟨h', eh⟩ : ∃ h' : Nat → Nat, h' = hx h 8 q := ⟨_, rfl⟩
  have h0 : h' 0 = b := by rw [eh, hx_ne (by decide)]; exact h0
  rw [← eh] at hP hz
  clear eh
  generalize h' = h at hP hz h0
  refine lv_aload_n hF.1 hF.2.1 dX4_init_66 rfl (lv_at hl 0 rfl) ?_
  refine zi_bipush hF.1 hF.2.1 dX4_init_67 (by decide) ?_
  refine z_newa hF hK hz hA hP hS (atype := .int) mw_54 rfl 0 rfl (N' := 17) (fun cA => rfl) rfl (by omega) (by decide) (Nat.le_of_ble_eq_true rfl) (Nat.le_of_ble_eq_true rfl) dX4_init_69 (fun q H hP hz hS => ?_)
  refine W_top2 (b' := hx h 9 q 0) (by rw [hx_ne (by decide)]; exact h0.symm) ?_
  refine z_putF hF hK hz hP hS hmn (k := 0) (C := RX4) (T := TX4) (N := 22) (by decide) (by rw [gx_ne (by decide)]; exact gM_0) rfl uin_X4 tyX4_ok nmX4 10 (by decide) mw_432 rfl rfl ⟨rfl, rfl⟩ (Nat.le_of_ble_eq_true rfl) (g' := gM c (hx h 9 q) 10) (by rw [gM_0]; simp [mFl, nrf, hx]) (fun i hi hne => by
    rw [gM_ne hne]
    rcases Classical.em (i = 9) with e9 | e9
    · rw [e9, gx_at]; rfl
    · rw [gx_ne e9, gM_ne hne]) dX4_init_71 (fun H locs hP hS => ?_)
  obtain ⟨h', eh⟩ : ∃ h' : Nat → Nat, h' = hx h 9 q := ⟨_, rfl⟩
  have h0 : h' 0 = b := by rw [eh, hx_ne (by decide)]; exact h0
  rw [← eh] at hP hz
  clear eh
  generalize h' = h at hP hz h0
  refine lv_aload_n hF.1 hF.2.1 dX4_init_74 rfl (lv_at hl 0 rfl) ?_
  refine zi_bipush hF.1 hF.2.1 dX4_init_75 (by decide) ?_
  refine z_newa hF hK hz hA hP hS (atype := .int) mw_54 rfl 0 rfl (N' := 17) (fun cA => rfl) rfl (by omega) (by decide) (Nat.le_of_ble_eq_true rfl) (Nat.le_of_ble_eq_true rfl) dX4_init_77 (fun q H hP hz hS => ?_)
  refine W_top2 (b' := hx h 10 q 0) (by rw [hx_ne (by decide)]; exact h0.symm) ?_
  refine z_putF hF hK hz hP hS hmn (k := 0) (C := RX4) (T := TX4) (N := 22) (by decide) (by rw [gx_ne (by decide)]; exact gM_0) rfl uin_X4 tyX4_ok nmX4 11 (by decide) mw_433 rfl rfl ⟨rfl, rfl⟩ (Nat.le_of_ble_eq_true rfl) (g' := gM c (hx h 10 q) 11) (by rw [gM_0]; simp [mFl, nrf, hx]) (fun i hi hne => by
    rw [gM_ne hne]
    rcases Classical.em (i = 10) with e9 | e9
    · rw [e9, gx_at]; rfl
    · rw [gx_ne e9, gM_ne hne]) dX4_init_79 (fun H locs hP hS => ?_)
  obtain ⟨h', eh⟩ : ∃ h' : Nat → Nat, h' = hx h 10 q := ⟨_, rfl⟩
  have h0 : h' 0 = b := by rw [eh, hx_ne (by decide)]; exact h0
  rw [← eh] at hP hz
  clear eh
  generalize h' = h at hP hz h0
  refine lv_aload_n hF.1 hF.2.1 dX4_init_82 rfl (lv_at hl 0 rfl) ?_
  refine zi_bipush hF.1 hF.2.1 dX4_init_83 (by decide) ?_
  refine z_newa hF hK hz hA hP hS (atype := .int) mw_54 rfl 0 rfl (N' := 17) (fun cA => rfl) rfl (by omega) (by decide) (Nat.le_of_ble_eq_true rfl) (Nat.le_of_ble_eq_true rfl) dX4_init_85 (fun q H hP hz hS => ?_)
  refine W_top2 (b' := hx h 11 q 0) (by rw [hx_ne (by decide)]; exact h0.symm) ?_
  refine z_putF hF hK hz hP hS hmn (k := 0) (C := RX4) (T := TX4) (N := 22) (by decide) (by rw [gx_ne (by decide)]; exact gM_0) rfl uin_X4 tyX4_ok nmX4 12 (by decide) mw_434 rfl rfl ⟨rfl, rfl⟩ (Nat.le_of_ble_eq_true rfl) (g' := gM c (hx h 11 q) 12) (by rw [gM_0]; simp [mFl, nrf, hx]) (fun i hi hne => by
    rw [gM_ne hne]
    rcases Classical.em (i = 11) with e9 | e9
    · rw [e9, gx_at]; rfl
    · rw [gx_ne e9, gM_ne hne]) dX4_init_87 (fun H locs hP hS => ?_)
  obtain ⟨h', eh⟩ : ∃ h' : Nat → Nat, h' = hx h 11 q := ⟨_, rfl⟩
  have h0 : h' 0 = b := by rw [eh, hx_ne (by decide)]; exact h0
  rw [← eh] at hP hz
  clear eh
  generalize h' = h at hP hz h0
  refine lv_aload_n hF.1 hF.2.1 dX4_init_90 rfl (lv_at hl 0 rfl) ?_
  refine zi_bipush hF.1 hF.2.1 dX4_init_91 (by decide) ?_
  refine z_newa hF hK hz hA hP hS (atype := .boolean) mw_435 rfl 4 rfl (N' := 17) (fun cA => rfl) rfl (by omega) (by decide) (Nat.le_of_ble_eq_true rfl) (Nat.le_of_ble_eq_true rfl) dX4_init_93 (fun q H hP hz hS => ?_)
  refine W_top2 (b' := hx h 12 q 0) (by rw [hx_ne (by decide)]; exact h0.symm) ?_
  refine z_putF hF hK hz hP hS hmn (k := 0) (C := RX4) (T := TX4) (N := 22) (by decide) (by rw [gx_ne (by decide)]; exact gM_0) rfl uin_X4 tyX4_ok nmX4 13 (by decide) mw_436 rfl rfl ⟨rfl, rfl⟩ (Nat.le_of_ble_eq_true rfl) (g' := gM c (hx h 12 q) 13) (by rw [gM_0]; simp [mFl, nrf, hx]) (fun i hi hne => by
    rw [gM_ne hne]
    rcases Classical.em (i = 12) with e9 | e9
    · rw [e9, gx_at]; rfl
    · rw [gx_ne e9, gM_ne hne]) dX4_init_95 (fun H locs hP hS => ?_)
  obtain ⟨h', eh⟩ : ∃ h' : Nat → Nat, h' = hx h 12 q := ⟨_, rfl⟩
  have h0 : h' 0 = b := by rw [eh, hx_ne (by decide)]; exact h0
  rw [← eh] at hP hz
  clear eh
  generalize h' = h at hP hz h0
  refine lv_aload_n hF.1 hF.2.1 dX4_init_98 rfl (lv_at hl 0 rfl) ?_
  refine zi_const hF.1 hF.2.1 dX4_init_99 ?_
  refine z_newa hF hK hz hA hP hS (atype := .int) mw_54 rfl 0 rfl (N' := 5) (fun cA => rfl) rfl (by omega) (by decide) (Nat.le_of_ble_eq_true rfl) (Nat.le_of_ble_eq_true rfl) dX4_init_100 (fun q H hP hz hS => ?_)
  refine W_top2 (b' := hx h 13 q 0) (by rw [hx_ne (by decide)]; exact h0.symm) ?_
  refine z_putF hF hK hz hP hS hmn (k := 0) (C := RX4) (T := TX4) (N := 22) (by decide) (by rw [gx_ne (by decide)]; exact gM_0) rfl uin_X4 tyX4_ok nmX4 17 (by decide) mw_437 rfl rfl ⟨rfl, rfl⟩ (Nat.le_of_ble_eq_true rfl) (g' := gM c (hx h 13 q) 14) (by rw [gM_0]; simp [mFl, nrf, hx]) (fun i hi hne => by
    rw [gM_ne hne]
    rcases Classical.em (i = 13) with e9 | e9
    · rw [e9, gx_at]; rfl
    · rw [gx_ne e9, gM_ne hne]) dX4_init_102 (fun H locs hP hS => ?_)
  obtain ⟨h', eh⟩ : ∃ h' : Nat → Nat, h' = hx h 13 q := ⟨_, rfl⟩
  have h0 : h' 0 = b := by rw [eh, hx_ne (by decide)]; exact h0
  rw [← eh] at hP hz
  clear eh
  generalize h' = h at hP hz h0
  refine lv_aload_n hF.1 hF.2.1 dX4_init_105 rfl (lv_at hl 0 rfl) ?_
  refine zi_const hF.1 hF.2.1 dX4_init_106 ?_
  refine z_newa hF hK hz hA hP hS (atype := .int) mw_54 rfl 0 rfl (N' := 5) (fun cA => rfl) rfl (by omega) (by decide) (Nat.le_of_ble_eq_true rfl) (Nat.le_of_ble_eq_true rfl) dX4_init_107 (fun q H hP hz hS => ?_)
  refine W_top2 (b' := hx h 14 q 0) (by rw [hx_ne (by decide)]; exact h0.symm) ?_
  refine z_putF hF hK hz hP hS hmn (k := 0) (C := RX4) (T := TX4) (N := 22) (by decide) (by rw [gx_ne (by decide)]; exact gM_0) rfl uin_X4 tyX4_ok nmX4 18 (by decide) mw_438 rfl rfl ⟨rfl, rfl⟩ (Nat.le_of_ble_eq_true rfl) (g' := gM c (hx h 14 q) 15) (by rw [gM_0]; simp [mFl, nrf, hx]) (fun i hi hne => by
    rw [gM_ne hne]
    rcases Classical.em (i = 14) with e9 | e9
    · rw [e9, gx_at]; rfl
    · rw [gx_ne e9, gM_ne hne]) dX4_init_109 (fun H locs hP hS => ?_)
  obtain ⟨h', eh⟩ : ∃ h' : Nat → Nat, h' = hx h 14 q := ⟨_, rfl⟩
  have h0 : h' 0 = b := by rw [eh, hx_ne (by decide)]; exact h0
  rw [← eh] at hP hz
  clear eh
  generalize h' = h at hP hz h0
  refine lv_aload_n hF.1 hF.2.1 dX4_init_112 rfl (lv_at hl 0 rfl) ?_
  refine zi_const hF.1 hF.2.1 dX4_init_113 ?_
  refine z_newa hF hK hz hA hP hS (atype := .int) mw_54 rfl 0 rfl (N' := 5) (fun cA => rfl) rfl (by omega) (by decide) (Nat.le_of_ble_eq_true rfl) (Nat.le_of_ble_eq_true rfl) dX4_init_114 (fun q H hP hz hS => ?_)
  refine W_top2 (b' := hx h 15 q 0) (by rw [hx_ne (by decide)]; exact h0.symm) ?_
  refine z_putF hF hK hz hP hS hmn (k := 0) (C := RX4) (T := TX4) (N := 22) (by decide) (by rw [gx_ne (by decide)]; exact gM_0) rfl uin_X4 tyX4_ok nmX4 19 (by decide) mw_439 rfl rfl ⟨rfl, rfl⟩ (Nat.le_of_ble_eq_true rfl) (g' := gM c (hx h 15 q) 16) (by rw [gM_0]; simp [mFl, nrf, hx]) (fun i hi hne => by
    rw [gM_ne hne]
    rcases Classical.em (i = 15) with e9 | e9
    · rw [e9, gx_at]; rfl
    · rw [gx_ne e9, gM_ne hne]) dX4_init_116 (fun H locs hP hS => ?_)
  obtain ⟨h', eh⟩ : ∃ h' : Nat → Nat, h' = hx h 15 q := ⟨_, rfl⟩
  have h0 : h' 0 = b := by rw [eh, hx_ne (by decide)]; exact h0
  rw [← eh] at hP hz
  clear eh
  generalize h' = h at hP hz h0
  refine lv_aload_n hF.1 hF.2.1 dX4_init_119 rfl (lv_at hl 0 rfl) ?_
  refine zi_bipush hF.1 hF.2.1 dX4_init_120 (by decide) ?_
  refine z_newa hF hK hz hA hP hS (atype := .int) mw_54 rfl 0 rfl (N' := 17) (fun cA => rfl) rfl (by omega) (by decide) (Nat.le_of_ble_eq_true rfl) (Nat.le_of_ble_eq_true rfl) dX4_init_122 (fun q H hP hz hS => ?_)
  refine W_top2 (b' := hx h 16 q 0) (by rw [hx_ne (by decide)]; exact h0.symm) ?_
  refine z_putF hF hK hz hP hS hmn (k := 0) (C := RX4) (T := TX4) (N := 22) (by decide) (by rw [gx_ne (by decide)]; exact gM_0) rfl uin_X4 tyX4_ok nmX4 20 (by decide) mw_440 rfl rfl ⟨rfl, rfl⟩ (Nat.le_of_ble_eq_true rfl) (g' := gM c (hx h 16 q) 17) (by rw [gM_0]; simp [mFl, nrf, hx]) (fun i hi hne => by
    rw [gM_ne hne]
    rcases Classical.em (i = 16) with e9 | e9
    · rw [e9, gx_at]; rfl
    · rw [gx_ne e9, gM_ne hne]) dX4_init_124 (fun H locs hP hS => ?_)
  obtain ⟨h', eh⟩ : ∃ h' : Nat → Nat, h' = hx h 16 q := ⟨_, rfl⟩
  have h0 : h' 0 = b := by rw [eh, hx_ne (by decide)]; exact h0
  rw [← eh] at hP hz
  clear eh
  generalize h' = h at hP hz h0
  refine zi_const hF.1 hF.2.1 dX4_init_127 ?_
  refine lv_istore_n (lv' := [(1, .int (iz 0)), (0, .ref b)]) hF.1 hF.2.1 dX4_init_128 rfl hl (by decide) rfl (fun ls hl => ?_)
  have hP0 : zB 17 h D (gx (gM c h 17) 3 (.inl (c 0, 3, .inl fun j => if j < 0 then iz 60 else 0))) _ := zB_congr hP (fun _ _ => rfl) (fun i hi => by
    rcases Classical.em (i = 3) with q | q
    · rw [q, gx_at]; rfl
    · rw [gx_ne q])
  refine z_loop (V := Nat) (n := 17) (h := h) (nL := 2) (wd := fun v => gx (gM c h 17) 3 (.inl (c 0, 3, .inl fun j => if j < v then iz 60 else 0))) (lv := fun v => [(1, .int (iz (v : Int))), (0, .ref b)]) (stk := fun _ => []) (mu := fun v => 4 - v) (inv := fun v => v ≤ 3) ?_ 0 (Nat.zero_le _) hP0 hS hl
  intro v hv ih H locs ls hP hS hl
  have hv : v ≤ 3 := hv
  refine lv_iload_n hF.1 hF.2.1 dX4_init_129 rfl (lv_at hl 0 rfl) ?_
  refine zi_const hF.1 hF.2.1 dX4_init_130 ?_
  refine zi_icmp_ge (tgt := 148) hF.1 hF.2.1 (a := (v : Int)) (b := 3) dX4_init_131 (by decide) (by omega) (by omega) (fun c_131 => ?_) (fun c_131 => ?_)
  · have e3 : v = 3 := by omega
    subst e3
    have hP : zB 17 h D (mC c h tau0 kap0) H := zB_arr hP (fun k hk => by
      match k with
      | 0 => exact Or.inl (by rw [gx_ne (by decide), gM_0]; rfl)
      | 1 => exact Or.inl rfl
      | 2 => exact Or.inl rfl
      | 3 => exact Or.inr ⟨c 0, 3, _, _, gx_at, rfl, fun j hj => by rw [if_pos hj]; rfl⟩
      | 4 => exact Or.inl rfl
      | 5 => exact Or.inl rfl
      | 6 => exact Or.inl rfl
      | 7 => exact Or.inl rfl
      | 8 => exact Or.inl rfl
      | 9 => exact Or.inl rfl
      | 10 => exact Or.inl rfl
      | 11 => exact Or.inl rfl
      | 12 => exact Or.inl rfl
      | 13 => exact Or.inl rfl
      | 14 => exact Or.inl rfl
      | 15 => exact Or.inl rfl
      | 16 => exact Or.inl rfl
      | i9 + 17 => exact absurd hk (by omega))
    exact (W.vret (free := A) hF.1 hF.2.1 hr (fun t' ht hW => ⟨⟨h, rfl, h0, by show zB _ _ _ _ t'.heap; rw [ht]; exact hP, hz⟩, hS.F ht⟩) hS.2.2 dX4_init_148 hlocks).wide (Nat.le_of_ble_eq_true rfl) (Nat.le_of_ble_eq_true rfl)
  · refine lv_aload_n hF.1 hF.2.1 dX4_init_134 rfl (lv_at hl 1 rfl) ?_
    refine W_top (b' := h 0) h0.symm ?_
    refine z_get hF hK hP (k := 0) (C := RX4) (T := TX4) (N := 22) (by decide) (by rw [gx_ne (by decide)]; exact gM_0) rfl uin_X4 3 (by decide) mw_426 (v := .ref (h 3)) rfl dX4_init_135 ?_
    refine lv_iload_n hF.1 hF.2.1 dX4_init_138 rfl (lv_at hl 0 rfl) ?_
    refine zi_bipush hF.1 hF.2.1 dX4_init_139 (by decide) ?_
    refine z_iast hF hK hz hP hS (k := 3) (by decide) gx_at 0 rfl v rfl (by omega) (by omega) (g' := gx (gM c h 17) 3 (.inl (c 0, 3, .inl fun j => if j < v + 1 then iz 60 else 0))) (by
      rw [gx_at]
      congr 4
      funext j
      unfold upd
      by_cases h1 : j = v
      · rw [if_pos h1, if_pos (by omega)]
      · rw [if_neg h1]
        show (if j < v + 1 then iz 60 else 0) = if j < v then iz 60 else 0
        by_cases h2 : j < v
        · rw [if_pos h2, if_pos (by omega)]
        · rw [if_neg h2, if_neg (by omega)]) (fun i hi hne => by rw [gx_ne hne, gx_ne hne]) dX4_init_141 (fun H locs hP hS => ?_)
    refine lv_iinc (v := iz ((v + 1 : Nat) : Int)) (lv' := [(1, .int (iz ((v + 1 : Nat) : Int))), (0, .ref b)]) hF.1 hF.2.1 dX4_init_142 hl (k := 0) rfl ((iz_add _ _).trans (congrArg iz (by omega))) (by decide) rfl (fun ls hl => ?_)
    refine lv_goto (tgt := 129) hF.1 hF.2.1 dX4_init_145 (by decide) ?_
    exact ih (v + 1) (by show v + 1 ≤ 3; omega) (by show 4 - (v + 1) < 4 - v; omega) _ _ _ hP hS hl

set_option maxRecDepth 100000 in
set_option maxHeartbeats 4000000 in
theorem c_X4_thrown (l : Launch) (h : Nat → Nat) (D : va_G) (c : Nat → ClassId) (τ κ : Nat → Nat → Int) (hinj : ∀ i j, i < 17 → j < 17 → h i = h j → i = j) :
    zMi (S := Unit) l yX4_thrown cX4_thrown 1 (some .int) 0 0 [.ref (h 0)] 17 h D (gT c) (mC c h τ κ) (fun _ => mC c h τ κ) (fun z _ => z = κ 1 0) := by
  refine zM_of (by decide) (Nat.le_of_ble_eq_true rfl) ?_
  intro p e s m below meth cd ls ⟨hF, hr, hlocks, hK⟩ hP hl
  have hz : zD (zA 17 h s.heap.size) 17 h := zD.self hinj s.heap.size
  have hA : ∀ q, s.heap.size ≤ q → zA 17 h s.heap.size q := zA_new
  generalize zA 17 h s.heap.size = A at hz hA ⊢
  have hS : va_S A s.heap s.heap [] := va_S.rf
  have hl : lv_has ls 1 [(0, .ref (h 0))] := hl
  refine lv_aload_n hF.1 hF.2.1 dX4_thrown_0 rfl (lv_at hl 0 rfl) ?_
  refine z_get hF hK hP (k := 0) (C := RX4) (T := TX4) (N := 22) (by decide) rfl rfl uin_X4 21 (by decide) mw_442 (v := .int (iz (κ 1 0))) rfl dX4_thrown_1 ?_
  exact z_reti (P := fun z _ => z = κ 1 0) (z := κ 1 0) (u := ()) (w := fun _ => mC c h τ κ) hF hr hlocks hP hS rfl rfl dX4_thrown_4
