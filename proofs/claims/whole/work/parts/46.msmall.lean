def thP (ph mi : Int) : Int := if 0 ≤ ph ∧ ph ≤ 2 then (if 0 ≤ mi ∧ mi ≤ 999 then 0 else 2) else 1
def thK (mi : Int) : Int := if 0 ≤ mi ∧ mi ≤ 999 then 0 else 1
def thO (τ : Nat → Nat → Int) (a wh : Int) : Int := if (0 ≤ a ∧ a ≤ τ 0 1 - 1) ∧ (0 ≤ wh ∧ wh ≤ 2) then 0 else 1
def thT (τ : Nat → Nat → Int) (ch : Int) : Int := if 97 ≤ ch ∧ ch ≤ 122 then (if τ 0 3 = 6 then 2 else 0) else 1
noncomputable def chM (τ : Nat → Nat → Int) (mi : Int) : Nat → Int
  | 0 => 0
  | i + 1 => ior (chM τ mi i) (ic (spk τ mi i) (ish 1 (τ 13 i)))
theorem chM_rg {τ : Nat → Nat → Int} {mi : Int} (i : Nat) : -2147483648 ≤ chM τ mi i ∧ chM τ mi i ≤ 2147483647 := by
  cases i with
  | zero => exact ⟨by simp [chM], by simp [chM]⟩
  | succ i => exact ti_rg _
def f4 (a b c d : Int) : Int := 27 * (27 * (27 * (a - 96) + b - 96) + c - 96) + d - 96
def sptl (a b c d e : Int) : Int := if e < 97 then f4 a b c d else 27 * f4 a b c d + e - 96

set_option maxRecDepth 100000 in
set_option maxHeartbeats 4000000 in
theorem c_X4_load (l : Launch) (h : Nat → Nat) (D : va_G) (c : Nat → ClassId) (τ κ : Nat → Nat → Int) (hinj : ∀ i j, i < 17 → j < 17 → h i = h j → i = j) (hG : GI τ) (mi : Int) (hmi : -2147483648 ≤ mi ∧ mi ≤ 2147483647) (ph : Int) (hph : -2147483648 ≤ ph ∧ ph ≤ 2147483647) :
    zMi (S := Nat → Nat → Int) l yX4_load cX4_load 3 (some .int) 2 46 [.ref (h (0)), .int (iz (mi)), .int (iz (ph))] 17 h D (gT c) (mC c h (τ) (κ)) (fun κ9 => mC c h τ κ9) (fun z κ9 => κ9 1 0 = thP ph mi ∧ (thP ph mi = 0 → z = ldS τ mi ph.toNat 17)) := by
  refine zM_of (by decide) (Nat.le_of_ble_eq_true rfl) ?_
  intro p e s m below meth cd ls ⟨hF, hr, hlocks, hK⟩ hP hl
  have hz : zD (zA 17 h s.heap.size) 17 h := zD.self hinj s.heap.size
  have hA : ∀ q, s.heap.size ≤ q → zA 17 h s.heap.size q := zA_new
  generalize zA 17 h s.heap.size = A at hz hA ⊢
  have hS : va_S A s.heap s.heap [] := va_S.rf
  have hl : lv_has ls 3 [(0, .ref (h (0))), (1, .int (iz (mi))), (2, .int (iz (ph)))] := hl
  refine lv_aload_n hF.1 hF.2.1 dX4_load_0 rfl (lv_at hl 0 rfl) ?_
  refine lv_iload_n hF.1 hF.2.1 dX4_load_1 rfl (lv_at hl 2 rfl) ?_
  refine z_ci (S := Unit) (w := fun _ => mC c h τ κ) (P := fun z _ => z = b2i (0 ≤ ph ∧ ph ≤ 2)) (z_runS (rm := { frames := 1, cells := 0, slots := 0, locals := 22 }) hF hK hP (c_X4_isThree l h D c τ κ hinj hG ph (by omega) _) (gIn_S mw_487 mw_488 mw_447 mw_448) rfl rfl ⟨rfl, by decide, by decide, rfl⟩ ⟨Nat.le_of_ble_eq_true rfl, Nat.le_of_ble_eq_true rfl⟩ (As := [.int (iz (ph))]) (rest := [.ref (h (0))]) rfl hl.1 rfl (Nat.le_of_ble_eq_true rfl) dX4_load_2 ⟨Nat.le_refl _, Nat.le_refl _⟩) hz hA hS (fun z_1 u_2 H locs hp hP hS => ?_)
  obtain rfl : z_1 = b2i (0 ≤ ph ∧ ph ≤ 2) := hp
  refine zi_ifb_ne (tgt := 12) hF.1 hF.2.1 (P := 0 ≤ ph ∧ ph ≤ 2) dX4_load_5 (by decide) (fun c_5 => ?_) (fun c_5 => ?_)
  · skip
    refine lv_iload_n hF.1 hF.2.1 dX4_load_12 rfl (lv_at hl 1 rfl) ?_
    refine z_ci (S := Unit) (w := fun _ => mC c h τ κ) (P := fun z _ => z = b2i (0 ≤ mi ∧ mi ≤ 999)) (z_runS (rm := { frames := 1, cells := 0, slots := 0, locals := 22 }) hF hK hP (c_X4_isMinute l h D c τ κ hinj hG mi (by omega) _) (gIn_S mw_485 mw_486 mw_447 mw_444) rfl rfl ⟨rfl, by decide, by decide, rfl⟩ ⟨Nat.le_of_ble_eq_true rfl, Nat.le_of_ble_eq_true rfl⟩ (As := [.int (iz (mi))]) (rest := [.ref (h (0))]) rfl hl.1 rfl (Nat.le_of_ble_eq_true rfl) dX4_load_13 ⟨Nat.le_refl _, Nat.le_refl _⟩) hz hA hS (fun z_3 u_4 H locs hp hP hS => ?_)
    obtain rfl : z_3 = b2i (0 ≤ mi ∧ mi ≤ 999) := hp
    refine zi_ifb_eq (tgt := 23) hF.1 hF.2.1 (P := 0 ≤ mi ∧ mi ≤ 999) dX4_load_16 (by decide) (fun c_16 => ?_) (fun c_16 => ?_)
    · skip
      refine zi_const hF.1 hF.2.1 dX4_load_23 ?_
      refine z_put hF hK hz hP hS (k := 0) (C := RX4) (T := TX4) (N := 22) (by omega) (rfl) rfl uin_X4 tyX4_ok nmX4 21 (by decide) mw_442 rfl (⟨rfl, rfl⟩) (by simp) (g' := mC c h (τ) (u2 (κ) 1 0 (2))) (rfl) (mC_t_o) dX4_load_24 (fun H locs hP hS => ?_)
      refine lv_aload_n hF.1 hF.2.1 dX4_load_27 rfl (lv_at hl 0 rfl) ?_
      refine z_get hF hK hP (k := 0) (C := RX4) (T := TX4) (N := 22) (by omega) (rfl) rfl uin_X4 21 (by decide) mw_442 (v := .int (iz (2))) rfl dX4_load_28 ?_
      refine zi_if_le (tgt := 38) hF.1 hF.2.1 (a := 2) dX4_load_31 (by decide) (by omega) (fun c_31 => ?_) (fun c_31 => ?_)
      · skip
        exact absurd c_31 (by omega)
      · skip
        refine zi_const hF.1 hF.2.1 dX4_load_34 ?_
        refine lv_goto (tgt := 44) hF.1 hF.2.1 dX4_load_35 (by decide) ?_
        exact z_reti (P := fun z κ9 => κ9 1 0 = thP ph mi ∧ (thP ph mi = 0 → z = ldS τ mi ph.toNat 17)) (z := 0) (u := u2 (κ) 1 0 (2)) (w := fun κ9 => mC c h τ κ9) hF hr hlocks hP hS (rfl) (⟨by have e9 : (u2 (κ) 1 0 (2)) 1 0 = (2 : Int) := rfl; show (u2 (κ) 1 0 (2)) 1 0 = _; rw [e9]; unfold thP; (repeat' split) <;> omega, fun q9 => by unfold thP at q9; (repeat' split at q9) <;> omega⟩) dX4_load_44
    · skip
      refine zi_const hF.1 hF.2.1 dX4_load_19 ?_
      refine lv_goto (tgt := 24) hF.1 hF.2.1 dX4_load_20 (by decide) ?_
      refine z_put hF hK hz hP hS (k := 0) (C := RX4) (T := TX4) (N := 22) (by omega) (rfl) rfl uin_X4 tyX4_ok nmX4 21 (by decide) mw_442 rfl (⟨rfl, rfl⟩) (by simp) (g' := mC c h (τ) (u2 (κ) 1 0 (0))) (rfl) (mC_t_o) dX4_load_24 (fun H locs hP hS => ?_)
      refine lv_aload_n hF.1 hF.2.1 dX4_load_27 rfl (lv_at hl 0 rfl) ?_
      refine z_get hF hK hP (k := 0) (C := RX4) (T := TX4) (N := 22) (by omega) (rfl) rfl uin_X4 21 (by decide) mw_442 (v := .int (iz (0))) rfl dX4_load_28 ?_
      refine zi_if_le (tgt := 38) hF.1 hF.2.1 (a := 0) dX4_load_31 (by decide) (by omega) (fun c_31 => ?_) (fun c_31 => ?_)
      · skip
        have e_5 : ph = ((ph.toNat : Nat) : Int) := (Int.toNat_of_nonneg (by omega)).symm
        have hl : lv_has ls 3 [(0, .ref (h (0))), (1, .int (iz (mi))), (2, .int (iz (((ph.toNat : Nat) : Int))))] := by rw [← e_5]; exact hl
        refine lv_aload_n hF.1 hF.2.1 dX4_load_38 rfl (lv_at hl 0 rfl) ?_
        refine lv_iload_n hF.1 hF.2.1 dX4_load_39 rfl (lv_at hl 1 rfl) ?_
        refine lv_iload_n hF.1 hF.2.1 dX4_load_40 rfl (lv_at hl 2 rfl) ?_
        refine z_ci (S := Unit) (w := fun _ => mC c h τ (u2 (κ) 1 0 (0))) (P := fun z _ => z = ldS τ mi ((ph.toNat)) 17) (z_runV (rm := { frames := 1, cells := 0, slots := 0, locals := 22 }) hF hK hP (c_X4_loaded l h D c τ (u2 (κ) 1 0 (0)) hinj hG mi (by omega) ((ph.toNat)) (by omega) _) (gIn_V mw_459 mw_460 mw_461 mw_447 mw_450) rfl rfl ⟨rfl, by decide, by decide, rfl⟩ ⟨Nat.le_of_ble_eq_true rfl, Nat.le_of_ble_eq_true rfl⟩ (k := 0) (T := TX4) (N := 22) (by omega) rfl (rfl) rfl (As := [.int (iz (mi)), .int (iz (((ph.toNat : Nat) : Int)))]) (rest := []) rfl hl.1 rfl (Nat.le_of_ble_eq_true rfl) dX4_load_41 ⟨Nat.le_refl _, Nat.le_refl _⟩) hz hA hS (fun z_6 u_7 H locs hp hP hS => ?_)
        obtain rfl : z_6 = ldS τ mi ((ph.toNat)) 17 := hp
        have q_8 := @ldS_rg τ hG mi ((ph.toNat)) 17
        exact z_reti (P := fun z κ9 => κ9 1 0 = thP ph mi ∧ (thP ph mi = 0 → z = ldS τ mi ph.toNat 17)) (z := ldS τ mi ((ph.toNat)) 17) (u := u2 (κ) 1 0 (0)) (w := fun κ9 => mC c h τ κ9) hF hr hlocks hP hS (rfl) (⟨by have e9 : (u2 (κ) 1 0 (0)) 1 0 = (0 : Int) := rfl; show (u2 (κ) 1 0 (0)) 1 0 = _; rw [e9]; unfold thP; (repeat' split) <;> omega, fun q9 => by rfl⟩) dX4_load_44
      · skip
        exact absurd c_31 (by omega)
  · skip
    refine zi_const hF.1 hF.2.1 dX4_load_8 ?_
    refine lv_goto (tgt := 24) hF.1 hF.2.1 dX4_load_9 (by decide) ?_
    refine z_put hF hK hz hP hS (k := 0) (C := RX4) (T := TX4) (N := 22) (by omega) (rfl) rfl uin_X4 tyX4_ok nmX4 21 (by decide) mw_442 rfl (⟨rfl, rfl⟩) (by simp) (g' := mC c h (τ) (u2 (κ) 1 0 (1))) (rfl) (mC_t_o) dX4_load_24 (fun H locs hP hS => ?_)
    refine lv_aload_n hF.1 hF.2.1 dX4_load_27 rfl (lv_at hl 0 rfl) ?_
    refine z_get hF hK hP (k := 0) (C := RX4) (T := TX4) (N := 22) (by omega) (rfl) rfl uin_X4 21 (by decide) mw_442 (v := .int (iz (1))) rfl dX4_load_28 ?_
    refine zi_if_le (tgt := 38) hF.1 hF.2.1 (a := 1) dX4_load_31 (by decide) (by omega) (fun c_31 => ?_) (fun c_31 => ?_)
    · skip
      exact absurd c_31 (by omega)
    · skip
      refine zi_const hF.1 hF.2.1 dX4_load_34 ?_
      refine lv_goto (tgt := 44) hF.1 hF.2.1 dX4_load_35 (by decide) ?_
      exact z_reti (P := fun z κ9 => κ9 1 0 = thP ph mi ∧ (thP ph mi = 0 → z = ldS τ mi ph.toNat 17)) (z := 0) (u := u2 (κ) 1 0 (1)) (w := fun κ9 => mC c h τ κ9) hF hr hlocks hP hS (rfl) (⟨by have e9 : (u2 (κ) 1 0 (1)) 1 0 = (1 : Int) := rfl; show (u2 (κ) 1 0 (1)) 1 0 = _; rw [e9]; unfold thP; (repeat' split) <;> omega, fun q9 => by unfold thP at q9; (repeat' split at q9) <;> omega⟩) dX4_load_44

set_option maxRecDepth 100000 in
set_option maxHeartbeats 4000000 in
theorem c_X4_noise (l : Launch) (h : Nat → Nat) (D : va_G) (c : Nat → ClassId) (τ κ : Nat → Nat → Int) (hinj : ∀ i j, i < 17 → j < 17 → h i = h j → i = j) (hG : GI τ) (mi : Int) (hmi : -2147483648 ≤ mi ∧ mi ≤ 2147483647) (hs : Int) (hhs : -2147483648 ≤ hs ∧ hs ≤ 2147483647) :
    zMi (S := Nat → Nat → Int) l yX4_noise cX4_noise 3 (some .int) 2 48 [.ref (h (0)), .int (iz (mi)), .int (iz (hs))] 17 h D (gT c) (mC c h (τ) (κ)) (fun κ9 => mC c h τ κ9) (fun z κ9 => κ9 1 0 = thP hs mi ∧ (thP hs mi = 0 → z = nsS τ mi (wd τ mi) hs.toNat 17)) := by
  refine zM_of (by decide) (Nat.le_of_ble_eq_true rfl) ?_
  intro p e s m below meth cd ls ⟨hF, hr, hlocks, hK⟩ hP hl
  have hz : zD (zA 17 h s.heap.size) 17 h := zD.self hinj s.heap.size
  have hA : ∀ q, s.heap.size ≤ q → zA 17 h s.heap.size q := zA_new
  generalize zA 17 h s.heap.size = A at hz hA ⊢
  have hS : va_S A s.heap s.heap [] := va_S.rf
  have hl : lv_has ls 3 [(0, .ref (h (0))), (1, .int (iz (mi))), (2, .int (iz (hs)))] := hl
  refine lv_aload_n hF.1 hF.2.1 dX4_noise_0 rfl (lv_at hl 0 rfl) ?_
  refine lv_iload_n hF.1 hF.2.1 dX4_noise_1 rfl (lv_at hl 2 rfl) ?_
  refine z_ci (S := Unit) (w := fun _ => mC c h τ κ) (P := fun z _ => z = b2i (0 ≤ hs ∧ hs ≤ 2)) (z_runS (rm := { frames := 1, cells := 0, slots := 0, locals := 22 }) hF hK hP (c_X4_isThree l h D c τ κ hinj hG hs (by omega) _) (gIn_S mw_487 mw_488 mw_447 mw_448) rfl rfl ⟨rfl, by decide, by decide, rfl⟩ ⟨Nat.le_of_ble_eq_true rfl, Nat.le_of_ble_eq_true rfl⟩ (As := [.int (iz (hs))]) (rest := [.ref (h (0))]) rfl hl.1 rfl (Nat.le_of_ble_eq_true rfl) dX4_noise_2 ⟨Nat.le_refl _, Nat.le_refl _⟩) hz hA hS (fun z_1 u_2 H locs hp hP hS => ?_)
  obtain rfl : z_1 = b2i (0 ≤ hs ∧ hs ≤ 2) := hp
  refine zi_ifb_ne (tgt := 12) hF.1 hF.2.1 (P := 0 ≤ hs ∧ hs ≤ 2) dX4_noise_5 (by decide) (fun c_5 => ?_) (fun c_5 => ?_)
  · skip
    refine lv_iload_n hF.1 hF.2.1 dX4_noise_12 rfl (lv_at hl 1 rfl) ?_
    refine z_ci (S := Unit) (w := fun _ => mC c h τ κ) (P := fun z _ => z = b2i (0 ≤ mi ∧ mi ≤ 999)) (z_runS (rm := { frames := 1, cells := 0, slots := 0, locals := 22 }) hF hK hP (c_X4_isMinute l h D c τ κ hinj hG mi (by omega) _) (gIn_S mw_485 mw_486 mw_447 mw_444) rfl rfl ⟨rfl, by decide, by decide, rfl⟩ ⟨Nat.le_of_ble_eq_true rfl, Nat.le_of_ble_eq_true rfl⟩ (As := [.int (iz (mi))]) (rest := [.ref (h (0))]) rfl hl.1 rfl (Nat.le_of_ble_eq_true rfl) dX4_noise_13 ⟨Nat.le_refl _, Nat.le_refl _⟩) hz hA hS (fun z_3 u_4 H locs hp hP hS => ?_)
    obtain rfl : z_3 = b2i (0 ≤ mi ∧ mi ≤ 999) := hp
    refine zi_ifb_eq (tgt := 23) hF.1 hF.2.1 (P := 0 ≤ mi ∧ mi ≤ 999) dX4_noise_16 (by decide) (fun c_16 => ?_) (fun c_16 => ?_)
    · skip
      refine zi_const hF.1 hF.2.1 dX4_noise_23 ?_
      refine z_put hF hK hz hP hS (k := 0) (C := RX4) (T := TX4) (N := 22) (by omega) (rfl) rfl uin_X4 tyX4_ok nmX4 21 (by decide) mw_442 rfl (⟨rfl, rfl⟩) (by simp) (g' := mC c h (τ) (u2 (κ) 1 0 (2))) (rfl) (mC_t_o) dX4_noise_24 (fun H locs hP hS => ?_)
      refine lv_aload_n hF.1 hF.2.1 dX4_noise_27 rfl (lv_at hl 0 rfl) ?_
      refine z_get hF hK hP (k := 0) (C := RX4) (T := TX4) (N := 22) (by omega) (rfl) rfl uin_X4 21 (by decide) mw_442 (v := .int (iz (2))) rfl dX4_noise_28 ?_
      refine zi_if_le (tgt := 38) hF.1 hF.2.1 (a := 2) dX4_noise_31 (by decide) (by omega) (fun c_31 => ?_) (fun c_31 => ?_)
      · skip
        exact absurd c_31 (by omega)
      · skip
        refine zi_const hF.1 hF.2.1 dX4_noise_34 ?_
        refine lv_goto (tgt := 44) hF.1 hF.2.1 dX4_noise_35 (by decide) ?_
        exact z_reti (P := fun z κ9 => κ9 1 0 = thP hs mi ∧ (thP hs mi = 0 → z = nsS τ mi (wd τ mi) hs.toNat 17)) (z := 0) (u := u2 (κ) 1 0 (2)) (w := fun κ9 => mC c h τ κ9) hF hr hlocks hP hS (rfl) (⟨by have e9 : (u2 (κ) 1 0 (2)) 1 0 = (2 : Int) := rfl; show (u2 (κ) 1 0 (2)) 1 0 = _; rw [e9]; unfold thP; (repeat' split) <;> omega, fun q9 => by unfold thP at q9; (repeat' split at q9) <;> omega⟩) dX4_noise_44
    · skip
      refine zi_const hF.1 hF.2.1 dX4_noise_19 ?_
      refine lv_goto (tgt := 24) hF.1 hF.2.1 dX4_noise_20 (by decide) ?_
      refine z_put hF hK hz hP hS (k := 0) (C := RX4) (T := TX4) (N := 22) (by omega) (rfl) rfl uin_X4 tyX4_ok nmX4 21 (by decide) mw_442 rfl (⟨rfl, rfl⟩) (by simp) (g' := mC c h (τ) (u2 (κ) 1 0 (0))) (rfl) (mC_t_o) dX4_noise_24 (fun H locs hP hS => ?_)
      refine lv_aload_n hF.1 hF.2.1 dX4_noise_27 rfl (lv_at hl 0 rfl) ?_
      refine z_get hF hK hP (k := 0) (C := RX4) (T := TX4) (N := 22) (by omega) (rfl) rfl uin_X4 21 (by decide) mw_442 (v := .int (iz (0))) rfl dX4_noise_28 ?_
      refine zi_if_le (tgt := 38) hF.1 hF.2.1 (a := 0) dX4_noise_31 (by decide) (by omega) (fun c_31 => ?_) (fun c_31 => ?_)
      · skip
        have e_5 : hs = ((hs.toNat : Nat) : Int) := (Int.toNat_of_nonneg (by omega)).symm
        have hl : lv_has ls 3 [(0, .ref (h (0))), (1, .int (iz (mi))), (2, .int (iz (((hs.toNat : Nat) : Int))))] := by rw [← e_5]; exact hl
        refine lv_aload_n hF.1 hF.2.1 dX4_noise_38 rfl (lv_at hl 0 rfl) ?_
        refine lv_iload_n hF.1 hF.2.1 dX4_noise_39 rfl (lv_at hl 1 rfl) ?_
        refine lv_iload_n hF.1 hF.2.1 dX4_noise_40 rfl (lv_at hl 2 rfl) ?_
        refine z_ci (S := Unit) (w := fun _ => mC c h τ (u2 (κ) 1 0 (0))) (P := fun z _ => z = nsS τ mi (wd τ mi) ((hs.toNat)) 17) (z_runV (rm := { frames := 1, cells := 0, slots := 0, locals := 22 }) hF hK hP (c_X4_noisy l h D c τ (u2 (κ) 1 0 (0)) hinj hG mi (by omega) ((hs.toNat)) (by omega) _) (gIn_V mw_468 mw_469 mw_470 mw_447 mw_454) rfl rfl ⟨rfl, by decide, by decide, rfl⟩ ⟨Nat.le_of_ble_eq_true rfl, Nat.le_of_ble_eq_true rfl⟩ (k := 0) (T := TX4) (N := 22) (by omega) rfl (rfl) rfl (As := [.int (iz (mi)), .int (iz (((hs.toNat : Nat) : Int)))]) (rest := []) rfl hl.1 rfl (Nat.le_of_ble_eq_true rfl) dX4_noise_41 ⟨Nat.le_refl _, Nat.le_refl _⟩) hz hA hS (fun z_6 u_7 H locs hp hP hS => ?_)
        obtain rfl : z_6 = nsS τ mi (wd τ mi) ((hs.toNat)) 17 := hp
        have q_8 := @nsS_rg τ hG mi (wd τ mi) (GI_4 hG (mi / 60).toNat) ((hs.toNat)) 17
        exact z_reti (P := fun z κ9 => κ9 1 0 = thP hs mi ∧ (thP hs mi = 0 → z = nsS τ mi (wd τ mi) hs.toNat 17)) (z := nsS τ mi (wd τ mi) ((hs.toNat)) 17) (u := u2 (κ) 1 0 (0)) (w := fun κ9 => mC c h τ κ9) hF hr hlocks hP hS (rfl) (⟨by have e9 : (u2 (κ) 1 0 (0)) 1 0 = (0 : Int) := rfl; show (u2 (κ) 1 0 (0)) 1 0 = _; rw [e9]; unfold thP; (repeat' split) <;> omega, fun q9 => by rfl⟩) dX4_noise_44
      · skip
        exact absurd c_31 (by omega)
  · skip
    refine zi_const hF.1 hF.2.1 dX4_noise_8 ?_
    refine lv_goto (tgt := 24) hF.1 hF.2.1 dX4_noise_9 (by decide) ?_
    refine z_put hF hK hz hP hS (k := 0) (C := RX4) (T := TX4) (N := 22) (by omega) (rfl) rfl uin_X4 tyX4_ok nmX4 21 (by decide) mw_442 rfl (⟨rfl, rfl⟩) (by simp) (g' := mC c h (τ) (u2 (κ) 1 0 (1))) (rfl) (mC_t_o) dX4_noise_24 (fun H locs hP hS => ?_)
    refine lv_aload_n hF.1 hF.2.1 dX4_noise_27 rfl (lv_at hl 0 rfl) ?_
    refine z_get hF hK hP (k := 0) (C := RX4) (T := TX4) (N := 22) (by omega) (rfl) rfl uin_X4 21 (by decide) mw_442 (v := .int (iz (1))) rfl dX4_noise_28 ?_
    refine zi_if_le (tgt := 38) hF.1 hF.2.1 (a := 1) dX4_noise_31 (by decide) (by omega) (fun c_31 => ?_) (fun c_31 => ?_)
    · skip
      exact absurd c_31 (by omega)
    · skip
      refine zi_const hF.1 hF.2.1 dX4_noise_34 ?_
      refine lv_goto (tgt := 44) hF.1 hF.2.1 dX4_noise_35 (by decide) ?_
      exact z_reti (P := fun z κ9 => κ9 1 0 = thP hs mi ∧ (thP hs mi = 0 → z = nsS τ mi (wd τ mi) hs.toNat 17)) (z := 0) (u := u2 (κ) 1 0 (1)) (w := fun κ9 => mC c h τ κ9) hF hr hlocks hP hS (rfl) (⟨by have e9 : (u2 (κ) 1 0 (1)) 1 0 = (1 : Int) := rfl; show (u2 (κ) 1 0 (1)) 1 0 = _; rw [e9]; unfold thP; (repeat' split) <;> omega, fun q9 => by unfold thP at q9; (repeat' split at q9) <;> omega⟩) dX4_noise_44

set_option maxRecDepth 100000 in
set_option maxHeartbeats 4000000 in
theorem c_X4_isFineByMinutes (l : Launch) (h : Nat → Nat) (D : va_G) (c : Nat → ClassId) (τ κ : Nat → Nat → Int) (hinj : ∀ i j, i < 17 → j < 17 → h i = h j → i = j) (hG : GI τ)  :
    zMi (S := Nat → Nat → Int) l yX4_isFineByMinutes cX4_isFineByMinutes 1 (some .boolean) 4 94 [.ref (h (0))] 17 h D (gT c) (mC c h (τ) (κ)) (fun κ9 => mC c h τ κ9) (fun z κ9 => κ9 1 0 = 0 ∧ z = b2i (wrg τ = 0)) := by
  refine zM_of (by decide) (Nat.le_of_ble_eq_true rfl) ?_
  intro p e s m below meth cd ls ⟨hF, hr, hlocks, hK⟩ hP hl
  have hz : zD (zA 17 h s.heap.size) 17 h := zD.self hinj s.heap.size
  have hA : ∀ q, s.heap.size ≤ q → zA 17 h s.heap.size q := zA_new
  generalize zA 17 h s.heap.size = A at hz hA ⊢
  have hS : va_S A s.heap s.heap [] := va_S.rf
  have hl : lv_has ls 1 [(0, .ref (h (0)))] := hl
  refine lv_aload_n hF.1 hF.2.1 dX4_isFineByMinutes_0 rfl (lv_at hl 0 rfl) ?_
  refine zi_const hF.1 hF.2.1 dX4_isFineByMinutes_1 ?_
  refine z_put hF hK hz hP hS (k := 0) (C := RX4) (T := TX4) (N := 22) (by omega) (rfl) rfl uin_X4 tyX4_ok nmX4 21 (by decide) mw_442 rfl (⟨rfl, rfl⟩) (by simp) (g' := mC c h (τ) (u2 (κ) 1 0 (0))) (rfl) (mC_t_o) dX4_isFineByMinutes_2 (fun H locs hP hS => ?_)
  refine lv_aload_n hF.1 hF.2.1 dX4_isFineByMinutes_5 rfl (lv_at hl 0 rfl) ?_
  refine z_ci (S := Nat → Nat → Int) (w := fun κ9 => mC c h τ κ9) (P := fun z κ9 => z = wrg τ ∧ κ9 1 = (u2 (κ) 1 0 (0)) 1) (z_runV (rm := { frames := 3, cells := 0, slots := 0, locals := 71 }) hF hK hP (c_X4_wrong l h D c τ (u2 (κ) 1 0 (0)) hinj hG  _) (gIn_V mw_489 mw_490 mw_491 mw_447 mw_483) rfl rfl ⟨rfl, by decide, by decide, rfl⟩ ⟨Nat.le_of_ble_eq_true rfl, Nat.le_of_ble_eq_true rfl⟩ (k := 0) (T := TX4) (N := 22) (by omega) rfl (rfl) rfl (As := []) (rest := []) rfl hl.1 rfl (Nat.le_of_ble_eq_true rfl) dX4_isFineByMinutes_6 ⟨Nat.le_refl _, Nat.le_refl _⟩) hz hA hS (fun z_1 u_2 H locs hp hP hS => ?_)
  obtain ⟨rfl, hku_2⟩ : z_1 = wrg τ ∧ u_2 1 = (u2 (κ) 1 0 (0)) 1 := hp
  have hP : zB 17 h D (mC c h (τ) (u_2)) H := hP
  have q_3 := @wrg_rg τ
  refine zi_if_ne (tgt := 16) hF.1 hF.2.1 (a := wrg τ) dX4_isFineByMinutes_9 (by decide) (by omega) (fun c_9 => ?_) (fun c_9 => ?_)
  · skip
    refine zi_const hF.1 hF.2.1 dX4_isFineByMinutes_16 ?_
    exact z_reti (P := fun z κ9 => κ9 1 0 = 0 ∧ z = b2i (wrg τ = 0)) (z := 0) (u := u_2) (w := fun κ9 => mC c h τ κ9) hF hr hlocks hP hS ((iz_nar_z (by first | omega | exact b2i_rg)).1) (⟨by rw [hku_2]; rfl, by first | exact (b2i_t (by omega)).symm | exact (b2i_f (by omega)).symm⟩) dX4_isFineByMinutes_17
  · skip
    refine zi_const hF.1 hF.2.1 dX4_isFineByMinutes_12 ?_
    refine lv_goto (tgt := 17) hF.1 hF.2.1 dX4_isFineByMinutes_13 (by decide) ?_
    exact z_reti (P := fun z κ9 => κ9 1 0 = 0 ∧ z = b2i (wrg τ = 0)) (z := 1) (u := u_2) (w := fun κ9 => mC c h τ κ9) hF hr hlocks hP hS ((iz_nar_z (by first | omega | exact b2i_rg)).1) (⟨by rw [hku_2]; rfl, by first | exact (b2i_t (by omega)).symm | exact (b2i_f (by omega)).symm⟩) dX4_isFineByMinutes_17

set_option maxRecDepth 100000 in
set_option maxHeartbeats 4000000 in
theorem c_X4_bounded (l : Launch) (h : Nat → Nat) (D : va_G) (c : Nat → ClassId) (τ κ : Nat → Nat → Int) (hinj : ∀ i j, i < 17 → j < 17 → h i = h j → i = j) (hG : GI τ) (x : Int) (hx : -1000 ≤ x ∧ x ≤ 1000) :
    zMi (S := Unit) l yX4_bounded cX4_bounded 1 (some .int) 0 0 [.int (iz (x))] 17 h D (gT c) (mC c h (τ) (κ)) (fun _ => mC c h τ κ) (fun z _ => z = max 0 (min x 200)) := by
  refine zM_of (by decide) (Nat.le_of_ble_eq_true rfl) ?_
  intro p e s m below meth cd ls ⟨hF, hr, hlocks, hK⟩ hP hl
  have hz : zD (zA 17 h s.heap.size) 17 h := zD.self hinj s.heap.size
  have hA : ∀ q, s.heap.size ≤ q → zA 17 h s.heap.size q := zA_new
  generalize zA 17 h s.heap.size = A at hz hA ⊢
  have hS : va_S A s.heap s.heap [] := va_S.rf
  have hl : lv_has ls 1 [(0, .int (iz (x)))] := hl
  refine lv_iload_n hF.1 hF.2.1 dX4_bounded_0 rfl (lv_at hl 0 rfl) ?_
  refine zi_if_ge (tgt := 8) hF.1 hF.2.1 (a := x) dX4_bounded_1 (by decide) (by omega) (fun c_1 => ?_) (fun c_1 => ?_)
  · skip
    refine lv_iload_n hF.1 hF.2.1 dX4_bounded_8 rfl (lv_at hl 0 rfl) ?_
    refine zi_sipush hF.1 hF.2.1 dX4_bounded_9 (by decide) ?_
    refine zi_icmp_le (tgt := 21) hF.1 hF.2.1 (a := x) (b := 200) dX4_bounded_12 (by decide) (by omega) (by omega) (fun c_12 => ?_) (fun c_12 => ?_)
    · skip
      refine lv_iload_n hF.1 hF.2.1 dX4_bounded_21 rfl (lv_at hl 0 rfl) ?_
      exact z_reti (P := fun z _ => z = max 0 (min x 200)) (z := x) (u := ()) (w := fun _ => mC c h τ κ) hF hr hlocks hP hS (rfl) (by omega) dX4_bounded_22
    · skip
      refine zi_sipush hF.1 hF.2.1 dX4_bounded_15 (by decide) ?_
      refine lv_goto (tgt := 22) hF.1 hF.2.1 dX4_bounded_18 (by decide) ?_
      exact z_reti (P := fun z _ => z = max 0 (min x 200)) (z := 200) (u := ()) (w := fun _ => mC c h τ κ) hF hr hlocks hP hS (rfl) (by omega) dX4_bounded_22
  · skip
    refine zi_const hF.1 hF.2.1 dX4_bounded_4 ?_
    refine lv_goto (tgt := 22) hF.1 hF.2.1 dX4_bounded_5 (by decide) ?_
    exact z_reti (P := fun z _ => z = max 0 (min x 200)) (z := 0) (u := ()) (w := fun _ => mC c h τ κ) hF hr hlocks hP hS (rfl) (by omega) dX4_bounded_22

set_option maxRecDepth 100000 in
set_option maxHeartbeats 4000000 in
theorem c_X4_ofAct (l : Launch) (h : Nat → Nat) (D : va_G) (c : Nat → ClassId) (τ κ : Nat → Nat → Int) (hinj : ∀ i j, i < 17 → j < 17 → h i = h j → i = j) (hG : GI τ) (a : Int) (ha : -2147483648 ≤ a ∧ a ≤ 2147483647) (wh : Int) (hwh : -2147483648 ≤ wh ∧ wh ≤ 2147483647) :
    zMi (S := Nat → Nat → Int) l yX4_ofAct cX4_ofAct 3 (some .int) 2 43 [.ref (h (0)), .int (iz (a)), .int (iz (wh))] 17 h D (gT c) (mC c h (τ) (κ)) (fun κ9 => mC c h τ κ9) (fun z κ9 => κ9 1 0 = thO τ a wh ∧ (thO τ a wh = 0 → z = if wh = 0 then τ 11 a.toNat else if wh = 1 then τ 12 a.toNat else τ 13 a.toNat)) := by
  refine zM_of (by decide) (Nat.le_of_ble_eq_true rfl) ?_
  intro p e s m below meth cd ls ⟨hF, hr, hlocks, hK⟩ hP hl
  have hz : zD (zA 17 h s.heap.size) 17 h := zD.self hinj s.heap.size
  have hA : ∀ q, s.heap.size ≤ q → zA 17 h s.heap.size q := zA_new
  generalize zA 17 h s.heap.size = A at hz hA ⊢
  have hS : va_S A s.heap s.heap [] := va_S.rf
  have hl : lv_has ls 3 [(0, .ref (h (0))), (1, .int (iz (a))), (2, .int (iz (wh)))] := hl
  refine lv_aload_n hF.1 hF.2.1 dX4_ofAct_0 rfl (lv_at hl 0 rfl) ?_
  refine lv_aload_n hF.1 hF.2.1 dX4_ofAct_1 rfl (lv_at hl 0 rfl) ?_
  refine lv_iload_n hF.1 hF.2.1 dX4_ofAct_2 rfl (lv_at hl 1 rfl) ?_
  refine z_ci (S := Unit) (w := fun _ => mC c h τ κ) (P := fun z _ => z = b2i (0 ≤ a ∧ a ≤ τ 0 1 - 1)) (z_runV (rm := { frames := 1, cells := 0, slots := 0, locals := 22 }) hF hK hP (c_X4_isAct l h D c τ κ hinj hG a (by omega) _) (gIn_V mw_503 mw_504 mw_505 mw_447 mw_502) rfl rfl ⟨rfl, by decide, by decide, rfl⟩ ⟨Nat.le_of_ble_eq_true rfl, Nat.le_of_ble_eq_true rfl⟩ (k := 0) (T := TX4) (N := 22) (by omega) rfl (rfl) rfl (As := [.int (iz (a))]) (rest := [.ref (h (0))]) rfl hl.1 rfl (Nat.le_of_ble_eq_true rfl) dX4_ofAct_3 ⟨Nat.le_refl _, Nat.le_refl _⟩) hz hA hS (fun z_1 u_2 H locs hp hP hS => ?_)
  obtain rfl : z_1 = b2i (0 ≤ a ∧ a ≤ τ 0 1 - 1) := hp
  have q_3 := GI_01 hG
  refine zi_ifb_eq (tgt := 20) hF.1 hF.2.1 (P := 0 ≤ a ∧ a ≤ τ 0 1 - 1) dX4_ofAct_6 (by decide) (fun c_6 => ?_) (fun c_6 => ?_)
  · skip
    refine zi_const hF.1 hF.2.1 dX4_ofAct_20 ?_
    refine z_put hF hK hz hP hS (k := 0) (C := RX4) (T := TX4) (N := 22) (by omega) (rfl) rfl uin_X4 tyX4_ok nmX4 21 (by decide) mw_442 rfl (⟨rfl, rfl⟩) (by simp) (g' := mC c h (τ) (u2 (κ) 1 0 (1))) (rfl) (mC_t_o) dX4_ofAct_21 (fun H locs hP hS => ?_)
    refine lv_aload_n hF.1 hF.2.1 dX4_ofAct_24 rfl (lv_at hl 0 rfl) ?_
    refine z_get hF hK hP (k := 0) (C := RX4) (T := TX4) (N := 22) (by omega) (rfl) rfl uin_X4 21 (by decide) mw_442 (v := .int (iz (1))) rfl dX4_ofAct_25 ?_
    refine zi_if_le (tgt := 35) hF.1 hF.2.1 (a := 1) dX4_ofAct_28 (by decide) (by omega) (fun c_28 => ?_) (fun c_28 => ?_)
    · skip
      exact absurd c_28 (by omega)
    · skip
      refine zi_const hF.1 hF.2.1 dX4_ofAct_31 ?_
      refine lv_goto (tgt := 68) hF.1 hF.2.1 dX4_ofAct_32 (by decide) ?_
      exact z_reti (P := fun z κ9 => κ9 1 0 = thO τ a wh ∧ (thO τ a wh = 0 → z = if wh = 0 then τ 11 a.toNat else if wh = 1 then τ 12 a.toNat else τ 13 a.toNat)) (z := 0) (u := u2 (κ) 1 0 (1)) (w := fun κ9 => mC c h τ κ9) hF hr hlocks hP hS (rfl) (⟨by have e9 : (u2 (κ) 1 0 (1)) 1 0 = (1 : Int) := rfl; show (u2 (κ) 1 0 (1)) 1 0 = _; rw [e9]; unfold thO; (repeat' split) <;> omega, fun q9 => by unfold thO at q9; (repeat' split at q9) <;> (try (repeat' split)) <;> omega⟩) dX4_ofAct_68
  · skip
    refine lv_iload_n hF.1 hF.2.1 dX4_ofAct_9 rfl (lv_at hl 2 rfl) ?_
    refine z_ci (S := Unit) (w := fun _ => mC c h τ κ) (P := fun z _ => z = b2i (0 ≤ wh ∧ wh ≤ 2)) (z_runS (rm := { frames := 1, cells := 0, slots := 0, locals := 22 }) hF hK hP (c_X4_isThree l h D c τ κ hinj hG wh (by omega) _) (gIn_S mw_487 mw_488 mw_447 mw_448) rfl rfl ⟨rfl, by decide, by decide, rfl⟩ ⟨Nat.le_of_ble_eq_true rfl, Nat.le_of_ble_eq_true rfl⟩ (As := [.int (iz (wh))]) (rest := [.ref (h (0))]) rfl hl.1 rfl (Nat.le_of_ble_eq_true rfl) dX4_ofAct_10 ⟨Nat.le_refl _, Nat.le_refl _⟩) hz hA hS (fun z_4 u_5 H locs hp hP hS => ?_)
    obtain rfl : z_4 = b2i (0 ≤ wh ∧ wh ≤ 2) := hp
    refine zi_ifb_eq (tgt := 20) hF.1 hF.2.1 (P := 0 ≤ wh ∧ wh ≤ 2) dX4_ofAct_13 (by decide) (fun c_13 => ?_) (fun c_13 => ?_)
    · skip
      refine zi_const hF.1 hF.2.1 dX4_ofAct_20 ?_
      refine z_put hF hK hz hP hS (k := 0) (C := RX4) (T := TX4) (N := 22) (by omega) (rfl) rfl uin_X4 tyX4_ok nmX4 21 (by decide) mw_442 rfl (⟨rfl, rfl⟩) (by simp) (g' := mC c h (τ) (u2 (κ) 1 0 (1))) (rfl) (mC_t_o) dX4_ofAct_21 (fun H locs hP hS => ?_)
      refine lv_aload_n hF.1 hF.2.1 dX4_ofAct_24 rfl (lv_at hl 0 rfl) ?_
      refine z_get hF hK hP (k := 0) (C := RX4) (T := TX4) (N := 22) (by omega) (rfl) rfl uin_X4 21 (by decide) mw_442 (v := .int (iz (1))) rfl dX4_ofAct_25 ?_
      refine zi_if_le (tgt := 35) hF.1 hF.2.1 (a := 1) dX4_ofAct_28 (by decide) (by omega) (fun c_28 => ?_) (fun c_28 => ?_)
      · skip
        exact absurd c_28 (by omega)
      · skip
        refine zi_const hF.1 hF.2.1 dX4_ofAct_31 ?_
        refine lv_goto (tgt := 68) hF.1 hF.2.1 dX4_ofAct_32 (by decide) ?_
        exact z_reti (P := fun z κ9 => κ9 1 0 = thO τ a wh ∧ (thO τ a wh = 0 → z = if wh = 0 then τ 11 a.toNat else if wh = 1 then τ 12 a.toNat else τ 13 a.toNat)) (z := 0) (u := u2 (κ) 1 0 (1)) (w := fun κ9 => mC c h τ κ9) hF hr hlocks hP hS (rfl) (⟨by have e9 : (u2 (κ) 1 0 (1)) 1 0 = (1 : Int) := rfl; show (u2 (κ) 1 0 (1)) 1 0 = _; rw [e9]; unfold thO; (repeat' split) <;> omega, fun q9 => by unfold thO at q9; (repeat' split at q9) <;> (try (repeat' split)) <;> omega⟩) dX4_ofAct_68
    · skip
      refine zi_const hF.1 hF.2.1 dX4_ofAct_16 ?_
      refine lv_goto (tgt := 21) hF.1 hF.2.1 dX4_ofAct_17 (by decide) ?_
      refine z_put hF hK hz hP hS (k := 0) (C := RX4) (T := TX4) (N := 22) (by omega) (rfl) rfl uin_X4 tyX4_ok nmX4 21 (by decide) mw_442 rfl (⟨rfl, rfl⟩) (by simp) (g' := mC c h (τ) (u2 (κ) 1 0 (0))) (rfl) (mC_t_o) dX4_ofAct_21 (fun H locs hP hS => ?_)
      refine lv_aload_n hF.1 hF.2.1 dX4_ofAct_24 rfl (lv_at hl 0 rfl) ?_
      refine z_get hF hK hP (k := 0) (C := RX4) (T := TX4) (N := 22) (by omega) (rfl) rfl uin_X4 21 (by decide) mw_442 (v := .int (iz (0))) rfl dX4_ofAct_25 ?_
      refine zi_if_le (tgt := 35) hF.1 hF.2.1 (a := 0) dX4_ofAct_28 (by decide) (by omega) (fun c_28 => ?_) (fun c_28 => ?_)
      · skip
        refine lv_iload_n hF.1 hF.2.1 dX4_ofAct_35 rfl (lv_at hl 2 rfl) ?_
        refine zi_if_ne (tgt := 48) hF.1 hF.2.1 (a := wh) dX4_ofAct_36 (by decide) (by omega) (fun c_36 => ?_) (fun c_36 => ?_)
        · skip
          refine lv_iload_n hF.1 hF.2.1 dX4_ofAct_48 rfl (lv_at hl 2 rfl) ?_
          refine zi_const hF.1 hF.2.1 dX4_ofAct_49 ?_
          refine zi_icmp_ne (tgt := 62) hF.1 hF.2.1 (a := wh) (b := 1) dX4_ofAct_50 (by decide) (by omega) (by omega) (fun c_50 => ?_) (fun c_50 => ?_)
          · skip
            refine lv_aload_n hF.1 hF.2.1 dX4_ofAct_62 rfl (lv_at hl 0 rfl) ?_
            refine z_get hF hK hP (k := 0) (C := RX4) (T := TX4) (N := 22) (by omega) (rfl) rfl uin_X4 12 (by decide) mw_434 (v := .ref (h (11))) rfl dX4_ofAct_63 ?_
            refine lv_iload_n hF.1 hF.2.1 dX4_ofAct_66 rfl (lv_at hl 1 rfl) ?_
            refine z_iald hF hK hP (k := 11) (by decide) rfl 0 rfl (i := a) ((a).toNat) ((Int.toNat_of_nonneg (by omega)).symm) (by omega) (by decide) (x := iz (τ 13 (a).toNat)) rfl dX4_ofAct_67 ?_
            have q_6 := GI_13 hG ((a).toNat)
            exact z_reti (P := fun z κ9 => κ9 1 0 = thO τ a wh ∧ (thO τ a wh = 0 → z = if wh = 0 then τ 11 a.toNat else if wh = 1 then τ 12 a.toNat else τ 13 a.toNat)) (z := τ 13 (a).toNat) (u := u2 (κ) 1 0 (0)) (w := fun κ9 => mC c h τ κ9) hF hr hlocks hP hS (rfl) (⟨by have e9 : (u2 (κ) 1 0 (0)) 1 0 = (0 : Int) := rfl; show (u2 (κ) 1 0 (0)) 1 0 = _; rw [e9]; unfold thO; (repeat' split) <;> omega, fun q9 => by unfold thO at q9; (repeat' split at q9) <;> (try (repeat' split)) <;> omega⟩) dX4_ofAct_68
          · skip
            refine lv_aload_n hF.1 hF.2.1 dX4_ofAct_53 rfl (lv_at hl 0 rfl) ?_
            refine z_get hF hK hP (k := 0) (C := RX4) (T := TX4) (N := 22) (by omega) (rfl) rfl uin_X4 11 (by decide) mw_433 (v := .ref (h (10))) rfl dX4_ofAct_54 ?_
            refine lv_iload_n hF.1 hF.2.1 dX4_ofAct_57 rfl (lv_at hl 1 rfl) ?_
            refine z_iald hF hK hP (k := 10) (by decide) rfl 0 rfl (i := a) ((a).toNat) ((Int.toNat_of_nonneg (by omega)).symm) (by omega) (by decide) (x := iz (τ 12 (a).toNat)) rfl dX4_ofAct_58 ?_
            have q_7 := GI_12 hG ((a).toNat)
            refine lv_goto (tgt := 68) hF.1 hF.2.1 dX4_ofAct_59 (by decide) ?_
            exact z_reti (P := fun z κ9 => κ9 1 0 = thO τ a wh ∧ (thO τ a wh = 0 → z = if wh = 0 then τ 11 a.toNat else if wh = 1 then τ 12 a.toNat else τ 13 a.toNat)) (z := τ 12 (a).toNat) (u := u2 (κ) 1 0 (0)) (w := fun κ9 => mC c h τ κ9) hF hr hlocks hP hS (rfl) (⟨by have e9 : (u2 (κ) 1 0 (0)) 1 0 = (0 : Int) := rfl; show (u2 (κ) 1 0 (0)) 1 0 = _; rw [e9]; unfold thO; (repeat' split) <;> omega, fun q9 => by unfold thO at q9; (repeat' split at q9) <;> (try (repeat' split)) <;> omega⟩) dX4_ofAct_68
        · skip
          refine lv_aload_n hF.1 hF.2.1 dX4_ofAct_39 rfl (lv_at hl 0 rfl) ?_
          refine z_get hF hK hP (k := 0) (C := RX4) (T := TX4) (N := 22) (by omega) (rfl) rfl uin_X4 10 (by decide) mw_432 (v := .ref (h (9))) rfl dX4_ofAct_40 ?_
          refine lv_iload_n hF.1 hF.2.1 dX4_ofAct_43 rfl (lv_at hl 1 rfl) ?_
          refine z_iald hF hK hP (k := 9) (by decide) rfl 0 rfl (i := a) ((a).toNat) ((Int.toNat_of_nonneg (by omega)).symm) (by omega) (by decide) (x := iz (τ 11 (a).toNat)) rfl dX4_ofAct_44 ?_
          have q_8 := GI_11 hG ((a).toNat)
          refine lv_goto (tgt := 68) hF.1 hF.2.1 dX4_ofAct_45 (by decide) ?_
          exact z_reti (P := fun z κ9 => κ9 1 0 = thO τ a wh ∧ (thO τ a wh = 0 → z = if wh = 0 then τ 11 a.toNat else if wh = 1 then τ 12 a.toNat else τ 13 a.toNat)) (z := τ 11 (a).toNat) (u := u2 (κ) 1 0 (0)) (w := fun κ9 => mC c h τ κ9) hF hr hlocks hP hS (rfl) (⟨by have e9 : (u2 (κ) 1 0 (0)) 1 0 = (0 : Int) := rfl; show (u2 (κ) 1 0 (0)) 1 0 = _; rw [e9]; unfold thO; (repeat' split) <;> omega, fun q9 => by unfold thO at q9; (repeat' split at q9) <;> (try (repeat' split)) <;> omega⟩) dX4_ofAct_68
      · skip
        exact absurd c_28 (by omega)

set_option maxRecDepth 100000 in
set_option maxHeartbeats 4000000 in
theorem c_X4_channels (l : Launch) (h : Nat → Nat) (D : va_G) (c : Nat → ClassId) (τ κ : Nat → Nat → Int) (hinj : ∀ i j, i < 17 → j < 17 → h i = h j → i = j) (hG : GI τ) (mi : Int) (hmi : -2147483648 ≤ mi ∧ mi ≤ 2147483647) :
    zMi (S := Nat → Nat → Int) l yX4_channels cX4_channels 4 (some .int) 2 44 [.ref (h (0)), .int (iz (mi))] 17 h D (gT c) (mC c h (τ) (κ)) (fun κ9 => mC c h τ κ9) (fun z κ9 => κ9 1 0 = thK mi ∧ (thK mi = 0 → z = chM τ mi 17)) := by
  refine zM_of (by decide) (Nat.le_of_ble_eq_true rfl) ?_
  intro p e s m below meth cd ls ⟨hF, hr, hlocks, hK⟩ hP hl
  have hz : zD (zA 17 h s.heap.size) 17 h := zD.self hinj s.heap.size
  have hA : ∀ q, s.heap.size ≤ q → zA 17 h s.heap.size q := zA_new
  generalize zA 17 h s.heap.size = A at hz hA ⊢
  have hS : va_S A s.heap s.heap [] := va_S.rf
  have hl : lv_has ls 4 [(0, .ref (h (0))), (1, .int (iz (mi)))] := hl
  refine lv_aload_n hF.1 hF.2.1 dX4_channels_0 rfl (lv_at hl 0 rfl) ?_
  refine lv_iload_n hF.1 hF.2.1 dX4_channels_1 rfl (lv_at hl 1 rfl) ?_
  refine z_ci (S := Unit) (w := fun _ => mC c h τ κ) (P := fun z _ => z = b2i (0 ≤ mi ∧ mi ≤ 999)) (z_runS (rm := { frames := 1, cells := 0, slots := 0, locals := 22 }) hF hK hP (c_X4_isMinute l h D c τ κ hinj hG mi (by omega) _) (gIn_S mw_485 mw_486 mw_447 mw_444) rfl rfl ⟨rfl, by decide, by decide, rfl⟩ ⟨Nat.le_of_ble_eq_true rfl, Nat.le_of_ble_eq_true rfl⟩ (As := [.int (iz (mi))]) (rest := [.ref (h (0))]) rfl hl.1 rfl (Nat.le_of_ble_eq_true rfl) dX4_channels_2 ⟨Nat.le_refl _, Nat.le_refl _⟩) hz hA hS (fun z_1 u_2 H locs hp hP hS => ?_)
  obtain rfl : z_1 = b2i (0 ≤ mi ∧ mi ≤ 999) := hp
  refine zi_ifb_eq (tgt := 12) hF.1 hF.2.1 (P := 0 ≤ mi ∧ mi ≤ 999) dX4_channels_5 (by decide) (fun c_5 => ?_) (fun c_5 => ?_)
  · skip
    refine zi_const hF.1 hF.2.1 dX4_channels_12 ?_
    refine z_put hF hK hz hP hS (k := 0) (C := RX4) (T := TX4) (N := 22) (by omega) (rfl) rfl uin_X4 tyX4_ok nmX4 21 (by decide) mw_442 rfl (⟨rfl, rfl⟩) (by simp) (g' := mC c h (τ) (u2 (κ) 1 0 (1))) (rfl) (mC_t_o) dX4_channels_13 (fun H locs hP hS => ?_)
    refine zi_const hF.1 hF.2.1 dX4_channels_16 ?_
    refine lv_istore_n (lv' := [(2, .int (iz (0))), (0, .ref (h (0))), (1, .int (iz (mi)))]) hF.1 hF.2.1 dX4_channels_17 rfl hl (by decide) rfl (fun ls hl => ?_)
    refine zi_const hF.1 hF.2.1 dX4_channels_18 ?_
    refine lv_istore_n (lv' := [(3, .int (iz (0))), (2, .int (iz (0))), (0, .ref (h (0))), (1, .int (iz (mi)))]) hF.1 hF.2.1 dX4_channels_19 rfl hl (by decide) rfl (fun ls hl => ?_)
    refine lv_iload_n hF.1 hF.2.1 dX4_channels_20 rfl (lv_at hl 0 rfl) ?_
    refine zi_bipush hF.1 hF.2.1 dX4_channels_21 (by decide) ?_
    refine zi_icmp_ge (tgt := 63) hF.1 hF.2.1 (a := 0) (b := 17) dX4_channels_23 (by decide) (by omega) (by omega) (fun c_23 => ?_) (fun c_23 => ?_)
    · skip
      exact absurd c_23 (by omega)
    · skip
      refine lv_aload_n hF.1 hF.2.1 dX4_channels_26 rfl (lv_at hl 2 rfl) ?_
      refine z_get hF hK hP (k := 0) (C := RX4) (T := TX4) (N := 22) (by omega) (rfl) rfl uin_X4 21 (by decide) mw_442 (v := .int (iz (1))) rfl dX4_channels_27 ?_
      refine zi_if_ne (tgt := 63) hF.1 hF.2.1 (a := 1) dX4_channels_30 (by decide) (by omega) (fun c_30 => ?_) (fun c_30 => ?_)
      · skip
        refine lv_iload_n hF.1 hF.2.1 dX4_channels_63 rfl (lv_at hl 1 rfl) ?_
        exact z_reti (P := fun z κ9 => κ9 1 0 = thK mi ∧ (thK mi = 0 → z = chM τ mi 17)) (z := 0) (u := u2 (κ) 1 0 (1)) (w := fun κ9 => mC c h τ κ9) hF hr hlocks hP hS (rfl) (⟨by have e9 : (u2 (κ) 1 0 (1)) 1 0 = (1 : Int) := rfl; show (u2 (κ) 1 0 (1)) 1 0 = _; rw [e9]; unfold thK; (repeat' split) <;> omega, fun q9 => by unfold thK at q9; (repeat' split at q9) <;> omega⟩) dX4_channels_64
      · skip
        exact absurd c_30 (by omega)
  · skip
    refine zi_const hF.1 hF.2.1 dX4_channels_8 ?_
    refine lv_goto (tgt := 13) hF.1 hF.2.1 dX4_channels_9 (by decide) ?_
    refine z_put hF hK hz hP hS (k := 0) (C := RX4) (T := TX4) (N := 22) (by omega) (rfl) rfl uin_X4 tyX4_ok nmX4 21 (by decide) mw_442 rfl (⟨rfl, rfl⟩) (by simp) (g' := mC c h (τ) (u2 (κ) 1 0 (0))) (rfl) (mC_t_o) dX4_channels_13 (fun H locs hP hS => ?_)
    refine zi_const hF.1 hF.2.1 dX4_channels_16 ?_
    refine lv_istore_n (lv' := [(2, .int (iz (0))), (0, .ref (h (0))), (1, .int (iz (mi)))]) hF.1 hF.2.1 dX4_channels_17 rfl hl (by decide) rfl (fun ls hl => ?_)
    refine zi_const hF.1 hF.2.1 dX4_channels_18 ?_
    refine lv_istore_n (lv' := [(3, .int (iz (0))), (2, .int (iz (0))), (0, .ref (h (0))), (1, .int (iz (mi)))]) hF.1 hF.2.1 dX4_channels_19 rfl hl (by decide) rfl (fun ls hl => ?_)
    have nv_4 : ((0) ≤ 17) := (by omega)
    refine z_loop (V := Nat) (nL := 4) (wd := fun v_3 => mC c h (τ) (u2 (κ) 1 0 (0))) (lv := fun v_3 => [(0, .ref (h (0))), (1, .int (iz (mi))), (2, .int (iz (chM τ mi v_3))), (3, .int (iz ((v_3 : Int))))]) (stk := fun v_3 => []) (mu := fun v_3 => 18 - v_3) (inv := fun v_3 => (v_3 ≤ 17)) ?_ 0 nv_4 hP hS (lv_sub hl [2, 3, 1, 0] rfl)
    intro i hv ih_20 H locs ls hP hS hl
    have hP : zB 17 h D (mC c h (τ) (u2 (κ) 1 0 (0))) H := hP
    have hl : lv_has ls 4 [(0, .ref (h (0))), (1, .int (iz (mi))), (2, .int (iz (chM τ mi i))), (3, .int (iz ((i : Int))))] := hl
    have hi_i : i ≤ 17 := hv
    refine lv_iload_n hF.1 hF.2.1 dX4_channels_20 rfl (lv_at hl 3 rfl) ?_
    refine zi_bipush hF.1 hF.2.1 dX4_channels_21 (by decide) ?_
    refine zi_icmp_ge (tgt := 63) hF.1 hF.2.1 (a := (i : Int)) (b := 17) dX4_channels_23 (by decide) (by omega) (by omega) (fun c_23 => ?_) (fun c_23 => ?_)
    · skip
      refine lv_iload_n hF.1 hF.2.1 dX4_channels_63 rfl (lv_at hl 2 rfl) ?_
      exact z_reti (P := fun z κ9 => κ9 1 0 = thK mi ∧ (thK mi = 0 → z = chM τ mi 17)) (z := chM τ mi i) (u := u2 (κ) 1 0 (0)) (w := fun κ9 => mC c h τ κ9) hF hr hlocks hP hS (rfl) (⟨by have e9 : (u2 (κ) 1 0 (0)) 1 0 = (0 : Int) := rfl; show (u2 (κ) 1 0 (0)) 1 0 = _; rw [e9]; unfold thK; (repeat' split) <;> omega, fun q9 => by rw [show i = 17 by omega]⟩) dX4_channels_64
    · skip
      refine lv_aload_n hF.1 hF.2.1 dX4_channels_26 rfl (lv_at hl 0 rfl) ?_
      refine z_get hF hK hP (k := 0) (C := RX4) (T := TX4) (N := 22) (by omega) (rfl) rfl uin_X4 21 (by decide) mw_442 (v := .int (iz (0))) rfl dX4_channels_27 ?_
      refine zi_if_ne (tgt := 63) hF.1 hF.2.1 (a := 0) dX4_channels_30 (by decide) (by omega) (fun c_30 => ?_) (fun c_30 => ?_)
      · skip
        exact absurd c_30 (by omega)
      · skip
        refine lv_iload_n hF.1 hF.2.1 dX4_channels_33 rfl (lv_at hl 2 rfl) ?_
        refine z_join (n := 17) (h := h) (D := D) (A := A) (V := Int) (tgt := 55) (nL := 4) (wd := fun v_5 => mC c h (τ) (u2 (κ) 1 0 (0))) (lv := fun v_5 => [(0, .ref (h (0))), (1, .int (iz (mi))), (2, .int (iz (chM τ mi i))), (3, .int (iz ((i : Int))))]) (stk := fun v_5 => [.int (iz (v_5)), .int (iz (chM τ mi i))]) (inv := fun v_5 => ((v_5 : Int) = ic (spk τ mi i) (ish 1 (τ 13 i)))) ?_ (fun jn_55 => ?_)
        · skip
          intro v hv H locs ls hP hS hl
          have hP : zB 17 h D (mC c h (τ) (u2 (κ) 1 0 (0))) H := hP
          have hl : lv_has ls 4 [(0, .ref (h (0))), (1, .int (iz (mi))), (2, .int (iz (chM τ mi i))), (3, .int (iz ((i : Int))))] := hl
          have hvq : (v : Int) = ic (spk τ mi i) (ish 1 (τ 13 i)) := hv
          obtain rfl : v = ic (spk τ mi i) (ish 1 (τ 13 i)) := hvq
          refine zi_ior hF.1 hF.2.1 (a := chM τ mi i) (b := ic (spk τ mi i) (ish 1 (τ 13 i))) dX4_channels_55 ?_
          have q_6 : -2147483648 ≤ ior (chM τ mi i) (ic (spk τ mi i) (ish 1 (τ 13 i))) ∧ ior (chM τ mi i) (ic (spk τ mi i) (ish 1 (τ 13 i))) ≤ 2147483647 := ti_rg _
          refine lv_istore_n (lv' := [(2, .int (iz (ior (chM τ mi i) (ic (spk τ mi i) (ish 1 (τ 13 i)))))), (0, .ref (h (0))), (1, .int (iz (mi))), (3, .int (iz ((i : Int))))]) hF.1 hF.2.1 dX4_channels_56 rfl hl (by decide) rfl (fun ls hl => ?_)
          refine lv_iinc (v := iz (((i + 1 : Nat) : Int))) (lv' := [(3, .int (iz (((i + 1 : Nat) : Int)))), (2, .int (iz (ior (chM τ mi i) (ic (spk τ mi i) (ish 1 (τ 13 i)))))), (0, .ref (h (0))), (1, .int (iz (mi)))]) hF.1 hF.2.1 dX4_channels_57 hl (k := 3) rfl ((iz_add _ _).trans (congrArg iz (by omega))) (by decide) rfl (fun ls hl => ?_)
          refine lv_goto (tgt := 20) hF.1 hF.2.1 dX4_channels_60 (by decide) ?_
          have e_7 : ior (chM τ mi i) (ic (spk τ mi i) (ish 1 (τ 13 i))) = chM τ mi (i + 1) := by simp only [chM]
          have hl : lv_has ls 4 [(3, .int (iz (((i + 1 : Nat) : Int)))), (2, .int (iz (chM τ mi (i + 1)))), (0, .ref (h (0))), (1, .int (iz (mi)))] := by rw [← e_7]; exact hl
          have nv_8 : (((i + 1)) ≤ 17) := (by omega)
          exact ih_20 (i + 1) nv_8 (by show 18 - ((i + 1)) < 18 - i; omega) _ _ _ hP hS (lv_sub hl [2, 3, 1, 0] rfl)
        · skip
          refine lv_aload_n hF.1 hF.2.1 dX4_channels_34 rfl (lv_at hl 0 rfl) ?_
          refine lv_iload_n hF.1 hF.2.1 dX4_channels_35 rfl (lv_at hl 3 rfl) ?_
          refine lv_iload_n hF.1 hF.2.1 dX4_channels_36 rfl (lv_at hl 1 rfl) ?_
          refine z_ci (S := Unit) (w := fun _ => mC c h τ (u2 (κ) 1 0 (0))) (P := fun z _ => z = b2i (spk τ mi i)) (z_runV (rm := { frames := 1, cells := 0, slots := 0, locals := 22 }) hF hK hP (c_X4_speaks l h D c τ (u2 (κ) 1 0 (0)) hinj hG i (by omega) mi (by omega) _) (gIn_V mw_464 mw_465 mw_466 mw_447 mw_462) rfl rfl ⟨rfl, by decide, by decide, rfl⟩ ⟨Nat.le_of_ble_eq_true rfl, Nat.le_of_ble_eq_true rfl⟩ (k := 0) (T := TX4) (N := 22) (by omega) rfl (rfl) rfl (As := [.int (iz ((i : Int))), .int (iz (mi))]) (rest := [.int (iz (chM τ mi i))]) rfl hl.1 rfl (Nat.le_of_ble_eq_true rfl) dX4_channels_37 ⟨Nat.le_refl _, Nat.le_refl _⟩) hz hA hS (fun z_9 u_10 H locs hp hP hS => ?_)
          obtain rfl : z_9 = b2i (spk τ mi i) := hp
          refine zi_ifb_eq (tgt := 54) hF.1 hF.2.1 (P := spk τ mi i) dX4_channels_40 (by decide) (fun c_40 => ?_) (fun c_40 => ?_)
          · skip
            refine zi_const hF.1 hF.2.1 dX4_channels_54 ?_
            have nv_11 : ((((0)) : Int) = ic (spk τ mi i) (ish 1 (τ 13 i))) := (by first | exact (ic_t c_40).symm | exact (ic_f c_40).symm)
            exact jn_55 (0) nv_11 _ _ _ hP hS (lv_sub hl [0, 1, 2, 3] rfl)
          · skip
            refine zi_const hF.1 hF.2.1 dX4_channels_43 ?_
            refine lv_aload_n hF.1 hF.2.1 dX4_channels_44 rfl (lv_at hl 0 rfl) ?_
            refine z_get hF hK hP (k := 0) (C := RX4) (T := TX4) (N := 22) (by omega) (rfl) rfl uin_X4 12 (by decide) mw_434 (v := .ref (h (11))) rfl dX4_channels_45 ?_
            refine lv_iload_n hF.1 hF.2.1 dX4_channels_48 rfl (lv_at hl 3 rfl) ?_
            refine z_iald hF hK hP (k := 11) (by decide) rfl 0 rfl (i := (i : Int)) (i) (rfl) (by omega) (by decide) (x := iz (τ 13 i)) rfl dX4_channels_49 ?_
            have q_12 := GI_13 hG (i)
            refine zi_ishl hF.1 hF.2.1 (a := 1) (b := τ 13 i) dX4_channels_50 ?_
            have q_13 : -2147483648 ≤ ish 1 (τ 13 i) ∧ ish 1 (τ 13 i) ≤ 2147483647 := ti_rg _
            refine lv_goto (tgt := 55) hF.1 hF.2.1 dX4_channels_51 (by decide) ?_
            have nv_14 : ((((ish 1 (τ 13 i))) : Int) = ic (spk τ mi i) (ish 1 (τ 13 i))) := (by first | exact (ic_t c_40).symm | exact (ic_f c_40).symm)
            exact jn_55 (ish 1 (τ 13 i)) nv_14 _ _ _ hP hS (lv_sub hl [0, 1, 2, 3] rfl)

set_option maxRecDepth 100000 in
set_option maxHeartbeats 4000000 in
theorem c_X4_type (l : Launch) (h : Nat → Nat) (D : va_G) (c : Nat → ClassId) (τ κ : Nat → Nat → Int) (hinj : ∀ i j, i < 17 → j < 17 → h i = h j → i = j) (hG : GI τ) (ch : Int) (hch : -2147483648 ≤ ch ∧ ch ≤ 2147483647) (hlet : 0 ≤ τ 0 3 ∧ τ 0 3 ≤ 6) (hwr : -2147483648 ≤ τ 0 4 ∧ τ 0 4 ≤ 2147483647) :
    zMi (S := (Nat → Nat → Int) × (Nat → Nat → Int)) l yX4_type cX4_type 2 (some .int) 1 22 [.ref (h (0)), .int (iz (ch))] 17 h D (gT c) (mC c h (τ) (κ)) (fun u9 => mC c h u9.1 u9.2) (fun z u9 => u9.2 1 0 = thT τ ch ∧ ((0 < thT τ ch ∧ z = 0 ∧ u9.1 = τ) ∨ (thT τ ch = 0 ∧ z = τ 0 3 + 1 ∧ u9.1 = u2 (u2 τ 0 4 (27 * τ 0 4 + ch - 97 + 1)) 0 3 (τ 0 3 + 1))) ∧ GI u9.1) := by
  refine zM_of (by decide) (Nat.le_of_ble_eq_true rfl) ?_
  intro p e s m below meth cd ls ⟨hF, hr, hlocks, hK⟩ hP hl
  have hz : zD (zA 17 h s.heap.size) 17 h := zD.self hinj s.heap.size
  have hA : ∀ q, s.heap.size ≤ q → zA 17 h s.heap.size q := zA_new
  generalize zA 17 h s.heap.size = A at hz hA ⊢
  have hS : va_S A s.heap s.heap [] := va_S.rf
  have hl : lv_has ls 2 [(0, .ref (h (0))), (1, .int (iz (ch)))] := hl
  refine lv_aload_n hF.1 hF.2.1 dX4_type_0 rfl (lv_at hl 0 rfl) ?_
  refine lv_iload_n hF.1 hF.2.1 dX4_type_1 rfl (lv_at hl 1 rfl) ?_
  refine zi_bipush hF.1 hF.2.1 dX4_type_2 (by decide) ?_
  refine zi_bipush hF.1 hF.2.1 dX4_type_4 (by decide) ?_
  refine z_ci (S := Unit) (w := fun _ => mC c h τ κ) (P := fun z _ => z = b2i (97 ≤ ch ∧ ch ≤ 122)) (z_runS (rm := { frames := 0, cells := 0, slots := 0, locals := 0 }) hF hK hP (c_X4_isIn l h D c τ κ hinj hG ch (by omega) 97 (by omega) 122 (by omega) _) (gIn_S mw_445 mw_446 mw_447 mw_443) rfl rfl ⟨rfl, by decide, by decide, rfl⟩ ⟨Nat.le_of_ble_eq_true rfl, Nat.le_of_ble_eq_true rfl⟩ (As := [.int (iz (ch)), .int (iz (97)), .int (iz (122))]) (rest := [.ref (h (0))]) rfl hl.1 rfl (Nat.le_of_ble_eq_true rfl) dX4_type_6 ⟨Nat.le_refl _, Nat.le_refl _⟩) hz hA hS (fun z_1 u_2 H locs hp hP hS => ?_)
  obtain rfl : z_1 = b2i (97 ≤ ch ∧ ch ≤ 122) := hp
  refine zi_ifb_ne (tgt := 16) hF.1 hF.2.1 (P := 97 ≤ ch ∧ ch ≤ 122) dX4_type_9 (by decide) (fun c_9 => ?_) (fun c_9 => ?_)
  · skip
    refine lv_aload_n hF.1 hF.2.1 dX4_type_16 rfl (lv_at hl 0 rfl) ?_
    refine z_get hF hK hP (k := 0) (C := RX4) (T := TX4) (N := 22) (by omega) (rfl) rfl uin_X4 15 (by decide) mw_515 (v := .int (iz (τ 0 3))) rfl dX4_type_17 ?_
    have q_3 := hlet
    refine zi_bipush hF.1 hF.2.1 dX4_type_20 (by decide) ?_
    refine zi_icmp_ne (tgt := 29) hF.1 hF.2.1 (a := τ 0 3) (b := 6) dX4_type_22 (by decide) (by omega) (by omega) (fun c_22 => ?_) (fun c_22 => ?_)
    · skip
      refine zi_const hF.1 hF.2.1 dX4_type_29 ?_
      refine z_put hF hK hz hP hS (k := 0) (C := RX4) (T := TX4) (N := 22) (by omega) (rfl) rfl uin_X4 tyX4_ok nmX4 21 (by decide) mw_442 rfl (⟨rfl, rfl⟩) (by simp) (g' := mC c h (τ) (u2 (κ) 1 0 (0))) (rfl) (mC_t_o) dX4_type_30 (fun H locs hP hS => ?_)
      refine lv_aload_n hF.1 hF.2.1 dX4_type_33 rfl (lv_at hl 0 rfl) ?_
      refine z_get hF hK hP (k := 0) (C := RX4) (T := TX4) (N := 22) (by omega) (rfl) rfl uin_X4 21 (by decide) mw_442 (v := .int (iz (0))) rfl dX4_type_34 ?_
      refine zi_if_le (tgt := 42) hF.1 hF.2.1 (a := 0) dX4_type_37 (by decide) (by omega) (fun c_37 => ?_) (fun c_37 => ?_)
      · skip
        refine lv_aload_n hF.1 hF.2.1 dX4_type_42 rfl (lv_at hl 0 rfl) ?_
        refine zi_bipush hF.1 hF.2.1 dX4_type_43 (by decide) ?_
        refine lv_aload_n hF.1 hF.2.1 dX4_type_45 rfl (lv_at hl 0 rfl) ?_
        refine z_get hF hK hP (k := 0) (C := RX4) (T := TX4) (N := 22) (by omega) (rfl) rfl uin_X4 14 (by decide) mw_516 (v := .int (iz (τ 0 4))) rfl dX4_type_46 ?_
        have q_4 := hwr
        refine zi_mul hF.1 hF.2.1 dX4_type_49 ?_
        refine lv_iload_n hF.1 hF.2.1 dX4_type_50 rfl (lv_at hl 1 rfl) ?_
        refine zi_add hF.1 hF.2.1 dX4_type_51 ?_
        refine zi_bipush hF.1 hF.2.1 dX4_type_52 (by decide) ?_
        refine zi_sub hF.1 hF.2.1 dX4_type_54 ?_
        refine zi_const hF.1 hF.2.1 dX4_type_55 ?_
        refine zi_add hF.1 hF.2.1 dX4_type_56 ?_
        refine z_put hF hK hz hP hS (k := 0) (C := RX4) (T := TX4) (N := 22) (by omega) (rfl) rfl uin_X4 tyX4_ok nmX4 14 (by decide) mw_516 rfl (⟨rfl, rfl⟩) (by simp) (g' := mC c h (u2 (τ) 0 4 ((((27 * (τ 0 4)) + ch) - 97) + 1)) (u2 (κ) 1 0 (0))) (rfl) (mC_sc_o) dX4_type_57 (fun H locs hP hS => ?_)
        have hG_5 := GI_u04 hG (v := (((27 * (τ 0 4)) + ch) - 97) + 1) (trivial)
        refine lv_aload_n hF.1 hF.2.1 dX4_type_60 rfl (lv_at hl 0 rfl) ?_
        refine lv_dup hF.1 hF.2.1 dX4_type_61 rfl ?_
        refine z_get hF hK hP (k := 0) (C := RX4) (T := TX4) (N := 22) (by omega) (rfl) rfl uin_X4 15 (by decide) mw_515 (v := .int (iz (τ 0 3))) rfl dX4_type_62 ?_
        have q_6 := hlet
        refine zi_const hF.1 hF.2.1 dX4_type_65 ?_
        refine zi_add hF.1 hF.2.1 dX4_type_66 ?_
        refine z_put hF hK hz hP hS (k := 0) (C := RX4) (T := TX4) (N := 22) (by omega) (rfl) rfl uin_X4 tyX4_ok nmX4 15 (by decide) mw_515 rfl (⟨rfl, rfl⟩) (by simp) (g' := mC c h (u2 (u2 (τ) 0 4 ((((27 * (τ 0 4)) + ch) - 97) + 1)) 0 3 ((τ 0 3) + 1)) (u2 (κ) 1 0 (0))) (rfl) (mC_sc_o) dX4_type_67 (fun H locs hP hS => ?_)
        have hG_7 := GI_u03 hG_5 (v := (τ 0 3) + 1) (trivial)
        refine lv_aload_n hF.1 hF.2.1 dX4_type_70 rfl (lv_at hl 0 rfl) ?_
        refine z_get hF hK hP (k := 0) (C := RX4) (T := TX4) (N := 22) (by omega) (rfl) rfl uin_X4 15 (by decide) mw_515 (v := .int (iz ((τ 0 3) + 1))) rfl dX4_type_71 ?_
        exact z_reti (P := fun z u9 => u9.2 1 0 = thT τ ch ∧ ((0 < thT τ ch ∧ z = 0 ∧ u9.1 = τ) ∨ (thT τ ch = 0 ∧ z = τ 0 3 + 1 ∧ u9.1 = u2 (u2 τ 0 4 (27 * τ 0 4 + ch - 97 + 1)) 0 3 (τ 0 3 + 1))) ∧ GI u9.1) (z := (τ 0 3) + 1) (u := (u2 (u2 (τ) 0 4 ((((27 * (τ 0 4)) + ch) - 97) + 1)) 0 3 ((τ 0 3) + 1), u2 (κ) 1 0 (0))) (w := fun u9 => mC c h u9.1 u9.2) hF hr hlocks hP hS (rfl) (⟨by have e9 : (u2 (κ) 1 0 (0)) 1 0 = (0 : Int) := rfl; show (u2 (κ) 1 0 (0)) 1 0 = _; rw [e9]; unfold thT; (repeat' split) <;> omega, Or.inr ⟨by unfold thT; (repeat' split) <;> omega, rfl, rfl⟩, hG_7⟩) dX4_type_74
      · skip
        exact absurd c_37 (by omega)
    · skip
      refine zi_const hF.1 hF.2.1 dX4_type_25 ?_
      refine lv_goto (tgt := 30) hF.1 hF.2.1 dX4_type_26 (by decide) ?_
      refine z_put hF hK hz hP hS (k := 0) (C := RX4) (T := TX4) (N := 22) (by omega) (rfl) rfl uin_X4 tyX4_ok nmX4 21 (by decide) mw_442 rfl (⟨rfl, rfl⟩) (by simp) (g' := mC c h (τ) (u2 (κ) 1 0 (2))) (rfl) (mC_t_o) dX4_type_30 (fun H locs hP hS => ?_)
      refine lv_aload_n hF.1 hF.2.1 dX4_type_33 rfl (lv_at hl 0 rfl) ?_
      refine z_get hF hK hP (k := 0) (C := RX4) (T := TX4) (N := 22) (by omega) (rfl) rfl uin_X4 21 (by decide) mw_442 (v := .int (iz (2))) rfl dX4_type_34 ?_
      refine zi_if_le (tgt := 42) hF.1 hF.2.1 (a := 2) dX4_type_37 (by decide) (by omega) (fun c_37 => ?_) (fun c_37 => ?_)
      · skip
        exact absurd c_37 (by omega)
      · skip
        refine zi_const hF.1 hF.2.1 dX4_type_40 ?_
        exact z_reti (P := fun z u9 => u9.2 1 0 = thT τ ch ∧ ((0 < thT τ ch ∧ z = 0 ∧ u9.1 = τ) ∨ (thT τ ch = 0 ∧ z = τ 0 3 + 1 ∧ u9.1 = u2 (u2 τ 0 4 (27 * τ 0 4 + ch - 97 + 1)) 0 3 (τ 0 3 + 1))) ∧ GI u9.1) (z := 0) (u := (τ, u2 (κ) 1 0 (2))) (w := fun u9 => mC c h u9.1 u9.2) hF hr hlocks hP hS (rfl) (⟨by have e9 : (u2 (κ) 1 0 (2)) 1 0 = (2 : Int) := rfl; show (u2 (κ) 1 0 (2)) 1 0 = _; rw [e9]; unfold thT; (repeat' split) <;> omega, Or.inl ⟨by unfold thT; (repeat' split) <;> omega, rfl, rfl⟩, hG⟩) dX4_type_41
  · skip
    refine zi_const hF.1 hF.2.1 dX4_type_12 ?_
    refine lv_goto (tgt := 30) hF.1 hF.2.1 dX4_type_13 (by decide) ?_
    refine z_put hF hK hz hP hS (k := 0) (C := RX4) (T := TX4) (N := 22) (by omega) (rfl) rfl uin_X4 tyX4_ok nmX4 21 (by decide) mw_442 rfl (⟨rfl, rfl⟩) (by simp) (g' := mC c h (τ) (u2 (κ) 1 0 (1))) (rfl) (mC_t_o) dX4_type_30 (fun H locs hP hS => ?_)
    refine lv_aload_n hF.1 hF.2.1 dX4_type_33 rfl (lv_at hl 0 rfl) ?_
    refine z_get hF hK hP (k := 0) (C := RX4) (T := TX4) (N := 22) (by omega) (rfl) rfl uin_X4 21 (by decide) mw_442 (v := .int (iz (1))) rfl dX4_type_34 ?_
    refine zi_if_le (tgt := 42) hF.1 hF.2.1 (a := 1) dX4_type_37 (by decide) (by omega) (fun c_37 => ?_) (fun c_37 => ?_)
    · skip
      exact absurd c_37 (by omega)
    · skip
      refine zi_const hF.1 hF.2.1 dX4_type_40 ?_
      exact z_reti (P := fun z u9 => u9.2 1 0 = thT τ ch ∧ ((0 < thT τ ch ∧ z = 0 ∧ u9.1 = τ) ∨ (thT τ ch = 0 ∧ z = τ 0 3 + 1 ∧ u9.1 = u2 (u2 τ 0 4 (27 * τ 0 4 + ch - 97 + 1)) 0 3 (τ 0 3 + 1))) ∧ GI u9.1) (z := 0) (u := (τ, u2 (κ) 1 0 (1))) (w := fun u9 => mC c h u9.1 u9.2) hF hr hlocks hP hS (rfl) (⟨by have e9 : (u2 (κ) 1 0 (1)) 1 0 = (1 : Int) := rfl; show (u2 (κ) 1 0 (1)) 1 0 = _; rw [e9]; unfold thT; (repeat' split) <;> omega, Or.inl ⟨by unfold thT; (repeat' split) <;> omega, rfl, rfl⟩, hG⟩) dX4_type_41

set_option maxRecDepth 100000 in
set_option maxHeartbeats 4000000 in
theorem c_X4_wipe (l : Launch) (h : Nat → Nat) (D : va_G) (c : Nat → ClassId) (τ κ : Nat → Nat → Int) (hinj : ∀ i j, i < 17 → j < 17 → h i = h j → i = j) (hG : GI τ) (hlet : 0 ≤ τ 0 3 ∧ τ 0 3 ≤ 6) :
    zMi (S := (Nat → Nat → Int) × (Nat → Nat → Int)) l yX4_wipe cX4_wipe 2 (some .int) 0 0 [.ref (h (0))] 17 h D (gT c) (mC c h (τ) (κ)) (fun u9 => mC c h u9.1 u9.2) (fun z u9 => u9.2 1 0 = 0 ∧ z = τ 0 3 ∧ u9.1 = u2 (u2 τ 0 4 0) 0 3 0 ∧ GI u9.1) := by
  refine zM_of (by decide) (Nat.le_of_ble_eq_true rfl) ?_
  intro p e s m below meth cd ls ⟨hF, hr, hlocks, hK⟩ hP hl
  have hz : zD (zA 17 h s.heap.size) 17 h := zD.self hinj s.heap.size
  have hA : ∀ q, s.heap.size ≤ q → zA 17 h s.heap.size q := zA_new
  generalize zA 17 h s.heap.size = A at hz hA ⊢
  have hS : va_S A s.heap s.heap [] := va_S.rf
  have hl : lv_has ls 2 [(0, .ref (h (0)))] := hl
  refine lv_aload_n hF.1 hF.2.1 dX4_wipe_0 rfl (lv_at hl 0 rfl) ?_
  refine zi_const hF.1 hF.2.1 dX4_wipe_1 ?_
  refine z_put hF hK hz hP hS (k := 0) (C := RX4) (T := TX4) (N := 22) (by omega) (rfl) rfl uin_X4 tyX4_ok nmX4 21 (by decide) mw_442 rfl (⟨rfl, rfl⟩) (by simp) (g' := mC c h (τ) (u2 (κ) 1 0 (0))) (rfl) (mC_t_o) dX4_wipe_2 (fun H locs hP hS => ?_)
  refine lv_aload_n hF.1 hF.2.1 dX4_wipe_5 rfl (lv_at hl 0 rfl) ?_
  refine z_get hF hK hP (k := 0) (C := RX4) (T := TX4) (N := 22) (by omega) (rfl) rfl uin_X4 15 (by decide) mw_515 (v := .int (iz (τ 0 3))) rfl dX4_wipe_6 ?_
  have q_1 := hlet
  refine lv_istore_n (lv' := [(1, .int (iz (τ 0 3))), (0, .ref (h (0)))]) hF.1 hF.2.1 dX4_wipe_9 rfl hl (by decide) rfl (fun ls hl => ?_)
  refine lv_aload_n hF.1 hF.2.1 dX4_wipe_10 rfl (lv_at hl 1 rfl) ?_
  refine zi_const hF.1 hF.2.1 dX4_wipe_11 ?_
  refine z_put hF hK hz hP hS (k := 0) (C := RX4) (T := TX4) (N := 22) (by omega) (rfl) rfl uin_X4 tyX4_ok nmX4 14 (by decide) mw_516 rfl (⟨rfl, rfl⟩) (by simp) (g' := mC c h (u2 (τ) 0 4 (0)) (u2 (κ) 1 0 (0))) (rfl) (mC_sc_o) dX4_wipe_12 (fun H locs hP hS => ?_)
  have hG_2 := GI_u04 hG (v := 0) (trivial)
  refine lv_aload_n hF.1 hF.2.1 dX4_wipe_15 rfl (lv_at hl 1 rfl) ?_
  refine zi_const hF.1 hF.2.1 dX4_wipe_16 ?_
  refine z_put hF hK hz hP hS (k := 0) (C := RX4) (T := TX4) (N := 22) (by omega) (rfl) rfl uin_X4 tyX4_ok nmX4 15 (by decide) mw_515 rfl (⟨rfl, rfl⟩) (by simp) (g' := mC c h (u2 (u2 (τ) 0 4 (0)) 0 3 (0)) (u2 (κ) 1 0 (0))) (rfl) (mC_sc_o) dX4_wipe_17 (fun H locs hP hS => ?_)
  have hG_3 := GI_u03 hG_2 (v := 0) (trivial)
  refine lv_iload_n hF.1 hF.2.1 dX4_wipe_20 rfl (lv_at hl 0 rfl) ?_
  exact z_reti (P := fun z u9 => u9.2 1 0 = 0 ∧ z = τ 0 3 ∧ u9.1 = u2 (u2 τ 0 4 0) 0 3 0 ∧ GI u9.1) (z := τ 0 3) (u := (u2 (u2 (τ) 0 4 (0)) 0 3 (0), u2 (κ) 1 0 (0))) (w := fun u9 => mC c h u9.1 u9.2) hF hr hlocks hP hS (rfl) (⟨rfl, rfl, rfl, hG_3⟩) dX4_wipe_21

set_option maxRecDepth 100000 in
set_option maxHeartbeats 4000000 in
theorem c_X4_spelt (l : Launch) (h : Nat → Nat) (D : va_G) (c : Nat → ClassId) (τ κ : Nat → Nat → Int) (hinj : ∀ i j, i < 17 → j < 17 → h i = h j → i = j) (hG : GI τ) (a1 : Int) (ha1 : 0 ≤ a1 ∧ a1 ≤ 200) (a2 : Int) (ha2 : 0 ≤ a2 ∧ a2 ≤ 200) (a3 : Int) (ha3 : 0 ≤ a3 ∧ a3 ≤ 200) (a4 : Int) (ha4 : 0 ≤ a4 ∧ a4 ≤ 200) (a5 : Int) (ha5 : 0 ≤ a5 ∧ a5 ≤ 200) :
    zMi (S := Unit) l yX4_spelt cX4_spelt 6 (some .int) 0 0 [.int (iz (a1)), .int (iz (a2)), .int (iz (a3)), .int (iz (a4)), .int (iz (a5))] 17 h D (gT c) (mC c h (τ) (κ)) (fun _ => mC c h τ κ) (fun z _ => z = sptl a1 a2 a3 a4 a5) := by
  refine zM_of (by decide) (Nat.le_of_ble_eq_true rfl) ?_
  intro p e s m below meth cd ls ⟨hF, hr, hlocks, hK⟩ hP hl
  have hz : zD (zA 17 h s.heap.size) 17 h := zD.self hinj s.heap.size
  have hA : ∀ q, s.heap.size ≤ q → zA 17 h s.heap.size q := zA_new
  generalize zA 17 h s.heap.size = A at hz hA ⊢
  have hS : va_S A s.heap s.heap [] := va_S.rf
  have hl : lv_has ls 6 [(0, .int (iz (a1))), (1, .int (iz (a2))), (2, .int (iz (a3))), (3, .int (iz (a4))), (4, .int (iz (a5)))] := hl
  refine zi_bipush hF.1 hF.2.1 dX4_spelt_0 (by decide) ?_
  refine zi_bipush hF.1 hF.2.1 dX4_spelt_2 (by decide) ?_
  refine zi_bipush hF.1 hF.2.1 dX4_spelt_4 (by decide) ?_
  refine lv_iload_n hF.1 hF.2.1 dX4_spelt_6 rfl (lv_at hl 0 rfl) ?_
  refine zi_bipush hF.1 hF.2.1 dX4_spelt_7 (by decide) ?_
  refine zi_sub hF.1 hF.2.1 dX4_spelt_9 ?_
  refine zi_mul hF.1 hF.2.1 dX4_spelt_10 ?_
  refine lv_iload_n hF.1 hF.2.1 dX4_spelt_11 rfl (lv_at hl 1 rfl) ?_
  refine zi_add hF.1 hF.2.1 dX4_spelt_12 ?_
  refine zi_bipush hF.1 hF.2.1 dX4_spelt_13 (by decide) ?_
  refine zi_sub hF.1 hF.2.1 dX4_spelt_15 ?_
  refine zi_mul hF.1 hF.2.1 dX4_spelt_16 ?_
  refine lv_iload_n hF.1 hF.2.1 dX4_spelt_17 rfl (lv_at hl 2 rfl) ?_
  refine zi_add hF.1 hF.2.1 dX4_spelt_18 ?_
  refine zi_bipush hF.1 hF.2.1 dX4_spelt_19 (by decide) ?_
  refine zi_sub hF.1 hF.2.1 dX4_spelt_21 ?_
  refine zi_mul hF.1 hF.2.1 dX4_spelt_22 ?_
  refine lv_iload_n hF.1 hF.2.1 dX4_spelt_23 rfl (lv_at hl 3 rfl) ?_
  refine zi_add hF.1 hF.2.1 dX4_spelt_24 ?_
  refine zi_bipush hF.1 hF.2.1 dX4_spelt_25 (by decide) ?_
  refine zi_sub hF.1 hF.2.1 dX4_spelt_27 ?_
  refine lv_istore (lv' := [(5, .int (iz (((27 * (((27 * (((27 * (a1 - 96)) + a2) - 96)) + a3) - 96)) + a4) - 96))), (0, .int (iz (a1))), (1, .int (iz (a2))), (2, .int (iz (a3))), (3, .int (iz (a4))), (4, .int (iz (a5)))]) hF.1 hF.2.1 dX4_spelt_28 hl (by decide) rfl (fun ls hl => ?_)
  refine lv_iload hF.1 hF.2.1 dX4_spelt_30 (lv_at hl 5 rfl) ?_
  refine zi_bipush hF.1 hF.2.1 dX4_spelt_32 (by decide) ?_
  refine zi_icmp_ge (tgt := 42) hF.1 hF.2.1 (a := a5) (b := 97) dX4_spelt_34 (by decide) (by omega) (by omega) (fun c_34 => ?_) (fun c_34 => ?_)
  · skip
    refine zi_bipush hF.1 hF.2.1 dX4_spelt_42 (by decide) ?_
    refine lv_iload hF.1 hF.2.1 dX4_spelt_44 (lv_at hl 0 rfl) ?_
    refine zi_mul hF.1 hF.2.1 dX4_spelt_46 ?_
    refine lv_iload hF.1 hF.2.1 dX4_spelt_47 (lv_at hl 5 rfl) ?_
    refine zi_add hF.1 hF.2.1 dX4_spelt_49 ?_
    refine zi_bipush hF.1 hF.2.1 dX4_spelt_50 (by decide) ?_
    refine zi_sub hF.1 hF.2.1 dX4_spelt_52 ?_
    exact z_reti (P := fun z _ => z = sptl a1 a2 a3 a4 a5) (z := ((27 * (((27 * (((27 * (((27 * (a1 - 96)) + a2) - 96)) + a3) - 96)) + a4) - 96)) + a5) - 96) (u := ()) (w := fun _ => mC c h τ κ) hF hr hlocks hP hS (rfl) (by unfold sptl f4; split <;> omega) dX4_spelt_53
  · skip
    refine lv_iload hF.1 hF.2.1 dX4_spelt_37 (lv_at hl 0 rfl) ?_
    refine lv_goto (tgt := 53) hF.1 hF.2.1 dX4_spelt_39 (by decide) ?_
    exact z_reti (P := fun z _ => z = sptl a1 a2 a3 a4 a5) (z := ((27 * (((27 * (((27 * (a1 - 96)) + a2) - 96)) + a3) - 96)) + a4) - 96) (u := ()) (w := fun _ => mC c h τ κ) hF hr hlocks hP hS (rfl) (by unfold sptl f4; split <;> omega) dX4_spelt_53

def wishOf (w : Int) : Int := if w = 6559778 then 0 else if w = 79958 then 1 else if w = 247702 then 2 else if w = 385094 then 3 else if w = 990 then 4 else -1
theorem wishOf_rg (w : Int) : -1 ≤ wishOf w ∧ wishOf w ≤ 4 := by unfold wishOf; (repeat' split) <;> omega

set_option maxRecDepth 100000 in
set_option maxHeartbeats 4000000 in
theorem c_X4_wish (l : Launch) (h : Nat → Nat) (D : va_G) (c : Nat → ClassId) (τ κ : Nat → Nat → Int) (hinj : ∀ i j, i < 17 → j < 17 → h i = h j → i = j) (hG : GI τ) (hwr : -2147483648 ≤ τ 0 4 ∧ τ 0 4 ≤ 2147483647) :
    zMi (S := Unit) l yX4_wish cX4_wish 2 (some .int) 1 25 [.ref (h (0))] 17 h D (gT c) (mC c h (τ) (κ)) (fun _ => mC c h τ κ) (fun z _ => z = wishOf (τ 0 4)) := by
  refine zM_of (by decide) (Nat.le_of_ble_eq_true rfl) ?_
  intro p e s m below meth cd ls ⟨hF, hr, hlocks, hK⟩ hP hl
  have hz : zD (zA 17 h s.heap.size) 17 h := zD.self hinj s.heap.size
  have hA : ∀ q, s.heap.size ≤ q → zA 17 h s.heap.size q := zA_new
  generalize zA 17 h s.heap.size = A at hz hA ⊢
  have hS : va_S A s.heap s.heap [] := va_S.rf
  have hl : lv_has ls 2 [(0, .ref (h (0)))] := hl
  refine zi_sipush hF.1 hF.2.1 dX4_wish_0 (by decide) ?_
  refine lv_istore_n (lv' := [(1, .int (iz (990))), (0, .ref (h (0)))]) hF.1 hF.2.1 dX4_wish_3 rfl hl (by decide) rfl (fun ls hl => ?_)
  refine lv_aload_n hF.1 hF.2.1 dX4_wish_4 rfl (lv_at hl 1 rfl) ?_
  refine z_get hF hK hP (k := 0) (C := RX4) (T := TX4) (N := 22) (by omega) (rfl) rfl uin_X4 14 (by decide) mw_516 (v := .int (iz (τ 0 4))) rfl dX4_wish_5 ?_
  have q_1 := hwr
  refine zi_bipush hF.1 hF.2.1 dX4_wish_8 (by decide) ?_
  refine zi_bipush hF.1 hF.2.1 dX4_wish_10 (by decide) ?_
  refine zi_bipush hF.1 hF.2.1 dX4_wish_12 (by decide) ?_
  refine zi_bipush hF.1 hF.2.1 dX4_wish_14 (by decide) ?_
  refine zi_bipush hF.1 hF.2.1 dX4_wish_16 (by decide) ?_
  refine z_ci (S := Unit) (w := fun _ => mC c h τ κ) (P := fun z _ => z = sptl 108 105 103 104 116) (z_runS (rm := { frames := 0, cells := 0, slots := 0, locals := 0 }) hF hK hP (c_X4_spelt l h D c τ κ hinj hG 108 (by omega) 105 (by omega) 103 (by omega) 104 (by omega) 116 (by omega) _) (gIn_S mw_520 mw_521 mw_447 mw_518) rfl rfl ⟨rfl, by decide, by decide, rfl⟩ ⟨Nat.le_of_ble_eq_true rfl, Nat.le_of_ble_eq_true rfl⟩ (As := [.int (iz (108)), .int (iz (105)), .int (iz (103)), .int (iz (104)), .int (iz (116))]) (rest := [.int (iz (τ 0 4))]) rfl hl.1 rfl (Nat.le_of_ble_eq_true rfl) dX4_wish_18 ⟨Nat.le_refl _, Nat.le_refl _⟩) hz hA hS (fun z_2 u_3 H locs hp hP hS => ?_)
  obtain rfl : z_2 = 6559778 := hp
  refine zi_icmp_ne (tgt := 28) hF.1 hF.2.1 (a := τ 0 4) (b := 6559778) dX4_wish_21 (by decide) (by omega) (by omega) (fun c_21 => ?_) (fun c_21 => ?_)
  · skip
    refine lv_aload_n hF.1 hF.2.1 dX4_wish_28 rfl (lv_at hl 1 rfl) ?_
    refine z_get hF hK hP (k := 0) (C := RX4) (T := TX4) (N := 22) (by omega) (rfl) rfl uin_X4 14 (by decide) mw_516 (v := .int (iz (τ 0 4))) rfl dX4_wish_29 ?_
    have q_4 := hwr
    refine zi_bipush hF.1 hF.2.1 dX4_wish_32 (by decide) ?_
    refine zi_bipush hF.1 hF.2.1 dX4_wish_34 (by decide) ?_
    refine zi_bipush hF.1 hF.2.1 dX4_wish_36 (by decide) ?_
    refine zi_bipush hF.1 hF.2.1 dX4_wish_38 (by decide) ?_
    refine zi_bipush hF.1 hF.2.1 dX4_wish_40 (by decide) ?_
    refine z_ci (S := Unit) (w := fun _ => mC c h τ κ) (P := fun z _ => z = sptl 100 97 114 107 32) (z_runS (rm := { frames := 0, cells := 0, slots := 0, locals := 0 }) hF hK hP (c_X4_spelt l h D c τ κ hinj hG 100 (by omega) 97 (by omega) 114 (by omega) 107 (by omega) 32 (by omega) _) (gIn_S mw_520 mw_521 mw_447 mw_518) rfl rfl ⟨rfl, by decide, by decide, rfl⟩ ⟨Nat.le_of_ble_eq_true rfl, Nat.le_of_ble_eq_true rfl⟩ (As := [.int (iz (100)), .int (iz (97)), .int (iz (114)), .int (iz (107)), .int (iz (32))]) (rest := [.int (iz (τ 0 4))]) rfl hl.1 rfl (Nat.le_of_ble_eq_true rfl) dX4_wish_42 ⟨Nat.le_refl _, Nat.le_refl _⟩) hz hA hS (fun z_5 u_6 H locs hp hP hS => ?_)
    obtain rfl : z_5 = 79958 := hp
    refine zi_icmp_ne (tgt := 52) hF.1 hF.2.1 (a := τ 0 4) (b := 79958) dX4_wish_45 (by decide) (by omega) (by omega) (fun c_45 => ?_) (fun c_45 => ?_)
    · skip
      refine lv_aload_n hF.1 hF.2.1 dX4_wish_52 rfl (lv_at hl 1 rfl) ?_
      refine z_get hF hK hP (k := 0) (C := RX4) (T := TX4) (N := 22) (by omega) (rfl) rfl uin_X4 14 (by decide) mw_516 (v := .int (iz (τ 0 4))) rfl dX4_wish_53 ?_
      have q_7 := hwr
      refine zi_bipush hF.1 hF.2.1 dX4_wish_56 (by decide) ?_
      refine zi_bipush hF.1 hF.2.1 dX4_wish_58 (by decide) ?_
      refine zi_bipush hF.1 hF.2.1 dX4_wish_60 (by decide) ?_
      refine zi_bipush hF.1 hF.2.1 dX4_wish_62 (by decide) ?_
      refine zi_bipush hF.1 hF.2.1 dX4_wish_64 (by decide) ?_
      refine z_ci (S := Unit) (w := fun _ => mC c h τ κ) (P := fun z _ => z = sptl 108 111 117 100 32) (z_runS (rm := { frames := 0, cells := 0, slots := 0, locals := 0 }) hF hK hP (c_X4_spelt l h D c τ κ hinj hG 108 (by omega) 111 (by omega) 117 (by omega) 100 (by omega) 32 (by omega) _) (gIn_S mw_520 mw_521 mw_447 mw_518) rfl rfl ⟨rfl, by decide, by decide, rfl⟩ ⟨Nat.le_of_ble_eq_true rfl, Nat.le_of_ble_eq_true rfl⟩ (As := [.int (iz (108)), .int (iz (111)), .int (iz (117)), .int (iz (100)), .int (iz (32))]) (rest := [.int (iz (τ 0 4))]) rfl hl.1 rfl (Nat.le_of_ble_eq_true rfl) dX4_wish_66 ⟨Nat.le_refl _, Nat.le_refl _⟩) hz hA hS (fun z_8 u_9 H locs hp hP hS => ?_)
      obtain rfl : z_8 = 247702 := hp
      refine zi_icmp_ne (tgt := 76) hF.1 hF.2.1 (a := τ 0 4) (b := 247702) dX4_wish_69 (by decide) (by omega) (by omega) (fun c_69 => ?_) (fun c_69 => ?_)
      · skip
        refine lv_aload_n hF.1 hF.2.1 dX4_wish_76 rfl (lv_at hl 1 rfl) ?_
        refine z_get hF hK hP (k := 0) (C := RX4) (T := TX4) (N := 22) (by omega) (rfl) rfl uin_X4 14 (by decide) mw_516 (v := .int (iz (τ 0 4))) rfl dX4_wish_77 ?_
        have q_10 := hwr
        refine zi_bipush hF.1 hF.2.1 dX4_wish_80 (by decide) ?_
        refine zi_bipush hF.1 hF.2.1 dX4_wish_82 (by decide) ?_
        refine zi_bipush hF.1 hF.2.1 dX4_wish_84 (by decide) ?_
        refine zi_bipush hF.1 hF.2.1 dX4_wish_86 (by decide) ?_
        refine zi_bipush hF.1 hF.2.1 dX4_wish_88 (by decide) ?_
        refine z_ci (S := Unit) (w := fun _ => mC c h τ κ) (P := fun z _ => z = sptl 115 111 102 116 32) (z_runS (rm := { frames := 0, cells := 0, slots := 0, locals := 0 }) hF hK hP (c_X4_spelt l h D c τ κ hinj hG 115 (by omega) 111 (by omega) 102 (by omega) 116 (by omega) 32 (by omega) _) (gIn_S mw_520 mw_521 mw_447 mw_518) rfl rfl ⟨rfl, by decide, by decide, rfl⟩ ⟨Nat.le_of_ble_eq_true rfl, Nat.le_of_ble_eq_true rfl⟩ (As := [.int (iz (115)), .int (iz (111)), .int (iz (102)), .int (iz (116)), .int (iz (32))]) (rest := [.int (iz (τ 0 4))]) rfl hl.1 rfl (Nat.le_of_ble_eq_true rfl) dX4_wish_90 ⟨Nat.le_refl _, Nat.le_refl _⟩) hz hA hS (fun z_11 u_12 H locs hp hP hS => ?_)
        obtain rfl : z_11 = 385094 := hp
        refine zi_icmp_ne (tgt := 100) hF.1 hF.2.1 (a := τ 0 4) (b := 385094) dX4_wish_93 (by decide) (by omega) (by omega) (fun c_93 => ?_) (fun c_93 => ?_)
        · skip
          refine lv_aload_n hF.1 hF.2.1 dX4_wish_100 rfl (lv_at hl 1 rfl) ?_
          refine z_get hF hK hP (k := 0) (C := RX4) (T := TX4) (N := 22) (by omega) (rfl) rfl uin_X4 14 (by decide) mw_516 (v := .int (iz (τ 0 4))) rfl dX4_wish_101 ?_
          have q_13 := hwr
          refine lv_iload_n hF.1 hF.2.1 dX4_wish_104 rfl (lv_at hl 0 rfl) ?_
          refine zi_icmp_ne (tgt := 112) hF.1 hF.2.1 (a := τ 0 4) (b := 990) dX4_wish_105 (by decide) (by omega) (by omega) (fun c_105 => ?_) (fun c_105 => ?_)
          · skip
            refine zi_const hF.1 hF.2.1 dX4_wish_112 ?_
            exact z_reti (P := fun z _ => z = wishOf (τ 0 4)) (z := -1) (u := ()) (w := fun _ => mC c h τ κ) hF hr hlocks hP hS (rfl) (by unfold wishOf; (repeat' split) <;> omega) dX4_wish_113
          · skip
            refine zi_const hF.1 hF.2.1 dX4_wish_108 ?_
            refine lv_goto (tgt := 113) hF.1 hF.2.1 dX4_wish_109 (by decide) ?_
            exact z_reti (P := fun z _ => z = wishOf (τ 0 4)) (z := 4) (u := ()) (w := fun _ => mC c h τ κ) hF hr hlocks hP hS (rfl) (by unfold wishOf; (repeat' split) <;> omega) dX4_wish_113
        · skip
          refine zi_const hF.1 hF.2.1 dX4_wish_96 ?_
          refine lv_goto (tgt := 113) hF.1 hF.2.1 dX4_wish_97 (by decide) ?_
          exact z_reti (P := fun z _ => z = wishOf (τ 0 4)) (z := 3) (u := ()) (w := fun _ => mC c h τ κ) hF hr hlocks hP hS (rfl) (by unfold wishOf; (repeat' split) <;> omega) dX4_wish_113
      · skip
        refine zi_const hF.1 hF.2.1 dX4_wish_72 ?_
        refine lv_goto (tgt := 113) hF.1 hF.2.1 dX4_wish_73 (by decide) ?_
        exact z_reti (P := fun z _ => z = wishOf (τ 0 4)) (z := 2) (u := ()) (w := fun _ => mC c h τ κ) hF hr hlocks hP hS (rfl) (by unfold wishOf; (repeat' split) <;> omega) dX4_wish_113
    · skip
      refine zi_const hF.1 hF.2.1 dX4_wish_48 ?_
      refine lv_goto (tgt := 113) hF.1 hF.2.1 dX4_wish_49 (by decide) ?_
      exact z_reti (P := fun z _ => z = wishOf (τ 0 4)) (z := 1) (u := ()) (w := fun _ => mC c h τ κ) hF hr hlocks hP hS (rfl) (by unfold wishOf; (repeat' split) <;> omega) dX4_wish_113
  · skip
    refine zi_const hF.1 hF.2.1 dX4_wish_24 ?_
    refine lv_goto (tgt := 113) hF.1 hF.2.1 dX4_wish_25 (by decide) ?_
    exact z_reti (P := fun z _ => z = wishOf (τ 0 4)) (z := 0) (u := ()) (w := fun _ => mC c h τ κ) hF hr hlocks hP hS (rfl) (by unfold wishOf; (repeat' split) <;> omega) dX4_wish_113
