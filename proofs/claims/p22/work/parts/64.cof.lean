set_option maxRecDepth 100000 in
set_option maxHeartbeats 4000000 in
theorem c_X3_ofAct (l : Launch) (h : Nat → Nat) (D : va_G) (c : Nat → ClassId) (σ κ : Nat → Nat → Int) (ω : Nat × (Nat → Int32) × Int32) (hinj : ∀ i j, i < 32 → j < 32 → h i = h j → i = j) (hG : GI σ) (a : Int) (ha : -2147483648 ≤ a ∧ a ≤ 2147483647) (wh : Int) (hwh : -2147483648 ≤ wh ∧ wh ≤ 2147483647) (hst : l.stackTraces = false) :
    zXi (S := Unit) l yX3_ofAct cX3_ofAct 3 (some .int) 7 103 2 [.ref (h (0)), .int (iz (a)), .int (iz (wh))] 32 h D (gT c) (gC c h (σ) (κ) (ω)) (fun _ => gC c h σ κ ω) (fun z _ => thO σ a wh = 0 ∧ z = if wh = 0 then σ 11 a.toNat else if wh = 1 then σ 12 a.toNat else σ 13 a.toNat) (fun E9 => (E9 = E98 ∧ thO σ a wh = 1)) := by
  refine zXM_of (by decide) (Nat.le_of_ble_eq_true rfl) ?_
  intro p e s m below meth cd ls ⟨hF, hr, hlocks, hK, hexc, hX⟩ hP hl
  have hz : zD (zA 32 h s.heap.size) 32 h := zD.self hinj s.heap.size
  have hA : ∀ q, s.heap.size ≤ q → zA 32 h s.heap.size q := zA_new
  generalize zA 32 h s.heap.size = A at hz hA hX ⊢
  have hS : va_S A s.heap s.heap [] := va_S.rf
  have hl : lv_has ls 3 [(0, .ref (h (0))), (1, .int (iz (a))), (2, .int (iz (wh)))] := hl
  refine lv_aload_n hF.1 hF.2.1 dX3_ofAct_0 rfl (lv_at hl 0 rfl) ?_
  refine lv_iload_n hF.1 hF.2.1 dX3_ofAct_1 rfl (lv_at hl 1 rfl) ?_
  have hpx_3 : ∀ E9, (fun E9 => (E9 = E98 ∧ ¬ (0 ≤ a ∧ a ≤ σ 0 1 - 1))) E9 → (fun E9 => (E9 = E98 ∧ thO σ a wh = 1)) E9 := by
    intro E9 hE
    obtain ⟨rfl, q9⟩ := hE
    first | exact ⟨rfl, by unfold thO; (repeat' split) <;> omega⟩
  refine z_xcv (k := 1) (S := Unit) (w := fun _ => gC c h σ κ ω) (P := fun _ => 0 ≤ a ∧ a ≤ σ 0 1 - 1) (PXc := fun E9 => (E9 = E98 ∧ ¬ (0 ≤ a ∧ a ≤ σ 0 1 - 1))) (PX := fun E9 => (E9 = E98 ∧ thO σ a wh = 1)) (z_xrunV (rm := { frames := 6, cells := 1, slots := 6, locals := 82 }) hF hK hX hz hA hP hS (c_X3_requireAct l h D c σ κ ω hinj hG a (by omega) hst _) (gIn_V mw_177 mw_178 mw_179 mw_86 mw_175) rfl rfl ⟨rfl, by decide, by decide, rfl⟩ ⟨Nat.le_of_ble_eq_true rfl, Nat.le_of_ble_eq_true rfl⟩ (k := 0) (T := TX3) (N := 14) (by omega) rfl (rfl) rfl (As := [.int (iz (a))]) (rest := []) rfl hl.1 rfl (Nat.le_of_ble_eq_true rfl) dX3_ofAct_2 ⟨(Nat.le_of_ble_eq_true rfl), (Nat.le_of_ble_eq_true rfl)⟩) hz hA hS hexc hlocks (Nat.le_of_ble_eq_true rfl) (Nat.le_of_ble_eq_true rfl) hpx_3 (fun u_1 H locs hp hP hS => ?_)
  have q_4 : 0 ≤ a ∧ a ≤ σ 0 1 - 1 := hp
  have q_5 := GI_01 hG
  refine lv_iload_n hF.1 hF.2.1 dX3_ofAct_5 rfl (lv_at hl 2 rfl) ?_
  rcases (show wh = 0 ∨ wh = 1 ∨ wh = 2 ∨ (wh < 0 ∨ 2 < wh) by omega) with hw9 | hw9 | hw9 | hw9
  · skip
    refine lv_tableIn (tgt := 32) hF.1 hF.2.1 dX3_ofAct_6 (by rw [iz_toInt (by omega)]; omega) (by rw [iz_toInt (by omega)]; omega) (by rw [iz_toInt (by omega), hw9]; rfl) (by decide) ?_
    refine lv_aload_n hF.1 hF.2.1 dX3_ofAct_32 rfl (lv_at hl 0 rfl) ?_
    refine z_get hF hK hP (k := 0) (C := RX3) (T := TX3) (N := 14) (by omega) (rfl) rfl uin_X3 5 (by decide) mw_60 (v := .ref (h (5))) rfl dX3_ofAct_33 ?_
    refine lv_iload_n hF.1 hF.2.1 dX3_ofAct_36 rfl (lv_at hl 1 rfl) ?_
    refine z_aald hF hK hP (k := 5) (by decide) rfl 2 rfl (i := a) ((a).toNat) ((Int.toNat_of_nonneg (by omega)).symm) (by omega) (by decide) (a := h ((a).toNat + 11)) rfl dX3_ofAct_37 ?_
    refine z_getN hF hK hP (k := (a).toNat + 11) (C := RX0) (T := TX0) (N := 9) (by omega) (gC_act (by omega)) rfl uin_X0 4 (by decide) nw_2 (v := .int (iz (σ 11 (a).toNat))) rfl dX3_ofAct_38 ?_
    have q_6 := GI_11 hG ((a).toNat)
    exact z_xreti (S := Unit) (P := fun z _ => thO σ a wh = 0 ∧ z = if wh = 0 then σ 11 a.toNat else if wh = 1 then σ 12 a.toNat else σ 13 a.toNat) (z := σ 11 (a).toNat) (u := ()) (w := fun _ => gC c h σ κ ω) hF hr hlocks hP hS (Nat.le_of_ble_eq_true rfl) (Nat.le_of_ble_eq_true rfl) (rfl) (⟨by unfold thO; (repeat' split) <;> omega, by (repeat' split) <;> omega⟩) dX3_ofAct_41
  · skip
    refine lv_tableIn (tgt := 42) hF.1 hF.2.1 dX3_ofAct_6 (by rw [iz_toInt (by omega)]; omega) (by rw [iz_toInt (by omega)]; omega) (by rw [iz_toInt (by omega), hw9]; rfl) (by decide) ?_
    refine lv_aload_n hF.1 hF.2.1 dX3_ofAct_42 rfl (lv_at hl 0 rfl) ?_
    refine z_get hF hK hP (k := 0) (C := RX3) (T := TX3) (N := 14) (by omega) (rfl) rfl uin_X3 5 (by decide) mw_60 (v := .ref (h (5))) rfl dX3_ofAct_43 ?_
    refine lv_iload_n hF.1 hF.2.1 dX3_ofAct_46 rfl (lv_at hl 1 rfl) ?_
    refine z_aald hF hK hP (k := 5) (by decide) rfl 2 rfl (i := a) ((a).toNat) ((Int.toNat_of_nonneg (by omega)).symm) (by omega) (by decide) (a := h ((a).toNat + 11)) rfl dX3_ofAct_47 ?_
    refine z_getN hF hK hP (k := (a).toNat + 11) (C := RX0) (T := TX0) (N := 9) (by omega) (gC_act (by omega)) rfl uin_X0 5 (by decide) nw_3 (v := .int (iz (σ 12 (a).toNat))) rfl dX3_ofAct_48 ?_
    have q_7 := GI_12 hG ((a).toNat)
    exact z_xreti (S := Unit) (P := fun z _ => thO σ a wh = 0 ∧ z = if wh = 0 then σ 11 a.toNat else if wh = 1 then σ 12 a.toNat else σ 13 a.toNat) (z := σ 12 (a).toNat) (u := ()) (w := fun _ => gC c h σ κ ω) hF hr hlocks hP hS (Nat.le_of_ble_eq_true rfl) (Nat.le_of_ble_eq_true rfl) (rfl) (⟨by unfold thO; (repeat' split) <;> omega, by (repeat' split) <;> omega⟩) dX3_ofAct_51
  · skip
    refine lv_tableIn (tgt := 52) hF.1 hF.2.1 dX3_ofAct_6 (by rw [iz_toInt (by omega)]; omega) (by rw [iz_toInt (by omega)]; omega) (by rw [iz_toInt (by omega), hw9]; rfl) (by decide) ?_
    refine lv_aload_n hF.1 hF.2.1 dX3_ofAct_52 rfl (lv_at hl 0 rfl) ?_
    refine z_get hF hK hP (k := 0) (C := RX3) (T := TX3) (N := 14) (by omega) (rfl) rfl uin_X3 5 (by decide) mw_60 (v := .ref (h (5))) rfl dX3_ofAct_53 ?_
    refine lv_iload_n hF.1 hF.2.1 dX3_ofAct_56 rfl (lv_at hl 1 rfl) ?_
    refine z_aald hF hK hP (k := 5) (by decide) rfl 2 rfl (i := a) ((a).toNat) ((Int.toNat_of_nonneg (by omega)).symm) (by omega) (by decide) (a := h ((a).toNat + 11)) rfl dX3_ofAct_57 ?_
    refine z_getN hF hK hP (k := (a).toNat + 11) (C := RX0) (T := TX0) (N := 9) (by omega) (gC_act (by omega)) rfl uin_X0 6 (by decide) nw_4 (v := .int (iz (σ 13 (a).toNat))) rfl dX3_ofAct_58 ?_
    have q_8 := GI_13 hG ((a).toNat)
    exact z_xreti (S := Unit) (P := fun z _ => thO σ a wh = 0 ∧ z = if wh = 0 then σ 11 a.toNat else if wh = 1 then σ 12 a.toNat else σ 13 a.toNat) (z := σ 13 (a).toNat) (u := ()) (w := fun _ => gC c h σ κ ω) hF hr hlocks hP hS (Nat.le_of_ble_eq_true rfl) (Nat.le_of_ble_eq_true rfl) (rfl) (⟨by unfold thO; (repeat' split) <;> omega, by (repeat' split) <;> omega⟩) dX3_ofAct_61
  · skip
    refine lv_tableOut (tgt := 62) hF.1 hF.2.1 dX3_ofAct_6 (by rw [iz_toInt (by omega)]; omega) (by decide) ?_
    have hpx_9 : (fun E9 => (E9 = E98 ∧ thO σ a wh = 1)) E98 := by show _; first | exact ⟨rfl, by unfold thO; (repeat' split) <;> omega⟩
    exact z_throw (PX := fun E9 => (E9 = E98 ∧ thO σ a wh = 1)) (cls := E98) (text := "no such what") hF hK hX hexc hlocks hst hP hS hl.1 (by decide) mw_97 mw_98 tx_98a tx_98b (by decide) rfl dX3_ofAct_62 dX3_ofAct_65 dX3_ofAct_66 dX3_ofAct_68 dX3_ofAct_71 ⟨(Nat.le_of_ble_eq_true rfl), (Nat.le_of_ble_eq_true rfl), Nat.le_refl _, Nat.le_refl _⟩ (Nat.le_of_ble_eq_true rfl) (Nat.le_of_ble_eq_true rfl) hpx_9
