theorem tx_c : True := trivial

set_option maxRecDepth 100000 in
set_option maxHeartbeats 4000000 in
theorem c_X3_setChange (l : Launch) (h : Nat → Nat) (D : va_G) (c : Nat → ClassId) (σ κ : Nat → Nat → Int) (ω : Nat × (Nat → Int32) × Int32) (hinj : ∀ i j, i < 32 → j < 32 → h i = h j → i = j) (hG : GI σ) (sg : Int) (hsg : -2147483648 ≤ sg ∧ sg ≤ 2147483647) (mi : Int) (hmi : -2147483648 ≤ mi ∧ mi ≤ 2147483647) (hst : l.stackTraces = false) :
    zXi (S := (Nat → Nat → Int) × (Nat → Nat → Int)) l yX3_setChange cX3_setChange 4 (some .boolean) 7 104 2 [.ref (h (0)), .int (iz (sg)), .int (iz (mi))] 32 h D (gT c) (gC c h (σ) (κ) (ω)) (fun u9 => gC c h u9.1 u9.2 ω) (fun z u9 => thC sg mi = 0 ∧ CS σ (u2 σ 2 sg.toNat mi) (stFine (u2 σ 2 sg.toNat mi) sg) z u9.1 ∧ GI u9.1) (fun E9 => (E9 = E98 ∧ thC sg mi = 1) ∨ (E9 = E206 ∧ thC sg mi = 2)) := by
  refine zXM_of (by decide) (Nat.le_of_ble_eq_true rfl) ?_
  intro p e s m below meth cd ls ⟨hF, hr, hlocks, hK, hexc, hX⟩ hP hl
  have hz : zD (zA 32 h s.heap.size) 32 h := zD.self hinj s.heap.size
  have hA : ∀ q, s.heap.size ≤ q → zA 32 h s.heap.size q := zA_new
  generalize zA 32 h s.heap.size = A at hz hA hX ⊢
  have hS : va_S A s.heap s.heap [] := va_S.rf
  have hl : lv_has ls 4 [(0, .ref (h (0))), (1, .int (iz (sg))), (2, .int (iz (mi)))] := hl
  refine lv_iload_n hF.1 hF.2.1 dX3_setChange_0 rfl (lv_at hl 1 rfl) ?_
  have hpx_3 : ∀ E9, (fun E9 => (E9 = E98 ∧ ¬ (0 ≤ sg ∧ sg ≤ 2))) E9 → (fun E9 => (E9 = E98 ∧ thC sg mi = 1) ∨ (E9 = E206 ∧ thC sg mi = 2)) E9 := by
    intro E9 hE
    obtain ⟨rfl, q9⟩ := hE
    first | exact Or.inl ⟨rfl, by unfold thC; (repeat' split) <;> omega⟩ | exact Or.inr (⟨rfl, by unfold thC; (repeat' split) <;> omega⟩)
  refine z_xcv (k := 1) (S := Unit) (w := fun _ => gC c h σ κ ω) (P := fun _ => 0 ≤ sg ∧ sg ≤ 2) (PXc := fun E9 => (E9 = E98 ∧ ¬ (0 ≤ sg ∧ sg ≤ 2))) (PX := fun E9 => (E9 = E98 ∧ thC sg mi = 1) ∨ (E9 = E206 ∧ thC sg mi = 2)) (z_xrunS (rm := { frames := 6, cells := 1, slots := 6, locals := 82 }) hF hK hX hz hA hP hS (c_X3_requireStage l h D c σ κ ω hinj hG sg (by omega) hst _) (gIn_S mw_108 mw_109 mw_86 mw_96) rfl rfl ⟨rfl, by decide, by decide, rfl⟩ ⟨Nat.le_of_ble_eq_true rfl, Nat.le_of_ble_eq_true rfl⟩ (As := [.int (iz (sg))]) (rest := []) rfl hl.1 rfl (Nat.le_of_ble_eq_true rfl) dX3_setChange_1 ⟨(Nat.le_of_ble_eq_true rfl), (Nat.le_of_ble_eq_true rfl)⟩) hz hA hS hexc hlocks (Nat.le_of_ble_eq_true rfl) (Nat.le_of_ble_eq_true rfl) hpx_3 (fun u_1 H locs hp hP hS => ?_)
  have q_4 : 0 ≤ sg ∧ sg ≤ 2 := hp
  refine lv_iload_n hF.1 hF.2.1 dX3_setChange_4 rfl (lv_at hl 2 rfl) ?_
  refine zi_const hF.1 hF.2.1 dX3_setChange_5 ?_
  refine zi_bipush hF.1 hF.2.1 dX3_setChange_6 (by decide) ?_
  have hpx_7 : ∀ E9, (fun E9 => (E9 = E206 ∧ ¬ (0 ≤ mi ∧ mi ≤ 60))) E9 → (fun E9 => (E9 = E98 ∧ thC sg mi = 1) ∨ (E9 = E206 ∧ thC sg mi = 2)) E9 := by
    intro E9 hE
    obtain ⟨rfl, q9⟩ := hE
    first | exact Or.inl ⟨rfl, by unfold thC; (repeat' split) <;> omega⟩ | exact Or.inr (⟨rfl, by unfold thC; (repeat' split) <;> omega⟩)
  refine z_xcv (k := 1) (S := Unit) (w := fun _ => gC c h σ κ ω) (P := fun _ => 0 ≤ mi ∧ mi ≤ 60) (PXc := fun E9 => (E9 = E206 ∧ ¬ (0 ≤ mi ∧ mi ≤ 60))) (PX := fun E9 => (E9 = E98 ∧ thC sg mi = 1) ∨ (E9 = E206 ∧ thC sg mi = 2)) (z_xrunS (rm := { frames := 6, cells := 1, slots := 6, locals := 82 }) hF hK hX hz hA hP hS (c_X3_requireRange l h D c σ κ ω hinj hG mi (by omega) 0 (by omega) 60 (by omega) hst _) (gIn_S mw_84 mw_85 mw_86 mw_80) rfl rfl ⟨rfl, by decide, by decide, rfl⟩ ⟨Nat.le_of_ble_eq_true rfl, Nat.le_of_ble_eq_true rfl⟩ (As := [.int (iz (mi)), .int (iz (0)), .int (iz (60))]) (rest := []) rfl hl.1 rfl (Nat.le_of_ble_eq_true rfl) dX3_setChange_8 ⟨(Nat.le_of_ble_eq_true rfl), (Nat.le_of_ble_eq_true rfl)⟩) hz hA hS hexc hlocks (Nat.le_of_ble_eq_true rfl) (Nat.le_of_ble_eq_true rfl) hpx_7 (fun u_5 H locs hp hP hS => ?_)
  have q_8 : 0 ≤ mi ∧ mi ≤ 60 := hp
  refine lv_aload_n hF.1 hF.2.1 dX3_setChange_11 rfl (lv_at hl 0 rfl) ?_
  refine z_get hF hK hP (k := 0) (C := RX3) (T := TX3) (N := 14) (by omega) (rfl) rfl uin_X3 2 (by decide) mw_56 (v := .ref (h (2))) rfl dX3_setChange_12 ?_
  refine lv_iload_n hF.1 hF.2.1 dX3_setChange_15 rfl (lv_at hl 1 rfl) ?_
  refine z_iald hF hK hP (k := 2) (by decide) rfl 0 rfl (i := sg) ((sg).toNat) ((Int.toNat_of_nonneg (by omega)).symm) (by omega) (by decide) (x := iz (σ 2 (sg).toNat)) rfl dX3_setChange_16 ?_
  have q_9 := GI_2 hG ((sg).toNat)
  refine lv_istore_n (lv' := [(3, .int (iz (σ 2 (sg).toNat))), (0, .ref (h (0))), (1, .int (iz (sg))), (2, .int (iz (mi)))]) hF.1 hF.2.1 dX3_setChange_17 rfl hl (by decide) rfl (fun ls hl => ?_)
  refine lv_aload_n hF.1 hF.2.1 dX3_setChange_18 rfl (lv_at hl 1 rfl) ?_
  refine z_get hF hK hP (k := 0) (C := RX3) (T := TX3) (N := 14) (by omega) (rfl) rfl uin_X3 2 (by decide) mw_56 (v := .ref (h (2))) rfl dX3_setChange_19 ?_
  refine lv_iload_n hF.1 hF.2.1 dX3_setChange_22 rfl (lv_at hl 2 rfl) ?_
  refine lv_iload_n hF.1 hF.2.1 dX3_setChange_23 rfl (lv_at hl 3 rfl) ?_
  refine z_iast hF hK hz hP hS (k := 2) (by decide) rfl 0 rfl (i := sg) ((sg).toNat) ((Int.toNat_of_nonneg (by omega)).symm) (by omega) (by decide) (x := iz (mi)) (g' := gC c h (u2 (σ) 2 ((sg).toNat) (mi)) (κ) (ω)) (by show Sum.inl (_, _, Sum.inl _) = _; rw [u2_up]) (gC_row_o ⟨by decide, by decide⟩) dX3_setChange_24 (fun H locs hP hS => ?_)
  have hG_10 := GI_u2 hG (v := mi) (k := (sg).toNat) (by omega)
  refine lv_aload_n hF.1 hF.2.1 dX3_setChange_25 rfl (lv_at hl 1 rfl) ?_
  refine lv_iload_n hF.1 hF.2.1 dX3_setChange_26 rfl (lv_at hl 2 rfl) ?_
  refine z_ci (S := Unit) (w := fun _ => gC c h (u2 (σ) 2 ((sg).toNat) (mi)) κ ω) (P := fun z _ => z = b2i (stFine (u2 (σ) 2 ((sg).toNat) (mi)) sg)) (z_runV (rm := { frames := 3, cells := 0, slots := 0, locals := 68 }) hF hK hP (c_X3_isStageFine l h D c (u2 (σ) 2 ((sg).toNat) (mi)) κ ω hinj hG_10 sg (by omega) _) (gIn_V mw_110 mw_111 mw_112 mw_86 mw_107) rfl rfl ⟨rfl, by decide, by decide, rfl⟩ ⟨Nat.le_of_ble_eq_true rfl, Nat.le_of_ble_eq_true rfl⟩ (k := 0) (T := TX3) (N := 14) (by omega) rfl (rfl) rfl (As := [.int (iz (sg))]) (rest := []) rfl hl.1 rfl (Nat.le_of_ble_eq_true rfl) dX3_setChange_27 ⟨Nat.le_of_ble_eq_true rfl, Nat.le_of_ble_eq_true rfl⟩) hz hA hS (fun z_11 u_12 H locs hp hP hS => ?_)
  obtain rfl : z_11 = b2i (stFine (u2 (σ) 2 ((sg).toNat) (mi)) sg) := hp
  refine zi_ifb_eq (tgt := 35) hF.1 hF.2.1 (P := stFine (u2 (σ) 2 ((sg).toNat) (mi)) sg) dX3_setChange_30 (by decide) (fun c_30 => ?_) (fun c_30 => ?_)
  · skip
    refine lv_aload_n hF.1 hF.2.1 dX3_setChange_35 rfl (lv_at hl 1 rfl) ?_
    refine z_get hF hK hP (k := 0) (C := RX3) (T := TX3) (N := 14) (by omega) (rfl) rfl uin_X3 2 (by decide) mw_56 (v := .ref (h (2))) rfl dX3_setChange_36 ?_
    refine lv_iload_n hF.1 hF.2.1 dX3_setChange_39 rfl (lv_at hl 2 rfl) ?_
    refine lv_iload_n hF.1 hF.2.1 dX3_setChange_40 rfl (lv_at hl 0 rfl) ?_
    refine z_iast hF hK hz hP hS (k := 2) (by decide) rfl 0 rfl (i := sg) ((sg).toNat) ((Int.toNat_of_nonneg (by omega)).symm) (by omega) (by decide) (x := iz (σ 2 (sg).toNat)) (g' := gC c h (u2 (u2 (σ) 2 ((sg).toNat) (mi)) 2 ((sg).toNat) (σ 2 (sg).toNat)) (κ) (ω)) (by show Sum.inl (_, _, Sum.inl _) = _; rw [u2_up]) (gC_row_o ⟨by decide, by decide⟩) dX3_setChange_41 (fun H locs hP hS => ?_)
    have hG_13 := GI_u2 hG_10 (v := σ 2 (sg).toNat) (k := (sg).toNat) (by omega)
    refine zi_const hF.1 hF.2.1 dX3_setChange_42 ?_
    exact z_xreti (S := (Nat → Nat → Int) × (Nat → Nat → Int)) (P := fun z u9 => thC sg mi = 0 ∧ CS σ (u2 σ 2 sg.toNat mi) (stFine (u2 σ 2 sg.toNat mi) sg) z u9.1 ∧ GI u9.1) (z := 0) (u := (u2 (u2 (σ) 2 ((sg).toNat) (mi)) 2 ((sg).toNat) (σ 2 (sg).toNat), κ)) (w := fun u9 => gC c h u9.1 u9.2 ω) hF hr hlocks hP hS (Nat.le_of_ble_eq_true rfl) (Nat.le_of_ble_eq_true rfl) ((iz_nar_z (by first | omega | exact b2i_rg)).1) (⟨by unfold thC; (repeat' split) <;> omega, Or.inr ⟨by exact c_30, rfl, u2_u2.trans u2_self⟩, hG_13⟩) dX3_setChange_43
  · skip
    refine zi_const hF.1 hF.2.1 dX3_setChange_33 ?_
    exact z_xreti (S := (Nat → Nat → Int) × (Nat → Nat → Int)) (P := fun z u9 => thC sg mi = 0 ∧ CS σ (u2 σ 2 sg.toNat mi) (stFine (u2 σ 2 sg.toNat mi) sg) z u9.1 ∧ GI u9.1) (z := 1) (u := (u2 (σ) 2 ((sg).toNat) (mi), κ)) (w := fun u9 => gC c h u9.1 u9.2 ω) hF hr hlocks hP hS (Nat.le_of_ble_eq_true rfl) (Nat.le_of_ble_eq_true rfl) ((iz_nar_z (by first | omega | exact b2i_rg)).1) (⟨by unfold thC; (repeat' split) <;> omega, Or.inl ⟨by exact c_30, rfl, rfl⟩, hG_10⟩) dX3_setChange_34

set_option maxRecDepth 100000 in
set_option maxHeartbeats 4000000 in
theorem c_X3_setBound (l : Launch) (h : Nat → Nat) (D : va_G) (c : Nat → ClassId) (σ κ : Nat → Nat → Int) (ω : Nat × (Nat → Int32) × Int32) (hinj : ∀ i j, i < 32 → j < 32 → h i = h j → i = j) (hG : GI σ) (hs : Int) (hhs : -2147483648 ≤ hs ∧ hs ≤ 2147483647) (bd : Int) (hbd : -2147483648 ≤ bd ∧ bd ≤ 2147483647) (hst : l.stackTraces = false) :
    zXi (S := (Nat → Nat → Int) × (Nat → Nat → Int)) l yX3_setBound cX3_setBound 4 (some .boolean) 7 122 2 [.ref (h (0)), .int (iz (hs)), .int (iz (bd))] 32 h D (gT c) (gC c h (σ) (κ) (ω)) (fun u9 => gC c h u9.1 u9.2 ω) (fun z u9 => thB hs bd = 0 ∧ CS σ (u2 σ 3 hs.toNat bd) (bw (u2 σ 3 hs.toNat bd) 0 1000 = 0) z u9.1 ∧ GI u9.1) (fun E9 => (E9 = E98 ∧ thB hs bd = 1) ∨ (E9 = E206 ∧ thB hs bd = 2)) := by
  refine zXM_of (by decide) (Nat.le_of_ble_eq_true rfl) ?_
  intro p e s m below meth cd ls ⟨hF, hr, hlocks, hK, hexc, hX⟩ hP hl
  have hz : zD (zA 32 h s.heap.size) 32 h := zD.self hinj s.heap.size
  have hA : ∀ q, s.heap.size ≤ q → zA 32 h s.heap.size q := zA_new
  generalize zA 32 h s.heap.size = A at hz hA hX ⊢
  have hS : va_S A s.heap s.heap [] := va_S.rf
  have hl : lv_has ls 4 [(0, .ref (h (0))), (1, .int (iz (hs))), (2, .int (iz (bd)))] := hl
  refine lv_iload_n hF.1 hF.2.1 dX3_setBound_0 rfl (lv_at hl 1 rfl) ?_
  have hpx_3 : ∀ E9, (fun E9 => (E9 = E98 ∧ ¬ (0 ≤ hs ∧ hs ≤ 2))) E9 → (fun E9 => (E9 = E98 ∧ thB hs bd = 1) ∨ (E9 = E206 ∧ thB hs bd = 2)) E9 := by
    intro E9 hE
    obtain ⟨rfl, q9⟩ := hE
    first | exact Or.inl ⟨rfl, by unfold thB; (repeat' split) <;> omega⟩ | exact Or.inr (⟨rfl, by unfold thB; (repeat' split) <;> omega⟩)
  refine z_xcv (k := 1) (S := Unit) (w := fun _ => gC c h σ κ ω) (P := fun _ => 0 ≤ hs ∧ hs ≤ 2) (PXc := fun E9 => (E9 = E98 ∧ ¬ (0 ≤ hs ∧ hs ≤ 2))) (PX := fun E9 => (E9 = E98 ∧ thB hs bd = 1) ∨ (E9 = E206 ∧ thB hs bd = 2)) (z_xrunS (rm := { frames := 6, cells := 1, slots := 6, locals := 82 }) hF hK hX hz hA hP hS (c_X3_requireHouse l h D c σ κ ω hinj hG hs (by omega) hst _) (gIn_S mw_153 mw_154 mw_86 mw_114) rfl rfl ⟨rfl, by decide, by decide, rfl⟩ ⟨Nat.le_of_ble_eq_true rfl, Nat.le_of_ble_eq_true rfl⟩ (As := [.int (iz (hs))]) (rest := []) rfl hl.1 rfl (Nat.le_of_ble_eq_true rfl) dX3_setBound_1 ⟨(Nat.le_of_ble_eq_true rfl), (Nat.le_of_ble_eq_true rfl)⟩) hz hA hS hexc hlocks (Nat.le_of_ble_eq_true rfl) (Nat.le_of_ble_eq_true rfl) hpx_3 (fun u_1 H locs hp hP hS => ?_)
  have q_4 : 0 ≤ hs ∧ hs ≤ 2 := hp
  refine lv_iload_n hF.1 hF.2.1 dX3_setBound_4 rfl (lv_at hl 2 rfl) ?_
  refine zi_bipush hF.1 hF.2.1 dX3_setBound_5 (by decide) ?_
  refine zi_sipush hF.1 hF.2.1 dX3_setBound_7 (by decide) ?_
  have hpx_7 : ∀ E9, (fun E9 => (E9 = E206 ∧ ¬ (10 ≤ bd ∧ bd ≤ 300))) E9 → (fun E9 => (E9 = E98 ∧ thB hs bd = 1) ∨ (E9 = E206 ∧ thB hs bd = 2)) E9 := by
    intro E9 hE
    obtain ⟨rfl, q9⟩ := hE
    first | exact Or.inl ⟨rfl, by unfold thB; (repeat' split) <;> omega⟩ | exact Or.inr (⟨rfl, by unfold thB; (repeat' split) <;> omega⟩)
  refine z_xcv (k := 1) (S := Unit) (w := fun _ => gC c h σ κ ω) (P := fun _ => 10 ≤ bd ∧ bd ≤ 300) (PXc := fun E9 => (E9 = E206 ∧ ¬ (10 ≤ bd ∧ bd ≤ 300))) (PX := fun E9 => (E9 = E98 ∧ thB hs bd = 1) ∨ (E9 = E206 ∧ thB hs bd = 2)) (z_xrunS (rm := { frames := 6, cells := 1, slots := 6, locals := 82 }) hF hK hX hz hA hP hS (c_X3_requireRange l h D c σ κ ω hinj hG bd (by omega) 10 (by omega) 300 (by omega) hst _) (gIn_S mw_84 mw_85 mw_86 mw_80) rfl rfl ⟨rfl, by decide, by decide, rfl⟩ ⟨Nat.le_of_ble_eq_true rfl, Nat.le_of_ble_eq_true rfl⟩ (As := [.int (iz (bd)), .int (iz (10)), .int (iz (300))]) (rest := []) rfl hl.1 rfl (Nat.le_of_ble_eq_true rfl) dX3_setBound_10 ⟨(Nat.le_of_ble_eq_true rfl), (Nat.le_of_ble_eq_true rfl)⟩) hz hA hS hexc hlocks (Nat.le_of_ble_eq_true rfl) (Nat.le_of_ble_eq_true rfl) hpx_7 (fun u_5 H locs hp hP hS => ?_)
  have q_8 : 10 ≤ bd ∧ bd ≤ 300 := hp
  refine lv_aload_n hF.1 hF.2.1 dX3_setBound_13 rfl (lv_at hl 0 rfl) ?_
  refine z_get hF hK hP (k := 0) (C := RX3) (T := TX3) (N := 14) (by omega) (rfl) rfl uin_X3 3 (by decide) mw_57 (v := .ref (h (3))) rfl dX3_setBound_14 ?_
  refine lv_iload_n hF.1 hF.2.1 dX3_setBound_17 rfl (lv_at hl 1 rfl) ?_
  refine z_iald hF hK hP (k := 3) (by decide) rfl 0 rfl (i := hs) ((hs).toNat) ((Int.toNat_of_nonneg (by omega)).symm) (by omega) (by decide) (x := iz (σ 3 (hs).toNat)) rfl dX3_setBound_18 ?_
  have q_9 := GI_3 hG ((hs).toNat)
  refine lv_istore_n (lv' := [(3, .int (iz (σ 3 (hs).toNat))), (0, .ref (h (0))), (1, .int (iz (hs))), (2, .int (iz (bd)))]) hF.1 hF.2.1 dX3_setBound_19 rfl hl (by decide) rfl (fun ls hl => ?_)
  refine lv_aload_n hF.1 hF.2.1 dX3_setBound_20 rfl (lv_at hl 1 rfl) ?_
  refine z_get hF hK hP (k := 0) (C := RX3) (T := TX3) (N := 14) (by omega) (rfl) rfl uin_X3 3 (by decide) mw_57 (v := .ref (h (3))) rfl dX3_setBound_21 ?_
  refine lv_iload_n hF.1 hF.2.1 dX3_setBound_24 rfl (lv_at hl 2 rfl) ?_
  refine lv_iload_n hF.1 hF.2.1 dX3_setBound_25 rfl (lv_at hl 3 rfl) ?_
  refine z_iast hF hK hz hP hS (k := 3) (by decide) rfl 0 rfl (i := hs) ((hs).toNat) ((Int.toNat_of_nonneg (by omega)).symm) (by omega) (by decide) (x := iz (bd)) (g' := gC c h (u2 (σ) 3 ((hs).toNat) (bd)) (κ) (ω)) (by show Sum.inl (_, _, Sum.inl _) = _; rw [u2_up]) (gC_row_o ⟨by decide, by decide⟩) dX3_setBound_26 (fun H locs hP hS => ?_)
  have hG_10 := GI_u3 hG (v := bd) (k := (hs).toNat) (by omega)
  refine lv_aload_n hF.1 hF.2.1 dX3_setBound_27 rfl (lv_at hl 1 rfl) ?_
  refine zi_const hF.1 hF.2.1 dX3_setBound_28 ?_
  refine zi_sipush hF.1 hF.2.1 dX3_setBound_29 (by decide) ?_
  refine z_ci (S := Nat → Nat → Int) (w := fun κ9 => gC c h (u2 (σ) 3 ((hs).toNat) (bd)) κ9 ω) (P := fun z _ => z = bw (u2 (σ) 3 ((hs).toNat) (bd)) 0 1000) (z_runV (rm := { frames := 4, cells := 0, slots := 0, locals := 97 }) hF hK hP (c_X3_brokenWithin l h D c (u2 (σ) 3 ((hs).toNat) (bd)) κ ω hinj hG_10 0 1000 (by omega) _) (gIn_V mw_155 mw_156 mw_157 mw_86 mw_152) rfl rfl ⟨rfl, by decide, by decide, rfl⟩ ⟨Nat.le_of_ble_eq_true rfl, Nat.le_of_ble_eq_true rfl⟩ (k := 0) (T := TX3) (N := 14) (by omega) rfl (rfl) rfl (As := [.int (iz (0)), .int (iz (1000))]) (rest := []) rfl hl.1 rfl (Nat.le_of_ble_eq_true rfl) dX3_setBound_32 ⟨Nat.le_of_ble_eq_true rfl, Nat.le_of_ble_eq_true rfl⟩) hz hA hS (fun z_11 u_12 H locs hp hP hS => ?_)
  obtain rfl : z_11 = bw (u2 (σ) 3 ((hs).toNat) (bd)) 0 1000 := hp
  have hP : zB 32 h D (gC c h (u2 (σ) 3 ((hs).toNat) (bd)) (u_12) (ω)) H := hP
  have q_13 := @bw_rg (u2 (σ) 3 ((hs).toNat) (bd)) 0 1000
  refine zi_if_ne (tgt := 40) hF.1 hF.2.1 (a := bw (u2 (σ) 3 ((hs).toNat) (bd)) 0 1000) dX3_setBound_35 (by decide) (by omega) (fun c_35 => ?_) (fun c_35 => ?_)
  · skip
    refine lv_aload_n hF.1 hF.2.1 dX3_setBound_40 rfl (lv_at hl 1 rfl) ?_
    refine z_get hF hK hP (k := 0) (C := RX3) (T := TX3) (N := 14) (by omega) (rfl) rfl uin_X3 3 (by decide) mw_57 (v := .ref (h (3))) rfl dX3_setBound_41 ?_
    refine lv_iload_n hF.1 hF.2.1 dX3_setBound_44 rfl (lv_at hl 2 rfl) ?_
    refine lv_iload_n hF.1 hF.2.1 dX3_setBound_45 rfl (lv_at hl 0 rfl) ?_
    refine z_iast hF hK hz hP hS (k := 3) (by decide) rfl 0 rfl (i := hs) ((hs).toNat) ((Int.toNat_of_nonneg (by omega)).symm) (by omega) (by decide) (x := iz (σ 3 (hs).toNat)) (g' := gC c h (u2 (u2 (σ) 3 ((hs).toNat) (bd)) 3 ((hs).toNat) (σ 3 (hs).toNat)) (u_12) (ω)) (by show Sum.inl (_, _, Sum.inl _) = _; rw [u2_up]) (gC_row_o ⟨by decide, by decide⟩) dX3_setBound_46 (fun H locs hP hS => ?_)
    have hG_14 := GI_u3 hG_10 (v := σ 3 (hs).toNat) (k := (hs).toNat) (by omega)
    refine zi_const hF.1 hF.2.1 dX3_setBound_47 ?_
    exact z_xreti (S := (Nat → Nat → Int) × (Nat → Nat → Int)) (P := fun z u9 => thB hs bd = 0 ∧ CS σ (u2 σ 3 hs.toNat bd) (bw (u2 σ 3 hs.toNat bd) 0 1000 = 0) z u9.1 ∧ GI u9.1) (z := 0) (u := (u2 (u2 (σ) 3 ((hs).toNat) (bd)) 3 ((hs).toNat) (σ 3 (hs).toNat), u_12)) (w := fun u9 => gC c h u9.1 u9.2 ω) hF hr hlocks hP hS (Nat.le_of_ble_eq_true rfl) (Nat.le_of_ble_eq_true rfl) ((iz_nar_z (by first | omega | exact b2i_rg)).1) (⟨by unfold thB; (repeat' split) <;> omega, Or.inr ⟨by omega, rfl, u2_u2.trans u2_self⟩, hG_14⟩) dX3_setBound_48
  · skip
    refine zi_const hF.1 hF.2.1 dX3_setBound_38 ?_
    exact z_xreti (S := (Nat → Nat → Int) × (Nat → Nat → Int)) (P := fun z u9 => thB hs bd = 0 ∧ CS σ (u2 σ 3 hs.toNat bd) (bw (u2 σ 3 hs.toNat bd) 0 1000 = 0) z u9.1 ∧ GI u9.1) (z := 1) (u := (u2 (σ) 3 ((hs).toNat) (bd), u_12)) (w := fun u9 => gC c h u9.1 u9.2 ω) hF hr hlocks hP hS (Nat.le_of_ble_eq_true rfl) (Nat.le_of_ble_eq_true rfl) ((iz_nar_z (by first | omega | exact b2i_rg)).1) (⟨by unfold thB; (repeat' split) <;> omega, Or.inl ⟨by omega, rfl, rfl⟩, hG_10⟩) dX3_setBound_39

set_option maxRecDepth 100000 in
set_option maxHeartbeats 4000000 in
theorem c_X3_setWind (l : Launch) (h : Nat → Nat) (D : va_G) (c : Nat → ClassId) (σ κ : Nat → Nat → Int) (ω : Nat × (Nat → Int32) × Int32) (hinj : ∀ i j, i < 32 → j < 32 → h i = h j → i = j) (hG : GI σ) (hr9 : Int) (hhr9 : -2147483648 ≤ hr9 ∧ hr9 ≤ 2147483647) (wn : Int) (hwn : -2147483648 ≤ wn ∧ wn ≤ 2147483647) (hst : l.stackTraces = false) :
    zXi (S := (Nat → Nat → Int) × (Nat → Nat → Int)) l yX3_setWind cX3_setWind 4 (some .boolean) 7 122 1 [.ref (h (0)), .int (iz (hr9)), .int (iz (wn))] 32 h D (gT c) (gC c h (σ) (κ) (ω)) (fun u9 => gC c h u9.1 u9.2 ω) (fun z u9 => thW hr9 wn = 0 ∧ CS σ (u2 σ 4 hr9.toNat wn) (bw (u2 σ 4 hr9.toNat wn) (hr9 * 60) (min (hr9 * 60 + 60) 1000) = 0) z u9.1 ∧ GI u9.1) (fun E9 => (E9 = E98 ∧ thW hr9 wn = 1) ∨ (E9 = E206 ∧ thW hr9 wn = 2)) := by
  refine zXM_of (by decide) (Nat.le_of_ble_eq_true rfl) ?_
  intro p e s m below meth cd ls ⟨hF, hr, hlocks, hK, hexc, hX⟩ hP hl
  have hz : zD (zA 32 h s.heap.size) 32 h := zD.self hinj s.heap.size
  have hA : ∀ q, s.heap.size ≤ q → zA 32 h s.heap.size q := zA_new
  generalize zA 32 h s.heap.size = A at hz hA hX ⊢
  have hS : va_S A s.heap s.heap [] := va_S.rf
  have hl : lv_has ls 4 [(0, .ref (h (0))), (1, .int (iz (hr9))), (2, .int (iz (wn)))] := hl
  refine lv_iload_n hF.1 hF.2.1 dX3_setWind_0 rfl (lv_at hl 1 rfl) ?_
  refine zi_if_lt (tgt := 10) hF.1 hF.2.1 (a := hr9) dX3_setWind_1 (by decide) (by omega) (fun c_1 => ?_) (fun c_1 => ?_)
  · skip
    have hpx_1 : (fun E9 => (E9 = E98 ∧ thW hr9 wn = 1) ∨ (E9 = E206 ∧ thW hr9 wn = 2)) E98 := by show _; first | exact Or.inl ⟨rfl, by unfold thW; (repeat' split) <;> omega⟩ | exact Or.inr (⟨rfl, by unfold thW; (repeat' split) <;> omega⟩)
    exact z_throw (PX := fun E9 => (E9 = E98 ∧ thW hr9 wn = 1) ∨ (E9 = E206 ∧ thW hr9 wn = 2)) (cls := E98) (text := "no such hour") hF hK hX hexc hlocks hst hP hS hl.1 (by decide) mw_97 mw_98 tx_98a tx_98b (by decide) rfl dX3_setWind_10 dX3_setWind_13 dX3_setWind_14 dX3_setWind_16 dX3_setWind_19 ⟨(Nat.le_of_ble_eq_true rfl), (Nat.le_of_ble_eq_true rfl), Nat.le_refl _, Nat.le_refl _⟩ (Nat.le_of_ble_eq_true rfl) (Nat.le_of_ble_eq_true rfl) hpx_1
  · skip
    refine lv_iload_n hF.1 hF.2.1 dX3_setWind_4 rfl (lv_at hl 1 rfl) ?_
    refine zi_bipush hF.1 hF.2.1 dX3_setWind_5 (by decide) ?_
    refine zi_icmp_lt (tgt := 20) hF.1 hF.2.1 (a := hr9) (b := 17) dX3_setWind_7 (by decide) (by omega) (by omega) (fun c_7 => ?_) (fun c_7 => ?_)
    · skip
      refine lv_iload_n hF.1 hF.2.1 dX3_setWind_20 rfl (lv_at hl 2 rfl) ?_
      refine zi_bipush hF.1 hF.2.1 dX3_setWind_21 (by decide) ?_
      refine zi_bipush hF.1 hF.2.1 dX3_setWind_23 (by decide) ?_
      have hpx_4 : ∀ E9, (fun E9 => (E9 = E206 ∧ ¬ ((-10) ≤ wn ∧ wn ≤ 10))) E9 → (fun E9 => (E9 = E98 ∧ thW hr9 wn = 1) ∨ (E9 = E206 ∧ thW hr9 wn = 2)) E9 := by
        intro E9 hE
        obtain ⟨rfl, q9⟩ := hE
        first | exact Or.inl ⟨rfl, by unfold thW; (repeat' split) <;> omega⟩ | exact Or.inr (⟨rfl, by unfold thW; (repeat' split) <;> omega⟩)
      refine z_xcv (k := 1) (S := Unit) (w := fun _ => gC c h σ κ ω) (P := fun _ => (-10) ≤ wn ∧ wn ≤ 10) (PXc := fun E9 => (E9 = E206 ∧ ¬ ((-10) ≤ wn ∧ wn ≤ 10))) (PX := fun E9 => (E9 = E98 ∧ thW hr9 wn = 1) ∨ (E9 = E206 ∧ thW hr9 wn = 2)) (z_xrunS (rm := { frames := 6, cells := 1, slots := 6, locals := 82 }) hF hK hX hz hA hP hS (c_X3_requireRange l h D c σ κ ω hinj hG wn (by omega) (-10) (by omega) 10 (by omega) hst _) (gIn_S mw_84 mw_85 mw_86 mw_80) rfl rfl ⟨rfl, by decide, by decide, rfl⟩ ⟨Nat.le_of_ble_eq_true rfl, Nat.le_of_ble_eq_true rfl⟩ (As := [.int (iz (wn)), .int (iz (-10)), .int (iz (10))]) (rest := []) rfl hl.1 rfl (Nat.le_of_ble_eq_true rfl) dX3_setWind_25 ⟨(Nat.le_of_ble_eq_true rfl), (Nat.le_of_ble_eq_true rfl)⟩) hz hA hS hexc hlocks (Nat.le_of_ble_eq_true rfl) (Nat.le_of_ble_eq_true rfl) hpx_4 (fun u_2 H locs hp hP hS => ?_)
      have q_5 : (-10) ≤ wn ∧ wn ≤ 10 := hp
      refine lv_aload_n hF.1 hF.2.1 dX3_setWind_28 rfl (lv_at hl 0 rfl) ?_
      refine z_get hF hK hP (k := 0) (C := RX3) (T := TX3) (N := 14) (by omega) (rfl) rfl uin_X3 4 (by decide) mw_58 (v := .ref (h (4))) rfl dX3_setWind_29 ?_
      refine lv_iload_n hF.1 hF.2.1 dX3_setWind_32 rfl (lv_at hl 1 rfl) ?_
      refine z_iald hF hK hP (k := 4) (by decide) rfl 0 rfl (i := hr9) ((hr9).toNat) ((Int.toNat_of_nonneg (by omega)).symm) (by omega) (by decide) (x := iz (σ 4 (hr9).toNat)) rfl dX3_setWind_33 ?_
      have q_6 := GI_4 hG ((hr9).toNat)
      refine lv_istore_n (lv' := [(3, .int (iz (σ 4 (hr9).toNat))), (0, .ref (h (0))), (1, .int (iz (hr9))), (2, .int (iz (wn)))]) hF.1 hF.2.1 dX3_setWind_34 rfl hl (by decide) rfl (fun ls hl => ?_)
      refine lv_aload_n hF.1 hF.2.1 dX3_setWind_35 rfl (lv_at hl 1 rfl) ?_
      refine z_get hF hK hP (k := 0) (C := RX3) (T := TX3) (N := 14) (by omega) (rfl) rfl uin_X3 4 (by decide) mw_58 (v := .ref (h (4))) rfl dX3_setWind_36 ?_
      refine lv_iload_n hF.1 hF.2.1 dX3_setWind_39 rfl (lv_at hl 2 rfl) ?_
      refine lv_iload_n hF.1 hF.2.1 dX3_setWind_40 rfl (lv_at hl 3 rfl) ?_
      refine z_iast hF hK hz hP hS (k := 4) (by decide) rfl 0 rfl (i := hr9) ((hr9).toNat) ((Int.toNat_of_nonneg (by omega)).symm) (by omega) (by decide) (x := iz (wn)) (g' := gC c h (u2 (σ) 4 ((hr9).toNat) (wn)) (κ) (ω)) (by show Sum.inl (_, _, Sum.inl _) = _; rw [u2_up]) (gC_row_o ⟨by decide, by decide⟩) dX3_setWind_41 (fun H locs hP hS => ?_)
      have hG_7 := GI_u4 hG (v := wn) (k := (hr9).toNat) (by omega)
      refine lv_aload_n hF.1 hF.2.1 dX3_setWind_42 rfl (lv_at hl 1 rfl) ?_
      refine lv_iload_n hF.1 hF.2.1 dX3_setWind_43 rfl (lv_at hl 2 rfl) ?_
      refine zi_bipush hF.1 hF.2.1 dX3_setWind_44 (by decide) ?_
      refine zi_mul hF.1 hF.2.1 dX3_setWind_46 ?_
      refine lv_iload_n hF.1 hF.2.1 dX3_setWind_47 rfl (lv_at hl 2 rfl) ?_
      refine zi_bipush hF.1 hF.2.1 dX3_setWind_48 (by decide) ?_
      refine zi_mul hF.1 hF.2.1 dX3_setWind_50 ?_
      refine zi_bipush hF.1 hF.2.1 dX3_setWind_51 (by decide) ?_
      refine zi_add hF.1 hF.2.1 dX3_setWind_53 ?_
      refine zi_sipush hF.1 hF.2.1 dX3_setWind_54 (by decide) ?_
      refine zi_min hF hl.1 mw_159 mw_16 mw_17 mw_18 (Nat.le_of_ble_eq_true rfl) (Nat.le_of_ble_eq_true rfl) (Nat.le_of_ble_eq_true rfl) (Nat.le_of_ble_eq_true rfl) (a := (hr9 * 60) + 60) (b := 1000) (by omega) (by omega) dX3_setWind_57 ?_
      refine z_ci (S := Nat → Nat → Int) (w := fun κ9 => gC c h (u2 (σ) 4 ((hr9).toNat) (wn)) κ9 ω) (P := fun z _ => z = bw (u2 (σ) 4 ((hr9).toNat) (wn)) (hr9 * 60) (min ((hr9 * 60) + 60) (1000))) (z_runV (rm := { frames := 4, cells := 0, slots := 0, locals := 97 }) hF hK hP (c_X3_brokenWithin l h D c (u2 (σ) 4 ((hr9).toNat) (wn)) κ ω hinj hG_7 (hr9 * 60) (min ((hr9 * 60) + 60) (1000)) (by omega) _) (gIn_V mw_155 mw_156 mw_157 mw_86 mw_152) rfl rfl ⟨rfl, by decide, by decide, rfl⟩ ⟨Nat.le_of_ble_eq_true rfl, Nat.le_of_ble_eq_true rfl⟩ (k := 0) (T := TX3) (N := 14) (by omega) rfl (rfl) rfl (As := [.int (iz (hr9 * 60)), .int (iz (min ((hr9 * 60) + 60) (1000)))]) (rest := []) rfl hl.1 rfl (Nat.le_of_ble_eq_true rfl) dX3_setWind_60 ⟨Nat.le_of_ble_eq_true rfl, Nat.le_of_ble_eq_true rfl⟩) hz hA hS (fun z_8 u_9 H locs hp hP hS => ?_)
      obtain rfl : z_8 = bw (u2 (σ) 4 ((hr9).toNat) (wn)) (hr9 * 60) (min ((hr9 * 60) + 60) (1000)) := hp
      have hP : zB 32 h D (gC c h (u2 (σ) 4 ((hr9).toNat) (wn)) (u_9) (ω)) H := hP
      have q_10 := @bw_rg (u2 (σ) 4 ((hr9).toNat) (wn)) (hr9 * 60) (min ((hr9 * 60) + 60) (1000))
      refine zi_if_ne (tgt := 68) hF.1 hF.2.1 (a := bw (u2 (σ) 4 ((hr9).toNat) (wn)) (hr9 * 60) (min ((hr9 * 60) + 60) (1000))) dX3_setWind_63 (by decide) (by omega) (fun c_63 => ?_) (fun c_63 => ?_)
      · skip
        refine lv_aload_n hF.1 hF.2.1 dX3_setWind_68 rfl (lv_at hl 1 rfl) ?_
        refine z_get hF hK hP (k := 0) (C := RX3) (T := TX3) (N := 14) (by omega) (rfl) rfl uin_X3 4 (by decide) mw_58 (v := .ref (h (4))) rfl dX3_setWind_69 ?_
        refine lv_iload_n hF.1 hF.2.1 dX3_setWind_72 rfl (lv_at hl 2 rfl) ?_
        refine lv_iload_n hF.1 hF.2.1 dX3_setWind_73 rfl (lv_at hl 0 rfl) ?_
        refine z_iast hF hK hz hP hS (k := 4) (by decide) rfl 0 rfl (i := hr9) ((hr9).toNat) ((Int.toNat_of_nonneg (by omega)).symm) (by omega) (by decide) (x := iz (σ 4 (hr9).toNat)) (g' := gC c h (u2 (u2 (σ) 4 ((hr9).toNat) (wn)) 4 ((hr9).toNat) (σ 4 (hr9).toNat)) (u_9) (ω)) (by show Sum.inl (_, _, Sum.inl _) = _; rw [u2_up]) (gC_row_o ⟨by decide, by decide⟩) dX3_setWind_74 (fun H locs hP hS => ?_)
        have hG_11 := GI_u4 hG_7 (v := σ 4 (hr9).toNat) (k := (hr9).toNat) (by omega)
        refine zi_const hF.1 hF.2.1 dX3_setWind_75 ?_
        exact z_xreti (S := (Nat → Nat → Int) × (Nat → Nat → Int)) (P := fun z u9 => thW hr9 wn = 0 ∧ CS σ (u2 σ 4 hr9.toNat wn) (bw (u2 σ 4 hr9.toNat wn) (hr9 * 60) (min (hr9 * 60 + 60) 1000) = 0) z u9.1 ∧ GI u9.1) (z := 0) (u := (u2 (u2 (σ) 4 ((hr9).toNat) (wn)) 4 ((hr9).toNat) (σ 4 (hr9).toNat), u_9)) (w := fun u9 => gC c h u9.1 u9.2 ω) hF hr hlocks hP hS (Nat.le_of_ble_eq_true rfl) (Nat.le_of_ble_eq_true rfl) ((iz_nar_z (by first | omega | exact b2i_rg)).1) (⟨by unfold thW; (repeat' split) <;> omega, Or.inr ⟨by omega, rfl, u2_u2.trans u2_self⟩, hG_11⟩) dX3_setWind_76
      · skip
        refine zi_const hF.1 hF.2.1 dX3_setWind_66 ?_
        exact z_xreti (S := (Nat → Nat → Int) × (Nat → Nat → Int)) (P := fun z u9 => thW hr9 wn = 0 ∧ CS σ (u2 σ 4 hr9.toNat wn) (bw (u2 σ 4 hr9.toNat wn) (hr9 * 60) (min (hr9 * 60 + 60) 1000) = 0) z u9.1 ∧ GI u9.1) (z := 1) (u := (u2 (σ) 4 ((hr9).toNat) (wn), u_9)) (w := fun u9 => gC c h u9.1 u9.2 ω) hF hr hlocks hP hS (Nat.le_of_ble_eq_true rfl) (Nat.le_of_ble_eq_true rfl) ((iz_nar_z (by first | omega | exact b2i_rg)).1) (⟨by unfold thW; (repeat' split) <;> omega, Or.inl ⟨by omega, rfl, rfl⟩, hG_7⟩) dX3_setWind_67
    · skip
      have hpx_12 : (fun E9 => (E9 = E98 ∧ thW hr9 wn = 1) ∨ (E9 = E206 ∧ thW hr9 wn = 2)) E98 := by show _; first | exact Or.inl ⟨rfl, by unfold thW; (repeat' split) <;> omega⟩ | exact Or.inr (⟨rfl, by unfold thW; (repeat' split) <;> omega⟩)
      exact z_throw (PX := fun E9 => (E9 = E98 ∧ thW hr9 wn = 1) ∨ (E9 = E206 ∧ thW hr9 wn = 2)) (cls := E98) (text := "no such hour") hF hK hX hexc hlocks hst hP hS hl.1 (by decide) mw_97 mw_98 tx_98a tx_98b (by decide) rfl dX3_setWind_10 dX3_setWind_13 dX3_setWind_14 dX3_setWind_16 dX3_setWind_19 ⟨(Nat.le_of_ble_eq_true rfl), (Nat.le_of_ble_eq_true rfl), Nat.le_refl _, Nat.le_refl _⟩ (Nat.le_of_ble_eq_true rfl) (Nat.le_of_ble_eq_true rfl) hpx_12
