set_option maxRecDepth 100000 in
set_option maxHeartbeats 4000000 in
theorem c_X3_lookAt (l : Launch) (h : Nat → Nat) (D : va_G) (c : Nat → ClassId) (σ κ : Nat → Nat → Int) (ω : Nat × (Nat → Int32) × Int32) (hinj : ∀ i j, i < 32 → j < 32 → h i = h j → i = j) (hG : GI σ) (mi : Int) (hm : 0 ≤ mi ∧ mi ≤ 999) :
    zMv (S := Nat → Nat → Int) l yX3_lookAt cX3_lookAt 7 (none) 2 45 [.ref (h (0)), .int (iz (mi))] 32 h D (gT c) (gC c h (σ) (κ) (ω)) (fun κ9 => gC c h σ κ9 ω) (fun κ9 => LK σ mi 16 κ9) := by
  refine zM_of (by decide) (Nat.le_of_ble_eq_true rfl) ?_
  intro p e s m below meth cd ls ⟨hF, hr, hlocks, hK⟩ hP hl
  have hz : zD (zA 32 h s.heap.size) 32 h := zD.self hinj s.heap.size
  have hA : ∀ q, s.heap.size ≤ q → zA 32 h s.heap.size q := zA_new
  generalize zA 32 h s.heap.size = A at hz hA ⊢
  have hS : va_S A s.heap s.heap [] := va_S.rf
  have hl : lv_has ls 7 [(0, .ref (h (0))), (1, .int (iz (mi)))] := hl
  refine lv_aload_n hF.1 hF.2.1 dX3_lookAt_0 rfl (lv_at hl 0 rfl) ?_
  refine z_get hF hK hP (k := 0) (C := RX3) (T := TX3) (N := 14) (by omega) (rfl) rfl uin_X3 10 (by decide) mw_67 (v := .ref (h (8))) rfl dX3_lookAt_1 ?_
  refine zi_const hF.1 hF.2.1 dX3_lookAt_4 ?_
  refine z_cv (S := Nat → Nat → Int) (w := fun κ9 => gC c h σ κ9 ω) (P := fun κ9 => (∀ p, p < 3 → κ9 0 p = 0) ∧ ∀ r, r ≠ 0 → κ9 r = κ r) (z_runSO (rm := { frames := 0, cells := 0, slots := 0, locals := 0 }) hF hK hP (c_fill_8 l h D c σ κ ω hinj hG 0 _) mw_74 mw_75 mw_76 mw_52 rfl rfl ⟨by decide, by decide, rfl⟩ ⟨Nat.le_of_ble_eq_true rfl, Nat.le_of_ble_eq_true rfl⟩ (As := [.ref (h (8)), .int (iz (0))]) (rest := []) rfl hl.1 rfl (Nat.le_of_ble_eq_true rfl) dX3_lookAt_5 ⟨Nat.le_refl _, Nat.le_refl _⟩) hz hA hS (fun κ_1 H locs hp H1P hS => ?_)
  have hP : zB 32 h D (gC c h (σ) (κ_1) (ω)) H := H1P
  obtain ⟨hκ_1a, hκ_1b⟩ := hp
  refine lv_aload_n hF.1 hF.2.1 dX3_lookAt_8 rfl (lv_at hl 0 rfl) ?_
  refine z_get hF hK hP (k := 0) (C := RX3) (T := TX3) (N := 14) (by omega) (rfl) rfl uin_X3 11 (by decide) mw_68 (v := .ref (h (9))) rfl dX3_lookAt_9 ?_
  refine zi_const hF.1 hF.2.1 dX3_lookAt_12 ?_
  refine z_cv (S := Nat → Nat → Int) (w := fun κ9 => gC c h σ κ9 ω) (P := fun κ9 => (∀ p, p < 3 → κ9 1 p = 0) ∧ ∀ r, r ≠ 1 → κ9 r = κ_1 r) (z_runSO (rm := { frames := 0, cells := 0, slots := 0, locals := 0 }) hF hK hP (c_fill_9 l h D c σ κ_1 ω hinj hG 0 _) mw_74 mw_75 mw_76 mw_52 rfl rfl ⟨by decide, by decide, rfl⟩ ⟨Nat.le_of_ble_eq_true rfl, Nat.le_of_ble_eq_true rfl⟩ (As := [.ref (h (9)), .int (iz (0))]) (rest := []) rfl hl.1 rfl (Nat.le_of_ble_eq_true rfl) dX3_lookAt_13 ⟨Nat.le_refl _, Nat.le_refl _⟩) hz hA hS (fun κ_2 H locs hp H1P hS => ?_)
  have hP : zB 32 h D (gC c h (σ) (κ_2) (ω)) H := H1P
  obtain ⟨hκ_2a, hκ_2b⟩ := hp
  refine lv_aload_n hF.1 hF.2.1 dX3_lookAt_16 rfl (lv_at hl 0 rfl) ?_
  refine zi_const hF.1 hF.2.1 dX3_lookAt_17 ?_
  refine z_put hF hK hz hP hS (k := 0) (C := RX3) (T := TX3) (N := 14) (by omega) (rfl) rfl uin_X3 tyX3_ok nmX3 12 (by decide) mw_119 rfl (⟨rfl, rfl⟩) (by simp) (g' := gC c h (σ) (u2 (κ_2) 2 0 (0)) (ω)) (rfl) (gC_ks_o) dX3_lookAt_18 (fun H locs hP hS => ?_)
  refine lv_aload_n hF.1 hF.2.1 dX3_lookAt_21 rfl (lv_at hl 0 rfl) ?_
  refine zi_const hF.1 hF.2.1 dX3_lookAt_22 ?_
  refine z_put hF hK hz hP hS (k := 0) (C := RX3) (T := TX3) (N := 14) (by omega) (rfl) rfl uin_X3 tyX3_ok nmX3 13 (by decide) mw_118 rfl (iz_nar_z (by first | (unfold b2i; split <;> omega) | omega)) (by simp) (g' := gC c h (σ) (u2 (u2 (κ_2) 2 0 (0)) 2 1 (0)) (ω)) (rfl) (gC_ks_o) dX3_lookAt_23 (fun H locs hP hS => ?_)
  refine lv_aload_n hF.1 hF.2.1 dX3_lookAt_26 rfl (lv_at hl 0 rfl) ?_
  refine z_get hF hK hP (k := 0) (C := RX3) (T := TX3) (N := 14) (by omega) (rfl) rfl uin_X3 4 (by decide) mw_58 (v := .ref (h (4))) rfl dX3_lookAt_27 ?_
  refine lv_iload_n hF.1 hF.2.1 dX3_lookAt_30 rfl (lv_at hl 1 rfl) ?_
  refine zi_bipush hF.1 hF.2.1 dX3_lookAt_31 (by decide) ?_
  refine zi_div hF.1 hF.2.1 (a := mi) (b := 60) dX3_lookAt_33 (by omega) (by omega) ?_
  refine z_iald hF hK hP (k := 4) (by decide) rfl 0 rfl (i := mi / 60) ((mi / 60).toNat) ((Int.toNat_of_nonneg (by omega)).symm) (by omega) (by decide) (x := iz ((σ) 4 ((mi / 60).toNat))) rfl dX3_lookAt_34 ?_
  have q_3 := GI_4 hG ((mi / 60).toNat)
  refine lv_istore_n (lv' := [(2, .int (iz ((σ) 4 ((mi / 60).toNat)))), (0, .ref (h (0))), (1, .int (iz (mi)))]) hF.1 hF.2.1 dX3_lookAt_35 rfl hl (by decide) rfl (fun ls hl => ?_)
  refine lv_aload_n hF.1 hF.2.1 dX3_lookAt_36 rfl (lv_at hl 1 rfl) ?_
  refine z_get hF hK hP (k := 0) (C := RX3) (T := TX3) (N := 14) (by omega) (rfl) rfl uin_X3 5 (by decide) mw_60 (v := .ref (h (5))) rfl dX3_lookAt_37 ?_
  refine lv_astore_n (lv' := [(3, .ref (h (5))), (2, .int (iz ((σ) 4 ((mi / 60).toNat)))), (0, .ref (h (0))), (1, .int (iz (mi)))]) hF.1 hF.2.1 dX3_lookAt_40 rfl hl (by decide) rfl (fun ls hl => ?_)
  refine lv_aload_n hF.1 hF.2.1 dX3_lookAt_41 rfl (lv_at hl 0 rfl) ?_
  refine z_alen hF hK hP (k := 5) (by decide) rfl 2 rfl (z := 16) rfl dX3_lookAt_42 ?_
  refine lv_istore (lv' := [(4, .int (iz (16))), (3, .ref (h (5))), (2, .int (iz ((σ) 4 ((mi / 60).toNat)))), (0, .ref (h (0))), (1, .int (iz (mi)))]) hF.1 hF.2.1 dX3_lookAt_43 hl (by decide) rfl (fun ls hl => ?_)
  refine zi_const hF.1 hF.2.1 dX3_lookAt_45 ?_
  refine lv_istore (lv' := [(5, .int (iz (0))), (4, .int (iz (16))), (3, .ref (h (5))), (2, .int (iz ((σ) 4 ((mi / 60).toNat)))), (0, .ref (h (0))), (1, .int (iz (mi)))]) hF.1 hF.2.1 dX3_lookAt_46 hl (by decide) rfl (fun ls hl => ?_)
  have nv_5 : ((0) ≤ 16) ∧ (LK σ mi (0) (u2 (u2 (κ_2) 2 0 (0)) 2 1 (0))) := ⟨by omega, ⟨fun p hp => by rw [u2_row (by decide), u2_row (by decide), hκ_2b 0 (by decide)]; exact hκ_1a p hp, fun p hp => by rw [u2_row (by decide), u2_row (by decide)]; exact hκ_2a p hp, by rw [u2_ne (by decide), u2_at]; rfl, by rw [u2_at]; rfl⟩⟩
  refine z_loop (V := Nat × (Nat → Nat → Int)) (nL := 7) (wd := fun v_4 => gC c h (σ) (v_4.2) (ω)) (lv := fun v_4 => [(0, .ref (h (0))), (1, .int (iz (mi))), (2, .int (iz (σ 4 (mi / 60).toNat))), (3, .ref (h (5))), (4, .int (iz (16))), (5, .int (iz ((v_4.1 : Int))))]) (stk := fun v_4 => []) (mu := fun v_4 => 17 - v_4.1) (inv := fun v_4 => (v_4.1 ≤ 16) ∧ (LK σ mi v_4.1 v_4.2)) ?_ (0, u2 (u2 (κ_2) 2 0 (0)) 2 1 (0)) nv_5 hP hS (lv_sub hl [4, 5, 3, 2, 1, 0] rfl)
  intro ⟨i, κ1⟩ hv ih_48 H locs ls hP hS hl
  have hP : zB 32 h D (gC c h (σ) (κ1) (ω)) H := hP
  have hl : lv_has ls 7 [(0, .ref (h (0))), (1, .int (iz (mi))), (2, .int (iz (σ 4 (mi / 60).toNat))), (3, .ref (h (5))), (4, .int (iz (16))), (5, .int (iz ((i : Int))))] := hl
  obtain ⟨hi_i, hLK⟩ : (i ≤ 16) ∧ (LK σ mi i κ1) := hv
  have hq9 : 0 ≤ κ1 2 1 ∧ κ1 2 1 ≤ 1 := by rw [hLK.2.2.2]; exact tcS_rg i
  refine lv_iload hF.1 hF.2.1 dX3_lookAt_48 (lv_at hl 5 rfl) ?_
  refine lv_iload hF.1 hF.2.1 dX3_lookAt_50 (lv_at hl 4 rfl) ?_
  refine zi_icmp_ge (tgt := 83) hF.1 hF.2.1 (a := (i : Int)) (b := 16) dX3_lookAt_52 (by decide) (by omega) (by omega) (fun c_52 => ?_) (fun c_52 => ?_)
  · skip
    exact z_retv (P := fun κ9 => LK σ mi 16 κ9) (u := κ1) (w := fun κ9 => gC c h σ κ9 ω) hF hr hlocks hP hS ((by have e9 : i = 16 := (by omega); rw [e9] at hLK; exact hLK)) dX3_lookAt_83
  · skip
    refine lv_aload_n hF.1 hF.2.1 dX3_lookAt_55 rfl (lv_at hl 3 rfl) ?_
    refine lv_iload hF.1 hF.2.1 dX3_lookAt_56 (lv_at hl 5 rfl) ?_
    refine z_aald hF hK hP (k := 5) (by decide) rfl 2 rfl (i := (i : Int)) (i) (rfl) (by omega) (by decide) (a := h (i + 11)) rfl dX3_lookAt_58 ?_
    refine lv_astore (lv' := [(6, .ref (h (i + 11))), (0, .ref (h (0))), (1, .int (iz (mi))), (2, .int (iz (σ 4 (mi / 60).toNat))), (3, .ref (h (5))), (4, .int (iz (16))), (5, .int (iz ((i : Int))))]) hF.1 hF.2.1 dX3_lookAt_59 hl (by decide) rfl (fun ls hl => ?_)
    refine lv_aload hF.1 hF.2.1 dX3_lookAt_61 (lv_at hl 0 rfl) ?_
    refine lv_iload_n hF.1 hF.2.1 dX3_lookAt_63 rfl (lv_at hl 2 rfl) ?_
    refine z_ci (S := Unit) (w := fun _ => gC c h σ κ1 ω) (P := fun z _ => z = b2i (pl σ i mi)) (z_runVN (rm := { frames := 0, cells := 0, slots := 0, locals := 0 }) hF hK hP (c_X0_playsAt l h D c σ κ1 ω hinj hG i (by omega) mi (by omega) _) mw_7 nw_24 mw_13 mw_122 mw_123 rfl rfl ⟨by decide, by decide, rfl⟩ ⟨Nat.le_of_ble_eq_true rfl, Nat.le_of_ble_eq_true rfl⟩ (k := i + 11) (T := TX0) (N := 9) (by omega) rfl (gC_act (by omega)) rfl (As := [.int (iz (mi))]) (rest := []) rfl hl.1 rfl (Nat.le_of_ble_eq_true rfl) dX3_lookAt_64 ⟨Nat.le_refl _, Nat.le_refl _⟩) hz hA hS (fun z_6 u_7 H locs hp hP hS => ?_)
    obtain rfl : z_6 = b2i (pl σ i mi) := hp
    refine zi_ifb_eq (tgt := 77) hF.1 hF.2.1 (P := pl σ i mi) dX3_lookAt_67 (by decide) (fun c_67 => ?_) (fun c_67 => ?_)
    · skip
      refine lv_iinc (v := iz (((i + 1 : Nat) : Int))) (lv' := [(5, .int (iz (((i + 1 : Nat) : Int)))), (6, .ref (h (i + 11))), (0, .ref (h (0))), (1, .int (iz (mi))), (2, .int (iz (σ 4 (mi / 60).toNat))), (3, .ref (h (5))), (4, .int (iz (16)))]) hF.1 hF.2.1 dX3_lookAt_77 hl (k := 6) rfl ((iz_add _ _).trans (congrArg iz (by omega))) (by decide) rfl (fun ls hl => ?_)
      refine lv_goto (tgt := 48) hF.1 hF.2.1 dX3_lookAt_80 (by decide) ?_
      have nv_8 : ((i + 1) ≤ 16) ∧ (LK σ mi (i + 1) (κ1)) := ⟨by omega, LK_skip hLK c_67⟩
      exact ih_48 (i + 1, κ1) nv_8 (by show 17 - (i + 1) < 17 - i; omega) _ _ _ hP hS (lv_sub hl [2, 3, 4, 5, 6, 0] rfl)
    · skip
      refine lv_aload_n hF.1 hF.2.1 dX3_lookAt_70 rfl (lv_at hl 1 rfl) ?_
      refine lv_aload hF.1 hF.2.1 dX3_lookAt_71 (lv_at hl 0 rfl) ?_
      refine lv_iload_n hF.1 hF.2.1 dX3_lookAt_73 rfl (lv_at hl 3 rfl) ?_
      refine z_cv (S := Nat → Nat → Int) (w := fun κ9 => gC c h σ κ9 ω) (P := fun κ9 => addP σ κ1 i (σ 4 (mi / 60).toNat) κ9) (z_runV (rm := { frames := 1, cells := 0, slots := 0, locals := 21 }) hF hK hP (c_X3_addToLook l h D c σ κ1 ω hinj hG i (by omega) (σ 4 (mi / 60).toNat) (by omega) (by omega) _) (gIn_V mw_124 mw_125 mw_126 mw_86 mw_116) rfl rfl ⟨rfl, by decide, by decide, rfl⟩ ⟨Nat.le_of_ble_eq_true rfl, Nat.le_of_ble_eq_true rfl⟩ (k := 0) (T := TX3) (N := 14) (by omega) rfl (rfl) rfl (As := [.ref (h (i + 11)), .int (iz (σ 4 (mi / 60).toNat))]) (rest := []) rfl hl.1 rfl (Nat.le_of_ble_eq_true rfl) dX3_lookAt_74 ⟨Nat.le_refl _, Nat.le_refl _⟩) hz hA hS (fun u_9 H locs hp hP hS => ?_)
      have hu_9 := hp
      have hP : zB 32 h D (gC c h (σ) (u_9) (ω)) H := hP
      refine lv_iinc (v := iz (((i + 1 : Nat) : Int))) (lv' := [(5, .int (iz (((i + 1 : Nat) : Int)))), (6, .ref (h (i + 11))), (0, .ref (h (0))), (1, .int (iz (mi))), (2, .int (iz (σ 4 (mi / 60).toNat))), (3, .ref (h (5))), (4, .int (iz (16)))]) hF.1 hF.2.1 dX3_lookAt_77 hl (k := 6) rfl ((iz_add _ _).trans (congrArg iz (by omega))) (by decide) rfl (fun ls hl => ?_)
      refine lv_goto (tgt := 48) hF.1 hF.2.1 dX3_lookAt_80 (by decide) ?_
      have nv_10 : ((i + 1) ≤ 16) ∧ (LK σ mi (i + 1) (u_9)) := ⟨by omega, LK_add hLK c_67 hu_9⟩
      exact ih_48 (i + 1, u_9) nv_10 (by show 17 - (i + 1) < 17 - i; omega) _ _ _ hP hS (lv_sub hl [2, 3, 4, 5, 6, 0] rfl)
