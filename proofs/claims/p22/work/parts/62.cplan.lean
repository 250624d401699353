set_option maxRecDepth 100000 in
set_option maxHeartbeats 4000000 in
theorem c_X3_tryAct (l : Launch) (h : Nat → Nat) (D : va_G) (c : Nat → ClassId) (σ κ : Nat → Nat → Int) (ω : Nat × (Nat → Int32) × Int32) (hinj : ∀ i j, i < 32 → j < 32 → h i = h j → i = j) (hG : GI σ) (sg : Int) (hsg : -2147483648 ≤ sg ∧ sg ≤ 2147483647) (sa : Int) (hsa : -2147483648 ≤ sa ∧ sa ≤ 2147483647) (ln : Int) (hln : -2147483648 ≤ ln ∧ ln ≤ 2147483647) (ph : Int) (hph : -2147483648 ≤ ph ∧ ph ≤ 2147483647) (dr : Int) (hdr : -2147483648 ≤ dr ∧ dr ≤ 2147483647) (lo : Int) (hlo : -2147483648 ≤ lo ∧ lo ≤ 2147483647) (ch : Int) (hch : -2147483648 ≤ ch ∧ ch ≤ 2147483647) (hst : l.stackTraces = false) :
    zXq (S := Nat → Nat → Int) l yX3_tryAct cX3_tryAct 9 (some (.object "Festivalgrid$Act")) 8 124 8 [.ref (h (0)), .int (iz (sg)), .int (iz (sa)), .int (iz (ln)), .int (iz (ph)), .int (iz (dr)), .int (iz (lo)), .int (iz (ch))] 32 h D (gT c) (gC c h (σ) (κ) (ω)) (fun σ9 => gC c h σ9 κ ω) (fun r σ9 => thL σ sg sa ln ph dr lo ch = 0 ∧ r = some ((σ 0 1).toNat + 11) ∧ σ9 = lay σ (σ 0 1).toNat sg sa ln ph dr lo ch ∧ GI σ9) (fun E9 => (E9 = E98 ∧ thL σ sg sa ln ph dr lo ch = 1) ∨ (E9 = E206 ∧ thL σ sg sa ln ph dr lo ch = 2) ∨ (E9 = E67 ∧ thL σ sg sa ln ph dr lo ch = 3)) := by
  refine zXM_of (by decide) (Nat.le_of_ble_eq_true rfl) ?_
  intro p e s m below meth cd ls ⟨hF, hr, hlocks, hK, hexc, hX⟩ hP hl
  have hz : zD (zA 32 h s.heap.size) 32 h := zD.self hinj s.heap.size
  have hA : ∀ q, s.heap.size ≤ q → zA 32 h s.heap.size q := zA_new
  generalize zA 32 h s.heap.size = A at hz hA hX ⊢
  have hS : va_S A s.heap s.heap [] := va_S.rf
  have hl : lv_has ls 9 [(0, .ref (h (0))), (1, .int (iz (sg))), (2, .int (iz (sa))), (3, .int (iz (ln))), (4, .int (iz (ph))), (5, .int (iz (dr))), (6, .int (iz (lo))), (7, .int (iz (ch)))] := hl
  refine lv_iload_n hF.1 hF.2.1 dX3_tryAct_0 rfl (lv_at hl 1 rfl) ?_
  have hpx_3 : ∀ E9, (fun E9 => (E9 = E98 ∧ ¬ (0 ≤ sg ∧ sg ≤ 2))) E9 → (fun E9 => (E9 = E98 ∧ thL σ sg sa ln ph dr lo ch = 1) ∨ (E9 = E206 ∧ thL σ sg sa ln ph dr lo ch = 2) ∨ (E9 = E67 ∧ thL σ sg sa ln ph dr lo ch = 3)) E9 := by
    intro E9 hE
    obtain ⟨rfl, q9⟩ := hE
    first | exact Or.inl ⟨rfl, by unfold thL; (repeat' split) <;> omega⟩ | exact Or.inr (Or.inl ⟨rfl, by unfold thL; (repeat' split) <;> omega⟩) | exact Or.inr (Or.inr (⟨rfl, by unfold thL; (repeat' split) <;> omega⟩))
  refine z_xcv (k := 1) (S := Unit) (w := fun _ => gC c h σ κ ω) (P := fun _ => 0 ≤ sg ∧ sg ≤ 2) (PXc := fun E9 => (E9 = E98 ∧ ¬ (0 ≤ sg ∧ sg ≤ 2))) (PX := fun E9 => (E9 = E98 ∧ thL σ sg sa ln ph dr lo ch = 1) ∨ (E9 = E206 ∧ thL σ sg sa ln ph dr lo ch = 2) ∨ (E9 = E67 ∧ thL σ sg sa ln ph dr lo ch = 3)) (z_xrunS (rm := { frames := 6, cells := 1, slots := 6, locals := 82 }) hF hK hX hz hA hP hS (c_X3_requireStage l h D c σ κ ω hinj hG sg (by omega) hst _) (gIn_S mw_108 mw_109 mw_86 mw_96) rfl rfl ⟨rfl, by decide, by decide, rfl⟩ ⟨Nat.le_of_ble_eq_true rfl, Nat.le_of_ble_eq_true rfl⟩ (As := [.int (iz (sg))]) (rest := []) rfl hl.1 rfl (Nat.le_of_ble_eq_true rfl) dX3_tryAct_1 ⟨(Nat.le_of_ble_eq_true rfl), (Nat.le_of_ble_eq_true rfl)⟩) hz hA hS hexc hlocks (Nat.le_of_ble_eq_true rfl) (Nat.le_of_ble_eq_true rfl) hpx_3 (fun u_1 H locs hp hP hS => ?_)
  have q_4 : 0 ≤ sg ∧ sg ≤ 2 := hp
  refine lv_iload hF.1 hF.2.1 dX3_tryAct_4 (lv_at hl 4 rfl) ?_
  have hpx_7 : ∀ E9, (fun E9 => (E9 = E98 ∧ ¬ (0 ≤ ph ∧ ph ≤ 2))) E9 → (fun E9 => (E9 = E98 ∧ thL σ sg sa ln ph dr lo ch = 1) ∨ (E9 = E206 ∧ thL σ sg sa ln ph dr lo ch = 2) ∨ (E9 = E67 ∧ thL σ sg sa ln ph dr lo ch = 3)) E9 := by
    intro E9 hE
    obtain ⟨rfl, q9⟩ := hE
    first | exact Or.inl ⟨rfl, by unfold thL; (repeat' split) <;> omega⟩ | exact Or.inr (Or.inl ⟨rfl, by unfold thL; (repeat' split) <;> omega⟩) | exact Or.inr (Or.inr (⟨rfl, by unfold thL; (repeat' split) <;> omega⟩))
  refine z_xcv (k := 1) (S := Unit) (w := fun _ => gC c h σ κ ω) (P := fun _ => 0 ≤ ph ∧ ph ≤ 2) (PXc := fun E9 => (E9 = E98 ∧ ¬ (0 ≤ ph ∧ ph ≤ 2))) (PX := fun E9 => (E9 = E98 ∧ thL σ sg sa ln ph dr lo ch = 1) ∨ (E9 = E206 ∧ thL σ sg sa ln ph dr lo ch = 2) ∨ (E9 = E67 ∧ thL σ sg sa ln ph dr lo ch = 3)) (z_xrunS (rm := { frames := 6, cells := 1, slots := 6, locals := 82 }) hF hK hX hz hA hP hS (c_X3_requirePhase l h D c σ κ ω hinj hG ph (by omega) hst _) (gIn_S mw_164 mw_165 mw_86 mw_161) rfl rfl ⟨rfl, by decide, by decide, rfl⟩ ⟨Nat.le_of_ble_eq_true rfl, Nat.le_of_ble_eq_true rfl⟩ (As := [.int (iz (ph))]) (rest := []) rfl hl.1 rfl (Nat.le_of_ble_eq_true rfl) dX3_tryAct_6 ⟨(Nat.le_of_ble_eq_true rfl), (Nat.le_of_ble_eq_true rfl)⟩) hz hA hS hexc hlocks (Nat.le_of_ble_eq_true rfl) (Nat.le_of_ble_eq_true rfl) hpx_7 (fun u_5 H locs hp hP hS => ?_)
  have q_8 : 0 ≤ ph ∧ ph ≤ 2 := hp
  refine lv_iload_n hF.1 hF.2.1 dX3_tryAct_9 rfl (lv_at hl 2 rfl) ?_
  have hpx_11 : ∀ E9, (fun E9 => (E9 = E206 ∧ ¬ (0 ≤ sa ∧ sa ≤ 999))) E9 → (fun E9 => (E9 = E98 ∧ thL σ sg sa ln ph dr lo ch = 1) ∨ (E9 = E206 ∧ thL σ sg sa ln ph dr lo ch = 2) ∨ (E9 = E67 ∧ thL σ sg sa ln ph dr lo ch = 3)) E9 := by
    intro E9 hE
    obtain ⟨rfl, q9⟩ := hE
    first | exact Or.inl ⟨rfl, by unfold thL; (repeat' split) <;> omega⟩ | exact Or.inr (Or.inl ⟨rfl, by unfold thL; (repeat' split) <;> omega⟩) | exact Or.inr (Or.inr (⟨rfl, by unfold thL; (repeat' split) <;> omega⟩))
  refine z_xcv (k := 1) (S := Unit) (w := fun _ => gC c h σ κ ω) (P := fun _ => 0 ≤ sa ∧ sa ≤ 999) (PXc := fun E9 => (E9 = E206 ∧ ¬ (0 ≤ sa ∧ sa ≤ 999))) (PX := fun E9 => (E9 = E98 ∧ thL σ sg sa ln ph dr lo ch = 1) ∨ (E9 = E206 ∧ thL σ sg sa ln ph dr lo ch = 2) ∨ (E9 = E67 ∧ thL σ sg sa ln ph dr lo ch = 3)) (z_xrunS (rm := { frames := 7, cells := 1, slots := 6, locals := 104 }) hF hK hX hz hA hP hS (c_X3_requireMinute l h D c σ κ ω hinj hG sa (by omega) hst _) (gIn_S mw_94 mw_95 mw_86 mw_83) rfl rfl ⟨rfl, by decide, by decide, rfl⟩ ⟨Nat.le_of_ble_eq_true rfl, Nat.le_of_ble_eq_true rfl⟩ (As := [.int (iz (sa))]) (rest := []) rfl hl.1 rfl (Nat.le_of_ble_eq_true rfl) dX3_tryAct_10 ⟨(Nat.le_of_ble_eq_true rfl), (Nat.le_of_ble_eq_true rfl)⟩) hz hA hS hexc hlocks (Nat.le_of_ble_eq_true rfl) (Nat.le_of_ble_eq_true rfl) hpx_11 (fun u_9 H locs hp hP hS => ?_)
  have q_12 : 0 ≤ sa ∧ sa ≤ 999 := hp
  refine lv_iload_n hF.1 hF.2.1 dX3_tryAct_13 rfl (lv_at hl 3 rfl) ?_
  refine zi_const hF.1 hF.2.1 dX3_tryAct_14 ?_
  refine zi_sipush hF.1 hF.2.1 dX3_tryAct_15 (by decide) ?_
  have hpx_15 : ∀ E9, (fun E9 => (E9 = E206 ∧ ¬ (1 ≤ ln ∧ ln ≤ 200))) E9 → (fun E9 => (E9 = E98 ∧ thL σ sg sa ln ph dr lo ch = 1) ∨ (E9 = E206 ∧ thL σ sg sa ln ph dr lo ch = 2) ∨ (E9 = E67 ∧ thL σ sg sa ln ph dr lo ch = 3)) E9 := by
    intro E9 hE
    obtain ⟨rfl, q9⟩ := hE
    first | exact Or.inl ⟨rfl, by unfold thL; (repeat' split) <;> omega⟩ | exact Or.inr (Or.inl ⟨rfl, by unfold thL; (repeat' split) <;> omega⟩) | exact Or.inr (Or.inr (⟨rfl, by unfold thL; (repeat' split) <;> omega⟩))
  refine z_xcv (k := 1) (S := Unit) (w := fun _ => gC c h σ κ ω) (P := fun _ => 1 ≤ ln ∧ ln ≤ 200) (PXc := fun E9 => (E9 = E206 ∧ ¬ (1 ≤ ln ∧ ln ≤ 200))) (PX := fun E9 => (E9 = E98 ∧ thL σ sg sa ln ph dr lo ch = 1) ∨ (E9 = E206 ∧ thL σ sg sa ln ph dr lo ch = 2) ∨ (E9 = E67 ∧ thL σ sg sa ln ph dr lo ch = 3)) (z_xrunS (rm := { frames := 6, cells := 1, slots := 6, locals := 82 }) hF hK hX hz hA hP hS (c_X3_requireRange l h D c σ κ ω hinj hG ln (by omega) 1 (by omega) 200 (by omega) hst _) (gIn_S mw_84 mw_85 mw_86 mw_80) rfl rfl ⟨rfl, by decide, by decide, rfl⟩ ⟨Nat.le_of_ble_eq_true rfl, Nat.le_of_ble_eq_true rfl⟩ (As := [.int (iz (ln)), .int (iz (1)), .int (iz (200))]) (rest := []) rfl hl.1 rfl (Nat.le_of_ble_eq_true rfl) dX3_tryAct_18 ⟨(Nat.le_of_ble_eq_true rfl), (Nat.le_of_ble_eq_true rfl)⟩) hz hA hS hexc hlocks (Nat.le_of_ble_eq_true rfl) (Nat.le_of_ble_eq_true rfl) hpx_15 (fun u_13 H locs hp hP hS => ?_)
  have q_16 : 1 ≤ ln ∧ ln ≤ 200 := hp
  refine lv_iload hF.1 hF.2.1 dX3_tryAct_21 (lv_at hl 5 rfl) ?_
  refine zi_const hF.1 hF.2.1 dX3_tryAct_23 ?_
  refine zi_sipush hF.1 hF.2.1 dX3_tryAct_24 (by decide) ?_
  have hpx_19 : ∀ E9, (fun E9 => (E9 = E206 ∧ ¬ (0 ≤ dr ∧ dr ≤ 200))) E9 → (fun E9 => (E9 = E98 ∧ thL σ sg sa ln ph dr lo ch = 1) ∨ (E9 = E206 ∧ thL σ sg sa ln ph dr lo ch = 2) ∨ (E9 = E67 ∧ thL σ sg sa ln ph dr lo ch = 3)) E9 := by
    intro E9 hE
    obtain ⟨rfl, q9⟩ := hE
    first | exact Or.inl ⟨rfl, by unfold thL; (repeat' split) <;> omega⟩ | exact Or.inr (Or.inl ⟨rfl, by unfold thL; (repeat' split) <;> omega⟩) | exact Or.inr (Or.inr (⟨rfl, by unfold thL; (repeat' split) <;> omega⟩))
  refine z_xcv (k := 1) (S := Unit) (w := fun _ => gC c h σ κ ω) (P := fun _ => 0 ≤ dr ∧ dr ≤ 200) (PXc := fun E9 => (E9 = E206 ∧ ¬ (0 ≤ dr ∧ dr ≤ 200))) (PX := fun E9 => (E9 = E98 ∧ thL σ sg sa ln ph dr lo ch = 1) ∨ (E9 = E206 ∧ thL σ sg sa ln ph dr lo ch = 2) ∨ (E9 = E67 ∧ thL σ sg sa ln ph dr lo ch = 3)) (z_xrunS (rm := { frames := 6, cells := 1, slots := 6, locals := 82 }) hF hK hX hz hA hP hS (c_X3_requireRange l h D c σ κ ω hinj hG dr (by omega) 0 (by omega) 200 (by omega) hst _) (gIn_S mw_84 mw_85 mw_86 mw_80) rfl rfl ⟨rfl, by decide, by decide, rfl⟩ ⟨Nat.le_of_ble_eq_true rfl, Nat.le_of_ble_eq_true rfl⟩ (As := [.int (iz (dr)), .int (iz (0)), .int (iz (200))]) (rest := []) rfl hl.1 rfl (Nat.le_of_ble_eq_true rfl) dX3_tryAct_27 ⟨(Nat.le_of_ble_eq_true rfl), (Nat.le_of_ble_eq_true rfl)⟩) hz hA hS hexc hlocks (Nat.le_of_ble_eq_true rfl) (Nat.le_of_ble_eq_true rfl) hpx_19 (fun u_17 H locs hp hP hS => ?_)
  have q_20 : 0 ≤ dr ∧ dr ≤ 200 := hp
  refine lv_iload hF.1 hF.2.1 dX3_tryAct_30 (lv_at hl 6 rfl) ?_
  refine zi_const hF.1 hF.2.1 dX3_tryAct_32 ?_
  refine zi_sipush hF.1 hF.2.1 dX3_tryAct_33 (by decide) ?_
  have hpx_23 : ∀ E9, (fun E9 => (E9 = E206 ∧ ¬ (0 ≤ lo ∧ lo ≤ 200))) E9 → (fun E9 => (E9 = E98 ∧ thL σ sg sa ln ph dr lo ch = 1) ∨ (E9 = E206 ∧ thL σ sg sa ln ph dr lo ch = 2) ∨ (E9 = E67 ∧ thL σ sg sa ln ph dr lo ch = 3)) E9 := by
    intro E9 hE
    obtain ⟨rfl, q9⟩ := hE
    first | exact Or.inl ⟨rfl, by unfold thL; (repeat' split) <;> omega⟩ | exact Or.inr (Or.inl ⟨rfl, by unfold thL; (repeat' split) <;> omega⟩) | exact Or.inr (Or.inr (⟨rfl, by unfold thL; (repeat' split) <;> omega⟩))
  refine z_xcv (k := 1) (S := Unit) (w := fun _ => gC c h σ κ ω) (P := fun _ => 0 ≤ lo ∧ lo ≤ 200) (PXc := fun E9 => (E9 = E206 ∧ ¬ (0 ≤ lo ∧ lo ≤ 200))) (PX := fun E9 => (E9 = E98 ∧ thL σ sg sa ln ph dr lo ch = 1) ∨ (E9 = E206 ∧ thL σ sg sa ln ph dr lo ch = 2) ∨ (E9 = E67 ∧ thL σ sg sa ln ph dr lo ch = 3)) (z_xrunS (rm := { frames := 6, cells := 1, slots := 6, locals := 82 }) hF hK hX hz hA hP hS (c_X3_requireRange l h D c σ κ ω hinj hG lo (by omega) 0 (by omega) 200 (by omega) hst _) (gIn_S mw_84 mw_85 mw_86 mw_80) rfl rfl ⟨rfl, by decide, by decide, rfl⟩ ⟨Nat.le_of_ble_eq_true rfl, Nat.le_of_ble_eq_true rfl⟩ (As := [.int (iz (lo)), .int (iz (0)), .int (iz (200))]) (rest := []) rfl hl.1 rfl (Nat.le_of_ble_eq_true rfl) dX3_tryAct_36 ⟨(Nat.le_of_ble_eq_true rfl), (Nat.le_of_ble_eq_true rfl)⟩) hz hA hS hexc hlocks (Nat.le_of_ble_eq_true rfl) (Nat.le_of_ble_eq_true rfl) hpx_23 (fun u_21 H locs hp hP hS => ?_)
  have q_24 : 0 ≤ lo ∧ lo ≤ 200 := hp
  refine lv_iload hF.1 hF.2.1 dX3_tryAct_39 (lv_at hl 7 rfl) ?_
  refine zi_const hF.1 hF.2.1 dX3_tryAct_41 ?_
  refine zi_bipush hF.1 hF.2.1 dX3_tryAct_42 (by decide) ?_
  have hpx_27 : ∀ E9, (fun E9 => (E9 = E206 ∧ ¬ ((-1) ≤ ch ∧ ch ≤ 31))) E9 → (fun E9 => (E9 = E98 ∧ thL σ sg sa ln ph dr lo ch = 1) ∨ (E9 = E206 ∧ thL σ sg sa ln ph dr lo ch = 2) ∨ (E9 = E67 ∧ thL σ sg sa ln ph dr lo ch = 3)) E9 := by
    intro E9 hE
    obtain ⟨rfl, q9⟩ := hE
    first | exact Or.inl ⟨rfl, by unfold thL; (repeat' split) <;> omega⟩ | exact Or.inr (Or.inl ⟨rfl, by unfold thL; (repeat' split) <;> omega⟩) | exact Or.inr (Or.inr (⟨rfl, by unfold thL; (repeat' split) <;> omega⟩))
  refine z_xcv (k := 1) (S := Unit) (w := fun _ => gC c h σ κ ω) (P := fun _ => (-1) ≤ ch ∧ ch ≤ 31) (PXc := fun E9 => (E9 = E206 ∧ ¬ ((-1) ≤ ch ∧ ch ≤ 31))) (PX := fun E9 => (E9 = E98 ∧ thL σ sg sa ln ph dr lo ch = 1) ∨ (E9 = E206 ∧ thL σ sg sa ln ph dr lo ch = 2) ∨ (E9 = E67 ∧ thL σ sg sa ln ph dr lo ch = 3)) (z_xrunS (rm := { frames := 6, cells := 1, slots := 6, locals := 82 }) hF hK hX hz hA hP hS (c_X3_requireRange l h D c σ κ ω hinj hG ch (by omega) (-1) (by omega) 31 (by omega) hst _) (gIn_S mw_84 mw_85 mw_86 mw_80) rfl rfl ⟨rfl, by decide, by decide, rfl⟩ ⟨Nat.le_of_ble_eq_true rfl, Nat.le_of_ble_eq_true rfl⟩ (As := [.int (iz (ch)), .int (iz (-1)), .int (iz (31))]) (rest := []) rfl hl.1 rfl (Nat.le_of_ble_eq_true rfl) dX3_tryAct_44 ⟨(Nat.le_of_ble_eq_true rfl), (Nat.le_of_ble_eq_true rfl)⟩) hz hA hS hexc hlocks (Nat.le_of_ble_eq_true rfl) (Nat.le_of_ble_eq_true rfl) hpx_27 (fun u_25 H locs hp hP hS => ?_)
  have q_28 : (-1) ≤ ch ∧ ch ≤ 31 := hp
  refine lv_aload_n hF.1 hF.2.1 dX3_tryAct_47 rfl (lv_at hl 0 rfl) ?_
  refine z_get hF hK hP (k := 0) (C := RX3) (T := TX3) (N := 14) (by omega) (rfl) rfl uin_X3 6 (by decide) mw_163 (v := .int (iz (σ 0 1))) rfl dX3_tryAct_48 ?_
  have q_29 := GI_01 hG
  refine zi_bipush hF.1 hF.2.1 dX3_tryAct_51 (by decide) ?_
  refine zi_icmp_lt (tgt := 66) hF.1 hF.2.1 (a := σ 0 1) (b := 16) dX3_tryAct_53 (by decide) (by omega) (by omega) (fun c_53 => ?_) (fun c_53 => ?_)
  · skip
    refine lv_aload_n hF.1 hF.2.1 dX3_tryAct_66 rfl (lv_at hl 0 rfl) ?_
    refine z_get hF hK hP (k := 0) (C := RX3) (T := TX3) (N := 14) (by omega) (rfl) rfl uin_X3 5 (by decide) mw_60 (v := .ref (h (5))) rfl dX3_tryAct_67 ?_
    refine lv_aload_n hF.1 hF.2.1 dX3_tryAct_70 rfl (lv_at hl 0 rfl) ?_
    refine z_get hF hK hP (k := 0) (C := RX3) (T := TX3) (N := 14) (by omega) (rfl) rfl uin_X3 6 (by decide) mw_163 (v := .int (iz (σ 0 1))) rfl dX3_tryAct_71 ?_
    have q_30 := GI_01 hG
    refine z_aald hF hK hP (k := 5) (by decide) rfl 2 rfl (i := σ 0 1) ((σ 0 1).toNat) ((Int.toNat_of_nonneg (by omega)).symm) (by omega) (by decide) (a := h ((σ 0 1).toNat + 11)) rfl dX3_tryAct_74 ?_
    refine lv_astore (lv' := [(8, .ref (h ((σ 0 1).toNat + 11))), (0, .ref (h (0))), (1, .int (iz (sg))), (2, .int (iz (sa))), (3, .int (iz (ln))), (4, .int (iz (ph))), (5, .int (iz (dr))), (6, .int (iz (lo))), (7, .int (iz (ch)))]) hF.1 hF.2.1 dX3_tryAct_75 hl (by decide) rfl (fun ls hl => ?_)
    refine lv_aload hF.1 hF.2.1 dX3_tryAct_77 (lv_at hl 0 rfl) ?_
    refine lv_iload_n hF.1 hF.2.1 dX3_tryAct_79 rfl (lv_at hl 2 rfl) ?_
    refine z_putN hF hK hz hP hS (k := (σ 0 1).toNat + 11) (C := RX0) (T := TX0) (N := 9) (by omega) (gC_act (by omega)) rfl uin_X0 tyX0_ok nmX0 0 (by decide) nw_8 rfl (⟨rfl, rfl⟩) (by simp) (g' := gC c h (u2 (σ) 7 ((σ 0 1).toNat) (sg)) (κ) (ω)) (by rw [gC_act (by omega)]; simp [u2]) (gC_act_o ⟨by decide, by decide⟩) dX3_tryAct_80 (fun H locs hP hS => ?_)
    have hG_31 := GI_u7 hG (v := sg) (k := (σ 0 1).toNat) (by omega)
    refine lv_aload hF.1 hF.2.1 dX3_tryAct_83 (lv_at hl 0 rfl) ?_
    refine lv_iload_n hF.1 hF.2.1 dX3_tryAct_85 rfl (lv_at hl 3 rfl) ?_
    refine z_putN hF hK hz hP hS (k := (σ 0 1).toNat + 11) (C := RX0) (T := TX0) (N := 9) (by omega) (gC_act (by omega)) rfl uin_X0 tyX0_ok nmX0 1 (by decide) nw_1 rfl (⟨rfl, rfl⟩) (by simp) (g' := gC c h (u2 (u2 (σ) 7 ((σ 0 1).toNat) (sg)) 8 ((σ 0 1).toNat) (sa)) (κ) (ω)) (by rw [gC_act (by omega)]; simp [u2]) (gC_act_o ⟨by decide, by decide⟩) dX3_tryAct_86 (fun H locs hP hS => ?_)
    have hG_32 := GI_u8 hG_31 (v := sa) (k := (σ 0 1).toNat) (by omega)
    refine lv_aload hF.1 hF.2.1 dX3_tryAct_89 (lv_at hl 0 rfl) ?_
    refine lv_iload_n hF.1 hF.2.1 dX3_tryAct_91 rfl (lv_at hl 4 rfl) ?_
    refine z_putN hF hK hz hP hS (k := (σ 0 1).toNat + 11) (C := RX0) (T := TX0) (N := 9) (by omega) (gC_act (by omega)) rfl uin_X0 tyX0_ok nmX0 2 (by decide) nw_9 rfl (⟨rfl, rfl⟩) (by simp) (g' := gC c h (u2 (u2 (u2 (σ) 7 ((σ 0 1).toNat) (sg)) 8 ((σ 0 1).toNat) (sa)) 9 ((σ 0 1).toNat) (ln)) (κ) (ω)) (by rw [gC_act (by omega)]; simp [u2]) (gC_act_o ⟨by decide, by decide⟩) dX3_tryAct_92 (fun H locs hP hS => ?_)
    have hG_33 := GI_u9 hG_32 (v := ln) (k := (σ 0 1).toNat) (by omega)
    refine lv_aload hF.1 hF.2.1 dX3_tryAct_95 (lv_at hl 0 rfl) ?_
    refine lv_iload hF.1 hF.2.1 dX3_tryAct_97 (lv_at hl 5 rfl) ?_
    refine z_putN hF hK hz hP hS (k := (σ 0 1).toNat + 11) (C := RX0) (T := TX0) (N := 9) (by omega) (gC_act (by omega)) rfl uin_X0 tyX0_ok nmX0 3 (by decide) nw_10 rfl (⟨rfl, rfl⟩) (by simp) (g' := gC c h (u2 (u2 (u2 (u2 (σ) 7 ((σ 0 1).toNat) (sg)) 8 ((σ 0 1).toNat) (sa)) 9 ((σ 0 1).toNat) (ln)) 10 ((σ 0 1).toNat) (ph)) (κ) (ω)) (by rw [gC_act (by omega)]; simp [u2]) (gC_act_o ⟨by decide, by decide⟩) dX3_tryAct_99 (fun H locs hP hS => ?_)
    have hG_34 := GI_u10 hG_33 (v := ph) (k := (σ 0 1).toNat) (by omega)
    refine lv_aload hF.1 hF.2.1 dX3_tryAct_102 (lv_at hl 0 rfl) ?_
    refine lv_iload hF.1 hF.2.1 dX3_tryAct_104 (lv_at hl 6 rfl) ?_
    refine z_putN hF hK hz hP hS (k := (σ 0 1).toNat + 11) (C := RX0) (T := TX0) (N := 9) (by omega) (gC_act (by omega)) rfl uin_X0 tyX0_ok nmX0 4 (by decide) nw_2 rfl (⟨rfl, rfl⟩) (by simp) (g' := gC c h (u2 (u2 (u2 (u2 (u2 (σ) 7 ((σ 0 1).toNat) (sg)) 8 ((σ 0 1).toNat) (sa)) 9 ((σ 0 1).toNat) (ln)) 10 ((σ 0 1).toNat) (ph)) 11 ((σ 0 1).toNat) (dr)) (κ) (ω)) (by rw [gC_act (by omega)]; simp [u2]) (gC_act_o ⟨by decide, by decide⟩) dX3_tryAct_106 (fun H locs hP hS => ?_)
    have hG_35 := GI_u11 hG_34 (v := dr) (k := (σ 0 1).toNat) (by omega)
    refine lv_aload hF.1 hF.2.1 dX3_tryAct_109 (lv_at hl 0 rfl) ?_
    refine lv_iload hF.1 hF.2.1 dX3_tryAct_111 (lv_at hl 7 rfl) ?_
    refine z_putN hF hK hz hP hS (k := (σ 0 1).toNat + 11) (C := RX0) (T := TX0) (N := 9) (by omega) (gC_act (by omega)) rfl uin_X0 tyX0_ok nmX0 5 (by decide) nw_3 rfl (⟨rfl, rfl⟩) (by simp) (g' := gC c h (u2 (u2 (u2 (u2 (u2 (u2 (σ) 7 ((σ 0 1).toNat) (sg)) 8 ((σ 0 1).toNat) (sa)) 9 ((σ 0 1).toNat) (ln)) 10 ((σ 0 1).toNat) (ph)) 11 ((σ 0 1).toNat) (dr)) 12 ((σ 0 1).toNat) (lo)) (κ) (ω)) (by rw [gC_act (by omega)]; simp [u2]) (gC_act_o ⟨by decide, by decide⟩) dX3_tryAct_113 (fun H locs hP hS => ?_)
    have hG_36 := GI_u12 hG_35 (v := lo) (k := (σ 0 1).toNat) (by omega)
    refine lv_aload hF.1 hF.2.1 dX3_tryAct_116 (lv_at hl 0 rfl) ?_
    refine lv_iload hF.1 hF.2.1 dX3_tryAct_118 (lv_at hl 8 rfl) ?_
    refine z_putN hF hK hz hP hS (k := (σ 0 1).toNat + 11) (C := RX0) (T := TX0) (N := 9) (by omega) (gC_act (by omega)) rfl uin_X0 tyX0_ok nmX0 6 (by decide) nw_4 rfl (⟨rfl, rfl⟩) (by simp) (g' := gC c h (u2 (u2 (u2 (u2 (u2 (u2 (u2 (σ) 7 ((σ 0 1).toNat) (sg)) 8 ((σ 0 1).toNat) (sa)) 9 ((σ 0 1).toNat) (ln)) 10 ((σ 0 1).toNat) (ph)) 11 ((σ 0 1).toNat) (dr)) 12 ((σ 0 1).toNat) (lo)) 13 ((σ 0 1).toNat) (ch)) (κ) (ω)) (by rw [gC_act (by omega)]; simp [u2]) (gC_act_o ⟨by decide, by decide⟩) dX3_tryAct_120 (fun H locs hP hS => ?_)
    have hG_37 := GI_u13 hG_36 (v := ch) (k := (σ 0 1).toNat) (by omega)
    refine lv_aload hF.1 hF.2.1 dX3_tryAct_123 (lv_at hl 0 rfl) ?_
    refine zi_const hF.1 hF.2.1 dX3_tryAct_125 ?_
    refine z_putN hF hK hz hP hS (k := (σ 0 1).toNat + 11) (C := RX0) (T := TX0) (N := 9) (by omega) (gC_act (by omega)) rfl uin_X0 tyX0_ok nmX0 7 (by decide) nw_0 rfl (iz_nar_z (by first | (unfold b2i; split <;> omega) | omega)) (by simp) (g' := gC c h (u2 (u2 (u2 (u2 (u2 (u2 (u2 (u2 (σ) 7 ((σ 0 1).toNat) (sg)) 8 ((σ 0 1).toNat) (sa)) 9 ((σ 0 1).toNat) (ln)) 10 ((σ 0 1).toNat) (ph)) 11 ((σ 0 1).toNat) (dr)) 12 ((σ 0 1).toNat) (lo)) 13 ((σ 0 1).toNat) (ch)) 14 ((σ 0 1).toNat) (1)) (κ) (ω)) (by rw [gC_act (by omega)]; simp [u2]) (gC_act_o ⟨by decide, by decide⟩) dX3_tryAct_126 (fun H locs hP hS => ?_)
    have hG_38 := GI_u14 hG_37 (v := 1) (k := (σ 0 1).toNat) (by omega)
    refine lv_aload hF.1 hF.2.1 dX3_tryAct_129 (lv_at hl 0 rfl) ?_
    exact z_xretq (S := Nat → Nat → Int) (P := fun r σ9 => thL σ sg sa ln ph dr lo ch = 0 ∧ r = some ((σ 0 1).toNat + 11) ∧ σ9 = lay σ (σ 0 1).toNat sg sa ln ph dr lo ch ∧ GI σ9) (r := some ((σ 0 1).toNat + 11)) (u := u2 (u2 (u2 (u2 (u2 (u2 (u2 (u2 (σ) 7 ((σ 0 1).toNat) (sg)) 8 ((σ 0 1).toNat) (sa)) 9 ((σ 0 1).toNat) (ln)) 10 ((σ 0 1).toNat) (ph)) 11 ((σ 0 1).toNat) (dr)) 12 ((σ 0 1).toNat) (lo)) 13 ((σ 0 1).toNat) (ch)) 14 ((σ 0 1).toNat) (1)) (w := fun σ9 => gC c h σ9 κ ω) hF hr hlocks hP hS (Nat.le_of_ble_eq_true rfl) (Nat.le_of_ble_eq_true rfl) rfl (⟨by unfold thL; (repeat' split) <;> omega, rfl, rfl, hG_38⟩) dX3_tryAct_131
  · skip
    have hpx_39 : (fun E9 => (E9 = E98 ∧ thL σ sg sa ln ph dr lo ch = 1) ∨ (E9 = E206 ∧ thL σ sg sa ln ph dr lo ch = 2) ∨ (E9 = E67 ∧ thL σ sg sa ln ph dr lo ch = 3)) E67 := by show _; first | exact Or.inl ⟨rfl, by unfold thL; (repeat' split) <;> omega⟩ | exact Or.inr (Or.inl ⟨rfl, by unfold thL; (repeat' split) <;> omega⟩) | exact Or.inr (Or.inr (⟨rfl, by unfold thL; (repeat' split) <;> omega⟩))
    exact z_throw (PX := fun E9 => (E9 = E98 ∧ thL σ sg sa ln ph dr lo ch = 1) ∨ (E9 = E206 ∧ thL σ sg sa ln ph dr lo ch = 2) ∨ (E9 = E67 ∧ thL σ sg sa ln ph dr lo ch = 3)) (cls := E67) (text := "all acts are used") hF hK hX hexc hlocks hst hP hS hl.1 (by decide) mw_88 mw_89 tx_67a tx_67b (by decide) rfl dX3_tryAct_56 dX3_tryAct_59 dX3_tryAct_60 dX3_tryAct_62 dX3_tryAct_65 ⟨(Nat.le_of_ble_eq_true rfl), (Nat.le_of_ble_eq_true rfl), Nat.le_refl _, Nat.le_refl _⟩ (Nat.le_of_ble_eq_true rfl) (Nat.le_of_ble_eq_true rfl) hpx_39

set_option maxRecDepth 100000 in
set_option maxHeartbeats 4000000 in
theorem c_X3_plan (l : Launch) (h : Nat → Nat) (D : va_G) (c : Nat → ClassId) (σ κ : Nat → Nat → Int) (ω : Nat × (Nat → Int32) × Int32) (hinj : ∀ i j, i < 32 → j < 32 → h i = h j → i = j) (hG : GI σ) (sg : Int) (hsg : -2147483648 ≤ sg ∧ sg ≤ 2147483647) (sa : Int) (hsa : -2147483648 ≤ sa ∧ sa ≤ 2147483647) (ln : Int) (hln : -2147483648 ≤ ln ∧ ln ≤ 2147483647) (ph : Int) (hph : -2147483648 ≤ ph ∧ ph ≤ 2147483647) (dr : Int) (hdr : -2147483648 ≤ dr ∧ dr ≤ 2147483647) (lo : Int) (hlo : -2147483648 ≤ lo ∧ lo ≤ 2147483647) (ch : Int) (hch : -2147483648 ≤ ch ∧ ch ≤ 2147483647) (hst : l.stackTraces = false) :
    zXi (S := (Nat → Nat → Int) × (Nat → Nat → Int)) l yX3_plan cX3_plan 9 (some .int) 9 152 8 [.ref (h (0)), .int (iz (sg)), .int (iz (sa)), .int (iz (ln)), .int (iz (ph)), .int (iz (dr)), .int (iz (lo)), .int (iz (ch))] 32 h D (gT c) (gC c h (σ) (κ) (ω)) (fun u9 => gC c h u9.1 u9.2 ω) (fun z u9 => thL σ sg sa ln ph dr lo ch = 0 ∧ ((bby (lay σ (σ 0 1).toNat sg sa ln ph dr lo ch) ((σ 0 1).toNat) ≠ 0 ∧ z = -1 ∧ u9.1 = u2 (lay σ (σ 0 1).toNat sg sa ln ph dr lo ch) 14 (σ 0 1).toNat 0) ∨ (bby (lay σ (σ 0 1).toNat sg sa ln ph dr lo ch) ((σ 0 1).toNat) = 0 ∧ z = σ 0 1 ∧ u9.1 = u2 (lay σ (σ 0 1).toNat sg sa ln ph dr lo ch) 0 1 (σ 0 1 + 1))) ∧ GI u9.1) (fun E9 => (E9 = E98 ∧ thL σ sg sa ln ph dr lo ch = 1) ∨ (E9 = E206 ∧ thL σ sg sa ln ph dr lo ch = 2) ∨ (E9 = E67 ∧ thL σ sg sa ln ph dr lo ch = 3)) := by
  refine zXM_of (by decide) (Nat.le_of_ble_eq_true rfl) ?_
  intro p e s m below meth cd ls ⟨hF, hr, hlocks, hK, hexc, hX⟩ hP hl
  have hz : zD (zA 32 h s.heap.size) 32 h := zD.self hinj s.heap.size
  have hA : ∀ q, s.heap.size ≤ q → zA 32 h s.heap.size q := zA_new
  generalize zA 32 h s.heap.size = A at hz hA hX ⊢
  have hS : va_S A s.heap s.heap [] := va_S.rf
  have hl : lv_has ls 9 [(0, .ref (h (0))), (1, .int (iz (sg))), (2, .int (iz (sa))), (3, .int (iz (ln))), (4, .int (iz (ph))), (5, .int (iz (dr))), (6, .int (iz (lo))), (7, .int (iz (ch)))] := hl
  refine lv_aload_n hF.1 hF.2.1 dX3_plan_0 rfl (lv_at hl 0 rfl) ?_
  refine lv_iload_n hF.1 hF.2.1 dX3_plan_1 rfl (lv_at hl 1 rfl) ?_
  refine lv_iload_n hF.1 hF.2.1 dX3_plan_2 rfl (lv_at hl 2 rfl) ?_
  refine lv_iload_n hF.1 hF.2.1 dX3_plan_3 rfl (lv_at hl 3 rfl) ?_
  refine lv_iload hF.1 hF.2.1 dX3_plan_4 (lv_at hl 4 rfl) ?_
  refine lv_iload hF.1 hF.2.1 dX3_plan_6 (lv_at hl 5 rfl) ?_
  refine lv_iload hF.1 hF.2.1 dX3_plan_8 (lv_at hl 6 rfl) ?_
  refine lv_iload hF.1 hF.2.1 dX3_plan_10 (lv_at hl 7 rfl) ?_
  have hpx_3 : ∀ E9, (fun E9 => (E9 = E98 ∧ thL σ sg sa ln ph dr lo ch = 1) ∨ (E9 = E206 ∧ thL σ sg sa ln ph dr lo ch = 2) ∨ (E9 = E67 ∧ thL σ sg sa ln ph dr lo ch = 3)) E9 → (fun E9 => (E9 = E98 ∧ thL σ sg sa ln ph dr lo ch = 1) ∨ (E9 = E206 ∧ thL σ sg sa ln ph dr lo ch = 2) ∨ (E9 = E67 ∧ thL σ sg sa ln ph dr lo ch = 3)) E9 := by
    intro E9 hE
    exact hE
  refine z_xcq (k := 8) (S := Nat → Nat → Int) (w := fun σ9 => gC c h σ9 κ ω) (P := fun r σ9 => thL σ sg sa ln ph dr lo ch = 0 ∧ r = some ((σ 0 1).toNat + 11) ∧ σ9 = lay σ (σ 0 1).toNat sg sa ln ph dr lo ch ∧ GI σ9) (PXc := fun E9 => (E9 = E98 ∧ thL σ sg sa ln ph dr lo ch = 1) ∨ (E9 = E206 ∧ thL σ sg sa ln ph dr lo ch = 2) ∨ (E9 = E67 ∧ thL σ sg sa ln ph dr lo ch = 3)) (PX := fun E9 => (E9 = E98 ∧ thL σ sg sa ln ph dr lo ch = 1) ∨ (E9 = E206 ∧ thL σ sg sa ln ph dr lo ch = 2) ∨ (E9 = E67 ∧ thL σ sg sa ln ph dr lo ch = 3)) (z_xrunV (rm := { frames := 8, cells := 8, slots := 48, locals := 124 }) hF hK hX hz hA hP hS (c_X3_tryAct l h D c σ κ ω hinj hG sg (by omega) sa (by omega) ln (by omega) ph (by omega) dr (by omega) lo (by omega) ch (by omega) hst _) (gIn_V mw_167 mw_168 mw_169 mw_86 mw_162) rfl rfl ⟨rfl, by decide, by decide, rfl⟩ ⟨Nat.le_of_ble_eq_true rfl, Nat.le_of_ble_eq_true rfl⟩ (k := 0) (T := TX3) (N := 14) (by omega) rfl (rfl) rfl (As := [.int (iz (sg)), .int (iz (sa)), .int (iz (ln)), .int (iz (ph)), .int (iz (dr)), .int (iz (lo)), .int (iz (ch))]) (rest := []) rfl hl.1 rfl (Nat.le_of_ble_eq_true rfl) dX3_plan_12 ⟨(Nat.le_of_ble_eq_true rfl), (Nat.le_of_ble_eq_true rfl)⟩) hz hA hS hexc hlocks (Nat.le_of_ble_eq_true rfl) (Nat.le_of_ble_eq_true rfl) hpx_3 (fun r_2 u_1 H locs hp hP hS => ?_)
  obtain ⟨hth, hr9, hσ9, hGl⟩ : thL σ sg sa ln ph dr lo ch = 0 ∧ r_2 = some ((σ 0 1).toNat + 11) ∧ u_1 = lay σ (σ 0 1).toNat sg sa ln ph dr lo ch ∧ GI u_1 := hp
  subst hr9; subst hσ9
  have hP : zB 32 h D (gC c h (lay σ (σ 0 1).toNat sg sa ln ph dr lo ch) (κ) (ω)) H := hP
  have h01 : (lay σ (σ 0 1).toNat sg sa ln ph dr lo ch) 0 1 = σ 0 1 := rfl
  have hq1 := GI_01 hG
  have hlt : σ 0 1 ≤ 15 := by unfold thL at hth; (repeat' split at hth) <;> omega
  refine lv_astore (lv' := [(8, .ref (h ((σ 0 1).toNat + 11))), (0, .ref (h (0))), (1, .int (iz (sg))), (2, .int (iz (sa))), (3, .int (iz (ln))), (4, .int (iz (ph))), (5, .int (iz (dr))), (6, .int (iz (lo))), (7, .int (iz (ch)))]) hF.1 hF.2.1 dX3_plan_15 hl (by decide) rfl (fun ls hl => ?_)
  refine lv_aload_n hF.1 hF.2.1 dX3_plan_17 rfl (lv_at hl 1 rfl) ?_
  refine lv_aload hF.1 hF.2.1 dX3_plan_18 (lv_at hl 0 rfl) ?_
  refine z_ci (S := Nat → Nat → Int) (w := fun κ9 => gC c h (lay σ (σ 0 1).toNat sg sa ln ph dr lo ch) κ9 ω) (P := fun z _ => z = bby (lay σ (σ 0 1).toNat sg sa ln ph dr lo ch) ((σ 0 1).toNat)) (z_runV (rm := { frames := 5, cells := 0, slots := 0, locals := 122 }) hF hK hP (c_X3_brokenBy l h D c (lay σ (σ 0 1).toNat sg sa ln ph dr lo ch) κ ω hinj hGl ((σ 0 1).toNat) (by omega) _) (gIn_V mw_170 mw_171 mw_172 mw_86 mw_166) rfl rfl ⟨rfl, by decide, by decide, rfl⟩ ⟨Nat.le_of_ble_eq_true rfl, Nat.le_of_ble_eq_true rfl⟩ (k := 0) (T := TX3) (N := 14) (by omega) rfl (rfl) rfl (As := [.ref (h ((σ 0 1).toNat + 11))]) (rest := []) rfl hl.1 rfl (Nat.le_of_ble_eq_true rfl) dX3_plan_20 ⟨Nat.le_of_ble_eq_true rfl, Nat.le_of_ble_eq_true rfl⟩) hz hA hS (fun z_4 u_5 H locs hp hP hS => ?_)
  obtain rfl : z_4 = bby (lay σ (σ 0 1).toNat sg sa ln ph dr lo ch) ((σ 0 1).toNat) := hp
  have hP : zB 32 h D (gC c h (lay σ (σ 0 1).toNat sg sa ln ph dr lo ch) (u_5) (ω)) H := hP
  have q_6 := @bby_rg (lay σ (σ 0 1).toNat sg sa ln ph dr lo ch) ((σ 0 1).toNat)
  refine zi_if_eq (tgt := 34) hF.1 hF.2.1 (a := bby (lay σ (σ 0 1).toNat sg sa ln ph dr lo ch) ((σ 0 1).toNat)) dX3_plan_23 (by decide) (by omega) (fun c_23 => ?_) (fun c_23 => ?_)
  · skip
    refine lv_aload_n hF.1 hF.2.1 dX3_plan_34 rfl (lv_at hl 1 rfl) ?_
    refine lv_dup hF.1 hF.2.1 dX3_plan_35 rfl ?_
    refine z_get hF hK hP (k := 0) (C := RX3) (T := TX3) (N := 14) (by omega) (rfl) rfl uin_X3 6 (by decide) mw_163 (v := .int (iz ((lay σ (σ 0 1).toNat sg sa ln ph dr lo ch) 0 1))) rfl dX3_plan_36 ?_
    have q_7 := GI_01 hGl
    refine zi_const hF.1 hF.2.1 dX3_plan_39 ?_
    refine zi_add hF.1 hF.2.1 dX3_plan_40 ?_
    refine z_put hF hK hz hP hS (k := 0) (C := RX3) (T := TX3) (N := 14) (by omega) (rfl) rfl uin_X3 tyX3_ok nmX3 6 (by decide) mw_163 rfl (⟨rfl, rfl⟩) (by simp) (g' := gC c h (u2 (lay σ (σ 0 1).toNat sg sa ln ph dr lo ch) 0 1 (((lay σ (σ 0 1).toNat sg sa ln ph dr lo ch) 0 1) + 1)) (u_5) (ω)) (rfl) (gC_sc_o) dX3_plan_41 (fun H locs hP hS => ?_)
    have hG_8 := GI_u01 hGl (v := ((lay σ (σ 0 1).toNat sg sa ln ph dr lo ch) 0 1) + 1) (by omega)
    refine lv_aload_n hF.1 hF.2.1 dX3_plan_44 rfl (lv_at hl 1 rfl) ?_
    refine z_get hF hK hP (k := 0) (C := RX3) (T := TX3) (N := 14) (by omega) (rfl) rfl uin_X3 6 (by decide) mw_163 (v := .int (iz (((lay σ (σ 0 1).toNat sg sa ln ph dr lo ch) 0 1) + 1))) rfl dX3_plan_45 ?_
    have q_9 := GI_01 hG_8
    refine zi_const hF.1 hF.2.1 dX3_plan_48 ?_
    refine zi_sub hF.1 hF.2.1 dX3_plan_49 ?_
    exact z_xreti (S := (Nat → Nat → Int) × (Nat → Nat → Int)) (P := fun z u9 => thL σ sg sa ln ph dr lo ch = 0 ∧ ((bby (lay σ (σ 0 1).toNat sg sa ln ph dr lo ch) ((σ 0 1).toNat) ≠ 0 ∧ z = -1 ∧ u9.1 = u2 (lay σ (σ 0 1).toNat sg sa ln ph dr lo ch) 14 (σ 0 1).toNat 0) ∨ (bby (lay σ (σ 0 1).toNat sg sa ln ph dr lo ch) ((σ 0 1).toNat) = 0 ∧ z = σ 0 1 ∧ u9.1 = u2 (lay σ (σ 0 1).toNat sg sa ln ph dr lo ch) 0 1 (σ 0 1 + 1))) ∧ GI u9.1) (z := (((lay σ (σ 0 1).toNat sg sa ln ph dr lo ch) 0 1) + 1) - 1) (u := (u2 (lay σ (σ 0 1).toNat sg sa ln ph dr lo ch) 0 1 (((lay σ (σ 0 1).toNat sg sa ln ph dr lo ch) 0 1) + 1), u_5)) (w := fun u9 => gC c h u9.1 u9.2 ω) hF hr hlocks hP hS (Nat.le_of_ble_eq_true rfl) (Nat.le_of_ble_eq_true rfl) (rfl) (⟨hth, Or.inr ⟨by omega, by omega, rfl⟩, hG_8⟩) dX3_plan_50
  · skip
    refine lv_aload hF.1 hF.2.1 dX3_plan_26 (lv_at hl 0 rfl) ?_
    refine zi_const hF.1 hF.2.1 dX3_plan_28 ?_
    refine z_putN hF hK hz hP hS (k := (σ 0 1).toNat + 11) (C := RX0) (T := TX0) (N := 9) (by omega) (gC_act (by omega)) rfl uin_X0 tyX0_ok nmX0 7 (by decide) nw_0 rfl (iz_nar_z (by first | (unfold b2i; split <;> omega) | omega)) (by simp) (g' := gC c h (u2 (lay σ (σ 0 1).toNat sg sa ln ph dr lo ch) 14 ((σ 0 1).toNat) (0)) (u_5) (ω)) (by rw [gC_act (by omega)]; simp [u2]) (gC_act_o ⟨by decide, by decide⟩) dX3_plan_29 (fun H locs hP hS => ?_)
    have hG_10 := GI_u14 hGl (v := 0) (k := (σ 0 1).toNat) (by omega)
    refine zi_const hF.1 hF.2.1 dX3_plan_32 ?_
    exact z_xreti (S := (Nat → Nat → Int) × (Nat → Nat → Int)) (P := fun z u9 => thL σ sg sa ln ph dr lo ch = 0 ∧ ((bby (lay σ (σ 0 1).toNat sg sa ln ph dr lo ch) ((σ 0 1).toNat) ≠ 0 ∧ z = -1 ∧ u9.1 = u2 (lay σ (σ 0 1).toNat sg sa ln ph dr lo ch) 14 (σ 0 1).toNat 0) ∨ (bby (lay σ (σ 0 1).toNat sg sa ln ph dr lo ch) ((σ 0 1).toNat) = 0 ∧ z = σ 0 1 ∧ u9.1 = u2 (lay σ (σ 0 1).toNat sg sa ln ph dr lo ch) 0 1 (σ 0 1 + 1))) ∧ GI u9.1) (z := -1) (u := (u2 (lay σ (σ 0 1).toNat sg sa ln ph dr lo ch) 14 ((σ 0 1).toNat) (0), u_5)) (w := fun u9 => gC c h u9.1 u9.2 ω) hF hr hlocks hP hS (Nat.le_of_ble_eq_true rfl) (Nat.le_of_ble_eq_true rfl) (rfl) (⟨hth, Or.inl ⟨by omega, rfl, rfl⟩, hG_10⟩) dX3_plan_33

set_option maxRecDepth 100000 in
set_option maxHeartbeats 4000000 in
theorem c_X3_reason (l : Launch) (h : Nat → Nat) (D : va_G) (c : Nat → ClassId) (σ κ : Nat → Nat → Int) (ω : Nat × (Nat → Int32) × Int32) (hinj : ∀ i j, i < 32 → j < 32 → h i = h j → i = j) (hG : GI σ) (sg : Int) (hsg : -2147483648 ≤ sg ∧ sg ≤ 2147483647) (sa : Int) (hsa : -2147483648 ≤ sa ∧ sa ≤ 2147483647) (ln : Int) (hln : -2147483648 ≤ ln ∧ ln ≤ 2147483647) (ph : Int) (hph : -2147483648 ≤ ph ∧ ph ≤ 2147483647) (dr : Int) (hdr : -2147483648 ≤ dr ∧ dr ≤ 2147483647) (lo : Int) (hlo : -2147483648 ≤ lo ∧ lo ≤ 2147483647) (ch : Int) (hch : -2147483648 ≤ ch ∧ ch ≤ 2147483647) (hst : l.stackTraces = false) :
    zXi (S := (Nat → Nat → Int) × (Nat → Nat → Int)) l yX3_reason cX3_reason 10 (some .int) 9 152 8 [.ref (h (0)), .int (iz (sg)), .int (iz (sa)), .int (iz (ln)), .int (iz (ph)), .int (iz (dr)), .int (iz (lo)), .int (iz (ch))] 32 h D (gT c) (gC c h (σ) (κ) (ω)) (fun u9 => gC c h u9.1 u9.2 ω) (fun z u9 => thL σ sg sa ln ph dr lo ch = 0 ∧ z = bby (lay σ (σ 0 1).toNat sg sa ln ph dr lo ch) ((σ 0 1).toNat) ∧ u9.1 = u2 (lay σ (σ 0 1).toNat sg sa ln ph dr lo ch) 14 (σ 0 1).toNat 0 ∧ GI u9.1) (fun E9 => (E9 = E98 ∧ thL σ sg sa ln ph dr lo ch = 1) ∨ (E9 = E206 ∧ thL σ sg sa ln ph dr lo ch = 2) ∨ (E9 = E67 ∧ thL σ sg sa ln ph dr lo ch = 3)) := by
  refine zXM_of (by decide) (Nat.le_of_ble_eq_true rfl) ?_
  intro p e s m below meth cd ls ⟨hF, hr, hlocks, hK, hexc, hX⟩ hP hl
  have hz : zD (zA 32 h s.heap.size) 32 h := zD.self hinj s.heap.size
  have hA : ∀ q, s.heap.size ≤ q → zA 32 h s.heap.size q := zA_new
  generalize zA 32 h s.heap.size = A at hz hA hX ⊢
  have hS : va_S A s.heap s.heap [] := va_S.rf
  have hl : lv_has ls 10 [(0, .ref (h (0))), (1, .int (iz (sg))), (2, .int (iz (sa))), (3, .int (iz (ln))), (4, .int (iz (ph))), (5, .int (iz (dr))), (6, .int (iz (lo))), (7, .int (iz (ch)))] := hl
  refine lv_aload_n hF.1 hF.2.1 dX3_reason_0 rfl (lv_at hl 0 rfl) ?_
  refine lv_iload_n hF.1 hF.2.1 dX3_reason_1 rfl (lv_at hl 1 rfl) ?_
  refine lv_iload_n hF.1 hF.2.1 dX3_reason_2 rfl (lv_at hl 2 rfl) ?_
  refine lv_iload_n hF.1 hF.2.1 dX3_reason_3 rfl (lv_at hl 3 rfl) ?_
  refine lv_iload hF.1 hF.2.1 dX3_reason_4 (lv_at hl 4 rfl) ?_
  refine lv_iload hF.1 hF.2.1 dX3_reason_6 (lv_at hl 5 rfl) ?_
  refine lv_iload hF.1 hF.2.1 dX3_reason_8 (lv_at hl 6 rfl) ?_
  refine lv_iload hF.1 hF.2.1 dX3_reason_10 (lv_at hl 7 rfl) ?_
  have hpx_3 : ∀ E9, (fun E9 => (E9 = E98 ∧ thL σ sg sa ln ph dr lo ch = 1) ∨ (E9 = E206 ∧ thL σ sg sa ln ph dr lo ch = 2) ∨ (E9 = E67 ∧ thL σ sg sa ln ph dr lo ch = 3)) E9 → (fun E9 => (E9 = E98 ∧ thL σ sg sa ln ph dr lo ch = 1) ∨ (E9 = E206 ∧ thL σ sg sa ln ph dr lo ch = 2) ∨ (E9 = E67 ∧ thL σ sg sa ln ph dr lo ch = 3)) E9 := by
    intro E9 hE
    exact hE
  refine z_xcq (k := 8) (S := Nat → Nat → Int) (w := fun σ9 => gC c h σ9 κ ω) (P := fun r σ9 => thL σ sg sa ln ph dr lo ch = 0 ∧ r = some ((σ 0 1).toNat + 11) ∧ σ9 = lay σ (σ 0 1).toNat sg sa ln ph dr lo ch ∧ GI σ9) (PXc := fun E9 => (E9 = E98 ∧ thL σ sg sa ln ph dr lo ch = 1) ∨ (E9 = E206 ∧ thL σ sg sa ln ph dr lo ch = 2) ∨ (E9 = E67 ∧ thL σ sg sa ln ph dr lo ch = 3)) (PX := fun E9 => (E9 = E98 ∧ thL σ sg sa ln ph dr lo ch = 1) ∨ (E9 = E206 ∧ thL σ sg sa ln ph dr lo ch = 2) ∨ (E9 = E67 ∧ thL σ sg sa ln ph dr lo ch = 3)) (z_xrunV (rm := { frames := 8, cells := 8, slots := 48, locals := 124 }) hF hK hX hz hA hP hS (c_X3_tryAct l h D c σ κ ω hinj hG sg (by omega) sa (by omega) ln (by omega) ph (by omega) dr (by omega) lo (by omega) ch (by omega) hst _) (gIn_V mw_167 mw_168 mw_169 mw_86 mw_162) rfl rfl ⟨rfl, by decide, by decide, rfl⟩ ⟨Nat.le_of_ble_eq_true rfl, Nat.le_of_ble_eq_true rfl⟩ (k := 0) (T := TX3) (N := 14) (by omega) rfl (rfl) rfl (As := [.int (iz (sg)), .int (iz (sa)), .int (iz (ln)), .int (iz (ph)), .int (iz (dr)), .int (iz (lo)), .int (iz (ch))]) (rest := []) rfl hl.1 rfl (Nat.le_of_ble_eq_true rfl) dX3_reason_12 ⟨(Nat.le_of_ble_eq_true rfl), (Nat.le_of_ble_eq_true rfl)⟩) hz hA hS hexc hlocks (Nat.le_of_ble_eq_true rfl) (Nat.le_of_ble_eq_true rfl) hpx_3 (fun r_2 u_1 H locs hp hP hS => ?_)
  obtain ⟨hth, hr9, hσ9, hGl⟩ : thL σ sg sa ln ph dr lo ch = 0 ∧ r_2 = some ((σ 0 1).toNat + 11) ∧ u_1 = lay σ (σ 0 1).toNat sg sa ln ph dr lo ch ∧ GI u_1 := hp
  subst hr9; subst hσ9
  have hP : zB 32 h D (gC c h (lay σ (σ 0 1).toNat sg sa ln ph dr lo ch) (κ) (ω)) H := hP
  have h01 : (lay σ (σ 0 1).toNat sg sa ln ph dr lo ch) 0 1 = σ 0 1 := rfl
  have hq1 := GI_01 hG
  have hlt : σ 0 1 ≤ 15 := by unfold thL at hth; (repeat' split at hth) <;> omega
  refine lv_astore (lv' := [(8, .ref (h ((σ 0 1).toNat + 11))), (0, .ref (h (0))), (1, .int (iz (sg))), (2, .int (iz (sa))), (3, .int (iz (ln))), (4, .int (iz (ph))), (5, .int (iz (dr))), (6, .int (iz (lo))), (7, .int (iz (ch)))]) hF.1 hF.2.1 dX3_reason_15 hl (by decide) rfl (fun ls hl => ?_)
  refine lv_aload_n hF.1 hF.2.1 dX3_reason_17 rfl (lv_at hl 1 rfl) ?_
  refine lv_aload hF.1 hF.2.1 dX3_reason_18 (lv_at hl 0 rfl) ?_
  refine z_ci (S := Nat → Nat → Int) (w := fun κ9 => gC c h (lay σ (σ 0 1).toNat sg sa ln ph dr lo ch) κ9 ω) (P := fun z _ => z = bby (lay σ (σ 0 1).toNat sg sa ln ph dr lo ch) ((σ 0 1).toNat)) (z_runV (rm := { frames := 5, cells := 0, slots := 0, locals := 122 }) hF hK hP (c_X3_brokenBy l h D c (lay σ (σ 0 1).toNat sg sa ln ph dr lo ch) κ ω hinj hGl ((σ 0 1).toNat) (by omega) _) (gIn_V mw_170 mw_171 mw_172 mw_86 mw_166) rfl rfl ⟨rfl, by decide, by decide, rfl⟩ ⟨Nat.le_of_ble_eq_true rfl, Nat.le_of_ble_eq_true rfl⟩ (k := 0) (T := TX3) (N := 14) (by omega) rfl (rfl) rfl (As := [.ref (h ((σ 0 1).toNat + 11))]) (rest := []) rfl hl.1 rfl (Nat.le_of_ble_eq_true rfl) dX3_reason_20 ⟨Nat.le_of_ble_eq_true rfl, Nat.le_of_ble_eq_true rfl⟩) hz hA hS (fun z_4 u_5 H locs hp hP hS => ?_)
  obtain rfl : z_4 = bby (lay σ (σ 0 1).toNat sg sa ln ph dr lo ch) ((σ 0 1).toNat) := hp
  have hP : zB 32 h D (gC c h (lay σ (σ 0 1).toNat sg sa ln ph dr lo ch) (u_5) (ω)) H := hP
  have q_6 := @bby_rg (lay σ (σ 0 1).toNat sg sa ln ph dr lo ch) ((σ 0 1).toNat)
  refine lv_istore (lv' := [(9, .int (iz (bby (lay σ (σ 0 1).toNat sg sa ln ph dr lo ch) ((σ 0 1).toNat)))), (8, .ref (h ((σ 0 1).toNat + 11))), (0, .ref (h (0))), (1, .int (iz (sg))), (2, .int (iz (sa))), (3, .int (iz (ln))), (4, .int (iz (ph))), (5, .int (iz (dr))), (6, .int (iz (lo))), (7, .int (iz (ch)))]) hF.1 hF.2.1 dX3_reason_23 hl (by decide) rfl (fun ls hl => ?_)
  refine lv_aload hF.1 hF.2.1 dX3_reason_25 (lv_at hl 1 rfl) ?_
  refine zi_const hF.1 hF.2.1 dX3_reason_27 ?_
  refine z_putN hF hK hz hP hS (k := (σ 0 1).toNat + 11) (C := RX0) (T := TX0) (N := 9) (by omega) (gC_act (by omega)) rfl uin_X0 tyX0_ok nmX0 7 (by decide) nw_0 rfl (iz_nar_z (by first | (unfold b2i; split <;> omega) | omega)) (by simp) (g' := gC c h (u2 (lay σ (σ 0 1).toNat sg sa ln ph dr lo ch) 14 ((σ 0 1).toNat) (0)) (u_5) (ω)) (by rw [gC_act (by omega)]; simp [u2]) (gC_act_o ⟨by decide, by decide⟩) dX3_reason_28 (fun H locs hP hS => ?_)
  have hG_7 := GI_u14 hGl (v := 0) (k := (σ 0 1).toNat) (by omega)
  refine lv_iload hF.1 hF.2.1 dX3_reason_31 (lv_at hl 0 rfl) ?_
  exact z_xreti (S := (Nat → Nat → Int) × (Nat → Nat → Int)) (P := fun z u9 => thL σ sg sa ln ph dr lo ch = 0 ∧ z = bby (lay σ (σ 0 1).toNat sg sa ln ph dr lo ch) ((σ 0 1).toNat) ∧ u9.1 = u2 (lay σ (σ 0 1).toNat sg sa ln ph dr lo ch) 14 (σ 0 1).toNat 0 ∧ GI u9.1) (z := bby (lay σ (σ 0 1).toNat sg sa ln ph dr lo ch) ((σ 0 1).toNat)) (u := (u2 (lay σ (σ 0 1).toNat sg sa ln ph dr lo ch) 14 ((σ 0 1).toNat) (0), u_5)) (w := fun u9 => gC c h u9.1 u9.2 ω) hF hr hlocks hP hS (Nat.le_of_ble_eq_true rfl) (Nat.le_of_ble_eq_true rfl) (rfl) (⟨hth, rfl, rfl, hG_7⟩) dX3_reason_33

set_option maxRecDepth 100000 in
set_option maxHeartbeats 4000000 in
theorem c_X3_move (l : Launch) (h : Nat → Nat) (D : va_G) (c : Nat → ClassId) (σ κ : Nat → Nat → Int) (ω : Nat × (Nat → Int32) × Int32) (hinj : ∀ i j, i < 32 → j < 32 → h i = h j → i = j) (hG : GI σ) (a : Int) (ha : -2147483648 ≤ a ∧ a ≤ 2147483647) (mi : Int) (hmi : -2147483648 ≤ mi ∧ mi ≤ 2147483647) (hst : l.stackTraces = false) :
    zXi (S := (Nat → Nat → Int) × (Nat → Nat → Int)) l yX3_move cX3_move 5 (some .boolean) 8 143 3 [.ref (h (0)), .int (iz (a)), .int (iz (mi))] 32 h D (gT c) (gC c h (σ) (κ) (ω)) (fun u9 => gC c h u9.1 u9.2 ω) (fun z u9 => thM σ a mi = 0 ∧ CS σ (u2 σ 8 a.toNat mi) (bby (u2 σ 8 a.toNat mi) a.toNat = 0) z u9.1 ∧ GI u9.1) (fun E9 => (E9 = E98 ∧ thM σ a mi = 1) ∨ (E9 = E206 ∧ thM σ a mi = 2) ∨ (E9 = E67 ∧ thM σ a mi = 3)) := by
  refine zXM_of (by decide) (Nat.le_of_ble_eq_true rfl) ?_
  intro p e s m below meth cd ls ⟨hF, hr, hlocks, hK, hexc, hX⟩ hP hl
  have hz : zD (zA 32 h s.heap.size) 32 h := zD.self hinj s.heap.size
  have hA : ∀ q, s.heap.size ≤ q → zA 32 h s.heap.size q := zA_new
  generalize zA 32 h s.heap.size = A at hz hA hX ⊢
  have hS : va_S A s.heap s.heap [] := va_S.rf
  have hl : lv_has ls 5 [(0, .ref (h (0))), (1, .int (iz (a))), (2, .int (iz (mi)))] := hl
  refine lv_aload_n hF.1 hF.2.1 dX3_move_0 rfl (lv_at hl 0 rfl) ?_
  refine lv_iload_n hF.1 hF.2.1 dX3_move_1 rfl (lv_at hl 1 rfl) ?_
  have hpx_3 : ∀ E9, (fun E9 => (E9 = E98 ∧ ¬ (0 ≤ a ∧ a ≤ σ 0 1 - 1))) E9 → (fun E9 => (E9 = E98 ∧ thM σ a mi = 1) ∨ (E9 = E206 ∧ thM σ a mi = 2) ∨ (E9 = E67 ∧ thM σ a mi = 3)) E9 := by
    intro E9 hE
    obtain ⟨rfl, q9⟩ := hE
    first | exact Or.inl ⟨rfl, by unfold thM; (repeat' split) <;> omega⟩ | exact Or.inr (Or.inl ⟨rfl, by unfold thM; (repeat' split) <;> omega⟩) | exact Or.inr (Or.inr (⟨rfl, by unfold thM; (repeat' split) <;> omega⟩))
  refine z_xcv (k := 1) (S := Unit) (w := fun _ => gC c h σ κ ω) (P := fun _ => 0 ≤ a ∧ a ≤ σ 0 1 - 1) (PXc := fun E9 => (E9 = E98 ∧ ¬ (0 ≤ a ∧ a ≤ σ 0 1 - 1))) (PX := fun E9 => (E9 = E98 ∧ thM σ a mi = 1) ∨ (E9 = E206 ∧ thM σ a mi = 2) ∨ (E9 = E67 ∧ thM σ a mi = 3)) (z_xrunV (rm := { frames := 6, cells := 1, slots := 6, locals := 82 }) hF hK hX hz hA hP hS (c_X3_requireAct l h D c σ κ ω hinj hG a (by omega) hst _) (gIn_V mw_177 mw_178 mw_179 mw_86 mw_175) rfl rfl ⟨rfl, by decide, by decide, rfl⟩ ⟨Nat.le_of_ble_eq_true rfl, Nat.le_of_ble_eq_true rfl⟩ (k := 0) (T := TX3) (N := 14) (by omega) rfl (rfl) rfl (As := [.int (iz (a))]) (rest := []) rfl hl.1 rfl (Nat.le_of_ble_eq_true rfl) dX3_move_2 ⟨(Nat.le_of_ble_eq_true rfl), (Nat.le_of_ble_eq_true rfl)⟩) hz hA hS hexc hlocks (Nat.le_of_ble_eq_true rfl) (Nat.le_of_ble_eq_true rfl) hpx_3 (fun u_1 H locs hp hP hS => ?_)
  have q_4 : 0 ≤ a ∧ a ≤ σ 0 1 - 1 := hp
  have q_5 := GI_01 hG
  refine lv_iload_n hF.1 hF.2.1 dX3_move_5 rfl (lv_at hl 2 rfl) ?_
  have hpx_8 : ∀ E9, (fun E9 => (E9 = E206 ∧ ¬ (0 ≤ mi ∧ mi ≤ 999))) E9 → (fun E9 => (E9 = E98 ∧ thM σ a mi = 1) ∨ (E9 = E206 ∧ thM σ a mi = 2) ∨ (E9 = E67 ∧ thM σ a mi = 3)) E9 := by
    intro E9 hE
    obtain ⟨rfl, q9⟩ := hE
    first | exact Or.inl ⟨rfl, by unfold thM; (repeat' split) <;> omega⟩ | exact Or.inr (Or.inl ⟨rfl, by unfold thM; (repeat' split) <;> omega⟩) | exact Or.inr (Or.inr (⟨rfl, by unfold thM; (repeat' split) <;> omega⟩))
  refine z_xcv (k := 1) (S := Unit) (w := fun _ => gC c h σ κ ω) (P := fun _ => 0 ≤ mi ∧ mi ≤ 999) (PXc := fun E9 => (E9 = E206 ∧ ¬ (0 ≤ mi ∧ mi ≤ 999))) (PX := fun E9 => (E9 = E98 ∧ thM σ a mi = 1) ∨ (E9 = E206 ∧ thM σ a mi = 2) ∨ (E9 = E67 ∧ thM σ a mi = 3)) (z_xrunS (rm := { frames := 7, cells := 1, slots := 6, locals := 104 }) hF hK hX hz hA hP hS (c_X3_requireMinute l h D c σ κ ω hinj hG mi (by omega) hst _) (gIn_S mw_94 mw_95 mw_86 mw_83) rfl rfl ⟨rfl, by decide, by decide, rfl⟩ ⟨Nat.le_of_ble_eq_true rfl, Nat.le_of_ble_eq_true rfl⟩ (As := [.int (iz (mi))]) (rest := []) rfl hl.1 rfl (Nat.le_of_ble_eq_true rfl) dX3_move_6 ⟨(Nat.le_of_ble_eq_true rfl), (Nat.le_of_ble_eq_true rfl)⟩) hz hA hS hexc hlocks (Nat.le_of_ble_eq_true rfl) (Nat.le_of_ble_eq_true rfl) hpx_8 (fun u_6 H locs hp hP hS => ?_)
  have q_9 : 0 ≤ mi ∧ mi ≤ 999 := hp
  refine lv_aload_n hF.1 hF.2.1 dX3_move_9 rfl (lv_at hl 0 rfl) ?_
  refine lv_iload_n hF.1 hF.2.1 dX3_move_10 rfl (lv_at hl 1 rfl) ?_
  have hpx_12 : ∀ E9, (fun E9 => (E9 = E67 ∧ σ 14 a.toNat = 0)) E9 → (fun E9 => (E9 = E98 ∧ thM σ a mi = 1) ∨ (E9 = E206 ∧ thM σ a mi = 2) ∨ (E9 = E67 ∧ thM σ a mi = 3)) E9 := by
    intro E9 hE
    obtain ⟨rfl, q9⟩ := hE
    first | exact Or.inl ⟨rfl, by unfold thM; (repeat' split) <;> omega⟩ | exact Or.inr (Or.inl ⟨rfl, by unfold thM; (repeat' split) <;> omega⟩) | exact Or.inr (Or.inr (⟨rfl, by unfold thM; (repeat' split) <;> omega⟩))
  refine z_xcv (k := 1) (S := Unit) (w := fun _ => gC c h σ κ ω) (P := fun _ => σ 14 a.toNat ≠ 0) (PXc := fun E9 => (E9 = E67 ∧ σ 14 a.toNat = 0)) (PX := fun E9 => (E9 = E98 ∧ thM σ a mi = 1) ∨ (E9 = E206 ∧ thM σ a mi = 2) ∨ (E9 = E67 ∧ thM σ a mi = 3)) (z_xrunV (rm := { frames := 6, cells := 1, slots := 6, locals := 82 }) hF hK hX hz hA hP hS (c_X3_requirePlanned l h D c σ κ ω hinj hG a (by omega) hst _) (gIn_V mw_180 mw_181 mw_182 mw_86 mw_176) rfl rfl ⟨rfl, by decide, by decide, rfl⟩ ⟨Nat.le_of_ble_eq_true rfl, Nat.le_of_ble_eq_true rfl⟩ (k := 0) (T := TX3) (N := 14) (by omega) rfl (rfl) rfl (As := [.int (iz (a))]) (rest := []) rfl hl.1 rfl (Nat.le_of_ble_eq_true rfl) dX3_move_11 ⟨(Nat.le_of_ble_eq_true rfl), (Nat.le_of_ble_eq_true rfl)⟩) hz hA hS hexc hlocks (Nat.le_of_ble_eq_true rfl) (Nat.le_of_ble_eq_true rfl) hpx_12 (fun u_10 H locs hp hP hS => ?_)
  have q_13 : σ 14 a.toNat ≠ 0 := hp
  refine lv_aload_n hF.1 hF.2.1 dX3_move_14 rfl (lv_at hl 0 rfl) ?_
  refine z_get hF hK hP (k := 0) (C := RX3) (T := TX3) (N := 14) (by omega) (rfl) rfl uin_X3 5 (by decide) mw_60 (v := .ref (h (5))) rfl dX3_move_15 ?_
  refine lv_iload_n hF.1 hF.2.1 dX3_move_18 rfl (lv_at hl 1 rfl) ?_
  refine z_aald hF hK hP (k := 5) (by decide) rfl 2 rfl (i := a) ((a).toNat) ((Int.toNat_of_nonneg (by omega)).symm) (by omega) (by decide) (a := h ((a).toNat + 11)) rfl dX3_move_19 ?_
  refine lv_astore_n (lv' := [(3, .ref (h ((a).toNat + 11))), (0, .ref (h (0))), (1, .int (iz (a))), (2, .int (iz (mi)))]) hF.1 hF.2.1 dX3_move_20 rfl hl (by decide) rfl (fun ls hl => ?_)
  refine lv_aload_n hF.1 hF.2.1 dX3_move_21 rfl (lv_at hl 0 rfl) ?_
  refine z_getN hF hK hP (k := (a).toNat + 11) (C := RX0) (T := TX0) (N := 9) (by omega) (gC_act (by omega)) rfl uin_X0 1 (by decide) nw_1 (v := .int (iz (σ 8 (a).toNat))) rfl dX3_move_22 ?_
  have q_14 := GI_8 hG ((a).toNat)
  refine lv_istore (lv' := [(4, .int (iz (σ 8 (a).toNat))), (3, .ref (h ((a).toNat + 11))), (0, .ref (h (0))), (1, .int (iz (a))), (2, .int (iz (mi)))]) hF.1 hF.2.1 dX3_move_25 hl (by decide) rfl (fun ls hl => ?_)
  refine lv_aload_n hF.1 hF.2.1 dX3_move_27 rfl (lv_at hl 1 rfl) ?_
  refine lv_iload_n hF.1 hF.2.1 dX3_move_28 rfl (lv_at hl 4 rfl) ?_
  refine z_putN hF hK hz hP hS (k := (a).toNat + 11) (C := RX0) (T := TX0) (N := 9) (by omega) (gC_act (by omega)) rfl uin_X0 tyX0_ok nmX0 1 (by decide) nw_1 rfl (⟨rfl, rfl⟩) (by simp) (g' := gC c h (u2 (σ) 8 ((a).toNat) (mi)) (κ) (ω)) (by rw [gC_act (by omega)]; simp [u2]) (gC_act_o ⟨by decide, by decide⟩) dX3_move_29 (fun H locs hP hS => ?_)
  have hG_15 := GI_u8 hG (v := mi) (k := (a).toNat) (by omega)
  refine lv_aload_n hF.1 hF.2.1 dX3_move_32 rfl (lv_at hl 2 rfl) ?_
  refine lv_aload_n hF.1 hF.2.1 dX3_move_33 rfl (lv_at hl 1 rfl) ?_
  refine z_ci (S := Nat → Nat → Int) (w := fun κ9 => gC c h (u2 (σ) 8 ((a).toNat) (mi)) κ9 ω) (P := fun z _ => z = bby (u2 (σ) 8 ((a).toNat) (mi)) ((a).toNat)) (z_runV (rm := { frames := 5, cells := 0, slots := 0, locals := 122 }) hF hK hP (c_X3_brokenBy l h D c (u2 (σ) 8 ((a).toNat) (mi)) κ ω hinj hG_15 ((a).toNat) (by omega) _) (gIn_V mw_170 mw_171 mw_172 mw_86 mw_166) rfl rfl ⟨rfl, by decide, by decide, rfl⟩ ⟨Nat.le_of_ble_eq_true rfl, Nat.le_of_ble_eq_true rfl⟩ (k := 0) (T := TX3) (N := 14) (by omega) rfl (rfl) rfl (As := [.ref (h ((a).toNat + 11))]) (rest := []) rfl hl.1 rfl (Nat.le_of_ble_eq_true rfl) dX3_move_34 ⟨Nat.le_of_ble_eq_true rfl, Nat.le_of_ble_eq_true rfl⟩) hz hA hS (fun z_16 u_17 H locs hp hP hS => ?_)
  obtain rfl : z_16 = bby (u2 (σ) 8 ((a).toNat) (mi)) ((a).toNat) := hp
  have hP : zB 32 h D (gC c h (u2 (σ) 8 ((a).toNat) (mi)) (u_17) (ω)) H := hP
  have q_18 := @bby_rg (u2 (σ) 8 ((a).toNat) (mi)) ((a).toNat)
  refine zi_if_ne (tgt := 42) hF.1 hF.2.1 (a := bby (u2 (σ) 8 ((a).toNat) (mi)) ((a).toNat)) dX3_move_37 (by decide) (by omega) (fun c_37 => ?_) (fun c_37 => ?_)
  · skip
    refine lv_aload_n hF.1 hF.2.1 dX3_move_42 rfl (lv_at hl 1 rfl) ?_
    refine lv_iload hF.1 hF.2.1 dX3_move_43 (lv_at hl 0 rfl) ?_
    refine z_putN hF hK hz hP hS (k := (a).toNat + 11) (C := RX0) (T := TX0) (N := 9) (by omega) (gC_act (by omega)) rfl uin_X0 tyX0_ok nmX0 1 (by decide) nw_1 rfl (⟨rfl, rfl⟩) (by simp) (g' := gC c h (u2 (σ) 8 ((a).toNat) (σ 8 (a).toNat)) (u_17) (ω)) (by rw [gC_act (by omega)]; simp [u2]) (fun i9 hi9 hn9 => ((gC_act_o ⟨by decide, by decide⟩) i9 hi9 hn9).trans ((gC_act_o ⟨by decide, by decide⟩) i9 hi9 hn9).symm) dX3_move_45 (fun H locs hP hS => ?_)
    have hG_19 := GI_u8 hG (v := σ 8 (a).toNat) (k := (a).toNat) (by omega)
    refine zi_const hF.1 hF.2.1 dX3_move_48 ?_
    exact z_xreti (S := (Nat → Nat → Int) × (Nat → Nat → Int)) (P := fun z u9 => thM σ a mi = 0 ∧ CS σ (u2 σ 8 a.toNat mi) (bby (u2 σ 8 a.toNat mi) a.toNat = 0) z u9.1 ∧ GI u9.1) (z := 0) (u := (u2 (σ) 8 ((a).toNat) (σ 8 (a).toNat), u_17)) (w := fun u9 => gC c h u9.1 u9.2 ω) hF hr hlocks hP hS (Nat.le_of_ble_eq_true rfl) (Nat.le_of_ble_eq_true rfl) ((iz_nar_z (by first | omega | exact b2i_rg)).1) (⟨by unfold thM; (repeat' split) <;> omega, Or.inr ⟨by omega, rfl, by first | exact u2_u2.trans u2_self | exact u2_self⟩, hG_19⟩) dX3_move_49
  · skip
    refine zi_const hF.1 hF.2.1 dX3_move_40 ?_
    exact z_xreti (S := (Nat → Nat → Int) × (Nat → Nat → Int)) (P := fun z u9 => thM σ a mi = 0 ∧ CS σ (u2 σ 8 a.toNat mi) (bby (u2 σ 8 a.toNat mi) a.toNat = 0) z u9.1 ∧ GI u9.1) (z := 1) (u := (u2 (σ) 8 ((a).toNat) (mi), u_17)) (w := fun u9 => gC c h u9.1 u9.2 ω) hF hr hlocks hP hS (Nat.le_of_ble_eq_true rfl) (Nat.le_of_ble_eq_true rfl) ((iz_nar_z (by first | omega | exact b2i_rg)).1) (⟨by unfold thM; (repeat' split) <;> omega, Or.inl ⟨by omega, rfl, rfl⟩, hG_15⟩) dX3_move_41

set_option maxRecDepth 100000 in
set_option maxHeartbeats 4000000 in
theorem c_X3_drop (l : Launch) (h : Nat → Nat) (D : va_G) (c : Nat → ClassId) (σ κ : Nat → Nat → Int) (ω : Nat × (Nat → Int32) × Int32) (hinj : ∀ i j, i < 32 → j < 32 → h i = h j → i = j) (hG : GI σ) (a : Int) (ha : -2147483648 ≤ a ∧ a ≤ 2147483647) (hst : l.stackTraces = false) :
    zXv (S := Nat → Nat → Int) l yX3_drop cX3_drop 2 (none) 7 103 2 [.ref (h (0)), .int (iz (a))] 32 h D (gT c) (gC c h (σ) (κ) (ω)) (fun σ9 => gC c h σ9 κ ω) (fun σ9 => thD σ a = 0 ∧ σ9 = u2 σ 14 a.toNat 0 ∧ GI σ9) (fun E9 => (E9 = E98 ∧ thD σ a = 1) ∨ (E9 = E67 ∧ thD σ a = 2)) := by
  refine zXM_of (by decide) (Nat.le_of_ble_eq_true rfl) ?_
  intro p e s m below meth cd ls ⟨hF, hr, hlocks, hK, hexc, hX⟩ hP hl
  have hz : zD (zA 32 h s.heap.size) 32 h := zD.self hinj s.heap.size
  have hA : ∀ q, s.heap.size ≤ q → zA 32 h s.heap.size q := zA_new
  generalize zA 32 h s.heap.size = A at hz hA hX ⊢
  have hS : va_S A s.heap s.heap [] := va_S.rf
  have hl : lv_has ls 2 [(0, .ref (h (0))), (1, .int (iz (a)))] := hl
  refine lv_aload_n hF.1 hF.2.1 dX3_drop_0 rfl (lv_at hl 0 rfl) ?_
  refine lv_iload_n hF.1 hF.2.1 dX3_drop_1 rfl (lv_at hl 1 rfl) ?_
  have hpx_3 : ∀ E9, (fun E9 => (E9 = E98 ∧ ¬ (0 ≤ a ∧ a ≤ σ 0 1 - 1))) E9 → (fun E9 => (E9 = E98 ∧ thD σ a = 1) ∨ (E9 = E67 ∧ thD σ a = 2)) E9 := by
    intro E9 hE
    obtain ⟨rfl, q9⟩ := hE
    first | exact Or.inl ⟨rfl, by unfold thD; (repeat' split) <;> omega⟩ | exact Or.inr (⟨rfl, by unfold thD; (repeat' split) <;> omega⟩)
  refine z_xcv (k := 1) (S := Unit) (w := fun _ => gC c h σ κ ω) (P := fun _ => 0 ≤ a ∧ a ≤ σ 0 1 - 1) (PXc := fun E9 => (E9 = E98 ∧ ¬ (0 ≤ a ∧ a ≤ σ 0 1 - 1))) (PX := fun E9 => (E9 = E98 ∧ thD σ a = 1) ∨ (E9 = E67 ∧ thD σ a = 2)) (z_xrunV (rm := { frames := 6, cells := 1, slots := 6, locals := 82 }) hF hK hX hz hA hP hS (c_X3_requireAct l h D c σ κ ω hinj hG a (by omega) hst _) (gIn_V mw_177 mw_178 mw_179 mw_86 mw_175) rfl rfl ⟨rfl, by decide, by decide, rfl⟩ ⟨Nat.le_of_ble_eq_true rfl, Nat.le_of_ble_eq_true rfl⟩ (k := 0) (T := TX3) (N := 14) (by omega) rfl (rfl) rfl (As := [.int (iz (a))]) (rest := []) rfl hl.1 rfl (Nat.le_of_ble_eq_true rfl) dX3_drop_2 ⟨(Nat.le_of_ble_eq_true rfl), (Nat.le_of_ble_eq_true rfl)⟩) hz hA hS hexc hlocks (Nat.le_of_ble_eq_true rfl) (Nat.le_of_ble_eq_true rfl) hpx_3 (fun u_1 H locs hp hP hS => ?_)
  have q_4 : 0 ≤ a ∧ a ≤ σ 0 1 - 1 := hp
  have q_5 := GI_01 hG
  refine lv_aload_n hF.1 hF.2.1 dX3_drop_5 rfl (lv_at hl 0 rfl) ?_
  refine lv_iload_n hF.1 hF.2.1 dX3_drop_6 rfl (lv_at hl 1 rfl) ?_
  have hpx_8 : ∀ E9, (fun E9 => (E9 = E67 ∧ σ 14 a.toNat = 0)) E9 → (fun E9 => (E9 = E98 ∧ thD σ a = 1) ∨ (E9 = E67 ∧ thD σ a = 2)) E9 := by
    intro E9 hE
    obtain ⟨rfl, q9⟩ := hE
    first | exact Or.inl ⟨rfl, by unfold thD; (repeat' split) <;> omega⟩ | exact Or.inr (⟨rfl, by unfold thD; (repeat' split) <;> omega⟩)
  refine z_xcv (k := 1) (S := Unit) (w := fun _ => gC c h σ κ ω) (P := fun _ => σ 14 a.toNat ≠ 0) (PXc := fun E9 => (E9 = E67 ∧ σ 14 a.toNat = 0)) (PX := fun E9 => (E9 = E98 ∧ thD σ a = 1) ∨ (E9 = E67 ∧ thD σ a = 2)) (z_xrunV (rm := { frames := 6, cells := 1, slots := 6, locals := 82 }) hF hK hX hz hA hP hS (c_X3_requirePlanned l h D c σ κ ω hinj hG a (by omega) hst _) (gIn_V mw_180 mw_181 mw_182 mw_86 mw_176) rfl rfl ⟨rfl, by decide, by decide, rfl⟩ ⟨Nat.le_of_ble_eq_true rfl, Nat.le_of_ble_eq_true rfl⟩ (k := 0) (T := TX3) (N := 14) (by omega) rfl (rfl) rfl (As := [.int (iz (a))]) (rest := []) rfl hl.1 rfl (Nat.le_of_ble_eq_true rfl) dX3_drop_7 ⟨(Nat.le_of_ble_eq_true rfl), (Nat.le_of_ble_eq_true rfl)⟩) hz hA hS hexc hlocks (Nat.le_of_ble_eq_true rfl) (Nat.le_of_ble_eq_true rfl) hpx_8 (fun u_6 H locs hp hP hS => ?_)
  have q_9 : σ 14 a.toNat ≠ 0 := hp
  refine lv_aload_n hF.1 hF.2.1 dX3_drop_10 rfl (lv_at hl 0 rfl) ?_
  refine z_get hF hK hP (k := 0) (C := RX3) (T := TX3) (N := 14) (by omega) (rfl) rfl uin_X3 5 (by decide) mw_60 (v := .ref (h (5))) rfl dX3_drop_11 ?_
  refine lv_iload_n hF.1 hF.2.1 dX3_drop_14 rfl (lv_at hl 1 rfl) ?_
  refine z_aald hF hK hP (k := 5) (by decide) rfl 2 rfl (i := a) ((a).toNat) ((Int.toNat_of_nonneg (by omega)).symm) (by omega) (by decide) (a := h ((a).toNat + 11)) rfl dX3_drop_15 ?_
  refine zi_const hF.1 hF.2.1 dX3_drop_16 ?_
  refine z_putN hF hK hz hP hS (k := (a).toNat + 11) (C := RX0) (T := TX0) (N := 9) (by omega) (gC_act (by omega)) rfl uin_X0 tyX0_ok nmX0 7 (by decide) nw_0 rfl (iz_nar_z (by first | (unfold b2i; split <;> omega) | omega)) (by simp) (g' := gC c h (u2 (σ) 14 ((a).toNat) (0)) (κ) (ω)) (by rw [gC_act (by omega)]; simp [u2]) (gC_act_o ⟨by decide, by decide⟩) dX3_drop_17 (fun H locs hP hS => ?_)
  have hG_10 := GI_u14 hG (v := 0) (k := (a).toNat) (by omega)
  exact z_xretv (S := Nat → Nat → Int) (P := fun σ9 => thD σ a = 0 ∧ σ9 = u2 σ 14 a.toNat 0 ∧ GI σ9) (u := u2 (σ) 14 ((a).toNat) (0)) (w := fun σ9 => gC c h σ9 κ ω) hF hr hlocks hP hS (Nat.le_of_ble_eq_true rfl) (Nat.le_of_ble_eq_true rfl) (⟨by unfold thD; (repeat' split) <;> omega, rfl, hG_10⟩) dX3_drop_20

set_option maxRecDepth 100000 in
set_option maxHeartbeats 4000000 in
theorem c_X3_start (l : Launch) (h : Nat → Nat) (D : va_G) (c : Nat → ClassId) (σ κ : Nat → Nat → Int) (ω : Nat × (Nat → Int32) × Int32) (hinj : ∀ i j, i < 32 → j < 32 → h i = h j → i = j) (hG : GI σ) (a : Int) (ha : -2147483648 ≤ a ∧ a ≤ 2147483647) (hst : l.stackTraces = false) :
    zXi (S := Unit) l yX3_start cX3_start 2 (some .int) 7 103 1 [.ref (h (0)), .int (iz (a))] 32 h D (gT c) (gC c h (σ) (κ) (ω)) (fun _ => gC c h σ κ ω) (fun z _ => th1 σ a = 0 ∧ z = if σ 14 a.toNat = 0 then -1 else σ 8 a.toNat) (fun E9 => (E9 = E98 ∧ th1 σ a = 1)) := by
  refine zXM_of (by decide) (Nat.le_of_ble_eq_true rfl) ?_
  intro p e s m below meth cd ls ⟨hF, hr, hlocks, hK, hexc, hX⟩ hP hl
  have hz : zD (zA 32 h s.heap.size) 32 h := zD.self hinj s.heap.size
  have hA : ∀ q, s.heap.size ≤ q → zA 32 h s.heap.size q := zA_new
  generalize zA 32 h s.heap.size = A at hz hA hX ⊢
  have hS : va_S A s.heap s.heap [] := va_S.rf
  have hl : lv_has ls 2 [(0, .ref (h (0))), (1, .int (iz (a)))] := hl
  refine lv_aload_n hF.1 hF.2.1 dX3_start_0 rfl (lv_at hl 0 rfl) ?_
  refine lv_iload_n hF.1 hF.2.1 dX3_start_1 rfl (lv_at hl 1 rfl) ?_
  have hpx_3 : ∀ E9, (fun E9 => (E9 = E98 ∧ ¬ (0 ≤ a ∧ a ≤ σ 0 1 - 1))) E9 → (fun E9 => (E9 = E98 ∧ th1 σ a = 1)) E9 := by
    intro E9 hE
    obtain ⟨rfl, q9⟩ := hE
    first | exact ⟨rfl, by unfold th1; (repeat' split) <;> omega⟩
  refine z_xcv (k := 1) (S := Unit) (w := fun _ => gC c h σ κ ω) (P := fun _ => 0 ≤ a ∧ a ≤ σ 0 1 - 1) (PXc := fun E9 => (E9 = E98 ∧ ¬ (0 ≤ a ∧ a ≤ σ 0 1 - 1))) (PX := fun E9 => (E9 = E98 ∧ th1 σ a = 1)) (z_xrunV (rm := { frames := 6, cells := 1, slots := 6, locals := 82 }) hF hK hX hz hA hP hS (c_X3_requireAct l h D c σ κ ω hinj hG a (by omega) hst _) (gIn_V mw_177 mw_178 mw_179 mw_86 mw_175) rfl rfl ⟨rfl, by decide, by decide, rfl⟩ ⟨Nat.le_of_ble_eq_true rfl, Nat.le_of_ble_eq_true rfl⟩ (k := 0) (T := TX3) (N := 14) (by omega) rfl (rfl) rfl (As := [.int (iz (a))]) (rest := []) rfl hl.1 rfl (Nat.le_of_ble_eq_true rfl) dX3_start_2 ⟨(Nat.le_of_ble_eq_true rfl), (Nat.le_of_ble_eq_true rfl)⟩) hz hA hS hexc hlocks (Nat.le_of_ble_eq_true rfl) (Nat.le_of_ble_eq_true rfl) hpx_3 (fun u_1 H locs hp hP hS => ?_)
  have q_4 : 0 ≤ a ∧ a ≤ σ 0 1 - 1 := hp
  have q_5 := GI_01 hG
  refine lv_aload_n hF.1 hF.2.1 dX3_start_5 rfl (lv_at hl 0 rfl) ?_
  refine z_get hF hK hP (k := 0) (C := RX3) (T := TX3) (N := 14) (by omega) (rfl) rfl uin_X3 5 (by decide) mw_60 (v := .ref (h (5))) rfl dX3_start_6 ?_
  refine lv_iload_n hF.1 hF.2.1 dX3_start_9 rfl (lv_at hl 1 rfl) ?_
  refine z_aald hF hK hP (k := 5) (by decide) rfl 2 rfl (i := a) ((a).toNat) ((Int.toNat_of_nonneg (by omega)).symm) (by omega) (by decide) (a := h ((a).toNat + 11)) rfl dX3_start_10 ?_
  refine z_getN hF hK hP (k := (a).toNat + 11) (C := RX0) (T := TX0) (N := 9) (by omega) (gC_act (by omega)) rfl uin_X0 7 (by decide) nw_0 (v := .int (iz (σ 14 (a).toNat))) rfl dX3_start_11 ?_
  have q_6 := GI_14 hG ((a).toNat)
  refine zi_if_eq (tgt := 29) hF.1 hF.2.1 (a := σ 14 (a).toNat) dX3_start_14 (by decide) (by omega) (fun c_14 => ?_) (fun c_14 => ?_)
  · skip
    refine zi_const hF.1 hF.2.1 dX3_start_29 ?_
    exact z_xreti (S := Unit) (P := fun z _ => th1 σ a = 0 ∧ z = if σ 14 a.toNat = 0 then -1 else σ 8 a.toNat) (z := -1) (u := ()) (w := fun _ => gC c h σ κ ω) hF hr hlocks hP hS (Nat.le_of_ble_eq_true rfl) (Nat.le_of_ble_eq_true rfl) (rfl) (⟨by unfold th1; (repeat' split) <;> omega, by split <;> omega⟩) dX3_start_30
  · skip
    refine lv_aload_n hF.1 hF.2.1 dX3_start_17 rfl (lv_at hl 0 rfl) ?_
    refine z_get hF hK hP (k := 0) (C := RX3) (T := TX3) (N := 14) (by omega) (rfl) rfl uin_X3 5 (by decide) mw_60 (v := .ref (h (5))) rfl dX3_start_18 ?_
    refine lv_iload_n hF.1 hF.2.1 dX3_start_21 rfl (lv_at hl 1 rfl) ?_
    refine z_aald hF hK hP (k := 5) (by decide) rfl 2 rfl (i := a) ((a).toNat) ((Int.toNat_of_nonneg (by omega)).symm) (by omega) (by decide) (a := h ((a).toNat + 11)) rfl dX3_start_22 ?_
    refine z_getN hF hK hP (k := (a).toNat + 11) (C := RX0) (T := TX0) (N := 9) (by omega) (gC_act (by omega)) rfl uin_X0 1 (by decide) nw_1 (v := .int (iz (σ 8 (a).toNat))) rfl dX3_start_23 ?_
    have q_7 := GI_8 hG ((a).toNat)
    refine lv_goto (tgt := 30) hF.1 hF.2.1 dX3_start_26 (by decide) ?_
    exact z_xreti (S := Unit) (P := fun z _ => th1 σ a = 0 ∧ z = if σ 14 a.toNat = 0 then -1 else σ 8 a.toNat) (z := σ 8 (a).toNat) (u := ()) (w := fun _ => gC c h σ κ ω) hF hr hlocks hP hS (Nat.le_of_ble_eq_true rfl) (Nat.le_of_ble_eq_true rfl) (rfl) (⟨by unfold th1; (repeat' split) <;> omega, by split <;> omega⟩) dX3_start_30

set_option maxRecDepth 100000 in
set_option maxHeartbeats 4000000 in
theorem c_X3_firstStart (l : Launch) (h : Nat → Nat) (D : va_G) (c : Nat → ClassId) (σ κ : Nat → Nat → Int) (ω : Nat × (Nat → Int32) × Int32) (hinj : ∀ i j, i < 32 → j < 32 → h i = h j → i = j) (hG : GI σ) (a : Int) (ha : -2147483648 ≤ a ∧ a ≤ 2147483647) (mi : Int) (hmi : -2147483648 ≤ mi ∧ mi ≤ 2147483647) (hlen : ∀ k, k < 16 → σ 14 k ≠ 0 → 1 ≤ σ 9 k) (hst : l.stackTraces = false) :
    zXi (S := Nat → Nat → Int) l yX3_firstStart cX3_firstStart 6 (some .int) 8 124 3 [.ref (h (0)), .int (iz (a)), .int (iz (mi))] 32 h D (gT c) (gC c h (σ) (κ) (ω)) (fun κ9 => gC c h σ κ9 ω) (fun z κ9 => thM σ a mi = 0 ∧ ∃ σ9, FFS σ a.toNat mi z σ9) (fun E9 => (E9 = E98 ∧ thM σ a mi = 1) ∨ (E9 = E206 ∧ thM σ a mi = 2) ∨ (E9 = E67 ∧ thM σ a mi = 3)) := by
  refine zXM_of (by decide) (Nat.le_of_ble_eq_true rfl) ?_
  intro p e s m below meth cd ls ⟨hF, hr, hlocks, hK, hexc, hX⟩ hP hl
  have hz : zD (zA 32 h s.heap.size) 32 h := zD.self hinj s.heap.size
  have hA : ∀ q, s.heap.size ≤ q → zA 32 h s.heap.size q := zA_new
  generalize zA 32 h s.heap.size = A at hz hA hX ⊢
  have hS : va_S A s.heap s.heap [] := va_S.rf
  have hl : lv_has ls 6 [(0, .ref (h (0))), (1, .int (iz (a))), (2, .int (iz (mi)))] := hl
  refine lv_aload_n hF.1 hF.2.1 dX3_firstStart_0 rfl (lv_at hl 0 rfl) ?_
  refine lv_iload_n hF.1 hF.2.1 dX3_firstStart_1 rfl (lv_at hl 1 rfl) ?_
  have hpx_3 : ∀ E9, (fun E9 => (E9 = E98 ∧ ¬ (0 ≤ a ∧ a ≤ σ 0 1 - 1))) E9 → (fun E9 => (E9 = E98 ∧ thM σ a mi = 1) ∨ (E9 = E206 ∧ thM σ a mi = 2) ∨ (E9 = E67 ∧ thM σ a mi = 3)) E9 := by
    intro E9 hE
    obtain ⟨rfl, q9⟩ := hE
    first | exact Or.inl ⟨rfl, by unfold thM; (repeat' split) <;> omega⟩ | exact Or.inr (Or.inl ⟨rfl, by unfold thM; (repeat' split) <;> omega⟩) | exact Or.inr (Or.inr (⟨rfl, by unfold thM; (repeat' split) <;> omega⟩))
  refine z_xcv (k := 1) (S := Unit) (w := fun _ => gC c h σ κ ω) (P := fun _ => 0 ≤ a ∧ a ≤ σ 0 1 - 1) (PXc := fun E9 => (E9 = E98 ∧ ¬ (0 ≤ a ∧ a ≤ σ 0 1 - 1))) (PX := fun E9 => (E9 = E98 ∧ thM σ a mi = 1) ∨ (E9 = E206 ∧ thM σ a mi = 2) ∨ (E9 = E67 ∧ thM σ a mi = 3)) (z_xrunV (rm := { frames := 6, cells := 1, slots := 6, locals := 82 }) hF hK hX hz hA hP hS (c_X3_requireAct l h D c σ κ ω hinj hG a (by omega) hst _) (gIn_V mw_177 mw_178 mw_179 mw_86 mw_175) rfl rfl ⟨rfl, by decide, by decide, rfl⟩ ⟨Nat.le_of_ble_eq_true rfl, Nat.le_of_ble_eq_true rfl⟩ (k := 0) (T := TX3) (N := 14) (by omega) rfl (rfl) rfl (As := [.int (iz (a))]) (rest := []) rfl hl.1 rfl (Nat.le_of_ble_eq_true rfl) dX3_firstStart_2 ⟨(Nat.le_of_ble_eq_true rfl), (Nat.le_of_ble_eq_true rfl)⟩) hz hA hS hexc hlocks (Nat.le_of_ble_eq_true rfl) (Nat.le_of_ble_eq_true rfl) hpx_3 (fun u_1 H locs hp hP hS => ?_)
  have q_4 : 0 ≤ a ∧ a ≤ σ 0 1 - 1 := hp
  have q_5 := GI_01 hG
  refine lv_iload_n hF.1 hF.2.1 dX3_firstStart_5 rfl (lv_at hl 2 rfl) ?_
  have hpx_8 : ∀ E9, (fun E9 => (E9 = E206 ∧ ¬ (0 ≤ mi ∧ mi ≤ 999))) E9 → (fun E9 => (E9 = E98 ∧ thM σ a mi = 1) ∨ (E9 = E206 ∧ thM σ a mi = 2) ∨ (E9 = E67 ∧ thM σ a mi = 3)) E9 := by
    intro E9 hE
    obtain ⟨rfl, q9⟩ := hE
    first | exact Or.inl ⟨rfl, by unfold thM; (repeat' split) <;> omega⟩ | exact Or.inr (Or.inl ⟨rfl, by unfold thM; (repeat' split) <;> omega⟩) | exact Or.inr (Or.inr (⟨rfl, by unfold thM; (repeat' split) <;> omega⟩))
  refine z_xcv (k := 1) (S := Unit) (w := fun _ => gC c h σ κ ω) (P := fun _ => 0 ≤ mi ∧ mi ≤ 999) (PXc := fun E9 => (E9 = E206 ∧ ¬ (0 ≤ mi ∧ mi ≤ 999))) (PX := fun E9 => (E9 = E98 ∧ thM σ a mi = 1) ∨ (E9 = E206 ∧ thM σ a mi = 2) ∨ (E9 = E67 ∧ thM σ a mi = 3)) (z_xrunS (rm := { frames := 7, cells := 1, slots := 6, locals := 104 }) hF hK hX hz hA hP hS (c_X3_requireMinute l h D c σ κ ω hinj hG mi (by omega) hst _) (gIn_S mw_94 mw_95 mw_86 mw_83) rfl rfl ⟨rfl, by decide, by decide, rfl⟩ ⟨Nat.le_of_ble_eq_true rfl, Nat.le_of_ble_eq_true rfl⟩ (As := [.int (iz (mi))]) (rest := []) rfl hl.1 rfl (Nat.le_of_ble_eq_true rfl) dX3_firstStart_6 ⟨(Nat.le_of_ble_eq_true rfl), (Nat.le_of_ble_eq_true rfl)⟩) hz hA hS hexc hlocks (Nat.le_of_ble_eq_true rfl) (Nat.le_of_ble_eq_true rfl) hpx_8 (fun u_6 H locs hp hP hS => ?_)
  have q_9 : 0 ≤ mi ∧ mi ≤ 999 := hp
  refine lv_aload_n hF.1 hF.2.1 dX3_firstStart_9 rfl (lv_at hl 0 rfl) ?_
  refine lv_iload_n hF.1 hF.2.1 dX3_firstStart_10 rfl (lv_at hl 1 rfl) ?_
  have hpx_12 : ∀ E9, (fun E9 => (E9 = E67 ∧ σ 14 a.toNat = 0)) E9 → (fun E9 => (E9 = E98 ∧ thM σ a mi = 1) ∨ (E9 = E206 ∧ thM σ a mi = 2) ∨ (E9 = E67 ∧ thM σ a mi = 3)) E9 := by
    intro E9 hE
    obtain ⟨rfl, q9⟩ := hE
    first | exact Or.inl ⟨rfl, by unfold thM; (repeat' split) <;> omega⟩ | exact Or.inr (Or.inl ⟨rfl, by unfold thM; (repeat' split) <;> omega⟩) | exact Or.inr (Or.inr (⟨rfl, by unfold thM; (repeat' split) <;> omega⟩))
  refine z_xcv (k := 1) (S := Unit) (w := fun _ => gC c h σ κ ω) (P := fun _ => σ 14 a.toNat ≠ 0) (PXc := fun E9 => (E9 = E67 ∧ σ 14 a.toNat = 0)) (PX := fun E9 => (E9 = E98 ∧ thM σ a mi = 1) ∨ (E9 = E206 ∧ thM σ a mi = 2) ∨ (E9 = E67 ∧ thM σ a mi = 3)) (z_xrunV (rm := { frames := 6, cells := 1, slots := 6, locals := 82 }) hF hK hX hz hA hP hS (c_X3_requirePlanned l h D c σ κ ω hinj hG a (by omega) hst _) (gIn_V mw_180 mw_181 mw_182 mw_86 mw_176) rfl rfl ⟨rfl, by decide, by decide, rfl⟩ ⟨Nat.le_of_ble_eq_true rfl, Nat.le_of_ble_eq_true rfl⟩ (k := 0) (T := TX3) (N := 14) (by omega) rfl (rfl) rfl (As := [.int (iz (a))]) (rest := []) rfl hl.1 rfl (Nat.le_of_ble_eq_true rfl) dX3_firstStart_11 ⟨(Nat.le_of_ble_eq_true rfl), (Nat.le_of_ble_eq_true rfl)⟩) hz hA hS hexc hlocks (Nat.le_of_ble_eq_true rfl) (Nat.le_of_ble_eq_true rfl) hpx_12 (fun u_10 H locs hp hP hS => ?_)
  have q_13 : σ 14 a.toNat ≠ 0 := hp
  refine lv_aload_n hF.1 hF.2.1 dX3_firstStart_14 rfl (lv_at hl 0 rfl) ?_
  refine z_get hF hK hP (k := 0) (C := RX3) (T := TX3) (N := 14) (by omega) (rfl) rfl uin_X3 5 (by decide) mw_60 (v := .ref (h (5))) rfl dX3_firstStart_15 ?_
  refine lv_iload_n hF.1 hF.2.1 dX3_firstStart_18 rfl (lv_at hl 1 rfl) ?_
  refine z_aald hF hK hP (k := 5) (by decide) rfl 2 rfl (i := a) ((a).toNat) ((Int.toNat_of_nonneg (by omega)).symm) (by omega) (by decide) (a := h ((a).toNat + 11)) rfl dX3_firstStart_19 ?_
  refine lv_astore_n (lv' := [(3, .ref (h ((a).toNat + 11))), (0, .ref (h (0))), (1, .int (iz (a))), (2, .int (iz (mi)))]) hF.1 hF.2.1 dX3_firstStart_20 rfl hl (by decide) rfl (fun ls hl => ?_)
  refine lv_aload_n hF.1 hF.2.1 dX3_firstStart_21 rfl (lv_at hl 0 rfl) ?_
  refine z_getN hF hK hP (k := (a).toNat + 11) (C := RX0) (T := TX0) (N := 9) (by omega) (gC_act (by omega)) rfl uin_X0 1 (by decide) nw_1 (v := .int (iz (σ 8 (a).toNat))) rfl dX3_firstStart_22 ?_
  have q_14 := GI_8 hG ((a).toNat)
  refine lv_istore (lv' := [(4, .int (iz (σ 8 (a).toNat))), (3, .ref (h ((a).toNat + 11))), (0, .ref (h (0))), (1, .int (iz (a))), (2, .int (iz (mi)))]) hF.1 hF.2.1 dX3_firstStart_25 hl (by decide) rfl (fun ls hl => ?_)
  have hl9 := hlen a.toNat (by omega) (by omega)
  refine lv_aload_n hF.1 hF.2.1 dX3_firstStart_27 rfl (lv_at hl 2 rfl) ?_
  refine lv_aload_n hF.1 hF.2.1 dX3_firstStart_28 rfl (lv_at hl 1 rfl) ?_
  refine lv_iload_n hF.1 hF.2.1 dX3_firstStart_29 rfl (lv_at hl 4 rfl) ?_
  refine z_ci (S := (Nat → Nat → Int) × (Nat → Nat → Int)) (w := fun u9 => gC c h u9.1 u9.2 ω) (P := fun z u9 => FFS σ ((a).toNat) mi z u9.1) (z_runV (rm := { frames := 4, cells := 0, slots := 0, locals := 97 }) hF hK hP (c_X3_firstFineStart l h D c σ κ ω hinj hG ((a).toNat) (by omega) mi (by omega) (by first | omega | (simp [u2]; omega)) _) (gIn_V mw_187 mw_188 mw_189 mw_86 mw_186) rfl rfl ⟨rfl, by decide, by decide, rfl⟩ ⟨Nat.le_of_ble_eq_true rfl, Nat.le_of_ble_eq_true rfl⟩ (k := 0) (T := TX3) (N := 14) (by omega) rfl (rfl) rfl (As := [.ref (h ((a).toNat + 11)), .int (iz (mi))]) (rest := []) rfl hl.1 rfl (Nat.le_of_ble_eq_true rfl) dX3_firstStart_30 ⟨Nat.le_of_ble_eq_true rfl, Nat.le_of_ble_eq_true rfl⟩) hz hA hS (fun z_15 u_16 H locs hp hP hS => ?_)
  obtain ⟨σ_u_16, κ_u_16⟩ := u_16
  have hff : FFS σ ((a).toNat) mi z_15 σ_u_16 := hp
  have hG_17 : GI σ_u_16 := by obtain ⟨⟨x, q1, q2, q3⟩, _⟩ := hff; rw [q3]; exact GI_u8 hG ⟨q1, q2⟩
  have q_18 : -1 ≤ z_15 ∧ z_15 ≤ 1000 := by have q0 := GI_9 hG ((a).toNat); rcases hff.2 with q | q <;> omega
  have hP : zB 32 h D (gC c h (σ_u_16) (κ_u_16) (ω)) H := hP
  refine lv_istore (lv' := [(5, .int (iz (z_15))), (4, .int (iz (σ 8 (a).toNat))), (3, .ref (h ((a).toNat + 11))), (0, .ref (h (0))), (1, .int (iz (a))), (2, .int (iz (mi)))]) hF.1 hF.2.1 dX3_firstStart_33 hl (by decide) rfl (fun ls hl => ?_)
  refine lv_aload_n hF.1 hF.2.1 dX3_firstStart_35 rfl (lv_at hl 2 rfl) ?_
  refine lv_iload hF.1 hF.2.1 dX3_firstStart_36 (lv_at hl 1 rfl) ?_
  refine z_putN hF hK hz hP hS (k := (a).toNat + 11) (C := RX0) (T := TX0) (N := 9) (by omega) (gC_act (by omega)) rfl uin_X0 tyX0_ok nmX0 1 (by decide) nw_1 rfl (⟨rfl, rfl⟩) (by simp) (g' := gC c h (u2 (σ_u_16) 8 ((a).toNat) (σ 8 (a).toNat)) (κ_u_16) (ω)) (by rw [gC_act (by omega)]; simp [u2]) (gC_act_o ⟨by decide, by decide⟩) dX3_firstStart_38 (fun H locs hP hS => ?_)
  have hG_19 := GI_u8 hG_17 (v := σ 8 (a).toNat) (k := (a).toNat) (by omega)
  refine lv_iload hF.1 hF.2.1 dX3_firstStart_41 (lv_at hl 0 rfl) ?_
  have hback : u2 (σ_u_16) 8 a.toNat (σ 8 a.toNat) = σ := by obtain ⟨⟨x, _, _, q3⟩, _⟩ := hff; rw [q3, u2_u2, u2_self]
  have hP : zB 32 h D (gC c h σ (κ_u_16) ω) H := by rw [hback] at hP; exact hP
  exact z_xreti (S := Nat → Nat → Int) (P := fun z κ9 => thM σ a mi = 0 ∧ ∃ σ9, FFS σ a.toNat mi z σ9) (z := z_15) (u := κ_u_16) (w := fun κ9 => gC c h σ κ9 ω) hF hr hlocks hP hS (Nat.le_of_ble_eq_true rfl) (Nat.le_of_ble_eq_true rfl) (rfl) (⟨by unfold thM; (repeat' split) <;> omega, _, hff⟩) dX3_firstStart_43
