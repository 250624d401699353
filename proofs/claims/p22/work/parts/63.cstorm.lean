def fineM (σ : Nat → Nat → Int) : Prop := (∀ k, k < 16 → σ 14 k ≠ 0 → σ 8 k + σ 9 k ≤ 1000) ∧ ∀ m : Nat, m < 1000 → stsFine σ m ∧ pt σ m = 0
/-- the class's state where a storm has begun -/
def stC (σ : Nat → Nat → Int) (sg mi en : Int) : Nat → Nat → Int := u2 (u2 (u2 (u2 σ 0 2 (σ 0 2 + 1)) 16 (σ 0 2).toNat sg) 17 (σ 0 2).toNat mi) 18 (σ 0 2).toNat en

set_option maxRecDepth 100000 in
set_option maxHeartbeats 4000000 in
theorem c_X3_load (l : Launch) (h : Nat → Nat) (D : va_G) (c : Nat → ClassId) (σ κ : Nat → Nat → Int) (ω : Nat × (Nat → Int32) × Int32) (hinj : ∀ i j, i < 32 → j < 32 → h i = h j → i = j) (hG : GI σ) (mi : Int) (hmi : -2147483648 ≤ mi ∧ mi ≤ 2147483647) (ph : Int) (hph : -2147483648 ≤ ph ∧ ph ≤ 2147483647) (hst : l.stackTraces = false) :
    zXi (S := Nat → Nat → Int) l yX3_load cX3_load 3 (some .int) 8 124 2 [.ref (h (0)), .int (iz (mi)), .int (iz (ph))] 32 h D (gT c) (gC c h (σ) (κ) (ω)) (fun κ9 => gC c h σ κ9 ω) (fun z _ => thP ph mi = 0 ∧ z = ldS σ mi ph.toNat 16) (fun E9 => (E9 = E98 ∧ thP ph mi = 1) ∨ (E9 = E206 ∧ thP ph mi = 2)) := by
  refine zXM_of (by decide) (Nat.le_of_ble_eq_true rfl) ?_
  intro p e s m below meth cd ls ⟨hF, hr, hlocks, hK, hexc, hX⟩ hP hl
  have hz : zD (zA 32 h s.heap.size) 32 h := zD.self hinj s.heap.size
  have hA : ∀ q, s.heap.size ≤ q → zA 32 h s.heap.size q := zA_new
  generalize zA 32 h s.heap.size = A at hz hA hX ⊢
  have hS : va_S A s.heap s.heap [] := va_S.rf
  have hl : lv_has ls 3 [(0, .ref (h (0))), (1, .int (iz (mi))), (2, .int (iz (ph)))] := hl
  refine lv_iload_n hF.1 hF.2.1 dX3_load_0 rfl (lv_at hl 2 rfl) ?_
  have hpx_3 : ∀ E9, (fun E9 => (E9 = E98 ∧ ¬ (0 ≤ ph ∧ ph ≤ 2))) E9 → (fun E9 => (E9 = E98 ∧ thP ph mi = 1) ∨ (E9 = E206 ∧ thP ph mi = 2)) E9 := by
    intro E9 hE
    obtain ⟨rfl, q9⟩ := hE
    first | exact Or.inl ⟨rfl, by unfold thP; (repeat' split) <;> omega⟩ | exact Or.inr (⟨rfl, by unfold thP; (repeat' split) <;> omega⟩)
  refine z_xcv (k := 1) (S := Unit) (w := fun _ => gC c h σ κ ω) (P := fun _ => 0 ≤ ph ∧ ph ≤ 2) (PXc := fun E9 => (E9 = E98 ∧ ¬ (0 ≤ ph ∧ ph ≤ 2))) (PX := fun E9 => (E9 = E98 ∧ thP ph mi = 1) ∨ (E9 = E206 ∧ thP ph mi = 2)) (z_xrunS (rm := { frames := 6, cells := 1, slots := 6, locals := 82 }) hF hK hX hz hA hP hS (c_X3_requirePhase l h D c σ κ ω hinj hG ph (by omega) hst _) (gIn_S mw_164 mw_165 mw_86 mw_161) rfl rfl ⟨rfl, by decide, by decide, rfl⟩ ⟨Nat.le_of_ble_eq_true rfl, Nat.le_of_ble_eq_true rfl⟩ (As := [.int (iz (ph))]) (rest := []) rfl hl.1 rfl (Nat.le_of_ble_eq_true rfl) dX3_load_1 ⟨(Nat.le_of_ble_eq_true rfl), (Nat.le_of_ble_eq_true rfl)⟩) hz hA hS hexc hlocks (Nat.le_of_ble_eq_true rfl) (Nat.le_of_ble_eq_true rfl) hpx_3 (fun u_1 H locs hp hP hS => ?_)
  have q_4 : 0 ≤ ph ∧ ph ≤ 2 := hp
  refine lv_iload_n hF.1 hF.2.1 dX3_load_4 rfl (lv_at hl 1 rfl) ?_
  have hpx_7 : ∀ E9, (fun E9 => (E9 = E206 ∧ ¬ (0 ≤ mi ∧ mi ≤ 999))) E9 → (fun E9 => (E9 = E98 ∧ thP ph mi = 1) ∨ (E9 = E206 ∧ thP ph mi = 2)) E9 := by
    intro E9 hE
    obtain ⟨rfl, q9⟩ := hE
    first | exact Or.inl ⟨rfl, by unfold thP; (repeat' split) <;> omega⟩ | exact Or.inr (⟨rfl, by unfold thP; (repeat' split) <;> omega⟩)
  refine z_xcv (k := 1) (S := Unit) (w := fun _ => gC c h σ κ ω) (P := fun _ => 0 ≤ mi ∧ mi ≤ 999) (PXc := fun E9 => (E9 = E206 ∧ ¬ (0 ≤ mi ∧ mi ≤ 999))) (PX := fun E9 => (E9 = E98 ∧ thP ph mi = 1) ∨ (E9 = E206 ∧ thP ph mi = 2)) (z_xrunS (rm := { frames := 7, cells := 1, slots := 6, locals := 104 }) hF hK hX hz hA hP hS (c_X3_requireMinute l h D c σ κ ω hinj hG mi (by omega) hst _) (gIn_S mw_94 mw_95 mw_86 mw_83) rfl rfl ⟨rfl, by decide, by decide, rfl⟩ ⟨Nat.le_of_ble_eq_true rfl, Nat.le_of_ble_eq_true rfl⟩ (As := [.int (iz (mi))]) (rest := []) rfl hl.1 rfl (Nat.le_of_ble_eq_true rfl) dX3_load_5 ⟨(Nat.le_of_ble_eq_true rfl), (Nat.le_of_ble_eq_true rfl)⟩) hz hA hS hexc hlocks (Nat.le_of_ble_eq_true rfl) (Nat.le_of_ble_eq_true rfl) hpx_7 (fun u_5 H locs hp hP hS => ?_)
  have q_8 : 0 ≤ mi ∧ mi ≤ 999 := hp
  refine lv_aload_n hF.1 hF.2.1 dX3_load_8 rfl (lv_at hl 0 rfl) ?_
  refine lv_iload_n hF.1 hF.2.1 dX3_load_9 rfl (lv_at hl 1 rfl) ?_
  refine z_cv (S := Nat → Nat → Int) (w := fun κ9 => gC c h σ κ9 ω) (P := fun κ9 => LK σ mi 16 κ9) (z_runV (rm := { frames := 2, cells := 0, slots := 0, locals := 45 }) hF hK hP (c_X3_lookAt l h D c σ κ ω hinj hG mi (by omega) _) (gIn_V mw_140 mw_141 mw_142 mw_86 mw_127) rfl rfl ⟨rfl, by decide, by decide, rfl⟩ ⟨Nat.le_of_ble_eq_true rfl, Nat.le_of_ble_eq_true rfl⟩ (k := 0) (T := TX3) (N := 14) (by omega) rfl (rfl) rfl (As := [.int (iz (mi))]) (rest := []) rfl hl.1 rfl (Nat.le_of_ble_eq_true rfl) dX3_load_10 ⟨Nat.le_of_ble_eq_true rfl, Nat.le_of_ble_eq_true rfl⟩) hz hA hS (fun u_9 H locs hp hP hS => ?_)
  have hLK : LK σ mi 16 u_9 := hp
  have hP : zB 32 h D (gC c h (σ) (u_9) (ω)) H := hP
  have htc : 0 ≤ u_9 2 1 ∧ u_9 2 1 ≤ 1 := by rw [hLK.2.2.2]; exact tcS_rg 16
  refine lv_aload_n hF.1 hF.2.1 dX3_load_13 rfl (lv_at hl 0 rfl) ?_
  refine z_get hF hK hP (k := 0) (C := RX3) (T := TX3) (N := 14) (by omega) (rfl) rfl uin_X3 10 (by decide) mw_67 (v := .ref (h (8))) rfl dX3_load_14 ?_
  refine lv_iload_n hF.1 hF.2.1 dX3_load_17 rfl (lv_at hl 2 rfl) ?_
  refine z_iald hF hK hP (k := 8) (by decide) rfl 0 rfl (i := ph) ((ph).toNat) ((Int.toNat_of_nonneg (by omega)).symm) (by omega) (by decide) (x := iz (u_9 0 (ph).toNat)) rfl dX3_load_18 ?_
  have q_10 := hLK.1 ((ph).toNat) (by omega)
  have q_11 := ldS_rg hG (mi := mi) (p := (ph).toNat) 16
  exact z_xreti (S := Nat → Nat → Int) (P := fun z _ => thP ph mi = 0 ∧ z = ldS σ mi ph.toNat 16) (z := u_9 0 (ph).toNat) (u := u_9) (w := fun κ9 => gC c h σ κ9 ω) hF hr hlocks hP hS (Nat.le_of_ble_eq_true rfl) (Nat.le_of_ble_eq_true rfl) (rfl) (⟨by unfold thP; (repeat' split) <;> omega, hLK.1 ph.toNat (by omega)⟩) dX3_load_19

set_option maxRecDepth 100000 in
set_option maxHeartbeats 4000000 in
theorem c_X3_noise (l : Launch) (h : Nat → Nat) (D : va_G) (c : Nat → ClassId) (σ κ : Nat → Nat → Int) (ω : Nat × (Nat → Int32) × Int32) (hinj : ∀ i j, i < 32 → j < 32 → h i = h j → i = j) (hG : GI σ) (mi : Int) (hmi : -2147483648 ≤ mi ∧ mi ≤ 2147483647) (hs : Int) (hhs : -2147483648 ≤ hs ∧ hs ≤ 2147483647) (hst : l.stackTraces = false) :
    zXi (S := Nat → Nat → Int) l yX3_noise cX3_noise 3 (some .int) 8 124 2 [.ref (h (0)), .int (iz (mi)), .int (iz (hs))] 32 h D (gT c) (gC c h (σ) (κ) (ω)) (fun κ9 => gC c h σ κ9 ω) (fun z _ => thP hs mi = 0 ∧ z = nsS σ mi (wd σ mi) hs.toNat 16) (fun E9 => (E9 = E98 ∧ thP hs mi = 1) ∨ (E9 = E206 ∧ thP hs mi = 2)) := by
  refine zXM_of (by decide) (Nat.le_of_ble_eq_true rfl) ?_
  intro p e s m below meth cd ls ⟨hF, hr, hlocks, hK, hexc, hX⟩ hP hl
  have hz : zD (zA 32 h s.heap.size) 32 h := zD.self hinj s.heap.size
  have hA : ∀ q, s.heap.size ≤ q → zA 32 h s.heap.size q := zA_new
  generalize zA 32 h s.heap.size = A at hz hA hX ⊢
  have hS : va_S A s.heap s.heap [] := va_S.rf
  have hl : lv_has ls 3 [(0, .ref (h (0))), (1, .int (iz (mi))), (2, .int (iz (hs)))] := hl
  refine lv_iload_n hF.1 hF.2.1 dX3_noise_0 rfl (lv_at hl 2 rfl) ?_
  have hpx_3 : ∀ E9, (fun E9 => (E9 = E98 ∧ ¬ (0 ≤ hs ∧ hs ≤ 2))) E9 → (fun E9 => (E9 = E98 ∧ thP hs mi = 1) ∨ (E9 = E206 ∧ thP hs mi = 2)) E9 := by
    intro E9 hE
    obtain ⟨rfl, q9⟩ := hE
    first | exact Or.inl ⟨rfl, by unfold thP; (repeat' split) <;> omega⟩ | exact Or.inr (⟨rfl, by unfold thP; (repeat' split) <;> omega⟩)
  refine z_xcv (k := 1) (S := Unit) (w := fun _ => gC c h σ κ ω) (P := fun _ => 0 ≤ hs ∧ hs ≤ 2) (PXc := fun E9 => (E9 = E98 ∧ ¬ (0 ≤ hs ∧ hs ≤ 2))) (PX := fun E9 => (E9 = E98 ∧ thP hs mi = 1) ∨ (E9 = E206 ∧ thP hs mi = 2)) (z_xrunS (rm := { frames := 6, cells := 1, slots := 6, locals := 82 }) hF hK hX hz hA hP hS (c_X3_requireHouse l h D c σ κ ω hinj hG hs (by omega) hst _) (gIn_S mw_153 mw_154 mw_86 mw_114) rfl rfl ⟨rfl, by decide, by decide, rfl⟩ ⟨Nat.le_of_ble_eq_true rfl, Nat.le_of_ble_eq_true rfl⟩ (As := [.int (iz (hs))]) (rest := []) rfl hl.1 rfl (Nat.le_of_ble_eq_true rfl) dX3_noise_1 ⟨(Nat.le_of_ble_eq_true rfl), (Nat.le_of_ble_eq_true rfl)⟩) hz hA hS hexc hlocks (Nat.le_of_ble_eq_true rfl) (Nat.le_of_ble_eq_true rfl) hpx_3 (fun u_1 H locs hp hP hS => ?_)
  have q_4 : 0 ≤ hs ∧ hs ≤ 2 := hp
  refine lv_iload_n hF.1 hF.2.1 dX3_noise_4 rfl (lv_at hl 1 rfl) ?_
  have hpx_7 : ∀ E9, (fun E9 => (E9 = E206 ∧ ¬ (0 ≤ mi ∧ mi ≤ 999))) E9 → (fun E9 => (E9 = E98 ∧ thP hs mi = 1) ∨ (E9 = E206 ∧ thP hs mi = 2)) E9 := by
    intro E9 hE
    obtain ⟨rfl, q9⟩ := hE
    first | exact Or.inl ⟨rfl, by unfold thP; (repeat' split) <;> omega⟩ | exact Or.inr (⟨rfl, by unfold thP; (repeat' split) <;> omega⟩)
  refine z_xcv (k := 1) (S := Unit) (w := fun _ => gC c h σ κ ω) (P := fun _ => 0 ≤ mi ∧ mi ≤ 999) (PXc := fun E9 => (E9 = E206 ∧ ¬ (0 ≤ mi ∧ mi ≤ 999))) (PX := fun E9 => (E9 = E98 ∧ thP hs mi = 1) ∨ (E9 = E206 ∧ thP hs mi = 2)) (z_xrunS (rm := { frames := 7, cells := 1, slots := 6, locals := 104 }) hF hK hX hz hA hP hS (c_X3_requireMinute l h D c σ κ ω hinj hG mi (by omega) hst _) (gIn_S mw_94 mw_95 mw_86 mw_83) rfl rfl ⟨rfl, by decide, by decide, rfl⟩ ⟨Nat.le_of_ble_eq_true rfl, Nat.le_of_ble_eq_true rfl⟩ (As := [.int (iz (mi))]) (rest := []) rfl hl.1 rfl (Nat.le_of_ble_eq_true rfl) dX3_noise_5 ⟨(Nat.le_of_ble_eq_true rfl), (Nat.le_of_ble_eq_true rfl)⟩) hz hA hS hexc hlocks (Nat.le_of_ble_eq_true rfl) (Nat.le_of_ble_eq_true rfl) hpx_7 (fun u_5 H locs hp hP hS => ?_)
  have q_8 : 0 ≤ mi ∧ mi ≤ 999 := hp
  refine lv_aload_n hF.1 hF.2.1 dX3_noise_8 rfl (lv_at hl 0 rfl) ?_
  refine lv_iload_n hF.1 hF.2.1 dX3_noise_9 rfl (lv_at hl 1 rfl) ?_
  refine z_cv (S := Nat → Nat → Int) (w := fun κ9 => gC c h σ κ9 ω) (P := fun κ9 => LK σ mi 16 κ9) (z_runV (rm := { frames := 2, cells := 0, slots := 0, locals := 45 }) hF hK hP (c_X3_lookAt l h D c σ κ ω hinj hG mi (by omega) _) (gIn_V mw_140 mw_141 mw_142 mw_86 mw_127) rfl rfl ⟨rfl, by decide, by decide, rfl⟩ ⟨Nat.le_of_ble_eq_true rfl, Nat.le_of_ble_eq_true rfl⟩ (k := 0) (T := TX3) (N := 14) (by omega) rfl (rfl) rfl (As := [.int (iz (mi))]) (rest := []) rfl hl.1 rfl (Nat.le_of_ble_eq_true rfl) dX3_noise_10 ⟨Nat.le_of_ble_eq_true rfl, Nat.le_of_ble_eq_true rfl⟩) hz hA hS (fun u_9 H locs hp hP hS => ?_)
  have hLK : LK σ mi 16 u_9 := hp
  have hP : zB 32 h D (gC c h (σ) (u_9) (ω)) H := hP
  have htc : 0 ≤ u_9 2 1 ∧ u_9 2 1 ≤ 1 := by rw [hLK.2.2.2]; exact tcS_rg 16
  refine lv_aload_n hF.1 hF.2.1 dX3_noise_13 rfl (lv_at hl 0 rfl) ?_
  refine z_get hF hK hP (k := 0) (C := RX3) (T := TX3) (N := 14) (by omega) (rfl) rfl uin_X3 11 (by decide) mw_68 (v := .ref (h (9))) rfl dX3_noise_14 ?_
  refine lv_iload_n hF.1 hF.2.1 dX3_noise_17 rfl (lv_at hl 2 rfl) ?_
  refine z_iald hF hK hP (k := 9) (by decide) rfl 0 rfl (i := hs) ((hs).toNat) ((Int.toNat_of_nonneg (by omega)).symm) (by omega) (by decide) (x := iz (u_9 1 (hs).toNat)) rfl dX3_noise_18 ?_
  have q_10 := hLK.2.1 ((hs).toNat) (by omega)
  have q_11 := nsS_rg hG (mi := mi) (w := wd σ mi) (GI_4 hG (mi / 60).toNat) (hs := (hs).toNat) 16
  exact z_xreti (S := Nat → Nat → Int) (P := fun z _ => thP hs mi = 0 ∧ z = nsS σ mi (wd σ mi) hs.toNat 16) (z := u_9 1 (hs).toNat) (u := u_9) (w := fun κ9 => gC c h σ κ9 ω) hF hr hlocks hP hS (Nat.le_of_ble_eq_true rfl) (Nat.le_of_ble_eq_true rfl) (rfl) (⟨by unfold thP; (repeat' split) <;> omega, hLK.2.1 hs.toNat (by omega)⟩) dX3_noise_19

set_option maxRecDepth 100000 in
set_option maxHeartbeats 4000000 in
theorem c_X3_channels (l : Launch) (h : Nat → Nat) (D : va_G) (c : Nat → ClassId) (σ κ : Nat → Nat → Int) (ω : Nat × (Nat → Int32) × Int32) (hinj : ∀ i j, i < 32 → j < 32 → h i = h j → i = j) (hG : GI σ) (mi : Int) (hmi : -2147483648 ≤ mi ∧ mi ≤ 2147483647) (hst : l.stackTraces = false) :
    zXi (S := Nat → Nat → Int) l yX3_channels cX3_channels 2 (some .int) 8 124 1 [.ref (h (0)), .int (iz (mi))] 32 h D (gT c) (gC c h (σ) (κ) (ω)) (fun κ9 => gC c h σ κ9 ω) (fun z _ => thK mi = 0 ∧ z = chS σ mi 16) (fun E9 => (E9 = E206 ∧ thK mi = 1)) := by
  refine zXM_of (by decide) (Nat.le_of_ble_eq_true rfl) ?_
  intro p e s m below meth cd ls ⟨hF, hr, hlocks, hK, hexc, hX⟩ hP hl
  have hz : zD (zA 32 h s.heap.size) 32 h := zD.self hinj s.heap.size
  have hA : ∀ q, s.heap.size ≤ q → zA 32 h s.heap.size q := zA_new
  generalize zA 32 h s.heap.size = A at hz hA hX ⊢
  have hS : va_S A s.heap s.heap [] := va_S.rf
  have hl : lv_has ls 2 [(0, .ref (h (0))), (1, .int (iz (mi)))] := hl
  refine lv_iload_n hF.1 hF.2.1 dX3_channels_0 rfl (lv_at hl 1 rfl) ?_
  have hpx_3 : ∀ E9, (fun E9 => (E9 = E206 ∧ ¬ (0 ≤ mi ∧ mi ≤ 999))) E9 → (fun E9 => (E9 = E206 ∧ thK mi = 1)) E9 := by
    intro E9 hE
    obtain ⟨rfl, q9⟩ := hE
    first | exact ⟨rfl, by unfold thK; (repeat' split) <;> omega⟩
  refine z_xcv (k := 1) (S := Unit) (w := fun _ => gC c h σ κ ω) (P := fun _ => 0 ≤ mi ∧ mi ≤ 999) (PXc := fun E9 => (E9 = E206 ∧ ¬ (0 ≤ mi ∧ mi ≤ 999))) (PX := fun E9 => (E9 = E206 ∧ thK mi = 1)) (z_xrunS (rm := { frames := 7, cells := 1, slots := 6, locals := 104 }) hF hK hX hz hA hP hS (c_X3_requireMinute l h D c σ κ ω hinj hG mi (by omega) hst _) (gIn_S mw_94 mw_95 mw_86 mw_83) rfl rfl ⟨rfl, by decide, by decide, rfl⟩ ⟨Nat.le_of_ble_eq_true rfl, Nat.le_of_ble_eq_true rfl⟩ (As := [.int (iz (mi))]) (rest := []) rfl hl.1 rfl (Nat.le_of_ble_eq_true rfl) dX3_channels_1 ⟨(Nat.le_of_ble_eq_true rfl), (Nat.le_of_ble_eq_true rfl)⟩) hz hA hS hexc hlocks (Nat.le_of_ble_eq_true rfl) (Nat.le_of_ble_eq_true rfl) hpx_3 (fun u_1 H locs hp hP hS => ?_)
  have q_4 : 0 ≤ mi ∧ mi ≤ 999 := hp
  refine lv_aload_n hF.1 hF.2.1 dX3_channels_4 rfl (lv_at hl 0 rfl) ?_
  refine lv_iload_n hF.1 hF.2.1 dX3_channels_5 rfl (lv_at hl 1 rfl) ?_
  refine z_cv (S := Nat → Nat → Int) (w := fun κ9 => gC c h σ κ9 ω) (P := fun κ9 => LK σ mi 16 κ9) (z_runV (rm := { frames := 2, cells := 0, slots := 0, locals := 45 }) hF hK hP (c_X3_lookAt l h D c σ κ ω hinj hG mi (by omega) _) (gIn_V mw_140 mw_141 mw_142 mw_86 mw_127) rfl rfl ⟨rfl, by decide, by decide, rfl⟩ ⟨Nat.le_of_ble_eq_true rfl, Nat.le_of_ble_eq_true rfl⟩ (k := 0) (T := TX3) (N := 14) (by omega) rfl (rfl) rfl (As := [.int (iz (mi))]) (rest := []) rfl hl.1 rfl (Nat.le_of_ble_eq_true rfl) dX3_channels_6 ⟨Nat.le_of_ble_eq_true rfl, Nat.le_of_ble_eq_true rfl⟩) hz hA hS (fun u_5 H locs hp hP hS => ?_)
  have hLK : LK σ mi 16 u_5 := hp
  have hP : zB 32 h D (gC c h (σ) (u_5) (ω)) H := hP
  have htc : 0 ≤ u_5 2 1 ∧ u_5 2 1 ≤ 1 := by rw [hLK.2.2.2]; exact tcS_rg 16
  refine lv_aload_n hF.1 hF.2.1 dX3_channels_9 rfl (lv_at hl 0 rfl) ?_
  refine z_get hF hK hP (k := 0) (C := RX3) (T := TX3) (N := 14) (by omega) (rfl) rfl uin_X3 12 (by decide) mw_119 (v := .int (iz (u_5 2 0))) rfl dX3_channels_10 ?_
  exact z_xreti (S := Nat → Nat → Int) (P := fun z _ => thK mi = 0 ∧ z = chS σ mi 16) (z := u_5 2 0) (u := u_5) (w := fun κ9 => gC c h σ κ9 ω) hF hr hlocks hP hS (Nat.le_of_ble_eq_true rfl) (Nat.le_of_ble_eq_true rfl) (rfl) (⟨by unfold thK; (repeat' split) <;> omega, hLK.2.2.1⟩) dX3_channels_13

set_option maxRecDepth 100000 in
set_option maxHeartbeats 4000000 in
theorem c_X3_isFineByMinutes (l : Launch) (h : Nat → Nat) (D : va_G) (c : Nat → ClassId) (σ κ : Nat → Nat → Int) (ω : Nat × (Nat → Int32) × Int32) (hinj : ∀ i j, i < 32 → j < 32 → h i = h j → i = j) (hG : GI σ)  :
    zMi (S := Nat → Nat → Int) l yX3_isFineByMinutes cX3_isFineByMinutes 5 (some .boolean) 4 97 [.ref (h (0))] 32 h D (gT c) (gC c h (σ) (κ) (ω)) (fun κ9 => gC c h σ κ9 ω) (fun z _ => z = b2i (fineM σ)) := by
  refine zM_of (by decide) (Nat.le_of_ble_eq_true rfl) ?_
  intro p e s m below meth cd ls ⟨hF, hr, hlocks, hK⟩ hP hl
  have hz : zD (zA 32 h s.heap.size) 32 h := zD.self hinj s.heap.size
  have hA : ∀ q, s.heap.size ≤ q → zA 32 h s.heap.size q := zA_new
  generalize zA 32 h s.heap.size = A at hz hA ⊢
  have hS : va_S A s.heap s.heap [] := va_S.rf
  have hl : lv_has ls 5 [(0, .ref (h (0)))] := hl
  refine lv_aload_n hF.1 hF.2.1 dX3_isFineByMinutes_0 rfl (lv_at hl 0 rfl) ?_
  refine z_get hF hK hP (k := 0) (C := RX3) (T := TX3) (N := 14) (by omega) (rfl) rfl uin_X3 5 (by decide) mw_60 (v := .ref (h (5))) rfl dX3_isFineByMinutes_1 ?_
  refine lv_astore_n (lv' := [(1, .ref (h (5))), (0, .ref (h (0)))]) hF.1 hF.2.1 dX3_isFineByMinutes_4 rfl hl (by decide) rfl (fun ls hl => ?_)
  refine lv_aload_n hF.1 hF.2.1 dX3_isFineByMinutes_5 rfl (lv_at hl 0 rfl) ?_
  refine z_alen hF hK hP (k := 5) (by decide) rfl 2 rfl (z := 16) rfl dX3_isFineByMinutes_6 ?_
  refine lv_istore_n (lv' := [(2, .int (iz (16))), (1, .ref (h (5))), (0, .ref (h (0)))]) hF.1 hF.2.1 dX3_isFineByMinutes_7 rfl hl (by decide) rfl (fun ls hl => ?_)
  refine zi_const hF.1 hF.2.1 dX3_isFineByMinutes_8 ?_
  refine lv_istore_n (lv' := [(3, .int (iz (0))), (2, .int (iz (16))), (1, .ref (h (5))), (0, .ref (h (0)))]) hF.1 hF.2.1 dX3_isFineByMinutes_9 rfl hl (by decide) rfl (fun ls hl => ?_)
  have nv_2 : ((0) ≤ 16) ∧ (∀ k, k < (0) → σ 14 k ≠ 0 → σ 8 k + σ 9 k ≤ 1000) := ⟨by omega, lt_0⟩
  refine z_loop (V := Nat) (nL := 5) (wd := fun v_1 => gC c h (σ) (κ) (ω)) (lv := fun v_1 => [(0, .ref (h (0))), (1, .ref (h (5))), (2, .int (iz (16))), (3, .int (iz ((v_1 : Int))))]) (stk := fun v_1 => []) (mu := fun v_1 => 17 - v_1) (inv := fun v_1 => (v_1 ≤ 16) ∧ (∀ k, k < v_1 → σ 14 k ≠ 0 → σ 8 k + σ 9 k ≤ 1000)) ?_ 0 nv_2 hP hS (lv_sub hl [3, 2, 1, 0] rfl)
  intro i hv ih_10 H locs ls hP hS hl
  have hP : zB 32 h D (gC c h (σ) (κ) (ω)) H := hP
  have hl : lv_has ls 5 [(0, .ref (h (0))), (1, .ref (h (5))), (2, .int (iz (16))), (3, .int (iz ((i : Int))))] := hl
  obtain ⟨hi_i, hv1⟩ : (i ≤ 16) ∧ (∀ k, k < i → σ 14 k ≠ 0 → σ 8 k + σ 9 k ≤ 1000) := hv
  refine lv_iload_n hF.1 hF.2.1 dX3_isFineByMinutes_10 rfl (lv_at hl 3 rfl) ?_
  refine lv_iload_n hF.1 hF.2.1 dX3_isFineByMinutes_11 rfl (lv_at hl 2 rfl) ?_
  refine zi_icmp_ge (tgt := 47) hF.1 hF.2.1 (a := (i : Int)) (b := 16) dX3_isFineByMinutes_12 (by decide) (by omega) (by omega) (fun c_12 => ?_) (fun c_12 => ?_)
  · skip
    refine zi_const hF.1 hF.2.1 dX3_isFineByMinutes_47 ?_
    refine lv_istore_n (lv' := [(1, .int (iz (0))), (0, .ref (h (0))), (2, .int (iz (16))), (3, .int (iz ((i : Int))))]) hF.1 hF.2.1 dX3_isFineByMinutes_48 rfl hl (by decide) rfl (fun ls hl => ?_)
    have nv_4 : ((0) ≤ 1000) ∧ (∀ m : Nat, m < (0) → stsFine σ m ∧ pt σ m = 0) := ⟨by omega, lt_0⟩
    refine z_loop (V := Nat × (Nat → Nat → Int)) (nL := 5) (wd := fun v_3 => gC c h (σ) (v_3.2) (ω)) (lv := fun v_3 => [(0, .ref (h (0))), (1, .int (iz ((v_3.1 : Int))))]) (stk := fun v_3 => []) (mu := fun v_3 => 1001 - v_3.1) (inv := fun v_3 => (v_3.1 ≤ 1000) ∧ (∀ m : Nat, m < v_3.1 → stsFine σ m ∧ pt σ m = 0)) ?_ (0, κ) nv_4 hP hS (lv_sub hl [1, 0] rfl)
    intro ⟨j, κ1⟩ hv ih_49 H locs ls hP hS hl
    have hP : zB 32 h D (gC c h (σ) (κ1) (ω)) H := hP
    have hl : lv_has ls 5 [(0, .ref (h (0))), (1, .int (iz ((j : Int))))] := hl
    obtain ⟨hj_j, hv2⟩ : (j ≤ 1000) ∧ (∀ m : Nat, m < j → stsFine σ m ∧ pt σ m = 0) := hv
    refine lv_iload_n hF.1 hF.2.1 dX3_isFineByMinutes_49 rfl (lv_at hl 1 rfl) ?_
    refine zi_sipush hF.1 hF.2.1 dX3_isFineByMinutes_50 (by decide) ?_
    refine zi_icmp_ge (tgt := 80) hF.1 hF.2.1 (a := (j : Int)) (b := 1000) dX3_isFineByMinutes_53 (by decide) (by omega) (by omega) (fun c_53 => ?_) (fun c_53 => ?_)
    · skip
      refine zi_const hF.1 hF.2.1 dX3_isFineByMinutes_80 ?_
      exact z_reti (P := fun z _ => z = b2i (fineM σ)) (z := 1) (u := κ1) (w := fun κ9 => gC c h σ κ9 ω) hF hr hlocks hP hS ((iz_nar_z (by first | omega | exact b2i_rg)).1) ((b2i_t ⟨fun k hk => hv1 k (by omega), fun m hm => hv2 m (by omega)⟩).symm) dX3_isFineByMinutes_81
    · skip
      refine lv_aload_n hF.1 hF.2.1 dX3_isFineByMinutes_56 rfl (lv_at hl 0 rfl) ?_
      refine lv_iload_n hF.1 hF.2.1 dX3_isFineByMinutes_57 rfl (lv_at hl 1 rfl) ?_
      refine z_ci (S := Unit) (w := fun _ => gC c h σ κ1 ω) (P := fun z _ => z = b2i (stsFine σ ((j : Int)))) (z_runV (rm := { frames := 2, cells := 0, slots := 0, locals := 47 }) hF hK hP (c_X3_areStagesFineAt l h D c σ κ1 ω hinj hG ((j : Int)) (by omega) _) (gIn_V mw_418 mw_419 mw_420 mw_86 mw_411) rfl rfl ⟨rfl, by decide, by decide, rfl⟩ ⟨Nat.le_of_ble_eq_true rfl, Nat.le_of_ble_eq_true rfl⟩ (k := 0) (T := TX3) (N := 14) (by omega) rfl (rfl) rfl (As := [.int (iz ((j : Int)))]) (rest := []) rfl hl.1 rfl (Nat.le_of_ble_eq_true rfl) dX3_isFineByMinutes_58 ⟨Nat.le_refl _, Nat.le_refl _⟩) hz hA hS (fun z_5 u_6 H locs hp hP hS => ?_)
      obtain rfl : z_5 = b2i (stsFine σ ((j : Int))) := hp
      refine zi_ifb_eq (tgt := 72) hF.1 hF.2.1 (P := stsFine σ ((j : Int))) dX3_isFineByMinutes_61 (by decide) (fun c_61 => ?_) (fun c_61 => ?_)
      · skip
        refine zi_const hF.1 hF.2.1 dX3_isFineByMinutes_72 ?_
        exact z_reti (P := fun z _ => z = b2i (fineM σ)) (z := 0) (u := κ1) (w := fun κ9 => gC c h σ κ9 ω) hF hr hlocks hP hS ((iz_nar_z (by first | omega | exact b2i_rg)).1) ((b2i_f (fun q => by have q9 := q.2 j (by omega); first | exact c_61 q9.1 | (have q8 := q9.2; omega))).symm) dX3_isFineByMinutes_73
      · skip
        refine lv_aload_n hF.1 hF.2.1 dX3_isFineByMinutes_64 rfl (lv_at hl 0 rfl) ?_
        refine lv_iload_n hF.1 hF.2.1 dX3_isFineByMinutes_65 rfl (lv_at hl 1 rfl) ?_
        refine z_ci (S := Nat → Nat → Int) (w := fun κ9 => gC c h σ κ9 ω) (P := fun z _ => z = pt σ ((j : Int))) (z_runV (rm := { frames := 3, cells := 0, slots := 0, locals := 71 }) hF hK hP (c_X3_brokenAt l h D c σ κ1 ω hinj hG ((j : Int)) (by omega) _) (gIn_V mw_149 mw_150 mw_151 mw_86 mw_148) rfl rfl ⟨rfl, by decide, by decide, rfl⟩ ⟨Nat.le_of_ble_eq_true rfl, Nat.le_of_ble_eq_true rfl⟩ (k := 0) (T := TX3) (N := 14) (by omega) rfl (rfl) rfl (As := [.int (iz ((j : Int)))]) (rest := []) rfl hl.1 rfl (Nat.le_of_ble_eq_true rfl) dX3_isFineByMinutes_66 ⟨Nat.le_refl _, Nat.le_refl _⟩) hz hA hS (fun z_7 u_8 H locs hp hP hS => ?_)
        obtain rfl : z_7 = pt σ ((j : Int)) := hp
        have hP : zB 32 h D (gC c h (σ) (u_8) (ω)) H := hP
        have q_9 := @pt_rg σ ((j : Int))
        refine zi_if_eq (tgt := 74) hF.1 hF.2.1 (a := pt σ ((j : Int))) dX3_isFineByMinutes_69 (by decide) (by omega) (fun c_69 => ?_) (fun c_69 => ?_)
        · skip
          refine lv_iinc (v := iz (((j + 1 : Nat) : Int))) (lv' := [(1, .int (iz (((j + 1 : Nat) : Int)))), (0, .ref (h (0)))]) hF.1 hF.2.1 dX3_isFineByMinutes_74 hl (k := 1) rfl ((iz_add _ _).trans (congrArg iz (by omega))) (by decide) rfl (fun ls hl => ?_)
          refine lv_goto (tgt := 49) hF.1 hF.2.1 dX3_isFineByMinutes_77 (by decide) ?_
          have nv_10 : ((j + 1) ≤ 1000) ∧ (∀ m : Nat, m < (j + 1) → stsFine σ m ∧ pt σ m = 0) := ⟨by omega, lt_s hv2 ⟨c_61, by omega⟩⟩
          exact ih_49 (j + 1, u_8) nv_10 (by show 1001 - (j + 1) < 1001 - j; omega) _ _ _ hP hS (lv_sub hl [1, 0] rfl)
        · skip
          refine zi_const hF.1 hF.2.1 dX3_isFineByMinutes_72 ?_
          exact z_reti (P := fun z _ => z = b2i (fineM σ)) (z := 0) (u := u_8) (w := fun κ9 => gC c h σ κ9 ω) hF hr hlocks hP hS ((iz_nar_z (by first | omega | exact b2i_rg)).1) ((b2i_f (fun q => by have q9 := q.2 j (by omega); first | exact c_61 q9.1 | (have q8 := q9.2; omega))).symm) dX3_isFineByMinutes_73
  · skip
    refine lv_aload_n hF.1 hF.2.1 dX3_isFineByMinutes_15 rfl (lv_at hl 1 rfl) ?_
    refine lv_iload_n hF.1 hF.2.1 dX3_isFineByMinutes_16 rfl (lv_at hl 3 rfl) ?_
    refine z_aald hF hK hP (k := 5) (by decide) rfl 2 rfl (i := (i : Int)) (i) (rfl) (by omega) (by decide) (a := h (i + 11)) rfl dX3_isFineByMinutes_17 ?_
    refine lv_astore (lv' := [(4, .ref (h (i + 11))), (0, .ref (h (0))), (1, .ref (h (5))), (2, .int (iz (16))), (3, .int (iz ((i : Int))))]) hF.1 hF.2.1 dX3_isFineByMinutes_18 hl (by decide) rfl (fun ls hl => ?_)
    refine lv_aload hF.1 hF.2.1 dX3_isFineByMinutes_20 (lv_at hl 0 rfl) ?_
    refine z_getN hF hK hP (k := i + 11) (C := RX0) (T := TX0) (N := 9) (by omega) (gC_act (by omega)) rfl uin_X0 7 (by decide) nw_0 (v := .int (iz (σ 14 i))) rfl dX3_isFineByMinutes_22 ?_
    have q_11 := GI_14 hG (i)
    refine zi_if_eq (tgt := 41) hF.1 hF.2.1 (a := σ 14 i) dX3_isFineByMinutes_25 (by decide) (by omega) (fun c_25 => ?_) (fun c_25 => ?_)
    · skip
      refine lv_iinc (v := iz (((i + 1 : Nat) : Int))) (lv' := [(3, .int (iz (((i + 1 : Nat) : Int)))), (4, .ref (h (i + 11))), (0, .ref (h (0))), (1, .ref (h (5))), (2, .int (iz (16)))]) hF.1 hF.2.1 dX3_isFineByMinutes_41 hl (k := 4) rfl ((iz_add _ _).trans (congrArg iz (by omega))) (by decide) rfl (fun ls hl => ?_)
      refine lv_goto (tgt := 10) hF.1 hF.2.1 dX3_isFineByMinutes_44 (by decide) ?_
      have nv_12 : (((i + 1)) ≤ 16) ∧ (∀ k, k < ((i + 1)) → σ 14 k ≠ 0 → σ 8 k + σ 9 k ≤ 1000) := ⟨by omega, lt_s hv1 (fun q => by omega)⟩
      exact ih_10 (i + 1) nv_12 (by show 17 - ((i + 1)) < 17 - i; omega) _ _ _ hP hS (lv_sub hl [2, 3, 4, 0] rfl)
    · skip
      refine lv_aload hF.1 hF.2.1 dX3_isFineByMinutes_28 (lv_at hl 0 rfl) ?_
      refine z_ci (S := Unit) (w := fun _ => gC c h σ κ ω) (P := fun z _ => z = σ 8 i + σ 9 i) (z_runVN (rm := { frames := 0, cells := 0, slots := 0, locals := 0 }) hF hK hP (c_X0_end l h D c σ κ ω hinj hG i (by omega) _) mw_4 nw_21 mw_13 mw_11 mw_12 rfl rfl ⟨by decide, by decide, rfl⟩ ⟨Nat.le_of_ble_eq_true rfl, Nat.le_of_ble_eq_true rfl⟩ (k := i + 11) (T := TX0) (N := 9) (by omega) rfl (gC_act (by omega)) rfl (As := []) (rest := []) rfl hl.1 rfl (Nat.le_of_ble_eq_true rfl) dX3_isFineByMinutes_30 ⟨Nat.le_refl _, Nat.le_refl _⟩) hz hA hS (fun z_13 u_14 H locs hp hP hS => ?_)
      obtain rfl : z_13 = σ 8 i + σ 9 i := hp
      have q_15 := GI_8 hG i
      have q_16 := GI_9 hG i
      refine zi_sipush hF.1 hF.2.1 dX3_isFineByMinutes_33 (by decide) ?_
      refine zi_icmp_le (tgt := 41) hF.1 hF.2.1 (a := σ 8 i + σ 9 i) (b := 1000) dX3_isFineByMinutes_36 (by decide) (by omega) (by omega) (fun c_36 => ?_) (fun c_36 => ?_)
      · skip
        refine lv_iinc (v := iz (((i + 1 : Nat) : Int))) (lv' := [(3, .int (iz (((i + 1 : Nat) : Int)))), (4, .ref (h (i + 11))), (0, .ref (h (0))), (1, .ref (h (5))), (2, .int (iz (16)))]) hF.1 hF.2.1 dX3_isFineByMinutes_41 hl (k := 4) rfl ((iz_add _ _).trans (congrArg iz (by omega))) (by decide) rfl (fun ls hl => ?_)
        refine lv_goto (tgt := 10) hF.1 hF.2.1 dX3_isFineByMinutes_44 (by decide) ?_
        have nv_17 : (((i + 1)) ≤ 16) ∧ (∀ k, k < ((i + 1)) → σ 14 k ≠ 0 → σ 8 k + σ 9 k ≤ 1000) := ⟨by omega, lt_s hv1 (fun q => by omega)⟩
        exact ih_10 (i + 1) nv_17 (by show 17 - ((i + 1)) < 17 - i; omega) _ _ _ hP hS (lv_sub hl [2, 3, 4, 0] rfl)
      · skip
        refine zi_const hF.1 hF.2.1 dX3_isFineByMinutes_39 ?_
        exact z_reti (P := fun z _ => z = b2i (fineM σ)) (z := 0) (u := κ) (w := fun κ9 => gC c h σ κ9 ω) hF hr hlocks hP hS ((iz_nar_z (by first | omega | exact b2i_rg)).1) ((b2i_f (fun q => by have := q.1 i (by omega) (by omega); omega)).symm) dX3_isFineByMinutes_40

set_option maxRecDepth 100000 in
set_option maxHeartbeats 4000000 in
theorem c_X3_storm (l : Launch) (h : Nat → Nat) (D : va_G) (c : Nat → ClassId) (σ κ : Nat → Nat → Int) (ω : Nat × (Nat → Int32) × Int32) (hinj : ∀ i j, i < 32 → j < 32 → h i = h j → i = j) (hG : GI σ) (sg : Int) (hsg : -2147483648 ≤ sg ∧ sg ≤ 2147483647) (mi : Int) (hmi : -2147483648 ≤ mi ∧ mi ≤ 2147483647) (du : Int) (hdu : -2147483648 ≤ du ∧ du ≤ 2147483647) (hlen : ∀ k, k < 16 → σ 14 k ≠ 0 → 1 ≤ σ 9 k) (hwt : ∀ k, k < 16 → σ 15 k = 0) (hst : l.stackTraces = false) :
    zXi (S := (Nat → Nat → Int) × (Nat → Nat → Int)) l yX3_storm cX3_storm 5 (some .int) 8 145 4 [.ref (h (0)), .int (iz (sg)), .int (iz (mi)), .int (iz (du))] 32 h D (gT c) (gC c h (σ) (κ) (ω)) (fun u9 => gC c h u9.1 u9.2 ω) (fun z u9 => thX σ sg mi du = 0 ∧ (∃ σ1, COF (stC σ sg mi (min (mi + du) 1000)) (σ 0 2).toNat σ1 ∧ GI σ1 ∧ RPn (min (mi + du) 1000) 16 σ1 0 u9.1 z) ∧ GI u9.1) (fun E9 => (E9 = E98 ∧ thX σ sg mi du = 1) ∨ (E9 = E206 ∧ thX σ sg mi du = 2) ∨ (E9 = E67 ∧ thX σ sg mi du = 3)) := by
  refine zXM_of (by decide) (Nat.le_of_ble_eq_true rfl) ?_
  intro p e s m below meth cd ls ⟨hF, hr, hlocks, hK, hexc, hX⟩ hP hl
  have hz : zD (zA 32 h s.heap.size) 32 h := zD.self hinj s.heap.size
  have hA : ∀ q, s.heap.size ≤ q → zA 32 h s.heap.size q := zA_new
  generalize zA 32 h s.heap.size = A at hz hA hX ⊢
  have hS : va_S A s.heap s.heap [] := va_S.rf
  have hl : lv_has ls 5 [(0, .ref (h (0))), (1, .int (iz (sg))), (2, .int (iz (mi))), (3, .int (iz (du)))] := hl
  refine lv_iload_n hF.1 hF.2.1 dX3_storm_0 rfl (lv_at hl 1 rfl) ?_
  have hpx_3 : ∀ E9, (fun E9 => (E9 = E98 ∧ ¬ (0 ≤ sg ∧ sg ≤ 2))) E9 → (fun E9 => (E9 = E98 ∧ thX σ sg mi du = 1) ∨ (E9 = E206 ∧ thX σ sg mi du = 2) ∨ (E9 = E67 ∧ thX σ sg mi du = 3)) E9 := by
    intro E9 hE
    obtain ⟨rfl, q9⟩ := hE
    first | exact Or.inl ⟨rfl, by unfold thX; (repeat' split) <;> omega⟩ | exact Or.inr (Or.inl ⟨rfl, by unfold thX; (repeat' split) <;> omega⟩) | exact Or.inr (Or.inr (⟨rfl, by unfold thX; (repeat' split) <;> omega⟩))
  refine z_xcv (k := 1) (S := Unit) (w := fun _ => gC c h σ κ ω) (P := fun _ => 0 ≤ sg ∧ sg ≤ 2) (PXc := fun E9 => (E9 = E98 ∧ ¬ (0 ≤ sg ∧ sg ≤ 2))) (PX := fun E9 => (E9 = E98 ∧ thX σ sg mi du = 1) ∨ (E9 = E206 ∧ thX σ sg mi du = 2) ∨ (E9 = E67 ∧ thX σ sg mi du = 3)) (z_xrunS (rm := { frames := 6, cells := 1, slots := 6, locals := 82 }) hF hK hX hz hA hP hS (c_X3_requireStage l h D c σ κ ω hinj hG sg (by omega) hst _) (gIn_S mw_108 mw_109 mw_86 mw_96) rfl rfl ⟨rfl, by decide, by decide, rfl⟩ ⟨Nat.le_of_ble_eq_true rfl, Nat.le_of_ble_eq_true rfl⟩ (As := [.int (iz (sg))]) (rest := []) rfl hl.1 rfl (Nat.le_of_ble_eq_true rfl) dX3_storm_1 ⟨(Nat.le_of_ble_eq_true rfl), (Nat.le_of_ble_eq_true rfl)⟩) hz hA hS hexc hlocks (Nat.le_of_ble_eq_true rfl) (Nat.le_of_ble_eq_true rfl) hpx_3 (fun u_1 H locs hp hP hS => ?_)
  have q_4 : 0 ≤ sg ∧ sg ≤ 2 := hp
  refine lv_iload_n hF.1 hF.2.1 dX3_storm_4 rfl (lv_at hl 2 rfl) ?_
  have hpx_7 : ∀ E9, (fun E9 => (E9 = E206 ∧ ¬ (0 ≤ mi ∧ mi ≤ 999))) E9 → (fun E9 => (E9 = E98 ∧ thX σ sg mi du = 1) ∨ (E9 = E206 ∧ thX σ sg mi du = 2) ∨ (E9 = E67 ∧ thX σ sg mi du = 3)) E9 := by
    intro E9 hE
    obtain ⟨rfl, q9⟩ := hE
    first | exact Or.inl ⟨rfl, by unfold thX; (repeat' split) <;> omega⟩ | exact Or.inr (Or.inl ⟨rfl, by unfold thX; (repeat' split) <;> omega⟩) | exact Or.inr (Or.inr (⟨rfl, by unfold thX; (repeat' split) <;> omega⟩))
  refine z_xcv (k := 1) (S := Unit) (w := fun _ => gC c h σ κ ω) (P := fun _ => 0 ≤ mi ∧ mi ≤ 999) (PXc := fun E9 => (E9 = E206 ∧ ¬ (0 ≤ mi ∧ mi ≤ 999))) (PX := fun E9 => (E9 = E98 ∧ thX σ sg mi du = 1) ∨ (E9 = E206 ∧ thX σ sg mi du = 2) ∨ (E9 = E67 ∧ thX σ sg mi du = 3)) (z_xrunS (rm := { frames := 7, cells := 1, slots := 6, locals := 104 }) hF hK hX hz hA hP hS (c_X3_requireMinute l h D c σ κ ω hinj hG mi (by omega) hst _) (gIn_S mw_94 mw_95 mw_86 mw_83) rfl rfl ⟨rfl, by decide, by decide, rfl⟩ ⟨Nat.le_of_ble_eq_true rfl, Nat.le_of_ble_eq_true rfl⟩ (As := [.int (iz (mi))]) (rest := []) rfl hl.1 rfl (Nat.le_of_ble_eq_true rfl) dX3_storm_5 ⟨(Nat.le_of_ble_eq_true rfl), (Nat.le_of_ble_eq_true rfl)⟩) hz hA hS hexc hlocks (Nat.le_of_ble_eq_true rfl) (Nat.le_of_ble_eq_true rfl) hpx_7 (fun u_5 H locs hp hP hS => ?_)
  have q_8 : 0 ≤ mi ∧ mi ≤ 999 := hp
  refine lv_iload_n hF.1 hF.2.1 dX3_storm_8 rfl (lv_at hl 3 rfl) ?_
  refine zi_const hF.1 hF.2.1 dX3_storm_9 ?_
  refine zi_sipush hF.1 hF.2.1 dX3_storm_10 (by decide) ?_
  have hpx_11 : ∀ E9, (fun E9 => (E9 = E206 ∧ ¬ (1 ≤ du ∧ du ≤ 200))) E9 → (fun E9 => (E9 = E98 ∧ thX σ sg mi du = 1) ∨ (E9 = E206 ∧ thX σ sg mi du = 2) ∨ (E9 = E67 ∧ thX σ sg mi du = 3)) E9 := by
    intro E9 hE
    obtain ⟨rfl, q9⟩ := hE
    first | exact Or.inl ⟨rfl, by unfold thX; (repeat' split) <;> omega⟩ | exact Or.inr (Or.inl ⟨rfl, by unfold thX; (repeat' split) <;> omega⟩) | exact Or.inr (Or.inr (⟨rfl, by unfold thX; (repeat' split) <;> omega⟩))
  refine z_xcv (k := 1) (S := Unit) (w := fun _ => gC c h σ κ ω) (P := fun _ => 1 ≤ du ∧ du ≤ 200) (PXc := fun E9 => (E9 = E206 ∧ ¬ (1 ≤ du ∧ du ≤ 200))) (PX := fun E9 => (E9 = E98 ∧ thX σ sg mi du = 1) ∨ (E9 = E206 ∧ thX σ sg mi du = 2) ∨ (E9 = E67 ∧ thX σ sg mi du = 3)) (z_xrunS (rm := { frames := 6, cells := 1, slots := 6, locals := 82 }) hF hK hX hz hA hP hS (c_X3_requireRange l h D c σ κ ω hinj hG du (by omega) 1 (by omega) 200 (by omega) hst _) (gIn_S mw_84 mw_85 mw_86 mw_80) rfl rfl ⟨rfl, by decide, by decide, rfl⟩ ⟨Nat.le_of_ble_eq_true rfl, Nat.le_of_ble_eq_true rfl⟩ (As := [.int (iz (du)), .int (iz (1)), .int (iz (200))]) (rest := []) rfl hl.1 rfl (Nat.le_of_ble_eq_true rfl) dX3_storm_13 ⟨(Nat.le_of_ble_eq_true rfl), (Nat.le_of_ble_eq_true rfl)⟩) hz hA hS hexc hlocks (Nat.le_of_ble_eq_true rfl) (Nat.le_of_ble_eq_true rfl) hpx_11 (fun u_9 H locs hp hP hS => ?_)
  have q_12 : 1 ≤ du ∧ du ≤ 200 := hp
  refine lv_aload_n hF.1 hF.2.1 dX3_storm_16 rfl (lv_at hl 0 rfl) ?_
  refine z_get hF hK hP (k := 0) (C := RX3) (T := TX3) (N := 14) (by omega) (rfl) rfl uin_X3 9 (by decide) mw_398 (v := .int (iz (σ 0 2))) rfl dX3_storm_17 ?_
  have q_13 := GI_02 hG
  refine zi_const hF.1 hF.2.1 dX3_storm_20 ?_
  refine zi_icmp_lt (tgt := 34) hF.1 hF.2.1 (a := σ 0 2) (b := 5) dX3_storm_21 (by decide) (by omega) (by omega) (fun c_21 => ?_) (fun c_21 => ?_)
  · skip
    refine lv_aload_n hF.1 hF.2.1 dX3_storm_34 rfl (lv_at hl 0 rfl) ?_
    refine z_get hF hK hP (k := 0) (C := RX3) (T := TX3) (N := 14) (by omega) (rfl) rfl uin_X3 8 (by decide) mw_66 (v := .ref (h (7))) rfl dX3_storm_35 ?_
    refine lv_aload_n hF.1 hF.2.1 dX3_storm_38 rfl (lv_at hl 0 rfl) ?_
    refine z_get hF hK hP (k := 0) (C := RX3) (T := TX3) (N := 14) (by omega) (rfl) rfl uin_X3 9 (by decide) mw_398 (v := .int (iz (σ 0 2))) rfl dX3_storm_39 ?_
    have q_14 := GI_02 hG
    refine z_aald hF hK hP (k := 7) (by decide) rfl 3 rfl (i := σ 0 2) ((σ 0 2).toNat) ((Int.toNat_of_nonneg (by omega)).symm) (by omega) (by decide) (a := h ((σ 0 2).toNat + 27)) rfl dX3_storm_42 ?_
    refine lv_astore (lv' := [(4, .ref (h ((σ 0 2).toNat + 27))), (0, .ref (h (0))), (1, .int (iz (sg))), (2, .int (iz (mi))), (3, .int (iz (du)))]) hF.1 hF.2.1 dX3_storm_43 hl (by decide) rfl (fun ls hl => ?_)
    refine lv_aload_n hF.1 hF.2.1 dX3_storm_45 rfl (lv_at hl 1 rfl) ?_
    refine lv_dup hF.1 hF.2.1 dX3_storm_46 rfl ?_
    refine z_get hF hK hP (k := 0) (C := RX3) (T := TX3) (N := 14) (by omega) (rfl) rfl uin_X3 9 (by decide) mw_398 (v := .int (iz (σ 0 2))) rfl dX3_storm_47 ?_
    have q_15 := GI_02 hG
    refine zi_const hF.1 hF.2.1 dX3_storm_50 ?_
    refine zi_add hF.1 hF.2.1 dX3_storm_51 ?_
    refine z_put hF hK hz hP hS (k := 0) (C := RX3) (T := TX3) (N := 14) (by omega) (rfl) rfl uin_X3 tyX3_ok nmX3 9 (by decide) mw_398 rfl (⟨rfl, rfl⟩) (by simp) (g' := gC c h (u2 (σ) 0 2 ((σ 0 2) + 1)) (κ) (ω)) (rfl) (gC_sc_o) dX3_storm_52 (fun H locs hP hS => ?_)
    have hG_16 := GI_u02 hG (v := (σ 0 2) + 1) (by omega)
    refine lv_aload hF.1 hF.2.1 dX3_storm_55 (lv_at hl 0 rfl) ?_
    refine lv_iload_n hF.1 hF.2.1 dX3_storm_57 rfl (lv_at hl 2 rfl) ?_
    refine z_putN hF hK hz hP hS (k := (σ 0 2).toNat + 27) (C := RX1) (T := TX1) (N := 3) (by omega) (gC_storm) rfl uin_X1 tyX1_ok nmX1 0 (by decide) nw_5 rfl (⟨rfl, rfl⟩) (by simp) (g' := gC c h (u2 (u2 (σ) 0 2 ((σ 0 2) + 1)) 16 ((σ 0 2).toNat) (sg)) (κ) (ω)) (by rw [gC_storm]; simp [u2]) (gC_storm_o ⟨by decide, by decide⟩) dX3_storm_58 (fun H locs hP hS => ?_)
    have hG_17 := GI_u16 hG_16 (v := sg) (k := (σ 0 2).toNat) (by omega)
    refine lv_aload hF.1 hF.2.1 dX3_storm_61 (lv_at hl 0 rfl) ?_
    refine lv_iload_n hF.1 hF.2.1 dX3_storm_63 rfl (lv_at hl 3 rfl) ?_
    refine z_putN hF hK hz hP hS (k := (σ 0 2).toNat + 27) (C := RX1) (T := TX1) (N := 3) (by omega) (gC_storm) rfl uin_X1 tyX1_ok nmX1 1 (by decide) nw_6 rfl (⟨rfl, rfl⟩) (by simp) (g' := gC c h (u2 (u2 (u2 (σ) 0 2 ((σ 0 2) + 1)) 16 ((σ 0 2).toNat) (sg)) 17 ((σ 0 2).toNat) (mi)) (κ) (ω)) (by rw [gC_storm]; simp [u2]) (gC_storm_o ⟨by decide, by decide⟩) dX3_storm_64 (fun H locs hP hS => ?_)
    have hG_18 := GI_u17 hG_17 (v := mi) (k := (σ 0 2).toNat) (by omega)
    refine lv_aload hF.1 hF.2.1 dX3_storm_67 (lv_at hl 0 rfl) ?_
    refine lv_iload_n hF.1 hF.2.1 dX3_storm_69 rfl (lv_at hl 3 rfl) ?_
    refine lv_iload_n hF.1 hF.2.1 dX3_storm_70 rfl (lv_at hl 4 rfl) ?_
    refine zi_add hF.1 hF.2.1 dX3_storm_71 ?_
    refine zi_sipush hF.1 hF.2.1 dX3_storm_72 (by decide) ?_
    refine zi_min hF hl.1 mw_159 mw_16 mw_17 mw_18 (Nat.le_of_ble_eq_true rfl) (Nat.le_of_ble_eq_true rfl) (Nat.le_of_ble_eq_true rfl) (Nat.le_of_ble_eq_true rfl) (a := mi + du) (b := 1000) (by omega) (by omega) dX3_storm_75 ?_
    refine z_putN hF hK hz hP hS (k := (σ 0 2).toNat + 27) (C := RX1) (T := TX1) (N := 3) (by omega) (gC_storm) rfl uin_X1 tyX1_ok nmX1 2 (by decide) nw_7 rfl (⟨rfl, rfl⟩) (by simp) (g' := gC c h (u2 (u2 (u2 (u2 (σ) 0 2 ((σ 0 2) + 1)) 16 ((σ 0 2).toNat) (sg)) 17 ((σ 0 2).toNat) (mi)) 18 ((σ 0 2).toNat) (min (mi + du) (1000))) (κ) (ω)) (by rw [gC_storm]; simp [u2]) (gC_storm_o ⟨by decide, by decide⟩) dX3_storm_78 (fun H locs hP hS => ?_)
    have hG_19 := GI_u18 hG_18 (v := min (mi + du) (1000)) (k := (σ 0 2).toNat) (by omega)
    refine lv_aload_n hF.1 hF.2.1 dX3_storm_81 rfl (lv_at hl 1 rfl) ?_
    refine lv_aload hF.1 hF.2.1 dX3_storm_82 (lv_at hl 0 rfl) ?_
    refine z_cv (S := Nat → Nat → Int) (w := fun σ9 => gC c h σ9 κ ω) (P := fun σ9 => COF (u2 (u2 (u2 (u2 (σ) 0 2 ((σ 0 2) + 1)) 16 ((σ 0 2).toNat) (sg)) 17 ((σ 0 2).toNat) (mi)) 18 ((σ 0 2).toNat) (min (mi + du) (1000))) ((σ 0 2).toNat) σ9 ∧ GI σ9) (z_runV (rm := { frames := 2, cells := 0, slots := 0, locals := 41 }) hF hK hP (c_X3_callOff l h D c (u2 (u2 (u2 (u2 (σ) 0 2 ((σ 0 2) + 1)) 16 ((σ 0 2).toNat) (sg)) 17 ((σ 0 2).toNat) (mi)) 18 ((σ 0 2).toNat) (min (mi + du) (1000))) κ ω hinj hG_19 ((σ 0 2).toNat) (by omega) _) (gIn_V mw_399 mw_400 mw_401 mw_86 mw_392) rfl rfl ⟨rfl, by decide, by decide, rfl⟩ ⟨Nat.le_of_ble_eq_true rfl, Nat.le_of_ble_eq_true rfl⟩ (k := 0) (T := TX3) (N := 14) (by omega) rfl (rfl) rfl (As := [.ref (h ((σ 0 2).toNat + 27))]) (rest := []) rfl hl.1 rfl (Nat.le_of_ble_eq_true rfl) dX3_storm_84 ⟨Nat.le_of_ble_eq_true rfl, Nat.le_of_ble_eq_true rfl⟩) hz hA hS (fun u_20 H locs hp hP hS => ?_)
    have hco : COF (u2 (u2 (u2 (u2 (σ) 0 2 ((σ 0 2) + 1)) 16 ((σ 0 2).toNat) (sg)) 17 ((σ 0 2).toNat) (mi)) 18 ((σ 0 2).toNat) (min (mi + du) (1000))) ((σ 0 2).toNat) u_20 := hp.1
    have hG_21 : GI u_20 := hp.2
    have hP : zB 32 h D (gC c h (u_20) (κ) (ω)) H := hP
    refine lv_aload_n hF.1 hF.2.1 dX3_storm_87 rfl (lv_at hl 1 rfl) ?_
    refine lv_aload hF.1 hF.2.1 dX3_storm_88 (lv_at hl 0 rfl) ?_
    refine z_getN hF hK hP (k := (σ 0 2).toNat + 27) (C := RX1) (T := TX1) (N := 3) (by omega) (gC_storm) rfl uin_X1 2 (by decide) nw_7 (v := .int (iz ((u_20) 18 ((σ 0 2).toNat)))) rfl dX3_storm_90 ?_
    have q_22 := GI_18 hG_21 ((σ 0 2).toNat)
    have hend : u_20 18 (σ 0 2).toNat = min (mi + du) 1000 := by rw [hco.1 18 (by decide) (by decide), u2_at]
    rw [hend]
    have hl0_ : ∀ k, k < 16 → u_20 15 k ≠ 0 → 1 ≤ u_20 9 k := fun k hk q => by have q1 := (hco.2 k hk).2; rw [u2_row (by decide), u2_row (by decide), u2_row (by decide), u2_row (by decide), u2_row (by decide), u2_row (by decide), u2_row (by decide), u2_row (by decide)] at q1; rw [hco.1 9 (by decide) (by decide), u2_row (by decide), u2_row (by decide), u2_row (by decide), u2_row (by decide)]; exact hlen k hk (fun q2 => q (by rw [q1, ie_f (fun q3 => q3.1 q2)]; exact hwt k hk))
    refine z_ci (S := (Nat → Nat → Int) × (Nat → Nat → Int)) (w := fun u9 => gC c h u9.1 u9.2 ω) (P := fun z u9 => RPn (min (mi + du) 1000) 16 u_20 0 u9.1 z ∧ GI u9.1) (z_runV (rm := { frames := 5, cells := 0, slots := 0, locals := 121 }) hF hK hP (c_X3_replan l h D c u_20 κ ω hinj hG_21 (min (mi + du) 1000) (by omega) (hl0_) _) (gIn_V mw_402 mw_403 mw_404 mw_86 mw_397) rfl rfl ⟨rfl, by decide, by decide, rfl⟩ ⟨Nat.le_of_ble_eq_true rfl, Nat.le_of_ble_eq_true rfl⟩ (k := 0) (T := TX3) (N := 14) (by omega) rfl (rfl) rfl (As := [.int (iz (min (mi + du) 1000))]) (rest := []) rfl hl.1 rfl (Nat.le_of_ble_eq_true rfl) dX3_storm_93 ⟨Nat.le_of_ble_eq_true rfl, Nat.le_of_ble_eq_true rfl⟩) hz hA hS (fun z_23 u_24 H locs hp hP hS => ?_)
    obtain ⟨σ_u_24, κ_u_24⟩ := u_24
    have hrp : RPn (min (mi + du) 1000) 16 u_20 0 σ_u_24 z_23 := hp.1
    have hGr : GI σ_u_24 := hp.2
    have hP : zB 32 h D (gC c h (σ_u_24) (κ_u_24) (ω)) H := hP
    exact z_xreti (S := (Nat → Nat → Int) × (Nat → Nat → Int)) (P := fun z u9 => thX σ sg mi du = 0 ∧ (∃ σ1, COF (stC σ sg mi (min (mi + du) 1000)) (σ 0 2).toNat σ1 ∧ GI σ1 ∧ RPn (min (mi + du) 1000) 16 σ1 0 u9.1 z) ∧ GI u9.1) (z := z_23) (u := (σ_u_24, κ_u_24)) (w := fun u9 => gC c h u9.1 u9.2 ω) hF hr hlocks hP hS (Nat.le_of_ble_eq_true rfl) (Nat.le_of_ble_eq_true rfl) (rfl) (⟨by unfold thX; (repeat' split) <;> omega, ⟨_, hco, hG_21, hrp⟩, hGr⟩) dX3_storm_96
  · skip
    have hpx_25 : (fun E9 => (E9 = E98 ∧ thX σ sg mi du = 1) ∨ (E9 = E206 ∧ thX σ sg mi du = 2) ∨ (E9 = E67 ∧ thX σ sg mi du = 3)) E67 := by show _; first | exact Or.inl ⟨rfl, by unfold thX; (repeat' split) <;> omega⟩ | exact Or.inr (Or.inl ⟨rfl, by unfold thX; (repeat' split) <;> omega⟩) | exact Or.inr (Or.inr (⟨rfl, by unfold thX; (repeat' split) <;> omega⟩))
    exact z_throw (PX := fun E9 => (E9 = E98 ∧ thX σ sg mi du = 1) ∨ (E9 = E206 ∧ thX σ sg mi du = 2) ∨ (E9 = E67 ∧ thX σ sg mi du = 3)) (cls := E67) (text := "all storms have been") hF hK hX hexc hlocks hst hP hS hl.1 (by decide) mw_88 mw_89 tx_67a tx_67b (by decide) rfl dX3_storm_24 dX3_storm_27 dX3_storm_28 dX3_storm_30 dX3_storm_33 ⟨(Nat.le_of_ble_eq_true rfl), (Nat.le_of_ble_eq_true rfl), Nat.le_refl _, Nat.le_refl _⟩ (Nat.le_of_ble_eq_true rfl) (Nat.le_of_ble_eq_true rfl) hpx_25
