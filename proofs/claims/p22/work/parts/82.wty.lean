/-! type and wipe -/
set_option maxRecDepth 100000 in
set_option maxHeartbeats 4000000 in
theorem c_X3_wipe (l : Launch) (h : Nat → Nat) (D : va_G) (c : Nat → ClassId) (σ κ : Nat → Nat → Int) (ω : Nat × (Nat → Int32) × Int32) (hinj : ∀ i j, i < 32 → j < 32 → h i = h j → i = j) (hn : ω.1 ≤ 6) :
    zSi (S := Int32) l yX3_wipe cX3_wipe 2 (some .int) 3 64 0 [.ref (h 0)] 32 h D (gT c) (gC c h σ κ ω) (fun f => gC c h σ κ (0, ω.2.1, f)) (fun z _ => z = (ω.1 : Int)) := by
  refine zSM_of (by decide) (Nat.le_of_ble_eq_true rfl) ?_
  intro p e s m below meth cd ls ⟨hF, hr, hlocks, hK, hX⟩ hP hl
  have hz : zD (zA 32 h s.heap.size) 32 h := zD.self hinj s.heap.size
  have hA : ∀ q, s.heap.size ≤ q → zA 32 h s.heap.size q := zA_new
  generalize zA 32 h s.heap.size = A at hz hA hX ⊢
  have hS : va_S A s.heap s.heap [] := va_S.rf
  have hl : lv_has ls 2 [(0, .ref (h 0))] := hl
  refine lv_aload_n hF.1 hF.2.1 dX3_wipe_0 rfl (lv_at hl 0 rfl) ?_
  refine z_get hF hK hP (k := 0) (C := RX3) (T := TX3) (N := 14) (by omega) (rfl) rfl uin_X3 7 (by decide) mw_64 (v := .ref (h 6)) rfl dX3_wipe_1 ?_
  refine z_ci (S := Unit) (w := fun _ => gC c h σ κ ω) (P := fun z _ => z = ((ω).1 : Int)) (z_runV (rm := { frames := 1, cells := 0, slots := 0, locals := 20 }) hF hK hP (c_J4_length l h D c σ κ ω hinj _) (gIn_V mw_290 mw_291 mw_292 mw_63 mw_193) rfl rfl ⟨rfl, by decide, by decide, rfl⟩ ⟨(Nat.le_of_ble_eq_true rfl), (Nat.le_of_ble_eq_true rfl)⟩ (k := 6) (T := TJ4) (N := 4) (by omega) rfl rfl rfl (As := []) (rest := []) rfl hl.1 rfl (Nat.le_of_ble_eq_true rfl) dX3_wipe_4 ⟨(Nat.le_of_ble_eq_true rfl), (Nat.le_of_ble_eq_true rfl)⟩) hz hA hS (fun z_4 u_4 H locs hp hP hS => ?_)
  obtain rfl : z_4 = (ω.1 : Int) := hp
  refine lv_istore_n (lv' := [(1, .int (iz (ω.1 : Int))), (0, .ref (h 0))]) hF.1 hF.2.1 dX3_wipe_7 rfl hl (by decide) rfl (fun ls hl => ?_)
  refine lv_aload_n hF.1 hF.2.1 dX3_wipe_8 rfl (lv_at hl 1 rfl) ?_
  refine z_get hF hK hP (k := 0) (C := RX3) (T := TX3) (N := 14) (by omega) (rfl) rfl uin_X3 7 (by decide) mw_64 (v := .ref (h 6)) rfl dX3_wipe_9 ?_
  refine zi_const hF.1 hF.2.1 dX3_wipe_12 ?_
  refine z_cvK (S := Int32) (w := fun f => gC c h σ κ (0, ω.2.1, f)) (P := fun _ => True) (z_srunV (rm := { frames := 2, cells := 0, slots := 0, locals := 43 }) hF hK hX hz hA hP hS (c_J4_setLength l h D c σ κ ω hinj hn _) (gIn_V mw_323 mw_324 mw_325 mw_63 mw_322) rfl rfl ⟨rfl, by decide, by decide, rfl⟩ ⟨(Nat.le_of_ble_eq_true rfl), (Nat.le_of_ble_eq_true rfl)⟩ (k := 6) (T := TJ4) (N := 4) (by omega) rfl rfl rfl (As := [.int (iz 0)]) (rest := []) rfl hl.1 rfl (Nat.le_of_ble_eq_true rfl) dX3_wipe_13 ⟨(Nat.le_of_ble_eq_true rfl), (Nat.le_of_ble_eq_true rfl)⟩) hz hA hS (fun u_13 H locs hp hP hS => ?_)
  refine lv_iload_n hF.1 hF.2.1 dX3_wipe_16 rfl (lv_at hl 0 rfl) ?_
  exact z_sreti (K := 0) (P := fun z _ => z = (ω.1 : Int)) (z := (ω.1 : Int)) (u := u_13) (w := fun f => gC c h σ κ (0, ω.2.1, f)) hF hr hlocks hP hS (Nat.le_refl _) (Nat.le_refl _) rfl rfl dX3_wipe_17

set_option maxRecDepth 100000 in
set_option maxHeartbeats 4000000 in
theorem c_X3_type (l : Launch) (h : Nat → Nat) (D : va_G) (c : Nat → ClassId) (σ κ : Nat → Nat → Int) (ω : Nat × (Nat → Int32) × Int32) (hinj : ∀ i j, i < 32 → j < 32 → h i = h j → i = j) (hG : GI σ) (ch : Int) (hch : -2147483648 ≤ ch ∧ ch ≤ 2147483647) (hn : ω.1 ≤ 6) (hst : l.stackTraces = false) :
    zXi (S := Unit) l yX3_type cX3_type 2 (some .int) 7 104 2 [.ref (h 0), .int (iz ch)] 32 h D (gT c) (gC c h σ κ ω) (fun _ => gC c h σ κ (ω.1 + 1, upd ω.2.1 ω.1 (iz ch), ω.2.2)) (fun z _ => (97 ≤ ch ∧ ch ≤ 122) ∧ ω.1 < 6 ∧ z = (ω.1 : Int) + 1) (fun E9 => (E9 = E206 ∧ ¬ (97 ≤ ch ∧ ch ≤ 122)) ∨ (E9 = E67 ∧ (97 ≤ ch ∧ ch ≤ 122) ∧ ω.1 = 6)) := by
  refine zXM_of (by decide) (Nat.le_of_ble_eq_true rfl) ?_
  intro p e s m below meth cd ls ⟨hF, hr, hlocks, hK, hexc, hX⟩ hP hl
  have hz : zD (zA 32 h s.heap.size) 32 h := zD.self hinj s.heap.size
  have hA : ∀ q, s.heap.size ≤ q → zA 32 h s.heap.size q := zA_new
  generalize zA 32 h s.heap.size = A at hz hA hX ⊢
  have hS : va_S A s.heap s.heap [] := va_S.rf
  have hl : lv_has ls 2 [(0, .ref (h 0)), (1, .int (iz ch))] := hl
  refine lv_iload_n hF.1 hF.2.1 dX3_type_0 rfl (lv_at hl 1 rfl) ?_
  refine zi_bipush hF.1 hF.2.1 dX3_type_1 (by decide) ?_
  refine zi_bipush hF.1 hF.2.1 dX3_type_3 (by decide) ?_
  have hpx_1 : ∀ E9, (fun E9 => (E9 = E206 ∧ ¬ (97 ≤ ch ∧ ch ≤ 122))) E9 → (fun E9 => (E9 = E206 ∧ ¬ (97 ≤ ch ∧ ch ≤ 122)) ∨ (E9 = E67 ∧ (97 ≤ ch ∧ ch ≤ 122) ∧ ω.1 = 6)) E9 := fun E9 hE => Or.inl hE
  refine z_xcv (k := 1) (S := Unit) (w := fun _ => gC c h σ κ ω) (P := fun _ => 97 ≤ ch ∧ ch ≤ 122) (PXc := fun E9 => (E9 = E206 ∧ ¬ (97 ≤ ch ∧ ch ≤ 122))) (PX := fun E9 => (E9 = E206 ∧ ¬ (97 ≤ ch ∧ ch ≤ 122)) ∨ (E9 = E67 ∧ (97 ≤ ch ∧ ch ≤ 122) ∧ ω.1 = 6)) (z_xrunS (rm := { frames := 6, cells := 1, slots := 6, locals := 82 }) hF hK hX hz hA hP hS (c_X3_requireRange l h D c σ κ ω hinj hG ch (by omega) 97 (by omega) 122 (by omega) hst _) (gIn_S mw_84 mw_85 mw_86 mw_80) rfl rfl ⟨rfl, by decide, by decide, rfl⟩ ⟨(Nat.le_of_ble_eq_true rfl), (Nat.le_of_ble_eq_true rfl)⟩ (As := [.int (iz (ch)), .int (iz (97)), .int (iz (122))]) (rest := []) rfl hl.1 rfl (Nat.le_of_ble_eq_true rfl) dX3_type_5 ⟨(Nat.le_of_ble_eq_true rfl), (Nat.le_of_ble_eq_true rfl)⟩) hz hA hS hexc hlocks (Nat.le_of_ble_eq_true rfl) (Nat.le_of_ble_eq_true rfl) hpx_1 (fun u_5 H locs hp hP hS => ?_)
  have hc : 97 ≤ ch ∧ ch ≤ 122 := hp
  refine lv_aload_n hF.1 hF.2.1 dX3_type_8 rfl (lv_at hl 0 rfl) ?_
  refine z_get hF hK hP (k := 0) (C := RX3) (T := TX3) (N := 14) (by omega) (rfl) rfl uin_X3 7 (by decide) mw_64 (v := .ref (h 6)) rfl dX3_type_9 ?_
  refine z_ci (S := Unit) (w := fun _ => gC c h σ κ ω) (P := fun z _ => z = ((ω).1 : Int)) (z_runV (rm := { frames := 1, cells := 0, slots := 0, locals := 20 }) hF hK hP (c_J4_length l h D c σ κ ω hinj _) (gIn_V mw_290 mw_291 mw_292 mw_63 mw_193) rfl rfl ⟨rfl, by decide, by decide, rfl⟩ ⟨(Nat.le_of_ble_eq_true rfl), (Nat.le_of_ble_eq_true rfl)⟩ (k := 6) (T := TJ4) (N := 4) (by omega) rfl rfl rfl (As := []) (rest := []) rfl hl.1 rfl (Nat.le_of_ble_eq_true rfl) dX3_type_12 ⟨(Nat.le_of_ble_eq_true rfl), (Nat.le_of_ble_eq_true rfl)⟩) hz hA hS (fun z_12 u_12 H locs hp hP hS => ?_)
  obtain rfl : z_12 = (ω.1 : Int) := hp
  refine zi_bipush hF.1 hF.2.1 dX3_type_15 (by decide) ?_
  refine zi_icmp_lt (tgt := 30) hF.1 hF.2.1 (a := (ω.1 : Int)) (b := 6) dX3_type_17 (by decide) (by omega) (by omega) (fun c_17 => ?_) (fun c_17 => ?_)
  · skip
    refine lv_aload_n hF.1 hF.2.1 dX3_type_30 rfl (lv_at hl 0 rfl) ?_
    refine z_get hF hK hP (k := 0) (C := RX3) (T := TX3) (N := 14) (by omega) (rfl) rfl uin_X3 7 (by decide) mw_64 (v := .ref (h 6)) rfl dX3_type_31 ?_
    refine lv_iload_n hF.1 hF.2.1 dX3_type_34 rfl (lv_at hl 1 rfl) ?_
    refine z_cqK (S := Unit) (w := fun _ => gC c h σ κ (ω.1 + 1, upd ω.2.1 ω.1 (iz ch), ω.2.2)) (P := fun r _ => r = some 6) (z_srunV (rm := { frames := 2, cells := 0, slots := 0, locals := 43 }) hF hK hX hz hA hP hS (c_J4_append l h D c σ κ ω hinj ch hc (by omega) _) (gIn_V mw_293 mw_294 mw_295 mw_63 mw_289) rfl rfl ⟨rfl, by decide, by decide, rfl⟩ ⟨(Nat.le_of_ble_eq_true rfl), (Nat.le_of_ble_eq_true rfl)⟩ (k := 6) (T := TJ4) (N := 4) (by omega) rfl rfl rfl (As := [.int (iz ch)]) (rest := []) rfl hl.1 rfl (Nat.le_of_ble_eq_true rfl) dX3_type_35 ⟨(Nat.le_of_ble_eq_true rfl), (Nat.le_of_ble_eq_true rfl)⟩) hz hA hS (fun r_35 u_35 H locs hp hP hS => ?_)
    obtain rfl : r_35 = some 6 := hp
    refine lv_pop hF.1 hF.2.1 dX3_type_38 rfl ?_
    refine lv_aload_n hF.1 hF.2.1 dX3_type_39 rfl (lv_at hl 0 rfl) ?_
    refine z_get hF hK hP (k := 0) (C := RX3) (T := TX3) (N := 14) (by omega) (rfl) rfl uin_X3 7 (by decide) mw_64 (v := .ref (h 6)) rfl dX3_type_40 ?_
    refine z_ci (S := Unit) (w := fun _ => gC c h σ κ (ω.1 + 1, upd ω.2.1 ω.1 (iz ch), ω.2.2)) (P := fun z _ => z = (((ω.1 + 1, upd ω.2.1 ω.1 (iz ch), ω.2.2)).1 : Int)) (z_runV (rm := { frames := 1, cells := 0, slots := 0, locals := 20 }) hF hK hP (c_J4_length l h D c σ κ (ω.1 + 1, upd ω.2.1 ω.1 (iz ch), ω.2.2) hinj _) (gIn_V mw_290 mw_291 mw_292 mw_63 mw_193) rfl rfl ⟨rfl, by decide, by decide, rfl⟩ ⟨(Nat.le_of_ble_eq_true rfl), (Nat.le_of_ble_eq_true rfl)⟩ (k := 6) (T := TJ4) (N := 4) (by omega) rfl rfl rfl (As := []) (rest := []) rfl hl.1 rfl (Nat.le_of_ble_eq_true rfl) dX3_type_43 ⟨(Nat.le_of_ble_eq_true rfl), (Nat.le_of_ble_eq_true rfl)⟩) hz hA hS (fun z_43 u_43 H locs hp hP hS => ?_)
    obtain rfl : z_43 = ((ω.1 + 1 : Nat) : Int) := hp
    exact z_xreti (S := Unit) (P := fun z _ => (97 ≤ ch ∧ ch ≤ 122) ∧ ω.1 < 6 ∧ z = (ω.1 : Int) + 1) (z := ((ω.1 + 1 : Nat) : Int)) (u := ()) (w := fun _ => gC c h σ κ (ω.1 + 1, upd ω.2.1 ω.1 (iz ch), ω.2.2)) hF hr hlocks hP hS (Nat.le_of_ble_eq_true rfl) (Nat.le_of_ble_eq_true rfl) rfl ⟨hc, by omega, by omega⟩ dX3_type_46
  · skip
    have hpx_2 : (fun E9 => (E9 = E206 ∧ ¬ (97 ≤ ch ∧ ch ≤ 122)) ∨ (E9 = E67 ∧ (97 ≤ ch ∧ ch ≤ 122) ∧ ω.1 = 6)) E67 := Or.inr ⟨rfl, hc, by omega⟩
    exact z_throw (PX := fun E9 => (E9 = E206 ∧ ¬ (97 ≤ ch ∧ ch ≤ 122)) ∨ (E9 = E67 ∧ (97 ≤ ch ∧ ch ≤ 122) ∧ ω.1 = 6)) (cls := E67) (text := "the word is full") hF hK hX hexc hlocks hst hP hS hl.1 (by decide) mw_88 mw_89 tx_67a tx_67b (by decide) rfl dX3_type_20 dX3_type_23 dX3_type_24 dX3_type_26 dX3_type_29 ⟨(Nat.le_of_ble_eq_true rfl), (Nat.le_of_ble_eq_true rfl), Nat.le_refl _, Nat.le_refl _⟩ (Nat.le_of_ble_eq_true rfl) (Nat.le_of_ble_eq_true rfl) hpx_2
