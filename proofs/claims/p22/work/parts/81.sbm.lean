/-! the word: its builder's methods -/
set_option maxRecDepth 100000 in
set_option maxHeartbeats 4000000 in
theorem c_J5_isLatin1 (l : Launch) (h : Nat → Nat) (D : va_G) (c : Nat → ClassId) (σ κ : Nat → Nat → Int) (ω : Nat × (Nat → Int32) × Int32) (hinj : ∀ i j, i < 32 → j < 32 → h i = h j → i = j) :
    zSi (S := Unit) l yJ5_isLatin1_aae02 cJ5_isLatin1_aae02 1 (some .boolean) 0 0 0 [.ref (h 6)] 32 h D (gT c) (gC c h σ κ ω) (fun _ => gC c h σ κ ω) (fun z _ => z = 1) := by
  refine zSM_of (by decide) (Nat.le_of_ble_eq_true rfl) ?_
  intro p e s m below meth cd ls ⟨hF, hr, hlocks, hK, hX⟩ hP hl
  have hz : zD (zA 32 h s.heap.size) 32 h := zD.self hinj s.heap.size
  have hA : ∀ q, s.heap.size ≤ q → zA 32 h s.heap.size q := zA_new
  generalize zA 32 h s.heap.size = A at hz hA hX ⊢
  have hS : va_S A s.heap s.heap [] := va_S.rf
  have hl : lv_has ls 1 [(0, .ref (h 6))] := hl
  refine z_compact hF hX hS mw_43 dJ5_isLatin1_aae02_0 ?_
  refine zi_if_eq (tgt := 17) hF.1 hF.2.1 (a := 1) dJ5_isLatin1_aae02_3 (by decide) (by omega) (fun c_3 => absurd c_3 (by decide)) (fun c_3 => ?_)
  refine lv_aload_n hF.1 hF.2.1 dJ5_isLatin1_aae02_6 rfl (lv_at hl 0 rfl) ?_
  refine z_get hF hK hP (k := 6) (C := RJ4) (T := TJ4) (N := 4) (by omega) (rfl) rfl uin_J4 1 (by decide) mw_45 (v := .int (iz 0)) rfl dJ5_isLatin1_aae02_7 ?_
  refine zi_if_ne (tgt := 17) hF.1 hF.2.1 (a := 0) dJ5_isLatin1_aae02_10 (by decide) (by omega) (fun c_10 => absurd rfl c_10) (fun c_10 => ?_)
  refine zi_const hF.1 hF.2.1 dJ5_isLatin1_aae02_13 ?_
  refine lv_goto (tgt := 18) hF.1 hF.2.1 dJ5_isLatin1_aae02_14 (by decide) ?_
  exact z_sreti (K := 0) (P := fun z _ => z = 1) (z := 1) (u := ()) (w := fun _ => gC c h σ κ ω) hF hr hlocks hP hS (Nat.le_refl _) (Nat.le_refl _) (by decide) rfl dJ5_isLatin1_aae02_18

set_option maxRecDepth 100000 in
set_option maxHeartbeats 4000000 in
theorem c_J1_canEncode (l : Launch) (h : Nat → Nat) (D : va_G) (c : Nat → ClassId) (σ κ : Nat → Nat → Int) (ω : Nat × (Nat → Int32) × Int32) (hinj : ∀ i j, i < 32 → j < 32 → h i = h j → i = j) (ch : Int) (hch : 97 ≤ ch ∧ ch ≤ 122) :
    zMi (S := Unit) l yJ1_canEncode_fc78d cJ1_canEncode_fc78d 1 (some .boolean) 0 0 [.int (iz ch)] 32 h D (gT c) (gC c h σ κ ω) (fun _ => gC c h σ κ ω) (fun z _ => z = 1) := by
  refine zM_of (by decide) (Nat.le_of_ble_eq_true rfl) ?_
  intro p e s m below meth cd ls ⟨hF, hr, hlocks, hK⟩ hP hl
  have hz : zD (zA 32 h s.heap.size) 32 h := zD.self hinj s.heap.size
  have hA : ∀ q, s.heap.size ≤ q → zA 32 h s.heap.size q := zA_new
  generalize zA 32 h s.heap.size = A at hz hA ⊢
  have hS : va_S A s.heap s.heap [] := va_S.rf
  have hl : lv_has ls 1 [(0, .int (iz ch))] := hl
  refine lv_iload_n hF.1 hF.2.1 dJ1_canEncode_fc78d_0 rfl (lv_at hl 0 rfl) ?_
  refine zi_sipush hF.1 hF.2.1 dJ1_canEncode_fc78d_1 (by decide) ?_
  refine zi_icmp_gt (tgt := 11) hF.1 hF.2.1 (a := ch) (b := 255) dJ1_canEncode_fc78d_4 (by decide) (by omega) (by omega) (fun c_4 => by omega) (fun c_4 => ?_)
  refine zi_const hF.1 hF.2.1 dJ1_canEncode_fc78d_7 ?_
  refine lv_goto (tgt := 12) hF.1 hF.2.1 dJ1_canEncode_fc78d_8 (by decide) ?_
  exact z_reti (P := fun z _ => z = 1) (z := 1) (u := ()) (w := fun _ => gC c h σ κ ω) hF hr hlocks hP hS (by decide) rfl dJ1_canEncode_fc78d_12

set_option maxRecDepth 100000 in
set_option maxHeartbeats 4000000 in
theorem c_J5_ensure (l : Launch) (h : Nat → Nat) (D : va_G) (c : Nat → ClassId) (σ κ : Nat → Nat → Int) (ω : Nat × (Nat → Int32) × Int32) (hinj : ∀ i j, i < 32 → j < 32 → h i = h j → i = j) (q : Int) (hq : 0 ≤ q ∧ q ≤ 16) :
    zSv (S := Unit) l yJ5_ensureCapacityInternal_d00df cJ5_ensureCapacityInternal_d00df 3 none 0 0 0 [.ref (h 6), .int (iz q)] 32 h D (gT c) (gC c h σ κ ω) (fun _ => gC c h σ κ ω) (fun _ => True) := by
  refine zSM_of (by decide) (Nat.le_of_ble_eq_true rfl) ?_
  intro p e s m below meth cd ls ⟨hF, hr, hlocks, hK, hX⟩ hP hl
  have hz : zD (zA 32 h s.heap.size) 32 h := zD.self hinj s.heap.size
  have hA : ∀ q, s.heap.size ≤ q → zA 32 h s.heap.size q := zA_new
  generalize zA 32 h s.heap.size = A at hz hA hX ⊢
  have hS : va_S A s.heap s.heap [] := va_S.rf
  have hl : lv_has ls 3 [(0, .ref (h 6)), (1, .int (iz q))] := hl
  refine lv_aload_n hF.1 hF.2.1 dJ5_ensureCapacityInternal_d00df_0 rfl (lv_at hl 0 rfl) ?_
  refine z_get hF hK hP (k := 6) (C := RJ4) (T := TJ4) (N := 4) (by omega) (rfl) rfl uin_J4 0 (by decide) mw_44 (v := .ref (h 10)) rfl dJ5_ensureCapacityInternal_d00df_1 ?_
  refine z_alen hF hK hP (k := 10) (by omega) rfl 1 rfl (z := 16) rfl dJ5_ensureCapacityInternal_d00df_4 ?_
  refine lv_aload_n hF.1 hF.2.1 dJ5_ensureCapacityInternal_d00df_5 rfl (lv_at hl 0 rfl) ?_
  refine z_get hF hK hP (k := 6) (C := RJ4) (T := TJ4) (N := 4) (by omega) (rfl) rfl uin_J4 1 (by decide) mw_45 (v := .int (iz 0)) rfl dJ5_ensureCapacityInternal_d00df_6 ?_
  refine zi_ishr hF.1 hF.2.1 (a := 16) (b := 0) dJ5_ensureCapacityInternal_d00df_9 ?_
  rw [show isr 16 0 = 16 from by decide]
  refine lv_istore_n (lv' := [(2, .int (iz 16)), (0, .ref (h 6)), (1, .int (iz q))]) hF.1 hF.2.1 dJ5_ensureCapacityInternal_d00df_10 rfl hl (by decide) rfl (fun ls hl => ?_)
  refine lv_iload_n hF.1 hF.2.1 dJ5_ensureCapacityInternal_d00df_11 rfl (lv_at hl 2 rfl) ?_
  refine lv_iload_n hF.1 hF.2.1 dJ5_ensureCapacityInternal_d00df_12 rfl (lv_at hl 0 rfl) ?_
  refine zi_sub hF.1 hF.2.1 dJ5_ensureCapacityInternal_d00df_13 ?_
  refine zi_if_le (tgt := 38) hF.1 hF.2.1 (a := q - 16) dJ5_ensureCapacityInternal_d00df_14 (by decide) (by omega) (fun c_14 => ?_) (fun c_14 => by omega)
  exact z_sretv (K := 0) (P := fun _ => True) (u := ()) (w := fun _ => gC c h σ κ ω) hF hr hlocks hP hS (Nat.le_refl _) (Nat.le_refl _) trivial dJ5_ensureCapacityInternal_d00df_38

set_option maxRecDepth 100000 in
set_option maxHeartbeats 4000000 in
theorem c_J5_append (l : Launch) (h : Nat → Nat) (D : va_G) (c : Nat → ClassId) (σ κ : Nat → Nat → Int) (ω : Nat × (Nat → Int32) × Int32) (hinj : ∀ i j, i < 32 → j < 32 → h i = h j → i = j) (ch : Int) (hch : 97 ≤ ch ∧ ch ≤ 122) (hn : ω.1 < 6) :
    zSq (S := Unit) l yJ5_append_3fe6f cJ5_append_3fe6f 2 (some (.object "java/lang/AbstractStringBuilder")) 1 22 0 [.ref (h 6), .int (iz ch)] 32 h D (gT c) (gC c h σ κ ω) (fun _ => gC c h σ κ (ω.1 + 1, upd ω.2.1 ω.1 (iz ch), ω.2.2)) (fun r _ => r = some 6) := by
  refine zSM_of (by decide) (Nat.le_of_ble_eq_true rfl) ?_
  intro p e s m below meth cd ls ⟨hF, hr, hlocks, hK, hX⟩ hP hl
  have hz : zD (zA 32 h s.heap.size) 32 h := zD.self hinj s.heap.size
  have hA : ∀ q, s.heap.size ≤ q → zA 32 h s.heap.size q := zA_new
  generalize zA 32 h s.heap.size = A at hz hA hX ⊢
  have hS : va_S A s.heap s.heap [] := va_S.rf
  have hl : lv_has ls 2 [(0, .ref (h 6)), (1, .int (iz ch))] := hl
  refine lv_aload_n hF.1 hF.2.1 dJ5_append_3fe6f_0 rfl (lv_at hl 0 rfl) ?_
  refine lv_aload_n hF.1 hF.2.1 dJ5_append_3fe6f_1 rfl (lv_at hl 0 rfl) ?_
  refine z_get hF hK hP (k := 6) (C := RJ4) (T := TJ4) (N := 4) (by omega) (rfl) rfl uin_J4 3 (by decide) mw_192 (v := .int (nI ω.1)) rfl dJ5_append_3fe6f_2 ?_
  rw [iz_nI]
  refine zi_const hF.1 hF.2.1 dJ5_append_3fe6f_5 ?_
  refine zi_add hF.1 hF.2.1 dJ5_append_3fe6f_6 ?_
  refine z_cvK (S := Unit) (w := fun _ => gC c h σ κ ω) (P := fun _ => True) (z_srunU (C := RJ4) (rm := { frames := 0, cells := 0, slots := 0, locals := 0 }) hF hK hX hz hA hP hS (c_J5_ensure l h D c σ κ ω hinj ((ω.1 : Int) + 1) (by omega) _) mw_273 sm_ensure (va_tabs rfl rfl hX.2.2.2.2.1) mw_276 mw_51 mw_227 rfl rfl ⟨by decide, by decide, rfl⟩ ⟨(Nat.le_of_ble_eq_true rfl), (Nat.le_of_ble_eq_true rfl)⟩ (k := 6) (T := TJ4) (N := 4) (by omega) rfl rfl rfl (As := [.int (iz ((ω.1 : Int) + 1))]) (rest := []) rfl hl.1 rfl (Nat.le_of_ble_eq_true rfl) dJ5_append_3fe6f_7 ⟨(Nat.le_of_ble_eq_true rfl), (Nat.le_of_ble_eq_true rfl)⟩) hz hA hS (fun u_7 H locs hp hP hS => ?_)
  refine lv_aload_n hF.1 hF.2.1 dJ5_append_3fe6f_10 rfl (lv_at hl 0 rfl) ?_
  refine z_ciK (S := Unit) (w := fun _ => gC c h σ κ ω) (P := fun z _ => z = 1) (z_srunU (C := RJ4) (rm := { frames := 0, cells := 0, slots := 0, locals := 0 }) hF hK hX hz hA hP hS (c_J5_isLatin1 l h D c σ κ ω hinj _) mw_255 sm_isLatin1 (hF.2.2.2.2 _ se_isLatin1) mw_258 mw_51 mw_228 rfl rfl ⟨by decide, by decide, rfl⟩ ⟨(Nat.le_of_ble_eq_true rfl), (Nat.le_of_ble_eq_true rfl)⟩ (k := 6) (T := TJ4) (N := 4) (by omega) rfl rfl rfl (As := []) (rest := []) rfl hl.1 rfl (Nat.le_of_ble_eq_true rfl) dJ5_append_3fe6f_11 ⟨(Nat.le_of_ble_eq_true rfl), (Nat.le_of_ble_eq_true rfl)⟩) hz hA hS (fun z_11 u_11 H locs hp hP hS => ?_)
  obtain rfl : z_11 = 1 := hp
  refine zi_if_eq (tgt := 45) hF.1 hF.2.1 (a := 1) dJ5_append_3fe6f_14 (by decide) (by omega) (fun c_14 => absurd c_14 (by decide)) (fun c_14 => ?_)
  refine lv_iload_n hF.1 hF.2.1 dJ5_append_3fe6f_17 rfl (lv_at hl 1 rfl) ?_
  refine z_ciK (S := Unit) (w := fun _ => gC c h σ κ ω) (P := fun z _ => z = 1) (z_runSO (na := 1) (rm := { frames := 0, cells := 0, slots := 0, locals := 0 }) hF hK hP (c_J1_canEncode l h D c σ κ ω hinj ch hch _) mw_277 mw_278 mw_261 mw_229 rfl rfl ⟨by decide, by decide, rfl⟩ ⟨(Nat.le_of_ble_eq_true rfl), (Nat.le_of_ble_eq_true rfl)⟩ (As := [.int (iz ch)]) (rest := []) rfl hl.1 rfl (Nat.le_of_ble_eq_true rfl) dJ5_append_3fe6f_18 ⟨(Nat.le_of_ble_eq_true rfl), (Nat.le_of_ble_eq_true rfl)⟩) hz hA hS (fun z_18 u_18 H locs hp hP hS => ?_)
  obtain rfl : z_18 = 1 := hp
  refine zi_if_eq (tgt := 45) hF.1 hF.2.1 (a := 1) dJ5_append_3fe6f_21 (by decide) (by omega) (fun c_21 => absurd c_21 (by decide)) (fun c_21 => ?_)
  refine lv_aload_n hF.1 hF.2.1 dJ5_append_3fe6f_24 rfl (lv_at hl 0 rfl) ?_
  refine z_get hF hK hP (k := 6) (C := RJ4) (T := TJ4) (N := 4) (by omega) (rfl) rfl uin_J4 0 (by decide) mw_44 (v := .ref (h 10)) rfl dJ5_append_3fe6f_25 ?_
  refine lv_aload_n hF.1 hF.2.1 dJ5_append_3fe6f_28 rfl (lv_at hl 0 rfl) ?_
  refine lv_dup hF.1 hF.2.1 dJ5_append_3fe6f_29 rfl ?_
  refine z_get hF hK hP (k := 6) (C := RJ4) (T := TJ4) (N := 4) (by omega) (rfl) rfl uin_J4 3 (by decide) mw_192 (v := .int (nI ω.1)) rfl dJ5_append_3fe6f_30 ?_
  rw [iz_nI]
  refine lv_dup_x1 hF.1 hF.2.1 dJ5_append_3fe6f_33 rfl rfl ?_
  refine zi_const hF.1 hF.2.1 dJ5_append_3fe6f_34 ?_
  refine zi_add hF.1 hF.2.1 dJ5_append_3fe6f_35 ?_
  refine z_put hF hK hz hP hS (k := 6) (C := RJ4) (T := TJ4) (N := 4) (by omega) (rfl) rfl uin_J4 tyJ4_ok nmJ4 3 (by decide) mw_192 rfl ⟨rfl, rfl⟩ (Nat.le_of_ble_eq_true rfl) (g' := gC c h σ κ (ω.1 + 1, ω.2.1, ω.2.2)) rfl (fun i hi hne => ?_) dJ5_append_3fe6f_36 (fun H locs hP hS => ?_)
  · skip
    rcases Classical.em (i = 10) with q | q
    · rw [q]; rfl
    · exact gC_w_o i hi hne q
  have hP : zB 32 h D (gC c h σ κ (ω.1 + 1, ω.2.1, ω.2.2)) H := hP
  refine lv_iload_n hF.1 hF.2.1 dJ5_append_3fe6f_39 rfl (lv_at hl 1 rfl) ?_
  refine lv_i2b hF.1 hF.2.1 dJ5_append_3fe6f_40 (iz_byte (by omega)) ?_
  refine z_bast hF hK hz hP hS (k := 10) (by omega) rfl 1 rfl ω.1 rfl (by omega) (by omega) (by rw [vp_nar_byte]; exact iz_byte (by omega)) (g' := gC c h σ κ (ω.1 + 1, upd ω.2.1 ω.1 (iz ch), ω.2.2)) rfl (fun i hi hne => ?_) dJ5_append_3fe6f_41 (fun H locs hP hS => ?_)
  · skip
    rcases Classical.em (i = 6) with q | q
    · rw [q]; rfl
    · exact gC_w_o i hi q hne
  refine lv_goto (tgt := 75) hF.1 hF.2.1 dJ5_append_3fe6f_42 (by decide) ?_
  refine lv_aload_n hF.1 hF.2.1 dJ5_append_3fe6f_75 rfl (lv_at hl 0 rfl) ?_
  exact z_sretq (K := 0) (P := fun r _ => r = some 6) (r := some 6) (u := ()) (w := fun _ => gC c h σ κ (ω.1 + 1, upd ω.2.1 ω.1 (iz ch), ω.2.2)) hF hr hlocks hP hS (Nat.le_refl _) (Nat.le_refl _) rfl rfl dJ5_append_3fe6f_76

set_option maxRecDepth 100000 in
set_option maxHeartbeats 4000000 in
theorem c_J4_append (l : Launch) (h : Nat → Nat) (D : va_G) (c : Nat → ClassId) (σ κ : Nat → Nat → Int) (ω : Nat × (Nat → Int32) × Int32) (hinj : ∀ i j, i < 32 → j < 32 → h i = h j → i = j) (ch : Int) (hch : 97 ≤ ch ∧ ch ≤ 122) (hn : ω.1 < 6) :
    zSq (S := Unit) l yJ4_append_cf468 cJ4_append_cf468 2 (some (.object "java/lang/StringBuilder")) 2 43 0 [.ref (h 6), .int (iz ch)] 32 h D (gT c) (gC c h σ κ ω) (fun _ => gC c h σ κ (ω.1 + 1, upd ω.2.1 ω.1 (iz ch), ω.2.2)) (fun r _ => r = some 6) := by
  refine zSM_of (by decide) (Nat.le_of_ble_eq_true rfl) ?_
  intro p e s m below meth cd ls ⟨hF, hr, hlocks, hK, hX⟩ hP hl
  have hz : zD (zA 32 h s.heap.size) 32 h := zD.self hinj s.heap.size
  have hA : ∀ q, s.heap.size ≤ q → zA 32 h s.heap.size q := zA_new
  generalize zA 32 h s.heap.size = A at hz hA hX ⊢
  have hS : va_S A s.heap s.heap [] := va_S.rf
  have hl : lv_has ls 2 [(0, .ref (h 6)), (1, .int (iz ch))] := hl
  refine lv_aload_n hF.1 hF.2.1 dJ4_append_cf468_0 rfl (lv_at hl 0 rfl) ?_
  refine lv_iload_n hF.1 hF.2.1 dJ4_append_cf468_1 rfl (lv_at hl 1 rfl) ?_
  refine z_cqK (S := Unit) (w := fun _ => gC c h σ κ (ω.1 + 1, upd ω.2.1 ω.1 (iz ch), ω.2.2)) (P := fun r _ => r = some 6) (z_srunSU (rm := { frames := 1, cells := 0, slots := 0, locals := 22 }) hF hK hX hz hA hP hS (c_J5_append l h D c σ κ ω hinj ch hch hn _) (gIn_SU mw_286 sm_app sm_sup mw_288 mw_51 mw_285) rfl rfl ⟨by decide, rfl⟩ ⟨(Nat.le_of_ble_eq_true rfl), (Nat.le_of_ble_eq_true rfl)⟩ (k := 6) (T := TJ4) (N := 4) (by omega) rfl rfl rfl (As := [.int (iz ch)]) (rest := []) rfl hl.1 rfl (Nat.le_of_ble_eq_true rfl) dJ4_append_cf468_2 ⟨(Nat.le_of_ble_eq_true rfl), (Nat.le_of_ble_eq_true rfl)⟩) hz hA hS (fun r_2 u_2 H locs hp hP hS => ?_)
  obtain rfl : r_2 = some 6 := hp
  refine lv_pop hF.1 hF.2.1 dJ4_append_cf468_5 rfl ?_
  refine lv_aload_n hF.1 hF.2.1 dJ4_append_cf468_6 rfl (lv_at hl 0 rfl) ?_
  exact z_sretq (K := 0) (P := fun r _ => r = some 6) (r := some 6) (u := ()) (w := fun _ => gC c h σ κ (ω.1 + 1, upd ω.2.1 ω.1 (iz ch), ω.2.2)) hF hr hlocks hP hS (Nat.le_refl _) (Nat.le_refl _) rfl rfl dJ4_append_cf468_7

set_option maxRecDepth 100000 in
set_option maxHeartbeats 4000000 in
theorem c_J5_setLength (l : Launch) (h : Nat → Nat) (D : va_G) (c : Nat → ClassId) (σ κ : Nat → Nat → Int) (ω : Nat × (Nat → Int32) × Int32) (hinj : ∀ i j, i < 32 → j < 32 → h i = h j → i = j) (hn : ω.1 ≤ 6) :
    zSv (S := Int32) l yJ5_setLength_d00df cJ5_setLength_d00df 2 none 1 22 0 [.ref (h 6), .int (iz 0)] 32 h D (gT c) (gC c h σ κ ω) (fun f => gC c h σ κ (0, ω.2.1, f)) (fun _ => True) := by
  refine zSM_of (by decide) (Nat.le_of_ble_eq_true rfl) ?_
  intro p e s m below meth cd ls ⟨hF, hr, hlocks, hK, hX⟩ hP hl
  have hz : zD (zA 32 h s.heap.size) 32 h := zD.self hinj s.heap.size
  have hA : ∀ q, s.heap.size ≤ q → zA 32 h s.heap.size q := zA_new
  generalize zA 32 h s.heap.size = A at hz hA hX ⊢
  have hS : va_S A s.heap s.heap [] := va_S.rf
  have hl : lv_has ls 2 [(0, .ref (h 6)), (1, .int (iz 0))] := hl
  refine lv_iload_n hF.1 hF.2.1 dJ5_setLength_d00df_0 rfl (lv_at hl 1 rfl) ?_
  refine zi_if_ge (tgt := 13) hF.1 hF.2.1 (a := 0) dJ5_setLength_d00df_1 (by decide) (by omega) (fun c_1 => ?_) (fun c_1 => absurd c_1 (by decide))
  refine lv_aload_n hF.1 hF.2.1 dJ5_setLength_d00df_13 rfl (lv_at hl 0 rfl) ?_
  refine lv_iload_n hF.1 hF.2.1 dJ5_setLength_d00df_14 rfl (lv_at hl 1 rfl) ?_
  refine z_cvK (S := Unit) (w := fun _ => gC c h σ κ ω) (P := fun _ => True) (z_srunU (C := RJ4) (rm := { frames := 0, cells := 0, slots := 0, locals := 0 }) hF hK hX hz hA hP hS (c_J5_ensure l h D c σ κ ω hinj (0) (by omega) _) mw_273 sm_ensure (va_tabs rfl rfl hX.2.2.2.2.1) mw_276 mw_51 mw_227 rfl rfl ⟨by decide, by decide, rfl⟩ ⟨(Nat.le_of_ble_eq_true rfl), (Nat.le_of_ble_eq_true rfl)⟩ (k := 6) (T := TJ4) (N := 4) (by omega) rfl rfl rfl (As := [.int (iz (0))]) (rest := []) rfl hl.1 rfl (Nat.le_of_ble_eq_true rfl) dJ5_setLength_d00df_15 ⟨(Nat.le_of_ble_eq_true rfl), (Nat.le_of_ble_eq_true rfl)⟩) hz hA hS (fun u_15 H locs hp hP hS => ?_)
  refine lv_aload_n hF.1 hF.2.1 dJ5_setLength_d00df_18 rfl (lv_at hl 0 rfl) ?_
  refine z_get hF hK hP (k := 6) (C := RJ4) (T := TJ4) (N := 4) (by omega) (rfl) rfl uin_J4 3 (by decide) mw_192 (v := .int (nI ω.1)) rfl dJ5_setLength_d00df_19 ?_
  rw [iz_nI]
  refine lv_iload_n hF.1 hF.2.1 dJ5_setLength_d00df_22 rfl (lv_at hl 1 rfl) ?_
  refine zi_icmp_ge (tgt := 63) hF.1 hF.2.1 (a := (ω.1 : Int)) (b := 0) dJ5_setLength_d00df_23 (by decide) (by omega) (by omega) (fun c_23 => ?_) (fun c_23 => by omega)
  refine lv_aload_n hF.1 hF.2.1 dJ5_setLength_d00df_63 rfl (lv_at hl 0 rfl) ?_
  refine z_get hF hK hP (k := 6) (C := RJ4) (T := TJ4) (N := 4) (by omega) (rfl) rfl uin_J4 3 (by decide) mw_192 (v := .int (nI ω.1)) rfl dJ5_setLength_d00df_64 ?_
  rw [iz_nI]
  refine lv_iload_n hF.1 hF.2.1 dJ5_setLength_d00df_67 rfl (lv_at hl 1 rfl) ?_
  have fin : ∀ (f : Int32) (H : Heap) (locs : List Loc) (ls : Array Slot), zB 32 h D (gC c h σ κ (ω.1, ω.2.1, f)) H → va_S A s.heap H locs → lv_has ls 2 [(0, .ref (h 6)), (1, .int (iz 0))] → W p l e { frames := 1, cells := 0, slots := 6 * 0, locals := 22 } s m [Value.ref (h 6), .int (iz 0)].toArray below meth cd H locs 0 0 (MQ below (va_Qv (fun u : Int32 => True) (fun u t => zB 32 h D (gC c h σ κ (0, ω.2.1, u)) t.heap) A) [Value.ref (h 6), .int (iz 0)].toArray s 0 (6 * 0) A) (F0 m 76 ls []) := by
    intro f H locs ls hP hS hl
    refine lv_aload_n hF.1 hF.2.1 dJ5_setLength_d00df_76 rfl (lv_at hl 0 rfl) ?_
    refine lv_iload_n hF.1 hF.2.1 dJ5_setLength_d00df_77 rfl (lv_at hl 1 rfl) ?_
    refine z_put hF hK hz hP hS (k := 6) (C := RJ4) (T := TJ4) (N := 4) (by omega) (rfl) rfl uin_J4 tyJ4_ok nmJ4 3 (by decide) mw_192 rfl ⟨rfl, rfl⟩ (Nat.le_of_ble_eq_true rfl) (g' := gC c h σ κ (0, ω.2.1, f)) rfl (fun i hi hne => ?_) dJ5_setLength_d00df_78 (fun H locs hP hS => ?_)
    · skip
      rcases Classical.em (i = 10) with q | q
      · rw [q]; rfl
      · exact gC_w_o i hi hne q
    exact z_sretv (K := 0) (P := fun _ => True) (u := f) (w := fun f => gC c h σ κ (0, ω.2.1, f)) hF hr hlocks hP hS (Nat.le_refl _) (Nat.le_refl _) trivial dJ5_setLength_d00df_81
  refine zi_icmp_le (tgt := 76) hF.1 hF.2.1 (a := (ω.1 : Int)) (b := 0) dJ5_setLength_d00df_68 (by decide) (by omega) (by omega) (fun c_68 => fin ω.2.2 _ _ _ hP hS hl) (fun c_68 => ?_)
  refine lv_aload_n hF.1 hF.2.1 dJ5_setLength_d00df_71 rfl (lv_at hl 0 rfl) ?_
  refine zi_const hF.1 hF.2.1 dJ5_setLength_d00df_72 ?_
  refine z_put hF hK hz hP hS (k := 6) (C := RJ4) (T := TJ4) (N := 4) (by omega) (rfl) rfl uin_J4 tyJ4_ok nmJ4 2 (by decide) mw_313 rfl (by decide) (Nat.le_of_ble_eq_true rfl) (g' := gC c h σ κ (ω.1, ω.2.1, iz 1)) rfl (fun i hi hne => ?_) dJ5_setLength_d00df_73 (fun H locs hP hS => fin (iz 1) _ _ _ hP hS hl)
  rcases Classical.em (i = 10) with q | q
  · rw [q]; rfl
  · exact gC_w_o i hi hne q

set_option maxRecDepth 100000 in
set_option maxHeartbeats 4000000 in
theorem c_J4_setLength (l : Launch) (h : Nat → Nat) (D : va_G) (c : Nat → ClassId) (σ κ : Nat → Nat → Int) (ω : Nat × (Nat → Int32) × Int32) (hinj : ∀ i j, i < 32 → j < 32 → h i = h j → i = j) (hn : ω.1 ≤ 6) :
    zSv (S := Int32) l yJ4_setLength_d00df cJ4_setLength_d00df 2 none 2 43 0 [.ref (h 6), .int (iz 0)] 32 h D (gT c) (gC c h σ κ ω) (fun f => gC c h σ κ (0, ω.2.1, f)) (fun _ => True) := by
  refine zSM_of (by decide) (Nat.le_of_ble_eq_true rfl) ?_
  intro p e s m below meth cd ls ⟨hF, hr, hlocks, hK, hX⟩ hP hl
  have hz : zD (zA 32 h s.heap.size) 32 h := zD.self hinj s.heap.size
  have hA : ∀ q, s.heap.size ≤ q → zA 32 h s.heap.size q := zA_new
  generalize zA 32 h s.heap.size = A at hz hA hX ⊢
  have hS : va_S A s.heap s.heap [] := va_S.rf
  have hl : lv_has ls 2 [(0, .ref (h 6)), (1, .int (iz 0))] := hl
  refine lv_aload_n hF.1 hF.2.1 dJ4_setLength_d00df_0 rfl (lv_at hl 0 rfl) ?_
  refine lv_iload_n hF.1 hF.2.1 dJ4_setLength_d00df_1 rfl (lv_at hl 1 rfl) ?_
  refine z_cvK (S := Int32) (w := fun f => gC c h σ κ (0, ω.2.1, f)) (P := fun _ => True) (z_srunSU (rm := { frames := 1, cells := 0, slots := 0, locals := 22 }) hF hK hX hz hA hP hS (c_J5_setLength l h D c σ κ ω hinj hn _) (gIn_SU mw_319 sm_set sm_sup mw_321 mw_51 mw_318) rfl rfl ⟨by decide, rfl⟩ ⟨(Nat.le_of_ble_eq_true rfl), (Nat.le_of_ble_eq_true rfl)⟩ (k := 6) (T := TJ4) (N := 4) (by omega) rfl rfl rfl (As := [.int (iz 0)]) (rest := []) rfl hl.1 rfl (Nat.le_of_ble_eq_true rfl) dJ4_setLength_d00df_2 ⟨(Nat.le_of_ble_eq_true rfl), (Nat.le_of_ble_eq_true rfl)⟩) hz hA hS (fun u_2 H locs hp hP hS => ?_)
  exact z_sretv (K := 0) (P := fun _ => True) (u := u_2) (w := fun f => gC c h σ κ (0, ω.2.1, f)) hF hr hlocks hP hS (Nat.le_refl _) (Nat.le_refl _) trivial dJ4_setLength_d00df_5
