set_option maxRecDepth 100000 in
set_option maxHeartbeats 4000000 in
theorem c_X0_end (l : Launch) (h : Nat → Nat) (D : va_G) (c : Nat → ClassId) (σ κ : Nat → Nat → Int) (ω : Nat × (Nat → Int32) × Int32) (hinj : ∀ i j, i < 32 → j < 32 → h i = h j → i = j) (hG : GI σ) (k : Nat) (hk : k < 16) :
    zMi (S := Unit) l yX0_end cX0_end 1 (some .int) 0 0 [.ref (h (k + 11))] 32 h D (gT c) (gC c h (σ) (κ) (ω)) (fun _ => gC c h σ κ ω) (fun z _ => z = σ 8 k + σ 9 k) := by
  refine zM_of (by decide) (Nat.le_of_ble_eq_true rfl) ?_
  intro p e s m below meth cd ls ⟨hF, hr, hlocks, hK⟩ hP hl
  have hz : zD (zA 32 h s.heap.size) 32 h := zD.self hinj s.heap.size
  have hA : ∀ q, s.heap.size ≤ q → zA 32 h s.heap.size q := zA_new
  generalize zA 32 h s.heap.size = A at hz hA ⊢
  have hS : va_S A s.heap s.heap [] := va_S.rf
  have hl : lv_has ls 1 [(0, .ref (h (k + 11)))] := hl
  refine lv_aload_n hF.1 hF.2.1 dX0_end_0 rfl (lv_at hl 0 rfl) ?_
  refine z_get hF hK hP (k := k + 11) (C := RX0) (T := TX0) (N := 9) (by omega) (gC_act (by omega)) rfl uin_X0 1 (by decide) mw_5 (v := .int (iz (σ 8 k))) rfl dX0_end_1 ?_
  have q_1 := GI_8 hG (k)
  refine lv_aload_n hF.1 hF.2.1 dX0_end_4 rfl (lv_at hl 0 rfl) ?_
  refine z_get hF hK hP (k := k + 11) (C := RX0) (T := TX0) (N := 9) (by omega) (gC_act (by omega)) rfl uin_X0 2 (by decide) mw_6 (v := .int (iz (σ 9 k))) rfl dX0_end_5 ?_
  have q_2 := GI_9 hG (k)
  refine zi_add hF.1 hF.2.1 dX0_end_8 ?_
  exact z_reti (P := fun z _ => z = σ 8 k + σ 9 k) (z := (σ 8 k) + (σ 9 k)) (u := ()) (w := fun _ => gC c h σ κ ω) hF hr hlocks hP hS (rfl) (rfl) dX0_end_9

set_option maxRecDepth 100000 in
set_option maxHeartbeats 4000000 in
theorem c_X0_playsAt (l : Launch) (h : Nat → Nat) (D : va_G) (c : Nat → ClassId) (σ κ : Nat → Nat → Int) (ω : Nat × (Nat → Int32) × Int32) (hinj : ∀ i j, i < 32 → j < 32 → h i = h j → i = j) (hG : GI σ) (k : Nat) (hk : k < 16) (mi : Int) (hm : -100 ≤ mi ∧ mi ≤ 5000) :
    zMi (S := Unit) l yX0_playsAt cX0_playsAt 2 (some .boolean) 0 0 [.ref (h (k + 11)), .int (iz (mi))] 32 h D (gT c) (gC c h (σ) (κ) (ω)) (fun _ => gC c h σ κ ω) (fun z _ => z = b2i (pl σ k mi)) := by
  refine zM_of (by decide) (Nat.le_of_ble_eq_true rfl) ?_
  intro p e s m below meth cd ls ⟨hF, hr, hlocks, hK⟩ hP hl
  have hz : zD (zA 32 h s.heap.size) 32 h := zD.self hinj s.heap.size
  have hA : ∀ q, s.heap.size ≤ q → zA 32 h s.heap.size q := zA_new
  generalize zA 32 h s.heap.size = A at hz hA ⊢
  have hS : va_S A s.heap s.heap [] := va_S.rf
  have hl : lv_has ls 2 [(0, .ref (h (k + 11))), (1, .int (iz (mi)))] := hl
  refine lv_aload_n hF.1 hF.2.1 dX0_playsAt_0 rfl (lv_at hl 0 rfl) ?_
  refine z_get hF hK hP (k := k + 11) (C := RX0) (T := TX0) (N := 9) (by omega) (gC_act (by omega)) rfl uin_X0 7 (by decide) mw_8 (v := .int (iz (σ 14 k))) rfl dX0_playsAt_1 ?_
  have q_1 := GI_14 hG (k)
  refine zi_if_eq (tgt := 32) hF.1 hF.2.1 (a := σ 14 k) dX0_playsAt_4 (by decide) (by omega) (fun c_4 => ?_) (fun c_4 => ?_)
  · skip
    refine zi_const hF.1 hF.2.1 dX0_playsAt_32 ?_
    exact z_reti (P := fun z _ => z = b2i (pl σ k mi)) (z := 0) (u := ()) (w := fun _ => gC c h σ κ ω) hF hr hlocks hP hS ((iz_nar_z (by first | omega | exact b2i_rg)).1) (by first | exact (b2i_t (by unfold pl; omega)).symm | exact (b2i_f (by unfold pl; omega)).symm) dX0_playsAt_33
  · skip
    refine lv_iload_n hF.1 hF.2.1 dX0_playsAt_7 rfl (lv_at hl 1 rfl) ?_
    refine lv_aload_n hF.1 hF.2.1 dX0_playsAt_8 rfl (lv_at hl 0 rfl) ?_
    refine z_get hF hK hP (k := k + 11) (C := RX0) (T := TX0) (N := 9) (by omega) (gC_act (by omega)) rfl uin_X0 1 (by decide) mw_5 (v := .int (iz (σ 8 k))) rfl dX0_playsAt_9 ?_
    have q_2 := GI_8 hG (k)
    refine zi_icmp_lt (tgt := 32) hF.1 hF.2.1 (a := mi) (b := σ 8 k) dX0_playsAt_12 (by decide) (by omega) (by omega) (fun c_12 => ?_) (fun c_12 => ?_)
    · skip
      refine zi_const hF.1 hF.2.1 dX0_playsAt_32 ?_
      exact z_reti (P := fun z _ => z = b2i (pl σ k mi)) (z := 0) (u := ()) (w := fun _ => gC c h σ κ ω) hF hr hlocks hP hS ((iz_nar_z (by first | omega | exact b2i_rg)).1) (by first | exact (b2i_t (by unfold pl; omega)).symm | exact (b2i_f (by unfold pl; omega)).symm) dX0_playsAt_33
    · skip
      refine lv_iload_n hF.1 hF.2.1 dX0_playsAt_15 rfl (lv_at hl 1 rfl) ?_
      refine lv_aload_n hF.1 hF.2.1 dX0_playsAt_16 rfl (lv_at hl 0 rfl) ?_
      refine z_get hF hK hP (k := k + 11) (C := RX0) (T := TX0) (N := 9) (by omega) (gC_act (by omega)) rfl uin_X0 1 (by decide) mw_5 (v := .int (iz (σ 8 k))) rfl dX0_playsAt_17 ?_
      have q_3 := GI_8 hG (k)
      refine lv_aload_n hF.1 hF.2.1 dX0_playsAt_20 rfl (lv_at hl 0 rfl) ?_
      refine z_get hF hK hP (k := k + 11) (C := RX0) (T := TX0) (N := 9) (by omega) (gC_act (by omega)) rfl uin_X0 2 (by decide) mw_6 (v := .int (iz (σ 9 k))) rfl dX0_playsAt_21 ?_
      have q_4 := GI_9 hG (k)
      refine zi_add hF.1 hF.2.1 dX0_playsAt_24 ?_
      refine zi_icmp_ge (tgt := 32) hF.1 hF.2.1 (a := mi) (b := (σ 8 k) + (σ 9 k)) dX0_playsAt_25 (by decide) (by omega) (by omega) (fun c_25 => ?_) (fun c_25 => ?_)
      · skip
        refine zi_const hF.1 hF.2.1 dX0_playsAt_32 ?_
        exact z_reti (P := fun z _ => z = b2i (pl σ k mi)) (z := 0) (u := ()) (w := fun _ => gC c h σ κ ω) hF hr hlocks hP hS ((iz_nar_z (by first | omega | exact b2i_rg)).1) (by first | exact (b2i_t (by unfold pl; omega)).symm | exact (b2i_f (by unfold pl; omega)).symm) dX0_playsAt_33
      · skip
        refine zi_const hF.1 hF.2.1 dX0_playsAt_28 ?_
        refine lv_goto (tgt := 33) hF.1 hF.2.1 dX0_playsAt_29 (by decide) ?_
        exact z_reti (P := fun z _ => z = b2i (pl σ k mi)) (z := 1) (u := ()) (w := fun _ => gC c h σ κ ω) hF hr hlocks hP hS ((iz_nar_z (by first | omega | exact b2i_rg)).1) (by first | exact (b2i_t (by unfold pl; omega)).symm | exact (b2i_f (by unfold pl; omega)).symm) dX0_playsAt_33

set_option maxRecDepth 100000 in
set_option maxHeartbeats 4000000 in
theorem c_X0_isTooNear (l : Launch) (h : Nat → Nat) (D : va_G) (c : Nat → ClassId) (σ κ : Nat → Nat → Int) (ω : Nat × (Nat → Int32) × Int32) (hinj : ∀ i j, i < 32 → j < 32 → h i = h j → i = j) (hG : GI σ) (k : Nat) (hk : k < 16) (j : Nat) (hj : j < 16) (ch : Int) (hch : 0 ≤ ch ∧ ch ≤ 100) :
    zMi (S := Unit) l yX0_isTooNear cX0_isTooNear 3 (some .boolean) 1 20 [.ref (h (k + 11)), .ref (h (j + 11)), .int (iz (ch))] 32 h D (gT c) (gC c h (σ) (κ) (ω)) (fun _ => gC c h σ κ ω) (fun z _ => z = b2i (nr σ k j ch)) := by
  refine zM_of (by decide) (Nat.le_of_ble_eq_true rfl) ?_
  intro p e s m below meth cd ls ⟨hF, hr, hlocks, hK⟩ hP hl
  have hz : zD (zA 32 h s.heap.size) 32 h := zD.self hinj s.heap.size
  have hA : ∀ q, s.heap.size ≤ q → zA 32 h s.heap.size q := zA_new
  generalize zA 32 h s.heap.size = A at hz hA ⊢
  have hS : va_S A s.heap s.heap [] := va_S.rf
  have hl : lv_has ls 3 [(0, .ref (h (k + 11))), (1, .ref (h (j + 11))), (2, .int (iz (ch)))] := hl
  refine lv_aload_n hF.1 hF.2.1 dX0_isTooNear_0 rfl (lv_at hl 0 rfl) ?_
  refine z_get hF hK hP (k := k + 11) (C := RX0) (T := TX0) (N := 9) (by omega) (gC_act (by omega)) rfl uin_X0 1 (by decide) mw_5 (v := .int (iz (σ 8 k))) rfl dX0_isTooNear_1 ?_
  have q_1 := GI_8 hG (k)
  refine lv_aload_n hF.1 hF.2.1 dX0_isTooNear_4 rfl (lv_at hl 1 rfl) ?_
  refine z_ci (S := Unit) (w := fun _ => gC c h σ κ ω) (P := fun z _ => z = σ 8 j + σ 9 j) (z_runV (rm := { frames := 0, cells := 0, slots := 0, locals := 0 }) hF hK hP (c_X0_end l h D c σ κ ω hinj hG j (by omega) _) (gIn_V mw_10 mw_11 mw_12 mw_13 mw_4) rfl rfl ⟨rfl, by decide, by decide, rfl⟩ ⟨Nat.le_of_ble_eq_true rfl, Nat.le_of_ble_eq_true rfl⟩ (k := j + 11) (T := TX0) (N := 9) (by omega) rfl (gC_act (by omega)) rfl (As := []) (rest := [.int (iz (σ 8 k))]) rfl hl.1 rfl (Nat.le_of_ble_eq_true rfl) dX0_isTooNear_5 ⟨Nat.le_refl _, Nat.le_refl _⟩) hz hA hS (fun z_2 u_3 H locs hp hP hS => ?_)
  obtain rfl : z_2 = σ 8 j + σ 9 j := hp
  have q_4 := GI_8 hG j
  have q_5 := GI_9 hG j
  refine lv_iload_n hF.1 hF.2.1 dX0_isTooNear_8 rfl (lv_at hl 2 rfl) ?_
  refine zi_add hF.1 hF.2.1 dX0_isTooNear_9 ?_
  refine zi_icmp_ge (tgt := 30) hF.1 hF.2.1 (a := σ 8 k) (b := (σ 8 j + σ 9 j) + ch) dX0_isTooNear_10 (by decide) (by omega) (by omega) (fun c_10 => ?_) (fun c_10 => ?_)
  · skip
    refine zi_const hF.1 hF.2.1 dX0_isTooNear_30 ?_
    exact z_reti (P := fun z _ => z = b2i (nr σ k j ch)) (z := 0) (u := ()) (w := fun _ => gC c h σ κ ω) hF hr hlocks hP hS ((iz_nar_z (by first | omega | exact b2i_rg)).1) (by first | exact (b2i_t (by unfold nr; omega)).symm | exact (b2i_f (by unfold nr; omega)).symm) dX0_isTooNear_31
  · skip
    refine lv_aload_n hF.1 hF.2.1 dX0_isTooNear_13 rfl (lv_at hl 1 rfl) ?_
    refine z_get hF hK hP (k := j + 11) (C := RX0) (T := TX0) (N := 9) (by omega) (gC_act (by omega)) rfl uin_X0 1 (by decide) mw_5 (v := .int (iz (σ 8 j))) rfl dX0_isTooNear_14 ?_
    have q_6 := GI_8 hG (j)
    refine lv_aload_n hF.1 hF.2.1 dX0_isTooNear_17 rfl (lv_at hl 0 rfl) ?_
    refine z_ci (S := Unit) (w := fun _ => gC c h σ κ ω) (P := fun z _ => z = σ 8 k + σ 9 k) (z_runV (rm := { frames := 0, cells := 0, slots := 0, locals := 0 }) hF hK hP (c_X0_end l h D c σ κ ω hinj hG k (by omega) _) (gIn_V mw_10 mw_11 mw_12 mw_13 mw_4) rfl rfl ⟨rfl, by decide, by decide, rfl⟩ ⟨Nat.le_of_ble_eq_true rfl, Nat.le_of_ble_eq_true rfl⟩ (k := k + 11) (T := TX0) (N := 9) (by omega) rfl (gC_act (by omega)) rfl (As := []) (rest := [.int (iz (σ 8 j))]) rfl hl.1 rfl (Nat.le_of_ble_eq_true rfl) dX0_isTooNear_18 ⟨Nat.le_refl _, Nat.le_refl _⟩) hz hA hS (fun z_7 u_8 H locs hp hP hS => ?_)
    obtain rfl : z_7 = σ 8 k + σ 9 k := hp
    have q_9 := GI_8 hG k
    have q_10 := GI_9 hG k
    refine lv_iload_n hF.1 hF.2.1 dX0_isTooNear_21 rfl (lv_at hl 2 rfl) ?_
    refine zi_add hF.1 hF.2.1 dX0_isTooNear_22 ?_
    refine zi_icmp_ge (tgt := 30) hF.1 hF.2.1 (a := σ 8 j) (b := (σ 8 k + σ 9 k) + ch) dX0_isTooNear_23 (by decide) (by omega) (by omega) (fun c_23 => ?_) (fun c_23 => ?_)
    · skip
      refine zi_const hF.1 hF.2.1 dX0_isTooNear_30 ?_
      exact z_reti (P := fun z _ => z = b2i (nr σ k j ch)) (z := 0) (u := ()) (w := fun _ => gC c h σ κ ω) hF hr hlocks hP hS ((iz_nar_z (by first | omega | exact b2i_rg)).1) (by first | exact (b2i_t (by unfold nr; omega)).symm | exact (b2i_f (by unfold nr; omega)).symm) dX0_isTooNear_31
    · skip
      refine zi_const hF.1 hF.2.1 dX0_isTooNear_26 ?_
      refine lv_goto (tgt := 31) hF.1 hF.2.1 dX0_isTooNear_27 (by decide) ?_
      exact z_reti (P := fun z _ => z = b2i (nr σ k j ch)) (z := 1) (u := ()) (w := fun _ => gC c h σ κ ω) hF hr hlocks hP hS ((iz_nar_z (by first | omega | exact b2i_rg)).1) (by first | exact (b2i_t (by unfold nr; omega)).symm | exact (b2i_f (by unfold nr; omega)).symm) dX0_isTooNear_31

set_option maxRecDepth 100000 in
set_option maxHeartbeats 4000000 in
theorem c_X0_withinStrength (l : Launch) (h : Nat → Nat) (D : va_G) (c : Nat → ClassId) (σ κ : Nat → Nat → Int) (ω : Nat × (Nat → Int32) × Int32) (hinj : ∀ i j, i < 32 → j < 32 → h i = h j → i = j) (hG : GI σ) (x : Int) (hx : -1000 ≤ x ∧ x ≤ 1000) :
    zMi (S := Unit) l yX0_withinStrength cX0_withinStrength 1 (some .int) 1 14 [.int (iz (x))] 32 h D (gT c) (gC c h (σ) (κ) (ω)) (fun _ => gC c h σ κ ω) (fun z _ => z = max 0 (min x 200)) := by
  refine zM_of (by decide) (Nat.le_of_ble_eq_true rfl) ?_
  intro p e s m below meth cd ls ⟨hF, hr, hlocks, hK⟩ hP hl
  have hz : zD (zA 32 h s.heap.size) 32 h := zD.self hinj s.heap.size
  have hA : ∀ q, s.heap.size ≤ q → zA 32 h s.heap.size q := zA_new
  generalize zA 32 h s.heap.size = A at hz hA ⊢
  have hS : va_S A s.heap s.heap [] := va_S.rf
  have hl : lv_has ls 1 [(0, .int (iz (x)))] := hl
  refine zi_const hF.1 hF.2.1 dX0_withinStrength_0 ?_
  refine lv_iload_n hF.1 hF.2.1 dX0_withinStrength_1 rfl (lv_at hl 0 rfl) ?_
  refine zi_sipush hF.1 hF.2.1 dX0_withinStrength_2 (by decide) ?_
  refine zi_min hF hl.1 mw_15 mw_16 mw_17 mw_18 (Nat.le_of_ble_eq_true rfl) (Nat.le_of_ble_eq_true rfl) (Nat.le_refl _) (Nat.le_refl _) (a := x) (b := 200) (by omega) (by omega) dX0_withinStrength_5 ?_
  refine zi_max hF hl.1 mw_19 mw_20 mw_17 mw_21 (Nat.le_of_ble_eq_true rfl) (Nat.le_of_ble_eq_true rfl) (Nat.le_refl _) (Nat.le_refl _) (a := 0) (b := min (x) (200)) (by omega) (by omega) dX0_withinStrength_8 ?_
  exact z_reti (P := fun z _ => z = max 0 (min x 200)) (z := max (0) (min (x) (200))) (u := ()) (w := fun _ => gC c h σ κ ω) hF hr hlocks hP hS (rfl) (rfl) dX0_withinStrength_11

set_option maxRecDepth 100000 in
set_option maxHeartbeats 4000000 in
theorem c_X1_hits (l : Launch) (h : Nat → Nat) (D : va_G) (c : Nat → ClassId) (σ κ : Nat → Nat → Int) (ω : Nat × (Nat → Int32) × Int32) (hinj : ∀ i j, i < 32 → j < 32 → h i = h j → i = j) (hG : GI σ) (sx : Nat) (hsx : sx < 5) (k : Nat) (hk : k < 16) :
    zMi (S := Unit) l yX1_hits cX1_hits 2 (some .boolean) 1 20 [.ref (h (sx + 27)), .ref (h (k + 11))] 32 h D (gT c) (gC c h (σ) (κ) (ω)) (fun _ => gC c h σ κ ω) (fun z _ => z = b2i (hit σ sx k)) := by
  refine zM_of (by decide) (Nat.le_of_ble_eq_true rfl) ?_
  intro p e s m below meth cd ls ⟨hF, hr, hlocks, hK⟩ hP hl
  have hz : zD (zA 32 h s.heap.size) 32 h := zD.self hinj s.heap.size
  have hA : ∀ q, s.heap.size ≤ q → zA 32 h s.heap.size q := zA_new
  generalize zA 32 h s.heap.size = A at hz hA ⊢
  have hS : va_S A s.heap s.heap [] := va_S.rf
  have hl : lv_has ls 2 [(0, .ref (h (sx + 27))), (1, .ref (h (k + 11)))] := hl
  refine lv_aload_n hF.1 hF.2.1 dX1_hits_0 rfl (lv_at hl 0 rfl) ?_
  refine z_get hF hK hP (k := sx + 27) (C := RX1) (T := TX1) (N := 3) (by omega) (gC_storm) rfl uin_X1 0 (by decide) mw_30 (v := .int (iz (σ 16 sx))) rfl dX1_hits_1 ?_
  have q_1 := GI_16 hG (sx)
  refine lv_aload_n hF.1 hF.2.1 dX1_hits_4 rfl (lv_at hl 1 rfl) ?_
  refine z_getN hF hK hP (k := k + 11) (C := RX0) (T := TX0) (N := 9) (by omega) (gC_act (by omega)) rfl uin_X0 0 (by decide) nw_16 (v := .int (iz (σ 7 k))) rfl dX1_hits_5 ?_
  have q_2 := GI_7 hG (k)
  refine zi_icmp_ne (tgt := 37) hF.1 hF.2.1 (a := σ 16 sx) (b := σ 7 k) dX1_hits_8 (by decide) (by omega) (by omega) (fun c_8 => ?_) (fun c_8 => ?_)
  · skip
    refine zi_const hF.1 hF.2.1 dX1_hits_37 ?_
    exact z_reti (P := fun z _ => z = b2i (hit σ sx k)) (z := 0) (u := ()) (w := fun _ => gC c h σ κ ω) hF hr hlocks hP hS ((iz_nar_z (by first | omega | exact b2i_rg)).1) (by first | exact (b2i_t (by unfold hit; omega)).symm | exact (b2i_f (by unfold hit; omega)).symm) dX1_hits_38
  · skip
    refine lv_aload_n hF.1 hF.2.1 dX1_hits_11 rfl (lv_at hl 1 rfl) ?_
    refine z_getN hF hK hP (k := k + 11) (C := RX0) (T := TX0) (N := 9) (by omega) (gC_act (by omega)) rfl uin_X0 1 (by decide) nw_17 (v := .int (iz (σ 8 k))) rfl dX1_hits_12 ?_
    have q_3 := GI_8 hG (k)
    refine lv_aload_n hF.1 hF.2.1 dX1_hits_15 rfl (lv_at hl 0 rfl) ?_
    refine z_get hF hK hP (k := sx + 27) (C := RX1) (T := TX1) (N := 3) (by omega) (gC_storm) rfl uin_X1 2 (by decide) mw_32 (v := .int (iz (σ 18 sx))) rfl dX1_hits_16 ?_
    have q_4 := GI_18 hG (sx)
    refine zi_icmp_ge (tgt := 37) hF.1 hF.2.1 (a := σ 8 k) (b := σ 18 sx) dX1_hits_19 (by decide) (by omega) (by omega) (fun c_19 => ?_) (fun c_19 => ?_)
    · skip
      refine zi_const hF.1 hF.2.1 dX1_hits_37 ?_
      exact z_reti (P := fun z _ => z = b2i (hit σ sx k)) (z := 0) (u := ()) (w := fun _ => gC c h σ κ ω) hF hr hlocks hP hS ((iz_nar_z (by first | omega | exact b2i_rg)).1) (by first | exact (b2i_t (by unfold hit; omega)).symm | exact (b2i_f (by unfold hit; omega)).symm) dX1_hits_38
    · skip
      refine lv_aload_n hF.1 hF.2.1 dX1_hits_22 rfl (lv_at hl 0 rfl) ?_
      refine z_get hF hK hP (k := sx + 27) (C := RX1) (T := TX1) (N := 3) (by omega) (gC_storm) rfl uin_X1 1 (by decide) mw_33 (v := .int (iz (σ 17 sx))) rfl dX1_hits_23 ?_
      have q_5 := GI_17 hG (sx)
      refine lv_aload_n hF.1 hF.2.1 dX1_hits_26 rfl (lv_at hl 1 rfl) ?_
      refine z_ci (S := Unit) (w := fun _ => gC c h σ κ ω) (P := fun z _ => z = σ 8 k + σ 9 k) (z_runVN (rm := { frames := 0, cells := 0, slots := 0, locals := 0 }) hF hK hP (c_X0_end l h D c σ κ ω hinj hG k (by omega) _) mw_4 nw_25 mw_13 mw_11 mw_12 rfl rfl ⟨by decide, by decide, rfl⟩ ⟨Nat.le_of_ble_eq_true rfl, Nat.le_of_ble_eq_true rfl⟩ (k := k + 11) (T := TX0) (N := 9) (by omega) rfl (gC_act (by omega)) rfl (As := []) (rest := [.int (iz (σ 17 sx))]) rfl hl.1 rfl (Nat.le_of_ble_eq_true rfl) dX1_hits_27 ⟨Nat.le_refl _, Nat.le_refl _⟩) hz hA hS (fun z_6 u_7 H locs hp hP hS => ?_)
      obtain rfl : z_6 = σ 8 k + σ 9 k := hp
      have q_8 := GI_8 hG k
      have q_9 := GI_9 hG k
      refine zi_icmp_ge (tgt := 37) hF.1 hF.2.1 (a := σ 17 sx) (b := σ 8 k + σ 9 k) dX1_hits_30 (by decide) (by omega) (by omega) (fun c_30 => ?_) (fun c_30 => ?_)
      · skip
        refine zi_const hF.1 hF.2.1 dX1_hits_37 ?_
        exact z_reti (P := fun z _ => z = b2i (hit σ sx k)) (z := 0) (u := ()) (w := fun _ => gC c h σ κ ω) hF hr hlocks hP hS ((iz_nar_z (by first | omega | exact b2i_rg)).1) (by first | exact (b2i_t (by unfold hit; omega)).symm | exact (b2i_f (by unfold hit; omega)).symm) dX1_hits_38
      · skip
        refine zi_const hF.1 hF.2.1 dX1_hits_33 ?_
        refine lv_goto (tgt := 38) hF.1 hF.2.1 dX1_hits_34 (by decide) ?_
        exact z_reti (P := fun z _ => z = b2i (hit σ sx k)) (z := 1) (u := ()) (w := fun _ => gC c h σ κ ω) hF hr hlocks hP hS ((iz_nar_z (by first | omega | exact b2i_rg)).1) (by first | exact (b2i_t (by unfold hit; omega)).symm | exact (b2i_f (by unfold hit; omega)).symm) dX1_hits_38

set_option maxRecDepth 100000 in
set_option maxHeartbeats 4000000 in
theorem c_X3_hasChannel (l : Launch) (h : Nat → Nat) (D : va_G) (c : Nat → ClassId) (σ κ : Nat → Nat → Int) (ω : Nat × (Nat → Int32) × Int32) (hinj : ∀ i j, i < 32 → j < 32 → h i = h j → i = j) (hG : GI σ) (z : Int) (cz : Int) (hcz : -100 ≤ cz ∧ cz ≤ 100) :
    zMi (S := Unit) l yX3_hasChannel cX3_hasChannel 2 (some .boolean) 0 0 [.int (iz (z)), .int (iz (cz))] 32 h D (gT c) (gC c h (σ) (κ) (ω)) (fun _ => gC c h σ κ ω) (fun r _ => r = b2i (hc z cz)) := by
  refine zM_of (by decide) (Nat.le_of_ble_eq_true rfl) ?_
  intro p e s m below meth cd ls ⟨hF, hr, hlocks, hK⟩ hP hl
  have hz : zD (zA 32 h s.heap.size) 32 h := zD.self hinj s.heap.size
  have hA : ∀ q, s.heap.size ≤ q → zA 32 h s.heap.size q := zA_new
  generalize zA 32 h s.heap.size = A at hz hA ⊢
  have hS : va_S A s.heap s.heap [] := va_S.rf
  have hl : lv_has ls 2 [(0, .int (iz (z))), (1, .int (iz (cz)))] := hl
  refine lv_iload_n hF.1 hF.2.1 dX3_hasChannel_0 rfl (lv_at hl 1 rfl) ?_
  refine zi_if_lt (tgt := 22) hF.1 hF.2.1 (a := cz) dX3_hasChannel_1 (by decide) (by omega) (fun c_1 => ?_) (fun c_1 => ?_)
  · skip
    refine zi_const hF.1 hF.2.1 dX3_hasChannel_22 ?_
    exact z_reti (P := fun r _ => r = b2i (hc z cz)) (z := 0) (u := ()) (w := fun _ => gC c h σ κ ω) hF hr hlocks hP hS ((iz_nar_z (by first | omega | exact b2i_rg)).1) (by first | exact (b2i_t (by unfold hc; exact ⟨by omega, by omega, (bt_iff (by omega)).mp c_15⟩)).symm | exact (b2i_f (by unfold hc; omega)).symm | exact (b2i_f (by unfold hc; rintro ⟨q1, q2, q3⟩; exact (bt_iff (by omega)).mpr q3 c_15)).symm) dX3_hasChannel_23
  · skip
    refine lv_iload_n hF.1 hF.2.1 dX3_hasChannel_4 rfl (lv_at hl 1 rfl) ?_
    refine zi_bipush hF.1 hF.2.1 dX3_hasChannel_5 (by decide) ?_
    refine zi_icmp_ge (tgt := 22) hF.1 hF.2.1 (a := cz) (b := 32) dX3_hasChannel_7 (by decide) (by omega) (by omega) (fun c_7 => ?_) (fun c_7 => ?_)
    · skip
      refine zi_const hF.1 hF.2.1 dX3_hasChannel_22 ?_
      exact z_reti (P := fun r _ => r = b2i (hc z cz)) (z := 0) (u := ()) (w := fun _ => gC c h σ κ ω) hF hr hlocks hP hS ((iz_nar_z (by first | omega | exact b2i_rg)).1) (by first | exact (b2i_t (by unfold hc; exact ⟨by omega, by omega, (bt_iff (by omega)).mp c_15⟩)).symm | exact (b2i_f (by unfold hc; omega)).symm | exact (b2i_f (by unfold hc; rintro ⟨q1, q2, q3⟩; exact (bt_iff (by omega)).mpr q3 c_15)).symm) dX3_hasChannel_23
    · skip
      refine lv_iload_n hF.1 hF.2.1 dX3_hasChannel_10 rfl (lv_at hl 0 rfl) ?_
      refine lv_iload_n hF.1 hF.2.1 dX3_hasChannel_11 rfl (lv_at hl 1 rfl) ?_
      refine zi_iushr hF.1 hF.2.1 (a := z) (b := cz) dX3_hasChannel_12 ?_
      have q_1 : -2147483648 ≤ ius z cz ∧ ius z cz ≤ 2147483647 := ti_rg _
      refine zi_const hF.1 hF.2.1 dX3_hasChannel_13 ?_
      refine zi_iand hF.1 hF.2.1 (a := ius z cz) (b := 1) dX3_hasChannel_14 ?_
      have q_2 : -2147483648 ≤ ian (ius z cz) 1 ∧ ian (ius z cz) 1 ≤ 2147483647 := ti_rg _
      refine zi_if_eq (tgt := 22) hF.1 hF.2.1 (a := ian (ius z cz) 1) dX3_hasChannel_15 (by decide) (by omega) (fun c_15 => ?_) (fun c_15 => ?_)
      · skip
        refine zi_const hF.1 hF.2.1 dX3_hasChannel_22 ?_
        exact z_reti (P := fun r _ => r = b2i (hc z cz)) (z := 0) (u := ()) (w := fun _ => gC c h σ κ ω) hF hr hlocks hP hS ((iz_nar_z (by first | omega | exact b2i_rg)).1) (by first | exact (b2i_t (by unfold hc; exact ⟨by omega, by omega, (bt_iff (by omega)).mp c_15⟩)).symm | exact (b2i_f (by unfold hc; omega)).symm | exact (b2i_f (by unfold hc; rintro ⟨q1, q2, q3⟩; exact (bt_iff (by omega)).mpr q3 c_15)).symm) dX3_hasChannel_23
      · skip
        refine zi_const hF.1 hF.2.1 dX3_hasChannel_18 ?_
        refine lv_goto (tgt := 23) hF.1 hF.2.1 dX3_hasChannel_19 (by decide) ?_
        exact z_reti (P := fun r _ => r = b2i (hc z cz)) (z := 1) (u := ()) (w := fun _ => gC c h σ κ ω) hF hr hlocks hP hS ((iz_nar_z (by first | omega | exact b2i_rg)).1) (by first | exact (b2i_t (by unfold hc; exact ⟨by omega, by omega, (bt_iff (by omega)).mp c_15⟩)).symm | exact (b2i_f (by unfold hc; omega)).symm | exact (b2i_f (by unfold hc; rintro ⟨q1, q2, q3⟩; exact (bt_iff (by omega)).mpr q3 c_15)).symm) dX3_hasChannel_23
