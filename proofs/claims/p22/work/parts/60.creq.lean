theorem tx_98a : (vx_atS RX3 98 E98 zNm).all (fun w => decide (w ∈ lw_tbl) && (goodWord w || isNW w)) = true := by decide +kernel
theorem tx_206a : (vx_atS RX3 206 E206 zNm).all (fun w => decide (w ∈ lw_tbl) && (goodWord w || isNW w)) = true := by decide +kernel
theorem tx_67a : (vx_atS RX3 67 E67 zNm).all (fun w => decide (w ∈ lw_tbl) && (goodWord w || isNW w)) = true := by decide +kernel
theorem tx_98b : (Cond.classLink RX3 94 E98 :: Cond.initialized E98 :: vx_atS RX3 98 E98 zNm).all (fun w => vx_ot w) = true := by decide +kernel
theorem tx_206b : (Cond.classLink RX3 202 E206 :: Cond.initialized E206 :: vx_atS RX3 206 E206 zNm).all (fun w => vx_ot w) = true := by decide +kernel
theorem tx_67b : (Cond.classLink RX3 63 E67 :: Cond.initialized E67 :: vx_atS RX3 67 E67 zNm).all (fun w => vx_ot w) = true := by decide +kernel
/-- what a call of the class that tries a change leaves -/
def CS (σ σ1 : Nat → Nat → Int) (P : Prop) (z : Int) (σ' : Nat → Nat → Int) : Prop := (P ∧ z = 1 ∧ σ' = σ1) ∨ (¬ P ∧ z = 0 ∧ σ' = σ)

set_option maxRecDepth 100000 in
set_option maxHeartbeats 4000000 in
theorem c_X3_requireRange (l : Launch) (h : Nat → Nat) (D : va_G) (c : Nat → ClassId) (σ κ : Nat → Nat → Int) (ω : Nat × (Nat → Int32) × Int32) (hinj : ∀ i j, i < 32 → j < 32 → h i = h j → i = j) (hG : GI σ) (x : Int) (hx : -2147483648 ≤ x ∧ x ≤ 2147483647) (lo : Int) (hlo : -2147483648 ≤ lo ∧ lo ≤ 2147483647) (hi : Int) (hhi : -2147483648 ≤ hi ∧ hi ≤ 2147483647) (hst : l.stackTraces = false) :
    zXv (S := Unit) l yX3_requireRange cX3_requireRange 3 (none) 6 82 1 [.int (iz (x)), .int (iz (lo)), .int (iz (hi))] 32 h D (gT c) (gC c h (σ) (κ) (ω)) (fun _ => gC c h σ κ ω) (fun _ => lo ≤ x ∧ x ≤ hi) (fun E9 => (E9 = E206 ∧ ¬ (lo ≤ x ∧ x ≤ hi))) := by
  refine zXM_of (by decide) (Nat.le_of_ble_eq_true rfl) ?_
  intro p e s m below meth cd ls ⟨hF, hr, hlocks, hK, hexc, hX⟩ hP hl
  have hz : zD (zA 32 h s.heap.size) 32 h := zD.self hinj s.heap.size
  have hA : ∀ q, s.heap.size ≤ q → zA 32 h s.heap.size q := zA_new
  generalize zA 32 h s.heap.size = A at hz hA hX ⊢
  have hS : va_S A s.heap s.heap [] := va_S.rf
  have hl : lv_has ls 3 [(0, .int (iz (x))), (1, .int (iz (lo))), (2, .int (iz (hi)))] := hl
  refine lv_iload_n hF.1 hF.2.1 dX3_requireRange_0 rfl (lv_at hl 0 rfl) ?_
  refine lv_iload_n hF.1 hF.2.1 dX3_requireRange_1 rfl (lv_at hl 1 rfl) ?_
  refine zi_icmp_lt (tgt := 10) hF.1 hF.2.1 (a := x) (b := lo) dX3_requireRange_2 (by decide) (by omega) (by omega) (fun c_2 => ?_) (fun c_2 => ?_)
  · skip
    have hpx_1 : (fun E9 => (E9 = E206 ∧ ¬ (lo ≤ x ∧ x ≤ hi))) E206 := by show _; first | exact ⟨rfl, by omega⟩
    exact z_throw (PX := fun E9 => (E9 = E206 ∧ ¬ (lo ≤ x ∧ x ≤ hi))) (cls := E206) (text := "out of range") hF hK hX hexc hlocks hst hP hS hl.1 (by decide) mw_81 mw_82 tx_206a tx_206b (by decide) rfl dX3_requireRange_10 dX3_requireRange_13 dX3_requireRange_14 dX3_requireRange_16 dX3_requireRange_19 ⟨(Nat.le_of_ble_eq_true rfl), (Nat.le_of_ble_eq_true rfl), Nat.le_refl _, Nat.le_refl _⟩ (Nat.le_of_ble_eq_true rfl) (Nat.le_of_ble_eq_true rfl) hpx_1
  · skip
    refine lv_iload_n hF.1 hF.2.1 dX3_requireRange_5 rfl (lv_at hl 0 rfl) ?_
    refine lv_iload_n hF.1 hF.2.1 dX3_requireRange_6 rfl (lv_at hl 2 rfl) ?_
    refine zi_icmp_le (tgt := 20) hF.1 hF.2.1 (a := x) (b := hi) dX3_requireRange_7 (by decide) (by omega) (by omega) (fun c_7 => ?_) (fun c_7 => ?_)
    · skip
      exact z_xretv (S := Unit) (P := fun _ => lo ≤ x ∧ x ≤ hi) (u := ()) (w := fun _ => gC c h σ κ ω) hF hr hlocks hP hS (Nat.le_of_ble_eq_true rfl) (Nat.le_of_ble_eq_true rfl) (⟨by omega, by omega⟩) dX3_requireRange_20
    · skip
      have hpx_2 : (fun E9 => (E9 = E206 ∧ ¬ (lo ≤ x ∧ x ≤ hi))) E206 := by show _; first | exact ⟨rfl, by omega⟩
      exact z_throw (PX := fun E9 => (E9 = E206 ∧ ¬ (lo ≤ x ∧ x ≤ hi))) (cls := E206) (text := "out of range") hF hK hX hexc hlocks hst hP hS hl.1 (by decide) mw_81 mw_82 tx_206a tx_206b (by decide) rfl dX3_requireRange_10 dX3_requireRange_13 dX3_requireRange_14 dX3_requireRange_16 dX3_requireRange_19 ⟨(Nat.le_of_ble_eq_true rfl), (Nat.le_of_ble_eq_true rfl), Nat.le_refl _, Nat.le_refl _⟩ (Nat.le_of_ble_eq_true rfl) (Nat.le_of_ble_eq_true rfl) hpx_2

set_option maxRecDepth 100000 in
set_option maxHeartbeats 4000000 in
theorem c_X3_requireMinute (l : Launch) (h : Nat → Nat) (D : va_G) (c : Nat → ClassId) (σ κ : Nat → Nat → Int) (ω : Nat × (Nat → Int32) × Int32) (hinj : ∀ i j, i < 32 → j < 32 → h i = h j → i = j) (hG : GI σ) (x : Int) (hx : -2147483648 ≤ x ∧ x ≤ 2147483647) (hst : l.stackTraces = false) :
    zXv (S := Unit) l yX3_requireMinute cX3_requireMinute 1 (none) 7 104 1 [.int (iz (x))] 32 h D (gT c) (gC c h (σ) (κ) (ω)) (fun _ => gC c h σ κ ω) (fun _ => 0 ≤ x ∧ x ≤ 999) (fun E9 => (E9 = E206 ∧ ¬ (0 ≤ x ∧ x ≤ 999))) := by
  refine zXM_of (by decide) (Nat.le_of_ble_eq_true rfl) ?_
  intro p e s m below meth cd ls ⟨hF, hr, hlocks, hK, hexc, hX⟩ hP hl
  have hz : zD (zA 32 h s.heap.size) 32 h := zD.self hinj s.heap.size
  have hA : ∀ q, s.heap.size ≤ q → zA 32 h s.heap.size q := zA_new
  generalize zA 32 h s.heap.size = A at hz hA hX ⊢
  have hS : va_S A s.heap s.heap [] := va_S.rf
  have hl : lv_has ls 1 [(0, .int (iz (x)))] := hl
  refine lv_iload_n hF.1 hF.2.1 dX3_requireMinute_0 rfl (lv_at hl 0 rfl) ?_
  refine zi_const hF.1 hF.2.1 dX3_requireMinute_1 ?_
  refine zi_sipush hF.1 hF.2.1 dX3_requireMinute_2 (by decide) ?_
  have hpx_3 : ∀ E9, (fun E9 => (E9 = E206 ∧ ¬ (0 ≤ x ∧ x ≤ 999))) E9 → (fun E9 => (E9 = E206 ∧ ¬ (0 ≤ x ∧ x ≤ 999))) E9 := by
    intro E9 hE
    exact hE
  refine z_xcv (k := 1) (S := Unit) (w := fun _ => gC c h σ κ ω) (P := fun _ => 0 ≤ x ∧ x ≤ 999) (PXc := fun E9 => (E9 = E206 ∧ ¬ (0 ≤ x ∧ x ≤ 999))) (PX := fun E9 => (E9 = E206 ∧ ¬ (0 ≤ x ∧ x ≤ 999))) (z_xrunS (rm := { frames := 6, cells := 1, slots := 6, locals := 82 }) hF hK hX hz hA hP hS (c_X3_requireRange l h D c σ κ ω hinj hG x (by omega) 0 (by omega) 999 (by omega) hst _) (gIn_S mw_84 mw_85 mw_86 mw_80) rfl rfl ⟨rfl, by decide, by decide, rfl⟩ ⟨Nat.le_of_ble_eq_true rfl, Nat.le_of_ble_eq_true rfl⟩ (As := [.int (iz (x)), .int (iz (0)), .int (iz (999))]) (rest := []) rfl hl.1 rfl (Nat.le_of_ble_eq_true rfl) dX3_requireMinute_5 ⟨(Nat.le_of_ble_eq_true rfl), (Nat.le_of_ble_eq_true rfl)⟩) hz hA hS hexc hlocks (Nat.le_of_ble_eq_true rfl) (Nat.le_of_ble_eq_true rfl) hpx_3 (fun u_1 H locs hp hP hS => ?_)
  have q_4 : 0 ≤ x ∧ x ≤ 999 := hp
  exact z_xretv (S := Unit) (P := fun _ => 0 ≤ x ∧ x ≤ 999) (u := ()) (w := fun _ => gC c h σ κ ω) hF hr hlocks hP hS (Nat.le_of_ble_eq_true rfl) (Nat.le_of_ble_eq_true rfl) (⟨by omega, by omega⟩) dX3_requireMinute_8

set_option maxRecDepth 100000 in
set_option maxHeartbeats 4000000 in
theorem c_X3_requireStage (l : Launch) (h : Nat → Nat) (D : va_G) (c : Nat → ClassId) (σ κ : Nat → Nat → Int) (ω : Nat × (Nat → Int32) × Int32) (hinj : ∀ i j, i < 32 → j < 32 → h i = h j → i = j) (hG : GI σ) (x : Int) (hx : -2147483648 ≤ x ∧ x ≤ 2147483647) (hst : l.stackTraces = false) :
    zXv (S := Unit) l yX3_requireStage cX3_requireStage 1 (none) 6 82 1 [.int (iz (x))] 32 h D (gT c) (gC c h (σ) (κ) (ω)) (fun _ => gC c h σ κ ω) (fun _ => 0 ≤ x ∧ x ≤ 2) (fun E9 => (E9 = E98 ∧ ¬ (0 ≤ x ∧ x ≤ 2))) := by
  refine zXM_of (by decide) (Nat.le_of_ble_eq_true rfl) ?_
  intro p e s m below meth cd ls ⟨hF, hr, hlocks, hK, hexc, hX⟩ hP hl
  have hz : zD (zA 32 h s.heap.size) 32 h := zD.self hinj s.heap.size
  have hA : ∀ q, s.heap.size ≤ q → zA 32 h s.heap.size q := zA_new
  generalize zA 32 h s.heap.size = A at hz hA hX ⊢
  have hS : va_S A s.heap s.heap [] := va_S.rf
  have hl : lv_has ls 1 [(0, .int (iz (x)))] := hl
  refine lv_iload_n hF.1 hF.2.1 dX3_requireStage_0 rfl (lv_at hl 0 rfl) ?_
  refine zi_if_lt (tgt := 9) hF.1 hF.2.1 (a := x) dX3_requireStage_1 (by decide) (by omega) (fun c_1 => ?_) (fun c_1 => ?_)
  · skip
    have hpx_1 : (fun E9 => (E9 = E98 ∧ ¬ (0 ≤ x ∧ x ≤ 2))) E98 := by show _; first | exact ⟨rfl, by omega⟩
    exact z_throw (PX := fun E9 => (E9 = E98 ∧ ¬ (0 ≤ x ∧ x ≤ 2))) (cls := E98) (text := "no such stage") hF hK hX hexc hlocks hst hP hS hl.1 (by decide) mw_97 mw_98 tx_98a tx_98b (by decide) rfl dX3_requireStage_9 dX3_requireStage_12 dX3_requireStage_13 dX3_requireStage_15 dX3_requireStage_18 ⟨(Nat.le_of_ble_eq_true rfl), (Nat.le_of_ble_eq_true rfl), Nat.le_refl _, Nat.le_refl _⟩ (Nat.le_of_ble_eq_true rfl) (Nat.le_of_ble_eq_true rfl) hpx_1
  · skip
    refine lv_iload_n hF.1 hF.2.1 dX3_requireStage_4 rfl (lv_at hl 0 rfl) ?_
    refine zi_const hF.1 hF.2.1 dX3_requireStage_5 ?_
    refine zi_icmp_lt (tgt := 19) hF.1 hF.2.1 (a := x) (b := 3) dX3_requireStage_6 (by decide) (by omega) (by omega) (fun c_6 => ?_) (fun c_6 => ?_)
    · skip
      exact z_xretv (S := Unit) (P := fun _ => 0 ≤ x ∧ x ≤ 2) (u := ()) (w := fun _ => gC c h σ κ ω) hF hr hlocks hP hS (Nat.le_of_ble_eq_true rfl) (Nat.le_of_ble_eq_true rfl) (⟨by omega, by omega⟩) dX3_requireStage_19
    · skip
      have hpx_2 : (fun E9 => (E9 = E98 ∧ ¬ (0 ≤ x ∧ x ≤ 2))) E98 := by show _; first | exact ⟨rfl, by omega⟩
      exact z_throw (PX := fun E9 => (E9 = E98 ∧ ¬ (0 ≤ x ∧ x ≤ 2))) (cls := E98) (text := "no such stage") hF hK hX hexc hlocks hst hP hS hl.1 (by decide) mw_97 mw_98 tx_98a tx_98b (by decide) rfl dX3_requireStage_9 dX3_requireStage_12 dX3_requireStage_13 dX3_requireStage_15 dX3_requireStage_18 ⟨(Nat.le_of_ble_eq_true rfl), (Nat.le_of_ble_eq_true rfl), Nat.le_refl _, Nat.le_refl _⟩ (Nat.le_of_ble_eq_true rfl) (Nat.le_of_ble_eq_true rfl) hpx_2

set_option maxRecDepth 100000 in
set_option maxHeartbeats 4000000 in
theorem c_X3_requireHouse (l : Launch) (h : Nat → Nat) (D : va_G) (c : Nat → ClassId) (σ κ : Nat → Nat → Int) (ω : Nat × (Nat → Int32) × Int32) (hinj : ∀ i j, i < 32 → j < 32 → h i = h j → i = j) (hG : GI σ) (x : Int) (hx : -2147483648 ≤ x ∧ x ≤ 2147483647) (hst : l.stackTraces = false) :
    zXv (S := Unit) l yX3_requireHouse cX3_requireHouse 1 (none) 6 82 1 [.int (iz (x))] 32 h D (gT c) (gC c h (σ) (κ) (ω)) (fun _ => gC c h σ κ ω) (fun _ => 0 ≤ x ∧ x ≤ 2) (fun E9 => (E9 = E98 ∧ ¬ (0 ≤ x ∧ x ≤ 2))) := by
  refine zXM_of (by decide) (Nat.le_of_ble_eq_true rfl) ?_
  intro p e s m below meth cd ls ⟨hF, hr, hlocks, hK, hexc, hX⟩ hP hl
  have hz : zD (zA 32 h s.heap.size) 32 h := zD.self hinj s.heap.size
  have hA : ∀ q, s.heap.size ≤ q → zA 32 h s.heap.size q := zA_new
  generalize zA 32 h s.heap.size = A at hz hA hX ⊢
  have hS : va_S A s.heap s.heap [] := va_S.rf
  have hl : lv_has ls 1 [(0, .int (iz (x)))] := hl
  refine lv_iload_n hF.1 hF.2.1 dX3_requireHouse_0 rfl (lv_at hl 0 rfl) ?_
  refine zi_if_lt (tgt := 9) hF.1 hF.2.1 (a := x) dX3_requireHouse_1 (by decide) (by omega) (fun c_1 => ?_) (fun c_1 => ?_)
  · skip
    have hpx_1 : (fun E9 => (E9 = E98 ∧ ¬ (0 ≤ x ∧ x ≤ 2))) E98 := by show _; first | exact ⟨rfl, by omega⟩
    exact z_throw (PX := fun E9 => (E9 = E98 ∧ ¬ (0 ≤ x ∧ x ≤ 2))) (cls := E98) (text := "no such house") hF hK hX hexc hlocks hst hP hS hl.1 (by decide) mw_97 mw_98 tx_98a tx_98b (by decide) rfl dX3_requireHouse_9 dX3_requireHouse_12 dX3_requireHouse_13 dX3_requireHouse_15 dX3_requireHouse_18 ⟨(Nat.le_of_ble_eq_true rfl), (Nat.le_of_ble_eq_true rfl), Nat.le_refl _, Nat.le_refl _⟩ (Nat.le_of_ble_eq_true rfl) (Nat.le_of_ble_eq_true rfl) hpx_1
  · skip
    refine lv_iload_n hF.1 hF.2.1 dX3_requireHouse_4 rfl (lv_at hl 0 rfl) ?_
    refine zi_const hF.1 hF.2.1 dX3_requireHouse_5 ?_
    refine zi_icmp_lt (tgt := 19) hF.1 hF.2.1 (a := x) (b := 3) dX3_requireHouse_6 (by decide) (by omega) (by omega) (fun c_6 => ?_) (fun c_6 => ?_)
    · skip
      exact z_xretv (S := Unit) (P := fun _ => 0 ≤ x ∧ x ≤ 2) (u := ()) (w := fun _ => gC c h σ κ ω) hF hr hlocks hP hS (Nat.le_of_ble_eq_true rfl) (Nat.le_of_ble_eq_true rfl) (⟨by omega, by omega⟩) dX3_requireHouse_19
    · skip
      have hpx_2 : (fun E9 => (E9 = E98 ∧ ¬ (0 ≤ x ∧ x ≤ 2))) E98 := by show _; first | exact ⟨rfl, by omega⟩
      exact z_throw (PX := fun E9 => (E9 = E98 ∧ ¬ (0 ≤ x ∧ x ≤ 2))) (cls := E98) (text := "no such house") hF hK hX hexc hlocks hst hP hS hl.1 (by decide) mw_97 mw_98 tx_98a tx_98b (by decide) rfl dX3_requireHouse_9 dX3_requireHouse_12 dX3_requireHouse_13 dX3_requireHouse_15 dX3_requireHouse_18 ⟨(Nat.le_of_ble_eq_true rfl), (Nat.le_of_ble_eq_true rfl), Nat.le_refl _, Nat.le_refl _⟩ (Nat.le_of_ble_eq_true rfl) (Nat.le_of_ble_eq_true rfl) hpx_2

set_option maxRecDepth 100000 in
set_option maxHeartbeats 4000000 in
theorem c_X3_requirePhase (l : Launch) (h : Nat → Nat) (D : va_G) (c : Nat → ClassId) (σ κ : Nat → Nat → Int) (ω : Nat × (Nat → Int32) × Int32) (hinj : ∀ i j, i < 32 → j < 32 → h i = h j → i = j) (hG : GI σ) (x : Int) (hx : -2147483648 ≤ x ∧ x ≤ 2147483647) (hst : l.stackTraces = false) :
    zXv (S := Unit) l yX3_requirePhase cX3_requirePhase 1 (none) 6 82 1 [.int (iz (x))] 32 h D (gT c) (gC c h (σ) (κ) (ω)) (fun _ => gC c h σ κ ω) (fun _ => 0 ≤ x ∧ x ≤ 2) (fun E9 => (E9 = E98 ∧ ¬ (0 ≤ x ∧ x ≤ 2))) := by
  refine zXM_of (by decide) (Nat.le_of_ble_eq_true rfl) ?_
  intro p e s m below meth cd ls ⟨hF, hr, hlocks, hK, hexc, hX⟩ hP hl
  have hz : zD (zA 32 h s.heap.size) 32 h := zD.self hinj s.heap.size
  have hA : ∀ q, s.heap.size ≤ q → zA 32 h s.heap.size q := zA_new
  generalize zA 32 h s.heap.size = A at hz hA hX ⊢
  have hS : va_S A s.heap s.heap [] := va_S.rf
  have hl : lv_has ls 1 [(0, .int (iz (x)))] := hl
  refine lv_iload_n hF.1 hF.2.1 dX3_requirePhase_0 rfl (lv_at hl 0 rfl) ?_
  refine zi_if_lt (tgt := 9) hF.1 hF.2.1 (a := x) dX3_requirePhase_1 (by decide) (by omega) (fun c_1 => ?_) (fun c_1 => ?_)
  · skip
    have hpx_1 : (fun E9 => (E9 = E98 ∧ ¬ (0 ≤ x ∧ x ≤ 2))) E98 := by show _; first | exact ⟨rfl, by omega⟩
    exact z_throw (PX := fun E9 => (E9 = E98 ∧ ¬ (0 ≤ x ∧ x ≤ 2))) (cls := E98) (text := "no such phase") hF hK hX hexc hlocks hst hP hS hl.1 (by decide) mw_97 mw_98 tx_98a tx_98b (by decide) rfl dX3_requirePhase_9 dX3_requirePhase_12 dX3_requirePhase_13 dX3_requirePhase_15 dX3_requirePhase_18 ⟨(Nat.le_of_ble_eq_true rfl), (Nat.le_of_ble_eq_true rfl), Nat.le_refl _, Nat.le_refl _⟩ (Nat.le_of_ble_eq_true rfl) (Nat.le_of_ble_eq_true rfl) hpx_1
  · skip
    refine lv_iload_n hF.1 hF.2.1 dX3_requirePhase_4 rfl (lv_at hl 0 rfl) ?_
    refine zi_const hF.1 hF.2.1 dX3_requirePhase_5 ?_
    refine zi_icmp_lt (tgt := 19) hF.1 hF.2.1 (a := x) (b := 3) dX3_requirePhase_6 (by decide) (by omega) (by omega) (fun c_6 => ?_) (fun c_6 => ?_)
    · skip
      exact z_xretv (S := Unit) (P := fun _ => 0 ≤ x ∧ x ≤ 2) (u := ()) (w := fun _ => gC c h σ κ ω) hF hr hlocks hP hS (Nat.le_of_ble_eq_true rfl) (Nat.le_of_ble_eq_true rfl) (⟨by omega, by omega⟩) dX3_requirePhase_19
    · skip
      have hpx_2 : (fun E9 => (E9 = E98 ∧ ¬ (0 ≤ x ∧ x ≤ 2))) E98 := by show _; first | exact ⟨rfl, by omega⟩
      exact z_throw (PX := fun E9 => (E9 = E98 ∧ ¬ (0 ≤ x ∧ x ≤ 2))) (cls := E98) (text := "no such phase") hF hK hX hexc hlocks hst hP hS hl.1 (by decide) mw_97 mw_98 tx_98a tx_98b (by decide) rfl dX3_requirePhase_9 dX3_requirePhase_12 dX3_requirePhase_13 dX3_requirePhase_15 dX3_requirePhase_18 ⟨(Nat.le_of_ble_eq_true rfl), (Nat.le_of_ble_eq_true rfl), Nat.le_refl _, Nat.le_refl _⟩ (Nat.le_of_ble_eq_true rfl) (Nat.le_of_ble_eq_true rfl) hpx_2

set_option maxRecDepth 100000 in
set_option maxHeartbeats 4000000 in
theorem c_X3_requireAct (l : Launch) (h : Nat → Nat) (D : va_G) (c : Nat → ClassId) (σ κ : Nat → Nat → Int) (ω : Nat × (Nat → Int32) × Int32) (hinj : ∀ i j, i < 32 → j < 32 → h i = h j → i = j) (hG : GI σ) (x : Int) (hx : -2147483648 ≤ x ∧ x ≤ 2147483647) (hst : l.stackTraces = false) :
    zXv (S := Unit) l yX3_requireAct cX3_requireAct 2 (none) 6 82 1 [.ref (h (0)), .int (iz (x))] 32 h D (gT c) (gC c h (σ) (κ) (ω)) (fun _ => gC c h σ κ ω) (fun _ => 0 ≤ x ∧ x ≤ σ 0 1 - 1) (fun E9 => (E9 = E98 ∧ ¬ (0 ≤ x ∧ x ≤ σ 0 1 - 1))) := by
  refine zXM_of (by decide) (Nat.le_of_ble_eq_true rfl) ?_
  intro p e s m below meth cd ls ⟨hF, hr, hlocks, hK, hexc, hX⟩ hP hl
  have hz : zD (zA 32 h s.heap.size) 32 h := zD.self hinj s.heap.size
  have hA : ∀ q, s.heap.size ≤ q → zA 32 h s.heap.size q := zA_new
  generalize zA 32 h s.heap.size = A at hz hA hX ⊢
  have hS : va_S A s.heap s.heap [] := va_S.rf
  have hl : lv_has ls 2 [(0, .ref (h (0))), (1, .int (iz (x)))] := hl
  refine lv_iload_n hF.1 hF.2.1 dX3_requireAct_0 rfl (lv_at hl 1 rfl) ?_
  refine zi_if_lt (tgt := 12) hF.1 hF.2.1 (a := x) dX3_requireAct_1 (by decide) (by omega) (fun c_1 => ?_) (fun c_1 => ?_)
  · skip
    have hpx_1 : (fun E9 => (E9 = E98 ∧ ¬ (0 ≤ x ∧ x ≤ σ 0 1 - 1))) E98 := by show _; first | exact ⟨rfl, by omega⟩
    exact z_throw (PX := fun E9 => (E9 = E98 ∧ ¬ (0 ≤ x ∧ x ≤ σ 0 1 - 1))) (cls := E98) (text := "no such act") hF hK hX hexc hlocks hst hP hS hl.1 (by decide) mw_97 mw_98 tx_98a tx_98b (by decide) rfl dX3_requireAct_12 dX3_requireAct_15 dX3_requireAct_16 dX3_requireAct_18 dX3_requireAct_21 ⟨(Nat.le_of_ble_eq_true rfl), (Nat.le_of_ble_eq_true rfl), Nat.le_refl _, Nat.le_refl _⟩ (Nat.le_of_ble_eq_true rfl) (Nat.le_of_ble_eq_true rfl) hpx_1
  · skip
    refine lv_iload_n hF.1 hF.2.1 dX3_requireAct_4 rfl (lv_at hl 1 rfl) ?_
    refine lv_aload_n hF.1 hF.2.1 dX3_requireAct_5 rfl (lv_at hl 0 rfl) ?_
    refine z_get hF hK hP (k := 0) (C := RX3) (T := TX3) (N := 14) (by omega) (rfl) rfl uin_X3 6 (by decide) mw_163 (v := .int (iz (σ 0 1))) rfl dX3_requireAct_6 ?_
    have q_2 := GI_01 hG
    refine zi_icmp_lt (tgt := 22) hF.1 hF.2.1 (a := x) (b := σ 0 1) dX3_requireAct_9 (by decide) (by omega) (by omega) (fun c_9 => ?_) (fun c_9 => ?_)
    · skip
      exact z_xretv (S := Unit) (P := fun _ => 0 ≤ x ∧ x ≤ σ 0 1 - 1) (u := ()) (w := fun _ => gC c h σ κ ω) hF hr hlocks hP hS (Nat.le_of_ble_eq_true rfl) (Nat.le_of_ble_eq_true rfl) (⟨by omega, by omega⟩) dX3_requireAct_22
    · skip
      have hpx_3 : (fun E9 => (E9 = E98 ∧ ¬ (0 ≤ x ∧ x ≤ σ 0 1 - 1))) E98 := by show _; first | exact ⟨rfl, by omega⟩
      exact z_throw (PX := fun E9 => (E9 = E98 ∧ ¬ (0 ≤ x ∧ x ≤ σ 0 1 - 1))) (cls := E98) (text := "no such act") hF hK hX hexc hlocks hst hP hS hl.1 (by decide) mw_97 mw_98 tx_98a tx_98b (by decide) rfl dX3_requireAct_12 dX3_requireAct_15 dX3_requireAct_16 dX3_requireAct_18 dX3_requireAct_21 ⟨(Nat.le_of_ble_eq_true rfl), (Nat.le_of_ble_eq_true rfl), Nat.le_refl _, Nat.le_refl _⟩ (Nat.le_of_ble_eq_true rfl) (Nat.le_of_ble_eq_true rfl) hpx_3

set_option maxRecDepth 100000 in
set_option maxHeartbeats 4000000 in
theorem c_X3_requirePlanned (l : Launch) (h : Nat → Nat) (D : va_G) (c : Nat → ClassId) (σ κ : Nat → Nat → Int) (ω : Nat × (Nat → Int32) × Int32) (hinj : ∀ i j, i < 32 → j < 32 → h i = h j → i = j) (hG : GI σ) (x : Int) (hx : 0 ≤ x ∧ x ≤ 15) (hst : l.stackTraces = false) :
    zXv (S := Unit) l yX3_requirePlanned cX3_requirePlanned 2 (none) 6 82 1 [.ref (h (0)), .int (iz (x))] 32 h D (gT c) (gC c h (σ) (κ) (ω)) (fun _ => gC c h σ κ ω) (fun _ => σ 14 x.toNat ≠ 0) (fun E9 => (E9 = E67 ∧ σ 14 x.toNat = 0)) := by
  refine zXM_of (by decide) (Nat.le_of_ble_eq_true rfl) ?_
  intro p e s m below meth cd ls ⟨hF, hr, hlocks, hK, hexc, hX⟩ hP hl
  have hz : zD (zA 32 h s.heap.size) 32 h := zD.self hinj s.heap.size
  have hA : ∀ q, s.heap.size ≤ q → zA 32 h s.heap.size q := zA_new
  generalize zA 32 h s.heap.size = A at hz hA hX ⊢
  have hS : va_S A s.heap s.heap [] := va_S.rf
  have hl : lv_has ls 2 [(0, .ref (h (0))), (1, .int (iz (x)))] := hl
  refine lv_aload_n hF.1 hF.2.1 dX3_requirePlanned_0 rfl (lv_at hl 0 rfl) ?_
  refine z_get hF hK hP (k := 0) (C := RX3) (T := TX3) (N := 14) (by omega) (rfl) rfl uin_X3 5 (by decide) mw_60 (v := .ref (h (5))) rfl dX3_requirePlanned_1 ?_
  refine lv_iload_n hF.1 hF.2.1 dX3_requirePlanned_4 rfl (lv_at hl 1 rfl) ?_
  refine z_aald hF hK hP (k := 5) (by decide) rfl 2 rfl (i := x) ((x).toNat) ((Int.toNat_of_nonneg (by omega)).symm) (by omega) (by decide) (a := h ((x).toNat + 11)) rfl dX3_requirePlanned_5 ?_
  refine z_getN hF hK hP (k := (x).toNat + 11) (C := RX0) (T := TX0) (N := 9) (by omega) (gC_act (by omega)) rfl uin_X0 7 (by decide) nw_0 (v := .int (iz (σ 14 (x).toNat))) rfl dX3_requirePlanned_6 ?_
  have q_1 := GI_14 hG ((x).toNat)
  refine zi_if_ne (tgt := 22) hF.1 hF.2.1 (a := σ 14 (x).toNat) dX3_requirePlanned_9 (by decide) (by omega) (fun c_9 => ?_) (fun c_9 => ?_)
  · skip
    exact z_xretv (S := Unit) (P := fun _ => σ 14 x.toNat ≠ 0) (u := ()) (w := fun _ => gC c h σ κ ω) hF hr hlocks hP hS (Nat.le_of_ble_eq_true rfl) (Nat.le_of_ble_eq_true rfl) (by show σ 14 x.toNat ≠ 0; omega) dX3_requirePlanned_22
  · skip
    have hpx_2 : (fun E9 => (E9 = E67 ∧ σ 14 x.toNat = 0)) E67 := by show _; first | exact ⟨rfl, by omega⟩
    exact z_throw (PX := fun E9 => (E9 = E67 ∧ σ 14 x.toNat = 0)) (cls := E67) (text := "the act is not planned") hF hK hX hexc hlocks hst hP hS hl.1 (by decide) mw_88 mw_89 tx_67a tx_67b (by decide) rfl dX3_requirePlanned_12 dX3_requirePlanned_15 dX3_requirePlanned_16 dX3_requirePlanned_18 dX3_requirePlanned_21 ⟨(Nat.le_of_ble_eq_true rfl), (Nat.le_of_ble_eq_true rfl), Nat.le_refl _, Nat.le_refl _⟩ (Nat.le_of_ble_eq_true rfl) (Nat.le_of_ble_eq_true rfl) hpx_2

set_option maxRecDepth 100000 in
set_option maxHeartbeats 4000000 in
theorem c_X3_startSet (l : Launch) (h : Nat → Nat) (D : va_G) (c : Nat → ClassId) (σ κ : Nat → Nat → Int) (ω : Nat × (Nat → Int32) × Int32) (hinj : ∀ i j, i < 32 → j < 32 → h i = h j → i = j) (hG : GI σ) (mi : Int) (hmi : -2147483648 ≤ mi ∧ mi ≤ 2147483647) (hst : l.stackTraces = false) :
    zXi (S := Nat → Nat → Int) l yX3_startSet cX3_startSet 3 (some .int) 8 124 2 [.ref (h (0)), .int (iz (mi))] 32 h D (gT c) (gC c h (σ) (κ) (ω)) (fun σ9 => gC c h σ9 κ ω) (fun z σ9 => MSet σ mi z σ9 0) (fun E9 => (E9 = E206 ∧ thS σ mi = 1) ∨ (E9 = E67 ∧ thS σ mi = 2)) := by
  refine zXM_of (by decide) (Nat.le_of_ble_eq_true rfl) ?_
  intro p e s m below meth cd ls ⟨hF, hr, hlocks, hK, hexc, hX⟩ hP hl
  have hz : zD (zA 32 h s.heap.size) 32 h := zD.self hinj s.heap.size
  have hA : ∀ q, s.heap.size ≤ q → zA 32 h s.heap.size q := zA_new
  generalize zA 32 h s.heap.size = A at hz hA hX ⊢
  have hS : va_S A s.heap s.heap [] := va_S.rf
  have hl : lv_has ls 3 [(0, .ref (h (0))), (1, .int (iz (mi)))] := hl
  refine lv_iload_n hF.1 hF.2.1 dX3_startSet_0 rfl (lv_at hl 1 rfl) ?_
  have hpx_3 : ∀ E9, (fun E9 => (E9 = E206 ∧ ¬ (0 ≤ mi ∧ mi ≤ 999))) E9 → (fun E9 => (E9 = E206 ∧ thS σ mi = 1) ∨ (E9 = E67 ∧ thS σ mi = 2)) E9 := by
    intro E9 hE
    obtain ⟨rfl, q9⟩ := hE
    first | exact Or.inl ⟨rfl, by unfold thS; (repeat' split) <;> omega⟩ | exact Or.inr (⟨rfl, by unfold thS; (repeat' split) <;> omega⟩)
  refine z_xcv (k := 1) (S := Unit) (w := fun _ => gC c h σ κ ω) (P := fun _ => 0 ≤ mi ∧ mi ≤ 999) (PXc := fun E9 => (E9 = E206 ∧ ¬ (0 ≤ mi ∧ mi ≤ 999))) (PX := fun E9 => (E9 = E206 ∧ thS σ mi = 1) ∨ (E9 = E67 ∧ thS σ mi = 2)) (z_xrunS (rm := { frames := 7, cells := 1, slots := 6, locals := 104 }) hF hK hX hz hA hP hS (c_X3_requireMinute l h D c σ κ ω hinj hG mi (by omega) hst _) (gIn_S mw_94 mw_95 mw_86 mw_83) rfl rfl ⟨rfl, by decide, by decide, rfl⟩ ⟨Nat.le_of_ble_eq_true rfl, Nat.le_of_ble_eq_true rfl⟩ (As := [.int (iz (mi))]) (rest := []) rfl hl.1 rfl (Nat.le_of_ble_eq_true rfl) dX3_startSet_1 ⟨(Nat.le_of_ble_eq_true rfl), (Nat.le_of_ble_eq_true rfl)⟩) hz hA hS hexc hlocks (Nat.le_of_ble_eq_true rfl) (Nat.le_of_ble_eq_true rfl) hpx_3 (fun u_1 H locs hp hP hS => ?_)
  have q_4 : 0 ≤ mi ∧ mi ≤ 999 := hp
  refine lv_aload_n hF.1 hF.2.1 dX3_startSet_4 rfl (lv_at hl 0 rfl) ?_
  refine z_get hF hK hP (k := 0) (C := RX3) (T := TX3) (N := 14) (by omega) (rfl) rfl uin_X3 1 (by decide) mw_90 (v := .int (iz (σ 0 0))) rfl dX3_startSet_5 ?_
  have q_5 := GI_00 hG
  refine zi_bipush hF.1 hF.2.1 dX3_startSet_8 (by decide) ?_
  refine zi_icmp_lt (tgt := 23) hF.1 hF.2.1 (a := σ 0 0) (b := 6) dX3_startSet_10 (by decide) (by omega) (by omega) (fun c_10 => ?_) (fun c_10 => ?_)
  · skip
    refine zi_const hF.1 hF.2.1 dX3_startSet_23 ?_
    refine lv_istore_n (lv' := [(2, .int (iz (0))), (0, .ref (h (0))), (1, .int (iz (mi)))]) hF.1 hF.2.1 dX3_startSet_24 rfl hl (by decide) rfl (fun ls hl => ?_)
    have nv_7 : ((0) ≤ 6 ∧ ((0) : Int) ≤ σ 0 0) ∧ (∀ k, k < (0) → ¬ (-9 ≤ mi - σ 1 k ∧ mi - σ 1 k ≤ 9)) := ⟨by have := GI_00 hG; omega, lt_0⟩
    refine z_loop (V := Nat) (nL := 3) (wd := fun v_6 => gC c h (σ) (κ) (ω)) (lv := fun v_6 => [(0, .ref (h (0))), (1, .int (iz (mi))), (2, .int (iz ((v_6 : Int))))]) (stk := fun v_6 => []) (mu := fun v_6 => 7 - v_6) (inv := fun v_6 => (v_6 ≤ 6 ∧ (v_6 : Int) ≤ σ 0 0) ∧ (∀ k, k < v_6 → ¬ (-9 ≤ mi - σ 1 k ∧ mi - σ 1 k ≤ 9))) ?_ 0 nv_7 hP hS (lv_sub hl [1, 2, 0] rfl)
    intro i hv ih_25 H locs ls hP hS hl
    have hP : zB 32 h D (gC c h (σ) (κ) (ω)) H := hP
    have hl : lv_has ls 3 [(0, .ref (h (0))), (1, .int (iz (mi))), (2, .int (iz ((i : Int))))] := hl
    obtain ⟨hi_i, hv1⟩ : (i ≤ 6 ∧ (i : Int) ≤ σ 0 0) ∧ (∀ k, k < i → ¬ (-9 ≤ mi - σ 1 k ∧ mi - σ 1 k ≤ 9)) := hv
    refine lv_iload_n hF.1 hF.2.1 dX3_startSet_25 rfl (lv_at hl 2 rfl) ?_
    refine lv_aload_n hF.1 hF.2.1 dX3_startSet_26 rfl (lv_at hl 0 rfl) ?_
    refine z_get hF hK hP (k := 0) (C := RX3) (T := TX3) (N := 14) (by omega) (rfl) rfl uin_X3 1 (by decide) mw_90 (v := .int (iz (σ 0 0))) rfl dX3_startSet_27 ?_
    have q_8 := GI_00 hG
    refine zi_icmp_ge (tgt := 57) hF.1 hF.2.1 (a := (i : Int)) (b := σ 0 0) dX3_startSet_30 (by decide) (by omega) (by omega) (fun c_30 => ?_) (fun c_30 => ?_)
    · skip
      refine lv_aload_n hF.1 hF.2.1 dX3_startSet_57 rfl (lv_at hl 0 rfl) ?_
      refine z_get hF hK hP (k := 0) (C := RX3) (T := TX3) (N := 14) (by omega) (rfl) rfl uin_X3 0 (by decide) mw_55 (v := .ref (h (1))) rfl dX3_startSet_58 ?_
      refine lv_aload_n hF.1 hF.2.1 dX3_startSet_61 rfl (lv_at hl 0 rfl) ?_
      refine z_get hF hK hP (k := 0) (C := RX3) (T := TX3) (N := 14) (by omega) (rfl) rfl uin_X3 1 (by decide) mw_90 (v := .int (iz (σ 0 0))) rfl dX3_startSet_62 ?_
      have q_9 := GI_00 hG
      refine lv_iload_n hF.1 hF.2.1 dX3_startSet_65 rfl (lv_at hl 1 rfl) ?_
      refine z_iast hF hK hz hP hS (k := 1) (by decide) rfl 0 rfl (i := σ 0 0) ((σ 0 0).toNat) ((Int.toNat_of_nonneg (by omega)).symm) (by omega) (by decide) (x := iz (mi)) (g' := gC c h (u2 (σ) 1 ((σ 0 0).toNat) (mi)) (κ) (ω)) (by show Sum.inl (_, _, Sum.inl _) = _; rw [u2_up]) (gC_row_o ⟨by decide, by decide⟩) dX3_startSet_66 (fun H locs hP hS => ?_)
      have hG_10 := GI_u1 hG (v := mi) (k := (σ 0 0).toNat) (by omega)
      refine lv_aload_n hF.1 hF.2.1 dX3_startSet_67 rfl (lv_at hl 0 rfl) ?_
      refine lv_dup hF.1 hF.2.1 dX3_startSet_68 rfl ?_
      refine z_get hF hK hP (k := 0) (C := RX3) (T := TX3) (N := 14) (by omega) (rfl) rfl uin_X3 1 (by decide) mw_90 (v := .int (iz (σ 0 0))) rfl dX3_startSet_69 ?_
      have q_11 := GI_00 hG
      refine zi_const hF.1 hF.2.1 dX3_startSet_72 ?_
      refine zi_add hF.1 hF.2.1 dX3_startSet_73 ?_
      refine z_put hF hK hz hP hS (k := 0) (C := RX3) (T := TX3) (N := 14) (by omega) (rfl) rfl uin_X3 tyX3_ok nmX3 1 (by decide) mw_90 rfl (⟨rfl, rfl⟩) (by simp) (g' := gC c h (u2 (u2 (σ) 1 ((σ 0 0).toNat) (mi)) 0 0 ((σ 0 0) + 1)) (κ) (ω)) (rfl) (gC_sc_o) dX3_startSet_74 (fun H locs hP hS => ?_)
      have hG_12 := GI_u00 hG_10 (v := (σ 0 0) + 1) (by omega)
      refine lv_aload_n hF.1 hF.2.1 dX3_startSet_77 rfl (lv_at hl 0 rfl) ?_
      refine z_get hF hK hP (k := 0) (C := RX3) (T := TX3) (N := 14) (by omega) (rfl) rfl uin_X3 1 (by decide) mw_90 (v := .int (iz ((σ 0 0) + 1))) rfl dX3_startSet_78 ?_
      have q_13 := GI_00 hG_12
      exact z_xreti (S := Nat → Nat → Int) (P := fun z σ9 => MSet σ mi z σ9 0) (z := (σ 0 0) + 1) (u := u2 (u2 (σ) 1 ((σ 0 0).toNat) (mi)) 0 0 ((σ 0 0) + 1)) (w := fun σ9 => gC c h σ9 κ ω) hF hr hlocks hP hS (Nat.le_of_ble_eq_true rfl) (Nat.le_of_ble_eq_true rfl) (rfl) (⟨by unfold thS; (repeat' split) <;> omega, Or.inr ⟨by unfold thS; (repeat' split) <;> omega, Or.inr ⟨fun k hk => hv1 k (by omega), rfl, rfl⟩⟩, hG_12⟩) dX3_startSet_81
    · skip
      refine lv_aload_n hF.1 hF.2.1 dX3_startSet_33 rfl (lv_at hl 0 rfl) ?_
      refine z_get hF hK hP (k := 0) (C := RX3) (T := TX3) (N := 14) (by omega) (rfl) rfl uin_X3 0 (by decide) mw_55 (v := .ref (h (1))) rfl dX3_startSet_34 ?_
      refine lv_iload_n hF.1 hF.2.1 dX3_startSet_37 rfl (lv_at hl 2 rfl) ?_
      refine z_iald hF hK hP (k := 1) (by decide) rfl 0 rfl (i := (i : Int)) (i) (rfl) (by omega) (by decide) (x := iz (σ 1 i)) rfl dX3_startSet_38 ?_
      have q_14 := GI_1 hG (i)
      refine lv_iload_n hF.1 hF.2.1 dX3_startSet_39 rfl (lv_at hl 1 rfl) ?_
      refine zi_sub hF.1 hF.2.1 dX3_startSet_40 ?_
      refine zi_abs hF hl.1 mw_91 mw_92 mw_17 mw_93 (Nat.le_of_ble_eq_true rfl) (Nat.le_of_ble_eq_true rfl) (Nat.le_of_ble_eq_true rfl) (Nat.le_of_ble_eq_true rfl) (a := (σ 1 i) - mi) (by omega) dX3_startSet_41 ?_
      refine zi_bipush hF.1 hF.2.1 dX3_startSet_44 (by decide) ?_
      refine zi_icmp_ge (tgt := 51) hF.1 hF.2.1 (a := max ((σ 1 i) - mi) (-((σ 1 i) - mi))) (b := 10) dX3_startSet_46 (by decide) (by omega) (by omega) (fun c_46 => ?_) (fun c_46 => ?_)
      · skip
        refine lv_iinc (v := iz (((i + 1 : Nat) : Int))) (lv' := [(2, .int (iz (((i + 1 : Nat) : Int)))), (0, .ref (h (0))), (1, .int (iz (mi)))]) hF.1 hF.2.1 dX3_startSet_51 hl (k := 2) rfl ((iz_add _ _).trans (congrArg iz (by omega))) (by decide) rfl (fun ls hl => ?_)
        refine lv_goto (tgt := 25) hF.1 hF.2.1 dX3_startSet_54 (by decide) ?_
        have nv_15 : (((i + 1)) ≤ 6 ∧ (((i + 1)) : Int) ≤ σ 0 0) ∧ (∀ k, k < ((i + 1)) → ¬ (-9 ≤ mi - σ 1 k ∧ mi - σ 1 k ≤ 9)) := ⟨by omega, lt_s hv1 (by omega)⟩
        exact ih_25 (i + 1) nv_15 (by show 7 - ((i + 1)) < 7 - i; omega) _ _ _ hP hS (lv_sub hl [1, 2, 0] rfl)
      · skip
        refine zi_const hF.1 hF.2.1 dX3_startSet_49 ?_
        exact z_xreti (S := Nat → Nat → Int) (P := fun z σ9 => MSet σ mi z σ9 0) (z := -1) (u := σ) (w := fun σ9 => gC c h σ9 κ ω) hF hr hlocks hP hS (Nat.le_of_ble_eq_true rfl) (Nat.le_of_ble_eq_true rfl) (rfl) (⟨by unfold thS; (repeat' split) <;> omega, Or.inr ⟨by unfold thS; (repeat' split) <;> omega, Or.inl ⟨⟨i, by omega, by omega⟩, rfl, rfl⟩⟩, hG⟩) dX3_startSet_50
  · skip
    have hpx_16 : (fun E9 => (E9 = E206 ∧ thS σ mi = 1) ∨ (E9 = E67 ∧ thS σ mi = 2)) E67 := by show _; first | exact Or.inl ⟨rfl, by unfold thS; (repeat' split) <;> omega⟩ | exact Or.inr (⟨rfl, by unfold thS; (repeat' split) <;> omega⟩)
    exact z_throw (PX := fun E9 => (E9 = E206 ∧ thS σ mi = 1) ∨ (E9 = E67 ∧ thS σ mi = 2)) (cls := E67) (text := "all sets are started") hF hK hX hexc hlocks hst hP hS hl.1 (by decide) mw_88 mw_89 tx_67a tx_67b (by decide) rfl dX3_startSet_13 dX3_startSet_16 dX3_startSet_17 dX3_startSet_19 dX3_startSet_22 ⟨(Nat.le_of_ble_eq_true rfl), (Nat.le_of_ble_eq_true rfl), Nat.le_refl _, Nat.le_refl _⟩ (Nat.le_of_ble_eq_true rfl) (Nat.le_of_ble_eq_true rfl) hpx_16
