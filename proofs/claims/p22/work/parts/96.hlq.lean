/-! the law's helpers, each for what it is asked -/

set_option maxRecDepth 100000 in
set_option maxHeartbeats 4000000 in
theorem c_L_plan1 (l : Launch) (h : Nat → Nat) (D : va_G) (c : Nat → ClassId) (σ κ : Nat → Nat → Int) (ω : Nat × (Nat → Int32) × Int32) (hinj : ∀ i j, i < 32 → j < 32 → h i = h j → i = j) (hG : GI σ) (sg : Int) (hsg : -2147483648 ≤ sg ∧ sg ≤ 2147483647) (sa : Int) (hsa : -2147483648 ≤ sa ∧ sa ≤ 2147483647) (ln : Int) (hln : -2147483648 ≤ ln ∧ ln ≤ 2147483647) (ph : Int) (hph : -2147483648 ≤ ph ∧ ph ≤ 2147483647) (dr : Int) (hdr : -2147483648 ≤ dr ∧ dr ≤ 2147483647) (lo : Int) (hlo : -2147483648 ≤ lo ∧ lo ≤ 2147483647) (ch : Int) (hch : -2147483648 ≤ ch ∧ ch ≤ 2147483647) (hst : l.stackTraces = false) :
    ∀ sz, Met l yL_plan (Cond.codeWith yL_plan cL_plan 10 (some .int) [(0, 39, 40, 16), (0, 39, 45, 18), (0, 39, 50, 20)] :: UW) { frames := 10, cells := 8, slots := 6 * 8, locals := 181 } (zPE zNCx [.ref (h 0), .int (iz 1), .int (iz sg), .int (iz sa), .int (iz ln), .int (iz ph), .int (iz dr), .int (iz lo), .int (iz ch)] 32 h D (gT c) sz (gC c h σ κ ω)) (va_Qi (fun r (u : Int × S3) => r = iz u.1 ∧ (fun (k : Int) (u : S3) => (∃ z : Int, k = z ∧ thL σ sg sa ln ph dr lo ch = 0 ∧ z = bby (lay σ (σ 0 1).toNat sg sa ln ph dr lo ch) ((σ 0 1).toNat) ∧ u.1 = u2 (lay σ (σ 0 1).toNat sg sa ln ph dr lo ch) 14 (σ 0 1).toNat 0 ∧ GI u.1 ∧ u.2.2 = ω) ∨ (u = (σ, κ, ω) ∧ ((k = -71 ∧ thL σ sg sa ln ph dr lo ch = 1) ∨ (k = -72 ∧ thL σ sg sa ln ph dr lo ch = 2) ∨ (k = -73 ∧ thL σ sg sa ln ph dr lo ch = 3)))) u.1 u.2) (fun u t => zB 32 h D (gS c h u.2) t.heap) (zA 32 h sz)) 8 (6 * 8) (zA 32 h sz) := by
  refine zHM_of (by decide) (Nat.le_of_ble_eq_true rfl) ?_
  intro p e s m below meth cd ls ⟨hF, hr, hlocks, hK, hX⟩ htab hN hP hl
  have hz : zD (zA 32 h s.heap.size) 32 h := zD.self hinj s.heap.size
  have hA : ∀ q, s.heap.size ≤ q → zA 32 h s.heap.size q := zA_new
  generalize zA 32 h s.heap.size = A at hz hA hX ⊢
  have hS : va_S A s.heap s.heap [] := va_S.rf
  have hl : lv_has ls 10 [(0, .ref (h 0)), (1, .int (iz 1)), (2, .int (iz sg)), (3, .int (iz sa)), (4, .int (iz ln)), (5, .int (iz ph)), (6, .int (iz dr)), (7, .int (iz lo)), (8, .int (iz ch))] := hl
  refine lv_iload_n hF.1 hF.2.1 dL_plan_0 rfl (lv_at hl 1 rfl) ?_
  refine zi_if_eq (tgt := 23) hF.1 hF.2.1 dL_plan_1 (by decide) (by decide) (fun q => absurd q (by decide)) (fun _ => ?_)
  refine lv_aload_n hF.1 hF.2.1 dL_plan_4 rfl (lv_at hl 0 rfl) ?_
  refine lv_iload_n hF.1 hF.2.1 dL_plan_5 rfl (lv_at hl 2 rfl) ?_
  refine lv_iload_n hF.1 hF.2.1 dL_plan_6 rfl (lv_at hl 3 rfl) ?_
  refine lv_iload hF.1 hF.2.1 dL_plan_7 (lv_at hl 4 rfl) ?_
  refine lv_iload hF.1 hF.2.1 dL_plan_9 (lv_at hl 5 rfl) ?_
  refine lv_iload hF.1 hF.2.1 dL_plan_11 (lv_at hl 6 rfl) ?_
  refine lv_iload hF.1 hF.2.1 dL_plan_13 (lv_at hl 7 rfl) ?_
  refine lv_iload hF.1 hF.2.1 dL_plan_15 (lv_at hl 8 rfl) ?_
  refine z_hci (k := 8) (S := ((Nat → Nat → Int) × (Nat → Nat → Int))) (w := (fun u9 => gC c h u9.1 u9.2 ω)) (P := (fun z u9 => thL σ sg sa ln ph dr lo ch = 0 ∧ z = bby (lay σ (σ 0 1).toNat sg sa ln ph dr lo ch) ((σ 0 1).toNat) ∧ u9.1 = u2 (lay σ (σ 0 1).toNat sg sa ln ph dr lo ch) 14 (σ 0 1).toNat 0 ∧ GI u9.1)) (PX := fun E9 => (E9 = E98 ∧ thL σ sg sa ln ph dr lo ch = 1) ∨ (E9 = E206 ∧ thL σ sg sa ln ph dr lo ch = 2) ∨ (E9 = E67 ∧ thL σ sg sa ln ph dr lo ch = 3)) (g := gC c h σ κ ω) (z_xrunV (rm := { frames := 9, cells := 8, slots := 6 * 8, locals := 152 }) hF hK hX hz hA hP hS (c_X3_reason l h D c σ κ ω hinj hG sg hsg sa hsa ln hln ph hph dr hdr lo hlo ch hch hst _) (gIn_V mp_3 mw_645 mw_646 mw_86 mw_174) rfl rfl ⟨rfl, by decide, by decide, rfl⟩ ⟨(Nat.le_of_ble_eq_true rfl), (Nat.le_of_ble_eq_true rfl)⟩ (k := 0) (T := TX3) (N := 14) (by decide) rfl rfl rfl (As := [.int (iz sg), .int (iz sa), .int (iz ln), .int (iz ph), .int (iz dr), .int (iz lo), .int (iz ch)]) (rest := []) rfl hl.1 rfl (Nat.le_of_ble_eq_true rfl) dL_plan_17 ⟨(Nat.le_of_ble_eq_true rfl), (Nat.le_of_ble_eq_true rfl)⟩) hz hA hS (fun E9 ce q9 H locs hpx hP hS hce hcv hcl => ?_) (fun z v H locs hp hP hS => ?_)
  · rcases hpx with ⟨rfl, hpx⟩ | ⟨rfl, hpx⟩ | ⟨rfl, hpx⟩
    · refine z_hnd hF hK (pre := []) (suf := [(0, 39, 45, 18), (0, 39, 50, 20)]) htab (fun _ q => absurd q List.not_mem_nil) (by decide) (by decide) mp_0 (NW_mem (by decide +kernel) rfl) hce hcv hcl ?_
      refine lv_astore hF.1 hF.2.1 dL_plan_40 hl (by decide) rfl (fun ls _ => ?_)
      refine zi_bipush hF.1 hF.2.1 dL_plan_42 rfl ?_
      exact z_sreti (w := gS c h) (u := (σ, κ, ω)) (P := (fun (k : Int) (u : S3) => (∃ z : Int, k = z ∧ thL σ sg sa ln ph dr lo ch = 0 ∧ z = bby (lay σ (σ 0 1).toNat sg sa ln ph dr lo ch) ((σ 0 1).toNat) ∧ u.1 = u2 (lay σ (σ 0 1).toNat sg sa ln ph dr lo ch) 14 (σ 0 1).toNat 0 ∧ GI u.1 ∧ u.2.2 = ω) ∨ (u = (σ, κ, ω) ∧ ((k = -71 ∧ thL σ sg sa ln ph dr lo ch = 1) ∨ (k = -72 ∧ thL σ sg sa ln ph dr lo ch = 2) ∨ (k = -73 ∧ thL σ sg sa ln ph dr lo ch = 3))))) hF hr hlocks hP hS (Nat.le_of_ble_eq_true rfl) (Nat.le_of_ble_eq_true rfl) rfl (Or.inr ⟨rfl, Or.inl ⟨rfl, hpx⟩⟩) dL_plan_44
    · refine z_hnd hF hK (pre := [(0, 39, 40, 16)]) (suf := [(0, 39, 50, 20)]) htab (List.forall_mem_cons.mpr ⟨⟨by decide, E98, mp_0, hN.1⟩, fun _ q => absurd q List.not_mem_nil⟩) (by decide) (by decide) mp_1 (NW_mem (by decide +kernel) rfl) hce hcv hcl ?_
      refine lv_astore hF.1 hF.2.1 dL_plan_45 hl (by decide) rfl (fun ls _ => ?_)
      refine zi_bipush hF.1 hF.2.1 dL_plan_47 rfl ?_
      exact z_sreti (w := gS c h) (u := (σ, κ, ω)) (P := (fun (k : Int) (u : S3) => (∃ z : Int, k = z ∧ thL σ sg sa ln ph dr lo ch = 0 ∧ z = bby (lay σ (σ 0 1).toNat sg sa ln ph dr lo ch) ((σ 0 1).toNat) ∧ u.1 = u2 (lay σ (σ 0 1).toNat sg sa ln ph dr lo ch) 14 (σ 0 1).toNat 0 ∧ GI u.1 ∧ u.2.2 = ω) ∨ (u = (σ, κ, ω) ∧ ((k = -71 ∧ thL σ sg sa ln ph dr lo ch = 1) ∨ (k = -72 ∧ thL σ sg sa ln ph dr lo ch = 2) ∨ (k = -73 ∧ thL σ sg sa ln ph dr lo ch = 3))))) hF hr hlocks hP hS (Nat.le_of_ble_eq_true rfl) (Nat.le_of_ble_eq_true rfl) rfl (Or.inr ⟨rfl, Or.inr (Or.inl ⟨rfl, hpx⟩)⟩) dL_plan_49
    · refine z_hnd hF hK (pre := [(0, 39, 40, 16), (0, 39, 45, 18)]) (suf := []) htab (List.forall_mem_cons.mpr ⟨⟨by decide, E98, mp_0, hN.2.1⟩, List.forall_mem_cons.mpr ⟨⟨by decide, E206, mp_1, hN.2.2⟩, fun _ q => absurd q List.not_mem_nil⟩⟩) (by decide) (by decide) mp_2 (NW_mem (by decide +kernel) rfl) hce hcv hcl ?_
      refine lv_astore hF.1 hF.2.1 dL_plan_50 hl (by decide) rfl (fun ls _ => ?_)
      refine zi_bipush hF.1 hF.2.1 dL_plan_52 rfl ?_
      exact z_sreti (w := gS c h) (u := (σ, κ, ω)) (P := (fun (k : Int) (u : S3) => (∃ z : Int, k = z ∧ thL σ sg sa ln ph dr lo ch = 0 ∧ z = bby (lay σ (σ 0 1).toNat sg sa ln ph dr lo ch) ((σ 0 1).toNat) ∧ u.1 = u2 (lay σ (σ 0 1).toNat sg sa ln ph dr lo ch) 14 (σ 0 1).toNat 0 ∧ GI u.1 ∧ u.2.2 = ω) ∨ (u = (σ, κ, ω) ∧ ((k = -71 ∧ thL σ sg sa ln ph dr lo ch = 1) ∨ (k = -72 ∧ thL σ sg sa ln ph dr lo ch = 2) ∨ (k = -73 ∧ thL σ sg sa ln ph dr lo ch = 3))))) hF hr hlocks hP hS (Nat.le_of_ble_eq_true rfl) (Nat.le_of_ble_eq_true rfl) rfl (Or.inr ⟨rfl, Or.inr (Or.inr (⟨rfl, hpx⟩))⟩) dL_plan_54
  · skip
    refine lv_goto (tgt := 39) hF.1 hF.2.1 dL_plan_20 (by decide) ?_
    exact z_sreti (w := gS c h) (u := (v.1, v.2, ω)) (P := (fun (k : Int) (u : S3) => (∃ z : Int, k = z ∧ thL σ sg sa ln ph dr lo ch = 0 ∧ z = bby (lay σ (σ 0 1).toNat sg sa ln ph dr lo ch) ((σ 0 1).toNat) ∧ u.1 = u2 (lay σ (σ 0 1).toNat sg sa ln ph dr lo ch) 14 (σ 0 1).toNat 0 ∧ GI u.1 ∧ u.2.2 = ω) ∨ (u = (σ, κ, ω) ∧ ((k = -71 ∧ thL σ sg sa ln ph dr lo ch = 1) ∨ (k = -72 ∧ thL σ sg sa ln ph dr lo ch = 2) ∨ (k = -73 ∧ thL σ sg sa ln ph dr lo ch = 3))))) hF hr hlocks hP hS (Nat.le_of_ble_eq_true rfl) (Nat.le_of_ble_eq_true rfl) rfl (Or.inl ⟨z, rfl, hp.1, hp.2.1, hp.2.2.1, hp.2.2.2, rfl⟩) dL_plan_39

set_option maxRecDepth 100000 in
set_option maxHeartbeats 4000000 in
theorem c_L_plan0 (l : Launch) (h : Nat → Nat) (D : va_G) (c : Nat → ClassId) (σ κ : Nat → Nat → Int) (ω : Nat × (Nat → Int32) × Int32) (hinj : ∀ i j, i < 32 → j < 32 → h i = h j → i = j) (hG : GI σ) (sg : Int) (hsg : -2147483648 ≤ sg ∧ sg ≤ 2147483647) (sa : Int) (hsa : -2147483648 ≤ sa ∧ sa ≤ 2147483647) (ln : Int) (hln : -2147483648 ≤ ln ∧ ln ≤ 2147483647) (ph : Int) (hph : -2147483648 ≤ ph ∧ ph ≤ 2147483647) (dr : Int) (hdr : -2147483648 ≤ dr ∧ dr ≤ 2147483647) (lo : Int) (hlo : -2147483648 ≤ lo ∧ lo ≤ 2147483647) (ch : Int) (hch : -2147483648 ≤ ch ∧ ch ≤ 2147483647) (hst : l.stackTraces = false) :
    ∀ sz, Met l yL_plan (Cond.codeWith yL_plan cL_plan 10 (some .int) [(0, 39, 40, 16), (0, 39, 45, 18), (0, 39, 50, 20)] :: UW) { frames := 10, cells := 8, slots := 6 * 8, locals := 180 } (zPE zNCx [.ref (h 0), .int (iz 0), .int (iz sg), .int (iz sa), .int (iz ln), .int (iz ph), .int (iz dr), .int (iz lo), .int (iz ch)] 32 h D (gT c) sz (gC c h σ κ ω)) (va_Qi (fun r (u : Int × S3) => r = iz u.1 ∧ (fun (k : Int) (u : S3) => (∃ z : Int, k = z ∧ thL σ sg sa ln ph dr lo ch = 0 ∧ ((bby (lay σ (σ 0 1).toNat sg sa ln ph dr lo ch) ((σ 0 1).toNat) ≠ 0 ∧ z = -1 ∧ u.1 = u2 (lay σ (σ 0 1).toNat sg sa ln ph dr lo ch) 14 (σ 0 1).toNat 0) ∨ (bby (lay σ (σ 0 1).toNat sg sa ln ph dr lo ch) ((σ 0 1).toNat) = 0 ∧ z = σ 0 1 ∧ u.1 = u2 (lay σ (σ 0 1).toNat sg sa ln ph dr lo ch) 0 1 (σ 0 1 + 1))) ∧ GI u.1 ∧ u.2.2 = ω) ∨ (u = (σ, κ, ω) ∧ ((k = -71 ∧ thL σ sg sa ln ph dr lo ch = 1) ∨ (k = -72 ∧ thL σ sg sa ln ph dr lo ch = 2) ∨ (k = -73 ∧ thL σ sg sa ln ph dr lo ch = 3)))) u.1 u.2) (fun u t => zB 32 h D (gS c h u.2) t.heap) (zA 32 h sz)) 8 (6 * 8) (zA 32 h sz) := by
  refine zHM_of (by decide) (Nat.le_of_ble_eq_true rfl) ?_
  intro p e s m below meth cd ls ⟨hF, hr, hlocks, hK, hX⟩ htab hN hP hl
  have hz : zD (zA 32 h s.heap.size) 32 h := zD.self hinj s.heap.size
  have hA : ∀ q, s.heap.size ≤ q → zA 32 h s.heap.size q := zA_new
  generalize zA 32 h s.heap.size = A at hz hA hX ⊢
  have hS : va_S A s.heap s.heap [] := va_S.rf
  have hl : lv_has ls 10 [(0, .ref (h 0)), (1, .int (iz 0)), (2, .int (iz sg)), (3, .int (iz sa)), (4, .int (iz ln)), (5, .int (iz ph)), (6, .int (iz dr)), (7, .int (iz lo)), (8, .int (iz ch))] := hl
  refine lv_iload_n hF.1 hF.2.1 dL_plan_0 rfl (lv_at hl 1 rfl) ?_
  refine zi_if_eq (tgt := 23) hF.1 hF.2.1 dL_plan_1 (by decide) (by decide) (fun _ => ?_) (fun q => absurd q (by decide))
  refine lv_aload_n hF.1 hF.2.1 dL_plan_23 rfl (lv_at hl 0 rfl) ?_
  refine lv_iload_n hF.1 hF.2.1 dL_plan_24 rfl (lv_at hl 2 rfl) ?_
  refine lv_iload_n hF.1 hF.2.1 dL_plan_25 rfl (lv_at hl 3 rfl) ?_
  refine lv_iload hF.1 hF.2.1 dL_plan_26 (lv_at hl 4 rfl) ?_
  refine lv_iload hF.1 hF.2.1 dL_plan_28 (lv_at hl 5 rfl) ?_
  refine lv_iload hF.1 hF.2.1 dL_plan_30 (lv_at hl 6 rfl) ?_
  refine lv_iload hF.1 hF.2.1 dL_plan_32 (lv_at hl 7 rfl) ?_
  refine lv_iload hF.1 hF.2.1 dL_plan_34 (lv_at hl 8 rfl) ?_
  refine z_hci (k := 8) (S := ((Nat → Nat → Int) × (Nat → Nat → Int))) (w := (fun u9 => gC c h u9.1 u9.2 ω)) (P := (fun z u9 => thL σ sg sa ln ph dr lo ch = 0 ∧ ((bby (lay σ (σ 0 1).toNat sg sa ln ph dr lo ch) ((σ 0 1).toNat) ≠ 0 ∧ z = -1 ∧ u9.1 = u2 (lay σ (σ 0 1).toNat sg sa ln ph dr lo ch) 14 (σ 0 1).toNat 0) ∨ (bby (lay σ (σ 0 1).toNat sg sa ln ph dr lo ch) ((σ 0 1).toNat) = 0 ∧ z = σ 0 1 ∧ u9.1 = u2 (lay σ (σ 0 1).toNat sg sa ln ph dr lo ch) 0 1 (σ 0 1 + 1))) ∧ GI u9.1)) (PX := fun E9 => (E9 = E98 ∧ thL σ sg sa ln ph dr lo ch = 1) ∨ (E9 = E206 ∧ thL σ sg sa ln ph dr lo ch = 2) ∨ (E9 = E67 ∧ thL σ sg sa ln ph dr lo ch = 3)) (g := gC c h σ κ ω) (z_xrunV (rm := { frames := 9, cells := 8, slots := 6 * 8, locals := 152 }) hF hK hX hz hA hP hS (c_X3_plan l h D c σ κ ω hinj hG sg hsg sa hsa ln hln ph hph dr hdr lo hlo ch hch hst _) (gIn_V mp_4 mw_642 mw_643 mw_86 mw_173) rfl rfl ⟨rfl, by decide, by decide, rfl⟩ ⟨(Nat.le_of_ble_eq_true rfl), (Nat.le_of_ble_eq_true rfl)⟩ (k := 0) (T := TX3) (N := 14) (by decide) rfl rfl rfl (As := [.int (iz sg), .int (iz sa), .int (iz ln), .int (iz ph), .int (iz dr), .int (iz lo), .int (iz ch)]) (rest := []) rfl hl.1 rfl (Nat.le_of_ble_eq_true rfl) dL_plan_36 ⟨(Nat.le_of_ble_eq_true rfl), (Nat.le_of_ble_eq_true rfl)⟩) hz hA hS (fun E9 ce q9 H locs hpx hP hS hce hcv hcl => ?_) (fun z v H locs hp hP hS => ?_)
  · rcases hpx with ⟨rfl, hpx⟩ | ⟨rfl, hpx⟩ | ⟨rfl, hpx⟩
    · refine z_hnd hF hK (pre := []) (suf := [(0, 39, 45, 18), (0, 39, 50, 20)]) htab (fun _ q => absurd q List.not_mem_nil) (by decide) (by decide) mp_0 (NW_mem (by decide +kernel) rfl) hce hcv hcl ?_
      refine lv_astore hF.1 hF.2.1 dL_plan_40 hl (by decide) rfl (fun ls _ => ?_)
      refine zi_bipush hF.1 hF.2.1 dL_plan_42 rfl ?_
      exact z_sreti (w := gS c h) (u := (σ, κ, ω)) (P := (fun (k : Int) (u : S3) => (∃ z : Int, k = z ∧ thL σ sg sa ln ph dr lo ch = 0 ∧ ((bby (lay σ (σ 0 1).toNat sg sa ln ph dr lo ch) ((σ 0 1).toNat) ≠ 0 ∧ z = -1 ∧ u.1 = u2 (lay σ (σ 0 1).toNat sg sa ln ph dr lo ch) 14 (σ 0 1).toNat 0) ∨ (bby (lay σ (σ 0 1).toNat sg sa ln ph dr lo ch) ((σ 0 1).toNat) = 0 ∧ z = σ 0 1 ∧ u.1 = u2 (lay σ (σ 0 1).toNat sg sa ln ph dr lo ch) 0 1 (σ 0 1 + 1))) ∧ GI u.1 ∧ u.2.2 = ω) ∨ (u = (σ, κ, ω) ∧ ((k = -71 ∧ thL σ sg sa ln ph dr lo ch = 1) ∨ (k = -72 ∧ thL σ sg sa ln ph dr lo ch = 2) ∨ (k = -73 ∧ thL σ sg sa ln ph dr lo ch = 3))))) hF hr hlocks hP hS (Nat.le_of_ble_eq_true rfl) (Nat.le_of_ble_eq_true rfl) rfl (Or.inr ⟨rfl, Or.inl ⟨rfl, hpx⟩⟩) dL_plan_44
    · refine z_hnd hF hK (pre := [(0, 39, 40, 16)]) (suf := [(0, 39, 50, 20)]) htab (List.forall_mem_cons.mpr ⟨⟨by decide, E98, mp_0, hN.1⟩, fun _ q => absurd q List.not_mem_nil⟩) (by decide) (by decide) mp_1 (NW_mem (by decide +kernel) rfl) hce hcv hcl ?_
      refine lv_astore hF.1 hF.2.1 dL_plan_45 hl (by decide) rfl (fun ls _ => ?_)
      refine zi_bipush hF.1 hF.2.1 dL_plan_47 rfl ?_
      exact z_sreti (w := gS c h) (u := (σ, κ, ω)) (P := (fun (k : Int) (u : S3) => (∃ z : Int, k = z ∧ thL σ sg sa ln ph dr lo ch = 0 ∧ ((bby (lay σ (σ 0 1).toNat sg sa ln ph dr lo ch) ((σ 0 1).toNat) ≠ 0 ∧ z = -1 ∧ u.1 = u2 (lay σ (σ 0 1).toNat sg sa ln ph dr lo ch) 14 (σ 0 1).toNat 0) ∨ (bby (lay σ (σ 0 1).toNat sg sa ln ph dr lo ch) ((σ 0 1).toNat) = 0 ∧ z = σ 0 1 ∧ u.1 = u2 (lay σ (σ 0 1).toNat sg sa ln ph dr lo ch) 0 1 (σ 0 1 + 1))) ∧ GI u.1 ∧ u.2.2 = ω) ∨ (u = (σ, κ, ω) ∧ ((k = -71 ∧ thL σ sg sa ln ph dr lo ch = 1) ∨ (k = -72 ∧ thL σ sg sa ln ph dr lo ch = 2) ∨ (k = -73 ∧ thL σ sg sa ln ph dr lo ch = 3))))) hF hr hlocks hP hS (Nat.le_of_ble_eq_true rfl) (Nat.le_of_ble_eq_true rfl) rfl (Or.inr ⟨rfl, Or.inr (Or.inl ⟨rfl, hpx⟩)⟩) dL_plan_49
    · refine z_hnd hF hK (pre := [(0, 39, 40, 16), (0, 39, 45, 18)]) (suf := []) htab (List.forall_mem_cons.mpr ⟨⟨by decide, E98, mp_0, hN.2.1⟩, List.forall_mem_cons.mpr ⟨⟨by decide, E206, mp_1, hN.2.2⟩, fun _ q => absurd q List.not_mem_nil⟩⟩) (by decide) (by decide) mp_2 (NW_mem (by decide +kernel) rfl) hce hcv hcl ?_
      refine lv_astore hF.1 hF.2.1 dL_plan_50 hl (by decide) rfl (fun ls _ => ?_)
      refine zi_bipush hF.1 hF.2.1 dL_plan_52 rfl ?_
      exact z_sreti (w := gS c h) (u := (σ, κ, ω)) (P := (fun (k : Int) (u : S3) => (∃ z : Int, k = z ∧ thL σ sg sa ln ph dr lo ch = 0 ∧ ((bby (lay σ (σ 0 1).toNat sg sa ln ph dr lo ch) ((σ 0 1).toNat) ≠ 0 ∧ z = -1 ∧ u.1 = u2 (lay σ (σ 0 1).toNat sg sa ln ph dr lo ch) 14 (σ 0 1).toNat 0) ∨ (bby (lay σ (σ 0 1).toNat sg sa ln ph dr lo ch) ((σ 0 1).toNat) = 0 ∧ z = σ 0 1 ∧ u.1 = u2 (lay σ (σ 0 1).toNat sg sa ln ph dr lo ch) 0 1 (σ 0 1 + 1))) ∧ GI u.1 ∧ u.2.2 = ω) ∨ (u = (σ, κ, ω) ∧ ((k = -71 ∧ thL σ sg sa ln ph dr lo ch = 1) ∨ (k = -72 ∧ thL σ sg sa ln ph dr lo ch = 2) ∨ (k = -73 ∧ thL σ sg sa ln ph dr lo ch = 3))))) hF hr hlocks hP hS (Nat.le_of_ble_eq_true rfl) (Nat.le_of_ble_eq_true rfl) rfl (Or.inr ⟨rfl, Or.inr (Or.inr (⟨rfl, hpx⟩))⟩) dL_plan_54
  · skip
    exact z_sreti (w := gS c h) (u := (v.1, v.2, ω)) (P := (fun (k : Int) (u : S3) => (∃ z : Int, k = z ∧ thL σ sg sa ln ph dr lo ch = 0 ∧ ((bby (lay σ (σ 0 1).toNat sg sa ln ph dr lo ch) ((σ 0 1).toNat) ≠ 0 ∧ z = -1 ∧ u.1 = u2 (lay σ (σ 0 1).toNat sg sa ln ph dr lo ch) 14 (σ 0 1).toNat 0) ∨ (bby (lay σ (σ 0 1).toNat sg sa ln ph dr lo ch) ((σ 0 1).toNat) = 0 ∧ z = σ 0 1 ∧ u.1 = u2 (lay σ (σ 0 1).toNat sg sa ln ph dr lo ch) 0 1 (σ 0 1 + 1))) ∧ GI u.1 ∧ u.2.2 = ω) ∨ (u = (σ, κ, ω) ∧ ((k = -71 ∧ thL σ sg sa ln ph dr lo ch = 1) ∨ (k = -72 ∧ thL σ sg sa ln ph dr lo ch = 2) ∨ (k = -73 ∧ thL σ sg sa ln ph dr lo ch = 3))))) hF hr hlocks hP hS (Nat.le_of_ble_eq_true rfl) (Nat.le_of_ble_eq_true rfl) rfl (Or.inl ⟨z, rfl, hp.1, hp.2.1, hp.2.2, rfl⟩) dL_plan_39

set_option maxRecDepth 100000 in
set_option maxHeartbeats 4000000 in
theorem c_L_drop (l : Launch) (h : Nat → Nat) (D : va_G) (c : Nat → ClassId) (σ κ : Nat → Nat → Int) (ω : Nat × (Nat → Int32) × Int32) (hinj : ∀ i j, i < 32 → j < 32 → h i = h j → i = j) (hG : GI σ) (a : Int) (ha : -2147483648 ≤ a ∧ a ≤ 2147483647) (hst : l.stackTraces = false) :
    ∀ sz, Met l yL_drop (Cond.codeWith yL_drop cL_drop 3 (some .int) [(0, 6, 7, 16), (0, 6, 11, 20)] :: UW) { frames := 8, cells := 2, slots := 6 * 2, locals := 124 } (zPE zNCx [.ref (h 0), .int (iz a)] 32 h D (gT c) sz (gC c h σ κ ω)) (va_Qi (fun r (u : Int × S3) => r = iz u.1 ∧ (fun (k : Int) (u : S3) => (k = 0 ∧ thD σ a = 0 ∧ u.1 = u2 σ 14 a.toNat 0 ∧ GI u.1 ∧ u.2.2 = ω) ∨ (u = (σ, κ, ω) ∧ ((k = -71 ∧ thD σ a = 1) ∨ (k = -73 ∧ thD σ a = 2)))) u.1 u.2) (fun u t => zB 32 h D (gS c h u.2) t.heap) (zA 32 h sz)) 2 (6 * 2) (zA 32 h sz) := by
  refine zHM_of (by decide) (Nat.le_of_ble_eq_true rfl) ?_
  intro p e s m below meth cd ls ⟨hF, hr, hlocks, hK, hX⟩ htab hN hP hl
  have hz : zD (zA 32 h s.heap.size) 32 h := zD.self hinj s.heap.size
  have hA : ∀ q, s.heap.size ≤ q → zA 32 h s.heap.size q := zA_new
  generalize zA 32 h s.heap.size = A at hz hA hX ⊢
  have hS : va_S A s.heap s.heap [] := va_S.rf
  have hl : lv_has ls 3 [(0, .ref (h 0)), (1, .int (iz a))] := hl
  refine lv_aload_n hF.1 hF.2.1 dL_drop_0 rfl (lv_at hl 0 rfl) ?_
  refine lv_iload_n hF.1 hF.2.1 dL_drop_1 rfl (lv_at hl 1 rfl) ?_
  refine z_hcv (k := 2) (S := (Nat → Nat → Int)) (w := (fun σ9 => gC c h σ9 κ ω)) (P := (fun σ9 => thD σ a = 0 ∧ σ9 = u2 σ 14 a.toNat 0 ∧ GI σ9)) (PX := fun E9 => (E9 = E98 ∧ thD σ a = 1) ∨ (E9 = E67 ∧ thD σ a = 2)) (g := gC c h σ κ ω) (z_xrunV (rm := { frames := 7, cells := 2, slots := 6 * 2, locals := 103 }) hF hK hX hz hA hP hS (c_X3_drop l h D c σ κ ω hinj hG a ha hst _) (gIn_V mp_5 mw_651 mw_652 mw_86 mw_184) rfl rfl ⟨rfl, by decide, by decide, rfl⟩ ⟨(Nat.le_of_ble_eq_true rfl), (Nat.le_of_ble_eq_true rfl)⟩ (k := 0) (T := TX3) (N := 14) (by decide) rfl rfl rfl (As := [.int (iz a)]) (rest := []) rfl hl.1 rfl (Nat.le_of_ble_eq_true rfl) dL_drop_2 ⟨(Nat.le_of_ble_eq_true rfl), (Nat.le_of_ble_eq_true rfl)⟩) hz hA hS (fun E9 ce q9 H locs hpx hP hS hce hcv hcl => ?_) (fun v H locs hp hP hS => ?_)
  · rcases hpx with ⟨rfl, hpx⟩ | ⟨rfl, hpx⟩
    · refine z_hnd hF hK (pre := []) (suf := [(0, 6, 11, 20)]) htab (fun _ q => absurd q List.not_mem_nil) (by decide) (by decide) mp_0 (NW_mem (by decide +kernel) rfl) hce hcv hcl ?_
      refine lv_astore_n hF.1 hF.2.1 dL_drop_7 rfl hl (by decide) rfl (fun ls _ => ?_)
      refine zi_bipush hF.1 hF.2.1 dL_drop_8 rfl ?_
      exact z_sreti (w := gS c h) (u := (σ, κ, ω)) (P := (fun (k : Int) (u : S3) => (k = 0 ∧ thD σ a = 0 ∧ u.1 = u2 σ 14 a.toNat 0 ∧ GI u.1 ∧ u.2.2 = ω) ∨ (u = (σ, κ, ω) ∧ ((k = -71 ∧ thD σ a = 1) ∨ (k = -73 ∧ thD σ a = 2))))) hF hr hlocks hP hS (Nat.le_of_ble_eq_true rfl) (Nat.le_of_ble_eq_true rfl) rfl (Or.inr ⟨rfl, Or.inl ⟨rfl, hpx⟩⟩) dL_drop_10
    · refine z_hnd hF hK (pre := [(0, 6, 7, 16)]) (suf := []) htab (List.forall_mem_cons.mpr ⟨⟨by decide, E98, mp_0, hN.2.1⟩, fun _ q => absurd q List.not_mem_nil⟩) (by decide) (by decide) mp_2 (NW_mem (by decide +kernel) rfl) hce hcv hcl ?_
      refine lv_astore_n hF.1 hF.2.1 dL_drop_11 rfl hl (by decide) rfl (fun ls _ => ?_)
      refine zi_bipush hF.1 hF.2.1 dL_drop_12 rfl ?_
      exact z_sreti (w := gS c h) (u := (σ, κ, ω)) (P := (fun (k : Int) (u : S3) => (k = 0 ∧ thD σ a = 0 ∧ u.1 = u2 σ 14 a.toNat 0 ∧ GI u.1 ∧ u.2.2 = ω) ∨ (u = (σ, κ, ω) ∧ ((k = -71 ∧ thD σ a = 1) ∨ (k = -73 ∧ thD σ a = 2))))) hF hr hlocks hP hS (Nat.le_of_ble_eq_true rfl) (Nat.le_of_ble_eq_true rfl) rfl (Or.inr ⟨rfl, Or.inr (⟨rfl, hpx⟩)⟩) dL_drop_14
  · refine zi_const hF.1 hF.2.1 dL_drop_5 ?_
    exact z_sreti (w := gS c h) (u := (v, κ, ω)) (P := (fun (k : Int) (u : S3) => (k = 0 ∧ thD σ a = 0 ∧ u.1 = u2 σ 14 a.toNat 0 ∧ GI u.1 ∧ u.2.2 = ω) ∨ (u = (σ, κ, ω) ∧ ((k = -71 ∧ thD σ a = 1) ∨ (k = -73 ∧ thD σ a = 2))))) hF hr hlocks hP hS (Nat.le_of_ble_eq_true rfl) (Nat.le_of_ble_eq_true rfl) rfl (Or.inl ⟨rfl, hp.1, hp.2.1, hp.2.2, rfl⟩) dL_drop_6

set_option maxRecDepth 100000 in
set_option maxHeartbeats 4000000 in
theorem c_L_type (l : Launch) (h : Nat → Nat) (D : va_G) (c : Nat → ClassId) (σ κ : Nat → Nat → Int) (ω : Nat × (Nat → Int32) × Int32) (hinj : ∀ i j, i < 32 → j < 32 → h i = h j → i = j) (hG : GI σ) (ch : Int) (hch : -2147483648 ≤ ch ∧ ch ≤ 2147483647) (hn : ω.1 ≤ 6) (hst : l.stackTraces = false) :
    ∀ sz, Met l yL_type (Cond.codeWith yL_type cL_type 3 (some .int) [(0, 5, 6, 18), (0, 5, 10, 20)] :: UW) { frames := 8, cells := 2, slots := 6 * 2, locals := 125 } (zPE zNCx [.ref (h 0), .int (iz ch)] 32 h D (gT c) sz (gC c h σ κ ω)) (va_Qi (fun r (u : Int × S3) => r = iz u.1 ∧ (fun (k : Int) (u : S3) => (∃ z : Int, k = z ∧ (97 ≤ ch ∧ ch ≤ 122) ∧ ω.1 < 6 ∧ z = (ω.1 : Int) + 1 ∧ u.1 = σ ∧ u.2.2 = (ω.1 + 1, upd ω.2.1 ω.1 (iz ch), ω.2.2)) ∨ (u = (σ, κ, ω) ∧ ((k = -72 ∧ ¬ (97 ≤ ch ∧ ch ≤ 122)) ∨ (k = -73 ∧ (97 ≤ ch ∧ ch ≤ 122) ∧ ω.1 = 6)))) u.1 u.2) (fun u t => zB 32 h D (gS c h u.2) t.heap) (zA 32 h sz)) 2 (6 * 2) (zA 32 h sz) := by
  refine zHM_of (by decide) (Nat.le_of_ble_eq_true rfl) ?_
  intro p e s m below meth cd ls ⟨hF, hr, hlocks, hK, hX⟩ htab hN hP hl
  have hz : zD (zA 32 h s.heap.size) 32 h := zD.self hinj s.heap.size
  have hA : ∀ q, s.heap.size ≤ q → zA 32 h s.heap.size q := zA_new
  generalize zA 32 h s.heap.size = A at hz hA hX ⊢
  have hS : va_S A s.heap s.heap [] := va_S.rf
  have hl : lv_has ls 3 [(0, .ref (h 0)), (1, .int (iz ch))] := hl
  refine lv_aload_n hF.1 hF.2.1 dL_type_0 rfl (lv_at hl 0 rfl) ?_
  refine lv_iload_n hF.1 hF.2.1 dL_type_1 rfl (lv_at hl 1 rfl) ?_
  refine z_hci (k := 2) (S := Unit) (w := (fun _ => gC c h σ κ (ω.1 + 1, upd ω.2.1 ω.1 (iz ch), ω.2.2))) (P := (fun z _ => (97 ≤ ch ∧ ch ≤ 122) ∧ ω.1 < 6 ∧ z = (ω.1 : Int) + 1)) (PX := fun E9 => (E9 = E206 ∧ ¬ (97 ≤ ch ∧ ch ≤ 122)) ∨ (E9 = E67 ∧ (97 ≤ ch ∧ ch ≤ 122) ∧ ω.1 = 6)) (g := gC c h σ κ ω) (z_xrunV (rm := { frames := 7, cells := 2, slots := 6 * 2, locals := 104 }) hF hK hX hz hA hP hS (c_X3_type l h D c σ κ ω hinj hG ch hch hn hst _) (gIn_V mp_6 mw_660 mw_661 mw_86 mw_296) rfl rfl ⟨rfl, by decide, by decide, rfl⟩ ⟨(Nat.le_of_ble_eq_true rfl), (Nat.le_of_ble_eq_true rfl)⟩ (k := 0) (T := TX3) (N := 14) (by decide) rfl rfl rfl (As := [.int (iz ch)]) (rest := []) rfl hl.1 rfl (Nat.le_of_ble_eq_true rfl) dL_type_2 ⟨(Nat.le_of_ble_eq_true rfl), (Nat.le_of_ble_eq_true rfl)⟩) hz hA hS (fun E9 ce q9 H locs hpx hP hS hce hcv hcl => ?_) (fun z v H locs hp hP hS => ?_)
  · rcases hpx with ⟨rfl, hpx⟩ | ⟨rfl, hpx⟩
    · refine z_hnd hF hK (pre := []) (suf := [(0, 5, 10, 20)]) htab (fun _ q => absurd q List.not_mem_nil) (by decide) (by decide) mp_1 (NW_mem (by decide +kernel) rfl) hce hcv hcl ?_
      refine lv_astore_n hF.1 hF.2.1 dL_type_6 rfl hl (by decide) rfl (fun ls _ => ?_)
      refine zi_bipush hF.1 hF.2.1 dL_type_7 rfl ?_
      exact z_sreti (w := gS c h) (u := (σ, κ, ω)) (P := (fun (k : Int) (u : S3) => (∃ z : Int, k = z ∧ (97 ≤ ch ∧ ch ≤ 122) ∧ ω.1 < 6 ∧ z = (ω.1 : Int) + 1 ∧ u.1 = σ ∧ u.2.2 = (ω.1 + 1, upd ω.2.1 ω.1 (iz ch), ω.2.2)) ∨ (u = (σ, κ, ω) ∧ ((k = -72 ∧ ¬ (97 ≤ ch ∧ ch ≤ 122)) ∨ (k = -73 ∧ (97 ≤ ch ∧ ch ≤ 122) ∧ ω.1 = 6))))) hF hr hlocks hP hS (Nat.le_of_ble_eq_true rfl) (Nat.le_of_ble_eq_true rfl) rfl (Or.inr ⟨rfl, Or.inl ⟨rfl, hpx⟩⟩) dL_type_9
    · refine z_hnd hF hK (pre := [(0, 5, 6, 18)]) (suf := []) htab (List.forall_mem_cons.mpr ⟨⟨by decide, E206, mp_1, hN.2.2⟩, fun _ q => absurd q List.not_mem_nil⟩) (by decide) (by decide) mp_2 (NW_mem (by decide +kernel) rfl) hce hcv hcl ?_
      refine lv_astore_n hF.1 hF.2.1 dL_type_10 rfl hl (by decide) rfl (fun ls _ => ?_)
      refine zi_bipush hF.1 hF.2.1 dL_type_11 rfl ?_
      exact z_sreti (w := gS c h) (u := (σ, κ, ω)) (P := (fun (k : Int) (u : S3) => (∃ z : Int, k = z ∧ (97 ≤ ch ∧ ch ≤ 122) ∧ ω.1 < 6 ∧ z = (ω.1 : Int) + 1 ∧ u.1 = σ ∧ u.2.2 = (ω.1 + 1, upd ω.2.1 ω.1 (iz ch), ω.2.2)) ∨ (u = (σ, κ, ω) ∧ ((k = -72 ∧ ¬ (97 ≤ ch ∧ ch ≤ 122)) ∨ (k = -73 ∧ (97 ≤ ch ∧ ch ≤ 122) ∧ ω.1 = 6))))) hF hr hlocks hP hS (Nat.le_of_ble_eq_true rfl) (Nat.le_of_ble_eq_true rfl) rfl (Or.inr ⟨rfl, Or.inr (⟨rfl, hpx⟩)⟩) dL_type_13
  · skip
    exact z_sreti (w := gS c h) (u := (σ, κ, (ω.1 + 1, upd ω.2.1 ω.1 (iz ch), ω.2.2))) (P := (fun (k : Int) (u : S3) => (∃ z : Int, k = z ∧ (97 ≤ ch ∧ ch ≤ 122) ∧ ω.1 < 6 ∧ z = (ω.1 : Int) + 1 ∧ u.1 = σ ∧ u.2.2 = (ω.1 + 1, upd ω.2.1 ω.1 (iz ch), ω.2.2)) ∨ (u = (σ, κ, ω) ∧ ((k = -72 ∧ ¬ (97 ≤ ch ∧ ch ≤ 122)) ∨ (k = -73 ∧ (97 ≤ ch ∧ ch ≤ 122) ∧ ω.1 = 6))))) hF hr hlocks hP hS (Nat.le_of_ble_eq_true rfl) (Nat.le_of_ble_eq_true rfl) rfl (Or.inl ⟨z, rfl, hp.1, hp.2.1, hp.2.2, rfl, rfl⟩) dL_type_5

set_option maxRecDepth 100000 in
set_option maxHeartbeats 4000000 in
theorem c_L_act0 (l : Launch) (h : Nat → Nat) (D : va_G) (c : Nat → ClassId) (σ κ : Nat → Nat → Int) (ω : Nat × (Nat → Int32) × Int32) (hinj : ∀ i j, i < 32 → j < 32 → h i = h j → i = j) (hG : GI σ) (mi : Int) (hmi : -2147483648 ≤ mi ∧ mi ≤ 2147483647) (x0 : Int) (x1 : Int) (hst : l.stackTraces = false) :
    ∀ sz, Met l yL_act (Cond.codeWith yL_act cL_act 6 (some .int) [(0, 217, 218, 16), (0, 217, 223, 18), (0, 217, 228, 20)] :: UW) { frames := 9, cells := 2, slots := 6 * 2, locals := 146 } (zPE zNCx [.ref (h 0), .int (iz 0), .int (iz mi), .int (iz x0), .int (iz x1)] 32 h D (gT c) sz (gC c h σ κ ω)) (va_Qi (fun r (u : Int × S3) => r = iz u.1 ∧ (fun (k : Int) (u : S3) => (∃ z : Int, k = z ∧ MSet σ mi z u.1 0 ∧ u.2.2 = ω) ∨ (u = (σ, κ, ω) ∧ ((k = -72 ∧ thS σ mi = 1) ∨ (k = -73 ∧ thS σ mi = 2)))) u.1 u.2) (fun u t => zB 32 h D (gS c h u.2) t.heap) (zA 32 h sz)) 2 (6 * 2) (zA 32 h sz) := by
  refine zHM_of (by decide) (Nat.le_of_ble_eq_true rfl) ?_
  intro p e s m below meth cd ls ⟨hF, hr, hlocks, hK, hX⟩ htab hN hP hl
  have hz : zD (zA 32 h s.heap.size) 32 h := zD.self hinj s.heap.size
  have hA : ∀ q, s.heap.size ≤ q → zA 32 h s.heap.size q := zA_new
  generalize zA 32 h s.heap.size = A at hz hA hX ⊢
  have hS : va_S A s.heap s.heap [] := va_S.rf
  have hl : lv_has ls 6 [(0, .ref (h 0)), (1, .int (iz 0)), (2, .int (iz mi)), (3, .int (iz x0)), (4, .int (iz x1))] := hl
  refine lv_iload_n hF.1 hF.2.1 dL_act_0 rfl (lv_at hl 1 rfl) ?_
  refine zi_if_ne (tgt := 12) hF.1 hF.2.1 dL_act_1 (by decide) (by decide) (fun q => absurd q (by decide)) (fun _ => ?_)
  refine lv_aload_n hF.1 hF.2.1 dL_act_4 rfl (lv_at hl 0 rfl) ?_
  refine lv_iload_n hF.1 hF.2.1 dL_act_5 rfl (lv_at hl 2 rfl) ?_
  refine z_hci (k := 2) (S := (Nat → Nat → Int)) (w := (fun σ9 => gC c h σ9 κ ω)) (P := (fun z σ9 => MSet σ mi z σ9 0)) (PX := fun E9 => (E9 = E206 ∧ thS σ mi = 1) ∨ (E9 = E67 ∧ thS σ mi = 2)) (g := gC c h σ κ ω) (z_xrunV (rm := { frames := 8, cells := 2, slots := 6 * 2, locals := 124 }) hF hK hX hz hA hP hS (c_X3_startSet l h D c σ κ ω hinj hG mi hmi hst _) (gIn_V mp_7 mw_629 mw_630 mw_86 mw_87) rfl rfl ⟨rfl, by decide, by decide, rfl⟩ ⟨(Nat.le_of_ble_eq_true rfl), (Nat.le_of_ble_eq_true rfl)⟩ (k := 0) (T := TX3) (N := 14) (by decide) rfl rfl rfl (As := [.int (iz mi)]) (rest := []) rfl hl.1 rfl (Nat.le_of_ble_eq_true rfl) dL_act_6 ⟨(Nat.le_of_ble_eq_true rfl), (Nat.le_of_ble_eq_true rfl)⟩) hz hA hS (fun E9 ce q9 H locs hpx hP hS hce hcv hcl => ?_) (fun z v H locs hp hP hS => ?_)
  · rcases hpx with ⟨rfl, hpx⟩ | ⟨rfl, hpx⟩
    · refine z_hnd hF hK (pre := [(0, 217, 218, 16)]) (suf := [(0, 217, 228, 20)]) htab (List.forall_mem_cons.mpr ⟨⟨by decide, E98, mp_0, hN.1⟩, fun _ q => absurd q List.not_mem_nil⟩) (by decide) (by decide) mp_1 (NW_mem (by decide +kernel) rfl) hce hcv hcl ?_
      refine lv_astore hF.1 hF.2.1 dL_act_223 hl (by decide) rfl (fun ls _ => ?_)
      refine zi_bipush hF.1 hF.2.1 dL_act_225 rfl ?_
      exact z_sreti (w := gS c h) (u := (σ, κ, ω)) (P := (fun (k : Int) (u : S3) => (∃ z : Int, k = z ∧ MSet σ mi z u.1 0 ∧ u.2.2 = ω) ∨ (u = (σ, κ, ω) ∧ ((k = -72 ∧ thS σ mi = 1) ∨ (k = -73 ∧ thS σ mi = 2))))) hF hr hlocks hP hS (Nat.le_of_ble_eq_true rfl) (Nat.le_of_ble_eq_true rfl) rfl (Or.inr ⟨rfl, Or.inl ⟨rfl, hpx⟩⟩) dL_act_227
    · refine z_hnd hF hK (pre := [(0, 217, 218, 16), (0, 217, 223, 18)]) (suf := []) htab (List.forall_mem_cons.mpr ⟨⟨by decide, E98, mp_0, hN.2.1⟩, List.forall_mem_cons.mpr ⟨⟨by decide, E206, mp_1, hN.2.2⟩, fun _ q => absurd q List.not_mem_nil⟩⟩) (by decide) (by decide) mp_2 (NW_mem (by decide +kernel) rfl) hce hcv hcl ?_
      refine lv_astore hF.1 hF.2.1 dL_act_228 hl (by decide) rfl (fun ls _ => ?_)
      refine zi_bipush hF.1 hF.2.1 dL_act_230 rfl ?_
      exact z_sreti (w := gS c h) (u := (σ, κ, ω)) (P := (fun (k : Int) (u : S3) => (∃ z : Int, k = z ∧ MSet σ mi z u.1 0 ∧ u.2.2 = ω) ∨ (u = (σ, κ, ω) ∧ ((k = -72 ∧ thS σ mi = 1) ∨ (k = -73 ∧ thS σ mi = 2))))) hF hr hlocks hP hS (Nat.le_of_ble_eq_true rfl) (Nat.le_of_ble_eq_true rfl) rfl (Or.inr ⟨rfl, Or.inr (⟨rfl, hpx⟩)⟩) dL_act_232
  · skip
    refine lv_goto (tgt := 217) hF.1 hF.2.1 dL_act_9 (by decide) ?_
    exact z_sreti (w := gS c h) (u := (v, κ, ω)) (P := (fun (k : Int) (u : S3) => (∃ z : Int, k = z ∧ MSet σ mi z u.1 0 ∧ u.2.2 = ω) ∨ (u = (σ, κ, ω) ∧ ((k = -72 ∧ thS σ mi = 1) ∨ (k = -73 ∧ thS σ mi = 2))))) hF hr hlocks hP hS (Nat.le_of_ble_eq_true rfl) (Nat.le_of_ble_eq_true rfl) rfl (Or.inl ⟨z, rfl, hp, rfl⟩) dL_act_217

set_option maxRecDepth 100000 in
set_option maxHeartbeats 4000000 in
theorem c_L_act1 (l : Launch) (h : Nat → Nat) (D : va_G) (c : Nat → ClassId) (σ κ : Nat → Nat → Int) (ω : Nat × (Nat → Int32) × Int32) (hinj : ∀ i j, i < 32 → j < 32 → h i = h j → i = j) (hG : GI σ) (sg : Int) (hsg : -2147483648 ≤ sg ∧ sg ≤ 2147483647) (mi : Int) (hmi : -2147483648 ≤ mi ∧ mi ≤ 2147483647) (x0 : Int) (hst : l.stackTraces = false) :
    ∀ sz, Met l yL_act (Cond.codeWith yL_act cL_act 6 (some .int) [(0, 217, 218, 16), (0, 217, 223, 18), (0, 217, 228, 20)] :: UW) { frames := 8, cells := 2, slots := 6 * 2, locals := 127 } (zPE zNCx [.ref (h 0), .int (iz 1), .int (iz sg), .int (iz mi), .int (iz x0)] 32 h D (gT c) sz (gC c h σ κ ω)) (va_Qi (fun r (u : Int × S3) => r = iz u.1 ∧ (fun (k : Int) (u : S3) => (∃ z : Int, k = (if iz z = 0 then 0 else 1) ∧ thC sg mi = 0 ∧ CS σ (u2 σ 2 sg.toNat mi) (stFine (u2 σ 2 sg.toNat mi) sg) z u.1 ∧ GI u.1 ∧ u.2.2 = ω) ∨ (u = (σ, κ, ω) ∧ ((k = -71 ∧ thC sg mi = 1) ∨ (k = -72 ∧ thC sg mi = 2)))) u.1 u.2) (fun u t => zB 32 h D (gS c h u.2) t.heap) (zA 32 h sz)) 2 (6 * 2) (zA 32 h sz) := by
  refine zHM_of (by decide) (Nat.le_of_ble_eq_true rfl) ?_
  intro p e s m below meth cd ls ⟨hF, hr, hlocks, hK, hX⟩ htab hN hP hl
  have hz : zD (zA 32 h s.heap.size) 32 h := zD.self hinj s.heap.size
  have hA : ∀ q, s.heap.size ≤ q → zA 32 h s.heap.size q := zA_new
  generalize zA 32 h s.heap.size = A at hz hA hX ⊢
  have hS : va_S A s.heap s.heap [] := va_S.rf
  have hl : lv_has ls 6 [(0, .ref (h 0)), (1, .int (iz 1)), (2, .int (iz sg)), (3, .int (iz mi)), (4, .int (iz x0))] := hl
  refine lv_iload_n hF.1 hF.2.1 dL_act_0 rfl (lv_at hl 1 rfl) ?_
  refine zi_if_ne (tgt := 12) hF.1 hF.2.1 dL_act_1 (by decide) (by decide) (fun _ => ?_) (fun q => absurd q (by decide))
  refine lv_iload_n hF.1 hF.2.1 dL_act_12 rfl (lv_at hl 1 rfl) ?_
  refine zi_const hF.1 hF.2.1 dL_act_13 ?_
  refine zi_icmp_ne (tgt := 34) hF.1 hF.2.1 dL_act_14 (by decide) (by decide) (by decide) (fun q => absurd q (by decide)) (fun _ => ?_)
  refine lv_aload_n hF.1 hF.2.1 dL_act_17 rfl (lv_at hl 0 rfl) ?_
  refine lv_iload_n hF.1 hF.2.1 dL_act_18 rfl (lv_at hl 2 rfl) ?_
  refine lv_iload_n hF.1 hF.2.1 dL_act_19 rfl (lv_at hl 3 rfl) ?_
  refine z_hci (k := 2) (S := ((Nat → Nat → Int) × (Nat → Nat → Int))) (w := (fun u9 => gC c h u9.1 u9.2 ω)) (P := (fun z u9 => thC sg mi = 0 ∧ CS σ (u2 σ 2 sg.toNat mi) (stFine (u2 σ 2 sg.toNat mi) sg) z u9.1 ∧ GI u9.1)) (PX := fun E9 => (E9 = E98 ∧ thC sg mi = 1) ∨ (E9 = E206 ∧ thC sg mi = 2)) (g := gC c h σ κ ω) (z_xrunV (rm := { frames := 7, cells := 2, slots := 6 * 2, locals := 104 }) hF hK hX hz hA hP hS (c_X3_setChange l h D c σ κ ω hinj hG sg hsg mi hmi hst _) (gIn_V mp_8 mw_633 mw_634 mw_86 mw_113) rfl rfl ⟨rfl, by decide, by decide, rfl⟩ ⟨(Nat.le_of_ble_eq_true rfl), (Nat.le_of_ble_eq_true rfl)⟩ (k := 0) (T := TX3) (N := 14) (by decide) rfl rfl rfl (As := [.int (iz sg), .int (iz mi)]) (rest := []) rfl hl.1 rfl (Nat.le_of_ble_eq_true rfl) dL_act_20 ⟨(Nat.le_of_ble_eq_true rfl), (Nat.le_of_ble_eq_true rfl)⟩) hz hA hS (fun E9 ce q9 H locs hpx hP hS hce hcv hcl => ?_) (fun z v H locs hp hP hS => ?_)
  · rcases hpx with ⟨rfl, hpx⟩ | ⟨rfl, hpx⟩
    · refine z_hnd hF hK (pre := []) (suf := [(0, 217, 223, 18), (0, 217, 228, 20)]) htab (fun _ q => absurd q List.not_mem_nil) (by decide) (by decide) mp_0 (NW_mem (by decide +kernel) rfl) hce hcv hcl ?_
      refine lv_astore hF.1 hF.2.1 dL_act_218 hl (by decide) rfl (fun ls _ => ?_)
      refine zi_bipush hF.1 hF.2.1 dL_act_220 rfl ?_
      exact z_sreti (w := gS c h) (u := (σ, κ, ω)) (P := (fun (k : Int) (u : S3) => (∃ z : Int, k = (if iz z = 0 then 0 else 1) ∧ thC sg mi = 0 ∧ CS σ (u2 σ 2 sg.toNat mi) (stFine (u2 σ 2 sg.toNat mi) sg) z u.1 ∧ GI u.1 ∧ u.2.2 = ω) ∨ (u = (σ, κ, ω) ∧ ((k = -71 ∧ thC sg mi = 1) ∨ (k = -72 ∧ thC sg mi = 2))))) hF hr hlocks hP hS (Nat.le_of_ble_eq_true rfl) (Nat.le_of_ble_eq_true rfl) rfl (Or.inr ⟨rfl, Or.inl ⟨rfl, hpx⟩⟩) dL_act_222
    · refine z_hnd hF hK (pre := [(0, 217, 218, 16)]) (suf := [(0, 217, 228, 20)]) htab (List.forall_mem_cons.mpr ⟨⟨by decide, E98, mp_0, hN.1⟩, fun _ q => absurd q List.not_mem_nil⟩) (by decide) (by decide) mp_1 (NW_mem (by decide +kernel) rfl) hce hcv hcl ?_
      refine lv_astore hF.1 hF.2.1 dL_act_223 hl (by decide) rfl (fun ls _ => ?_)
      refine zi_bipush hF.1 hF.2.1 dL_act_225 rfl ?_
      exact z_sreti (w := gS c h) (u := (σ, κ, ω)) (P := (fun (k : Int) (u : S3) => (∃ z : Int, k = (if iz z = 0 then 0 else 1) ∧ thC sg mi = 0 ∧ CS σ (u2 σ 2 sg.toNat mi) (stFine (u2 σ 2 sg.toNat mi) sg) z u.1 ∧ GI u.1 ∧ u.2.2 = ω) ∨ (u = (σ, κ, ω) ∧ ((k = -71 ∧ thC sg mi = 1) ∨ (k = -72 ∧ thC sg mi = 2))))) hF hr hlocks hP hS (Nat.le_of_ble_eq_true rfl) (Nat.le_of_ble_eq_true rfl) rfl (Or.inr ⟨rfl, Or.inr (⟨rfl, hpx⟩)⟩) dL_act_227
  · refine lv_if_eq (tgt := 30) hF.1 hF.2.1 dL_act_23 (by decide) (fun q0 => ?_) (fun q0 => ?_)
    · refine zi_const hF.1 hF.2.1 dL_act_30 ?_
      refine lv_goto (tgt := 217) hF.1 hF.2.1 dL_act_31 (by decide) ?_
      exact z_sreti (w := gS c h) (u := (v.1, v.2, ω)) (P := (fun (k : Int) (u : S3) => (∃ z : Int, k = (if iz z = 0 then 0 else 1) ∧ thC sg mi = 0 ∧ CS σ (u2 σ 2 sg.toNat mi) (stFine (u2 σ 2 sg.toNat mi) sg) z u.1 ∧ GI u.1 ∧ u.2.2 = ω) ∨ (u = (σ, κ, ω) ∧ ((k = -71 ∧ thC sg mi = 1) ∨ (k = -72 ∧ thC sg mi = 2))))) hF hr hlocks hP hS (Nat.le_of_ble_eq_true rfl) (Nat.le_of_ble_eq_true rfl) rfl (Or.inl ⟨z, (if_pos q0).symm, hp.1, hp.2.1, hp.2.2, rfl⟩) dL_act_217
    · refine zi_const hF.1 hF.2.1 dL_act_26 ?_
      refine lv_goto (tgt := 217) hF.1 hF.2.1 dL_act_27 (by decide) ?_
      exact z_sreti (w := gS c h) (u := (v.1, v.2, ω)) (P := (fun (k : Int) (u : S3) => (∃ z : Int, k = (if iz z = 0 then 0 else 1) ∧ thC sg mi = 0 ∧ CS σ (u2 σ 2 sg.toNat mi) (stFine (u2 σ 2 sg.toNat mi) sg) z u.1 ∧ GI u.1 ∧ u.2.2 = ω) ∨ (u = (σ, κ, ω) ∧ ((k = -71 ∧ thC sg mi = 1) ∨ (k = -72 ∧ thC sg mi = 2))))) hF hr hlocks hP hS (Nat.le_of_ble_eq_true rfl) (Nat.le_of_ble_eq_true rfl) rfl (Or.inl ⟨z, (if_neg q0).symm, hp.1, hp.2.1, hp.2.2, rfl⟩) dL_act_217

set_option maxRecDepth 100000 in
set_option maxHeartbeats 4000000 in
theorem c_L_act2 (l : Launch) (h : Nat → Nat) (D : va_G) (c : Nat → ClassId) (σ κ : Nat → Nat → Int) (ω : Nat × (Nat → Int32) × Int32) (hinj : ∀ i j, i < 32 → j < 32 → h i = h j → i = j) (hG : GI σ) (hs : Int) (hhs : -2147483648 ≤ hs ∧ hs ≤ 2147483647) (bd : Int) (hbd : -2147483648 ≤ bd ∧ bd ≤ 2147483647) (x0 : Int) (hst : l.stackTraces = false) :
    ∀ sz, Met l yL_act (Cond.codeWith yL_act cL_act 6 (some .int) [(0, 217, 218, 16), (0, 217, 223, 18), (0, 217, 228, 20)] :: UW) { frames := 8, cells := 2, slots := 6 * 2, locals := 145 } (zPE zNCx [.ref (h 0), .int (iz 2), .int (iz hs), .int (iz bd), .int (iz x0)] 32 h D (gT c) sz (gC c h σ κ ω)) (va_Qi (fun r (u : Int × S3) => r = iz u.1 ∧ (fun (k : Int) (u : S3) => (∃ z : Int, k = (if iz z = 0 then 0 else 1) ∧ thB hs bd = 0 ∧ CS σ (u2 σ 3 hs.toNat bd) (bw (u2 σ 3 hs.toNat bd) 0 1000 = 0) z u.1 ∧ GI u.1 ∧ u.2.2 = ω) ∨ (u = (σ, κ, ω) ∧ ((k = -71 ∧ thB hs bd = 1) ∨ (k = -72 ∧ thB hs bd = 2)))) u.1 u.2) (fun u t => zB 32 h D (gS c h u.2) t.heap) (zA 32 h sz)) 2 (6 * 2) (zA 32 h sz) := by
  refine zHM_of (by decide) (Nat.le_of_ble_eq_true rfl) ?_
  intro p e s m below meth cd ls ⟨hF, hr, hlocks, hK, hX⟩ htab hN hP hl
  have hz : zD (zA 32 h s.heap.size) 32 h := zD.self hinj s.heap.size
  have hA : ∀ q, s.heap.size ≤ q → zA 32 h s.heap.size q := zA_new
  generalize zA 32 h s.heap.size = A at hz hA hX ⊢
  have hS : va_S A s.heap s.heap [] := va_S.rf
  have hl : lv_has ls 6 [(0, .ref (h 0)), (1, .int (iz 2)), (2, .int (iz hs)), (3, .int (iz bd)), (4, .int (iz x0))] := hl
  refine lv_iload_n hF.1 hF.2.1 dL_act_0 rfl (lv_at hl 1 rfl) ?_
  refine zi_if_ne (tgt := 12) hF.1 hF.2.1 dL_act_1 (by decide) (by decide) (fun _ => ?_) (fun q => absurd q (by decide))
  refine lv_iload_n hF.1 hF.2.1 dL_act_12 rfl (lv_at hl 1 rfl) ?_
  refine zi_const hF.1 hF.2.1 dL_act_13 ?_
  refine zi_icmp_ne (tgt := 34) hF.1 hF.2.1 dL_act_14 (by decide) (by decide) (by decide) (fun _ => ?_) (fun q => absurd q (by decide))
  refine lv_iload_n hF.1 hF.2.1 dL_act_34 rfl (lv_at hl 1 rfl) ?_
  refine zi_const hF.1 hF.2.1 dL_act_35 ?_
  refine zi_icmp_ne (tgt := 56) hF.1 hF.2.1 dL_act_36 (by decide) (by decide) (by decide) (fun q => absurd q (by decide)) (fun _ => ?_)
  refine lv_aload_n hF.1 hF.2.1 dL_act_39 rfl (lv_at hl 0 rfl) ?_
  refine lv_iload_n hF.1 hF.2.1 dL_act_40 rfl (lv_at hl 2 rfl) ?_
  refine lv_iload_n hF.1 hF.2.1 dL_act_41 rfl (lv_at hl 3 rfl) ?_
  refine z_hci (k := 2) (S := ((Nat → Nat → Int) × (Nat → Nat → Int))) (w := (fun u9 => gC c h u9.1 u9.2 ω)) (P := (fun z u9 => thB hs bd = 0 ∧ CS σ (u2 σ 3 hs.toNat bd) (bw (u2 σ 3 hs.toNat bd) 0 1000 = 0) z u9.1 ∧ GI u9.1)) (PX := fun E9 => (E9 = E98 ∧ thB hs bd = 1) ∨ (E9 = E206 ∧ thB hs bd = 2)) (g := gC c h σ κ ω) (z_xrunV (rm := { frames := 7, cells := 2, slots := 6 * 2, locals := 122 }) hF hK hX hz hA hP hS (c_X3_setBound l h D c σ κ ω hinj hG hs hhs bd hbd hst _) (gIn_V mp_9 mw_636 mw_637 mw_86 mw_158) rfl rfl ⟨rfl, by decide, by decide, rfl⟩ ⟨(Nat.le_of_ble_eq_true rfl), (Nat.le_of_ble_eq_true rfl)⟩ (k := 0) (T := TX3) (N := 14) (by decide) rfl rfl rfl (As := [.int (iz hs), .int (iz bd)]) (rest := []) rfl hl.1 rfl (Nat.le_of_ble_eq_true rfl) dL_act_42 ⟨(Nat.le_of_ble_eq_true rfl), (Nat.le_of_ble_eq_true rfl)⟩) hz hA hS (fun E9 ce q9 H locs hpx hP hS hce hcv hcl => ?_) (fun z v H locs hp hP hS => ?_)
  · rcases hpx with ⟨rfl, hpx⟩ | ⟨rfl, hpx⟩
    · refine z_hnd hF hK (pre := []) (suf := [(0, 217, 223, 18), (0, 217, 228, 20)]) htab (fun _ q => absurd q List.not_mem_nil) (by decide) (by decide) mp_0 (NW_mem (by decide +kernel) rfl) hce hcv hcl ?_
      refine lv_astore hF.1 hF.2.1 dL_act_218 hl (by decide) rfl (fun ls _ => ?_)
      refine zi_bipush hF.1 hF.2.1 dL_act_220 rfl ?_
      exact z_sreti (w := gS c h) (u := (σ, κ, ω)) (P := (fun (k : Int) (u : S3) => (∃ z : Int, k = (if iz z = 0 then 0 else 1) ∧ thB hs bd = 0 ∧ CS σ (u2 σ 3 hs.toNat bd) (bw (u2 σ 3 hs.toNat bd) 0 1000 = 0) z u.1 ∧ GI u.1 ∧ u.2.2 = ω) ∨ (u = (σ, κ, ω) ∧ ((k = -71 ∧ thB hs bd = 1) ∨ (k = -72 ∧ thB hs bd = 2))))) hF hr hlocks hP hS (Nat.le_of_ble_eq_true rfl) (Nat.le_of_ble_eq_true rfl) rfl (Or.inr ⟨rfl, Or.inl ⟨rfl, hpx⟩⟩) dL_act_222
    · refine z_hnd hF hK (pre := [(0, 217, 218, 16)]) (suf := [(0, 217, 228, 20)]) htab (List.forall_mem_cons.mpr ⟨⟨by decide, E98, mp_0, hN.1⟩, fun _ q => absurd q List.not_mem_nil⟩) (by decide) (by decide) mp_1 (NW_mem (by decide +kernel) rfl) hce hcv hcl ?_
      refine lv_astore hF.1 hF.2.1 dL_act_223 hl (by decide) rfl (fun ls _ => ?_)
      refine zi_bipush hF.1 hF.2.1 dL_act_225 rfl ?_
      exact z_sreti (w := gS c h) (u := (σ, κ, ω)) (P := (fun (k : Int) (u : S3) => (∃ z : Int, k = (if iz z = 0 then 0 else 1) ∧ thB hs bd = 0 ∧ CS σ (u2 σ 3 hs.toNat bd) (bw (u2 σ 3 hs.toNat bd) 0 1000 = 0) z u.1 ∧ GI u.1 ∧ u.2.2 = ω) ∨ (u = (σ, κ, ω) ∧ ((k = -71 ∧ thB hs bd = 1) ∨ (k = -72 ∧ thB hs bd = 2))))) hF hr hlocks hP hS (Nat.le_of_ble_eq_true rfl) (Nat.le_of_ble_eq_true rfl) rfl (Or.inr ⟨rfl, Or.inr (⟨rfl, hpx⟩)⟩) dL_act_227
  · refine lv_if_eq (tgt := 52) hF.1 hF.2.1 dL_act_45 (by decide) (fun q0 => ?_) (fun q0 => ?_)
    · refine zi_const hF.1 hF.2.1 dL_act_52 ?_
      refine lv_goto (tgt := 217) hF.1 hF.2.1 dL_act_53 (by decide) ?_
      exact z_sreti (w := gS c h) (u := (v.1, v.2, ω)) (P := (fun (k : Int) (u : S3) => (∃ z : Int, k = (if iz z = 0 then 0 else 1) ∧ thB hs bd = 0 ∧ CS σ (u2 σ 3 hs.toNat bd) (bw (u2 σ 3 hs.toNat bd) 0 1000 = 0) z u.1 ∧ GI u.1 ∧ u.2.2 = ω) ∨ (u = (σ, κ, ω) ∧ ((k = -71 ∧ thB hs bd = 1) ∨ (k = -72 ∧ thB hs bd = 2))))) hF hr hlocks hP hS (Nat.le_of_ble_eq_true rfl) (Nat.le_of_ble_eq_true rfl) rfl (Or.inl ⟨z, (if_pos q0).symm, hp.1, hp.2.1, hp.2.2, rfl⟩) dL_act_217
    · refine zi_const hF.1 hF.2.1 dL_act_48 ?_
      refine lv_goto (tgt := 217) hF.1 hF.2.1 dL_act_49 (by decide) ?_
      exact z_sreti (w := gS c h) (u := (v.1, v.2, ω)) (P := (fun (k : Int) (u : S3) => (∃ z : Int, k = (if iz z = 0 then 0 else 1) ∧ thB hs bd = 0 ∧ CS σ (u2 σ 3 hs.toNat bd) (bw (u2 σ 3 hs.toNat bd) 0 1000 = 0) z u.1 ∧ GI u.1 ∧ u.2.2 = ω) ∨ (u = (σ, κ, ω) ∧ ((k = -71 ∧ thB hs bd = 1) ∨ (k = -72 ∧ thB hs bd = 2))))) hF hr hlocks hP hS (Nat.le_of_ble_eq_true rfl) (Nat.le_of_ble_eq_true rfl) rfl (Or.inl ⟨z, (if_neg q0).symm, hp.1, hp.2.1, hp.2.2, rfl⟩) dL_act_217

set_option maxRecDepth 100000 in
set_option maxHeartbeats 4000000 in
theorem c_L_act3 (l : Launch) (h : Nat → Nat) (D : va_G) (c : Nat → ClassId) (σ κ : Nat → Nat → Int) (ω : Nat × (Nat → Int32) × Int32) (hinj : ∀ i j, i < 32 → j < 32 → h i = h j → i = j) (hG : GI σ) (hr9 : Int) (hhr9 : -2147483648 ≤ hr9 ∧ hr9 ≤ 2147483647) (wn : Int) (hwn : -2147483648 ≤ wn ∧ wn ≤ 2147483647) (x0 : Int) (hst : l.stackTraces = false) :
    ∀ sz, Met l yL_act (Cond.codeWith yL_act cL_act 6 (some .int) [(0, 217, 218, 16), (0, 217, 223, 18), (0, 217, 228, 20)] :: UW) { frames := 8, cells := 1, slots := 6 * 1, locals := 145 } (zPE zNCx [.ref (h 0), .int (iz 3), .int (iz hr9), .int (iz wn), .int (iz x0)] 32 h D (gT c) sz (gC c h σ κ ω)) (va_Qi (fun r (u : Int × S3) => r = iz u.1 ∧ (fun (k : Int) (u : S3) => (∃ z : Int, k = (if iz z = 0 then 0 else 1) ∧ thW hr9 wn = 0 ∧ CS σ (u2 σ 4 hr9.toNat wn) (bw (u2 σ 4 hr9.toNat wn) (hr9 * 60) (min (hr9 * 60 + 60) 1000) = 0) z u.1 ∧ GI u.1 ∧ u.2.2 = ω) ∨ (u = (σ, κ, ω) ∧ ((k = -71 ∧ thW hr9 wn = 1) ∨ (k = -72 ∧ thW hr9 wn = 2)))) u.1 u.2) (fun u t => zB 32 h D (gS c h u.2) t.heap) (zA 32 h sz)) 1 (6 * 1) (zA 32 h sz) := by
  refine zHM_of (by decide) (Nat.le_of_ble_eq_true rfl) ?_
  intro p e s m below meth cd ls ⟨hF, hr, hlocks, hK, hX⟩ htab hN hP hl
  have hz : zD (zA 32 h s.heap.size) 32 h := zD.self hinj s.heap.size
  have hA : ∀ q, s.heap.size ≤ q → zA 32 h s.heap.size q := zA_new
  generalize zA 32 h s.heap.size = A at hz hA hX ⊢
  have hS : va_S A s.heap s.heap [] := va_S.rf
  have hl : lv_has ls 6 [(0, .ref (h 0)), (1, .int (iz 3)), (2, .int (iz hr9)), (3, .int (iz wn)), (4, .int (iz x0))] := hl
  refine lv_iload_n hF.1 hF.2.1 dL_act_0 rfl (lv_at hl 1 rfl) ?_
  refine zi_if_ne (tgt := 12) hF.1 hF.2.1 dL_act_1 (by decide) (by decide) (fun _ => ?_) (fun q => absurd q (by decide))
  refine lv_iload_n hF.1 hF.2.1 dL_act_12 rfl (lv_at hl 1 rfl) ?_
  refine zi_const hF.1 hF.2.1 dL_act_13 ?_
  refine zi_icmp_ne (tgt := 34) hF.1 hF.2.1 dL_act_14 (by decide) (by decide) (by decide) (fun _ => ?_) (fun q => absurd q (by decide))
  refine lv_iload_n hF.1 hF.2.1 dL_act_34 rfl (lv_at hl 1 rfl) ?_
  refine zi_const hF.1 hF.2.1 dL_act_35 ?_
  refine zi_icmp_ne (tgt := 56) hF.1 hF.2.1 dL_act_36 (by decide) (by decide) (by decide) (fun _ => ?_) (fun q => absurd q (by decide))
  refine lv_iload_n hF.1 hF.2.1 dL_act_56 rfl (lv_at hl 1 rfl) ?_
  refine zi_const hF.1 hF.2.1 dL_act_57 ?_
  refine zi_icmp_ne (tgt := 78) hF.1 hF.2.1 dL_act_58 (by decide) (by decide) (by decide) (fun q => absurd q (by decide)) (fun _ => ?_)
  refine lv_aload_n hF.1 hF.2.1 dL_act_61 rfl (lv_at hl 0 rfl) ?_
  refine lv_iload_n hF.1 hF.2.1 dL_act_62 rfl (lv_at hl 2 rfl) ?_
  refine lv_iload_n hF.1 hF.2.1 dL_act_63 rfl (lv_at hl 3 rfl) ?_
  refine z_hci (k := 1) (S := ((Nat → Nat → Int) × (Nat → Nat → Int))) (w := (fun u9 => gC c h u9.1 u9.2 ω)) (P := (fun z u9 => thW hr9 wn = 0 ∧ CS σ (u2 σ 4 hr9.toNat wn) (bw (u2 σ 4 hr9.toNat wn) (hr9 * 60) (min (hr9 * 60 + 60) 1000) = 0) z u9.1 ∧ GI u9.1)) (PX := fun E9 => (E9 = E98 ∧ thW hr9 wn = 1) ∨ (E9 = E206 ∧ thW hr9 wn = 2)) (g := gC c h σ κ ω) (z_xrunV (rm := { frames := 7, cells := 1, slots := 6 * 1, locals := 122 }) hF hK hX hz hA hP hS (c_X3_setWind l h D c σ κ ω hinj hG hr9 hhr9 wn hwn hst _) (gIn_V mp_10 mw_639 mw_640 mw_86 mw_160) rfl rfl ⟨rfl, by decide, by decide, rfl⟩ ⟨(Nat.le_of_ble_eq_true rfl), (Nat.le_of_ble_eq_true rfl)⟩ (k := 0) (T := TX3) (N := 14) (by decide) rfl rfl rfl (As := [.int (iz hr9), .int (iz wn)]) (rest := []) rfl hl.1 rfl (Nat.le_of_ble_eq_true rfl) dL_act_64 ⟨(Nat.le_of_ble_eq_true rfl), (Nat.le_of_ble_eq_true rfl)⟩) hz hA hS (fun E9 ce q9 H locs hpx hP hS hce hcv hcl => ?_) (fun z v H locs hp hP hS => ?_)
  · rcases hpx with ⟨rfl, hpx⟩ | ⟨rfl, hpx⟩
    · refine z_hnd hF hK (pre := []) (suf := [(0, 217, 223, 18), (0, 217, 228, 20)]) htab (fun _ q => absurd q List.not_mem_nil) (by decide) (by decide) mp_0 (NW_mem (by decide +kernel) rfl) hce hcv hcl ?_
      refine lv_astore hF.1 hF.2.1 dL_act_218 hl (by decide) rfl (fun ls _ => ?_)
      refine zi_bipush hF.1 hF.2.1 dL_act_220 rfl ?_
      exact z_sreti (w := gS c h) (u := (σ, κ, ω)) (P := (fun (k : Int) (u : S3) => (∃ z : Int, k = (if iz z = 0 then 0 else 1) ∧ thW hr9 wn = 0 ∧ CS σ (u2 σ 4 hr9.toNat wn) (bw (u2 σ 4 hr9.toNat wn) (hr9 * 60) (min (hr9 * 60 + 60) 1000) = 0) z u.1 ∧ GI u.1 ∧ u.2.2 = ω) ∨ (u = (σ, κ, ω) ∧ ((k = -71 ∧ thW hr9 wn = 1) ∨ (k = -72 ∧ thW hr9 wn = 2))))) hF hr hlocks hP hS (Nat.le_of_ble_eq_true rfl) (Nat.le_of_ble_eq_true rfl) rfl (Or.inr ⟨rfl, Or.inl ⟨rfl, hpx⟩⟩) dL_act_222
    · refine z_hnd hF hK (pre := [(0, 217, 218, 16)]) (suf := [(0, 217, 228, 20)]) htab (List.forall_mem_cons.mpr ⟨⟨by decide, E98, mp_0, hN.1⟩, fun _ q => absurd q List.not_mem_nil⟩) (by decide) (by decide) mp_1 (NW_mem (by decide +kernel) rfl) hce hcv hcl ?_
      refine lv_astore hF.1 hF.2.1 dL_act_223 hl (by decide) rfl (fun ls _ => ?_)
      refine zi_bipush hF.1 hF.2.1 dL_act_225 rfl ?_
      exact z_sreti (w := gS c h) (u := (σ, κ, ω)) (P := (fun (k : Int) (u : S3) => (∃ z : Int, k = (if iz z = 0 then 0 else 1) ∧ thW hr9 wn = 0 ∧ CS σ (u2 σ 4 hr9.toNat wn) (bw (u2 σ 4 hr9.toNat wn) (hr9 * 60) (min (hr9 * 60 + 60) 1000) = 0) z u.1 ∧ GI u.1 ∧ u.2.2 = ω) ∨ (u = (σ, κ, ω) ∧ ((k = -71 ∧ thW hr9 wn = 1) ∨ (k = -72 ∧ thW hr9 wn = 2))))) hF hr hlocks hP hS (Nat.le_of_ble_eq_true rfl) (Nat.le_of_ble_eq_true rfl) rfl (Or.inr ⟨rfl, Or.inr (⟨rfl, hpx⟩)⟩) dL_act_227
  · refine lv_if_eq (tgt := 74) hF.1 hF.2.1 dL_act_67 (by decide) (fun q0 => ?_) (fun q0 => ?_)
    · refine zi_const hF.1 hF.2.1 dL_act_74 ?_
      refine lv_goto (tgt := 217) hF.1 hF.2.1 dL_act_75 (by decide) ?_
      exact z_sreti (w := gS c h) (u := (v.1, v.2, ω)) (P := (fun (k : Int) (u : S3) => (∃ z : Int, k = (if iz z = 0 then 0 else 1) ∧ thW hr9 wn = 0 ∧ CS σ (u2 σ 4 hr9.toNat wn) (bw (u2 σ 4 hr9.toNat wn) (hr9 * 60) (min (hr9 * 60 + 60) 1000) = 0) z u.1 ∧ GI u.1 ∧ u.2.2 = ω) ∨ (u = (σ, κ, ω) ∧ ((k = -71 ∧ thW hr9 wn = 1) ∨ (k = -72 ∧ thW hr9 wn = 2))))) hF hr hlocks hP hS (Nat.le_of_ble_eq_true rfl) (Nat.le_of_ble_eq_true rfl) rfl (Or.inl ⟨z, (if_pos q0).symm, hp.1, hp.2.1, hp.2.2, rfl⟩) dL_act_217
    · refine zi_const hF.1 hF.2.1 dL_act_70 ?_
      refine lv_goto (tgt := 217) hF.1 hF.2.1 dL_act_71 (by decide) ?_
      exact z_sreti (w := gS c h) (u := (v.1, v.2, ω)) (P := (fun (k : Int) (u : S3) => (∃ z : Int, k = (if iz z = 0 then 0 else 1) ∧ thW hr9 wn = 0 ∧ CS σ (u2 σ 4 hr9.toNat wn) (bw (u2 σ 4 hr9.toNat wn) (hr9 * 60) (min (hr9 * 60 + 60) 1000) = 0) z u.1 ∧ GI u.1 ∧ u.2.2 = ω) ∨ (u = (σ, κ, ω) ∧ ((k = -71 ∧ thW hr9 wn = 1) ∨ (k = -72 ∧ thW hr9 wn = 2))))) hF hr hlocks hP hS (Nat.le_of_ble_eq_true rfl) (Nat.le_of_ble_eq_true rfl) rfl (Or.inl ⟨z, (if_neg q0).symm, hp.1, hp.2.1, hp.2.2, rfl⟩) dL_act_217

set_option maxRecDepth 100000 in
set_option maxHeartbeats 4000000 in
theorem c_L_act4 (l : Launch) (h : Nat → Nat) (D : va_G) (c : Nat → ClassId) (σ κ : Nat → Nat → Int) (ω : Nat × (Nat → Int32) × Int32) (hinj : ∀ i j, i < 32 → j < 32 → h i = h j → i = j) (hG : GI σ) (a : Int) (ha : -2147483648 ≤ a ∧ a ≤ 2147483647) (mi : Int) (hmi : -2147483648 ≤ mi ∧ mi ≤ 2147483647) (x0 : Int) (hst : l.stackTraces = false) :
    ∀ sz, Met l yL_act (Cond.codeWith yL_act cL_act 6 (some .int) [(0, 217, 218, 16), (0, 217, 223, 18), (0, 217, 228, 20)] :: UW) { frames := 9, cells := 3, slots := 6 * 3, locals := 167 } (zPE zNCx [.ref (h 0), .int (iz 4), .int (iz a), .int (iz mi), .int (iz x0)] 32 h D (gT c) sz (gC c h σ κ ω)) (va_Qi (fun r (u : Int × S3) => r = iz u.1 ∧ (fun (k : Int) (u : S3) => (∃ z : Int, k = (if iz z = 0 then 0 else 1) ∧ thM σ a mi = 0 ∧ CS σ (u2 σ 8 a.toNat mi) (bby (u2 σ 8 a.toNat mi) a.toNat = 0) z u.1 ∧ GI u.1 ∧ u.2.2 = ω) ∨ (u = (σ, κ, ω) ∧ ((k = -71 ∧ thM σ a mi = 1) ∨ (k = -72 ∧ thM σ a mi = 2) ∨ (k = -73 ∧ thM σ a mi = 3)))) u.1 u.2) (fun u t => zB 32 h D (gS c h u.2) t.heap) (zA 32 h sz)) 3 (6 * 3) (zA 32 h sz) := by
  refine zHM_of (by decide) (Nat.le_of_ble_eq_true rfl) ?_
  intro p e s m below meth cd ls ⟨hF, hr, hlocks, hK, hX⟩ htab hN hP hl
  have hz : zD (zA 32 h s.heap.size) 32 h := zD.self hinj s.heap.size
  have hA : ∀ q, s.heap.size ≤ q → zA 32 h s.heap.size q := zA_new
  generalize zA 32 h s.heap.size = A at hz hA hX ⊢
  have hS : va_S A s.heap s.heap [] := va_S.rf
  have hl : lv_has ls 6 [(0, .ref (h 0)), (1, .int (iz 4)), (2, .int (iz a)), (3, .int (iz mi)), (4, .int (iz x0))] := hl
  refine lv_iload_n hF.1 hF.2.1 dL_act_0 rfl (lv_at hl 1 rfl) ?_
  refine zi_if_ne (tgt := 12) hF.1 hF.2.1 dL_act_1 (by decide) (by decide) (fun _ => ?_) (fun q => absurd q (by decide))
  refine lv_iload_n hF.1 hF.2.1 dL_act_12 rfl (lv_at hl 1 rfl) ?_
  refine zi_const hF.1 hF.2.1 dL_act_13 ?_
  refine zi_icmp_ne (tgt := 34) hF.1 hF.2.1 dL_act_14 (by decide) (by decide) (by decide) (fun _ => ?_) (fun q => absurd q (by decide))
  refine lv_iload_n hF.1 hF.2.1 dL_act_34 rfl (lv_at hl 1 rfl) ?_
  refine zi_const hF.1 hF.2.1 dL_act_35 ?_
  refine zi_icmp_ne (tgt := 56) hF.1 hF.2.1 dL_act_36 (by decide) (by decide) (by decide) (fun _ => ?_) (fun q => absurd q (by decide))
  refine lv_iload_n hF.1 hF.2.1 dL_act_56 rfl (lv_at hl 1 rfl) ?_
  refine zi_const hF.1 hF.2.1 dL_act_57 ?_
  refine zi_icmp_ne (tgt := 78) hF.1 hF.2.1 dL_act_58 (by decide) (by decide) (by decide) (fun _ => ?_) (fun q => absurd q (by decide))
  refine lv_iload_n hF.1 hF.2.1 dL_act_78 rfl (lv_at hl 1 rfl) ?_
  refine zi_const hF.1 hF.2.1 dL_act_79 ?_
  refine zi_icmp_ne (tgt := 100) hF.1 hF.2.1 dL_act_80 (by decide) (by decide) (by decide) (fun q => absurd q (by decide)) (fun _ => ?_)
  refine lv_aload_n hF.1 hF.2.1 dL_act_83 rfl (lv_at hl 0 rfl) ?_
  refine lv_iload_n hF.1 hF.2.1 dL_act_84 rfl (lv_at hl 2 rfl) ?_
  refine lv_iload_n hF.1 hF.2.1 dL_act_85 rfl (lv_at hl 3 rfl) ?_
  refine z_hci (k := 3) (S := ((Nat → Nat → Int) × (Nat → Nat → Int))) (w := (fun u9 => gC c h u9.1 u9.2 ω)) (P := (fun z u9 => thM σ a mi = 0 ∧ CS σ (u2 σ 8 a.toNat mi) (bby (u2 σ 8 a.toNat mi) a.toNat = 0) z u9.1 ∧ GI u9.1)) (PX := fun E9 => (E9 = E98 ∧ thM σ a mi = 1) ∨ (E9 = E206 ∧ thM σ a mi = 2) ∨ (E9 = E67 ∧ thM σ a mi = 3)) (g := gC c h σ κ ω) (z_xrunV (rm := { frames := 8, cells := 3, slots := 6 * 3, locals := 143 }) hF hK hX hz hA hP hS (c_X3_move l h D c σ κ ω hinj hG a ha mi hmi hst _) (gIn_V mp_11 mw_648 mw_649 mw_86 mw_183) rfl rfl ⟨rfl, by decide, by decide, rfl⟩ ⟨(Nat.le_of_ble_eq_true rfl), (Nat.le_of_ble_eq_true rfl)⟩ (k := 0) (T := TX3) (N := 14) (by decide) rfl rfl rfl (As := [.int (iz a), .int (iz mi)]) (rest := []) rfl hl.1 rfl (Nat.le_of_ble_eq_true rfl) dL_act_86 ⟨(Nat.le_of_ble_eq_true rfl), (Nat.le_of_ble_eq_true rfl)⟩) hz hA hS (fun E9 ce q9 H locs hpx hP hS hce hcv hcl => ?_) (fun z v H locs hp hP hS => ?_)
  · rcases hpx with ⟨rfl, hpx⟩ | ⟨rfl, hpx⟩ | ⟨rfl, hpx⟩
    · refine z_hnd hF hK (pre := []) (suf := [(0, 217, 223, 18), (0, 217, 228, 20)]) htab (fun _ q => absurd q List.not_mem_nil) (by decide) (by decide) mp_0 (NW_mem (by decide +kernel) rfl) hce hcv hcl ?_
      refine lv_astore hF.1 hF.2.1 dL_act_218 hl (by decide) rfl (fun ls _ => ?_)
      refine zi_bipush hF.1 hF.2.1 dL_act_220 rfl ?_
      exact z_sreti (w := gS c h) (u := (σ, κ, ω)) (P := (fun (k : Int) (u : S3) => (∃ z : Int, k = (if iz z = 0 then 0 else 1) ∧ thM σ a mi = 0 ∧ CS σ (u2 σ 8 a.toNat mi) (bby (u2 σ 8 a.toNat mi) a.toNat = 0) z u.1 ∧ GI u.1 ∧ u.2.2 = ω) ∨ (u = (σ, κ, ω) ∧ ((k = -71 ∧ thM σ a mi = 1) ∨ (k = -72 ∧ thM σ a mi = 2) ∨ (k = -73 ∧ thM σ a mi = 3))))) hF hr hlocks hP hS (Nat.le_of_ble_eq_true rfl) (Nat.le_of_ble_eq_true rfl) rfl (Or.inr ⟨rfl, Or.inl ⟨rfl, hpx⟩⟩) dL_act_222
    · refine z_hnd hF hK (pre := [(0, 217, 218, 16)]) (suf := [(0, 217, 228, 20)]) htab (List.forall_mem_cons.mpr ⟨⟨by decide, E98, mp_0, hN.1⟩, fun _ q => absurd q List.not_mem_nil⟩) (by decide) (by decide) mp_1 (NW_mem (by decide +kernel) rfl) hce hcv hcl ?_
      refine lv_astore hF.1 hF.2.1 dL_act_223 hl (by decide) rfl (fun ls _ => ?_)
      refine zi_bipush hF.1 hF.2.1 dL_act_225 rfl ?_
      exact z_sreti (w := gS c h) (u := (σ, κ, ω)) (P := (fun (k : Int) (u : S3) => (∃ z : Int, k = (if iz z = 0 then 0 else 1) ∧ thM σ a mi = 0 ∧ CS σ (u2 σ 8 a.toNat mi) (bby (u2 σ 8 a.toNat mi) a.toNat = 0) z u.1 ∧ GI u.1 ∧ u.2.2 = ω) ∨ (u = (σ, κ, ω) ∧ ((k = -71 ∧ thM σ a mi = 1) ∨ (k = -72 ∧ thM σ a mi = 2) ∨ (k = -73 ∧ thM σ a mi = 3))))) hF hr hlocks hP hS (Nat.le_of_ble_eq_true rfl) (Nat.le_of_ble_eq_true rfl) rfl (Or.inr ⟨rfl, Or.inr (Or.inl ⟨rfl, hpx⟩)⟩) dL_act_227
    · refine z_hnd hF hK (pre := [(0, 217, 218, 16), (0, 217, 223, 18)]) (suf := []) htab (List.forall_mem_cons.mpr ⟨⟨by decide, E98, mp_0, hN.2.1⟩, List.forall_mem_cons.mpr ⟨⟨by decide, E206, mp_1, hN.2.2⟩, fun _ q => absurd q List.not_mem_nil⟩⟩) (by decide) (by decide) mp_2 (NW_mem (by decide +kernel) rfl) hce hcv hcl ?_
      refine lv_astore hF.1 hF.2.1 dL_act_228 hl (by decide) rfl (fun ls _ => ?_)
      refine zi_bipush hF.1 hF.2.1 dL_act_230 rfl ?_
      exact z_sreti (w := gS c h) (u := (σ, κ, ω)) (P := (fun (k : Int) (u : S3) => (∃ z : Int, k = (if iz z = 0 then 0 else 1) ∧ thM σ a mi = 0 ∧ CS σ (u2 σ 8 a.toNat mi) (bby (u2 σ 8 a.toNat mi) a.toNat = 0) z u.1 ∧ GI u.1 ∧ u.2.2 = ω) ∨ (u = (σ, κ, ω) ∧ ((k = -71 ∧ thM σ a mi = 1) ∨ (k = -72 ∧ thM σ a mi = 2) ∨ (k = -73 ∧ thM σ a mi = 3))))) hF hr hlocks hP hS (Nat.le_of_ble_eq_true rfl) (Nat.le_of_ble_eq_true rfl) rfl (Or.inr ⟨rfl, Or.inr (Or.inr (⟨rfl, hpx⟩))⟩) dL_act_232
  · refine lv_if_eq (tgt := 96) hF.1 hF.2.1 dL_act_89 (by decide) (fun q0 => ?_) (fun q0 => ?_)
    · refine zi_const hF.1 hF.2.1 dL_act_96 ?_
      refine lv_goto (tgt := 217) hF.1 hF.2.1 dL_act_97 (by decide) ?_
      exact z_sreti (w := gS c h) (u := (v.1, v.2, ω)) (P := (fun (k : Int) (u : S3) => (∃ z : Int, k = (if iz z = 0 then 0 else 1) ∧ thM σ a mi = 0 ∧ CS σ (u2 σ 8 a.toNat mi) (bby (u2 σ 8 a.toNat mi) a.toNat = 0) z u.1 ∧ GI u.1 ∧ u.2.2 = ω) ∨ (u = (σ, κ, ω) ∧ ((k = -71 ∧ thM σ a mi = 1) ∨ (k = -72 ∧ thM σ a mi = 2) ∨ (k = -73 ∧ thM σ a mi = 3))))) hF hr hlocks hP hS (Nat.le_of_ble_eq_true rfl) (Nat.le_of_ble_eq_true rfl) rfl (Or.inl ⟨z, (if_pos q0).symm, hp.1, hp.2.1, hp.2.2, rfl⟩) dL_act_217
    · refine zi_const hF.1 hF.2.1 dL_act_92 ?_
      refine lv_goto (tgt := 217) hF.1 hF.2.1 dL_act_93 (by decide) ?_
      exact z_sreti (w := gS c h) (u := (v.1, v.2, ω)) (P := (fun (k : Int) (u : S3) => (∃ z : Int, k = (if iz z = 0 then 0 else 1) ∧ thM σ a mi = 0 ∧ CS σ (u2 σ 8 a.toNat mi) (bby (u2 σ 8 a.toNat mi) a.toNat = 0) z u.1 ∧ GI u.1 ∧ u.2.2 = ω) ∨ (u = (σ, κ, ω) ∧ ((k = -71 ∧ thM σ a mi = 1) ∨ (k = -72 ∧ thM σ a mi = 2) ∨ (k = -73 ∧ thM σ a mi = 3))))) hF hr hlocks hP hS (Nat.le_of_ble_eq_true rfl) (Nat.le_of_ble_eq_true rfl) rfl (Or.inl ⟨z, (if_neg q0).symm, hp.1, hp.2.1, hp.2.2, rfl⟩) dL_act_217

set_option maxRecDepth 100000 in
set_option maxHeartbeats 4000000 in
theorem c_L_act5 (l : Launch) (h : Nat → Nat) (D : va_G) (c : Nat → ClassId) (σ κ : Nat → Nat → Int) (ω : Nat × (Nat → Int32) × Int32) (hinj : ∀ i j, i < 32 → j < 32 → h i = h j → i = j) (hG : GI σ) (a : Int) (ha : -2147483648 ≤ a ∧ a ≤ 2147483647) (x0 : Int) (x1 : Int) (hst : l.stackTraces = false) :
    ∀ sz, Met l yL_act (Cond.codeWith yL_act cL_act 6 (some .int) [(0, 217, 218, 16), (0, 217, 223, 18), (0, 217, 228, 20)] :: UW) { frames := 8, cells := 1, slots := 6 * 1, locals := 124 } (zPE zNCx [.ref (h 0), .int (iz 5), .int (iz a), .int (iz x0), .int (iz x1)] 32 h D (gT c) sz (gC c h σ κ ω)) (va_Qi (fun r (u : Int × S3) => r = iz u.1 ∧ (fun (k : Int) (u : S3) => (∃ z : Int, k = z ∧ th1 σ a = 0 ∧ (z = if σ 14 a.toNat = 0 then -1 else σ 8 a.toNat) ∧ u.1 = σ ∧ u.2.2 = ω) ∨ (u = (σ, κ, ω) ∧ ((k = -71 ∧ th1 σ a = 1)))) u.1 u.2) (fun u t => zB 32 h D (gS c h u.2) t.heap) (zA 32 h sz)) 1 (6 * 1) (zA 32 h sz) := by
  refine zHM_of (by decide) (Nat.le_of_ble_eq_true rfl) ?_
  intro p e s m below meth cd ls ⟨hF, hr, hlocks, hK, hX⟩ htab hN hP hl
  have hz : zD (zA 32 h s.heap.size) 32 h := zD.self hinj s.heap.size
  have hA : ∀ q, s.heap.size ≤ q → zA 32 h s.heap.size q := zA_new
  generalize zA 32 h s.heap.size = A at hz hA hX ⊢
  have hS : va_S A s.heap s.heap [] := va_S.rf
  have hl : lv_has ls 6 [(0, .ref (h 0)), (1, .int (iz 5)), (2, .int (iz a)), (3, .int (iz x0)), (4, .int (iz x1))] := hl
  refine lv_iload_n hF.1 hF.2.1 dL_act_0 rfl (lv_at hl 1 rfl) ?_
  refine zi_if_ne (tgt := 12) hF.1 hF.2.1 dL_act_1 (by decide) (by decide) (fun _ => ?_) (fun q => absurd q (by decide))
  refine lv_iload_n hF.1 hF.2.1 dL_act_12 rfl (lv_at hl 1 rfl) ?_
  refine zi_const hF.1 hF.2.1 dL_act_13 ?_
  refine zi_icmp_ne (tgt := 34) hF.1 hF.2.1 dL_act_14 (by decide) (by decide) (by decide) (fun _ => ?_) (fun q => absurd q (by decide))
  refine lv_iload_n hF.1 hF.2.1 dL_act_34 rfl (lv_at hl 1 rfl) ?_
  refine zi_const hF.1 hF.2.1 dL_act_35 ?_
  refine zi_icmp_ne (tgt := 56) hF.1 hF.2.1 dL_act_36 (by decide) (by decide) (by decide) (fun _ => ?_) (fun q => absurd q (by decide))
  refine lv_iload_n hF.1 hF.2.1 dL_act_56 rfl (lv_at hl 1 rfl) ?_
  refine zi_const hF.1 hF.2.1 dL_act_57 ?_
  refine zi_icmp_ne (tgt := 78) hF.1 hF.2.1 dL_act_58 (by decide) (by decide) (by decide) (fun _ => ?_) (fun q => absurd q (by decide))
  refine lv_iload_n hF.1 hF.2.1 dL_act_78 rfl (lv_at hl 1 rfl) ?_
  refine zi_const hF.1 hF.2.1 dL_act_79 ?_
  refine zi_icmp_ne (tgt := 100) hF.1 hF.2.1 dL_act_80 (by decide) (by decide) (by decide) (fun _ => ?_) (fun q => absurd q (by decide))
  refine lv_iload_n hF.1 hF.2.1 dL_act_100 rfl (lv_at hl 1 rfl) ?_
  refine zi_const hF.1 hF.2.1 dL_act_101 ?_
  refine zi_icmp_ne (tgt := 113) hF.1 hF.2.1 dL_act_102 (by decide) (by decide) (by decide) (fun q => absurd q (by decide)) (fun _ => ?_)
  refine lv_aload_n hF.1 hF.2.1 dL_act_105 rfl (lv_at hl 0 rfl) ?_
  refine lv_iload_n hF.1 hF.2.1 dL_act_106 rfl (lv_at hl 2 rfl) ?_
  refine z_hci (k := 1) (S := Unit) (w := (fun _ => gC c h σ κ ω)) (P := (fun z _ => th1 σ a = 0 ∧ z = if σ 14 a.toNat = 0 then -1 else σ 8 a.toNat)) (PX := fun E9 => (E9 = E98 ∧ th1 σ a = 1)) (g := gC c h σ κ ω) (z_xrunV (rm := { frames := 7, cells := 1, slots := 6 * 1, locals := 103 }) hF hK hX hz hA hP hS (c_X3_start l h D c σ κ ω hinj hG a ha hst _) (gIn_V mp_12 mw_654 mw_655 mw_86 mw_185) rfl rfl ⟨rfl, by decide, by decide, rfl⟩ ⟨(Nat.le_of_ble_eq_true rfl), (Nat.le_of_ble_eq_true rfl)⟩ (k := 0) (T := TX3) (N := 14) (by decide) rfl rfl rfl (As := [.int (iz a)]) (rest := []) rfl hl.1 rfl (Nat.le_of_ble_eq_true rfl) dL_act_107 ⟨(Nat.le_of_ble_eq_true rfl), (Nat.le_of_ble_eq_true rfl)⟩) hz hA hS (fun E9 ce q9 H locs hpx hP hS hce hcv hcl => ?_) (fun z v H locs hp hP hS => ?_)
  · obtain ⟨rfl, hpx⟩ := hpx
    refine z_hnd hF hK (pre := []) (suf := [(0, 217, 223, 18), (0, 217, 228, 20)]) htab (fun _ q => absurd q List.not_mem_nil) (by decide) (by decide) mp_0 (NW_mem (by decide +kernel) rfl) hce hcv hcl ?_
    refine lv_astore hF.1 hF.2.1 dL_act_218 hl (by decide) rfl (fun ls _ => ?_)
    refine zi_bipush hF.1 hF.2.1 dL_act_220 rfl ?_
    exact z_sreti (w := gS c h) (u := (σ, κ, ω)) (P := (fun (k : Int) (u : S3) => (∃ z : Int, k = z ∧ th1 σ a = 0 ∧ (z = if σ 14 a.toNat = 0 then -1 else σ 8 a.toNat) ∧ u.1 = σ ∧ u.2.2 = ω) ∨ (u = (σ, κ, ω) ∧ ((k = -71 ∧ th1 σ a = 1))))) hF hr hlocks hP hS (Nat.le_of_ble_eq_true rfl) (Nat.le_of_ble_eq_true rfl) rfl (Or.inr ⟨rfl, ⟨rfl, hpx⟩⟩) dL_act_222
  · skip
    refine lv_goto (tgt := 217) hF.1 hF.2.1 dL_act_110 (by decide) ?_
    exact z_sreti (w := gS c h) (u := (σ, κ, ω)) (P := (fun (k : Int) (u : S3) => (∃ z : Int, k = z ∧ th1 σ a = 0 ∧ (z = if σ 14 a.toNat = 0 then -1 else σ 8 a.toNat) ∧ u.1 = σ ∧ u.2.2 = ω) ∨ (u = (σ, κ, ω) ∧ ((k = -71 ∧ th1 σ a = 1))))) hF hr hlocks hP hS (Nat.le_of_ble_eq_true rfl) (Nat.le_of_ble_eq_true rfl) rfl (Or.inl ⟨z, rfl, hp.1, hp.2, rfl, rfl⟩) dL_act_217

set_option maxRecDepth 100000 in
set_option maxHeartbeats 4000000 in
theorem c_L_act6 (l : Launch) (h : Nat → Nat) (D : va_G) (c : Nat → ClassId) (σ κ : Nat → Nat → Int) (ω : Nat × (Nat → Int32) × Int32) (hinj : ∀ i j, i < 32 → j < 32 → h i = h j → i = j) (hG : GI σ) (a : Int) (ha : -2147483648 ≤ a ∧ a ≤ 2147483647) (mi : Int) (hmi : -2147483648 ≤ mi ∧ mi ≤ 2147483647) (x0 : Int) (hlen : ∀ k, k < 16 → σ 14 k ≠ 0 → 1 ≤ σ 9 k) (hst : l.stackTraces = false) :
    ∀ sz, Met l yL_act (Cond.codeWith yL_act cL_act 6 (some .int) [(0, 217, 218, 16), (0, 217, 223, 18), (0, 217, 228, 20)] :: UW) { frames := 9, cells := 3, slots := 6 * 3, locals := 149 } (zPE zNCx [.ref (h 0), .int (iz 6), .int (iz a), .int (iz mi), .int (iz x0)] 32 h D (gT c) sz (gC c h σ κ ω)) (va_Qi (fun r (u : Int × S3) => r = iz u.1 ∧ (fun (k : Int) (u : S3) => (∃ z : Int, k = z ∧ thM σ a mi = 0 ∧ (∃ σ9, FFS σ a.toNat mi z σ9) ∧ u.1 = σ ∧ u.2.2 = ω) ∨ (u = (σ, κ, ω) ∧ ((k = -71 ∧ thM σ a mi = 1) ∨ (k = -72 ∧ thM σ a mi = 2) ∨ (k = -73 ∧ thM σ a mi = 3)))) u.1 u.2) (fun u t => zB 32 h D (gS c h u.2) t.heap) (zA 32 h sz)) 3 (6 * 3) (zA 32 h sz) := by
  refine zHM_of (by decide) (Nat.le_of_ble_eq_true rfl) ?_
  intro p e s m below meth cd ls ⟨hF, hr, hlocks, hK, hX⟩ htab hN hP hl
  have hz : zD (zA 32 h s.heap.size) 32 h := zD.self hinj s.heap.size
  have hA : ∀ q, s.heap.size ≤ q → zA 32 h s.heap.size q := zA_new
  generalize zA 32 h s.heap.size = A at hz hA hX ⊢
  have hS : va_S A s.heap s.heap [] := va_S.rf
  have hl : lv_has ls 6 [(0, .ref (h 0)), (1, .int (iz 6)), (2, .int (iz a)), (3, .int (iz mi)), (4, .int (iz x0))] := hl
  refine lv_iload_n hF.1 hF.2.1 dL_act_0 rfl (lv_at hl 1 rfl) ?_
  refine zi_if_ne (tgt := 12) hF.1 hF.2.1 dL_act_1 (by decide) (by decide) (fun _ => ?_) (fun q => absurd q (by decide))
  refine lv_iload_n hF.1 hF.2.1 dL_act_12 rfl (lv_at hl 1 rfl) ?_
  refine zi_const hF.1 hF.2.1 dL_act_13 ?_
  refine zi_icmp_ne (tgt := 34) hF.1 hF.2.1 dL_act_14 (by decide) (by decide) (by decide) (fun _ => ?_) (fun q => absurd q (by decide))
  refine lv_iload_n hF.1 hF.2.1 dL_act_34 rfl (lv_at hl 1 rfl) ?_
  refine zi_const hF.1 hF.2.1 dL_act_35 ?_
  refine zi_icmp_ne (tgt := 56) hF.1 hF.2.1 dL_act_36 (by decide) (by decide) (by decide) (fun _ => ?_) (fun q => absurd q (by decide))
  refine lv_iload_n hF.1 hF.2.1 dL_act_56 rfl (lv_at hl 1 rfl) ?_
  refine zi_const hF.1 hF.2.1 dL_act_57 ?_
  refine zi_icmp_ne (tgt := 78) hF.1 hF.2.1 dL_act_58 (by decide) (by decide) (by decide) (fun _ => ?_) (fun q => absurd q (by decide))
  refine lv_iload_n hF.1 hF.2.1 dL_act_78 rfl (lv_at hl 1 rfl) ?_
  refine zi_const hF.1 hF.2.1 dL_act_79 ?_
  refine zi_icmp_ne (tgt := 100) hF.1 hF.2.1 dL_act_80 (by decide) (by decide) (by decide) (fun _ => ?_) (fun q => absurd q (by decide))
  refine lv_iload_n hF.1 hF.2.1 dL_act_100 rfl (lv_at hl 1 rfl) ?_
  refine zi_const hF.1 hF.2.1 dL_act_101 ?_
  refine zi_icmp_ne (tgt := 113) hF.1 hF.2.1 dL_act_102 (by decide) (by decide) (by decide) (fun _ => ?_) (fun q => absurd q (by decide))
  refine lv_iload_n hF.1 hF.2.1 dL_act_113 rfl (lv_at hl 1 rfl) ?_
  refine zi_bipush hF.1 hF.2.1 dL_act_114 rfl ?_
  refine zi_icmp_ne (tgt := 128) hF.1 hF.2.1 dL_act_116 (by decide) (by decide) (by decide) (fun q => absurd q (by decide)) (fun _ => ?_)
  refine lv_aload_n hF.1 hF.2.1 dL_act_119 rfl (lv_at hl 0 rfl) ?_
  refine lv_iload_n hF.1 hF.2.1 dL_act_120 rfl (lv_at hl 2 rfl) ?_
  refine lv_iload_n hF.1 hF.2.1 dL_act_121 rfl (lv_at hl 3 rfl) ?_
  refine z_hci (k := 3) (S := (Nat → Nat → Int)) (w := (fun κ9 => gC c h σ κ9 ω)) (P := (fun z κ9 => thM σ a mi = 0 ∧ ∃ σ9, FFS σ a.toNat mi z σ9)) (PX := fun E9 => (E9 = E98 ∧ thM σ a mi = 1) ∨ (E9 = E206 ∧ thM σ a mi = 2) ∨ (E9 = E67 ∧ thM σ a mi = 3)) (g := gC c h σ κ ω) (z_xrunV (rm := { frames := 8, cells := 3, slots := 6 * 3, locals := 124 }) hF hK hX hz hA hP hS (c_X3_firstStart l h D c σ κ ω hinj hG a ha mi hmi hlen hst _) (gIn_V mp_13 mw_657 mw_658 mw_86 mw_190) rfl rfl ⟨rfl, by decide, by decide, rfl⟩ ⟨(Nat.le_of_ble_eq_true rfl), (Nat.le_of_ble_eq_true rfl)⟩ (k := 0) (T := TX3) (N := 14) (by decide) rfl rfl rfl (As := [.int (iz a), .int (iz mi)]) (rest := []) rfl hl.1 rfl (Nat.le_of_ble_eq_true rfl) dL_act_122 ⟨(Nat.le_of_ble_eq_true rfl), (Nat.le_of_ble_eq_true rfl)⟩) hz hA hS (fun E9 ce q9 H locs hpx hP hS hce hcv hcl => ?_) (fun z v H locs hp hP hS => ?_)
  · rcases hpx with ⟨rfl, hpx⟩ | ⟨rfl, hpx⟩ | ⟨rfl, hpx⟩
    · refine z_hnd hF hK (pre := []) (suf := [(0, 217, 223, 18), (0, 217, 228, 20)]) htab (fun _ q => absurd q List.not_mem_nil) (by decide) (by decide) mp_0 (NW_mem (by decide +kernel) rfl) hce hcv hcl ?_
      refine lv_astore hF.1 hF.2.1 dL_act_218 hl (by decide) rfl (fun ls _ => ?_)
      refine zi_bipush hF.1 hF.2.1 dL_act_220 rfl ?_
      exact z_sreti (w := gS c h) (u := (σ, κ, ω)) (P := (fun (k : Int) (u : S3) => (∃ z : Int, k = z ∧ thM σ a mi = 0 ∧ (∃ σ9, FFS σ a.toNat mi z σ9) ∧ u.1 = σ ∧ u.2.2 = ω) ∨ (u = (σ, κ, ω) ∧ ((k = -71 ∧ thM σ a mi = 1) ∨ (k = -72 ∧ thM σ a mi = 2) ∨ (k = -73 ∧ thM σ a mi = 3))))) hF hr hlocks hP hS (Nat.le_of_ble_eq_true rfl) (Nat.le_of_ble_eq_true rfl) rfl (Or.inr ⟨rfl, Or.inl ⟨rfl, hpx⟩⟩) dL_act_222
    · refine z_hnd hF hK (pre := [(0, 217, 218, 16)]) (suf := [(0, 217, 228, 20)]) htab (List.forall_mem_cons.mpr ⟨⟨by decide, E98, mp_0, hN.1⟩, fun _ q => absurd q List.not_mem_nil⟩) (by decide) (by decide) mp_1 (NW_mem (by decide +kernel) rfl) hce hcv hcl ?_
      refine lv_astore hF.1 hF.2.1 dL_act_223 hl (by decide) rfl (fun ls _ => ?_)
      refine zi_bipush hF.1 hF.2.1 dL_act_225 rfl ?_
      exact z_sreti (w := gS c h) (u := (σ, κ, ω)) (P := (fun (k : Int) (u : S3) => (∃ z : Int, k = z ∧ thM σ a mi = 0 ∧ (∃ σ9, FFS σ a.toNat mi z σ9) ∧ u.1 = σ ∧ u.2.2 = ω) ∨ (u = (σ, κ, ω) ∧ ((k = -71 ∧ thM σ a mi = 1) ∨ (k = -72 ∧ thM σ a mi = 2) ∨ (k = -73 ∧ thM σ a mi = 3))))) hF hr hlocks hP hS (Nat.le_of_ble_eq_true rfl) (Nat.le_of_ble_eq_true rfl) rfl (Or.inr ⟨rfl, Or.inr (Or.inl ⟨rfl, hpx⟩)⟩) dL_act_227
    · refine z_hnd hF hK (pre := [(0, 217, 218, 16), (0, 217, 223, 18)]) (suf := []) htab (List.forall_mem_cons.mpr ⟨⟨by decide, E98, mp_0, hN.2.1⟩, List.forall_mem_cons.mpr ⟨⟨by decide, E206, mp_1, hN.2.2⟩, fun _ q => absurd q List.not_mem_nil⟩⟩) (by decide) (by decide) mp_2 (NW_mem (by decide +kernel) rfl) hce hcv hcl ?_
      refine lv_astore hF.1 hF.2.1 dL_act_228 hl (by decide) rfl (fun ls _ => ?_)
      refine zi_bipush hF.1 hF.2.1 dL_act_230 rfl ?_
      exact z_sreti (w := gS c h) (u := (σ, κ, ω)) (P := (fun (k : Int) (u : S3) => (∃ z : Int, k = z ∧ thM σ a mi = 0 ∧ (∃ σ9, FFS σ a.toNat mi z σ9) ∧ u.1 = σ ∧ u.2.2 = ω) ∨ (u = (σ, κ, ω) ∧ ((k = -71 ∧ thM σ a mi = 1) ∨ (k = -72 ∧ thM σ a mi = 2) ∨ (k = -73 ∧ thM σ a mi = 3))))) hF hr hlocks hP hS (Nat.le_of_ble_eq_true rfl) (Nat.le_of_ble_eq_true rfl) rfl (Or.inr ⟨rfl, Or.inr (Or.inr (⟨rfl, hpx⟩))⟩) dL_act_232
  · skip
    refine lv_goto (tgt := 217) hF.1 hF.2.1 dL_act_125 (by decide) ?_
    exact z_sreti (w := gS c h) (u := (σ, v, ω)) (P := (fun (k : Int) (u : S3) => (∃ z : Int, k = z ∧ thM σ a mi = 0 ∧ (∃ σ9, FFS σ a.toNat mi z σ9) ∧ u.1 = σ ∧ u.2.2 = ω) ∨ (u = (σ, κ, ω) ∧ ((k = -71 ∧ thM σ a mi = 1) ∨ (k = -72 ∧ thM σ a mi = 2) ∨ (k = -73 ∧ thM σ a mi = 3))))) hF hr hlocks hP hS (Nat.le_of_ble_eq_true rfl) (Nat.le_of_ble_eq_true rfl) rfl (Or.inl ⟨z, rfl, hp.1, hp.2, rfl, rfl⟩) dL_act_217

set_option maxRecDepth 100000 in
set_option maxHeartbeats 4000000 in
theorem c_L_act7 (l : Launch) (h : Nat → Nat) (D : va_G) (c : Nat → ClassId) (σ κ : Nat → Nat → Int) (ω : Nat × (Nat → Int32) × Int32) (hinj : ∀ i j, i < 32 → j < 32 → h i = h j → i = j) (hG : GI σ) (a : Int) (ha : -2147483648 ≤ a ∧ a ≤ 2147483647) (x0 : Int) (x1 : Int) (hn : ω.1 ≤ 6) (hby : ∀ j, j < ω.1 → ∃ x : Int, (97 ≤ x ∧ x ≤ 122) ∧ ω.2.1 j = iz x) (hst : l.stackTraces = false) :
    ∀ sz, Met l yL_act (Cond.codeWith yL_act cL_act 6 (some .int) [(0, 217, 218, 16), (0, 217, 223, 18), (0, 217, 228, 20)] :: UW) { frames := 9, cells := 5, slots := 6 * 5, locals := 202 } (zPE zNCx [.ref (h 0), .int (iz 7), .int (iz a), .int (iz x0), .int (iz x1)] 32 h D (gT c) sz (gC c h σ κ ω)) (va_Qi (fun r (u : Int × S3) => r = iz u.1 ∧ (fun (k : Int) (u : S3) => (∃ z : Int, k = (if iz z = 0 then 0 else 1) ∧ (∃ i : Int, TW ω i ∧ 0 ≤ i ∧ (0 ≤ a ∧ a ≤ σ 0 1 - 1) ∧ σ 14 a.toNat ≠ 0 ∧ CS σ (grT σ a.toNat i) (bby (grT σ a.toNat i) a.toNat = 0) z u.1 ∧ GI u.1) ∧ u.2.2 = ω) ∨ (u = (σ, κ, ω) ∧ ((k = -71 ∧ ¬ (0 ≤ a ∧ a ≤ σ 0 1 - 1)) ∨ (k = -73 ∧ (0 ≤ a ∧ a ≤ σ 0 1 - 1) ∧ (σ 14 a.toNat = 0 ∨ TW ω (-1)))))) u.1 u.2) (fun u t => zB 32 h D (gS c h u.2) t.heap) (zA 32 h sz)) 5 (6 * 5) (zA 32 h sz) := by
  refine zHM_of (by decide) (Nat.le_of_ble_eq_true rfl) ?_
  intro p e s m below meth cd ls ⟨hF, hr, hlocks, hK, hX⟩ htab hN hP hl
  have hz : zD (zA 32 h s.heap.size) 32 h := zD.self hinj s.heap.size
  have hA : ∀ q, s.heap.size ≤ q → zA 32 h s.heap.size q := zA_new
  generalize zA 32 h s.heap.size = A at hz hA hX ⊢
  have hS : va_S A s.heap s.heap [] := va_S.rf
  have hl : lv_has ls 6 [(0, .ref (h 0)), (1, .int (iz 7)), (2, .int (iz a)), (3, .int (iz x0)), (4, .int (iz x1))] := hl
  refine lv_iload_n hF.1 hF.2.1 dL_act_0 rfl (lv_at hl 1 rfl) ?_
  refine zi_if_ne (tgt := 12) hF.1 hF.2.1 dL_act_1 (by decide) (by decide) (fun _ => ?_) (fun q => absurd q (by decide))
  refine lv_iload_n hF.1 hF.2.1 dL_act_12 rfl (lv_at hl 1 rfl) ?_
  refine zi_const hF.1 hF.2.1 dL_act_13 ?_
  refine zi_icmp_ne (tgt := 34) hF.1 hF.2.1 dL_act_14 (by decide) (by decide) (by decide) (fun _ => ?_) (fun q => absurd q (by decide))
  refine lv_iload_n hF.1 hF.2.1 dL_act_34 rfl (lv_at hl 1 rfl) ?_
  refine zi_const hF.1 hF.2.1 dL_act_35 ?_
  refine zi_icmp_ne (tgt := 56) hF.1 hF.2.1 dL_act_36 (by decide) (by decide) (by decide) (fun _ => ?_) (fun q => absurd q (by decide))
  refine lv_iload_n hF.1 hF.2.1 dL_act_56 rfl (lv_at hl 1 rfl) ?_
  refine zi_const hF.1 hF.2.1 dL_act_57 ?_
  refine zi_icmp_ne (tgt := 78) hF.1 hF.2.1 dL_act_58 (by decide) (by decide) (by decide) (fun _ => ?_) (fun q => absurd q (by decide))
  refine lv_iload_n hF.1 hF.2.1 dL_act_78 rfl (lv_at hl 1 rfl) ?_
  refine zi_const hF.1 hF.2.1 dL_act_79 ?_
  refine zi_icmp_ne (tgt := 100) hF.1 hF.2.1 dL_act_80 (by decide) (by decide) (by decide) (fun _ => ?_) (fun q => absurd q (by decide))
  refine lv_iload_n hF.1 hF.2.1 dL_act_100 rfl (lv_at hl 1 rfl) ?_
  refine zi_const hF.1 hF.2.1 dL_act_101 ?_
  refine zi_icmp_ne (tgt := 113) hF.1 hF.2.1 dL_act_102 (by decide) (by decide) (by decide) (fun _ => ?_) (fun q => absurd q (by decide))
  refine lv_iload_n hF.1 hF.2.1 dL_act_113 rfl (lv_at hl 1 rfl) ?_
  refine zi_bipush hF.1 hF.2.1 dL_act_114 rfl ?_
  refine zi_icmp_ne (tgt := 128) hF.1 hF.2.1 dL_act_116 (by decide) (by decide) (by decide) (fun _ => ?_) (fun q => absurd q (by decide))
  refine lv_iload_n hF.1 hF.2.1 dL_act_128 rfl (lv_at hl 1 rfl) ?_
  refine zi_bipush hF.1 hF.2.1 dL_act_129 rfl ?_
  refine zi_icmp_ne (tgt := 150) hF.1 hF.2.1 dL_act_131 (by decide) (by decide) (by decide) (fun q => absurd q (by decide)) (fun _ => ?_)
  refine lv_aload_n hF.1 hF.2.1 dL_act_134 rfl (lv_at hl 0 rfl) ?_
  refine lv_iload_n hF.1 hF.2.1 dL_act_135 rfl (lv_at hl 2 rfl) ?_
  refine z_hci (k := 5) (S := ((Nat → Nat → Int) × (Nat → Nat → Int))) (w := (fun u9 => gC c h u9.1 u9.2 ω)) (P := (fun z (u9 : (Nat → Nat → Int) × (Nat → Nat → Int)) => ∃ i : Int, TW ω i ∧ 0 ≤ i ∧ (0 ≤ a ∧ a ≤ σ 0 1 - 1) ∧ σ 14 a.toNat ≠ 0 ∧ CS σ (grT σ a.toNat i) (bby (grT σ a.toNat i) a.toNat = 0) z u9.1 ∧ GI u9.1)) (PX := fun E9 => (E9 = E98 ∧ ¬ (0 ≤ a ∧ a ≤ σ 0 1 - 1)) ∨ (E9 = E67 ∧ (0 ≤ a ∧ a ≤ σ 0 1 - 1) ∧ (σ 14 a.toNat = 0 ∨ TW ω (-1)))) (g := gC c h σ κ ω) (z_xrunV (rm := { frames := 8, cells := 5, slots := 6 * 5, locals := 176 }) hF hK hX hz hA hP hS (c_X3_grant l h D c σ κ ω hinj hG a ha hn hby hst _) (gIn_V mp_14 mw_663 mw_664 mw_86 mw_390) rfl rfl ⟨rfl, by decide, by decide, rfl⟩ ⟨(Nat.le_of_ble_eq_true rfl), (Nat.le_of_ble_eq_true rfl)⟩ (k := 0) (T := TX3) (N := 14) (by decide) rfl rfl rfl (As := [.int (iz a)]) (rest := []) rfl hl.1 rfl (Nat.le_of_ble_eq_true rfl) dL_act_136 ⟨(Nat.le_of_ble_eq_true rfl), (Nat.le_of_ble_eq_true rfl)⟩) hz hA hS (fun E9 ce q9 H locs hpx hP hS hce hcv hcl => ?_) (fun z v H locs hp hP hS => ?_)
  · rcases hpx with ⟨rfl, hpx⟩ | ⟨rfl, hpx⟩
    · refine z_hnd hF hK (pre := []) (suf := [(0, 217, 223, 18), (0, 217, 228, 20)]) htab (fun _ q => absurd q List.not_mem_nil) (by decide) (by decide) mp_0 (NW_mem (by decide +kernel) rfl) hce hcv hcl ?_
      refine lv_astore hF.1 hF.2.1 dL_act_218 hl (by decide) rfl (fun ls _ => ?_)
      refine zi_bipush hF.1 hF.2.1 dL_act_220 rfl ?_
      exact z_sreti (w := gS c h) (u := (σ, κ, ω)) (P := (fun (k : Int) (u : S3) => (∃ z : Int, k = (if iz z = 0 then 0 else 1) ∧ (∃ i : Int, TW ω i ∧ 0 ≤ i ∧ (0 ≤ a ∧ a ≤ σ 0 1 - 1) ∧ σ 14 a.toNat ≠ 0 ∧ CS σ (grT σ a.toNat i) (bby (grT σ a.toNat i) a.toNat = 0) z u.1 ∧ GI u.1) ∧ u.2.2 = ω) ∨ (u = (σ, κ, ω) ∧ ((k = -71 ∧ ¬ (0 ≤ a ∧ a ≤ σ 0 1 - 1)) ∨ (k = -73 ∧ (0 ≤ a ∧ a ≤ σ 0 1 - 1) ∧ (σ 14 a.toNat = 0 ∨ TW ω (-1))))))) hF hr hlocks hP hS (Nat.le_of_ble_eq_true rfl) (Nat.le_of_ble_eq_true rfl) rfl (Or.inr ⟨rfl, Or.inl ⟨rfl, hpx⟩⟩) dL_act_222
    · refine z_hnd hF hK (pre := [(0, 217, 218, 16), (0, 217, 223, 18)]) (suf := []) htab (List.forall_mem_cons.mpr ⟨⟨by decide, E98, mp_0, hN.2.1⟩, List.forall_mem_cons.mpr ⟨⟨by decide, E206, mp_1, hN.2.2⟩, fun _ q => absurd q List.not_mem_nil⟩⟩) (by decide) (by decide) mp_2 (NW_mem (by decide +kernel) rfl) hce hcv hcl ?_
      refine lv_astore hF.1 hF.2.1 dL_act_228 hl (by decide) rfl (fun ls _ => ?_)
      refine zi_bipush hF.1 hF.2.1 dL_act_230 rfl ?_
      exact z_sreti (w := gS c h) (u := (σ, κ, ω)) (P := (fun (k : Int) (u : S3) => (∃ z : Int, k = (if iz z = 0 then 0 else 1) ∧ (∃ i : Int, TW ω i ∧ 0 ≤ i ∧ (0 ≤ a ∧ a ≤ σ 0 1 - 1) ∧ σ 14 a.toNat ≠ 0 ∧ CS σ (grT σ a.toNat i) (bby (grT σ a.toNat i) a.toNat = 0) z u.1 ∧ GI u.1) ∧ u.2.2 = ω) ∨ (u = (σ, κ, ω) ∧ ((k = -71 ∧ ¬ (0 ≤ a ∧ a ≤ σ 0 1 - 1)) ∨ (k = -73 ∧ (0 ≤ a ∧ a ≤ σ 0 1 - 1) ∧ (σ 14 a.toNat = 0 ∨ TW ω (-1))))))) hF hr hlocks hP hS (Nat.le_of_ble_eq_true rfl) (Nat.le_of_ble_eq_true rfl) rfl (Or.inr ⟨rfl, Or.inr (⟨rfl, hpx⟩)⟩) dL_act_232
  · refine lv_if_eq (tgt := 146) hF.1 hF.2.1 dL_act_139 (by decide) (fun q0 => ?_) (fun q0 => ?_)
    · refine zi_const hF.1 hF.2.1 dL_act_146 ?_
      refine lv_goto (tgt := 217) hF.1 hF.2.1 dL_act_147 (by decide) ?_
      exact z_sreti (w := gS c h) (u := (v.1, v.2, ω)) (P := (fun (k : Int) (u : S3) => (∃ z : Int, k = (if iz z = 0 then 0 else 1) ∧ (∃ i : Int, TW ω i ∧ 0 ≤ i ∧ (0 ≤ a ∧ a ≤ σ 0 1 - 1) ∧ σ 14 a.toNat ≠ 0 ∧ CS σ (grT σ a.toNat i) (bby (grT σ a.toNat i) a.toNat = 0) z u.1 ∧ GI u.1) ∧ u.2.2 = ω) ∨ (u = (σ, κ, ω) ∧ ((k = -71 ∧ ¬ (0 ≤ a ∧ a ≤ σ 0 1 - 1)) ∨ (k = -73 ∧ (0 ≤ a ∧ a ≤ σ 0 1 - 1) ∧ (σ 14 a.toNat = 0 ∨ TW ω (-1))))))) hF hr hlocks hP hS (Nat.le_of_ble_eq_true rfl) (Nat.le_of_ble_eq_true rfl) rfl (Or.inl ⟨z, (if_pos q0).symm, hp, rfl⟩) dL_act_217
    · refine zi_const hF.1 hF.2.1 dL_act_142 ?_
      refine lv_goto (tgt := 217) hF.1 hF.2.1 dL_act_143 (by decide) ?_
      exact z_sreti (w := gS c h) (u := (v.1, v.2, ω)) (P := (fun (k : Int) (u : S3) => (∃ z : Int, k = (if iz z = 0 then 0 else 1) ∧ (∃ i : Int, TW ω i ∧ 0 ≤ i ∧ (0 ≤ a ∧ a ≤ σ 0 1 - 1) ∧ σ 14 a.toNat ≠ 0 ∧ CS σ (grT σ a.toNat i) (bby (grT σ a.toNat i) a.toNat = 0) z u.1 ∧ GI u.1) ∧ u.2.2 = ω) ∨ (u = (σ, κ, ω) ∧ ((k = -71 ∧ ¬ (0 ≤ a ∧ a ≤ σ 0 1 - 1)) ∨ (k = -73 ∧ (0 ≤ a ∧ a ≤ σ 0 1 - 1) ∧ (σ 14 a.toNat = 0 ∨ TW ω (-1))))))) hF hr hlocks hP hS (Nat.le_of_ble_eq_true rfl) (Nat.le_of_ble_eq_true rfl) rfl (Or.inl ⟨z, (if_neg q0).symm, hp, rfl⟩) dL_act_217

set_option maxRecDepth 100000 in
set_option maxHeartbeats 4000000 in
theorem c_L_act8 (l : Launch) (h : Nat → Nat) (D : va_G) (c : Nat → ClassId) (σ κ : Nat → Nat → Int) (ω : Nat × (Nat → Int32) × Int32) (hinj : ∀ i j, i < 32 → j < 32 → h i = h j → i = j) (hG : GI σ) (a : Int) (ha : -2147483648 ≤ a ∧ a ≤ 2147483647) (wh : Int) (hwh : -2147483648 ≤ wh ∧ wh ≤ 2147483647) (x0 : Int) (hst : l.stackTraces = false) :
    ∀ sz, Met l yL_act (Cond.codeWith yL_act cL_act 6 (some .int) [(0, 217, 218, 16), (0, 217, 223, 18), (0, 217, 228, 20)] :: UW) { frames := 8, cells := 2, slots := 6 * 2, locals := 125 } (zPE zNCx [.ref (h 0), .int (iz 8), .int (iz a), .int (iz wh), .int (iz x0)] 32 h D (gT c) sz (gC c h σ κ ω)) (va_Qi (fun r (u : Int × S3) => r = iz u.1 ∧ (fun (k : Int) (u : S3) => (∃ z : Int, k = z ∧ thO σ a wh = 0 ∧ (z = if wh = 0 then σ 11 a.toNat else if wh = 1 then σ 12 a.toNat else σ 13 a.toNat) ∧ u.1 = σ ∧ u.2.2 = ω) ∨ (u = (σ, κ, ω) ∧ ((k = -71 ∧ thO σ a wh = 1)))) u.1 u.2) (fun u t => zB 32 h D (gS c h u.2) t.heap) (zA 32 h sz)) 2 (6 * 2) (zA 32 h sz) := by
  refine zHM_of (by decide) (Nat.le_of_ble_eq_true rfl) ?_
  intro p e s m below meth cd ls ⟨hF, hr, hlocks, hK, hX⟩ htab hN hP hl
  have hz : zD (zA 32 h s.heap.size) 32 h := zD.self hinj s.heap.size
  have hA : ∀ q, s.heap.size ≤ q → zA 32 h s.heap.size q := zA_new
  generalize zA 32 h s.heap.size = A at hz hA hX ⊢
  have hS : va_S A s.heap s.heap [] := va_S.rf
  have hl : lv_has ls 6 [(0, .ref (h 0)), (1, .int (iz 8)), (2, .int (iz a)), (3, .int (iz wh)), (4, .int (iz x0))] := hl
  refine lv_iload_n hF.1 hF.2.1 dL_act_0 rfl (lv_at hl 1 rfl) ?_
  refine zi_if_ne (tgt := 12) hF.1 hF.2.1 dL_act_1 (by decide) (by decide) (fun _ => ?_) (fun q => absurd q (by decide))
  refine lv_iload_n hF.1 hF.2.1 dL_act_12 rfl (lv_at hl 1 rfl) ?_
  refine zi_const hF.1 hF.2.1 dL_act_13 ?_
  refine zi_icmp_ne (tgt := 34) hF.1 hF.2.1 dL_act_14 (by decide) (by decide) (by decide) (fun _ => ?_) (fun q => absurd q (by decide))
  refine lv_iload_n hF.1 hF.2.1 dL_act_34 rfl (lv_at hl 1 rfl) ?_
  refine zi_const hF.1 hF.2.1 dL_act_35 ?_
  refine zi_icmp_ne (tgt := 56) hF.1 hF.2.1 dL_act_36 (by decide) (by decide) (by decide) (fun _ => ?_) (fun q => absurd q (by decide))
  refine lv_iload_n hF.1 hF.2.1 dL_act_56 rfl (lv_at hl 1 rfl) ?_
  refine zi_const hF.1 hF.2.1 dL_act_57 ?_
  refine zi_icmp_ne (tgt := 78) hF.1 hF.2.1 dL_act_58 (by decide) (by decide) (by decide) (fun _ => ?_) (fun q => absurd q (by decide))
  refine lv_iload_n hF.1 hF.2.1 dL_act_78 rfl (lv_at hl 1 rfl) ?_
  refine zi_const hF.1 hF.2.1 dL_act_79 ?_
  refine zi_icmp_ne (tgt := 100) hF.1 hF.2.1 dL_act_80 (by decide) (by decide) (by decide) (fun _ => ?_) (fun q => absurd q (by decide))
  refine lv_iload_n hF.1 hF.2.1 dL_act_100 rfl (lv_at hl 1 rfl) ?_
  refine zi_const hF.1 hF.2.1 dL_act_101 ?_
  refine zi_icmp_ne (tgt := 113) hF.1 hF.2.1 dL_act_102 (by decide) (by decide) (by decide) (fun _ => ?_) (fun q => absurd q (by decide))
  refine lv_iload_n hF.1 hF.2.1 dL_act_113 rfl (lv_at hl 1 rfl) ?_
  refine zi_bipush hF.1 hF.2.1 dL_act_114 rfl ?_
  refine zi_icmp_ne (tgt := 128) hF.1 hF.2.1 dL_act_116 (by decide) (by decide) (by decide) (fun _ => ?_) (fun q => absurd q (by decide))
  refine lv_iload_n hF.1 hF.2.1 dL_act_128 rfl (lv_at hl 1 rfl) ?_
  refine zi_bipush hF.1 hF.2.1 dL_act_129 rfl ?_
  refine zi_icmp_ne (tgt := 150) hF.1 hF.2.1 dL_act_131 (by decide) (by decide) (by decide) (fun _ => ?_) (fun q => absurd q (by decide))
  refine lv_iload_n hF.1 hF.2.1 dL_act_150 rfl (lv_at hl 1 rfl) ?_
  refine zi_bipush hF.1 hF.2.1 dL_act_151 rfl ?_
  refine zi_icmp_ne (tgt := 165) hF.1 hF.2.1 dL_act_153 (by decide) (by decide) (by decide) (fun q => absurd q (by decide)) (fun _ => ?_)
  refine lv_aload_n hF.1 hF.2.1 dL_act_156 rfl (lv_at hl 0 rfl) ?_
  refine lv_iload_n hF.1 hF.2.1 dL_act_157 rfl (lv_at hl 2 rfl) ?_
  refine lv_iload_n hF.1 hF.2.1 dL_act_158 rfl (lv_at hl 3 rfl) ?_
  refine z_hci (k := 2) (S := Unit) (w := (fun _ => gC c h σ κ ω)) (P := (fun z _ => thO σ a wh = 0 ∧ z = if wh = 0 then σ 11 a.toNat else if wh = 1 then σ 12 a.toNat else σ 13 a.toNat)) (PX := fun E9 => (E9 = E98 ∧ thO σ a wh = 1)) (g := gC c h σ κ ω) (z_xrunV (rm := { frames := 7, cells := 2, slots := 6 * 2, locals := 103 }) hF hK hX hz hA hP hS (c_X3_ofAct l h D c σ κ ω hinj hG a ha wh hwh hst _) (gIn_V mp_15 mw_666 mw_667 mw_86 mw_391) rfl rfl ⟨rfl, by decide, by decide, rfl⟩ ⟨(Nat.le_of_ble_eq_true rfl), (Nat.le_of_ble_eq_true rfl)⟩ (k := 0) (T := TX3) (N := 14) (by decide) rfl rfl rfl (As := [.int (iz a), .int (iz wh)]) (rest := []) rfl hl.1 rfl (Nat.le_of_ble_eq_true rfl) dL_act_159 ⟨(Nat.le_of_ble_eq_true rfl), (Nat.le_of_ble_eq_true rfl)⟩) hz hA hS (fun E9 ce q9 H locs hpx hP hS hce hcv hcl => ?_) (fun z v H locs hp hP hS => ?_)
  · obtain ⟨rfl, hpx⟩ := hpx
    refine z_hnd hF hK (pre := []) (suf := [(0, 217, 223, 18), (0, 217, 228, 20)]) htab (fun _ q => absurd q List.not_mem_nil) (by decide) (by decide) mp_0 (NW_mem (by decide +kernel) rfl) hce hcv hcl ?_
    refine lv_astore hF.1 hF.2.1 dL_act_218 hl (by decide) rfl (fun ls _ => ?_)
    refine zi_bipush hF.1 hF.2.1 dL_act_220 rfl ?_
    exact z_sreti (w := gS c h) (u := (σ, κ, ω)) (P := (fun (k : Int) (u : S3) => (∃ z : Int, k = z ∧ thO σ a wh = 0 ∧ (z = if wh = 0 then σ 11 a.toNat else if wh = 1 then σ 12 a.toNat else σ 13 a.toNat) ∧ u.1 = σ ∧ u.2.2 = ω) ∨ (u = (σ, κ, ω) ∧ ((k = -71 ∧ thO σ a wh = 1))))) hF hr hlocks hP hS (Nat.le_of_ble_eq_true rfl) (Nat.le_of_ble_eq_true rfl) rfl (Or.inr ⟨rfl, ⟨rfl, hpx⟩⟩) dL_act_222
  · skip
    refine lv_goto (tgt := 217) hF.1 hF.2.1 dL_act_162 (by decide) ?_
    exact z_sreti (w := gS c h) (u := (σ, κ, ω)) (P := (fun (k : Int) (u : S3) => (∃ z : Int, k = z ∧ thO σ a wh = 0 ∧ (z = if wh = 0 then σ 11 a.toNat else if wh = 1 then σ 12 a.toNat else σ 13 a.toNat) ∧ u.1 = σ ∧ u.2.2 = ω) ∨ (u = (σ, κ, ω) ∧ ((k = -71 ∧ thO σ a wh = 1))))) hF hr hlocks hP hS (Nat.le_of_ble_eq_true rfl) (Nat.le_of_ble_eq_true rfl) rfl (Or.inl ⟨z, rfl, hp.1, hp.2, rfl, rfl⟩) dL_act_217

set_option maxRecDepth 100000 in
set_option maxHeartbeats 4000000 in
theorem c_L_act9 (l : Launch) (h : Nat → Nat) (D : va_G) (c : Nat → ClassId) (σ κ : Nat → Nat → Int) (ω : Nat × (Nat → Int32) × Int32) (hinj : ∀ i j, i < 32 → j < 32 → h i = h j → i = j) (hG : GI σ) (sg : Int) (hsg : -2147483648 ≤ sg ∧ sg ≤ 2147483647) (mi : Int) (hmi : -2147483648 ≤ mi ∧ mi ≤ 2147483647) (du : Int) (hdu : -2147483648 ≤ du ∧ du ≤ 2147483647) (hlen : ∀ k, k < 16 → σ 14 k ≠ 0 → 1 ≤ σ 9 k) (hwt : ∀ k, k < 16 → σ 15 k = 0) (hst : l.stackTraces = false) :
    ∀ sz, Met l yL_act (Cond.codeWith yL_act cL_act 6 (some .int) [(0, 217, 218, 16), (0, 217, 223, 18), (0, 217, 228, 20)] :: UW) { frames := 9, cells := 4, slots := 6 * 4, locals := 169 } (zPE zNCx [.ref (h 0), .int (iz 9), .int (iz sg), .int (iz mi), .int (iz du)] 32 h D (gT c) sz (gC c h σ κ ω)) (va_Qi (fun r (u : Int × S3) => r = iz u.1 ∧ (fun (k : Int) (u : S3) => (∃ z : Int, k = z ∧ thX σ sg mi du = 0 ∧ (∃ σ1, COF (stC σ sg mi (min (mi + du) 1000)) (σ 0 2).toNat σ1 ∧ GI σ1 ∧ RPn (min (mi + du) 1000) 16 σ1 0 u.1 z) ∧ GI u.1 ∧ u.2.2 = ω) ∨ (u = (σ, κ, ω) ∧ ((k = -71 ∧ thX σ sg mi du = 1) ∨ (k = -72 ∧ thX σ sg mi du = 2) ∨ (k = -73 ∧ thX σ sg mi du = 3)))) u.1 u.2) (fun u t => zB 32 h D (gS c h u.2) t.heap) (zA 32 h sz)) 4 (6 * 4) (zA 32 h sz) := by
  refine zHM_of (by decide) (Nat.le_of_ble_eq_true rfl) ?_
  intro p e s m below meth cd ls ⟨hF, hr, hlocks, hK, hX⟩ htab hN hP hl
  have hz : zD (zA 32 h s.heap.size) 32 h := zD.self hinj s.heap.size
  have hA : ∀ q, s.heap.size ≤ q → zA 32 h s.heap.size q := zA_new
  generalize zA 32 h s.heap.size = A at hz hA hX ⊢
  have hS : va_S A s.heap s.heap [] := va_S.rf
  have hl : lv_has ls 6 [(0, .ref (h 0)), (1, .int (iz 9)), (2, .int (iz sg)), (3, .int (iz mi)), (4, .int (iz du))] := hl
  refine lv_iload_n hF.1 hF.2.1 dL_act_0 rfl (lv_at hl 1 rfl) ?_
  refine zi_if_ne (tgt := 12) hF.1 hF.2.1 dL_act_1 (by decide) (by decide) (fun _ => ?_) (fun q => absurd q (by decide))
  refine lv_iload_n hF.1 hF.2.1 dL_act_12 rfl (lv_at hl 1 rfl) ?_
  refine zi_const hF.1 hF.2.1 dL_act_13 ?_
  refine zi_icmp_ne (tgt := 34) hF.1 hF.2.1 dL_act_14 (by decide) (by decide) (by decide) (fun _ => ?_) (fun q => absurd q (by decide))
  refine lv_iload_n hF.1 hF.2.1 dL_act_34 rfl (lv_at hl 1 rfl) ?_
  refine zi_const hF.1 hF.2.1 dL_act_35 ?_
  refine zi_icmp_ne (tgt := 56) hF.1 hF.2.1 dL_act_36 (by decide) (by decide) (by decide) (fun _ => ?_) (fun q => absurd q (by decide))
  refine lv_iload_n hF.1 hF.2.1 dL_act_56 rfl (lv_at hl 1 rfl) ?_
  refine zi_const hF.1 hF.2.1 dL_act_57 ?_
  refine zi_icmp_ne (tgt := 78) hF.1 hF.2.1 dL_act_58 (by decide) (by decide) (by decide) (fun _ => ?_) (fun q => absurd q (by decide))
  refine lv_iload_n hF.1 hF.2.1 dL_act_78 rfl (lv_at hl 1 rfl) ?_
  refine zi_const hF.1 hF.2.1 dL_act_79 ?_
  refine zi_icmp_ne (tgt := 100) hF.1 hF.2.1 dL_act_80 (by decide) (by decide) (by decide) (fun _ => ?_) (fun q => absurd q (by decide))
  refine lv_iload_n hF.1 hF.2.1 dL_act_100 rfl (lv_at hl 1 rfl) ?_
  refine zi_const hF.1 hF.2.1 dL_act_101 ?_
  refine zi_icmp_ne (tgt := 113) hF.1 hF.2.1 dL_act_102 (by decide) (by decide) (by decide) (fun _ => ?_) (fun q => absurd q (by decide))
  refine lv_iload_n hF.1 hF.2.1 dL_act_113 rfl (lv_at hl 1 rfl) ?_
  refine zi_bipush hF.1 hF.2.1 dL_act_114 rfl ?_
  refine zi_icmp_ne (tgt := 128) hF.1 hF.2.1 dL_act_116 (by decide) (by decide) (by decide) (fun _ => ?_) (fun q => absurd q (by decide))
  refine lv_iload_n hF.1 hF.2.1 dL_act_128 rfl (lv_at hl 1 rfl) ?_
  refine zi_bipush hF.1 hF.2.1 dL_act_129 rfl ?_
  refine zi_icmp_ne (tgt := 150) hF.1 hF.2.1 dL_act_131 (by decide) (by decide) (by decide) (fun _ => ?_) (fun q => absurd q (by decide))
  refine lv_iload_n hF.1 hF.2.1 dL_act_150 rfl (lv_at hl 1 rfl) ?_
  refine zi_bipush hF.1 hF.2.1 dL_act_151 rfl ?_
  refine zi_icmp_ne (tgt := 165) hF.1 hF.2.1 dL_act_153 (by decide) (by decide) (by decide) (fun _ => ?_) (fun q => absurd q (by decide))
  refine lv_iload_n hF.1 hF.2.1 dL_act_165 rfl (lv_at hl 1 rfl) ?_
  refine zi_bipush hF.1 hF.2.1 dL_act_166 rfl ?_
  refine zi_icmp_ne (tgt := 182) hF.1 hF.2.1 dL_act_168 (by decide) (by decide) (by decide) (fun q => absurd q (by decide)) (fun _ => ?_)
  refine lv_aload_n hF.1 hF.2.1 dL_act_171 rfl (lv_at hl 0 rfl) ?_
  refine lv_iload_n hF.1 hF.2.1 dL_act_172 rfl (lv_at hl 2 rfl) ?_
  refine lv_iload_n hF.1 hF.2.1 dL_act_173 rfl (lv_at hl 3 rfl) ?_
  refine lv_iload hF.1 hF.2.1 dL_act_174 (lv_at hl 4 rfl) ?_
  refine z_hci (k := 4) (S := ((Nat → Nat → Int) × (Nat → Nat → Int))) (w := (fun u9 => gC c h u9.1 u9.2 ω)) (P := (fun z u9 => thX σ sg mi du = 0 ∧ (∃ σ1, COF (stC σ sg mi (min (mi + du) 1000)) (σ 0 2).toNat σ1 ∧ GI σ1 ∧ RPn (min (mi + du) 1000) 16 σ1 0 u9.1 z) ∧ GI u9.1)) (PX := fun E9 => (E9 = E98 ∧ thX σ sg mi du = 1) ∨ (E9 = E206 ∧ thX σ sg mi du = 2) ∨ (E9 = E67 ∧ thX σ sg mi du = 3)) (g := gC c h σ κ ω) (z_xrunV (rm := { frames := 8, cells := 4, slots := 6 * 4, locals := 145 }) hF hK hX hz hA hP hS (c_X3_storm l h D c σ κ ω hinj hG sg hsg mi hmi du hdu hlen hwt hst _) (gIn_V mp_16 mw_669 mw_670 mw_86 mw_405) rfl rfl ⟨rfl, by decide, by decide, rfl⟩ ⟨(Nat.le_of_ble_eq_true rfl), (Nat.le_of_ble_eq_true rfl)⟩ (k := 0) (T := TX3) (N := 14) (by decide) rfl rfl rfl (As := [.int (iz sg), .int (iz mi), .int (iz du)]) (rest := []) rfl hl.1 rfl (Nat.le_of_ble_eq_true rfl) dL_act_176 ⟨(Nat.le_of_ble_eq_true rfl), (Nat.le_of_ble_eq_true rfl)⟩) hz hA hS (fun E9 ce q9 H locs hpx hP hS hce hcv hcl => ?_) (fun z v H locs hp hP hS => ?_)
  · rcases hpx with ⟨rfl, hpx⟩ | ⟨rfl, hpx⟩ | ⟨rfl, hpx⟩
    · refine z_hnd hF hK (pre := []) (suf := [(0, 217, 223, 18), (0, 217, 228, 20)]) htab (fun _ q => absurd q List.not_mem_nil) (by decide) (by decide) mp_0 (NW_mem (by decide +kernel) rfl) hce hcv hcl ?_
      refine lv_astore hF.1 hF.2.1 dL_act_218 hl (by decide) rfl (fun ls _ => ?_)
      refine zi_bipush hF.1 hF.2.1 dL_act_220 rfl ?_
      exact z_sreti (w := gS c h) (u := (σ, κ, ω)) (P := (fun (k : Int) (u : S3) => (∃ z : Int, k = z ∧ thX σ sg mi du = 0 ∧ (∃ σ1, COF (stC σ sg mi (min (mi + du) 1000)) (σ 0 2).toNat σ1 ∧ GI σ1 ∧ RPn (min (mi + du) 1000) 16 σ1 0 u.1 z) ∧ GI u.1 ∧ u.2.2 = ω) ∨ (u = (σ, κ, ω) ∧ ((k = -71 ∧ thX σ sg mi du = 1) ∨ (k = -72 ∧ thX σ sg mi du = 2) ∨ (k = -73 ∧ thX σ sg mi du = 3))))) hF hr hlocks hP hS (Nat.le_of_ble_eq_true rfl) (Nat.le_of_ble_eq_true rfl) rfl (Or.inr ⟨rfl, Or.inl ⟨rfl, hpx⟩⟩) dL_act_222
    · refine z_hnd hF hK (pre := [(0, 217, 218, 16)]) (suf := [(0, 217, 228, 20)]) htab (List.forall_mem_cons.mpr ⟨⟨by decide, E98, mp_0, hN.1⟩, fun _ q => absurd q List.not_mem_nil⟩) (by decide) (by decide) mp_1 (NW_mem (by decide +kernel) rfl) hce hcv hcl ?_
      refine lv_astore hF.1 hF.2.1 dL_act_223 hl (by decide) rfl (fun ls _ => ?_)
      refine zi_bipush hF.1 hF.2.1 dL_act_225 rfl ?_
      exact z_sreti (w := gS c h) (u := (σ, κ, ω)) (P := (fun (k : Int) (u : S3) => (∃ z : Int, k = z ∧ thX σ sg mi du = 0 ∧ (∃ σ1, COF (stC σ sg mi (min (mi + du) 1000)) (σ 0 2).toNat σ1 ∧ GI σ1 ∧ RPn (min (mi + du) 1000) 16 σ1 0 u.1 z) ∧ GI u.1 ∧ u.2.2 = ω) ∨ (u = (σ, κ, ω) ∧ ((k = -71 ∧ thX σ sg mi du = 1) ∨ (k = -72 ∧ thX σ sg mi du = 2) ∨ (k = -73 ∧ thX σ sg mi du = 3))))) hF hr hlocks hP hS (Nat.le_of_ble_eq_true rfl) (Nat.le_of_ble_eq_true rfl) rfl (Or.inr ⟨rfl, Or.inr (Or.inl ⟨rfl, hpx⟩)⟩) dL_act_227
    · refine z_hnd hF hK (pre := [(0, 217, 218, 16), (0, 217, 223, 18)]) (suf := []) htab (List.forall_mem_cons.mpr ⟨⟨by decide, E98, mp_0, hN.2.1⟩, List.forall_mem_cons.mpr ⟨⟨by decide, E206, mp_1, hN.2.2⟩, fun _ q => absurd q List.not_mem_nil⟩⟩) (by decide) (by decide) mp_2 (NW_mem (by decide +kernel) rfl) hce hcv hcl ?_
      refine lv_astore hF.1 hF.2.1 dL_act_228 hl (by decide) rfl (fun ls _ => ?_)
      refine zi_bipush hF.1 hF.2.1 dL_act_230 rfl ?_
      exact z_sreti (w := gS c h) (u := (σ, κ, ω)) (P := (fun (k : Int) (u : S3) => (∃ z : Int, k = z ∧ thX σ sg mi du = 0 ∧ (∃ σ1, COF (stC σ sg mi (min (mi + du) 1000)) (σ 0 2).toNat σ1 ∧ GI σ1 ∧ RPn (min (mi + du) 1000) 16 σ1 0 u.1 z) ∧ GI u.1 ∧ u.2.2 = ω) ∨ (u = (σ, κ, ω) ∧ ((k = -71 ∧ thX σ sg mi du = 1) ∨ (k = -72 ∧ thX σ sg mi du = 2) ∨ (k = -73 ∧ thX σ sg mi du = 3))))) hF hr hlocks hP hS (Nat.le_of_ble_eq_true rfl) (Nat.le_of_ble_eq_true rfl) rfl (Or.inr ⟨rfl, Or.inr (Or.inr (⟨rfl, hpx⟩))⟩) dL_act_232
  · skip
    refine lv_goto (tgt := 217) hF.1 hF.2.1 dL_act_179 (by decide) ?_
    exact z_sreti (w := gS c h) (u := (v.1, v.2, ω)) (P := (fun (k : Int) (u : S3) => (∃ z : Int, k = z ∧ thX σ sg mi du = 0 ∧ (∃ σ1, COF (stC σ sg mi (min (mi + du) 1000)) (σ 0 2).toNat σ1 ∧ GI σ1 ∧ RPn (min (mi + du) 1000) 16 σ1 0 u.1 z) ∧ GI u.1 ∧ u.2.2 = ω) ∨ (u = (σ, κ, ω) ∧ ((k = -71 ∧ thX σ sg mi du = 1) ∨ (k = -72 ∧ thX σ sg mi du = 2) ∨ (k = -73 ∧ thX σ sg mi du = 3))))) hF hr hlocks hP hS (Nat.le_of_ble_eq_true rfl) (Nat.le_of_ble_eq_true rfl) rfl (Or.inl ⟨z, rfl, hp.1, hp.2.1, hp.2.2, rfl⟩) dL_act_217

set_option maxRecDepth 100000 in
set_option maxHeartbeats 4000000 in
theorem c_L_act10 (l : Launch) (h : Nat → Nat) (D : va_G) (c : Nat → ClassId) (σ κ : Nat → Nat → Int) (ω : Nat × (Nat → Int32) × Int32) (hinj : ∀ i j, i < 32 → j < 32 → h i = h j → i = j) (hG : GI σ) (mi : Int) (hmi : -2147483648 ≤ mi ∧ mi ≤ 2147483647) (ph : Int) (hph : -2147483648 ≤ ph ∧ ph ≤ 2147483647) (x0 : Int) (hst : l.stackTraces = false) :
    ∀ sz, Met l yL_act (Cond.codeWith yL_act cL_act 6 (some .int) [(0, 217, 218, 16), (0, 217, 223, 18), (0, 217, 228, 20)] :: UW) { frames := 9, cells := 2, slots := 6 * 2, locals := 146 } (zPE zNCx [.ref (h 0), .int (iz 10), .int (iz mi), .int (iz ph), .int (iz x0)] 32 h D (gT c) sz (gC c h σ κ ω)) (va_Qi (fun r (u : Int × S3) => r = iz u.1 ∧ (fun (k : Int) (u : S3) => (∃ z : Int, k = z ∧ thP ph mi = 0 ∧ z = ldS σ mi ph.toNat 16 ∧ u.1 = σ ∧ u.2.2 = ω) ∨ (u = (σ, κ, ω) ∧ ((k = -71 ∧ thP ph mi = 1) ∨ (k = -72 ∧ thP ph mi = 2)))) u.1 u.2) (fun u t => zB 32 h D (gS c h u.2) t.heap) (zA 32 h sz)) 2 (6 * 2) (zA 32 h sz) := by
  refine zHM_of (by decide) (Nat.le_of_ble_eq_true rfl) ?_
  intro p e s m below meth cd ls ⟨hF, hr, hlocks, hK, hX⟩ htab hN hP hl
  have hz : zD (zA 32 h s.heap.size) 32 h := zD.self hinj s.heap.size
  have hA : ∀ q, s.heap.size ≤ q → zA 32 h s.heap.size q := zA_new
  generalize zA 32 h s.heap.size = A at hz hA hX ⊢
  have hS : va_S A s.heap s.heap [] := va_S.rf
  have hl : lv_has ls 6 [(0, .ref (h 0)), (1, .int (iz 10)), (2, .int (iz mi)), (3, .int (iz ph)), (4, .int (iz x0))] := hl
  refine lv_iload_n hF.1 hF.2.1 dL_act_0 rfl (lv_at hl 1 rfl) ?_
  refine zi_if_ne (tgt := 12) hF.1 hF.2.1 dL_act_1 (by decide) (by decide) (fun _ => ?_) (fun q => absurd q (by decide))
  refine lv_iload_n hF.1 hF.2.1 dL_act_12 rfl (lv_at hl 1 rfl) ?_
  refine zi_const hF.1 hF.2.1 dL_act_13 ?_
  refine zi_icmp_ne (tgt := 34) hF.1 hF.2.1 dL_act_14 (by decide) (by decide) (by decide) (fun _ => ?_) (fun q => absurd q (by decide))
  refine lv_iload_n hF.1 hF.2.1 dL_act_34 rfl (lv_at hl 1 rfl) ?_
  refine zi_const hF.1 hF.2.1 dL_act_35 ?_
  refine zi_icmp_ne (tgt := 56) hF.1 hF.2.1 dL_act_36 (by decide) (by decide) (by decide) (fun _ => ?_) (fun q => absurd q (by decide))
  refine lv_iload_n hF.1 hF.2.1 dL_act_56 rfl (lv_at hl 1 rfl) ?_
  refine zi_const hF.1 hF.2.1 dL_act_57 ?_
  refine zi_icmp_ne (tgt := 78) hF.1 hF.2.1 dL_act_58 (by decide) (by decide) (by decide) (fun _ => ?_) (fun q => absurd q (by decide))
  refine lv_iload_n hF.1 hF.2.1 dL_act_78 rfl (lv_at hl 1 rfl) ?_
  refine zi_const hF.1 hF.2.1 dL_act_79 ?_
  refine zi_icmp_ne (tgt := 100) hF.1 hF.2.1 dL_act_80 (by decide) (by decide) (by decide) (fun _ => ?_) (fun q => absurd q (by decide))
  refine lv_iload_n hF.1 hF.2.1 dL_act_100 rfl (lv_at hl 1 rfl) ?_
  refine zi_const hF.1 hF.2.1 dL_act_101 ?_
  refine zi_icmp_ne (tgt := 113) hF.1 hF.2.1 dL_act_102 (by decide) (by decide) (by decide) (fun _ => ?_) (fun q => absurd q (by decide))
  refine lv_iload_n hF.1 hF.2.1 dL_act_113 rfl (lv_at hl 1 rfl) ?_
  refine zi_bipush hF.1 hF.2.1 dL_act_114 rfl ?_
  refine zi_icmp_ne (tgt := 128) hF.1 hF.2.1 dL_act_116 (by decide) (by decide) (by decide) (fun _ => ?_) (fun q => absurd q (by decide))
  refine lv_iload_n hF.1 hF.2.1 dL_act_128 rfl (lv_at hl 1 rfl) ?_
  refine zi_bipush hF.1 hF.2.1 dL_act_129 rfl ?_
  refine zi_icmp_ne (tgt := 150) hF.1 hF.2.1 dL_act_131 (by decide) (by decide) (by decide) (fun _ => ?_) (fun q => absurd q (by decide))
  refine lv_iload_n hF.1 hF.2.1 dL_act_150 rfl (lv_at hl 1 rfl) ?_
  refine zi_bipush hF.1 hF.2.1 dL_act_151 rfl ?_
  refine zi_icmp_ne (tgt := 165) hF.1 hF.2.1 dL_act_153 (by decide) (by decide) (by decide) (fun _ => ?_) (fun q => absurd q (by decide))
  refine lv_iload_n hF.1 hF.2.1 dL_act_165 rfl (lv_at hl 1 rfl) ?_
  refine zi_bipush hF.1 hF.2.1 dL_act_166 rfl ?_
  refine zi_icmp_ne (tgt := 182) hF.1 hF.2.1 dL_act_168 (by decide) (by decide) (by decide) (fun _ => ?_) (fun q => absurd q (by decide))
  refine lv_iload_n hF.1 hF.2.1 dL_act_182 rfl (lv_at hl 1 rfl) ?_
  refine zi_bipush hF.1 hF.2.1 dL_act_183 rfl ?_
  refine zi_icmp_ne (tgt := 197) hF.1 hF.2.1 dL_act_185 (by decide) (by decide) (by decide) (fun q => absurd q (by decide)) (fun _ => ?_)
  refine lv_aload_n hF.1 hF.2.1 dL_act_188 rfl (lv_at hl 0 rfl) ?_
  refine lv_iload_n hF.1 hF.2.1 dL_act_189 rfl (lv_at hl 2 rfl) ?_
  refine lv_iload_n hF.1 hF.2.1 dL_act_190 rfl (lv_at hl 3 rfl) ?_
  refine z_hci (k := 2) (S := (Nat → Nat → Int)) (w := (fun κ9 => gC c h σ κ9 ω)) (P := (fun z _ => thP ph mi = 0 ∧ z = ldS σ mi ph.toNat 16)) (PX := fun E9 => (E9 = E98 ∧ thP ph mi = 1) ∨ (E9 = E206 ∧ thP ph mi = 2)) (g := gC c h σ κ ω) (z_xrunV (rm := { frames := 8, cells := 2, slots := 6 * 2, locals := 124 }) hF hK hX hz hA hP hS (c_X3_load l h D c σ κ ω hinj hG mi hmi ph hph hst _) (gIn_V mp_17 mw_672 mw_673 mw_86 mw_406) rfl rfl ⟨rfl, by decide, by decide, rfl⟩ ⟨(Nat.le_of_ble_eq_true rfl), (Nat.le_of_ble_eq_true rfl)⟩ (k := 0) (T := TX3) (N := 14) (by decide) rfl rfl rfl (As := [.int (iz mi), .int (iz ph)]) (rest := []) rfl hl.1 rfl (Nat.le_of_ble_eq_true rfl) dL_act_191 ⟨(Nat.le_of_ble_eq_true rfl), (Nat.le_of_ble_eq_true rfl)⟩) hz hA hS (fun E9 ce q9 H locs hpx hP hS hce hcv hcl => ?_) (fun z v H locs hp hP hS => ?_)
  · rcases hpx with ⟨rfl, hpx⟩ | ⟨rfl, hpx⟩
    · refine z_hnd hF hK (pre := []) (suf := [(0, 217, 223, 18), (0, 217, 228, 20)]) htab (fun _ q => absurd q List.not_mem_nil) (by decide) (by decide) mp_0 (NW_mem (by decide +kernel) rfl) hce hcv hcl ?_
      refine lv_astore hF.1 hF.2.1 dL_act_218 hl (by decide) rfl (fun ls _ => ?_)
      refine zi_bipush hF.1 hF.2.1 dL_act_220 rfl ?_
      exact z_sreti (w := gS c h) (u := (σ, κ, ω)) (P := (fun (k : Int) (u : S3) => (∃ z : Int, k = z ∧ thP ph mi = 0 ∧ z = ldS σ mi ph.toNat 16 ∧ u.1 = σ ∧ u.2.2 = ω) ∨ (u = (σ, κ, ω) ∧ ((k = -71 ∧ thP ph mi = 1) ∨ (k = -72 ∧ thP ph mi = 2))))) hF hr hlocks hP hS (Nat.le_of_ble_eq_true rfl) (Nat.le_of_ble_eq_true rfl) rfl (Or.inr ⟨rfl, Or.inl ⟨rfl, hpx⟩⟩) dL_act_222
    · refine z_hnd hF hK (pre := [(0, 217, 218, 16)]) (suf := [(0, 217, 228, 20)]) htab (List.forall_mem_cons.mpr ⟨⟨by decide, E98, mp_0, hN.1⟩, fun _ q => absurd q List.not_mem_nil⟩) (by decide) (by decide) mp_1 (NW_mem (by decide +kernel) rfl) hce hcv hcl ?_
      refine lv_astore hF.1 hF.2.1 dL_act_223 hl (by decide) rfl (fun ls _ => ?_)
      refine zi_bipush hF.1 hF.2.1 dL_act_225 rfl ?_
      exact z_sreti (w := gS c h) (u := (σ, κ, ω)) (P := (fun (k : Int) (u : S3) => (∃ z : Int, k = z ∧ thP ph mi = 0 ∧ z = ldS σ mi ph.toNat 16 ∧ u.1 = σ ∧ u.2.2 = ω) ∨ (u = (σ, κ, ω) ∧ ((k = -71 ∧ thP ph mi = 1) ∨ (k = -72 ∧ thP ph mi = 2))))) hF hr hlocks hP hS (Nat.le_of_ble_eq_true rfl) (Nat.le_of_ble_eq_true rfl) rfl (Or.inr ⟨rfl, Or.inr (⟨rfl, hpx⟩)⟩) dL_act_227
  · skip
    refine lv_goto (tgt := 217) hF.1 hF.2.1 dL_act_194 (by decide) ?_
    exact z_sreti (w := gS c h) (u := (σ, v, ω)) (P := (fun (k : Int) (u : S3) => (∃ z : Int, k = z ∧ thP ph mi = 0 ∧ z = ldS σ mi ph.toNat 16 ∧ u.1 = σ ∧ u.2.2 = ω) ∨ (u = (σ, κ, ω) ∧ ((k = -71 ∧ thP ph mi = 1) ∨ (k = -72 ∧ thP ph mi = 2))))) hF hr hlocks hP hS (Nat.le_of_ble_eq_true rfl) (Nat.le_of_ble_eq_true rfl) rfl (Or.inl ⟨z, rfl, hp.1, hp.2, rfl, rfl⟩) dL_act_217

set_option maxRecDepth 100000 in
set_option maxHeartbeats 4000000 in
theorem c_L_act11 (l : Launch) (h : Nat → Nat) (D : va_G) (c : Nat → ClassId) (σ κ : Nat → Nat → Int) (ω : Nat × (Nat → Int32) × Int32) (hinj : ∀ i j, i < 32 → j < 32 → h i = h j → i = j) (hG : GI σ) (mi : Int) (hmi : -2147483648 ≤ mi ∧ mi ≤ 2147483647) (hs : Int) (hhs : -2147483648 ≤ hs ∧ hs ≤ 2147483647) (x0 : Int) (hst : l.stackTraces = false) :
    ∀ sz, Met l yL_act (Cond.codeWith yL_act cL_act 6 (some .int) [(0, 217, 218, 16), (0, 217, 223, 18), (0, 217, 228, 20)] :: UW) { frames := 9, cells := 2, slots := 6 * 2, locals := 146 } (zPE zNCx [.ref (h 0), .int (iz 11), .int (iz mi), .int (iz hs), .int (iz x0)] 32 h D (gT c) sz (gC c h σ κ ω)) (va_Qi (fun r (u : Int × S3) => r = iz u.1 ∧ (fun (k : Int) (u : S3) => (∃ z : Int, k = z ∧ thP hs mi = 0 ∧ z = nsS σ mi (wd σ mi) hs.toNat 16 ∧ u.1 = σ ∧ u.2.2 = ω) ∨ (u = (σ, κ, ω) ∧ ((k = -71 ∧ thP hs mi = 1) ∨ (k = -72 ∧ thP hs mi = 2)))) u.1 u.2) (fun u t => zB 32 h D (gS c h u.2) t.heap) (zA 32 h sz)) 2 (6 * 2) (zA 32 h sz) := by
  refine zHM_of (by decide) (Nat.le_of_ble_eq_true rfl) ?_
  intro p e s m below meth cd ls ⟨hF, hr, hlocks, hK, hX⟩ htab hN hP hl
  have hz : zD (zA 32 h s.heap.size) 32 h := zD.self hinj s.heap.size
  have hA : ∀ q, s.heap.size ≤ q → zA 32 h s.heap.size q := zA_new
  generalize zA 32 h s.heap.size = A at hz hA hX ⊢
  have hS : va_S A s.heap s.heap [] := va_S.rf
  have hl : lv_has ls 6 [(0, .ref (h 0)), (1, .int (iz 11)), (2, .int (iz mi)), (3, .int (iz hs)), (4, .int (iz x0))] := hl
  refine lv_iload_n hF.1 hF.2.1 dL_act_0 rfl (lv_at hl 1 rfl) ?_
  refine zi_if_ne (tgt := 12) hF.1 hF.2.1 dL_act_1 (by decide) (by decide) (fun _ => ?_) (fun q => absurd q (by decide))
  refine lv_iload_n hF.1 hF.2.1 dL_act_12 rfl (lv_at hl 1 rfl) ?_
  refine zi_const hF.1 hF.2.1 dL_act_13 ?_
  refine zi_icmp_ne (tgt := 34) hF.1 hF.2.1 dL_act_14 (by decide) (by decide) (by decide) (fun _ => ?_) (fun q => absurd q (by decide))
  refine lv_iload_n hF.1 hF.2.1 dL_act_34 rfl (lv_at hl 1 rfl) ?_
  refine zi_const hF.1 hF.2.1 dL_act_35 ?_
  refine zi_icmp_ne (tgt := 56) hF.1 hF.2.1 dL_act_36 (by decide) (by decide) (by decide) (fun _ => ?_) (fun q => absurd q (by decide))
  refine lv_iload_n hF.1 hF.2.1 dL_act_56 rfl (lv_at hl 1 rfl) ?_
  refine zi_const hF.1 hF.2.1 dL_act_57 ?_
  refine zi_icmp_ne (tgt := 78) hF.1 hF.2.1 dL_act_58 (by decide) (by decide) (by decide) (fun _ => ?_) (fun q => absurd q (by decide))
  refine lv_iload_n hF.1 hF.2.1 dL_act_78 rfl (lv_at hl 1 rfl) ?_
  refine zi_const hF.1 hF.2.1 dL_act_79 ?_
  refine zi_icmp_ne (tgt := 100) hF.1 hF.2.1 dL_act_80 (by decide) (by decide) (by decide) (fun _ => ?_) (fun q => absurd q (by decide))
  refine lv_iload_n hF.1 hF.2.1 dL_act_100 rfl (lv_at hl 1 rfl) ?_
  refine zi_const hF.1 hF.2.1 dL_act_101 ?_
  refine zi_icmp_ne (tgt := 113) hF.1 hF.2.1 dL_act_102 (by decide) (by decide) (by decide) (fun _ => ?_) (fun q => absurd q (by decide))
  refine lv_iload_n hF.1 hF.2.1 dL_act_113 rfl (lv_at hl 1 rfl) ?_
  refine zi_bipush hF.1 hF.2.1 dL_act_114 rfl ?_
  refine zi_icmp_ne (tgt := 128) hF.1 hF.2.1 dL_act_116 (by decide) (by decide) (by decide) (fun _ => ?_) (fun q => absurd q (by decide))
  refine lv_iload_n hF.1 hF.2.1 dL_act_128 rfl (lv_at hl 1 rfl) ?_
  refine zi_bipush hF.1 hF.2.1 dL_act_129 rfl ?_
  refine zi_icmp_ne (tgt := 150) hF.1 hF.2.1 dL_act_131 (by decide) (by decide) (by decide) (fun _ => ?_) (fun q => absurd q (by decide))
  refine lv_iload_n hF.1 hF.2.1 dL_act_150 rfl (lv_at hl 1 rfl) ?_
  refine zi_bipush hF.1 hF.2.1 dL_act_151 rfl ?_
  refine zi_icmp_ne (tgt := 165) hF.1 hF.2.1 dL_act_153 (by decide) (by decide) (by decide) (fun _ => ?_) (fun q => absurd q (by decide))
  refine lv_iload_n hF.1 hF.2.1 dL_act_165 rfl (lv_at hl 1 rfl) ?_
  refine zi_bipush hF.1 hF.2.1 dL_act_166 rfl ?_
  refine zi_icmp_ne (tgt := 182) hF.1 hF.2.1 dL_act_168 (by decide) (by decide) (by decide) (fun _ => ?_) (fun q => absurd q (by decide))
  refine lv_iload_n hF.1 hF.2.1 dL_act_182 rfl (lv_at hl 1 rfl) ?_
  refine zi_bipush hF.1 hF.2.1 dL_act_183 rfl ?_
  refine zi_icmp_ne (tgt := 197) hF.1 hF.2.1 dL_act_185 (by decide) (by decide) (by decide) (fun _ => ?_) (fun q => absurd q (by decide))
  refine lv_iload_n hF.1 hF.2.1 dL_act_197 rfl (lv_at hl 1 rfl) ?_
  refine zi_bipush hF.1 hF.2.1 dL_act_198 rfl ?_
  refine zi_icmp_ne (tgt := 212) hF.1 hF.2.1 dL_act_200 (by decide) (by decide) (by decide) (fun q => absurd q (by decide)) (fun _ => ?_)
  refine lv_aload_n hF.1 hF.2.1 dL_act_203 rfl (lv_at hl 0 rfl) ?_
  refine lv_iload_n hF.1 hF.2.1 dL_act_204 rfl (lv_at hl 2 rfl) ?_
  refine lv_iload_n hF.1 hF.2.1 dL_act_205 rfl (lv_at hl 3 rfl) ?_
  refine z_hci (k := 2) (S := (Nat → Nat → Int)) (w := (fun κ9 => gC c h σ κ9 ω)) (P := (fun z _ => thP hs mi = 0 ∧ z = nsS σ mi (wd σ mi) hs.toNat 16)) (PX := fun E9 => (E9 = E98 ∧ thP hs mi = 1) ∨ (E9 = E206 ∧ thP hs mi = 2)) (g := gC c h σ κ ω) (z_xrunV (rm := { frames := 8, cells := 2, slots := 6 * 2, locals := 124 }) hF hK hX hz hA hP hS (c_X3_noise l h D c σ κ ω hinj hG mi hmi hs hhs hst _) (gIn_V mp_18 mw_675 mw_676 mw_86 mw_407) rfl rfl ⟨rfl, by decide, by decide, rfl⟩ ⟨(Nat.le_of_ble_eq_true rfl), (Nat.le_of_ble_eq_true rfl)⟩ (k := 0) (T := TX3) (N := 14) (by decide) rfl rfl rfl (As := [.int (iz mi), .int (iz hs)]) (rest := []) rfl hl.1 rfl (Nat.le_of_ble_eq_true rfl) dL_act_206 ⟨(Nat.le_of_ble_eq_true rfl), (Nat.le_of_ble_eq_true rfl)⟩) hz hA hS (fun E9 ce q9 H locs hpx hP hS hce hcv hcl => ?_) (fun z v H locs hp hP hS => ?_)
  · rcases hpx with ⟨rfl, hpx⟩ | ⟨rfl, hpx⟩
    · refine z_hnd hF hK (pre := []) (suf := [(0, 217, 223, 18), (0, 217, 228, 20)]) htab (fun _ q => absurd q List.not_mem_nil) (by decide) (by decide) mp_0 (NW_mem (by decide +kernel) rfl) hce hcv hcl ?_
      refine lv_astore hF.1 hF.2.1 dL_act_218 hl (by decide) rfl (fun ls _ => ?_)
      refine zi_bipush hF.1 hF.2.1 dL_act_220 rfl ?_
      exact z_sreti (w := gS c h) (u := (σ, κ, ω)) (P := (fun (k : Int) (u : S3) => (∃ z : Int, k = z ∧ thP hs mi = 0 ∧ z = nsS σ mi (wd σ mi) hs.toNat 16 ∧ u.1 = σ ∧ u.2.2 = ω) ∨ (u = (σ, κ, ω) ∧ ((k = -71 ∧ thP hs mi = 1) ∨ (k = -72 ∧ thP hs mi = 2))))) hF hr hlocks hP hS (Nat.le_of_ble_eq_true rfl) (Nat.le_of_ble_eq_true rfl) rfl (Or.inr ⟨rfl, Or.inl ⟨rfl, hpx⟩⟩) dL_act_222
    · refine z_hnd hF hK (pre := [(0, 217, 218, 16)]) (suf := [(0, 217, 228, 20)]) htab (List.forall_mem_cons.mpr ⟨⟨by decide, E98, mp_0, hN.1⟩, fun _ q => absurd q List.not_mem_nil⟩) (by decide) (by decide) mp_1 (NW_mem (by decide +kernel) rfl) hce hcv hcl ?_
      refine lv_astore hF.1 hF.2.1 dL_act_223 hl (by decide) rfl (fun ls _ => ?_)
      refine zi_bipush hF.1 hF.2.1 dL_act_225 rfl ?_
      exact z_sreti (w := gS c h) (u := (σ, κ, ω)) (P := (fun (k : Int) (u : S3) => (∃ z : Int, k = z ∧ thP hs mi = 0 ∧ z = nsS σ mi (wd σ mi) hs.toNat 16 ∧ u.1 = σ ∧ u.2.2 = ω) ∨ (u = (σ, κ, ω) ∧ ((k = -71 ∧ thP hs mi = 1) ∨ (k = -72 ∧ thP hs mi = 2))))) hF hr hlocks hP hS (Nat.le_of_ble_eq_true rfl) (Nat.le_of_ble_eq_true rfl) rfl (Or.inr ⟨rfl, Or.inr (⟨rfl, hpx⟩)⟩) dL_act_227
  · skip
    refine lv_goto (tgt := 217) hF.1 hF.2.1 dL_act_209 (by decide) ?_
    exact z_sreti (w := gS c h) (u := (σ, v, ω)) (P := (fun (k : Int) (u : S3) => (∃ z : Int, k = z ∧ thP hs mi = 0 ∧ z = nsS σ mi (wd σ mi) hs.toNat 16 ∧ u.1 = σ ∧ u.2.2 = ω) ∨ (u = (σ, κ, ω) ∧ ((k = -71 ∧ thP hs mi = 1) ∨ (k = -72 ∧ thP hs mi = 2))))) hF hr hlocks hP hS (Nat.le_of_ble_eq_true rfl) (Nat.le_of_ble_eq_true rfl) rfl (Or.inl ⟨z, rfl, hp.1, hp.2, rfl, rfl⟩) dL_act_217

set_option maxRecDepth 100000 in
set_option maxHeartbeats 4000000 in
theorem c_L_act12 (l : Launch) (h : Nat → Nat) (D : va_G) (c : Nat → ClassId) (σ κ : Nat → Nat → Int) (ω : Nat × (Nat → Int32) × Int32) (hinj : ∀ i j, i < 32 → j < 32 → h i = h j → i = j) (hG : GI σ) (mi : Int) (hmi : -2147483648 ≤ mi ∧ mi ≤ 2147483647) (x0 : Int) (x1 : Int) (hst : l.stackTraces = false) :
    ∀ sz, Met l yL_act (Cond.codeWith yL_act cL_act 6 (some .int) [(0, 217, 218, 16), (0, 217, 223, 18), (0, 217, 228, 20)] :: UW) { frames := 9, cells := 1, slots := 6 * 1, locals := 145 } (zPE zNCx [.ref (h 0), .int (iz 12), .int (iz mi), .int (iz x0), .int (iz x1)] 32 h D (gT c) sz (gC c h σ κ ω)) (va_Qi (fun r (u : Int × S3) => r = iz u.1 ∧ (fun (k : Int) (u : S3) => (∃ z : Int, k = z ∧ thK mi = 0 ∧ z = chS σ mi 16 ∧ u.1 = σ ∧ u.2.2 = ω) ∨ (u = (σ, κ, ω) ∧ ((k = -72 ∧ thK mi = 1)))) u.1 u.2) (fun u t => zB 32 h D (gS c h u.2) t.heap) (zA 32 h sz)) 1 (6 * 1) (zA 32 h sz) := by
  refine zHM_of (by decide) (Nat.le_of_ble_eq_true rfl) ?_
  intro p e s m below meth cd ls ⟨hF, hr, hlocks, hK, hX⟩ htab hN hP hl
  have hz : zD (zA 32 h s.heap.size) 32 h := zD.self hinj s.heap.size
  have hA : ∀ q, s.heap.size ≤ q → zA 32 h s.heap.size q := zA_new
  generalize zA 32 h s.heap.size = A at hz hA hX ⊢
  have hS : va_S A s.heap s.heap [] := va_S.rf
  have hl : lv_has ls 6 [(0, .ref (h 0)), (1, .int (iz 12)), (2, .int (iz mi)), (3, .int (iz x0)), (4, .int (iz x1))] := hl
  refine lv_iload_n hF.1 hF.2.1 dL_act_0 rfl (lv_at hl 1 rfl) ?_
  refine zi_if_ne (tgt := 12) hF.1 hF.2.1 dL_act_1 (by decide) (by decide) (fun _ => ?_) (fun q => absurd q (by decide))
  refine lv_iload_n hF.1 hF.2.1 dL_act_12 rfl (lv_at hl 1 rfl) ?_
  refine zi_const hF.1 hF.2.1 dL_act_13 ?_
  refine zi_icmp_ne (tgt := 34) hF.1 hF.2.1 dL_act_14 (by decide) (by decide) (by decide) (fun _ => ?_) (fun q => absurd q (by decide))
  refine lv_iload_n hF.1 hF.2.1 dL_act_34 rfl (lv_at hl 1 rfl) ?_
  refine zi_const hF.1 hF.2.1 dL_act_35 ?_
  refine zi_icmp_ne (tgt := 56) hF.1 hF.2.1 dL_act_36 (by decide) (by decide) (by decide) (fun _ => ?_) (fun q => absurd q (by decide))
  refine lv_iload_n hF.1 hF.2.1 dL_act_56 rfl (lv_at hl 1 rfl) ?_
  refine zi_const hF.1 hF.2.1 dL_act_57 ?_
  refine zi_icmp_ne (tgt := 78) hF.1 hF.2.1 dL_act_58 (by decide) (by decide) (by decide) (fun _ => ?_) (fun q => absurd q (by decide))
  refine lv_iload_n hF.1 hF.2.1 dL_act_78 rfl (lv_at hl 1 rfl) ?_
  refine zi_const hF.1 hF.2.1 dL_act_79 ?_
  refine zi_icmp_ne (tgt := 100) hF.1 hF.2.1 dL_act_80 (by decide) (by decide) (by decide) (fun _ => ?_) (fun q => absurd q (by decide))
  refine lv_iload_n hF.1 hF.2.1 dL_act_100 rfl (lv_at hl 1 rfl) ?_
  refine zi_const hF.1 hF.2.1 dL_act_101 ?_
  refine zi_icmp_ne (tgt := 113) hF.1 hF.2.1 dL_act_102 (by decide) (by decide) (by decide) (fun _ => ?_) (fun q => absurd q (by decide))
  refine lv_iload_n hF.1 hF.2.1 dL_act_113 rfl (lv_at hl 1 rfl) ?_
  refine zi_bipush hF.1 hF.2.1 dL_act_114 rfl ?_
  refine zi_icmp_ne (tgt := 128) hF.1 hF.2.1 dL_act_116 (by decide) (by decide) (by decide) (fun _ => ?_) (fun q => absurd q (by decide))
  refine lv_iload_n hF.1 hF.2.1 dL_act_128 rfl (lv_at hl 1 rfl) ?_
  refine zi_bipush hF.1 hF.2.1 dL_act_129 rfl ?_
  refine zi_icmp_ne (tgt := 150) hF.1 hF.2.1 dL_act_131 (by decide) (by decide) (by decide) (fun _ => ?_) (fun q => absurd q (by decide))
  refine lv_iload_n hF.1 hF.2.1 dL_act_150 rfl (lv_at hl 1 rfl) ?_
  refine zi_bipush hF.1 hF.2.1 dL_act_151 rfl ?_
  refine zi_icmp_ne (tgt := 165) hF.1 hF.2.1 dL_act_153 (by decide) (by decide) (by decide) (fun _ => ?_) (fun q => absurd q (by decide))
  refine lv_iload_n hF.1 hF.2.1 dL_act_165 rfl (lv_at hl 1 rfl) ?_
  refine zi_bipush hF.1 hF.2.1 dL_act_166 rfl ?_
  refine zi_icmp_ne (tgt := 182) hF.1 hF.2.1 dL_act_168 (by decide) (by decide) (by decide) (fun _ => ?_) (fun q => absurd q (by decide))
  refine lv_iload_n hF.1 hF.2.1 dL_act_182 rfl (lv_at hl 1 rfl) ?_
  refine zi_bipush hF.1 hF.2.1 dL_act_183 rfl ?_
  refine zi_icmp_ne (tgt := 197) hF.1 hF.2.1 dL_act_185 (by decide) (by decide) (by decide) (fun _ => ?_) (fun q => absurd q (by decide))
  refine lv_iload_n hF.1 hF.2.1 dL_act_197 rfl (lv_at hl 1 rfl) ?_
  refine zi_bipush hF.1 hF.2.1 dL_act_198 rfl ?_
  refine zi_icmp_ne (tgt := 212) hF.1 hF.2.1 dL_act_200 (by decide) (by decide) (by decide) (fun _ => ?_) (fun q => absurd q (by decide))
  refine lv_aload_n hF.1 hF.2.1 dL_act_212 rfl (lv_at hl 0 rfl) ?_
  refine lv_iload_n hF.1 hF.2.1 dL_act_213 rfl (lv_at hl 2 rfl) ?_
  refine z_hci (k := 1) (S := (Nat → Nat → Int)) (w := (fun κ9 => gC c h σ κ9 ω)) (P := (fun z _ => thK mi = 0 ∧ z = chS σ mi 16)) (PX := fun E9 => (E9 = E206 ∧ thK mi = 1)) (g := gC c h σ κ ω) (z_xrunV (rm := { frames := 8, cells := 1, slots := 6 * 1, locals := 124 }) hF hK hX hz hA hP hS (c_X3_channels l h D c σ κ ω hinj hG mi hmi hst _) (gIn_V mp_19 mw_678 mw_679 mw_86 mw_408) rfl rfl ⟨rfl, by decide, by decide, rfl⟩ ⟨(Nat.le_of_ble_eq_true rfl), (Nat.le_of_ble_eq_true rfl)⟩ (k := 0) (T := TX3) (N := 14) (by decide) rfl rfl rfl (As := [.int (iz mi)]) (rest := []) rfl hl.1 rfl (Nat.le_of_ble_eq_true rfl) dL_act_214 ⟨(Nat.le_of_ble_eq_true rfl), (Nat.le_of_ble_eq_true rfl)⟩) hz hA hS (fun E9 ce q9 H locs hpx hP hS hce hcv hcl => ?_) (fun z v H locs hp hP hS => ?_)
  · obtain ⟨rfl, hpx⟩ := hpx
    refine z_hnd hF hK (pre := [(0, 217, 218, 16)]) (suf := [(0, 217, 228, 20)]) htab (List.forall_mem_cons.mpr ⟨⟨by decide, E98, mp_0, hN.1⟩, fun _ q => absurd q List.not_mem_nil⟩) (by decide) (by decide) mp_1 (NW_mem (by decide +kernel) rfl) hce hcv hcl ?_
    refine lv_astore hF.1 hF.2.1 dL_act_223 hl (by decide) rfl (fun ls _ => ?_)
    refine zi_bipush hF.1 hF.2.1 dL_act_225 rfl ?_
    exact z_sreti (w := gS c h) (u := (σ, κ, ω)) (P := (fun (k : Int) (u : S3) => (∃ z : Int, k = z ∧ thK mi = 0 ∧ z = chS σ mi 16 ∧ u.1 = σ ∧ u.2.2 = ω) ∨ (u = (σ, κ, ω) ∧ ((k = -72 ∧ thK mi = 1))))) hF hr hlocks hP hS (Nat.le_of_ble_eq_true rfl) (Nat.le_of_ble_eq_true rfl) rfl (Or.inr ⟨rfl, ⟨rfl, hpx⟩⟩) dL_act_227
  · skip
    exact z_sreti (w := gS c h) (u := (σ, v, ω)) (P := (fun (k : Int) (u : S3) => (∃ z : Int, k = z ∧ thK mi = 0 ∧ z = chS σ mi 16 ∧ u.1 = σ ∧ u.2.2 = ω) ∨ (u = (σ, κ, ω) ∧ ((k = -72 ∧ thK mi = 1))))) hF hr hlocks hP hS (Nat.le_of_ble_eq_true rfl) (Nat.le_of_ble_eq_true rfl) rfl (Or.inl ⟨z, rfl, hp.1, hp.2, rfl, rfl⟩) dL_act_217
