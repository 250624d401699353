/-! the law's helpers, one for each call that may throw -/

set_option maxRecDepth 100000 in
set_option maxHeartbeats 4000000 in
theorem c_L_startSet (l : Launch) (h : Nat → Nat) (D : va_G) (c : Nat → ClassId) (cL : ClassId) (σ κ : Nat → Nat → Int) (ω : Nat × (Nat → Int32) × Int32) (o : Int64) (hinj : ∀ i j, i < 33 → j < 33 → h i = h j → i = j) (hG : GI σ) (mi : Int) (hmi : -2147483648 ≤ mi ∧ mi ≤ 2147483647) (hst : l.stackTraces = false) :
    ∀ sz, Met l yL_startSet (Cond.codeWith yL_startSet cL_startSet 4 (some .int) [(0, 9, 12, 13), (0, 9, 15, 15)] :: UW) { frames := 9, cells := 2, slots := 6 * 2, locals := 146 } (zPE zNCx [.ref (h 0), .int (iz mi), .ref (h 32)] 33 h D (gTL c cL) sz (gL c cL h (σ, κ, ω, o))) (va_Qi (fun r (u : Int × SS) => r = iz u.1 ∧ (fun (k : Int) (u : SS) => (k = 0 ∧ ∃ z : Int, u.2.2.2 = cvI z ∧ MSet σ mi z u.1 0 ∧ u.2.2.1 = ω) ∨ (u = (σ, κ, ω, o) ∧ ((k = 1 ∧ thS σ mi = 1) ∨ (k = 2 ∧ thS σ mi = 2)))) u.1 u.2) (fun u t => zB 33 h D (gL c cL h u.2) t.heap) (zA 33 h sz)) 2 (6 * 2) (zA 33 h sz) := by
  refine zHM_of (by decide) (Nat.le_of_ble_eq_true rfl) ?_
  intro p e s m below meth cd ls ⟨hF, hr, hlocks, hK, hX⟩ htab hN hP hl
  have hz : zD (zA 33 h s.heap.size) 33 h := zD.self hinj s.heap.size
  have hA : ∀ q, s.heap.size ≤ q → zA 33 h s.heap.size q := zA_new
  generalize zA 33 h s.heap.size = A at hz hA hX ⊢
  have hS : va_S A s.heap s.heap [] := va_S.rf
  have hi2 : ∀ i j, i < 32 → j < 32 → h i = h j → i = j := fun i j h1 h2 => hinj i j (by omega) (by omega)
  have hl : lv_has ls 4 [(0, .ref (h 0)), (1, .int (iz mi)), (2, .ref (h 32))] := hl
  refine lv_aload_n hF.1 hF.2.1 dL_startSet_0 rfl (lv_at hl 2 rfl) ?_
  refine zi_const hF.1 hF.2.1 dL_startSet_1 ?_
  refine lv_aload_n hF.1 hF.2.1 dL_startSet_2 rfl (lv_at hl 0 rfl) ?_
  refine lv_iload_n hF.1 hF.2.1 dL_startSet_3 rfl (lv_at hl 1 rfl) ?_
  refine z_hcall (k := 2) (S := (Nat → Nat → Int)) (u := (σ, κ, ω, o)) (w := (fun σ9 => gC c h σ9 κ ω)) (P := (fun z σ9 => MSet σ mi z σ9 0)) (PX := fun E9 => (E9 = E206 ∧ thS σ mi = 1) ∨ (E9 = E67 ∧ thS σ mi = 2)) (z_xrunV (rm := { frames := 8, cells := 2, slots := 6 * 2, locals := 124 }) hF (zK_gT hK) hX (hz.less (by decide)) hA (zB_32 hP) hS (c_X3_startSet l h D c σ κ ω hi2 hG mi hmi hst _) (gIn_V mw_628 mw_629 mw_630 mw_86 mw_87) rfl rfl ⟨rfl, by decide, by decide, rfl⟩ ⟨Nat.le_of_ble_eq_true rfl, Nat.le_of_ble_eq_true rfl⟩ (k := 0) (T := TX3) (N := 14) (by decide) rfl rfl rfl (As := [.int (iz mi)]) (rest := [.int (iz 0), .ref (h 32)]) rfl hl.1 rfl (Nat.le_of_ble_eq_true rfl) dL_startSet_4 ⟨Nat.le_of_ble_eq_true rfl, Nat.le_of_ble_eq_true rfl⟩) hz hA hP hS (fun v => (v, κ, ω, o)) (fun _ => rfl) (fun _ => rfl) (fun E9 ce q9 H locs hpx hP hS hce hcv hcl => ?_) (fun z v H locs hp hP hS => ?_)
  · rcases hpx with ⟨rfl, hpx⟩ | ⟨rfl, hpx⟩
    · refine z_hnd hF hK (pre := []) (suf := [(0, 9, 15, 15)]) htab (fun _ q => absurd q List.not_mem_nil) (by decide) (by decide) mw_626 (NW_mem (by decide +kernel) rfl) hce hcv hcl ?_
      refine lv_astore_n hF.1 hF.2.1 dL_startSet_12 rfl hl (by decide) rfl (fun ls _ => ?_)
      refine zi_const hF.1 hF.2.1 dL_startSet_13 ?_
      exact z_sreti (w := gL c cL h) (u := (σ, κ, ω, o)) (P := (fun (k : Int) (u : SS) => (k = 0 ∧ ∃ z : Int, u.2.2.2 = cvI z ∧ MSet σ mi z u.1 0 ∧ u.2.2.1 = ω) ∨ (u = (σ, κ, ω, o) ∧ ((k = 1 ∧ thS σ mi = 1) ∨ (k = 2 ∧ thS σ mi = 2))))) hF hr hlocks hP hS (Nat.le_of_ble_eq_true rfl) (Nat.le_of_ble_eq_true rfl) rfl (Or.inr ⟨rfl, Or.inl ⟨rfl, hpx⟩⟩) dL_startSet_14
    · refine z_hnd hF hK (pre := [(0, 9, 12, 13)]) (suf := []) htab (List.forall_mem_cons.mpr ⟨⟨by decide, E206, mw_626, hN.2.2⟩, fun _ q => absurd q List.not_mem_nil⟩) (by decide) (by decide) mw_627 (NW_mem (by decide +kernel) rfl) hce hcv hcl ?_
      refine lv_astore_n hF.1 hF.2.1 dL_startSet_15 rfl hl (by decide) rfl (fun ls _ => ?_)
      refine zi_const hF.1 hF.2.1 dL_startSet_16 ?_
      exact z_sreti (w := gL c cL h) (u := (σ, κ, ω, o)) (P := (fun (k : Int) (u : SS) => (k = 0 ∧ ∃ z : Int, u.2.2.2 = cvI z ∧ MSet σ mi z u.1 0 ∧ u.2.2.1 = ω) ∨ (u = (σ, κ, ω, o) ∧ ((k = 1 ∧ thS σ mi = 1) ∨ (k = 2 ∧ thS σ mi = 2))))) hF hr hlocks hP hS (Nat.le_of_ble_eq_true rfl) (Nat.le_of_ble_eq_true rfl) rfl (Or.inr ⟨rfl, Or.inr (⟨rfl, hpx⟩)⟩) dL_startSet_17
  · exact z_hI (P := (fun (k : Int) (u : SS) => (k = 0 ∧ ∃ z : Int, u.2.2.2 = cvI z ∧ MSet σ mi z u.1 0 ∧ u.2.2.1 = ω) ∨ (u = (σ, κ, ω, o) ∧ ((k = 1 ∧ thS σ mi = 1) ∨ (k = 2 ∧ thS σ mi = 2))))) (tgt := 18) hF hr hlocks hK hz hP hS (Nat.le_of_ble_eq_true rfl) (Nat.le_of_ble_eq_true rfl) dL_startSet_7 dL_startSet_8 dL_startSet_9 (by decide) dL_startSet_18 dL_startSet_19 (Or.inl ⟨rfl, z, rfl, hp, rfl⟩)

set_option maxRecDepth 100000 in
set_option maxHeartbeats 4000000 in
theorem c_L_setChange (l : Launch) (h : Nat → Nat) (D : va_G) (c : Nat → ClassId) (cL : ClassId) (σ κ : Nat → Nat → Int) (ω : Nat × (Nat → Int32) × Int32) (o : Int64) (hinj : ∀ i j, i < 33 → j < 33 → h i = h j → i = j) (hG : GI σ) (sg : Int) (hsg : -2147483648 ≤ sg ∧ sg ≤ 2147483647) (mi : Int) (hmi : -2147483648 ≤ mi ∧ mi ≤ 2147483647) (hst : l.stackTraces = false) :
    ∀ sz, Met l yL_setChange (Cond.codeWith yL_setChange cL_setChange 5 (some .int) [(0, 17, 20, 21), (0, 17, 24, 13)] :: UW) { frames := 8, cells := 2, slots := 6 * 2, locals := 127 } (zPE zNCx [.ref (h 0), .int (iz sg), .int (iz mi), .ref (h 32)] 33 h D (gTL c cL) sz (gL c cL h (σ, κ, ω, o))) (va_Qi (fun r (u : Int × SS) => r = iz u.1 ∧ (fun (k : Int) (u : SS) => (k = 0 ∧ ∃ z : Int, u.2.2.2 = cvB z ∧ thC sg mi = 0 ∧ CS σ (u2 σ 2 sg.toNat mi) (stFine (u2 σ 2 sg.toNat mi) sg) z u.1 ∧ GI u.1 ∧ u.2.2.1 = ω) ∨ (u = (σ, κ, ω, o) ∧ ((k = 1 ∧ thC sg mi = 1) ∨ (k = 2 ∧ thC sg mi = 2)))) u.1 u.2) (fun u t => zB 33 h D (gL c cL h u.2) t.heap) (zA 33 h sz)) 2 (6 * 2) (zA 33 h sz) := by
  refine zHM_of (by decide) (Nat.le_of_ble_eq_true rfl) ?_
  intro p e s m below meth cd ls ⟨hF, hr, hlocks, hK, hX⟩ htab hN hP hl
  have hz : zD (zA 33 h s.heap.size) 33 h := zD.self hinj s.heap.size
  have hA : ∀ q, s.heap.size ≤ q → zA 33 h s.heap.size q := zA_new
  generalize zA 33 h s.heap.size = A at hz hA hX ⊢
  have hS : va_S A s.heap s.heap [] := va_S.rf
  have hi2 : ∀ i j, i < 32 → j < 32 → h i = h j → i = j := fun i j h1 h2 => hinj i j (by omega) (by omega)
  have hl : lv_has ls 5 [(0, .ref (h 0)), (1, .int (iz sg)), (2, .int (iz mi)), (3, .ref (h 32))] := hl
  refine lv_aload_n hF.1 hF.2.1 dL_setChange_0 rfl (lv_at hl 3 rfl) ?_
  refine zi_const hF.1 hF.2.1 dL_setChange_1 ?_
  refine lv_aload_n hF.1 hF.2.1 dL_setChange_2 rfl (lv_at hl 0 rfl) ?_
  refine lv_iload_n hF.1 hF.2.1 dL_setChange_3 rfl (lv_at hl 1 rfl) ?_
  refine lv_iload_n hF.1 hF.2.1 dL_setChange_4 rfl (lv_at hl 2 rfl) ?_
  refine z_hcall (k := 2) (S := ((Nat → Nat → Int) × (Nat → Nat → Int))) (u := (σ, κ, ω, o)) (w := (fun u9 => gC c h u9.1 u9.2 ω)) (P := (fun z u9 => thC sg mi = 0 ∧ CS σ (u2 σ 2 sg.toNat mi) (stFine (u2 σ 2 sg.toNat mi) sg) z u9.1 ∧ GI u9.1)) (PX := fun E9 => (E9 = E98 ∧ thC sg mi = 1) ∨ (E9 = E206 ∧ thC sg mi = 2)) (z_xrunV (rm := { frames := 7, cells := 2, slots := 6 * 2, locals := 104 }) hF (zK_gT hK) hX (hz.less (by decide)) hA (zB_32 hP) hS (c_X3_setChange l h D c σ κ ω hi2 hG sg hsg mi hmi hst _) (gIn_V mw_632 mw_633 mw_634 mw_86 mw_113) rfl rfl ⟨rfl, by decide, by decide, rfl⟩ ⟨Nat.le_of_ble_eq_true rfl, Nat.le_of_ble_eq_true rfl⟩ (k := 0) (T := TX3) (N := 14) (by decide) rfl rfl rfl (As := [.int (iz sg), .int (iz mi)]) (rest := [.int (iz 0), .ref (h 32)]) rfl hl.1 rfl (Nat.le_of_ble_eq_true rfl) dL_setChange_5 ⟨Nat.le_of_ble_eq_true rfl, Nat.le_of_ble_eq_true rfl⟩) hz hA hP hS (fun v => (v.1, v.2, ω, o)) (fun _ => rfl) (fun _ => rfl) (fun E9 ce q9 H locs hpx hP hS hce hcv hcl => ?_) (fun z v H locs hp hP hS => ?_)
  · rcases hpx with ⟨rfl, hpx⟩ | ⟨rfl, hpx⟩
    · refine z_hnd hF hK (pre := []) (suf := [(0, 17, 24, 13)]) htab (fun _ q => absurd q List.not_mem_nil) (by decide) (by decide) mw_631 (NW_mem (by decide +kernel) rfl) hce hcv hcl ?_
      refine lv_astore hF.1 hF.2.1 dL_setChange_20 hl (by decide) rfl (fun ls _ => ?_)
      refine zi_const hF.1 hF.2.1 dL_setChange_22 ?_
      exact z_sreti (w := gL c cL h) (u := (σ, κ, ω, o)) (P := (fun (k : Int) (u : SS) => (k = 0 ∧ ∃ z : Int, u.2.2.2 = cvB z ∧ thC sg mi = 0 ∧ CS σ (u2 σ 2 sg.toNat mi) (stFine (u2 σ 2 sg.toNat mi) sg) z u.1 ∧ GI u.1 ∧ u.2.2.1 = ω) ∨ (u = (σ, κ, ω, o) ∧ ((k = 1 ∧ thC sg mi = 1) ∨ (k = 2 ∧ thC sg mi = 2))))) hF hr hlocks hP hS (Nat.le_of_ble_eq_true rfl) (Nat.le_of_ble_eq_true rfl) rfl (Or.inr ⟨rfl, Or.inl ⟨rfl, hpx⟩⟩) dL_setChange_23
    · refine z_hnd hF hK (pre := [(0, 17, 20, 21)]) (suf := []) htab (List.forall_mem_cons.mpr ⟨⟨by decide, E98, mw_631, hN.1⟩, fun _ q => absurd q List.not_mem_nil⟩) (by decide) (by decide) mw_626 (NW_mem (by decide +kernel) rfl) hce hcv hcl ?_
      refine lv_astore hF.1 hF.2.1 dL_setChange_24 hl (by decide) rfl (fun ls _ => ?_)
      refine zi_const hF.1 hF.2.1 dL_setChange_26 ?_
      exact z_sreti (w := gL c cL h) (u := (σ, κ, ω, o)) (P := (fun (k : Int) (u : SS) => (k = 0 ∧ ∃ z : Int, u.2.2.2 = cvB z ∧ thC sg mi = 0 ∧ CS σ (u2 σ 2 sg.toNat mi) (stFine (u2 σ 2 sg.toNat mi) sg) z u.1 ∧ GI u.1 ∧ u.2.2.1 = ω) ∨ (u = (σ, κ, ω, o) ∧ ((k = 1 ∧ thC sg mi = 1) ∨ (k = 2 ∧ thC sg mi = 2))))) hF hr hlocks hP hS (Nat.le_of_ble_eq_true rfl) (Nat.le_of_ble_eq_true rfl) rfl (Or.inr ⟨rfl, Or.inr (⟨rfl, hpx⟩)⟩) dL_setChange_27
  · exact z_hB (P := (fun (k : Int) (u : SS) => (k = 0 ∧ ∃ z : Int, u.2.2.2 = cvB z ∧ thC sg mi = 0 ∧ CS σ (u2 σ 2 sg.toNat mi) (stFine (u2 σ 2 sg.toNat mi) sg) z u.1 ∧ GI u.1 ∧ u.2.2.1 = ω) ∨ (u = (σ, κ, ω, o) ∧ ((k = 1 ∧ thC sg mi = 1) ∨ (k = 2 ∧ thC sg mi = 2))))) (tgt := 28) (t1 := 15) (t2 := 16) hF hr hlocks hK hz hP hS (Nat.le_of_ble_eq_true rfl) (Nat.le_of_ble_eq_true rfl) dL_setChange_8 (by decide) dL_setChange_11 dL_setChange_12 (by decide) dL_setChange_15 dL_setChange_16 dL_setChange_17 (by decide) dL_setChange_28 dL_setChange_29 rfl (Or.inl ⟨rfl, z, rfl, hp.1, hp.2.1, hp.2.2, rfl⟩)

set_option maxRecDepth 100000 in
set_option maxHeartbeats 4000000 in
theorem c_L_setBound (l : Launch) (h : Nat → Nat) (D : va_G) (c : Nat → ClassId) (cL : ClassId) (σ κ : Nat → Nat → Int) (ω : Nat × (Nat → Int32) × Int32) (o : Int64) (hinj : ∀ i j, i < 33 → j < 33 → h i = h j → i = j) (hG : GI σ) (hs : Int) (hhs : -2147483648 ≤ hs ∧ hs ≤ 2147483647) (bd : Int) (hbd : -2147483648 ≤ bd ∧ bd ≤ 2147483647) (hst : l.stackTraces = false) :
    ∀ sz, Met l yL_setBound (Cond.codeWith yL_setBound cL_setBound 5 (some .int) [(0, 17, 20, 21), (0, 17, 24, 13)] :: UW) { frames := 8, cells := 2, slots := 6 * 2, locals := 145 } (zPE zNCx [.ref (h 0), .int (iz hs), .int (iz bd), .ref (h 32)] 33 h D (gTL c cL) sz (gL c cL h (σ, κ, ω, o))) (va_Qi (fun r (u : Int × SS) => r = iz u.1 ∧ (fun (k : Int) (u : SS) => (k = 0 ∧ ∃ z : Int, u.2.2.2 = cvB z ∧ thB hs bd = 0 ∧ CS σ (u2 σ 3 hs.toNat bd) (bw (u2 σ 3 hs.toNat bd) 0 1000 = 0) z u.1 ∧ GI u.1 ∧ u.2.2.1 = ω) ∨ (u = (σ, κ, ω, o) ∧ ((k = 1 ∧ thB hs bd = 1) ∨ (k = 2 ∧ thB hs bd = 2)))) u.1 u.2) (fun u t => zB 33 h D (gL c cL h u.2) t.heap) (zA 33 h sz)) 2 (6 * 2) (zA 33 h sz) := by
  refine zHM_of (by decide) (Nat.le_of_ble_eq_true rfl) ?_
  intro p e s m below meth cd ls ⟨hF, hr, hlocks, hK, hX⟩ htab hN hP hl
  have hz : zD (zA 33 h s.heap.size) 33 h := zD.self hinj s.heap.size
  have hA : ∀ q, s.heap.size ≤ q → zA 33 h s.heap.size q := zA_new
  generalize zA 33 h s.heap.size = A at hz hA hX ⊢
  have hS : va_S A s.heap s.heap [] := va_S.rf
  have hi2 : ∀ i j, i < 32 → j < 32 → h i = h j → i = j := fun i j h1 h2 => hinj i j (by omega) (by omega)
  have hl : lv_has ls 5 [(0, .ref (h 0)), (1, .int (iz hs)), (2, .int (iz bd)), (3, .ref (h 32))] := hl
  refine lv_aload_n hF.1 hF.2.1 dL_setBound_0 rfl (lv_at hl 3 rfl) ?_
  refine zi_const hF.1 hF.2.1 dL_setBound_1 ?_
  refine lv_aload_n hF.1 hF.2.1 dL_setBound_2 rfl (lv_at hl 0 rfl) ?_
  refine lv_iload_n hF.1 hF.2.1 dL_setBound_3 rfl (lv_at hl 1 rfl) ?_
  refine lv_iload_n hF.1 hF.2.1 dL_setBound_4 rfl (lv_at hl 2 rfl) ?_
  refine z_hcall (k := 2) (S := ((Nat → Nat → Int) × (Nat → Nat → Int))) (u := (σ, κ, ω, o)) (w := (fun u9 => gC c h u9.1 u9.2 ω)) (P := (fun z u9 => thB hs bd = 0 ∧ CS σ (u2 σ 3 hs.toNat bd) (bw (u2 σ 3 hs.toNat bd) 0 1000 = 0) z u9.1 ∧ GI u9.1)) (PX := fun E9 => (E9 = E98 ∧ thB hs bd = 1) ∨ (E9 = E206 ∧ thB hs bd = 2)) (z_xrunV (rm := { frames := 7, cells := 2, slots := 6 * 2, locals := 122 }) hF (zK_gT hK) hX (hz.less (by decide)) hA (zB_32 hP) hS (c_X3_setBound l h D c σ κ ω hi2 hG hs hhs bd hbd hst _) (gIn_V mw_635 mw_636 mw_637 mw_86 mw_158) rfl rfl ⟨rfl, by decide, by decide, rfl⟩ ⟨Nat.le_of_ble_eq_true rfl, Nat.le_of_ble_eq_true rfl⟩ (k := 0) (T := TX3) (N := 14) (by decide) rfl rfl rfl (As := [.int (iz hs), .int (iz bd)]) (rest := [.int (iz 0), .ref (h 32)]) rfl hl.1 rfl (Nat.le_of_ble_eq_true rfl) dL_setBound_5 ⟨Nat.le_of_ble_eq_true rfl, Nat.le_of_ble_eq_true rfl⟩) hz hA hP hS (fun v => (v.1, v.2, ω, o)) (fun _ => rfl) (fun _ => rfl) (fun E9 ce q9 H locs hpx hP hS hce hcv hcl => ?_) (fun z v H locs hp hP hS => ?_)
  · rcases hpx with ⟨rfl, hpx⟩ | ⟨rfl, hpx⟩
    · refine z_hnd hF hK (pre := []) (suf := [(0, 17, 24, 13)]) htab (fun _ q => absurd q List.not_mem_nil) (by decide) (by decide) mw_631 (NW_mem (by decide +kernel) rfl) hce hcv hcl ?_
      refine lv_astore hF.1 hF.2.1 dL_setBound_20 hl (by decide) rfl (fun ls _ => ?_)
      refine zi_const hF.1 hF.2.1 dL_setBound_22 ?_
      exact z_sreti (w := gL c cL h) (u := (σ, κ, ω, o)) (P := (fun (k : Int) (u : SS) => (k = 0 ∧ ∃ z : Int, u.2.2.2 = cvB z ∧ thB hs bd = 0 ∧ CS σ (u2 σ 3 hs.toNat bd) (bw (u2 σ 3 hs.toNat bd) 0 1000 = 0) z u.1 ∧ GI u.1 ∧ u.2.2.1 = ω) ∨ (u = (σ, κ, ω, o) ∧ ((k = 1 ∧ thB hs bd = 1) ∨ (k = 2 ∧ thB hs bd = 2))))) hF hr hlocks hP hS (Nat.le_of_ble_eq_true rfl) (Nat.le_of_ble_eq_true rfl) rfl (Or.inr ⟨rfl, Or.inl ⟨rfl, hpx⟩⟩) dL_setBound_23
    · refine z_hnd hF hK (pre := [(0, 17, 20, 21)]) (suf := []) htab (List.forall_mem_cons.mpr ⟨⟨by decide, E98, mw_631, hN.1⟩, fun _ q => absurd q List.not_mem_nil⟩) (by decide) (by decide) mw_626 (NW_mem (by decide +kernel) rfl) hce hcv hcl ?_
      refine lv_astore hF.1 hF.2.1 dL_setBound_24 hl (by decide) rfl (fun ls _ => ?_)
      refine zi_const hF.1 hF.2.1 dL_setBound_26 ?_
      exact z_sreti (w := gL c cL h) (u := (σ, κ, ω, o)) (P := (fun (k : Int) (u : SS) => (k = 0 ∧ ∃ z : Int, u.2.2.2 = cvB z ∧ thB hs bd = 0 ∧ CS σ (u2 σ 3 hs.toNat bd) (bw (u2 σ 3 hs.toNat bd) 0 1000 = 0) z u.1 ∧ GI u.1 ∧ u.2.2.1 = ω) ∨ (u = (σ, κ, ω, o) ∧ ((k = 1 ∧ thB hs bd = 1) ∨ (k = 2 ∧ thB hs bd = 2))))) hF hr hlocks hP hS (Nat.le_of_ble_eq_true rfl) (Nat.le_of_ble_eq_true rfl) rfl (Or.inr ⟨rfl, Or.inr (⟨rfl, hpx⟩)⟩) dL_setBound_27
  · exact z_hB (P := (fun (k : Int) (u : SS) => (k = 0 ∧ ∃ z : Int, u.2.2.2 = cvB z ∧ thB hs bd = 0 ∧ CS σ (u2 σ 3 hs.toNat bd) (bw (u2 σ 3 hs.toNat bd) 0 1000 = 0) z u.1 ∧ GI u.1 ∧ u.2.2.1 = ω) ∨ (u = (σ, κ, ω, o) ∧ ((k = 1 ∧ thB hs bd = 1) ∨ (k = 2 ∧ thB hs bd = 2))))) (tgt := 28) (t1 := 15) (t2 := 16) hF hr hlocks hK hz hP hS (Nat.le_of_ble_eq_true rfl) (Nat.le_of_ble_eq_true rfl) dL_setBound_8 (by decide) dL_setBound_11 dL_setBound_12 (by decide) dL_setBound_15 dL_setBound_16 dL_setBound_17 (by decide) dL_setBound_28 dL_setBound_29 rfl (Or.inl ⟨rfl, z, rfl, hp.1, hp.2.1, hp.2.2, rfl⟩)

set_option maxRecDepth 100000 in
set_option maxHeartbeats 4000000 in
theorem c_L_setWind (l : Launch) (h : Nat → Nat) (D : va_G) (c : Nat → ClassId) (cL : ClassId) (σ κ : Nat → Nat → Int) (ω : Nat × (Nat → Int32) × Int32) (o : Int64) (hinj : ∀ i j, i < 33 → j < 33 → h i = h j → i = j) (hG : GI σ) (hr9 : Int) (hhr9 : -2147483648 ≤ hr9 ∧ hr9 ≤ 2147483647) (wn : Int) (hwn : -2147483648 ≤ wn ∧ wn ≤ 2147483647) (hst : l.stackTraces = false) :
    ∀ sz, Met l yL_setWind (Cond.codeWith yL_setWind cL_setWind 5 (some .int) [(0, 17, 20, 21), (0, 17, 24, 13)] :: UW) { frames := 8, cells := 1, slots := 6 * 1, locals := 145 } (zPE zNCx [.ref (h 0), .int (iz hr9), .int (iz wn), .ref (h 32)] 33 h D (gTL c cL) sz (gL c cL h (σ, κ, ω, o))) (va_Qi (fun r (u : Int × SS) => r = iz u.1 ∧ (fun (k : Int) (u : SS) => (k = 0 ∧ ∃ z : Int, u.2.2.2 = cvB z ∧ thW hr9 wn = 0 ∧ CS σ (u2 σ 4 hr9.toNat wn) (bw (u2 σ 4 hr9.toNat wn) (hr9 * 60) (min (hr9 * 60 + 60) 1000) = 0) z u.1 ∧ GI u.1 ∧ u.2.2.1 = ω) ∨ (u = (σ, κ, ω, o) ∧ ((k = 1 ∧ thW hr9 wn = 1) ∨ (k = 2 ∧ thW hr9 wn = 2)))) u.1 u.2) (fun u t => zB 33 h D (gL c cL h u.2) t.heap) (zA 33 h sz)) 1 (6 * 1) (zA 33 h sz) := by
  refine zHM_of (by decide) (Nat.le_of_ble_eq_true rfl) ?_
  intro p e s m below meth cd ls ⟨hF, hr, hlocks, hK, hX⟩ htab hN hP hl
  have hz : zD (zA 33 h s.heap.size) 33 h := zD.self hinj s.heap.size
  have hA : ∀ q, s.heap.size ≤ q → zA 33 h s.heap.size q := zA_new
  generalize zA 33 h s.heap.size = A at hz hA hX ⊢
  have hS : va_S A s.heap s.heap [] := va_S.rf
  have hi2 : ∀ i j, i < 32 → j < 32 → h i = h j → i = j := fun i j h1 h2 => hinj i j (by omega) (by omega)
  have hl : lv_has ls 5 [(0, .ref (h 0)), (1, .int (iz hr9)), (2, .int (iz wn)), (3, .ref (h 32))] := hl
  refine lv_aload_n hF.1 hF.2.1 dL_setWind_0 rfl (lv_at hl 3 rfl) ?_
  refine zi_const hF.1 hF.2.1 dL_setWind_1 ?_
  refine lv_aload_n hF.1 hF.2.1 dL_setWind_2 rfl (lv_at hl 0 rfl) ?_
  refine lv_iload_n hF.1 hF.2.1 dL_setWind_3 rfl (lv_at hl 1 rfl) ?_
  refine lv_iload_n hF.1 hF.2.1 dL_setWind_4 rfl (lv_at hl 2 rfl) ?_
  refine z_hcall (k := 1) (S := ((Nat → Nat → Int) × (Nat → Nat → Int))) (u := (σ, κ, ω, o)) (w := (fun u9 => gC c h u9.1 u9.2 ω)) (P := (fun z u9 => thW hr9 wn = 0 ∧ CS σ (u2 σ 4 hr9.toNat wn) (bw (u2 σ 4 hr9.toNat wn) (hr9 * 60) (min (hr9 * 60 + 60) 1000) = 0) z u9.1 ∧ GI u9.1)) (PX := fun E9 => (E9 = E98 ∧ thW hr9 wn = 1) ∨ (E9 = E206 ∧ thW hr9 wn = 2)) (z_xrunV (rm := { frames := 7, cells := 1, slots := 6 * 1, locals := 122 }) hF (zK_gT hK) hX (hz.less (by decide)) hA (zB_32 hP) hS (c_X3_setWind l h D c σ κ ω hi2 hG hr9 hhr9 wn hwn hst _) (gIn_V mw_638 mw_639 mw_640 mw_86 mw_160) rfl rfl ⟨rfl, by decide, by decide, rfl⟩ ⟨Nat.le_of_ble_eq_true rfl, Nat.le_of_ble_eq_true rfl⟩ (k := 0) (T := TX3) (N := 14) (by decide) rfl rfl rfl (As := [.int (iz hr9), .int (iz wn)]) (rest := [.int (iz 0), .ref (h 32)]) rfl hl.1 rfl (Nat.le_of_ble_eq_true rfl) dL_setWind_5 ⟨Nat.le_of_ble_eq_true rfl, Nat.le_of_ble_eq_true rfl⟩) hz hA hP hS (fun v => (v.1, v.2, ω, o)) (fun _ => rfl) (fun _ => rfl) (fun E9 ce q9 H locs hpx hP hS hce hcv hcl => ?_) (fun z v H locs hp hP hS => ?_)
  · rcases hpx with ⟨rfl, hpx⟩ | ⟨rfl, hpx⟩
    · refine z_hnd hF hK (pre := []) (suf := [(0, 17, 24, 13)]) htab (fun _ q => absurd q List.not_mem_nil) (by decide) (by decide) mw_631 (NW_mem (by decide +kernel) rfl) hce hcv hcl ?_
      refine lv_astore hF.1 hF.2.1 dL_setWind_20 hl (by decide) rfl (fun ls _ => ?_)
      refine zi_const hF.1 hF.2.1 dL_setWind_22 ?_
      exact z_sreti (w := gL c cL h) (u := (σ, κ, ω, o)) (P := (fun (k : Int) (u : SS) => (k = 0 ∧ ∃ z : Int, u.2.2.2 = cvB z ∧ thW hr9 wn = 0 ∧ CS σ (u2 σ 4 hr9.toNat wn) (bw (u2 σ 4 hr9.toNat wn) (hr9 * 60) (min (hr9 * 60 + 60) 1000) = 0) z u.1 ∧ GI u.1 ∧ u.2.2.1 = ω) ∨ (u = (σ, κ, ω, o) ∧ ((k = 1 ∧ thW hr9 wn = 1) ∨ (k = 2 ∧ thW hr9 wn = 2))))) hF hr hlocks hP hS (Nat.le_of_ble_eq_true rfl) (Nat.le_of_ble_eq_true rfl) rfl (Or.inr ⟨rfl, Or.inl ⟨rfl, hpx⟩⟩) dL_setWind_23
    · refine z_hnd hF hK (pre := [(0, 17, 20, 21)]) (suf := []) htab (List.forall_mem_cons.mpr ⟨⟨by decide, E98, mw_631, hN.1⟩, fun _ q => absurd q List.not_mem_nil⟩) (by decide) (by decide) mw_626 (NW_mem (by decide +kernel) rfl) hce hcv hcl ?_
      refine lv_astore hF.1 hF.2.1 dL_setWind_24 hl (by decide) rfl (fun ls _ => ?_)
      refine zi_const hF.1 hF.2.1 dL_setWind_26 ?_
      exact z_sreti (w := gL c cL h) (u := (σ, κ, ω, o)) (P := (fun (k : Int) (u : SS) => (k = 0 ∧ ∃ z : Int, u.2.2.2 = cvB z ∧ thW hr9 wn = 0 ∧ CS σ (u2 σ 4 hr9.toNat wn) (bw (u2 σ 4 hr9.toNat wn) (hr9 * 60) (min (hr9 * 60 + 60) 1000) = 0) z u.1 ∧ GI u.1 ∧ u.2.2.1 = ω) ∨ (u = (σ, κ, ω, o) ∧ ((k = 1 ∧ thW hr9 wn = 1) ∨ (k = 2 ∧ thW hr9 wn = 2))))) hF hr hlocks hP hS (Nat.le_of_ble_eq_true rfl) (Nat.le_of_ble_eq_true rfl) rfl (Or.inr ⟨rfl, Or.inr (⟨rfl, hpx⟩)⟩) dL_setWind_27
  · exact z_hB (P := (fun (k : Int) (u : SS) => (k = 0 ∧ ∃ z : Int, u.2.2.2 = cvB z ∧ thW hr9 wn = 0 ∧ CS σ (u2 σ 4 hr9.toNat wn) (bw (u2 σ 4 hr9.toNat wn) (hr9 * 60) (min (hr9 * 60 + 60) 1000) = 0) z u.1 ∧ GI u.1 ∧ u.2.2.1 = ω) ∨ (u = (σ, κ, ω, o) ∧ ((k = 1 ∧ thW hr9 wn = 1) ∨ (k = 2 ∧ thW hr9 wn = 2))))) (tgt := 28) (t1 := 15) (t2 := 16) hF hr hlocks hK hz hP hS (Nat.le_of_ble_eq_true rfl) (Nat.le_of_ble_eq_true rfl) dL_setWind_8 (by decide) dL_setWind_11 dL_setWind_12 (by decide) dL_setWind_15 dL_setWind_16 dL_setWind_17 (by decide) dL_setWind_28 dL_setWind_29 rfl (Or.inl ⟨rfl, z, rfl, hp.1, hp.2.1, hp.2.2, rfl⟩)

set_option maxRecDepth 100000 in
set_option maxHeartbeats 4000000 in
theorem c_L_plan (l : Launch) (h : Nat → Nat) (D : va_G) (c : Nat → ClassId) (cL : ClassId) (σ κ : Nat → Nat → Int) (ω : Nat × (Nat → Int32) × Int32) (o : Int64) (hinj : ∀ i j, i < 33 → j < 33 → h i = h j → i = j) (hG : GI σ) (sg : Int) (hsg : -2147483648 ≤ sg ∧ sg ≤ 2147483647) (sa : Int) (hsa : -2147483648 ≤ sa ∧ sa ≤ 2147483647) (ln : Int) (hln : -2147483648 ≤ ln ∧ ln ≤ 2147483647) (ph : Int) (hph : -2147483648 ≤ ph ∧ ph ≤ 2147483647) (dr : Int) (hdr : -2147483648 ≤ dr ∧ dr ≤ 2147483647) (lo : Int) (hlo : -2147483648 ≤ lo ∧ lo ≤ 2147483647) (ch : Int) (hch : -2147483648 ≤ ch ∧ ch ≤ 2147483647) (hst : l.stackTraces = false) :
    ∀ sz, Met l yL_plan (Cond.codeWith yL_plan cL_plan 10 (some .int) [(0, 20, 23, 21), (0, 20, 27, 13), (0, 20, 31, 15)] :: UW) { frames := 10, cells := 8, slots := 6 * 8, locals := 180 } (zPE zNCx [.ref (h 0), .int (iz sg), .int (iz sa), .int (iz ln), .int (iz ph), .int (iz dr), .int (iz lo), .int (iz ch), .ref (h 32)] 33 h D (gTL c cL) sz (gL c cL h (σ, κ, ω, o))) (va_Qi (fun r (u : Int × SS) => r = iz u.1 ∧ (fun (k : Int) (u : SS) => (k = 0 ∧ ∃ z : Int, u.2.2.2 = cvI z ∧ thL σ sg sa ln ph dr lo ch = 0 ∧ ((bby (lay σ (σ 0 1).toNat sg sa ln ph dr lo ch) ((σ 0 1).toNat) ≠ 0 ∧ z = -1 ∧ u.1 = u2 (lay σ (σ 0 1).toNat sg sa ln ph dr lo ch) 14 (σ 0 1).toNat 0) ∨ (bby (lay σ (σ 0 1).toNat sg sa ln ph dr lo ch) ((σ 0 1).toNat) = 0 ∧ z = σ 0 1 ∧ u.1 = u2 (lay σ (σ 0 1).toNat sg sa ln ph dr lo ch) 0 1 (σ 0 1 + 1))) ∧ GI u.1 ∧ u.2.2.1 = ω) ∨ (u = (σ, κ, ω, o) ∧ ((k = 1 ∧ thL σ sg sa ln ph dr lo ch = 1) ∨ (k = 2 ∧ thL σ sg sa ln ph dr lo ch = 2) ∨ (k = 3 ∧ thL σ sg sa ln ph dr lo ch = 3)))) u.1 u.2) (fun u t => zB 33 h D (gL c cL h u.2) t.heap) (zA 33 h sz)) 8 (6 * 8) (zA 33 h sz) := by
  refine zHM_of (by decide) (Nat.le_of_ble_eq_true rfl) ?_
  intro p e s m below meth cd ls ⟨hF, hr, hlocks, hK, hX⟩ htab hN hP hl
  have hz : zD (zA 33 h s.heap.size) 33 h := zD.self hinj s.heap.size
  have hA : ∀ q, s.heap.size ≤ q → zA 33 h s.heap.size q := zA_new
  generalize zA 33 h s.heap.size = A at hz hA hX ⊢
  have hS : va_S A s.heap s.heap [] := va_S.rf
  have hi2 : ∀ i j, i < 32 → j < 32 → h i = h j → i = j := fun i j h1 h2 => hinj i j (by omega) (by omega)
  have hl : lv_has ls 10 [(0, .ref (h 0)), (1, .int (iz sg)), (2, .int (iz sa)), (3, .int (iz ln)), (4, .int (iz ph)), (5, .int (iz dr)), (6, .int (iz lo)), (7, .int (iz ch)), (8, .ref (h 32))] := hl
  refine lv_aload hF.1 hF.2.1 dL_plan_0 (lv_at hl 8 rfl) ?_
  refine zi_const hF.1 hF.2.1 dL_plan_2 ?_
  refine lv_aload_n hF.1 hF.2.1 dL_plan_3 rfl (lv_at hl 0 rfl) ?_
  refine lv_iload_n hF.1 hF.2.1 dL_plan_4 rfl (lv_at hl 1 rfl) ?_
  refine lv_iload_n hF.1 hF.2.1 dL_plan_5 rfl (lv_at hl 2 rfl) ?_
  refine lv_iload_n hF.1 hF.2.1 dL_plan_6 rfl (lv_at hl 3 rfl) ?_
  refine lv_iload hF.1 hF.2.1 dL_plan_7 (lv_at hl 4 rfl) ?_
  refine lv_iload hF.1 hF.2.1 dL_plan_9 (lv_at hl 5 rfl) ?_
  refine lv_iload hF.1 hF.2.1 dL_plan_11 (lv_at hl 6 rfl) ?_
  refine lv_iload hF.1 hF.2.1 dL_plan_13 (lv_at hl 7 rfl) ?_
  refine z_hcall (k := 8) (S := ((Nat → Nat → Int) × (Nat → Nat → Int))) (u := (σ, κ, ω, o)) (w := (fun u9 => gC c h u9.1 u9.2 ω)) (P := (fun z u9 => thL σ sg sa ln ph dr lo ch = 0 ∧ ((bby (lay σ (σ 0 1).toNat sg sa ln ph dr lo ch) ((σ 0 1).toNat) ≠ 0 ∧ z = -1 ∧ u9.1 = u2 (lay σ (σ 0 1).toNat sg sa ln ph dr lo ch) 14 (σ 0 1).toNat 0) ∨ (bby (lay σ (σ 0 1).toNat sg sa ln ph dr lo ch) ((σ 0 1).toNat) = 0 ∧ z = σ 0 1 ∧ u9.1 = u2 (lay σ (σ 0 1).toNat sg sa ln ph dr lo ch) 0 1 (σ 0 1 + 1))) ∧ GI u9.1)) (PX := fun E9 => (E9 = E98 ∧ thL σ sg sa ln ph dr lo ch = 1) ∨ (E9 = E206 ∧ thL σ sg sa ln ph dr lo ch = 2) ∨ (E9 = E67 ∧ thL σ sg sa ln ph dr lo ch = 3)) (z_xrunV (rm := { frames := 9, cells := 8, slots := 6 * 8, locals := 152 }) hF (zK_gT hK) hX (hz.less (by decide)) hA (zB_32 hP) hS (c_X3_plan l h D c σ κ ω hi2 hG sg hsg sa hsa ln hln ph hph dr hdr lo hlo ch hch hst _) (gIn_V mw_641 mw_642 mw_643 mw_86 mw_173) rfl rfl ⟨rfl, by decide, by decide, rfl⟩ ⟨Nat.le_of_ble_eq_true rfl, Nat.le_of_ble_eq_true rfl⟩ (k := 0) (T := TX3) (N := 14) (by decide) rfl rfl rfl (As := [.int (iz sg), .int (iz sa), .int (iz ln), .int (iz ph), .int (iz dr), .int (iz lo), .int (iz ch)]) (rest := [.int (iz 0), .ref (h 32)]) rfl hl.1 rfl (Nat.le_of_ble_eq_true rfl) dL_plan_15 ⟨Nat.le_of_ble_eq_true rfl, Nat.le_of_ble_eq_true rfl⟩) hz hA hP hS (fun v => (v.1, v.2, ω, o)) (fun _ => rfl) (fun _ => rfl) (fun E9 ce q9 H locs hpx hP hS hce hcv hcl => ?_) (fun z v H locs hp hP hS => ?_)
  · rcases hpx with ⟨rfl, hpx⟩ | ⟨rfl, hpx⟩ | ⟨rfl, hpx⟩
    · refine z_hnd hF hK (pre := []) (suf := [(0, 20, 27, 13), (0, 20, 31, 15)]) htab (fun _ q => absurd q List.not_mem_nil) (by decide) (by decide) mw_631 (NW_mem (by decide +kernel) rfl) hce hcv hcl ?_
      refine lv_astore hF.1 hF.2.1 dL_plan_23 hl (by decide) rfl (fun ls _ => ?_)
      refine zi_const hF.1 hF.2.1 dL_plan_25 ?_
      exact z_sreti (w := gL c cL h) (u := (σ, κ, ω, o)) (P := (fun (k : Int) (u : SS) => (k = 0 ∧ ∃ z : Int, u.2.2.2 = cvI z ∧ thL σ sg sa ln ph dr lo ch = 0 ∧ ((bby (lay σ (σ 0 1).toNat sg sa ln ph dr lo ch) ((σ 0 1).toNat) ≠ 0 ∧ z = -1 ∧ u.1 = u2 (lay σ (σ 0 1).toNat sg sa ln ph dr lo ch) 14 (σ 0 1).toNat 0) ∨ (bby (lay σ (σ 0 1).toNat sg sa ln ph dr lo ch) ((σ 0 1).toNat) = 0 ∧ z = σ 0 1 ∧ u.1 = u2 (lay σ (σ 0 1).toNat sg sa ln ph dr lo ch) 0 1 (σ 0 1 + 1))) ∧ GI u.1 ∧ u.2.2.1 = ω) ∨ (u = (σ, κ, ω, o) ∧ ((k = 1 ∧ thL σ sg sa ln ph dr lo ch = 1) ∨ (k = 2 ∧ thL σ sg sa ln ph dr lo ch = 2) ∨ (k = 3 ∧ thL σ sg sa ln ph dr lo ch = 3))))) hF hr hlocks hP hS (Nat.le_of_ble_eq_true rfl) (Nat.le_of_ble_eq_true rfl) rfl (Or.inr ⟨rfl, Or.inl ⟨rfl, hpx⟩⟩) dL_plan_26
    · refine z_hnd hF hK (pre := [(0, 20, 23, 21)]) (suf := [(0, 20, 31, 15)]) htab (List.forall_mem_cons.mpr ⟨⟨by decide, E98, mw_631, hN.1⟩, fun _ q => absurd q List.not_mem_nil⟩) (by decide) (by decide) mw_626 (NW_mem (by decide +kernel) rfl) hce hcv hcl ?_
      refine lv_astore hF.1 hF.2.1 dL_plan_27 hl (by decide) rfl (fun ls _ => ?_)
      refine zi_const hF.1 hF.2.1 dL_plan_29 ?_
      exact z_sreti (w := gL c cL h) (u := (σ, κ, ω, o)) (P := (fun (k : Int) (u : SS) => (k = 0 ∧ ∃ z : Int, u.2.2.2 = cvI z ∧ thL σ sg sa ln ph dr lo ch = 0 ∧ ((bby (lay σ (σ 0 1).toNat sg sa ln ph dr lo ch) ((σ 0 1).toNat) ≠ 0 ∧ z = -1 ∧ u.1 = u2 (lay σ (σ 0 1).toNat sg sa ln ph dr lo ch) 14 (σ 0 1).toNat 0) ∨ (bby (lay σ (σ 0 1).toNat sg sa ln ph dr lo ch) ((σ 0 1).toNat) = 0 ∧ z = σ 0 1 ∧ u.1 = u2 (lay σ (σ 0 1).toNat sg sa ln ph dr lo ch) 0 1 (σ 0 1 + 1))) ∧ GI u.1 ∧ u.2.2.1 = ω) ∨ (u = (σ, κ, ω, o) ∧ ((k = 1 ∧ thL σ sg sa ln ph dr lo ch = 1) ∨ (k = 2 ∧ thL σ sg sa ln ph dr lo ch = 2) ∨ (k = 3 ∧ thL σ sg sa ln ph dr lo ch = 3))))) hF hr hlocks hP hS (Nat.le_of_ble_eq_true rfl) (Nat.le_of_ble_eq_true rfl) rfl (Or.inr ⟨rfl, Or.inr (Or.inl ⟨rfl, hpx⟩)⟩) dL_plan_30
    · refine z_hnd hF hK (pre := [(0, 20, 23, 21), (0, 20, 27, 13)]) (suf := []) htab (List.forall_mem_cons.mpr ⟨⟨by decide, E98, mw_631, hN.2.1⟩, List.forall_mem_cons.mpr ⟨⟨by decide, E206, mw_626, hN.2.2⟩, fun _ q => absurd q List.not_mem_nil⟩⟩) (by decide) (by decide) mw_627 (NW_mem (by decide +kernel) rfl) hce hcv hcl ?_
      refine lv_astore hF.1 hF.2.1 dL_plan_31 hl (by decide) rfl (fun ls _ => ?_)
      refine zi_const hF.1 hF.2.1 dL_plan_33 ?_
      exact z_sreti (w := gL c cL h) (u := (σ, κ, ω, o)) (P := (fun (k : Int) (u : SS) => (k = 0 ∧ ∃ z : Int, u.2.2.2 = cvI z ∧ thL σ sg sa ln ph dr lo ch = 0 ∧ ((bby (lay σ (σ 0 1).toNat sg sa ln ph dr lo ch) ((σ 0 1).toNat) ≠ 0 ∧ z = -1 ∧ u.1 = u2 (lay σ (σ 0 1).toNat sg sa ln ph dr lo ch) 14 (σ 0 1).toNat 0) ∨ (bby (lay σ (σ 0 1).toNat sg sa ln ph dr lo ch) ((σ 0 1).toNat) = 0 ∧ z = σ 0 1 ∧ u.1 = u2 (lay σ (σ 0 1).toNat sg sa ln ph dr lo ch) 0 1 (σ 0 1 + 1))) ∧ GI u.1 ∧ u.2.2.1 = ω) ∨ (u = (σ, κ, ω, o) ∧ ((k = 1 ∧ thL σ sg sa ln ph dr lo ch = 1) ∨ (k = 2 ∧ thL σ sg sa ln ph dr lo ch = 2) ∨ (k = 3 ∧ thL σ sg sa ln ph dr lo ch = 3))))) hF hr hlocks hP hS (Nat.le_of_ble_eq_true rfl) (Nat.le_of_ble_eq_true rfl) rfl (Or.inr ⟨rfl, Or.inr (Or.inr (⟨rfl, hpx⟩))⟩) dL_plan_34
  · exact z_hI (P := (fun (k : Int) (u : SS) => (k = 0 ∧ ∃ z : Int, u.2.2.2 = cvI z ∧ thL σ sg sa ln ph dr lo ch = 0 ∧ ((bby (lay σ (σ 0 1).toNat sg sa ln ph dr lo ch) ((σ 0 1).toNat) ≠ 0 ∧ z = -1 ∧ u.1 = u2 (lay σ (σ 0 1).toNat sg sa ln ph dr lo ch) 14 (σ 0 1).toNat 0) ∨ (bby (lay σ (σ 0 1).toNat sg sa ln ph dr lo ch) ((σ 0 1).toNat) = 0 ∧ z = σ 0 1 ∧ u.1 = u2 (lay σ (σ 0 1).toNat sg sa ln ph dr lo ch) 0 1 (σ 0 1 + 1))) ∧ GI u.1 ∧ u.2.2.1 = ω) ∨ (u = (σ, κ, ω, o) ∧ ((k = 1 ∧ thL σ sg sa ln ph dr lo ch = 1) ∨ (k = 2 ∧ thL σ sg sa ln ph dr lo ch = 2) ∨ (k = 3 ∧ thL σ sg sa ln ph dr lo ch = 3))))) (tgt := 35) hF hr hlocks hK hz hP hS (Nat.le_of_ble_eq_true rfl) (Nat.le_of_ble_eq_true rfl) dL_plan_18 dL_plan_19 dL_plan_20 (by decide) dL_plan_35 dL_plan_36 (Or.inl ⟨rfl, z, rfl, hp.1, hp.2.1, hp.2.2, rfl⟩)

set_option maxRecDepth 100000 in
set_option maxHeartbeats 4000000 in
theorem c_L_reason (l : Launch) (h : Nat → Nat) (D : va_G) (c : Nat → ClassId) (cL : ClassId) (σ κ : Nat → Nat → Int) (ω : Nat × (Nat → Int32) × Int32) (o : Int64) (hinj : ∀ i j, i < 33 → j < 33 → h i = h j → i = j) (hG : GI σ) (sg : Int) (hsg : -2147483648 ≤ sg ∧ sg ≤ 2147483647) (sa : Int) (hsa : -2147483648 ≤ sa ∧ sa ≤ 2147483647) (ln : Int) (hln : -2147483648 ≤ ln ∧ ln ≤ 2147483647) (ph : Int) (hph : -2147483648 ≤ ph ∧ ph ≤ 2147483647) (dr : Int) (hdr : -2147483648 ≤ dr ∧ dr ≤ 2147483647) (lo : Int) (hlo : -2147483648 ≤ lo ∧ lo ≤ 2147483647) (ch : Int) (hch : -2147483648 ≤ ch ∧ ch ≤ 2147483647) (hst : l.stackTraces = false) :
    ∀ sz, Met l yL_reason (Cond.codeWith yL_reason cL_reason 10 (some .int) [(0, 20, 23, 21), (0, 20, 27, 13), (0, 20, 31, 15)] :: UW) { frames := 10, cells := 8, slots := 6 * 8, locals := 181 } (zPE zNCx [.ref (h 0), .int (iz sg), .int (iz sa), .int (iz ln), .int (iz ph), .int (iz dr), .int (iz lo), .int (iz ch), .ref (h 32)] 33 h D (gTL c cL) sz (gL c cL h (σ, κ, ω, o))) (va_Qi (fun r (u : Int × SS) => r = iz u.1 ∧ (fun (k : Int) (u : SS) => (k = 0 ∧ ∃ z : Int, u.2.2.2 = cvI z ∧ thL σ sg sa ln ph dr lo ch = 0 ∧ z = bby (lay σ (σ 0 1).toNat sg sa ln ph dr lo ch) ((σ 0 1).toNat) ∧ u.1 = u2 (lay σ (σ 0 1).toNat sg sa ln ph dr lo ch) 14 (σ 0 1).toNat 0 ∧ GI u.1 ∧ u.2.2.1 = ω) ∨ (u = (σ, κ, ω, o) ∧ ((k = 1 ∧ thL σ sg sa ln ph dr lo ch = 1) ∨ (k = 2 ∧ thL σ sg sa ln ph dr lo ch = 2) ∨ (k = 3 ∧ thL σ sg sa ln ph dr lo ch = 3)))) u.1 u.2) (fun u t => zB 33 h D (gL c cL h u.2) t.heap) (zA 33 h sz)) 8 (6 * 8) (zA 33 h sz) := by
  refine zHM_of (by decide) (Nat.le_of_ble_eq_true rfl) ?_
  intro p e s m below meth cd ls ⟨hF, hr, hlocks, hK, hX⟩ htab hN hP hl
  have hz : zD (zA 33 h s.heap.size) 33 h := zD.self hinj s.heap.size
  have hA : ∀ q, s.heap.size ≤ q → zA 33 h s.heap.size q := zA_new
  generalize zA 33 h s.heap.size = A at hz hA hX ⊢
  have hS : va_S A s.heap s.heap [] := va_S.rf
  have hi2 : ∀ i j, i < 32 → j < 32 → h i = h j → i = j := fun i j h1 h2 => hinj i j (by omega) (by omega)
  have hl : lv_has ls 10 [(0, .ref (h 0)), (1, .int (iz sg)), (2, .int (iz sa)), (3, .int (iz ln)), (4, .int (iz ph)), (5, .int (iz dr)), (6, .int (iz lo)), (7, .int (iz ch)), (8, .ref (h 32))] := hl
  refine lv_aload hF.1 hF.2.1 dL_reason_0 (lv_at hl 8 rfl) ?_
  refine zi_const hF.1 hF.2.1 dL_reason_2 ?_
  refine lv_aload_n hF.1 hF.2.1 dL_reason_3 rfl (lv_at hl 0 rfl) ?_
  refine lv_iload_n hF.1 hF.2.1 dL_reason_4 rfl (lv_at hl 1 rfl) ?_
  refine lv_iload_n hF.1 hF.2.1 dL_reason_5 rfl (lv_at hl 2 rfl) ?_
  refine lv_iload_n hF.1 hF.2.1 dL_reason_6 rfl (lv_at hl 3 rfl) ?_
  refine lv_iload hF.1 hF.2.1 dL_reason_7 (lv_at hl 4 rfl) ?_
  refine lv_iload hF.1 hF.2.1 dL_reason_9 (lv_at hl 5 rfl) ?_
  refine lv_iload hF.1 hF.2.1 dL_reason_11 (lv_at hl 6 rfl) ?_
  refine lv_iload hF.1 hF.2.1 dL_reason_13 (lv_at hl 7 rfl) ?_
  refine z_hcall (k := 8) (S := ((Nat → Nat → Int) × (Nat → Nat → Int))) (u := (σ, κ, ω, o)) (w := (fun u9 => gC c h u9.1 u9.2 ω)) (P := (fun z u9 => thL σ sg sa ln ph dr lo ch = 0 ∧ z = bby (lay σ (σ 0 1).toNat sg sa ln ph dr lo ch) ((σ 0 1).toNat) ∧ u9.1 = u2 (lay σ (σ 0 1).toNat sg sa ln ph dr lo ch) 14 (σ 0 1).toNat 0 ∧ GI u9.1)) (PX := fun E9 => (E9 = E98 ∧ thL σ sg sa ln ph dr lo ch = 1) ∨ (E9 = E206 ∧ thL σ sg sa ln ph dr lo ch = 2) ∨ (E9 = E67 ∧ thL σ sg sa ln ph dr lo ch = 3)) (z_xrunV (rm := { frames := 9, cells := 8, slots := 6 * 8, locals := 152 }) hF (zK_gT hK) hX (hz.less (by decide)) hA (zB_32 hP) hS (c_X3_reason l h D c σ κ ω hi2 hG sg hsg sa hsa ln hln ph hph dr hdr lo hlo ch hch hst _) (gIn_V mw_644 mw_645 mw_646 mw_86 mw_174) rfl rfl ⟨rfl, by decide, by decide, rfl⟩ ⟨Nat.le_of_ble_eq_true rfl, Nat.le_of_ble_eq_true rfl⟩ (k := 0) (T := TX3) (N := 14) (by decide) rfl rfl rfl (As := [.int (iz sg), .int (iz sa), .int (iz ln), .int (iz ph), .int (iz dr), .int (iz lo), .int (iz ch)]) (rest := [.int (iz 0), .ref (h 32)]) rfl hl.1 rfl (Nat.le_of_ble_eq_true rfl) dL_reason_15 ⟨Nat.le_of_ble_eq_true rfl, Nat.le_of_ble_eq_true rfl⟩) hz hA hP hS (fun v => (v.1, v.2, ω, o)) (fun _ => rfl) (fun _ => rfl) (fun E9 ce q9 H locs hpx hP hS hce hcv hcl => ?_) (fun z v H locs hp hP hS => ?_)
  · rcases hpx with ⟨rfl, hpx⟩ | ⟨rfl, hpx⟩ | ⟨rfl, hpx⟩
    · refine z_hnd hF hK (pre := []) (suf := [(0, 20, 27, 13), (0, 20, 31, 15)]) htab (fun _ q => absurd q List.not_mem_nil) (by decide) (by decide) mw_631 (NW_mem (by decide +kernel) rfl) hce hcv hcl ?_
      refine lv_astore hF.1 hF.2.1 dL_reason_23 hl (by decide) rfl (fun ls _ => ?_)
      refine zi_const hF.1 hF.2.1 dL_reason_25 ?_
      exact z_sreti (w := gL c cL h) (u := (σ, κ, ω, o)) (P := (fun (k : Int) (u : SS) => (k = 0 ∧ ∃ z : Int, u.2.2.2 = cvI z ∧ thL σ sg sa ln ph dr lo ch = 0 ∧ z = bby (lay σ (σ 0 1).toNat sg sa ln ph dr lo ch) ((σ 0 1).toNat) ∧ u.1 = u2 (lay σ (σ 0 1).toNat sg sa ln ph dr lo ch) 14 (σ 0 1).toNat 0 ∧ GI u.1 ∧ u.2.2.1 = ω) ∨ (u = (σ, κ, ω, o) ∧ ((k = 1 ∧ thL σ sg sa ln ph dr lo ch = 1) ∨ (k = 2 ∧ thL σ sg sa ln ph dr lo ch = 2) ∨ (k = 3 ∧ thL σ sg sa ln ph dr lo ch = 3))))) hF hr hlocks hP hS (Nat.le_of_ble_eq_true rfl) (Nat.le_of_ble_eq_true rfl) rfl (Or.inr ⟨rfl, Or.inl ⟨rfl, hpx⟩⟩) dL_reason_26
    · refine z_hnd hF hK (pre := [(0, 20, 23, 21)]) (suf := [(0, 20, 31, 15)]) htab (List.forall_mem_cons.mpr ⟨⟨by decide, E98, mw_631, hN.1⟩, fun _ q => absurd q List.not_mem_nil⟩) (by decide) (by decide) mw_626 (NW_mem (by decide +kernel) rfl) hce hcv hcl ?_
      refine lv_astore hF.1 hF.2.1 dL_reason_27 hl (by decide) rfl (fun ls _ => ?_)
      refine zi_const hF.1 hF.2.1 dL_reason_29 ?_
      exact z_sreti (w := gL c cL h) (u := (σ, κ, ω, o)) (P := (fun (k : Int) (u : SS) => (k = 0 ∧ ∃ z : Int, u.2.2.2 = cvI z ∧ thL σ sg sa ln ph dr lo ch = 0 ∧ z = bby (lay σ (σ 0 1).toNat sg sa ln ph dr lo ch) ((σ 0 1).toNat) ∧ u.1 = u2 (lay σ (σ 0 1).toNat sg sa ln ph dr lo ch) 14 (σ 0 1).toNat 0 ∧ GI u.1 ∧ u.2.2.1 = ω) ∨ (u = (σ, κ, ω, o) ∧ ((k = 1 ∧ thL σ sg sa ln ph dr lo ch = 1) ∨ (k = 2 ∧ thL σ sg sa ln ph dr lo ch = 2) ∨ (k = 3 ∧ thL σ sg sa ln ph dr lo ch = 3))))) hF hr hlocks hP hS (Nat.le_of_ble_eq_true rfl) (Nat.le_of_ble_eq_true rfl) rfl (Or.inr ⟨rfl, Or.inr (Or.inl ⟨rfl, hpx⟩)⟩) dL_reason_30
    · refine z_hnd hF hK (pre := [(0, 20, 23, 21), (0, 20, 27, 13)]) (suf := []) htab (List.forall_mem_cons.mpr ⟨⟨by decide, E98, mw_631, hN.2.1⟩, List.forall_mem_cons.mpr ⟨⟨by decide, E206, mw_626, hN.2.2⟩, fun _ q => absurd q List.not_mem_nil⟩⟩) (by decide) (by decide) mw_627 (NW_mem (by decide +kernel) rfl) hce hcv hcl ?_
      refine lv_astore hF.1 hF.2.1 dL_reason_31 hl (by decide) rfl (fun ls _ => ?_)
      refine zi_const hF.1 hF.2.1 dL_reason_33 ?_
      exact z_sreti (w := gL c cL h) (u := (σ, κ, ω, o)) (P := (fun (k : Int) (u : SS) => (k = 0 ∧ ∃ z : Int, u.2.2.2 = cvI z ∧ thL σ sg sa ln ph dr lo ch = 0 ∧ z = bby (lay σ (σ 0 1).toNat sg sa ln ph dr lo ch) ((σ 0 1).toNat) ∧ u.1 = u2 (lay σ (σ 0 1).toNat sg sa ln ph dr lo ch) 14 (σ 0 1).toNat 0 ∧ GI u.1 ∧ u.2.2.1 = ω) ∨ (u = (σ, κ, ω, o) ∧ ((k = 1 ∧ thL σ sg sa ln ph dr lo ch = 1) ∨ (k = 2 ∧ thL σ sg sa ln ph dr lo ch = 2) ∨ (k = 3 ∧ thL σ sg sa ln ph dr lo ch = 3))))) hF hr hlocks hP hS (Nat.le_of_ble_eq_true rfl) (Nat.le_of_ble_eq_true rfl) rfl (Or.inr ⟨rfl, Or.inr (Or.inr (⟨rfl, hpx⟩))⟩) dL_reason_34
  · exact z_hI (P := (fun (k : Int) (u : SS) => (k = 0 ∧ ∃ z : Int, u.2.2.2 = cvI z ∧ thL σ sg sa ln ph dr lo ch = 0 ∧ z = bby (lay σ (σ 0 1).toNat sg sa ln ph dr lo ch) ((σ 0 1).toNat) ∧ u.1 = u2 (lay σ (σ 0 1).toNat sg sa ln ph dr lo ch) 14 (σ 0 1).toNat 0 ∧ GI u.1 ∧ u.2.2.1 = ω) ∨ (u = (σ, κ, ω, o) ∧ ((k = 1 ∧ thL σ sg sa ln ph dr lo ch = 1) ∨ (k = 2 ∧ thL σ sg sa ln ph dr lo ch = 2) ∨ (k = 3 ∧ thL σ sg sa ln ph dr lo ch = 3))))) (tgt := 35) hF hr hlocks hK hz hP hS (Nat.le_of_ble_eq_true rfl) (Nat.le_of_ble_eq_true rfl) dL_reason_18 dL_reason_19 dL_reason_20 (by decide) dL_reason_35 dL_reason_36 (Or.inl ⟨rfl, z, rfl, hp.1, hp.2.1, hp.2.2.1, hp.2.2.2, rfl⟩)

set_option maxRecDepth 100000 in
set_option maxHeartbeats 4000000 in
theorem c_L_move (l : Launch) (h : Nat → Nat) (D : va_G) (c : Nat → ClassId) (cL : ClassId) (σ κ : Nat → Nat → Int) (ω : Nat × (Nat → Int32) × Int32) (o : Int64) (hinj : ∀ i j, i < 33 → j < 33 → h i = h j → i = j) (hG : GI σ) (a : Int) (ha : -2147483648 ≤ a ∧ a ≤ 2147483647) (mi : Int) (hmi : -2147483648 ≤ mi ∧ mi ≤ 2147483647) (hst : l.stackTraces = false) :
    ∀ sz, Met l yL_move (Cond.codeWith yL_move cL_move 5 (some .int) [(0, 17, 20, 21), (0, 17, 24, 13), (0, 17, 28, 15)] :: UW) { frames := 9, cells := 3, slots := 6 * 3, locals := 167 } (zPE zNCx [.ref (h 0), .int (iz a), .int (iz mi), .ref (h 32)] 33 h D (gTL c cL) sz (gL c cL h (σ, κ, ω, o))) (va_Qi (fun r (u : Int × SS) => r = iz u.1 ∧ (fun (k : Int) (u : SS) => (k = 0 ∧ ∃ z : Int, u.2.2.2 = cvB z ∧ thM σ a mi = 0 ∧ CS σ (u2 σ 8 a.toNat mi) (bby (u2 σ 8 a.toNat mi) a.toNat = 0) z u.1 ∧ GI u.1 ∧ u.2.2.1 = ω) ∨ (u = (σ, κ, ω, o) ∧ ((k = 1 ∧ thM σ a mi = 1) ∨ (k = 2 ∧ thM σ a mi = 2) ∨ (k = 3 ∧ thM σ a mi = 3)))) u.1 u.2) (fun u t => zB 33 h D (gL c cL h u.2) t.heap) (zA 33 h sz)) 3 (6 * 3) (zA 33 h sz) := by
  refine zHM_of (by decide) (Nat.le_of_ble_eq_true rfl) ?_
  intro p e s m below meth cd ls ⟨hF, hr, hlocks, hK, hX⟩ htab hN hP hl
  have hz : zD (zA 33 h s.heap.size) 33 h := zD.self hinj s.heap.size
  have hA : ∀ q, s.heap.size ≤ q → zA 33 h s.heap.size q := zA_new
  generalize zA 33 h s.heap.size = A at hz hA hX ⊢
  have hS : va_S A s.heap s.heap [] := va_S.rf
  have hi2 : ∀ i j, i < 32 → j < 32 → h i = h j → i = j := fun i j h1 h2 => hinj i j (by omega) (by omega)
  have hl : lv_has ls 5 [(0, .ref (h 0)), (1, .int (iz a)), (2, .int (iz mi)), (3, .ref (h 32))] := hl
  refine lv_aload_n hF.1 hF.2.1 dL_move_0 rfl (lv_at hl 3 rfl) ?_
  refine zi_const hF.1 hF.2.1 dL_move_1 ?_
  refine lv_aload_n hF.1 hF.2.1 dL_move_2 rfl (lv_at hl 0 rfl) ?_
  refine lv_iload_n hF.1 hF.2.1 dL_move_3 rfl (lv_at hl 1 rfl) ?_
  refine lv_iload_n hF.1 hF.2.1 dL_move_4 rfl (lv_at hl 2 rfl) ?_
  refine z_hcall (k := 3) (S := ((Nat → Nat → Int) × (Nat → Nat → Int))) (u := (σ, κ, ω, o)) (w := (fun u9 => gC c h u9.1 u9.2 ω)) (P := (fun z u9 => thM σ a mi = 0 ∧ CS σ (u2 σ 8 a.toNat mi) (bby (u2 σ 8 a.toNat mi) a.toNat = 0) z u9.1 ∧ GI u9.1)) (PX := fun E9 => (E9 = E98 ∧ thM σ a mi = 1) ∨ (E9 = E206 ∧ thM σ a mi = 2) ∨ (E9 = E67 ∧ thM σ a mi = 3)) (z_xrunV (rm := { frames := 8, cells := 3, slots := 6 * 3, locals := 143 }) hF (zK_gT hK) hX (hz.less (by decide)) hA (zB_32 hP) hS (c_X3_move l h D c σ κ ω hi2 hG a ha mi hmi hst _) (gIn_V mw_647 mw_648 mw_649 mw_86 mw_183) rfl rfl ⟨rfl, by decide, by decide, rfl⟩ ⟨Nat.le_of_ble_eq_true rfl, Nat.le_of_ble_eq_true rfl⟩ (k := 0) (T := TX3) (N := 14) (by decide) rfl rfl rfl (As := [.int (iz a), .int (iz mi)]) (rest := [.int (iz 0), .ref (h 32)]) rfl hl.1 rfl (Nat.le_of_ble_eq_true rfl) dL_move_5 ⟨Nat.le_of_ble_eq_true rfl, Nat.le_of_ble_eq_true rfl⟩) hz hA hP hS (fun v => (v.1, v.2, ω, o)) (fun _ => rfl) (fun _ => rfl) (fun E9 ce q9 H locs hpx hP hS hce hcv hcl => ?_) (fun z v H locs hp hP hS => ?_)
  · rcases hpx with ⟨rfl, hpx⟩ | ⟨rfl, hpx⟩ | ⟨rfl, hpx⟩
    · refine z_hnd hF hK (pre := []) (suf := [(0, 17, 24, 13), (0, 17, 28, 15)]) htab (fun _ q => absurd q List.not_mem_nil) (by decide) (by decide) mw_631 (NW_mem (by decide +kernel) rfl) hce hcv hcl ?_
      refine lv_astore hF.1 hF.2.1 dL_move_20 hl (by decide) rfl (fun ls _ => ?_)
      refine zi_const hF.1 hF.2.1 dL_move_22 ?_
      exact z_sreti (w := gL c cL h) (u := (σ, κ, ω, o)) (P := (fun (k : Int) (u : SS) => (k = 0 ∧ ∃ z : Int, u.2.2.2 = cvB z ∧ thM σ a mi = 0 ∧ CS σ (u2 σ 8 a.toNat mi) (bby (u2 σ 8 a.toNat mi) a.toNat = 0) z u.1 ∧ GI u.1 ∧ u.2.2.1 = ω) ∨ (u = (σ, κ, ω, o) ∧ ((k = 1 ∧ thM σ a mi = 1) ∨ (k = 2 ∧ thM σ a mi = 2) ∨ (k = 3 ∧ thM σ a mi = 3))))) hF hr hlocks hP hS (Nat.le_of_ble_eq_true rfl) (Nat.le_of_ble_eq_true rfl) rfl (Or.inr ⟨rfl, Or.inl ⟨rfl, hpx⟩⟩) dL_move_23
    · refine z_hnd hF hK (pre := [(0, 17, 20, 21)]) (suf := [(0, 17, 28, 15)]) htab (List.forall_mem_cons.mpr ⟨⟨by decide, E98, mw_631, hN.1⟩, fun _ q => absurd q List.not_mem_nil⟩) (by decide) (by decide) mw_626 (NW_mem (by decide +kernel) rfl) hce hcv hcl ?_
      refine lv_astore hF.1 hF.2.1 dL_move_24 hl (by decide) rfl (fun ls _ => ?_)
      refine zi_const hF.1 hF.2.1 dL_move_26 ?_
      exact z_sreti (w := gL c cL h) (u := (σ, κ, ω, o)) (P := (fun (k : Int) (u : SS) => (k = 0 ∧ ∃ z : Int, u.2.2.2 = cvB z ∧ thM σ a mi = 0 ∧ CS σ (u2 σ 8 a.toNat mi) (bby (u2 σ 8 a.toNat mi) a.toNat = 0) z u.1 ∧ GI u.1 ∧ u.2.2.1 = ω) ∨ (u = (σ, κ, ω, o) ∧ ((k = 1 ∧ thM σ a mi = 1) ∨ (k = 2 ∧ thM σ a mi = 2) ∨ (k = 3 ∧ thM σ a mi = 3))))) hF hr hlocks hP hS (Nat.le_of_ble_eq_true rfl) (Nat.le_of_ble_eq_true rfl) rfl (Or.inr ⟨rfl, Or.inr (Or.inl ⟨rfl, hpx⟩)⟩) dL_move_27
    · refine z_hnd hF hK (pre := [(0, 17, 20, 21), (0, 17, 24, 13)]) (suf := []) htab (List.forall_mem_cons.mpr ⟨⟨by decide, E98, mw_631, hN.2.1⟩, List.forall_mem_cons.mpr ⟨⟨by decide, E206, mw_626, hN.2.2⟩, fun _ q => absurd q List.not_mem_nil⟩⟩) (by decide) (by decide) mw_627 (NW_mem (by decide +kernel) rfl) hce hcv hcl ?_
      refine lv_astore hF.1 hF.2.1 dL_move_28 hl (by decide) rfl (fun ls _ => ?_)
      refine zi_const hF.1 hF.2.1 dL_move_30 ?_
      exact z_sreti (w := gL c cL h) (u := (σ, κ, ω, o)) (P := (fun (k : Int) (u : SS) => (k = 0 ∧ ∃ z : Int, u.2.2.2 = cvB z ∧ thM σ a mi = 0 ∧ CS σ (u2 σ 8 a.toNat mi) (bby (u2 σ 8 a.toNat mi) a.toNat = 0) z u.1 ∧ GI u.1 ∧ u.2.2.1 = ω) ∨ (u = (σ, κ, ω, o) ∧ ((k = 1 ∧ thM σ a mi = 1) ∨ (k = 2 ∧ thM σ a mi = 2) ∨ (k = 3 ∧ thM σ a mi = 3))))) hF hr hlocks hP hS (Nat.le_of_ble_eq_true rfl) (Nat.le_of_ble_eq_true rfl) rfl (Or.inr ⟨rfl, Or.inr (Or.inr (⟨rfl, hpx⟩))⟩) dL_move_31
  · exact z_hB (P := (fun (k : Int) (u : SS) => (k = 0 ∧ ∃ z : Int, u.2.2.2 = cvB z ∧ thM σ a mi = 0 ∧ CS σ (u2 σ 8 a.toNat mi) (bby (u2 σ 8 a.toNat mi) a.toNat = 0) z u.1 ∧ GI u.1 ∧ u.2.2.1 = ω) ∨ (u = (σ, κ, ω, o) ∧ ((k = 1 ∧ thM σ a mi = 1) ∨ (k = 2 ∧ thM σ a mi = 2) ∨ (k = 3 ∧ thM σ a mi = 3))))) (tgt := 32) (t1 := 15) (t2 := 16) hF hr hlocks hK hz hP hS (Nat.le_of_ble_eq_true rfl) (Nat.le_of_ble_eq_true rfl) dL_move_8 (by decide) dL_move_11 dL_move_12 (by decide) dL_move_15 dL_move_16 dL_move_17 (by decide) dL_move_32 dL_move_33 rfl (Or.inl ⟨rfl, z, rfl, hp.1, hp.2.1, hp.2.2, rfl⟩)

set_option maxRecDepth 100000 in
set_option maxHeartbeats 4000000 in
theorem c_L_drop (l : Launch) (h : Nat → Nat) (D : va_G) (c : Nat → ClassId) (cL : ClassId) (σ κ : Nat → Nat → Int) (ω : Nat × (Nat → Int32) × Int32) (o : Int64) (hinj : ∀ i j, i < 33 → j < 33 → h i = h j → i = j) (hG : GI σ) (a : Int) (ha : -2147483648 ≤ a ∧ a ≤ 2147483647) (hst : l.stackTraces = false) :
    ∀ sz, Met l yL_drop (Cond.codeWith yL_drop cL_drop 3 (some .int) [(0, 5, 8, 21), (0, 5, 11, 15)] :: UW) { frames := 8, cells := 2, slots := 6 * 2, locals := 124 } (zPE zNCx [.ref (h 0), .int (iz a)] 33 h D (gTL c cL) sz (gL c cL h (σ, κ, ω, o))) (va_Qi (fun r (u : Int × SS) => r = iz u.1 ∧ (fun (k : Int) (u : SS) => (k = 0 ∧ thD σ a = 0 ∧ u.1 = u2 σ 14 a.toNat 0 ∧ GI u.1 ∧ u.2.2.1 = ω) ∨ (u = (σ, κ, ω, o) ∧ ((k = 1 ∧ thD σ a = 1) ∨ (k = 2 ∧ thD σ a = 2)))) u.1 u.2) (fun u t => zB 33 h D (gL c cL h u.2) t.heap) (zA 33 h sz)) 2 (6 * 2) (zA 33 h sz) := by
  refine zHM_of (by decide) (Nat.le_of_ble_eq_true rfl) ?_
  intro p e s m below meth cd ls ⟨hF, hr, hlocks, hK, hX⟩ htab hN hP hl
  have hz : zD (zA 33 h s.heap.size) 33 h := zD.self hinj s.heap.size
  have hA : ∀ q, s.heap.size ≤ q → zA 33 h s.heap.size q := zA_new
  generalize zA 33 h s.heap.size = A at hz hA hX ⊢
  have hS : va_S A s.heap s.heap [] := va_S.rf
  have hi2 : ∀ i j, i < 32 → j < 32 → h i = h j → i = j := fun i j h1 h2 => hinj i j (by omega) (by omega)
  have hl : lv_has ls 3 [(0, .ref (h 0)), (1, .int (iz a))] := hl
  refine lv_aload_n hF.1 hF.2.1 dL_drop_0 rfl (lv_at hl 0 rfl) ?_
  refine lv_iload_n hF.1 hF.2.1 dL_drop_1 rfl (lv_at hl 1 rfl) ?_
  refine z_hcallv (k := 2) (S := (Nat → Nat → Int)) (u := (σ, κ, ω, o)) (w := (fun σ9 => gC c h σ9 κ ω)) (P := (fun σ9 => thD σ a = 0 ∧ σ9 = u2 σ 14 a.toNat 0 ∧ GI σ9)) (PX := fun E9 => (E9 = E98 ∧ thD σ a = 1) ∨ (E9 = E67 ∧ thD σ a = 2)) (z_xrunV (rm := { frames := 7, cells := 2, slots := 6 * 2, locals := 103 }) hF (zK_gT hK) hX (hz.less (by decide)) hA (zB_32 hP) hS (c_X3_drop l h D c σ κ ω hi2 hG a ha hst _) (gIn_V mw_650 mw_651 mw_652 mw_86 mw_184) rfl rfl ⟨rfl, by decide, by decide, rfl⟩ ⟨Nat.le_of_ble_eq_true rfl, Nat.le_of_ble_eq_true rfl⟩ (k := 0) (T := TX3) (N := 14) (by decide) rfl rfl rfl (As := [.int (iz a)]) (rest := []) rfl hl.1 rfl (Nat.le_of_ble_eq_true rfl) dL_drop_2 ⟨Nat.le_of_ble_eq_true rfl, Nat.le_of_ble_eq_true rfl⟩) hz hA hP hS (fun v => (v, κ, ω, o)) (fun _ => rfl) (fun _ => rfl) (fun E9 ce q9 H locs hpx hP hS hce hcv hcl => ?_) (fun v H locs hp hP hS => ?_)
  · rcases hpx with ⟨rfl, hpx⟩ | ⟨rfl, hpx⟩
    · refine z_hnd hF hK (pre := []) (suf := [(0, 5, 11, 15)]) htab (fun _ q => absurd q List.not_mem_nil) (by decide) (by decide) mw_631 (NW_mem (by decide +kernel) rfl) hce hcv hcl ?_
      refine lv_astore_n hF.1 hF.2.1 dL_drop_8 rfl hl (by decide) rfl (fun ls _ => ?_)
      refine zi_const hF.1 hF.2.1 dL_drop_9 ?_
      exact z_sreti (w := gL c cL h) (u := (σ, κ, ω, o)) (P := (fun (k : Int) (u : SS) => (k = 0 ∧ thD σ a = 0 ∧ u.1 = u2 σ 14 a.toNat 0 ∧ GI u.1 ∧ u.2.2.1 = ω) ∨ (u = (σ, κ, ω, o) ∧ ((k = 1 ∧ thD σ a = 1) ∨ (k = 2 ∧ thD σ a = 2))))) hF hr hlocks hP hS (Nat.le_of_ble_eq_true rfl) (Nat.le_of_ble_eq_true rfl) rfl (Or.inr ⟨rfl, Or.inl ⟨rfl, hpx⟩⟩) dL_drop_10
    · refine z_hnd hF hK (pre := [(0, 5, 8, 21)]) (suf := []) htab (List.forall_mem_cons.mpr ⟨⟨by decide, E98, mw_631, hN.2.1⟩, fun _ q => absurd q List.not_mem_nil⟩) (by decide) (by decide) mw_627 (NW_mem (by decide +kernel) rfl) hce hcv hcl ?_
      refine lv_astore_n hF.1 hF.2.1 dL_drop_11 rfl hl (by decide) rfl (fun ls _ => ?_)
      refine zi_const hF.1 hF.2.1 dL_drop_12 ?_
      exact z_sreti (w := gL c cL h) (u := (σ, κ, ω, o)) (P := (fun (k : Int) (u : SS) => (k = 0 ∧ thD σ a = 0 ∧ u.1 = u2 σ 14 a.toNat 0 ∧ GI u.1 ∧ u.2.2.1 = ω) ∨ (u = (σ, κ, ω, o) ∧ ((k = 1 ∧ thD σ a = 1) ∨ (k = 2 ∧ thD σ a = 2))))) hF hr hlocks hP hS (Nat.le_of_ble_eq_true rfl) (Nat.le_of_ble_eq_true rfl) rfl (Or.inr ⟨rfl, Or.inr (⟨rfl, hpx⟩)⟩) dL_drop_13
  · refine lv_goto (tgt := 14) hF.1 hF.2.1 dL_drop_5 (by decide) ?_
    refine zi_const hF.1 hF.2.1 dL_drop_14 ?_
    exact z_sreti (w := gL c cL h) (u := (v, κ, ω, o)) (P := (fun (k : Int) (u : SS) => (k = 0 ∧ thD σ a = 0 ∧ u.1 = u2 σ 14 a.toNat 0 ∧ GI u.1 ∧ u.2.2.1 = ω) ∨ (u = (σ, κ, ω, o) ∧ ((k = 1 ∧ thD σ a = 1) ∨ (k = 2 ∧ thD σ a = 2))))) hF hr hlocks hP hS (Nat.le_of_ble_eq_true rfl) (Nat.le_of_ble_eq_true rfl) rfl (Or.inl ⟨rfl, hp.1, hp.2.1, hp.2.2, rfl⟩) dL_drop_15

set_option maxRecDepth 100000 in
set_option maxHeartbeats 4000000 in
theorem c_L_start (l : Launch) (h : Nat → Nat) (D : va_G) (c : Nat → ClassId) (cL : ClassId) (σ κ : Nat → Nat → Int) (ω : Nat × (Nat → Int32) × Int32) (o : Int64) (hinj : ∀ i j, i < 33 → j < 33 → h i = h j → i = j) (hG : GI σ) (a : Int) (ha : -2147483648 ≤ a ∧ a ≤ 2147483647) (hst : l.stackTraces = false) :
    ∀ sz, Met l yL_start (Cond.codeWith yL_start cL_start 4 (some .int) [(0, 9, 12, 21)] :: UW) { frames := 8, cells := 1, slots := 6 * 1, locals := 124 } (zPE zNCx [.ref (h 0), .int (iz a), .ref (h 32)] 33 h D (gTL c cL) sz (gL c cL h (σ, κ, ω, o))) (va_Qi (fun r (u : Int × SS) => r = iz u.1 ∧ (fun (k : Int) (u : SS) => (k = 0 ∧ ∃ z : Int, u.2.2.2 = cvI z ∧ th1 σ a = 0 ∧ (z = if σ 14 a.toNat = 0 then -1 else σ 8 a.toNat) ∧ u.1 = σ ∧ u.2.2.1 = ω) ∨ (u = (σ, κ, ω, o) ∧ ((k = 1 ∧ th1 σ a = 1)))) u.1 u.2) (fun u t => zB 33 h D (gL c cL h u.2) t.heap) (zA 33 h sz)) 1 (6 * 1) (zA 33 h sz) := by
  refine zHM_of (by decide) (Nat.le_of_ble_eq_true rfl) ?_
  intro p e s m below meth cd ls ⟨hF, hr, hlocks, hK, hX⟩ htab hN hP hl
  have hz : zD (zA 33 h s.heap.size) 33 h := zD.self hinj s.heap.size
  have hA : ∀ q, s.heap.size ≤ q → zA 33 h s.heap.size q := zA_new
  generalize zA 33 h s.heap.size = A at hz hA hX ⊢
  have hS : va_S A s.heap s.heap [] := va_S.rf
  have hi2 : ∀ i j, i < 32 → j < 32 → h i = h j → i = j := fun i j h1 h2 => hinj i j (by omega) (by omega)
  have hl : lv_has ls 4 [(0, .ref (h 0)), (1, .int (iz a)), (2, .ref (h 32))] := hl
  refine lv_aload_n hF.1 hF.2.1 dL_start_0 rfl (lv_at hl 2 rfl) ?_
  refine zi_const hF.1 hF.2.1 dL_start_1 ?_
  refine lv_aload_n hF.1 hF.2.1 dL_start_2 rfl (lv_at hl 0 rfl) ?_
  refine lv_iload_n hF.1 hF.2.1 dL_start_3 rfl (lv_at hl 1 rfl) ?_
  refine z_hcall (k := 1) (S := Unit) (u := (σ, κ, ω, o)) (w := (fun _ => gC c h σ κ ω)) (P := (fun z _ => th1 σ a = 0 ∧ z = if σ 14 a.toNat = 0 then -1 else σ 8 a.toNat)) (PX := fun E9 => (E9 = E98 ∧ th1 σ a = 1)) (z_xrunV (rm := { frames := 7, cells := 1, slots := 6 * 1, locals := 103 }) hF (zK_gT hK) hX (hz.less (by decide)) hA (zB_32 hP) hS (c_X3_start l h D c σ κ ω hi2 hG a ha hst _) (gIn_V mw_653 mw_654 mw_655 mw_86 mw_185) rfl rfl ⟨rfl, by decide, by decide, rfl⟩ ⟨Nat.le_of_ble_eq_true rfl, Nat.le_of_ble_eq_true rfl⟩ (k := 0) (T := TX3) (N := 14) (by decide) rfl rfl rfl (As := [.int (iz a)]) (rest := [.int (iz 0), .ref (h 32)]) rfl hl.1 rfl (Nat.le_of_ble_eq_true rfl) dL_start_4 ⟨Nat.le_of_ble_eq_true rfl, Nat.le_of_ble_eq_true rfl⟩) hz hA hP hS (fun v => (σ, κ, ω, o)) (fun _ => rfl) (fun _ => rfl) (fun E9 ce q9 H locs hpx hP hS hce hcv hcl => ?_) (fun z v H locs hp hP hS => ?_)
  · obtain ⟨rfl, hpx⟩ := hpx
    refine z_hnd hF hK (pre := []) (suf := []) htab (fun _ q => absurd q List.not_mem_nil) (by decide) (by decide) mw_631 (NW_mem (by decide +kernel) rfl) hce hcv hcl ?_
    refine lv_astore_n hF.1 hF.2.1 dL_start_12 rfl hl (by decide) rfl (fun ls _ => ?_)
    refine zi_const hF.1 hF.2.1 dL_start_13 ?_
    exact z_sreti (w := gL c cL h) (u := (σ, κ, ω, o)) (P := (fun (k : Int) (u : SS) => (k = 0 ∧ ∃ z : Int, u.2.2.2 = cvI z ∧ th1 σ a = 0 ∧ (z = if σ 14 a.toNat = 0 then -1 else σ 8 a.toNat) ∧ u.1 = σ ∧ u.2.2.1 = ω) ∨ (u = (σ, κ, ω, o) ∧ ((k = 1 ∧ th1 σ a = 1))))) hF hr hlocks hP hS (Nat.le_of_ble_eq_true rfl) (Nat.le_of_ble_eq_true rfl) rfl (Or.inr ⟨rfl, ⟨rfl, hpx⟩⟩) dL_start_14
  · exact z_hI (P := (fun (k : Int) (u : SS) => (k = 0 ∧ ∃ z : Int, u.2.2.2 = cvI z ∧ th1 σ a = 0 ∧ (z = if σ 14 a.toNat = 0 then -1 else σ 8 a.toNat) ∧ u.1 = σ ∧ u.2.2.1 = ω) ∨ (u = (σ, κ, ω, o) ∧ ((k = 1 ∧ th1 σ a = 1))))) (tgt := 15) hF hr hlocks hK hz hP hS (Nat.le_of_ble_eq_true rfl) (Nat.le_of_ble_eq_true rfl) dL_start_7 dL_start_8 dL_start_9 (by decide) dL_start_15 dL_start_16 (Or.inl ⟨rfl, z, rfl, hp.1, hp.2, rfl, rfl⟩)

set_option maxRecDepth 100000 in
set_option maxHeartbeats 4000000 in
theorem c_L_firstStart (l : Launch) (h : Nat → Nat) (D : va_G) (c : Nat → ClassId) (cL : ClassId) (σ κ : Nat → Nat → Int) (ω : Nat × (Nat → Int32) × Int32) (o : Int64) (hinj : ∀ i j, i < 33 → j < 33 → h i = h j → i = j) (hG : GI σ) (a : Int) (ha : -2147483648 ≤ a ∧ a ≤ 2147483647) (mi : Int) (hmi : -2147483648 ≤ mi ∧ mi ≤ 2147483647) (hlen : ∀ k, k < 16 → σ 14 k ≠ 0 → 1 ≤ σ 9 k) (hst : l.stackTraces = false) :
    ∀ sz, Met l yL_firstStart (Cond.codeWith yL_firstStart cL_firstStart 5 (some .int) [(0, 10, 13, 21), (0, 10, 17, 13), (0, 10, 21, 15)] :: UW) { frames := 9, cells := 3, slots := 6 * 3, locals := 149 } (zPE zNCx [.ref (h 0), .int (iz a), .int (iz mi), .ref (h 32)] 33 h D (gTL c cL) sz (gL c cL h (σ, κ, ω, o))) (va_Qi (fun r (u : Int × SS) => r = iz u.1 ∧ (fun (k : Int) (u : SS) => (k = 0 ∧ ∃ z : Int, u.2.2.2 = cvI z ∧ thM σ a mi = 0 ∧ (∃ σ9, FFS σ a.toNat mi z σ9) ∧ u.1 = σ ∧ u.2.2.1 = ω) ∨ (u = (σ, κ, ω, o) ∧ ((k = 1 ∧ thM σ a mi = 1) ∨ (k = 2 ∧ thM σ a mi = 2) ∨ (k = 3 ∧ thM σ a mi = 3)))) u.1 u.2) (fun u t => zB 33 h D (gL c cL h u.2) t.heap) (zA 33 h sz)) 3 (6 * 3) (zA 33 h sz) := by
  refine zHM_of (by decide) (Nat.le_of_ble_eq_true rfl) ?_
  intro p e s m below meth cd ls ⟨hF, hr, hlocks, hK, hX⟩ htab hN hP hl
  have hz : zD (zA 33 h s.heap.size) 33 h := zD.self hinj s.heap.size
  have hA : ∀ q, s.heap.size ≤ q → zA 33 h s.heap.size q := zA_new
  generalize zA 33 h s.heap.size = A at hz hA hX ⊢
  have hS : va_S A s.heap s.heap [] := va_S.rf
  have hi2 : ∀ i j, i < 32 → j < 32 → h i = h j → i = j := fun i j h1 h2 => hinj i j (by omega) (by omega)
  have hl : lv_has ls 5 [(0, .ref (h 0)), (1, .int (iz a)), (2, .int (iz mi)), (3, .ref (h 32))] := hl
  refine lv_aload_n hF.1 hF.2.1 dL_firstStart_0 rfl (lv_at hl 3 rfl) ?_
  refine zi_const hF.1 hF.2.1 dL_firstStart_1 ?_
  refine lv_aload_n hF.1 hF.2.1 dL_firstStart_2 rfl (lv_at hl 0 rfl) ?_
  refine lv_iload_n hF.1 hF.2.1 dL_firstStart_3 rfl (lv_at hl 1 rfl) ?_
  refine lv_iload_n hF.1 hF.2.1 dL_firstStart_4 rfl (lv_at hl 2 rfl) ?_
  refine z_hcall (k := 3) (S := (Nat → Nat → Int)) (u := (σ, κ, ω, o)) (w := (fun κ9 => gC c h σ κ9 ω)) (P := (fun z κ9 => thM σ a mi = 0 ∧ ∃ σ9, FFS σ a.toNat mi z σ9)) (PX := fun E9 => (E9 = E98 ∧ thM σ a mi = 1) ∨ (E9 = E206 ∧ thM σ a mi = 2) ∨ (E9 = E67 ∧ thM σ a mi = 3)) (z_xrunV (rm := { frames := 8, cells := 3, slots := 6 * 3, locals := 124 }) hF (zK_gT hK) hX (hz.less (by decide)) hA (zB_32 hP) hS (c_X3_firstStart l h D c σ κ ω hi2 hG a ha mi hmi hlen hst _) (gIn_V mw_656 mw_657 mw_658 mw_86 mw_190) rfl rfl ⟨rfl, by decide, by decide, rfl⟩ ⟨Nat.le_of_ble_eq_true rfl, Nat.le_of_ble_eq_true rfl⟩ (k := 0) (T := TX3) (N := 14) (by decide) rfl rfl rfl (As := [.int (iz a), .int (iz mi)]) (rest := [.int (iz 0), .ref (h 32)]) rfl hl.1 rfl (Nat.le_of_ble_eq_true rfl) dL_firstStart_5 ⟨Nat.le_of_ble_eq_true rfl, Nat.le_of_ble_eq_true rfl⟩) hz hA hP hS (fun v => (σ, v, ω, o)) (fun _ => rfl) (fun _ => rfl) (fun E9 ce q9 H locs hpx hP hS hce hcv hcl => ?_) (fun z v H locs hp hP hS => ?_)
  · rcases hpx with ⟨rfl, hpx⟩ | ⟨rfl, hpx⟩ | ⟨rfl, hpx⟩
    · refine z_hnd hF hK (pre := []) (suf := [(0, 10, 17, 13), (0, 10, 21, 15)]) htab (fun _ q => absurd q List.not_mem_nil) (by decide) (by decide) mw_631 (NW_mem (by decide +kernel) rfl) hce hcv hcl ?_
      refine lv_astore hF.1 hF.2.1 dL_firstStart_13 hl (by decide) rfl (fun ls _ => ?_)
      refine zi_const hF.1 hF.2.1 dL_firstStart_15 ?_
      exact z_sreti (w := gL c cL h) (u := (σ, κ, ω, o)) (P := (fun (k : Int) (u : SS) => (k = 0 ∧ ∃ z : Int, u.2.2.2 = cvI z ∧ thM σ a mi = 0 ∧ (∃ σ9, FFS σ a.toNat mi z σ9) ∧ u.1 = σ ∧ u.2.2.1 = ω) ∨ (u = (σ, κ, ω, o) ∧ ((k = 1 ∧ thM σ a mi = 1) ∨ (k = 2 ∧ thM σ a mi = 2) ∨ (k = 3 ∧ thM σ a mi = 3))))) hF hr hlocks hP hS (Nat.le_of_ble_eq_true rfl) (Nat.le_of_ble_eq_true rfl) rfl (Or.inr ⟨rfl, Or.inl ⟨rfl, hpx⟩⟩) dL_firstStart_16
    · refine z_hnd hF hK (pre := [(0, 10, 13, 21)]) (suf := [(0, 10, 21, 15)]) htab (List.forall_mem_cons.mpr ⟨⟨by decide, E98, mw_631, hN.1⟩, fun _ q => absurd q List.not_mem_nil⟩) (by decide) (by decide) mw_626 (NW_mem (by decide +kernel) rfl) hce hcv hcl ?_
      refine lv_astore hF.1 hF.2.1 dL_firstStart_17 hl (by decide) rfl (fun ls _ => ?_)
      refine zi_const hF.1 hF.2.1 dL_firstStart_19 ?_
      exact z_sreti (w := gL c cL h) (u := (σ, κ, ω, o)) (P := (fun (k : Int) (u : SS) => (k = 0 ∧ ∃ z : Int, u.2.2.2 = cvI z ∧ thM σ a mi = 0 ∧ (∃ σ9, FFS σ a.toNat mi z σ9) ∧ u.1 = σ ∧ u.2.2.1 = ω) ∨ (u = (σ, κ, ω, o) ∧ ((k = 1 ∧ thM σ a mi = 1) ∨ (k = 2 ∧ thM σ a mi = 2) ∨ (k = 3 ∧ thM σ a mi = 3))))) hF hr hlocks hP hS (Nat.le_of_ble_eq_true rfl) (Nat.le_of_ble_eq_true rfl) rfl (Or.inr ⟨rfl, Or.inr (Or.inl ⟨rfl, hpx⟩)⟩) dL_firstStart_20
    · refine z_hnd hF hK (pre := [(0, 10, 13, 21), (0, 10, 17, 13)]) (suf := []) htab (List.forall_mem_cons.mpr ⟨⟨by decide, E98, mw_631, hN.2.1⟩, List.forall_mem_cons.mpr ⟨⟨by decide, E206, mw_626, hN.2.2⟩, fun _ q => absurd q List.not_mem_nil⟩⟩) (by decide) (by decide) mw_627 (NW_mem (by decide +kernel) rfl) hce hcv hcl ?_
      refine lv_astore hF.1 hF.2.1 dL_firstStart_21 hl (by decide) rfl (fun ls _ => ?_)
      refine zi_const hF.1 hF.2.1 dL_firstStart_23 ?_
      exact z_sreti (w := gL c cL h) (u := (σ, κ, ω, o)) (P := (fun (k : Int) (u : SS) => (k = 0 ∧ ∃ z : Int, u.2.2.2 = cvI z ∧ thM σ a mi = 0 ∧ (∃ σ9, FFS σ a.toNat mi z σ9) ∧ u.1 = σ ∧ u.2.2.1 = ω) ∨ (u = (σ, κ, ω, o) ∧ ((k = 1 ∧ thM σ a mi = 1) ∨ (k = 2 ∧ thM σ a mi = 2) ∨ (k = 3 ∧ thM σ a mi = 3))))) hF hr hlocks hP hS (Nat.le_of_ble_eq_true rfl) (Nat.le_of_ble_eq_true rfl) rfl (Or.inr ⟨rfl, Or.inr (Or.inr (⟨rfl, hpx⟩))⟩) dL_firstStart_24
  · exact z_hI (P := (fun (k : Int) (u : SS) => (k = 0 ∧ ∃ z : Int, u.2.2.2 = cvI z ∧ thM σ a mi = 0 ∧ (∃ σ9, FFS σ a.toNat mi z σ9) ∧ u.1 = σ ∧ u.2.2.1 = ω) ∨ (u = (σ, κ, ω, o) ∧ ((k = 1 ∧ thM σ a mi = 1) ∨ (k = 2 ∧ thM σ a mi = 2) ∨ (k = 3 ∧ thM σ a mi = 3))))) (tgt := 25) hF hr hlocks hK hz hP hS (Nat.le_of_ble_eq_true rfl) (Nat.le_of_ble_eq_true rfl) dL_firstStart_8 dL_firstStart_9 dL_firstStart_10 (by decide) dL_firstStart_25 dL_firstStart_26 (Or.inl ⟨rfl, z, rfl, hp.1, hp.2, rfl, rfl⟩)

set_option maxRecDepth 100000 in
set_option maxHeartbeats 4000000 in
theorem c_L_type (l : Launch) (h : Nat → Nat) (D : va_G) (c : Nat → ClassId) (cL : ClassId) (σ κ : Nat → Nat → Int) (ω : Nat × (Nat → Int32) × Int32) (o : Int64) (hinj : ∀ i j, i < 33 → j < 33 → h i = h j → i = j) (hG : GI σ) (ch : Int) (hch : -2147483648 ≤ ch ∧ ch ≤ 2147483647) (hn : ω.1 ≤ 6) (hst : l.stackTraces = false) :
    ∀ sz, Met l yL_type (Cond.codeWith yL_type cL_type 4 (some .int) [(0, 9, 12, 13), (0, 9, 15, 15)] :: UW) { frames := 8, cells := 2, slots := 6 * 2, locals := 125 } (zPE zNCx [.ref (h 0), .int (iz ch), .ref (h 32)] 33 h D (gTL c cL) sz (gL c cL h (σ, κ, ω, o))) (va_Qi (fun r (u : Int × SS) => r = iz u.1 ∧ (fun (k : Int) (u : SS) => (k = 0 ∧ ∃ z : Int, u.2.2.2 = cvI z ∧ (97 ≤ ch ∧ ch ≤ 122) ∧ ω.1 < 6 ∧ z = (ω.1 : Int) + 1 ∧ u.1 = σ ∧ u.2.2.1 = (ω.1 + 1, upd ω.2.1 ω.1 (iz ch), ω.2.2)) ∨ (u = (σ, κ, ω, o) ∧ ((k = 1 ∧ ¬ (97 ≤ ch ∧ ch ≤ 122)) ∨ (k = 2 ∧ (97 ≤ ch ∧ ch ≤ 122) ∧ ω.1 = 6)))) u.1 u.2) (fun u t => zB 33 h D (gL c cL h u.2) t.heap) (zA 33 h sz)) 2 (6 * 2) (zA 33 h sz) := by
  refine zHM_of (by decide) (Nat.le_of_ble_eq_true rfl) ?_
  intro p e s m below meth cd ls ⟨hF, hr, hlocks, hK, hX⟩ htab hN hP hl
  have hz : zD (zA 33 h s.heap.size) 33 h := zD.self hinj s.heap.size
  have hA : ∀ q, s.heap.size ≤ q → zA 33 h s.heap.size q := zA_new
  generalize zA 33 h s.heap.size = A at hz hA hX ⊢
  have hS : va_S A s.heap s.heap [] := va_S.rf
  have hi2 : ∀ i j, i < 32 → j < 32 → h i = h j → i = j := fun i j h1 h2 => hinj i j (by omega) (by omega)
  have hl : lv_has ls 4 [(0, .ref (h 0)), (1, .int (iz ch)), (2, .ref (h 32))] := hl
  refine lv_aload_n hF.1 hF.2.1 dL_type_0 rfl (lv_at hl 2 rfl) ?_
  refine zi_const hF.1 hF.2.1 dL_type_1 ?_
  refine lv_aload_n hF.1 hF.2.1 dL_type_2 rfl (lv_at hl 0 rfl) ?_
  refine lv_iload_n hF.1 hF.2.1 dL_type_3 rfl (lv_at hl 1 rfl) ?_
  refine z_hcall (k := 2) (S := Unit) (u := (σ, κ, ω, o)) (w := (fun _ => gC c h σ κ (ω.1 + 1, upd ω.2.1 ω.1 (iz ch), ω.2.2))) (P := (fun z _ => (97 ≤ ch ∧ ch ≤ 122) ∧ ω.1 < 6 ∧ z = (ω.1 : Int) + 1)) (PX := fun E9 => (E9 = E206 ∧ ¬ (97 ≤ ch ∧ ch ≤ 122)) ∨ (E9 = E67 ∧ (97 ≤ ch ∧ ch ≤ 122) ∧ ω.1 = 6)) (z_xrunV (rm := { frames := 7, cells := 2, slots := 6 * 2, locals := 104 }) hF (zK_gT hK) hX (hz.less (by decide)) hA (zB_32 hP) hS (c_X3_type l h D c σ κ ω hi2 hG ch hch hn hst _) (gIn_V mw_659 mw_660 mw_661 mw_86 mw_296) rfl rfl ⟨rfl, by decide, by decide, rfl⟩ ⟨Nat.le_of_ble_eq_true rfl, Nat.le_of_ble_eq_true rfl⟩ (k := 0) (T := TX3) (N := 14) (by decide) rfl rfl rfl (As := [.int (iz ch)]) (rest := [.int (iz 0), .ref (h 32)]) rfl hl.1 rfl (Nat.le_of_ble_eq_true rfl) dL_type_4 ⟨Nat.le_of_ble_eq_true rfl, Nat.le_of_ble_eq_true rfl⟩) hz hA hP hS (fun v => (σ, κ, (ω.1 + 1, upd ω.2.1 ω.1 (iz ch), ω.2.2), o)) (fun _ => rfl) (fun _ => rfl) (fun E9 ce q9 H locs hpx hP hS hce hcv hcl => ?_) (fun z v H locs hp hP hS => ?_)
  · rcases hpx with ⟨rfl, hpx⟩ | ⟨rfl, hpx⟩
    · refine z_hnd hF hK (pre := []) (suf := [(0, 9, 15, 15)]) htab (fun _ q => absurd q List.not_mem_nil) (by decide) (by decide) mw_626 (NW_mem (by decide +kernel) rfl) hce hcv hcl ?_
      refine lv_astore_n hF.1 hF.2.1 dL_type_12 rfl hl (by decide) rfl (fun ls _ => ?_)
      refine zi_const hF.1 hF.2.1 dL_type_13 ?_
      exact z_sreti (w := gL c cL h) (u := (σ, κ, ω, o)) (P := (fun (k : Int) (u : SS) => (k = 0 ∧ ∃ z : Int, u.2.2.2 = cvI z ∧ (97 ≤ ch ∧ ch ≤ 122) ∧ ω.1 < 6 ∧ z = (ω.1 : Int) + 1 ∧ u.1 = σ ∧ u.2.2.1 = (ω.1 + 1, upd ω.2.1 ω.1 (iz ch), ω.2.2)) ∨ (u = (σ, κ, ω, o) ∧ ((k = 1 ∧ ¬ (97 ≤ ch ∧ ch ≤ 122)) ∨ (k = 2 ∧ (97 ≤ ch ∧ ch ≤ 122) ∧ ω.1 = 6))))) hF hr hlocks hP hS (Nat.le_of_ble_eq_true rfl) (Nat.le_of_ble_eq_true rfl) rfl (Or.inr ⟨rfl, Or.inl ⟨rfl, hpx⟩⟩) dL_type_14
    · refine z_hnd hF hK (pre := [(0, 9, 12, 13)]) (suf := []) htab (List.forall_mem_cons.mpr ⟨⟨by decide, E206, mw_626, hN.2.2⟩, fun _ q => absurd q List.not_mem_nil⟩) (by decide) (by decide) mw_627 (NW_mem (by decide +kernel) rfl) hce hcv hcl ?_
      refine lv_astore_n hF.1 hF.2.1 dL_type_15 rfl hl (by decide) rfl (fun ls _ => ?_)
      refine zi_const hF.1 hF.2.1 dL_type_16 ?_
      exact z_sreti (w := gL c cL h) (u := (σ, κ, ω, o)) (P := (fun (k : Int) (u : SS) => (k = 0 ∧ ∃ z : Int, u.2.2.2 = cvI z ∧ (97 ≤ ch ∧ ch ≤ 122) ∧ ω.1 < 6 ∧ z = (ω.1 : Int) + 1 ∧ u.1 = σ ∧ u.2.2.1 = (ω.1 + 1, upd ω.2.1 ω.1 (iz ch), ω.2.2)) ∨ (u = (σ, κ, ω, o) ∧ ((k = 1 ∧ ¬ (97 ≤ ch ∧ ch ≤ 122)) ∨ (k = 2 ∧ (97 ≤ ch ∧ ch ≤ 122) ∧ ω.1 = 6))))) hF hr hlocks hP hS (Nat.le_of_ble_eq_true rfl) (Nat.le_of_ble_eq_true rfl) rfl (Or.inr ⟨rfl, Or.inr (⟨rfl, hpx⟩)⟩) dL_type_17
  · exact z_hI (P := (fun (k : Int) (u : SS) => (k = 0 ∧ ∃ z : Int, u.2.2.2 = cvI z ∧ (97 ≤ ch ∧ ch ≤ 122) ∧ ω.1 < 6 ∧ z = (ω.1 : Int) + 1 ∧ u.1 = σ ∧ u.2.2.1 = (ω.1 + 1, upd ω.2.1 ω.1 (iz ch), ω.2.2)) ∨ (u = (σ, κ, ω, o) ∧ ((k = 1 ∧ ¬ (97 ≤ ch ∧ ch ≤ 122)) ∨ (k = 2 ∧ (97 ≤ ch ∧ ch ≤ 122) ∧ ω.1 = 6))))) (tgt := 18) hF hr hlocks hK hz hP hS (Nat.le_of_ble_eq_true rfl) (Nat.le_of_ble_eq_true rfl) dL_type_7 dL_type_8 dL_type_9 (by decide) dL_type_18 dL_type_19 (Or.inl ⟨rfl, z, rfl, hp.1, hp.2.1, hp.2.2, rfl, rfl⟩)

set_option maxRecDepth 100000 in
set_option maxHeartbeats 4000000 in
theorem c_L_grant (l : Launch) (h : Nat → Nat) (D : va_G) (c : Nat → ClassId) (cL : ClassId) (σ κ : Nat → Nat → Int) (ω : Nat × (Nat → Int32) × Int32) (o : Int64) (hinj : ∀ i j, i < 33 → j < 33 → h i = h j → i = j) (hG : GI σ) (a : Int) (ha : -2147483648 ≤ a ∧ a ≤ 2147483647) (hn : ω.1 ≤ 6) (hby : ∀ j, j < ω.1 → ∃ x : Int, (97 ≤ x ∧ x ≤ 122) ∧ ω.2.1 j = iz x) (hst : l.stackTraces = false) :
    ∀ sz, Met l yL_grant (Cond.codeWith yL_grant cL_grant 4 (some .int) [(0, 16, 19, 21), (0, 16, 22, 15)] :: UW) { frames := 9, cells := 5, slots := 6 * 5, locals := 202 } (zPE zNCx [.ref (h 0), .int (iz a), .ref (h 32)] 33 h D (gTL c cL) sz (gL c cL h (σ, κ, ω, o))) (va_Qi (fun r (u : Int × SS) => r = iz u.1 ∧ (fun (k : Int) (u : SS) => (k = 0 ∧ ∃ z : Int, u.2.2.2 = cvB z ∧ (∃ i : Int, TW ω i ∧ 0 ≤ i ∧ (0 ≤ a ∧ a ≤ σ 0 1 - 1) ∧ σ 14 a.toNat ≠ 0 ∧ CS σ (grT σ a.toNat i) (bby (grT σ a.toNat i) a.toNat = 0) z u.1 ∧ GI u.1) ∧ u.2.2.1 = ω) ∨ (u = (σ, κ, ω, o) ∧ ((k = 1 ∧ ¬ (0 ≤ a ∧ a ≤ σ 0 1 - 1)) ∨ (k = 2 ∧ (0 ≤ a ∧ a ≤ σ 0 1 - 1) ∧ (σ 14 a.toNat = 0 ∨ TW ω (-1)))))) u.1 u.2) (fun u t => zB 33 h D (gL c cL h u.2) t.heap) (zA 33 h sz)) 5 (6 * 5) (zA 33 h sz) := by
  refine zHM_of (by decide) (Nat.le_of_ble_eq_true rfl) ?_
  intro p e s m below meth cd ls ⟨hF, hr, hlocks, hK, hX⟩ htab hN hP hl
  have hz : zD (zA 33 h s.heap.size) 33 h := zD.self hinj s.heap.size
  have hA : ∀ q, s.heap.size ≤ q → zA 33 h s.heap.size q := zA_new
  generalize zA 33 h s.heap.size = A at hz hA hX ⊢
  have hS : va_S A s.heap s.heap [] := va_S.rf
  have hi2 : ∀ i j, i < 32 → j < 32 → h i = h j → i = j := fun i j h1 h2 => hinj i j (by omega) (by omega)
  have hl : lv_has ls 4 [(0, .ref (h 0)), (1, .int (iz a)), (2, .ref (h 32))] := hl
  refine lv_aload_n hF.1 hF.2.1 dL_grant_0 rfl (lv_at hl 2 rfl) ?_
  refine zi_const hF.1 hF.2.1 dL_grant_1 ?_
  refine lv_aload_n hF.1 hF.2.1 dL_grant_2 rfl (lv_at hl 0 rfl) ?_
  refine lv_iload_n hF.1 hF.2.1 dL_grant_3 rfl (lv_at hl 1 rfl) ?_
  refine z_hcall (k := 5) (S := ((Nat → Nat → Int) × (Nat → Nat → Int))) (u := (σ, κ, ω, o)) (w := (fun u9 => gC c h u9.1 u9.2 ω)) (P := (fun z (u9 : (Nat → Nat → Int) × (Nat → Nat → Int)) => ∃ i : Int, TW ω i ∧ 0 ≤ i ∧ (0 ≤ a ∧ a ≤ σ 0 1 - 1) ∧ σ 14 a.toNat ≠ 0 ∧ CS σ (grT σ a.toNat i) (bby (grT σ a.toNat i) a.toNat = 0) z u9.1 ∧ GI u9.1)) (PX := fun E9 => (E9 = E98 ∧ ¬ (0 ≤ a ∧ a ≤ σ 0 1 - 1)) ∨ (E9 = E67 ∧ (0 ≤ a ∧ a ≤ σ 0 1 - 1) ∧ (σ 14 a.toNat = 0 ∨ TW ω (-1)))) (z_xrunV (rm := { frames := 8, cells := 5, slots := 6 * 5, locals := 176 }) hF (zK_gT hK) hX (hz.less (by decide)) hA (zB_32 hP) hS (c_X3_grant l h D c σ κ ω hi2 hG a ha hn hby hst _) (gIn_V mw_662 mw_663 mw_664 mw_86 mw_390) rfl rfl ⟨rfl, by decide, by decide, rfl⟩ ⟨Nat.le_of_ble_eq_true rfl, Nat.le_of_ble_eq_true rfl⟩ (k := 0) (T := TX3) (N := 14) (by decide) rfl rfl rfl (As := [.int (iz a)]) (rest := [.int (iz 0), .ref (h 32)]) rfl hl.1 rfl (Nat.le_of_ble_eq_true rfl) dL_grant_4 ⟨Nat.le_of_ble_eq_true rfl, Nat.le_of_ble_eq_true rfl⟩) hz hA hP hS (fun v => (v.1, v.2, ω, o)) (fun _ => rfl) (fun _ => rfl) (fun E9 ce q9 H locs hpx hP hS hce hcv hcl => ?_) (fun z v H locs hp hP hS => ?_)
  · rcases hpx with ⟨rfl, hpx⟩ | ⟨rfl, hpx⟩
    · refine z_hnd hF hK (pre := []) (suf := [(0, 16, 22, 15)]) htab (fun _ q => absurd q List.not_mem_nil) (by decide) (by decide) mw_631 (NW_mem (by decide +kernel) rfl) hce hcv hcl ?_
      refine lv_astore_n hF.1 hF.2.1 dL_grant_19 rfl hl (by decide) rfl (fun ls _ => ?_)
      refine zi_const hF.1 hF.2.1 dL_grant_20 ?_
      exact z_sreti (w := gL c cL h) (u := (σ, κ, ω, o)) (P := (fun (k : Int) (u : SS) => (k = 0 ∧ ∃ z : Int, u.2.2.2 = cvB z ∧ (∃ i : Int, TW ω i ∧ 0 ≤ i ∧ (0 ≤ a ∧ a ≤ σ 0 1 - 1) ∧ σ 14 a.toNat ≠ 0 ∧ CS σ (grT σ a.toNat i) (bby (grT σ a.toNat i) a.toNat = 0) z u.1 ∧ GI u.1) ∧ u.2.2.1 = ω) ∨ (u = (σ, κ, ω, o) ∧ ((k = 1 ∧ ¬ (0 ≤ a ∧ a ≤ σ 0 1 - 1)) ∨ (k = 2 ∧ (0 ≤ a ∧ a ≤ σ 0 1 - 1) ∧ (σ 14 a.toNat = 0 ∨ TW ω (-1))))))) hF hr hlocks hP hS (Nat.le_of_ble_eq_true rfl) (Nat.le_of_ble_eq_true rfl) rfl (Or.inr ⟨rfl, Or.inl ⟨rfl, hpx⟩⟩) dL_grant_21
    · refine z_hnd hF hK (pre := [(0, 16, 19, 21)]) (suf := []) htab (List.forall_mem_cons.mpr ⟨⟨by decide, E98, mw_631, hN.2.1⟩, fun _ q => absurd q List.not_mem_nil⟩) (by decide) (by decide) mw_627 (NW_mem (by decide +kernel) rfl) hce hcv hcl ?_
      refine lv_astore_n hF.1 hF.2.1 dL_grant_22 rfl hl (by decide) rfl (fun ls _ => ?_)
      refine zi_const hF.1 hF.2.1 dL_grant_23 ?_
      exact z_sreti (w := gL c cL h) (u := (σ, κ, ω, o)) (P := (fun (k : Int) (u : SS) => (k = 0 ∧ ∃ z : Int, u.2.2.2 = cvB z ∧ (∃ i : Int, TW ω i ∧ 0 ≤ i ∧ (0 ≤ a ∧ a ≤ σ 0 1 - 1) ∧ σ 14 a.toNat ≠ 0 ∧ CS σ (grT σ a.toNat i) (bby (grT σ a.toNat i) a.toNat = 0) z u.1 ∧ GI u.1) ∧ u.2.2.1 = ω) ∨ (u = (σ, κ, ω, o) ∧ ((k = 1 ∧ ¬ (0 ≤ a ∧ a ≤ σ 0 1 - 1)) ∨ (k = 2 ∧ (0 ≤ a ∧ a ≤ σ 0 1 - 1) ∧ (σ 14 a.toNat = 0 ∨ TW ω (-1))))))) hF hr hlocks hP hS (Nat.le_of_ble_eq_true rfl) (Nat.le_of_ble_eq_true rfl) rfl (Or.inr ⟨rfl, Or.inr (⟨rfl, hpx⟩)⟩) dL_grant_24
  · exact z_hB (P := (fun (k : Int) (u : SS) => (k = 0 ∧ ∃ z : Int, u.2.2.2 = cvB z ∧ (∃ i : Int, TW ω i ∧ 0 ≤ i ∧ (0 ≤ a ∧ a ≤ σ 0 1 - 1) ∧ σ 14 a.toNat ≠ 0 ∧ CS σ (grT σ a.toNat i) (bby (grT σ a.toNat i) a.toNat = 0) z u.1 ∧ GI u.1) ∧ u.2.2.1 = ω) ∨ (u = (σ, κ, ω, o) ∧ ((k = 1 ∧ ¬ (0 ≤ a ∧ a ≤ σ 0 1 - 1)) ∨ (k = 2 ∧ (0 ≤ a ∧ a ≤ σ 0 1 - 1) ∧ (σ 14 a.toNat = 0 ∨ TW ω (-1))))))) (tgt := 25) (t1 := 14) (t2 := 15) hF hr hlocks hK hz hP hS (Nat.le_of_ble_eq_true rfl) (Nat.le_of_ble_eq_true rfl) dL_grant_7 (by decide) dL_grant_10 dL_grant_11 (by decide) dL_grant_14 dL_grant_15 dL_grant_16 (by decide) dL_grant_25 dL_grant_26 rfl (Or.inl ⟨rfl, z, rfl, hp, rfl⟩)

set_option maxRecDepth 100000 in
set_option maxHeartbeats 4000000 in
theorem c_L_ofAct (l : Launch) (h : Nat → Nat) (D : va_G) (c : Nat → ClassId) (cL : ClassId) (σ κ : Nat → Nat → Int) (ω : Nat × (Nat → Int32) × Int32) (o : Int64) (hinj : ∀ i j, i < 33 → j < 33 → h i = h j → i = j) (hG : GI σ) (a : Int) (ha : -2147483648 ≤ a ∧ a ≤ 2147483647) (wh : Int) (hwh : -2147483648 ≤ wh ∧ wh ≤ 2147483647) (hst : l.stackTraces = false) :
    ∀ sz, Met l yL_ofAct (Cond.codeWith yL_ofAct cL_ofAct 5 (some .int) [(0, 10, 13, 21)] :: UW) { frames := 8, cells := 2, slots := 6 * 2, locals := 125 } (zPE zNCx [.ref (h 0), .int (iz a), .int (iz wh), .ref (h 32)] 33 h D (gTL c cL) sz (gL c cL h (σ, κ, ω, o))) (va_Qi (fun r (u : Int × SS) => r = iz u.1 ∧ (fun (k : Int) (u : SS) => (k = 0 ∧ ∃ z : Int, u.2.2.2 = cvI z ∧ thO σ a wh = 0 ∧ (z = if wh = 0 then σ 11 a.toNat else if wh = 1 then σ 12 a.toNat else σ 13 a.toNat) ∧ u.1 = σ ∧ u.2.2.1 = ω) ∨ (u = (σ, κ, ω, o) ∧ ((k = 1 ∧ thO σ a wh = 1)))) u.1 u.2) (fun u t => zB 33 h D (gL c cL h u.2) t.heap) (zA 33 h sz)) 2 (6 * 2) (zA 33 h sz) := by
  refine zHM_of (by decide) (Nat.le_of_ble_eq_true rfl) ?_
  intro p e s m below meth cd ls ⟨hF, hr, hlocks, hK, hX⟩ htab hN hP hl
  have hz : zD (zA 33 h s.heap.size) 33 h := zD.self hinj s.heap.size
  have hA : ∀ q, s.heap.size ≤ q → zA 33 h s.heap.size q := zA_new
  generalize zA 33 h s.heap.size = A at hz hA hX ⊢
  have hS : va_S A s.heap s.heap [] := va_S.rf
  have hi2 : ∀ i j, i < 32 → j < 32 → h i = h j → i = j := fun i j h1 h2 => hinj i j (by omega) (by omega)
  have hl : lv_has ls 5 [(0, .ref (h 0)), (1, .int (iz a)), (2, .int (iz wh)), (3, .ref (h 32))] := hl
  refine lv_aload_n hF.1 hF.2.1 dL_ofAct_0 rfl (lv_at hl 3 rfl) ?_
  refine zi_const hF.1 hF.2.1 dL_ofAct_1 ?_
  refine lv_aload_n hF.1 hF.2.1 dL_ofAct_2 rfl (lv_at hl 0 rfl) ?_
  refine lv_iload_n hF.1 hF.2.1 dL_ofAct_3 rfl (lv_at hl 1 rfl) ?_
  refine lv_iload_n hF.1 hF.2.1 dL_ofAct_4 rfl (lv_at hl 2 rfl) ?_
  refine z_hcall (k := 2) (S := Unit) (u := (σ, κ, ω, o)) (w := (fun _ => gC c h σ κ ω)) (P := (fun z _ => thO σ a wh = 0 ∧ z = if wh = 0 then σ 11 a.toNat else if wh = 1 then σ 12 a.toNat else σ 13 a.toNat)) (PX := fun E9 => (E9 = E98 ∧ thO σ a wh = 1)) (z_xrunV (rm := { frames := 7, cells := 2, slots := 6 * 2, locals := 103 }) hF (zK_gT hK) hX (hz.less (by decide)) hA (zB_32 hP) hS (c_X3_ofAct l h D c σ κ ω hi2 hG a ha wh hwh hst _) (gIn_V mw_665 mw_666 mw_667 mw_86 mw_391) rfl rfl ⟨rfl, by decide, by decide, rfl⟩ ⟨Nat.le_of_ble_eq_true rfl, Nat.le_of_ble_eq_true rfl⟩ (k := 0) (T := TX3) (N := 14) (by decide) rfl rfl rfl (As := [.int (iz a), .int (iz wh)]) (rest := [.int (iz 0), .ref (h 32)]) rfl hl.1 rfl (Nat.le_of_ble_eq_true rfl) dL_ofAct_5 ⟨Nat.le_of_ble_eq_true rfl, Nat.le_of_ble_eq_true rfl⟩) hz hA hP hS (fun v => (σ, κ, ω, o)) (fun _ => rfl) (fun _ => rfl) (fun E9 ce q9 H locs hpx hP hS hce hcv hcl => ?_) (fun z v H locs hp hP hS => ?_)
  · obtain ⟨rfl, hpx⟩ := hpx
    refine z_hnd hF hK (pre := []) (suf := []) htab (fun _ q => absurd q List.not_mem_nil) (by decide) (by decide) mw_631 (NW_mem (by decide +kernel) rfl) hce hcv hcl ?_
    refine lv_astore hF.1 hF.2.1 dL_ofAct_13 hl (by decide) rfl (fun ls _ => ?_)
    refine zi_const hF.1 hF.2.1 dL_ofAct_15 ?_
    exact z_sreti (w := gL c cL h) (u := (σ, κ, ω, o)) (P := (fun (k : Int) (u : SS) => (k = 0 ∧ ∃ z : Int, u.2.2.2 = cvI z ∧ thO σ a wh = 0 ∧ (z = if wh = 0 then σ 11 a.toNat else if wh = 1 then σ 12 a.toNat else σ 13 a.toNat) ∧ u.1 = σ ∧ u.2.2.1 = ω) ∨ (u = (σ, κ, ω, o) ∧ ((k = 1 ∧ thO σ a wh = 1))))) hF hr hlocks hP hS (Nat.le_of_ble_eq_true rfl) (Nat.le_of_ble_eq_true rfl) rfl (Or.inr ⟨rfl, ⟨rfl, hpx⟩⟩) dL_ofAct_16
  · exact z_hI (P := (fun (k : Int) (u : SS) => (k = 0 ∧ ∃ z : Int, u.2.2.2 = cvI z ∧ thO σ a wh = 0 ∧ (z = if wh = 0 then σ 11 a.toNat else if wh = 1 then σ 12 a.toNat else σ 13 a.toNat) ∧ u.1 = σ ∧ u.2.2.1 = ω) ∨ (u = (σ, κ, ω, o) ∧ ((k = 1 ∧ thO σ a wh = 1))))) (tgt := 17) hF hr hlocks hK hz hP hS (Nat.le_of_ble_eq_true rfl) (Nat.le_of_ble_eq_true rfl) dL_ofAct_8 dL_ofAct_9 dL_ofAct_10 (by decide) dL_ofAct_17 dL_ofAct_18 (Or.inl ⟨rfl, z, rfl, hp.1, hp.2, rfl, rfl⟩)

set_option maxRecDepth 100000 in
set_option maxHeartbeats 4000000 in
theorem c_L_storm (l : Launch) (h : Nat → Nat) (D : va_G) (c : Nat → ClassId) (cL : ClassId) (σ κ : Nat → Nat → Int) (ω : Nat × (Nat → Int32) × Int32) (o : Int64) (hinj : ∀ i j, i < 33 → j < 33 → h i = h j → i = j) (hG : GI σ) (sg : Int) (hsg : -2147483648 ≤ sg ∧ sg ≤ 2147483647) (mi : Int) (hmi : -2147483648 ≤ mi ∧ mi ≤ 2147483647) (du : Int) (hdu : -2147483648 ≤ du ∧ du ≤ 2147483647) (hlen : ∀ k, k < 16 → σ 14 k ≠ 0 → 1 ≤ σ 9 k) (hwt : ∀ k, k < 16 → σ 15 k = 0) (hst : l.stackTraces = false) :
    ∀ sz, Met l yL_storm (Cond.codeWith yL_storm cL_storm 6 (some .int) [(0, 12, 15, 21), (0, 12, 19, 13), (0, 12, 23, 15)] :: UW) { frames := 9, cells := 4, slots := 6 * 4, locals := 169 } (zPE zNCx [.ref (h 0), .int (iz sg), .int (iz mi), .int (iz du), .ref (h 32)] 33 h D (gTL c cL) sz (gL c cL h (σ, κ, ω, o))) (va_Qi (fun r (u : Int × SS) => r = iz u.1 ∧ (fun (k : Int) (u : SS) => (k = 0 ∧ ∃ z : Int, u.2.2.2 = cvI z ∧ thX σ sg mi du = 0 ∧ (∃ σ1, COF (stC σ sg mi (min (mi + du) 1000)) (σ 0 2).toNat σ1 ∧ GI σ1 ∧ RPn (min (mi + du) 1000) 16 σ1 0 u.1 z) ∧ GI u.1 ∧ u.2.2.1 = ω) ∨ (u = (σ, κ, ω, o) ∧ ((k = 1 ∧ thX σ sg mi du = 1) ∨ (k = 2 ∧ thX σ sg mi du = 2) ∨ (k = 3 ∧ thX σ sg mi du = 3)))) u.1 u.2) (fun u t => zB 33 h D (gL c cL h u.2) t.heap) (zA 33 h sz)) 4 (6 * 4) (zA 33 h sz) := by
  refine zHM_of (by decide) (Nat.le_of_ble_eq_true rfl) ?_
  intro p e s m below meth cd ls ⟨hF, hr, hlocks, hK, hX⟩ htab hN hP hl
  have hz : zD (zA 33 h s.heap.size) 33 h := zD.self hinj s.heap.size
  have hA : ∀ q, s.heap.size ≤ q → zA 33 h s.heap.size q := zA_new
  generalize zA 33 h s.heap.size = A at hz hA hX ⊢
  have hS : va_S A s.heap s.heap [] := va_S.rf
  have hi2 : ∀ i j, i < 32 → j < 32 → h i = h j → i = j := fun i j h1 h2 => hinj i j (by omega) (by omega)
  have hl : lv_has ls 6 [(0, .ref (h 0)), (1, .int (iz sg)), (2, .int (iz mi)), (3, .int (iz du)), (4, .ref (h 32))] := hl
  refine lv_aload hF.1 hF.2.1 dL_storm_0 (lv_at hl 4 rfl) ?_
  refine zi_const hF.1 hF.2.1 dL_storm_2 ?_
  refine lv_aload_n hF.1 hF.2.1 dL_storm_3 rfl (lv_at hl 0 rfl) ?_
  refine lv_iload_n hF.1 hF.2.1 dL_storm_4 rfl (lv_at hl 1 rfl) ?_
  refine lv_iload_n hF.1 hF.2.1 dL_storm_5 rfl (lv_at hl 2 rfl) ?_
  refine lv_iload_n hF.1 hF.2.1 dL_storm_6 rfl (lv_at hl 3 rfl) ?_
  refine z_hcall (k := 4) (S := ((Nat → Nat → Int) × (Nat → Nat → Int))) (u := (σ, κ, ω, o)) (w := (fun u9 => gC c h u9.1 u9.2 ω)) (P := (fun z u9 => thX σ sg mi du = 0 ∧ (∃ σ1, COF (stC σ sg mi (min (mi + du) 1000)) (σ 0 2).toNat σ1 ∧ GI σ1 ∧ RPn (min (mi + du) 1000) 16 σ1 0 u9.1 z) ∧ GI u9.1)) (PX := fun E9 => (E9 = E98 ∧ thX σ sg mi du = 1) ∨ (E9 = E206 ∧ thX σ sg mi du = 2) ∨ (E9 = E67 ∧ thX σ sg mi du = 3)) (z_xrunV (rm := { frames := 8, cells := 4, slots := 6 * 4, locals := 145 }) hF (zK_gT hK) hX (hz.less (by decide)) hA (zB_32 hP) hS (c_X3_storm l h D c σ κ ω hi2 hG sg hsg mi hmi du hdu hlen hwt hst _) (gIn_V mw_668 mw_669 mw_670 mw_86 mw_405) rfl rfl ⟨rfl, by decide, by decide, rfl⟩ ⟨Nat.le_of_ble_eq_true rfl, Nat.le_of_ble_eq_true rfl⟩ (k := 0) (T := TX3) (N := 14) (by decide) rfl rfl rfl (As := [.int (iz sg), .int (iz mi), .int (iz du)]) (rest := [.int (iz 0), .ref (h 32)]) rfl hl.1 rfl (Nat.le_of_ble_eq_true rfl) dL_storm_7 ⟨Nat.le_of_ble_eq_true rfl, Nat.le_of_ble_eq_true rfl⟩) hz hA hP hS (fun v => (v.1, v.2, ω, o)) (fun _ => rfl) (fun _ => rfl) (fun E9 ce q9 H locs hpx hP hS hce hcv hcl => ?_) (fun z v H locs hp hP hS => ?_)
  · rcases hpx with ⟨rfl, hpx⟩ | ⟨rfl, hpx⟩ | ⟨rfl, hpx⟩
    · refine z_hnd hF hK (pre := []) (suf := [(0, 12, 19, 13), (0, 12, 23, 15)]) htab (fun _ q => absurd q List.not_mem_nil) (by decide) (by decide) mw_631 (NW_mem (by decide +kernel) rfl) hce hcv hcl ?_
      refine lv_astore hF.1 hF.2.1 dL_storm_15 hl (by decide) rfl (fun ls _ => ?_)
      refine zi_const hF.1 hF.2.1 dL_storm_17 ?_
      exact z_sreti (w := gL c cL h) (u := (σ, κ, ω, o)) (P := (fun (k : Int) (u : SS) => (k = 0 ∧ ∃ z : Int, u.2.2.2 = cvI z ∧ thX σ sg mi du = 0 ∧ (∃ σ1, COF (stC σ sg mi (min (mi + du) 1000)) (σ 0 2).toNat σ1 ∧ GI σ1 ∧ RPn (min (mi + du) 1000) 16 σ1 0 u.1 z) ∧ GI u.1 ∧ u.2.2.1 = ω) ∨ (u = (σ, κ, ω, o) ∧ ((k = 1 ∧ thX σ sg mi du = 1) ∨ (k = 2 ∧ thX σ sg mi du = 2) ∨ (k = 3 ∧ thX σ sg mi du = 3))))) hF hr hlocks hP hS (Nat.le_of_ble_eq_true rfl) (Nat.le_of_ble_eq_true rfl) rfl (Or.inr ⟨rfl, Or.inl ⟨rfl, hpx⟩⟩) dL_storm_18
    · refine z_hnd hF hK (pre := [(0, 12, 15, 21)]) (suf := [(0, 12, 23, 15)]) htab (List.forall_mem_cons.mpr ⟨⟨by decide, E98, mw_631, hN.1⟩, fun _ q => absurd q List.not_mem_nil⟩) (by decide) (by decide) mw_626 (NW_mem (by decide +kernel) rfl) hce hcv hcl ?_
      refine lv_astore hF.1 hF.2.1 dL_storm_19 hl (by decide) rfl (fun ls _ => ?_)
      refine zi_const hF.1 hF.2.1 dL_storm_21 ?_
      exact z_sreti (w := gL c cL h) (u := (σ, κ, ω, o)) (P := (fun (k : Int) (u : SS) => (k = 0 ∧ ∃ z : Int, u.2.2.2 = cvI z ∧ thX σ sg mi du = 0 ∧ (∃ σ1, COF (stC σ sg mi (min (mi + du) 1000)) (σ 0 2).toNat σ1 ∧ GI σ1 ∧ RPn (min (mi + du) 1000) 16 σ1 0 u.1 z) ∧ GI u.1 ∧ u.2.2.1 = ω) ∨ (u = (σ, κ, ω, o) ∧ ((k = 1 ∧ thX σ sg mi du = 1) ∨ (k = 2 ∧ thX σ sg mi du = 2) ∨ (k = 3 ∧ thX σ sg mi du = 3))))) hF hr hlocks hP hS (Nat.le_of_ble_eq_true rfl) (Nat.le_of_ble_eq_true rfl) rfl (Or.inr ⟨rfl, Or.inr (Or.inl ⟨rfl, hpx⟩)⟩) dL_storm_22
    · refine z_hnd hF hK (pre := [(0, 12, 15, 21), (0, 12, 19, 13)]) (suf := []) htab (List.forall_mem_cons.mpr ⟨⟨by decide, E98, mw_631, hN.2.1⟩, List.forall_mem_cons.mpr ⟨⟨by decide, E206, mw_626, hN.2.2⟩, fun _ q => absurd q List.not_mem_nil⟩⟩) (by decide) (by decide) mw_627 (NW_mem (by decide +kernel) rfl) hce hcv hcl ?_
      refine lv_astore hF.1 hF.2.1 dL_storm_23 hl (by decide) rfl (fun ls _ => ?_)
      refine zi_const hF.1 hF.2.1 dL_storm_25 ?_
      exact z_sreti (w := gL c cL h) (u := (σ, κ, ω, o)) (P := (fun (k : Int) (u : SS) => (k = 0 ∧ ∃ z : Int, u.2.2.2 = cvI z ∧ thX σ sg mi du = 0 ∧ (∃ σ1, COF (stC σ sg mi (min (mi + du) 1000)) (σ 0 2).toNat σ1 ∧ GI σ1 ∧ RPn (min (mi + du) 1000) 16 σ1 0 u.1 z) ∧ GI u.1 ∧ u.2.2.1 = ω) ∨ (u = (σ, κ, ω, o) ∧ ((k = 1 ∧ thX σ sg mi du = 1) ∨ (k = 2 ∧ thX σ sg mi du = 2) ∨ (k = 3 ∧ thX σ sg mi du = 3))))) hF hr hlocks hP hS (Nat.le_of_ble_eq_true rfl) (Nat.le_of_ble_eq_true rfl) rfl (Or.inr ⟨rfl, Or.inr (Or.inr (⟨rfl, hpx⟩))⟩) dL_storm_26
  · exact z_hI (P := (fun (k : Int) (u : SS) => (k = 0 ∧ ∃ z : Int, u.2.2.2 = cvI z ∧ thX σ sg mi du = 0 ∧ (∃ σ1, COF (stC σ sg mi (min (mi + du) 1000)) (σ 0 2).toNat σ1 ∧ GI σ1 ∧ RPn (min (mi + du) 1000) 16 σ1 0 u.1 z) ∧ GI u.1 ∧ u.2.2.1 = ω) ∨ (u = (σ, κ, ω, o) ∧ ((k = 1 ∧ thX σ sg mi du = 1) ∨ (k = 2 ∧ thX σ sg mi du = 2) ∨ (k = 3 ∧ thX σ sg mi du = 3))))) (tgt := 27) hF hr hlocks hK hz hP hS (Nat.le_of_ble_eq_true rfl) (Nat.le_of_ble_eq_true rfl) dL_storm_10 dL_storm_11 dL_storm_12 (by decide) dL_storm_27 dL_storm_28 (Or.inl ⟨rfl, z, rfl, hp.1, hp.2.1, hp.2.2, rfl⟩)

set_option maxRecDepth 100000 in
set_option maxHeartbeats 4000000 in
theorem c_L_load (l : Launch) (h : Nat → Nat) (D : va_G) (c : Nat → ClassId) (cL : ClassId) (σ κ : Nat → Nat → Int) (ω : Nat × (Nat → Int32) × Int32) (o : Int64) (hinj : ∀ i j, i < 33 → j < 33 → h i = h j → i = j) (hG : GI σ) (mi : Int) (hmi : -2147483648 ≤ mi ∧ mi ≤ 2147483647) (ph : Int) (hph : -2147483648 ≤ ph ∧ ph ≤ 2147483647) (hst : l.stackTraces = false) :
    ∀ sz, Met l yL_load (Cond.codeWith yL_load cL_load 5 (some .int) [(0, 10, 13, 21), (0, 10, 17, 13)] :: UW) { frames := 9, cells := 2, slots := 6 * 2, locals := 146 } (zPE zNCx [.ref (h 0), .int (iz mi), .int (iz ph), .ref (h 32)] 33 h D (gTL c cL) sz (gL c cL h (σ, κ, ω, o))) (va_Qi (fun r (u : Int × SS) => r = iz u.1 ∧ (fun (k : Int) (u : SS) => (k = 0 ∧ ∃ z : Int, u.2.2.2 = cvI z ∧ thP ph mi = 0 ∧ z = ldS σ mi ph.toNat 16 ∧ u.1 = σ ∧ u.2.2.1 = ω) ∨ (u = (σ, κ, ω, o) ∧ ((k = 1 ∧ thP ph mi = 1) ∨ (k = 2 ∧ thP ph mi = 2)))) u.1 u.2) (fun u t => zB 33 h D (gL c cL h u.2) t.heap) (zA 33 h sz)) 2 (6 * 2) (zA 33 h sz) := by
  refine zHM_of (by decide) (Nat.le_of_ble_eq_true rfl) ?_
  intro p e s m below meth cd ls ⟨hF, hr, hlocks, hK, hX⟩ htab hN hP hl
  have hz : zD (zA 33 h s.heap.size) 33 h := zD.self hinj s.heap.size
  have hA : ∀ q, s.heap.size ≤ q → zA 33 h s.heap.size q := zA_new
  generalize zA 33 h s.heap.size = A at hz hA hX ⊢
  have hS : va_S A s.heap s.heap [] := va_S.rf
  have hi2 : ∀ i j, i < 32 → j < 32 → h i = h j → i = j := fun i j h1 h2 => hinj i j (by omega) (by omega)
  have hl : lv_has ls 5 [(0, .ref (h 0)), (1, .int (iz mi)), (2, .int (iz ph)), (3, .ref (h 32))] := hl
  refine lv_aload_n hF.1 hF.2.1 dL_load_0 rfl (lv_at hl 3 rfl) ?_
  refine zi_const hF.1 hF.2.1 dL_load_1 ?_
  refine lv_aload_n hF.1 hF.2.1 dL_load_2 rfl (lv_at hl 0 rfl) ?_
  refine lv_iload_n hF.1 hF.2.1 dL_load_3 rfl (lv_at hl 1 rfl) ?_
  refine lv_iload_n hF.1 hF.2.1 dL_load_4 rfl (lv_at hl 2 rfl) ?_
  refine z_hcall (k := 2) (S := (Nat → Nat → Int)) (u := (σ, κ, ω, o)) (w := (fun κ9 => gC c h σ κ9 ω)) (P := (fun z _ => thP ph mi = 0 ∧ z = ldS σ mi ph.toNat 16)) (PX := fun E9 => (E9 = E98 ∧ thP ph mi = 1) ∨ (E9 = E206 ∧ thP ph mi = 2)) (z_xrunV (rm := { frames := 8, cells := 2, slots := 6 * 2, locals := 124 }) hF (zK_gT hK) hX (hz.less (by decide)) hA (zB_32 hP) hS (c_X3_load l h D c σ κ ω hi2 hG mi hmi ph hph hst _) (gIn_V mw_671 mw_672 mw_673 mw_86 mw_406) rfl rfl ⟨rfl, by decide, by decide, rfl⟩ ⟨Nat.le_of_ble_eq_true rfl, Nat.le_of_ble_eq_true rfl⟩ (k := 0) (T := TX3) (N := 14) (by decide) rfl rfl rfl (As := [.int (iz mi), .int (iz ph)]) (rest := [.int (iz 0), .ref (h 32)]) rfl hl.1 rfl (Nat.le_of_ble_eq_true rfl) dL_load_5 ⟨Nat.le_of_ble_eq_true rfl, Nat.le_of_ble_eq_true rfl⟩) hz hA hP hS (fun v => (σ, v, ω, o)) (fun _ => rfl) (fun _ => rfl) (fun E9 ce q9 H locs hpx hP hS hce hcv hcl => ?_) (fun z v H locs hp hP hS => ?_)
  · rcases hpx with ⟨rfl, hpx⟩ | ⟨rfl, hpx⟩
    · refine z_hnd hF hK (pre := []) (suf := [(0, 10, 17, 13)]) htab (fun _ q => absurd q List.not_mem_nil) (by decide) (by decide) mw_631 (NW_mem (by decide +kernel) rfl) hce hcv hcl ?_
      refine lv_astore hF.1 hF.2.1 dL_load_13 hl (by decide) rfl (fun ls _ => ?_)
      refine zi_const hF.1 hF.2.1 dL_load_15 ?_
      exact z_sreti (w := gL c cL h) (u := (σ, κ, ω, o)) (P := (fun (k : Int) (u : SS) => (k = 0 ∧ ∃ z : Int, u.2.2.2 = cvI z ∧ thP ph mi = 0 ∧ z = ldS σ mi ph.toNat 16 ∧ u.1 = σ ∧ u.2.2.1 = ω) ∨ (u = (σ, κ, ω, o) ∧ ((k = 1 ∧ thP ph mi = 1) ∨ (k = 2 ∧ thP ph mi = 2))))) hF hr hlocks hP hS (Nat.le_of_ble_eq_true rfl) (Nat.le_of_ble_eq_true rfl) rfl (Or.inr ⟨rfl, Or.inl ⟨rfl, hpx⟩⟩) dL_load_16
    · refine z_hnd hF hK (pre := [(0, 10, 13, 21)]) (suf := []) htab (List.forall_mem_cons.mpr ⟨⟨by decide, E98, mw_631, hN.1⟩, fun _ q => absurd q List.not_mem_nil⟩) (by decide) (by decide) mw_626 (NW_mem (by decide +kernel) rfl) hce hcv hcl ?_
      refine lv_astore hF.1 hF.2.1 dL_load_17 hl (by decide) rfl (fun ls _ => ?_)
      refine zi_const hF.1 hF.2.1 dL_load_19 ?_
      exact z_sreti (w := gL c cL h) (u := (σ, κ, ω, o)) (P := (fun (k : Int) (u : SS) => (k = 0 ∧ ∃ z : Int, u.2.2.2 = cvI z ∧ thP ph mi = 0 ∧ z = ldS σ mi ph.toNat 16 ∧ u.1 = σ ∧ u.2.2.1 = ω) ∨ (u = (σ, κ, ω, o) ∧ ((k = 1 ∧ thP ph mi = 1) ∨ (k = 2 ∧ thP ph mi = 2))))) hF hr hlocks hP hS (Nat.le_of_ble_eq_true rfl) (Nat.le_of_ble_eq_true rfl) rfl (Or.inr ⟨rfl, Or.inr (⟨rfl, hpx⟩)⟩) dL_load_20
  · exact z_hI (P := (fun (k : Int) (u : SS) => (k = 0 ∧ ∃ z : Int, u.2.2.2 = cvI z ∧ thP ph mi = 0 ∧ z = ldS σ mi ph.toNat 16 ∧ u.1 = σ ∧ u.2.2.1 = ω) ∨ (u = (σ, κ, ω, o) ∧ ((k = 1 ∧ thP ph mi = 1) ∨ (k = 2 ∧ thP ph mi = 2))))) (tgt := 21) hF hr hlocks hK hz hP hS (Nat.le_of_ble_eq_true rfl) (Nat.le_of_ble_eq_true rfl) dL_load_8 dL_load_9 dL_load_10 (by decide) dL_load_21 dL_load_22 (Or.inl ⟨rfl, z, rfl, hp.1, hp.2, rfl, rfl⟩)

set_option maxRecDepth 100000 in
set_option maxHeartbeats 4000000 in
theorem c_L_noise (l : Launch) (h : Nat → Nat) (D : va_G) (c : Nat → ClassId) (cL : ClassId) (σ κ : Nat → Nat → Int) (ω : Nat × (Nat → Int32) × Int32) (o : Int64) (hinj : ∀ i j, i < 33 → j < 33 → h i = h j → i = j) (hG : GI σ) (mi : Int) (hmi : -2147483648 ≤ mi ∧ mi ≤ 2147483647) (hs : Int) (hhs : -2147483648 ≤ hs ∧ hs ≤ 2147483647) (hst : l.stackTraces = false) :
    ∀ sz, Met l yL_noise (Cond.codeWith yL_noise cL_noise 5 (some .int) [(0, 10, 13, 21), (0, 10, 17, 13)] :: UW) { frames := 9, cells := 2, slots := 6 * 2, locals := 146 } (zPE zNCx [.ref (h 0), .int (iz mi), .int (iz hs), .ref (h 32)] 33 h D (gTL c cL) sz (gL c cL h (σ, κ, ω, o))) (va_Qi (fun r (u : Int × SS) => r = iz u.1 ∧ (fun (k : Int) (u : SS) => (k = 0 ∧ ∃ z : Int, u.2.2.2 = cvI z ∧ thP hs mi = 0 ∧ z = nsS σ mi (wd σ mi) hs.toNat 16 ∧ u.1 = σ ∧ u.2.2.1 = ω) ∨ (u = (σ, κ, ω, o) ∧ ((k = 1 ∧ thP hs mi = 1) ∨ (k = 2 ∧ thP hs mi = 2)))) u.1 u.2) (fun u t => zB 33 h D (gL c cL h u.2) t.heap) (zA 33 h sz)) 2 (6 * 2) (zA 33 h sz) := by
  refine zHM_of (by decide) (Nat.le_of_ble_eq_true rfl) ?_
  intro p e s m below meth cd ls ⟨hF, hr, hlocks, hK, hX⟩ htab hN hP hl
  have hz : zD (zA 33 h s.heap.size) 33 h := zD.self hinj s.heap.size
  have hA : ∀ q, s.heap.size ≤ q → zA 33 h s.heap.size q := zA_new
  generalize zA 33 h s.heap.size = A at hz hA hX ⊢
  have hS : va_S A s.heap s.heap [] := va_S.rf
  have hi2 : ∀ i j, i < 32 → j < 32 → h i = h j → i = j := fun i j h1 h2 => hinj i j (by omega) (by omega)
  have hl : lv_has ls 5 [(0, .ref (h 0)), (1, .int (iz mi)), (2, .int (iz hs)), (3, .ref (h 32))] := hl
  refine lv_aload_n hF.1 hF.2.1 dL_noise_0 rfl (lv_at hl 3 rfl) ?_
  refine zi_const hF.1 hF.2.1 dL_noise_1 ?_
  refine lv_aload_n hF.1 hF.2.1 dL_noise_2 rfl (lv_at hl 0 rfl) ?_
  refine lv_iload_n hF.1 hF.2.1 dL_noise_3 rfl (lv_at hl 1 rfl) ?_
  refine lv_iload_n hF.1 hF.2.1 dL_noise_4 rfl (lv_at hl 2 rfl) ?_
  refine z_hcall (k := 2) (S := (Nat → Nat → Int)) (u := (σ, κ, ω, o)) (w := (fun κ9 => gC c h σ κ9 ω)) (P := (fun z _ => thP hs mi = 0 ∧ z = nsS σ mi (wd σ mi) hs.toNat 16)) (PX := fun E9 => (E9 = E98 ∧ thP hs mi = 1) ∨ (E9 = E206 ∧ thP hs mi = 2)) (z_xrunV (rm := { frames := 8, cells := 2, slots := 6 * 2, locals := 124 }) hF (zK_gT hK) hX (hz.less (by decide)) hA (zB_32 hP) hS (c_X3_noise l h D c σ κ ω hi2 hG mi hmi hs hhs hst _) (gIn_V mw_674 mw_675 mw_676 mw_86 mw_407) rfl rfl ⟨rfl, by decide, by decide, rfl⟩ ⟨Nat.le_of_ble_eq_true rfl, Nat.le_of_ble_eq_true rfl⟩ (k := 0) (T := TX3) (N := 14) (by decide) rfl rfl rfl (As := [.int (iz mi), .int (iz hs)]) (rest := [.int (iz 0), .ref (h 32)]) rfl hl.1 rfl (Nat.le_of_ble_eq_true rfl) dL_noise_5 ⟨Nat.le_of_ble_eq_true rfl, Nat.le_of_ble_eq_true rfl⟩) hz hA hP hS (fun v => (σ, v, ω, o)) (fun _ => rfl) (fun _ => rfl) (fun E9 ce q9 H locs hpx hP hS hce hcv hcl => ?_) (fun z v H locs hp hP hS => ?_)
  · rcases hpx with ⟨rfl, hpx⟩ | ⟨rfl, hpx⟩
    · refine z_hnd hF hK (pre := []) (suf := [(0, 10, 17, 13)]) htab (fun _ q => absurd q List.not_mem_nil) (by decide) (by decide) mw_631 (NW_mem (by decide +kernel) rfl) hce hcv hcl ?_
      refine lv_astore hF.1 hF.2.1 dL_noise_13 hl (by decide) rfl (fun ls _ => ?_)
      refine zi_const hF.1 hF.2.1 dL_noise_15 ?_
      exact z_sreti (w := gL c cL h) (u := (σ, κ, ω, o)) (P := (fun (k : Int) (u : SS) => (k = 0 ∧ ∃ z : Int, u.2.2.2 = cvI z ∧ thP hs mi = 0 ∧ z = nsS σ mi (wd σ mi) hs.toNat 16 ∧ u.1 = σ ∧ u.2.2.1 = ω) ∨ (u = (σ, κ, ω, o) ∧ ((k = 1 ∧ thP hs mi = 1) ∨ (k = 2 ∧ thP hs mi = 2))))) hF hr hlocks hP hS (Nat.le_of_ble_eq_true rfl) (Nat.le_of_ble_eq_true rfl) rfl (Or.inr ⟨rfl, Or.inl ⟨rfl, hpx⟩⟩) dL_noise_16
    · refine z_hnd hF hK (pre := [(0, 10, 13, 21)]) (suf := []) htab (List.forall_mem_cons.mpr ⟨⟨by decide, E98, mw_631, hN.1⟩, fun _ q => absurd q List.not_mem_nil⟩) (by decide) (by decide) mw_626 (NW_mem (by decide +kernel) rfl) hce hcv hcl ?_
      refine lv_astore hF.1 hF.2.1 dL_noise_17 hl (by decide) rfl (fun ls _ => ?_)
      refine zi_const hF.1 hF.2.1 dL_noise_19 ?_
      exact z_sreti (w := gL c cL h) (u := (σ, κ, ω, o)) (P := (fun (k : Int) (u : SS) => (k = 0 ∧ ∃ z : Int, u.2.2.2 = cvI z ∧ thP hs mi = 0 ∧ z = nsS σ mi (wd σ mi) hs.toNat 16 ∧ u.1 = σ ∧ u.2.2.1 = ω) ∨ (u = (σ, κ, ω, o) ∧ ((k = 1 ∧ thP hs mi = 1) ∨ (k = 2 ∧ thP hs mi = 2))))) hF hr hlocks hP hS (Nat.le_of_ble_eq_true rfl) (Nat.le_of_ble_eq_true rfl) rfl (Or.inr ⟨rfl, Or.inr (⟨rfl, hpx⟩)⟩) dL_noise_20
  · exact z_hI (P := (fun (k : Int) (u : SS) => (k = 0 ∧ ∃ z : Int, u.2.2.2 = cvI z ∧ thP hs mi = 0 ∧ z = nsS σ mi (wd σ mi) hs.toNat 16 ∧ u.1 = σ ∧ u.2.2.1 = ω) ∨ (u = (σ, κ, ω, o) ∧ ((k = 1 ∧ thP hs mi = 1) ∨ (k = 2 ∧ thP hs mi = 2))))) (tgt := 21) hF hr hlocks hK hz hP hS (Nat.le_of_ble_eq_true rfl) (Nat.le_of_ble_eq_true rfl) dL_noise_8 dL_noise_9 dL_noise_10 (by decide) dL_noise_21 dL_noise_22 (Or.inl ⟨rfl, z, rfl, hp.1, hp.2, rfl, rfl⟩)

set_option maxRecDepth 100000 in
set_option maxHeartbeats 4000000 in
theorem c_L_channels (l : Launch) (h : Nat → Nat) (D : va_G) (c : Nat → ClassId) (cL : ClassId) (σ κ : Nat → Nat → Int) (ω : Nat × (Nat → Int32) × Int32) (o : Int64) (hinj : ∀ i j, i < 33 → j < 33 → h i = h j → i = j) (hG : GI σ) (mi : Int) (hmi : -2147483648 ≤ mi ∧ mi ≤ 2147483647) (hst : l.stackTraces = false) :
    ∀ sz, Met l yL_channels (Cond.codeWith yL_channels cL_channels 4 (some .int) [(0, 9, 12, 13)] :: UW) { frames := 9, cells := 1, slots := 6 * 1, locals := 145 } (zPE zNCx [.ref (h 0), .int (iz mi), .ref (h 32)] 33 h D (gTL c cL) sz (gL c cL h (σ, κ, ω, o))) (va_Qi (fun r (u : Int × SS) => r = iz u.1 ∧ (fun (k : Int) (u : SS) => (k = 0 ∧ ∃ z : Int, u.2.2.2 = cvI z ∧ thK mi = 0 ∧ z = chS σ mi 16 ∧ u.1 = σ ∧ u.2.2.1 = ω) ∨ (u = (σ, κ, ω, o) ∧ ((k = 1 ∧ thK mi = 1)))) u.1 u.2) (fun u t => zB 33 h D (gL c cL h u.2) t.heap) (zA 33 h sz)) 1 (6 * 1) (zA 33 h sz) := by
  refine zHM_of (by decide) (Nat.le_of_ble_eq_true rfl) ?_
  intro p e s m below meth cd ls ⟨hF, hr, hlocks, hK, hX⟩ htab hN hP hl
  have hz : zD (zA 33 h s.heap.size) 33 h := zD.self hinj s.heap.size
  have hA : ∀ q, s.heap.size ≤ q → zA 33 h s.heap.size q := zA_new
  generalize zA 33 h s.heap.size = A at hz hA hX ⊢
  have hS : va_S A s.heap s.heap [] := va_S.rf
  have hi2 : ∀ i j, i < 32 → j < 32 → h i = h j → i = j := fun i j h1 h2 => hinj i j (by omega) (by omega)
  have hl : lv_has ls 4 [(0, .ref (h 0)), (1, .int (iz mi)), (2, .ref (h 32))] := hl
  refine lv_aload_n hF.1 hF.2.1 dL_channels_0 rfl (lv_at hl 2 rfl) ?_
  refine zi_const hF.1 hF.2.1 dL_channels_1 ?_
  refine lv_aload_n hF.1 hF.2.1 dL_channels_2 rfl (lv_at hl 0 rfl) ?_
  refine lv_iload_n hF.1 hF.2.1 dL_channels_3 rfl (lv_at hl 1 rfl) ?_
  refine z_hcall (k := 1) (S := (Nat → Nat → Int)) (u := (σ, κ, ω, o)) (w := (fun κ9 => gC c h σ κ9 ω)) (P := (fun z _ => thK mi = 0 ∧ z = chS σ mi 16)) (PX := fun E9 => (E9 = E206 ∧ thK mi = 1)) (z_xrunV (rm := { frames := 8, cells := 1, slots := 6 * 1, locals := 124 }) hF (zK_gT hK) hX (hz.less (by decide)) hA (zB_32 hP) hS (c_X3_channels l h D c σ κ ω hi2 hG mi hmi hst _) (gIn_V mw_677 mw_678 mw_679 mw_86 mw_408) rfl rfl ⟨rfl, by decide, by decide, rfl⟩ ⟨Nat.le_of_ble_eq_true rfl, Nat.le_of_ble_eq_true rfl⟩ (k := 0) (T := TX3) (N := 14) (by decide) rfl rfl rfl (As := [.int (iz mi)]) (rest := [.int (iz 0), .ref (h 32)]) rfl hl.1 rfl (Nat.le_of_ble_eq_true rfl) dL_channels_4 ⟨Nat.le_of_ble_eq_true rfl, Nat.le_of_ble_eq_true rfl⟩) hz hA hP hS (fun v => (σ, v, ω, o)) (fun _ => rfl) (fun _ => rfl) (fun E9 ce q9 H locs hpx hP hS hce hcv hcl => ?_) (fun z v H locs hp hP hS => ?_)
  · obtain ⟨rfl, hpx⟩ := hpx
    refine z_hnd hF hK (pre := []) (suf := []) htab (fun _ q => absurd q List.not_mem_nil) (by decide) (by decide) mw_626 (NW_mem (by decide +kernel) rfl) hce hcv hcl ?_
    refine lv_astore_n hF.1 hF.2.1 dL_channels_12 rfl hl (by decide) rfl (fun ls _ => ?_)
    refine zi_const hF.1 hF.2.1 dL_channels_13 ?_
    exact z_sreti (w := gL c cL h) (u := (σ, κ, ω, o)) (P := (fun (k : Int) (u : SS) => (k = 0 ∧ ∃ z : Int, u.2.2.2 = cvI z ∧ thK mi = 0 ∧ z = chS σ mi 16 ∧ u.1 = σ ∧ u.2.2.1 = ω) ∨ (u = (σ, κ, ω, o) ∧ ((k = 1 ∧ thK mi = 1))))) hF hr hlocks hP hS (Nat.le_of_ble_eq_true rfl) (Nat.le_of_ble_eq_true rfl) rfl (Or.inr ⟨rfl, ⟨rfl, hpx⟩⟩) dL_channels_14
  · exact z_hI (P := (fun (k : Int) (u : SS) => (k = 0 ∧ ∃ z : Int, u.2.2.2 = cvI z ∧ thK mi = 0 ∧ z = chS σ mi 16 ∧ u.1 = σ ∧ u.2.2.1 = ω) ∨ (u = (σ, κ, ω, o) ∧ ((k = 1 ∧ thK mi = 1))))) (tgt := 15) hF hr hlocks hK hz hP hS (Nat.le_of_ble_eq_true rfl) (Nat.le_of_ble_eq_true rfl) dL_channels_7 dL_channels_8 dL_channels_9 (by decide) dL_channels_15 dL_channels_16 (Or.inl ⟨rfl, z, rfl, hp.1, hp.2, rfl, rfl⟩)
