set_option maxRecDepth 100000 in
set_option maxHeartbeats 4000000 in
theorem c_X4_wrong (l : Launch) (h : Nat → Nat) (D : va_G) (c : Nat → ClassId) (τ κ : Nat → Nat → Int) (hinj : ∀ i j, i < 17 → j < 17 → h i = h j → i = j) (hG : GI τ)  :
    zMi (S := Nat → Nat → Int) l yX4_wrong cX4_wrong 4 (some .int) 3 71 [.ref (h (0))] 17 h D (gT c) (mC c h (τ) (κ)) (fun κ9 => mC c h τ κ9) (fun z κ9 => z = wrg τ ∧ κ9 1 = κ 1) := by
  refine zM_of (by decide) (Nat.le_of_ble_eq_true rfl) ?_
  intro p e s m below meth cd ls ⟨hF, hr, hlocks, hK⟩ hP hl
  have hz : zD (zA 17 h s.heap.size) 17 h := zD.self hinj s.heap.size
  have hA : ∀ q, s.heap.size ≤ q → zA 17 h s.heap.size q := zA_new
  generalize zA 17 h s.heap.size = A at hz hA ⊢
  have hS : va_S A s.heap s.heap [] := va_S.rf
  have hl : lv_has ls 4 [(0, .ref (h (0)))] := hl
  refine lv_aload_n hF.1 hF.2.1 dX4_wrong_0 rfl (lv_at hl 0 rfl) ?_
  refine z_ci (S := Unit) (w := fun _ => mC c h τ κ) (P := fun z _ => z = b2i (placed τ)) (z_runV (rm := { frames := 0, cells := 0, slots := 0, locals := 0 }) hF hK hP (c_X4_isPlaced l h D c τ κ hinj hG  _) (gIn_V mw_471 mw_472 mw_473 mw_447 mw_455) rfl rfl ⟨rfl, by decide, by decide, rfl⟩ ⟨Nat.le_of_ble_eq_true rfl, Nat.le_of_ble_eq_true rfl⟩ (k := 0) (T := TX4) (N := 22) (by omega) rfl (rfl) rfl (As := []) (rest := []) rfl hl.1 rfl (Nat.le_of_ble_eq_true rfl) dX4_wrong_1 ⟨Nat.le_refl _, Nat.le_refl _⟩) hz hA hS (fun z_1 u_2 H locs hp hP hS => ?_)
  obtain rfl : z_1 = b2i (placed τ) := hp
  refine zi_ifb_ne (tgt := 9) hF.1 hF.2.1 (P := placed τ) dX4_wrong_4 (by decide) (fun c_4 => ?_) (fun c_4 => ?_)
  · skip
    refine zi_const hF.1 hF.2.1 dX4_wrong_9 ?_
    refine lv_istore_n (lv' := [(1, .int (iz (5))), (0, .ref (h (0)))]) hF.1 hF.2.1 dX4_wrong_10 rfl hl (by decide) rfl (fun ls hl => ?_)
    refine zi_const hF.1 hF.2.1 dX4_wrong_11 ?_
    refine lv_istore_n (lv' := [(2, .int (iz (0))), (1, .int (iz (5))), (0, .ref (h (0)))]) hF.1 hF.2.1 dX4_wrong_12 rfl hl (by decide) rfl (fun ls hl => ?_)
    have nv_4 : ((0) ≤ 34) ∧ ((κ) 1 = κ 1) := ⟨by omega, rfl⟩
    refine z_loop (V := Nat × (Nat → Nat → Int)) (nL := 4) (wd := fun v_3 => mC c h (τ) (v_3.2)) (lv := fun v_3 => [(0, .ref (h (0))), (1, .int (iz (wF τ v_3.1))), (2, .int (iz ((v_3.1 : Int))))]) (stk := fun v_3 => []) (mu := fun v_3 => 35 - v_3.1) (inv := fun v_3 => (v_3.1 ≤ 34) ∧ (v_3.2 1 = κ 1)) ?_ (0, κ) nv_4 hP hS (lv_sub hl [2, 1, 0] rfl)
    intro ⟨i, κ1⟩ hv ih_13 H locs ls hP hS hl
    have hP : zB 17 h D (mC c h (τ) (κ1)) H := hP
    have hl : lv_has ls 4 [(0, .ref (h (0))), (1, .int (iz (wF τ i))), (2, .int (iz ((i : Int))))] := hl
    obtain ⟨hi_i, hk1⟩ : (i ≤ 34) ∧ (κ1 1 = κ 1) := hv
    have hwf := @wF_rg τ i
    refine lv_iload_n hF.1 hF.2.1 dX4_wrong_13 rfl (lv_at hl 2 rfl) ?_
    refine zi_bipush hF.1 hF.2.1 dX4_wrong_14 (by decide) ?_
    refine zi_icmp_ge (tgt := 123) hF.1 hF.2.1 (a := (i : Int)) (b := 34) dX4_wrong_16 (by decide) (by omega) (by omega) (fun c_16 => ?_) (fun c_16 => ?_)
    · skip
      refine lv_iload_n hF.1 hF.2.1 dX4_wrong_123 rfl (lv_at hl 1 rfl) ?_
      refine zi_const hF.1 hF.2.1 dX4_wrong_124 ?_
      refine zi_rem hF.1 hF.2.1 (a := wF τ i) (b := 5) dX4_wrong_125 (by omega) (by omega) ?_
      exact z_reti (P := fun z κ9 => z = wrg τ ∧ κ9 1 = κ 1) (z := (wF τ i) % 5) (u := κ1) (w := fun κ9 => mC c h τ κ9) hF hr hlocks hP hS (rfl) (⟨by rw [show i = 34 by omega]; exact (ie_t c_4).symm, hk1⟩) dX4_wrong_126
    · skip
      refine z_join (n := 17) (h := h) (D := D) (A := A) (V := Unit) (tgt := 37) (nL := 4) (wd := fun v_5 => mC c h (τ) (κ1)) (lv := fun v_5 => [(0, .ref (h (0))), (1, .int (iz (wF τ i))), (2, .int (iz ((i : Int))))]) (stk := fun v_5 => []) (inv := fun v_5 => (vld τ i)) ?_ (fun jn_37 => ?_)
      · skip
        intro u9 hv H locs ls hP hS hl
        have hP : zB 17 h D (mC c h (τ) (κ1)) H := hP
        have hl : lv_has ls 4 [(0, .ref (h (0))), (1, .int (iz (wF τ i))), (2, .int (iz ((i : Int))))] := hl
        have hvl : vld τ i := hv
        refine z_join (n := 17) (h := h) (D := D) (A := A) (V := Int) (tgt := 59) (nL := 4) (wd := fun v_6 => mC c h (τ) (κ1)) (lv := fun v_6 => [(0, .ref (h (0))), (1, .int (iz (wF τ i))), (2, .int (iz ((i : Int))))]) (stk := fun v_6 => [.int (iz (v_6))]) (inv := fun v_6 => ((v_6 : Int) = mb τ i)) ?_ (fun jn_59 => ?_)
        · skip
          intro v hv H locs ls hP hS hl
          have hP : zB 17 h D (mC c h (τ) (κ1)) H := hP
          have hl : lv_has ls 4 [(0, .ref (h (0))), (1, .int (iz (wF τ i))), (2, .int (iz ((i : Int))))] := hl
          have hvq : (v : Int) = mb τ i := hv
          obtain rfl : v = mb τ i := hvq
          have hmb : 0 ≤ mb τ i ∧ mb τ i ≤ 999 := by unfold mb; have := GI_8 hG (i - 17); split <;> omega
          refine lv_istore_n (lv' := [(3, .int (iz (mb τ i))), (0, .ref (h (0))), (1, .int (iz (wF τ i))), (2, .int (iz ((i : Int))))]) hF.1 hF.2.1 dX4_wrong_59 rfl hl (by decide) rfl (fun ls hl => ?_)
          refine z_join (n := 17) (h := h) (D := D) (A := A) (V := Int × (Nat → Nat → Int)) (tgt := 78) (nL := 4) (wd := fun v_7 => mC c h (τ) (v_7.2)) (lv := fun v_7 => [(0, .ref (h (0))), (2, .int (iz ((i : Int)))), (3, .int (iz (mb τ i)))]) (stk := fun v_7 => [.int (iz (v_7.1))]) (inv := fun v_7 => ((v_7.1 : Int) = s1 τ (mb τ i) (wF τ i)) ∧ (v_7.2 1 = κ 1)) ?_ (fun jn_78 => ?_)
          · skip
            intro ⟨v, κ2⟩ hv H locs ls hP hS hl
            have hP : zB 17 h D (mC c h (τ) (κ2)) H := hP
            have hl : lv_has ls 4 [(0, .ref (h (0))), (2, .int (iz ((i : Int)))), (3, .int (iz (mb τ i)))] := hl
            obtain ⟨hvq, hk2⟩ : ((v : Int) = s1 τ (mb τ i) (wF τ i)) ∧ (κ2 1 = κ 1) := hv
            obtain rfl : v = s1 τ (mb τ i) (wF τ i) := hvq
            have hr1 := @s1_rg τ (mb τ i) (wF τ i) hwf
            refine lv_istore_n (lv' := [(1, .int (iz (s1 τ (mb τ i) (wF τ i)))), (0, .ref (h (0))), (2, .int (iz ((i : Int)))), (3, .int (iz (mb τ i)))]) hF.1 hF.2.1 dX4_wrong_78 rfl hl (by decide) rfl (fun ls hl => ?_)
            refine z_join (n := 17) (h := h) (D := D) (A := A) (V := Int × (Nat → Nat → Int)) (tgt := 97) (nL := 4) (wd := fun v_8 => mC c h (τ) (v_8.2)) (lv := fun v_8 => [(0, .ref (h (0))), (2, .int (iz ((i : Int)))), (3, .int (iz (mb τ i)))]) (stk := fun v_8 => [.int (iz (v_8.1))]) (inv := fun v_8 => ((v_8.1 : Int) = s2 τ (mb τ i) (s1 τ (mb τ i) (wF τ i))) ∧ (v_8.2 1 = κ 1)) ?_ (fun jn_97 => ?_)
            · skip
              intro ⟨v, κ2⟩ hv H locs ls hP hS hl
              have hP : zB 17 h D (mC c h (τ) (κ2)) H := hP
              have hl : lv_has ls 4 [(0, .ref (h (0))), (2, .int (iz ((i : Int)))), (3, .int (iz (mb τ i)))] := hl
              obtain ⟨hvq, hk2⟩ : ((v : Int) = s2 τ (mb τ i) (s1 τ (mb τ i) (wF τ i))) ∧ (κ2 1 = κ 1) := hv
              obtain rfl : v = s2 τ (mb τ i) (s1 τ (mb τ i) (wF τ i)) := hvq
              have hr2 := @s2_rg τ (mb τ i) (s1 τ (mb τ i) (wF τ i)) hr1
              refine lv_istore_n (lv' := [(1, .int (iz (s2 τ (mb τ i) (s1 τ (mb τ i) (wF τ i))))), (0, .ref (h (0))), (2, .int (iz ((i : Int)))), (3, .int (iz (mb τ i)))]) hF.1 hF.2.1 dX4_wrong_97 rfl hl (by decide) rfl (fun ls hl => ?_)
              refine z_join (n := 17) (h := h) (D := D) (A := A) (V := Int × (Nat → Nat → Int)) (tgt := 116) (nL := 4) (wd := fun v_9 => mC c h (τ) (v_9.2)) (lv := fun v_9 => [(0, .ref (h (0))), (2, .int (iz ((i : Int)))), (3, .int (iz (mb τ i)))]) (stk := fun v_9 => [.int (iz (v_9.1))]) (inv := fun v_9 => ((v_9.1 : Int) = s3 τ (mb τ i) (s2 τ (mb τ i) (s1 τ (mb τ i) (wF τ i)))) ∧ (v_9.2 1 = κ 1)) ?_ (fun jn_116 => ?_)
              · skip
                intro ⟨v, κ2⟩ hv H locs ls hP hS hl
                have hP : zB 17 h D (mC c h (τ) (κ2)) H := hP
                have hl : lv_has ls 4 [(0, .ref (h (0))), (2, .int (iz ((i : Int)))), (3, .int (iz (mb τ i)))] := hl
                obtain ⟨hvq, hk2⟩ : ((v : Int) = s3 τ (mb τ i) (s2 τ (mb τ i) (s1 τ (mb τ i) (wF τ i)))) ∧ (κ2 1 = κ 1) := hv
                obtain rfl : v = s3 τ (mb τ i) (s2 τ (mb τ i) (s1 τ (mb τ i) (wF τ i))) := hvq
                refine lv_istore_n (lv' := [(1, .int (iz (s3 τ (mb τ i) (s2 τ (mb τ i) (s1 τ (mb τ i) (wF τ i)))))), (0, .ref (h (0))), (2, .int (iz ((i : Int)))), (3, .int (iz (mb τ i)))]) hF.1 hF.2.1 dX4_wrong_116 rfl hl (by decide) rfl (fun ls hl => ?_)
                refine lv_iinc (v := iz (((i + 1 : Nat) : Int))) (lv' := [(2, .int (iz (((i + 1 : Nat) : Int)))), (1, .int (iz (s3 τ (mb τ i) (s2 τ (mb τ i) (s1 τ (mb τ i) (wF τ i)))))), (0, .ref (h (0))), (3, .int (iz (mb τ i)))]) hF.1 hF.2.1 dX4_wrong_117 hl (k := 2) rfl ((iz_add _ _).trans (congrArg iz (by omega))) (by decide) rfl (fun ls hl => ?_)
                refine lv_goto (tgt := 13) hF.1 hF.2.1 dX4_wrong_120 (by decide) ?_
                have e_10 : s3 τ (mb τ i) (s2 τ (mb τ i) (s1 τ (mb τ i) (wF τ i))) = wF τ (i + 1) := by simp only [wF]; rw [ie_t hvl]
                have hl : lv_has ls 4 [(2, .int (iz (((i + 1 : Nat) : Int)))), (1, .int (iz (wF τ (i + 1)))), (0, .ref (h (0))), (3, .int (iz (mb τ i)))] := by rw [← e_10]; exact hl
                have nv_11 : ((i + 1) ≤ 34) ∧ ((κ2) 1 = κ 1) := ⟨by omega, hk2⟩
                exact ih_13 (i + 1, κ2) nv_11 (by show 35 - (i + 1) < 35 - i; omega) _ _ _ hP hS (lv_sub hl [2, 1, 0] rfl)
              · skip
                refine lv_iload_n hF.1 hF.2.1 dX4_wrong_98 rfl (lv_at hl 0 rfl) ?_
                refine zi_const hF.1 hF.2.1 dX4_wrong_99 ?_
                refine zi_icmp_le (tgt := 115) hF.1 hF.2.1 (a := s2 τ (mb τ i) (s1 τ (mb τ i) (wF τ i))) (b := 4) dX4_wrong_100 (by decide) (by omega) (by omega) (fun c_100 => ?_) (fun c_100 => ?_)
                · skip
                  refine lv_iload_n hF.1 hF.2.1 dX4_wrong_115 rfl (lv_at hl 0 rfl) ?_
                  have nv_12 : (((s2 τ (mb τ i) (s1 τ (mb τ i) (wF τ i))) : Int) = s3 τ (mb τ i) (s2 τ (mb τ i) (s1 τ (mb τ i) (wF τ i)))) ∧ ((κ2) 1 = κ 1) := ⟨by unfold s3; first | exact (ie_t ⟨by omega, c_108⟩).symm | exact (ie_f (fun z => by have := z.1; omega)).symm | exact (ie_f (fun z => z.2 c_108)).symm, hk2⟩
                  exact jn_116 (s2 τ (mb τ i) (s1 τ (mb τ i) (wF τ i)), κ2) nv_12 _ _ _ hP hS (lv_sub hl [1, 2, 3] rfl)
                · skip
                  refine lv_aload_n hF.1 hF.2.1 dX4_wrong_103 rfl (lv_at hl 1 rfl) ?_
                  refine lv_iload_n hF.1 hF.2.1 dX4_wrong_104 rfl (lv_at hl 3 rfl) ?_
                  refine z_ci (S := Unit) (w := fun _ => mC c h τ κ2) (P := fun z _ => z = b2i (quiet τ (mb τ i))) (z_runV (rm := { frames := 2, cells := 0, slots := 0, locals := 48 }) hF hK hP (c_X4_isQuiet l h D c τ κ2 hinj hG (mb τ i) (by omega) _) (gIn_V mw_480 mw_481 mw_482 mw_447 mw_467) rfl rfl ⟨rfl, by decide, by decide, rfl⟩ ⟨Nat.le_of_ble_eq_true rfl, Nat.le_of_ble_eq_true rfl⟩ (k := 0) (T := TX4) (N := 22) (by omega) rfl (rfl) rfl (As := [.int (iz (mb τ i))]) (rest := []) rfl hl.1 rfl (Nat.le_of_ble_eq_true rfl) dX4_wrong_105 ⟨Nat.le_refl _, Nat.le_refl _⟩) hz hA hS (fun z_13 u_14 H locs hp hP hS => ?_)
                  obtain rfl : z_13 = b2i (quiet τ (mb τ i)) := hp
                  refine zi_ifb_ne (tgt := 115) hF.1 hF.2.1 (P := quiet τ (mb τ i)) dX4_wrong_108 (by decide) (fun c_108 => ?_) (fun c_108 => ?_)
                  · skip
                    refine lv_iload_n hF.1 hF.2.1 dX4_wrong_115 rfl (lv_at hl 0 rfl) ?_
                    have nv_15 : (((s2 τ (mb τ i) (s1 τ (mb τ i) (wF τ i))) : Int) = s3 τ (mb τ i) (s2 τ (mb τ i) (s1 τ (mb τ i) (wF τ i)))) ∧ ((κ2) 1 = κ 1) := ⟨by unfold s3; first | exact (ie_t ⟨by omega, c_108⟩).symm | exact (ie_f (fun z => by have := z.1; omega)).symm | exact (ie_f (fun z => z.2 c_108)).symm, hk2⟩
                    exact jn_116 (s2 τ (mb τ i) (s1 τ (mb τ i) (wF τ i)), κ2) nv_15 _ _ _ hP hS (lv_sub hl [1, 2, 3] rfl)
                  · skip
                    refine zi_const hF.1 hF.2.1 dX4_wrong_111 ?_
                    refine lv_goto (tgt := 116) hF.1 hF.2.1 dX4_wrong_112 (by decide) ?_
                    have nv_16 : (((4) : Int) = s3 τ (mb τ i) (s2 τ (mb τ i) (s1 τ (mb τ i) (wF τ i)))) ∧ ((κ2) 1 = κ 1) := ⟨by unfold s3; first | exact (ie_t ⟨by omega, c_108⟩).symm | exact (ie_f (fun z => by have := z.1; omega)).symm | exact (ie_f (fun z => z.2 c_108)).symm, hk2⟩
                    exact jn_116 (4, κ2) nv_16 _ _ _ hP hS (lv_sub hl [1, 2, 3] rfl)
            · skip
              refine lv_iload_n hF.1 hF.2.1 dX4_wrong_79 rfl (lv_at hl 0 rfl) ?_
              refine zi_const hF.1 hF.2.1 dX4_wrong_80 ?_
              refine zi_icmp_le (tgt := 96) hF.1 hF.2.1 (a := s1 τ (mb τ i) (wF τ i)) (b := 3) dX4_wrong_81 (by decide) (by omega) (by omega) (fun c_81 => ?_) (fun c_81 => ?_)
              · skip
                refine lv_iload_n hF.1 hF.2.1 dX4_wrong_96 rfl (lv_at hl 0 rfl) ?_
                have nv_17 : (((s1 τ (mb τ i) (wF τ i)) : Int) = s2 τ (mb τ i) (s1 τ (mb τ i) (wF τ i))) ∧ ((κ2) 1 = κ 1) := ⟨by unfold s2; first | exact (ie_t ⟨by omega, c_89⟩).symm | exact (ie_f (fun z => by have := z.1; omega)).symm | exact (ie_f (fun z => z.2 c_89)).symm, hk2⟩
                exact jn_97 (s1 τ (mb τ i) (wF τ i), κ2) nv_17 _ _ _ hP hS (lv_sub hl [1, 2, 3] rfl)
              · skip
                refine lv_aload_n hF.1 hF.2.1 dX4_wrong_84 rfl (lv_at hl 1 rfl) ?_
                refine lv_iload_n hF.1 hF.2.1 dX4_wrong_85 rfl (lv_at hl 3 rfl) ?_
                refine z_ci (S := Nat → Nat → Int) (w := fun κ9 => mC c h τ κ9) (P := fun z κ9 => z = b2i (clr τ (mb τ i)) ∧ κ9 1 = κ2 1) (z_runV (rm := { frames := 2, cells := 0, slots := 0, locals := 44 }) hF hK hP (c_X4_isClear l h D c τ κ2 hinj hG (mb τ i) (by omega) _) (gIn_V mw_477 mw_478 mw_479 mw_447 mw_463) rfl rfl ⟨rfl, by decide, by decide, rfl⟩ ⟨Nat.le_of_ble_eq_true rfl, Nat.le_of_ble_eq_true rfl⟩ (k := 0) (T := TX4) (N := 22) (by omega) rfl (rfl) rfl (As := [.int (iz (mb τ i))]) (rest := []) rfl hl.1 rfl (Nat.le_of_ble_eq_true rfl) dX4_wrong_86 ⟨Nat.le_refl _, Nat.le_refl _⟩) hz hA hS (fun z_18 u_19 H locs hp hP hS => ?_)
                obtain ⟨rfl, hku_19⟩ : z_18 = b2i (clr τ (mb τ i)) ∧ u_19 1 = κ2 1 := hp
                have hP : zB 17 h D (mC c h (τ) (u_19)) H := hP
                refine zi_ifb_ne (tgt := 96) hF.1 hF.2.1 (P := clr τ (mb τ i)) dX4_wrong_89 (by decide) (fun c_89 => ?_) (fun c_89 => ?_)
                · skip
                  refine lv_iload_n hF.1 hF.2.1 dX4_wrong_96 rfl (lv_at hl 0 rfl) ?_
                  have nv_20 : (((s1 τ (mb τ i) (wF τ i)) : Int) = s2 τ (mb τ i) (s1 τ (mb τ i) (wF τ i))) ∧ ((u_19) 1 = κ 1) := ⟨by unfold s2; first | exact (ie_t ⟨by omega, c_89⟩).symm | exact (ie_f (fun z => by have := z.1; omega)).symm | exact (ie_f (fun z => z.2 c_89)).symm, (by rw [hku_19]; first | exact hk2 | exact hk1)⟩
                  exact jn_97 (s1 τ (mb τ i) (wF τ i), u_19) nv_20 _ _ _ hP hS (lv_sub hl [1, 2, 3] rfl)
                · skip
                  refine zi_const hF.1 hF.2.1 dX4_wrong_92 ?_
                  refine lv_goto (tgt := 97) hF.1 hF.2.1 dX4_wrong_93 (by decide) ?_
                  have nv_21 : (((3) : Int) = s2 τ (mb τ i) (s1 τ (mb τ i) (wF τ i))) ∧ ((u_19) 1 = κ 1) := ⟨by unfold s2; first | exact (ie_t ⟨by omega, c_89⟩).symm | exact (ie_f (fun z => by have := z.1; omega)).symm | exact (ie_f (fun z => z.2 c_89)).symm, (by rw [hku_19]; first | exact hk2 | exact hk1)⟩
                  exact jn_97 (3, u_19) nv_21 _ _ _ hP hS (lv_sub hl [1, 2, 3] rfl)
          · skip
            refine lv_iload_n hF.1 hF.2.1 dX4_wrong_60 rfl (lv_at hl 2 rfl) ?_
            refine zi_const hF.1 hF.2.1 dX4_wrong_61 ?_
            refine zi_icmp_le (tgt := 77) hF.1 hF.2.1 (a := wF τ i) (b := 2) dX4_wrong_62 (by decide) (by omega) (by omega) (fun c_62 => ?_) (fun c_62 => ?_)
            · skip
              refine lv_iload_n hF.1 hF.2.1 dX4_wrong_77 rfl (lv_at hl 2 rfl) ?_
              have nv_22 : (((wF τ i) : Int) = s1 τ (mb τ i) (wF τ i)) ∧ ((κ1) 1 = κ 1) := ⟨by unfold s1; first | exact (ie_t ⟨by omega, c_70⟩).symm | exact (ie_f (fun z => by have := z.1; omega)).symm | exact (ie_f (fun z => z.2 c_70)).symm, hk1⟩
              exact jn_78 (wF τ i, κ1) nv_22 _ _ _ hP hS (lv_sub hl [1, 3, 0] rfl)
            · skip
              refine lv_aload_n hF.1 hF.2.1 dX4_wrong_65 rfl (lv_at hl 1 rfl) ?_
              refine lv_iload_n hF.1 hF.2.1 dX4_wrong_66 rfl (lv_at hl 0 rfl) ?_
              refine z_ci (S := Unit) (w := fun _ => mC c h τ κ1) (P := fun z _ => z = b2i (fed τ (mb τ i))) (z_runV (rm := { frames := 2, cells := 0, slots := 0, locals := 46 }) hF hK hP (c_X4_isFed l h D c τ κ1 hinj hG (mb τ i) (by omega) _) (gIn_V mw_474 mw_475 mw_476 mw_447 mw_457) rfl rfl ⟨rfl, by decide, by decide, rfl⟩ ⟨Nat.le_of_ble_eq_true rfl, Nat.le_of_ble_eq_true rfl⟩ (k := 0) (T := TX4) (N := 22) (by omega) rfl (rfl) rfl (As := [.int (iz (mb τ i))]) (rest := []) rfl hl.1 rfl (Nat.le_of_ble_eq_true rfl) dX4_wrong_67 ⟨Nat.le_refl _, Nat.le_refl _⟩) hz hA hS (fun z_23 u_24 H locs hp hP hS => ?_)
              obtain rfl : z_23 = b2i (fed τ (mb τ i)) := hp
              refine zi_ifb_ne (tgt := 77) hF.1 hF.2.1 (P := fed τ (mb τ i)) dX4_wrong_70 (by decide) (fun c_70 => ?_) (fun c_70 => ?_)
              · skip
                refine lv_iload_n hF.1 hF.2.1 dX4_wrong_77 rfl (lv_at hl 2 rfl) ?_
                have nv_25 : (((wF τ i) : Int) = s1 τ (mb τ i) (wF τ i)) ∧ ((κ1) 1 = κ 1) := ⟨by unfold s1; first | exact (ie_t ⟨by omega, c_70⟩).symm | exact (ie_f (fun z => by have := z.1; omega)).symm | exact (ie_f (fun z => z.2 c_70)).symm, hk1⟩
                exact jn_78 (wF τ i, κ1) nv_25 _ _ _ hP hS (lv_sub hl [1, 3, 0] rfl)
              · skip
                refine zi_const hF.1 hF.2.1 dX4_wrong_73 ?_
                refine lv_goto (tgt := 78) hF.1 hF.2.1 dX4_wrong_74 (by decide) ?_
                have nv_26 : (((2) : Int) = s1 τ (mb τ i) (wF τ i)) ∧ ((κ1) 1 = κ 1) := ⟨by unfold s1; first | exact (ie_t ⟨by omega, c_70⟩).symm | exact (ie_f (fun z => by have := z.1; omega)).symm | exact (ie_f (fun z => z.2 c_70)).symm, hk1⟩
                exact jn_78 (2, κ1) nv_26 _ _ _ hP hS (lv_sub hl [1, 3, 0] rfl)
        · skip
          refine lv_iload_n hF.1 hF.2.1 dX4_wrong_37 rfl (lv_at hl 2 rfl) ?_
          refine zi_bipush hF.1 hF.2.1 dX4_wrong_38 (by decide) ?_
          refine zi_icmp_ge (tgt := 50) hF.1 hF.2.1 (a := (i : Int)) (b := 17) dX4_wrong_40 (by decide) (by omega) (by omega) (fun c_40 => ?_) (fun c_40 => ?_)
          · skip
            refine lv_aload_n hF.1 hF.2.1 dX4_wrong_50 rfl (lv_at hl 0 rfl) ?_
            refine z_get hF hK hP (k := 0) (C := RX4) (T := TX4) (N := 22) (by omega) (rfl) rfl uin_X4 7 (by decide) mw_429 (v := .ref (h (6))) rfl dX4_wrong_51 ?_
            refine lv_iload_n hF.1 hF.2.1 dX4_wrong_54 rfl (lv_at hl 2 rfl) ?_
            refine zi_bipush hF.1 hF.2.1 dX4_wrong_55 (by decide) ?_
            refine zi_sub hF.1 hF.2.1 dX4_wrong_57 ?_
            refine z_iald hF hK hP (k := 6) (by decide) rfl 0 rfl (i := ((i : Int)) - 17) (i - 17) ((by omega)) (by omega) (by decide) (x := iz ((τ) 8 (i - 17))) rfl dX4_wrong_58 ?_
            have q_27 := GI_8 hG (i - 17)
            have nv_28 : (((((τ) 8 (i - 17))) : Int) = mb τ i) := (by unfold mb; first | rw [if_pos (by omega)] | rw [if_neg (by omega)])
            exact jn_59 ((τ) 8 (i - 17)) nv_28 _ _ _ hP hS (lv_sub hl [0, 1, 2] rfl)
          · skip
            refine zi_bipush hF.1 hF.2.1 dX4_wrong_43 (by decide) ?_
            refine lv_iload_n hF.1 hF.2.1 dX4_wrong_45 rfl (lv_at hl 2 rfl) ?_
            refine zi_mul hF.1 hF.2.1 dX4_wrong_46 ?_
            refine lv_goto (tgt := 59) hF.1 hF.2.1 dX4_wrong_47 (by decide) ?_
            have nv_29 : ((((60 * ((i : Int)))) : Int) = mb τ i) := (by unfold mb; first | rw [if_pos (by omega)] | rw [if_neg (by omega)])
            exact jn_59 (60 * ((i : Int))) nv_29 _ _ _ hP hS (lv_sub hl [0, 1, 2] rfl)
      · skip
        refine lv_iload_n hF.1 hF.2.1 dX4_wrong_19 rfl (lv_at hl 2 rfl) ?_
        refine zi_bipush hF.1 hF.2.1 dX4_wrong_20 (by decide) ?_
        refine zi_icmp_lt (tgt := 37) hF.1 hF.2.1 (a := (i : Int)) (b := 17) dX4_wrong_22 (by decide) (by omega) (by omega) (fun c_22 => ?_) (fun c_22 => ?_)
        · skip
          have nv_30 : (vld τ i) := (by first | exact Or.inl (by omega) | exact Or.inr (by omega))
          exact jn_37 () nv_30 _ _ _ hP hS (lv_sub hl [0, 1, 2] rfl)
        · skip
          refine lv_aload_n hF.1 hF.2.1 dX4_wrong_25 rfl (lv_at hl 0 rfl) ?_
          refine z_get hF hK hP (k := 0) (C := RX4) (T := TX4) (N := 22) (by omega) (rfl) rfl uin_X4 13 (by decide) mw_436 (v := .ref (h (12))) rfl dX4_wrong_26 ?_
          refine lv_iload_n hF.1 hF.2.1 dX4_wrong_29 rfl (lv_at hl 2 rfl) ?_
          refine zi_bipush hF.1 hF.2.1 dX4_wrong_30 (by decide) ?_
          refine zi_sub hF.1 hF.2.1 dX4_wrong_32 ?_
          refine z_zald hF hK hP (k := 12) (by decide) rfl 4 rfl (i := ((i : Int)) - 17) (i - 17) ((by omega)) (by omega) (by decide) (x := iz ((τ) 14 (i - 17))) rfl dX4_wrong_33 ?_
          have q_31 := GI_14 hG (i - 17)
          refine zi_if_eq (tgt := 117) hF.1 hF.2.1 (a := (τ) 14 (i - 17)) dX4_wrong_34 (by decide) (by omega) (fun c_34 => ?_) (fun c_34 => ?_)
          · skip
            refine lv_iinc (v := iz (((i + 1 : Nat) : Int))) (lv' := [(2, .int (iz (((i + 1 : Nat) : Int)))), (0, .ref (h (0))), (1, .int (iz (wF τ i)))]) hF.1 hF.2.1 dX4_wrong_117 hl (k := 2) rfl ((iz_add _ _).trans (congrArg iz (by omega))) (by decide) rfl (fun ls hl => ?_)
            refine lv_goto (tgt := 13) hF.1 hF.2.1 dX4_wrong_120 (by decide) ?_
            have e_32 : wF τ i = wF τ (i + 1) := by simp only [wF]; rw [ie_f (by rintro (z | z) <;> omega)]
            have hl : lv_has ls 4 [(2, .int (iz (((i + 1 : Nat) : Int)))), (0, .ref (h (0))), (1, .int (iz (wF τ (i + 1))))] := by rw [← e_32]; exact hl
            have nv_33 : ((i + 1) ≤ 34) ∧ ((κ1) 1 = κ 1) := ⟨by omega, hk1⟩
            exact ih_13 (i + 1, κ1) nv_33 (by show 35 - (i + 1) < 35 - i; omega) _ _ _ hP hS (lv_sub hl [1, 2, 0] rfl)
          · skip
            have nv_34 : (vld τ i) := (by first | exact Or.inl (by omega) | exact Or.inr (by omega))
            exact jn_37 () nv_34 _ _ _ hP hS (lv_sub hl [0, 1, 2] rfl)
  · skip
    refine zi_const hF.1 hF.2.1 dX4_wrong_7 ?_
    exact z_reti (P := fun z κ9 => z = wrg τ ∧ κ9 1 = κ 1) (z := 1) (u := κ) (w := fun κ9 => mC c h τ κ9) hF hr hlocks hP hS (rfl) (⟨(ie_f c_4).symm, rfl⟩) dX4_wrong_8
