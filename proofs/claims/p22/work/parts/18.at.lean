set_option maxRecDepth 100000 in
set_option maxHeartbeats 4000000 in
theorem c_X3_brokenAt (l : Launch) (h : Nat → Nat) (D : va_G) (c : Nat → ClassId) (σ κ : Nat → Nat → Int) (ω : Nat × (Nat → Int32) × Int32) (hinj : ∀ i j, i < 32 → j < 32 → h i = h j → i = j) (hG : GI σ) (mi : Int) (hm : 0 ≤ mi ∧ mi ≤ 999) :
    zMi (S := Nat → Nat → Int) l yX3_brokenAt cX3_brokenAt 7 (some .int) 3 71 [.ref (h (0)), .int (iz (mi))] 32 h D (gT c) (gC c h (σ) (κ) (ω)) (fun κ9 => gC c h σ κ9 ω) (fun z _ => z = pt σ mi) := by
  refine zM_of (by decide) (Nat.le_of_ble_eq_true rfl) ?_
  intro p e s m below meth cd ls ⟨hF, hr, hlocks, hK⟩ hP hl
  have hz : zD (zA 32 h s.heap.size) 32 h := zD.self hinj s.heap.size
  have hA : ∀ q, s.heap.size ≤ q → zA 32 h s.heap.size q := zA_new
  generalize zA 32 h s.heap.size = A at hz hA ⊢
  have hS : va_S A s.heap s.heap [] := va_S.rf
  have hl : lv_has ls 7 [(0, .ref (h (0))), (1, .int (iz (mi)))] := hl
  refine lv_aload_n hF.1 hF.2.1 dX3_brokenAt_0 rfl (lv_at hl 0 rfl) ?_
  refine lv_iload_n hF.1 hF.2.1 dX3_brokenAt_1 rfl (lv_at hl 1 rfl) ?_
  refine z_cv (S := Nat → Nat → Int) (w := fun κ9 => gC c h σ κ9 ω) (P := fun κ9 => LK σ mi 16 κ9) (z_runV (rm := { frames := 2, cells := 0, slots := 0, locals := 45 }) hF hK hP (c_X3_lookAt l h D c σ κ ω hinj hG mi (by omega) _) (gIn_V mw_140 mw_141 mw_142 mw_86 mw_127) rfl rfl ⟨rfl, by decide, by decide, rfl⟩ ⟨Nat.le_of_ble_eq_true rfl, Nat.le_of_ble_eq_true rfl⟩ (k := 0) (T := TX3) (N := 14) (by omega) rfl (rfl) rfl (As := [.int (iz (mi))]) (rest := []) rfl hl.1 rfl (Nat.le_of_ble_eq_true rfl) dX3_brokenAt_2 ⟨Nat.le_refl _, Nat.le_refl _⟩) hz hA hS (fun u_1 H locs hp hP hS => ?_)
  have hLK : LK σ mi 16 u_1 := hp
  have hP : zB 32 h D (gC c h (σ) (u_1) (ω)) H := hP
  have htc : 0 ≤ u_1 2 1 ∧ u_1 2 1 ≤ 1 := by rw [hLK.2.2.2]; exact tcS_rg 16
  refine zi_bipush hF.1 hF.2.1 dX3_brokenAt_5 (by decide) ?_
  refine lv_aload_n hF.1 hF.2.1 dX3_brokenAt_7 rfl (lv_at hl 0 rfl) ?_
  refine lv_iload_n hF.1 hF.2.1 dX3_brokenAt_8 rfl (lv_at hl 1 rfl) ?_
  refine z_ci (S := Unit) (w := fun _ => gC c h σ u_1 ω) (P := fun z _ => z = stN σ mi (σ 0 0).toNat) (z_runV (rm := { frames := 0, cells := 0, slots := 0, locals := 0 }) hF hK hP (c_X3_setsAt l h D c σ u_1 ω hinj hG mi (by omega) _) (gIn_V mw_143 mw_144 mw_145 mw_86 mw_128) rfl rfl ⟨rfl, by decide, by decide, rfl⟩ ⟨Nat.le_of_ble_eq_true rfl, Nat.le_of_ble_eq_true rfl⟩ (k := 0) (T := TX3) (N := 14) (by omega) rfl (rfl) rfl (As := [.int (iz (mi))]) (rest := [.int (iz (100))]) rfl hl.1 rfl (Nat.le_of_ble_eq_true rfl) dX3_brokenAt_9 ⟨Nat.le_refl _, Nat.le_refl _⟩) hz hA hS (fun z_2 u_3 H locs hp hP hS => ?_)
  obtain rfl : z_2 = stN σ mi (σ 0 0).toNat := hp
  have q_4 := @stN_rg σ mi (σ 0 0).toNat
  have q_5 := GI_00 hG
  refine zi_mul hF.1 hF.2.1 dX3_brokenAt_12 ?_
  refine lv_istore_n (lv' := [(2, .int (iz (100 * (stN σ mi (σ 0 0).toNat)))), (0, .ref (h (0))), (1, .int (iz (mi)))]) hF.1 hF.2.1 dX3_brokenAt_13 rfl hl (by decide) rfl (fun ls hl => ?_)
  refine lv_aload_n hF.1 hF.2.1 dX3_brokenAt_14 rfl (lv_at hl 1 rfl) ?_
  refine z_get hF hK hP (k := 0) (C := RX3) (T := TX3) (N := 14) (by omega) (rfl) rfl uin_X3 10 (by decide) mw_67 (v := .ref (h (8))) rfl dX3_brokenAt_15 ?_
  refine lv_astore_n (lv' := [(3, .ref (h (8))), (2, .int (iz (100 * (stN σ mi (σ 0 0).toNat)))), (0, .ref (h (0))), (1, .int (iz (mi)))]) hF.1 hF.2.1 dX3_brokenAt_18 rfl hl (by decide) rfl (fun ls hl => ?_)
  refine lv_aload_n hF.1 hF.2.1 dX3_brokenAt_19 rfl (lv_at hl 0 rfl) ?_
  refine z_alen hF hK hP (k := 8) (by decide) rfl 0 rfl (z := 3) rfl dX3_brokenAt_20 ?_
  refine lv_istore (lv' := [(4, .int (iz (3))), (3, .ref (h (8))), (2, .int (iz (100 * (stN σ mi (σ 0 0).toNat)))), (0, .ref (h (0))), (1, .int (iz (mi)))]) hF.1 hF.2.1 dX3_brokenAt_21 hl (by decide) rfl (fun ls hl => ?_)
  refine zi_const hF.1 hF.2.1 dX3_brokenAt_23 ?_
  refine lv_istore (lv' := [(5, .int (iz (0))), (4, .int (iz (3))), (3, .ref (h (8))), (2, .int (iz (100 * (stN σ mi (σ 0 0).toNat)))), (0, .ref (h (0))), (1, .int (iz (mi)))]) hF.1 hF.2.1 dX3_brokenAt_24 hl (by decide) rfl (fun ls hl => ?_)
  have nv_7 : ((0) ≤ 3) ∧ (∀ p : Nat, p < (0) → ldS σ mi p 16 ≤ 100 * stN σ mi (σ 0 0).toNat) := ⟨by omega, lt_0⟩
  refine z_loop (V := Nat) (nL := 7) (wd := fun v_6 => gC c h (σ) (u_1) (ω)) (lv := fun v_6 => [(0, .ref (h (0))), (1, .int (iz (mi))), (2, .int (iz (100 * stN σ mi (σ 0 0).toNat))), (3, .ref (h (8))), (4, .int (iz (3))), (5, .int (iz ((v_6 : Int))))]) (stk := fun v_6 => []) (mu := fun v_6 => 4 - v_6) (inv := fun v_6 => (v_6 ≤ 3) ∧ (∀ p : Nat, p < v_6 → ldS σ mi p 16 ≤ 100 * stN σ mi (σ 0 0).toNat)) ?_ 0 nv_7 hP hS (lv_sub hl [4, 5, 3, 2, 1, 0] rfl)
  intro i hv ih_26 H locs ls hP hS hl
  have hP : zB 32 h D (gC c h (σ) (u_1) (ω)) H := hP
  have hl : lv_has ls 7 [(0, .ref (h (0))), (1, .int (iz (mi))), (2, .int (iz (100 * stN σ mi (σ 0 0).toNat))), (3, .ref (h (8))), (4, .int (iz (3))), (5, .int (iz ((i : Int))))] := hl
  obtain ⟨hi_i, hv1⟩ : (i ≤ 3) ∧ (∀ p : Nat, p < i → ldS σ mi p 16 ≤ 100 * stN σ mi (σ 0 0).toNat) := hv
  refine lv_iload hF.1 hF.2.1 dX3_brokenAt_26 (lv_at hl 5 rfl) ?_
  refine lv_iload hF.1 hF.2.1 dX3_brokenAt_28 (lv_at hl 4 rfl) ?_
  refine zi_icmp_ge (tgt := 53) hF.1 hF.2.1 (a := (i : Int)) (b := 3) dX3_brokenAt_30 (by decide) (by omega) (by omega) (fun c_30 => ?_) (fun c_30 => ?_)
  · skip
    have hn2 : ¬ bad2 σ mi := by rintro ⟨p, q1, q2⟩; have := hv1 p (by omega); omega
    refine lv_aload_n hF.1 hF.2.1 dX3_brokenAt_53 rfl (lv_at hl 0 rfl) ?_
    refine z_get hF hK hP (k := 0) (C := RX3) (T := TX3) (N := 14) (by omega) (rfl) rfl uin_X3 13 (by decide) mw_118 (v := .int (iz (u_1 2 1))) rfl dX3_brokenAt_54 ?_
    refine zi_if_ne (tgt := 70) hF.1 hF.2.1 (a := u_1 2 1) dX3_brokenAt_57 (by decide) (by omega) (fun c_57 => ?_) (fun c_57 => ?_)
    · skip
      refine zi_const hF.1 hF.2.1 dX3_brokenAt_70 ?_
      exact z_reti (P := fun z _ => z = pt σ mi) (z := 3) (u := u_1) (w := fun κ9 => gC c h σ κ9 ω) hF hr hlocks hP hS (rfl) ((pt_3 hn2 (by first | exact Or.inl (by rw [← hLK.2.2.2]; exact c_57) | exact Or.inr (by rw [← hLK.2.2.1]; exact c_67))).symm) dX3_brokenAt_71
    · skip
      refine lv_aload_n hF.1 hF.2.1 dX3_brokenAt_60 rfl (lv_at hl 0 rfl) ?_
      refine z_get hF hK hP (k := 0) (C := RX3) (T := TX3) (N := 14) (by omega) (rfl) rfl uin_X3 12 (by decide) mw_119 (v := .int (iz (u_1 2 0))) rfl dX3_brokenAt_61 ?_
      refine z_ci (S := Unit) (w := fun _ => gC c h σ u_1 ω) (P := fun r _ => r = b2i (mid (u_1 2 0))) (z_runS (rm := { frames := 2, cells := 0, slots := 0, locals := 43 }) hF hK hP (c_X3_hasMiddleChannel l h D c σ u_1 ω hinj hG (u_1 2 0) _) (gIn_S mw_146 mw_147 mw_86 mw_134) rfl rfl ⟨rfl, by decide, by decide, rfl⟩ ⟨Nat.le_of_ble_eq_true rfl, Nat.le_of_ble_eq_true rfl⟩ (As := [.int (iz (u_1 2 0))]) (rest := []) rfl hl.1 rfl (Nat.le_of_ble_eq_true rfl) dX3_brokenAt_64 ⟨Nat.le_refl _, Nat.le_refl _⟩) hz hA hS (fun z_8 u_9 H locs hp hP hS => ?_)
      obtain rfl : z_8 = b2i (mid (u_1 2 0)) := hp
      refine zi_ifb_eq (tgt := 72) hF.1 hF.2.1 (P := mid (u_1 2 0)) dX3_brokenAt_67 (by decide) (fun c_67 => ?_) (fun c_67 => ?_)
      · skip
        have hn3 : ¬ bad3 σ mi := by rintro (q | q); exact q (by rw [← hLK.2.2.2]; exact c_57); rw [← hLK.2.2.1] at q; exact c_67 q
        refine z_join (n := 32) (h := h) (D := D) (A := A) (V := Int) (tgt := 85) (nL := 7) (wd := fun v_10 => gC c h (σ) (u_1) (ω)) (lv := fun v_10 => [(0, .ref (h (0))), (1, .int (iz (mi))), (2, .int (iz (100 * stN σ mi (σ 0 0).toNat)))]) (stk := fun v_10 => [.int (iz (v_10))]) (inv := fun v_10 => (v_10 = ev mi) ∧ ((0 : Int) ≤ v_10 ∧ v_10 ≤ (10 : Int))) ?_ (fun jn_85 => ?_)
        · skip
          intro v hv H locs ls hP hS hl
          have hP : zB 32 h D (gC c h (σ) (u_1) (ω)) H := hP
          have hl : lv_has ls 7 [(0, .ref (h (0))), (1, .int (iz (mi))), (2, .int (iz (100 * stN σ mi (σ 0 0).toNat)))] := hl
          obtain ⟨hv5, hv6⟩ : (v = ev mi) ∧ ((0 : Int) ≤ v ∧ v ≤ (10 : Int)) := hv
          refine lv_istore_n (lv' := [(3, .int (iz (v))), (0, .ref (h (0))), (1, .int (iz (mi))), (2, .int (iz (100 * stN σ mi (σ 0 0).toNat)))]) hF.1 hF.2.1 dX3_brokenAt_85 rfl hl (by decide) rfl (fun ls hl => ?_)
          refine zi_const hF.1 hF.2.1 dX3_brokenAt_86 ?_
          refine lv_istore (lv' := [(4, .int (iz (0))), (3, .int (iz (v))), (0, .ref (h (0))), (1, .int (iz (mi))), (2, .int (iz (100 * stN σ mi (σ 0 0).toNat)))]) hF.1 hF.2.1 dX3_brokenAt_87 hl (by decide) rfl (fun ls hl => ?_)
          have nv_12 : ((0) ≤ 3) ∧ (∀ p : Nat, p < (0) → nsS σ mi (wd σ mi) p 16 ≤ σ 3 p - ev mi) := ⟨by omega, lt_0⟩
          refine z_loop (V := Nat) (nL := 7) (wd := fun v_11 => gC c h (σ) (u_1) (ω)) (lv := fun v_11 => [(0, .ref (h (0))), (1, .int (iz (mi))), (2, .int (iz (100 * stN σ mi (σ 0 0).toNat))), (3, .int (iz (v))), (4, .int (iz ((v_11 : Int))))]) (stk := fun v_11 => []) (mu := fun v_11 => 4 - v_11) (inv := fun v_11 => (v_11 ≤ 3) ∧ (∀ p : Nat, p < v_11 → nsS σ mi (wd σ mi) p 16 ≤ σ 3 p - ev mi)) ?_ 0 nv_12 hP hS (lv_sub hl [2, 3, 4, 1, 0] rfl)
          intro a hv ih_89 H locs ls hP hS hl
          have hP : zB 32 h D (gC c h (σ) (u_1) (ω)) H := hP
          have hl : lv_has ls 7 [(0, .ref (h (0))), (1, .int (iz (mi))), (2, .int (iz (100 * stN σ mi (σ 0 0).toNat))), (3, .int (iz (v))), (4, .int (iz ((a : Int))))] := hl
          obtain ⟨ha_a, hv2⟩ : (a ≤ 3) ∧ (∀ p : Nat, p < a → nsS σ mi (wd σ mi) p 16 ≤ σ 3 p - ev mi) := hv
          refine lv_iload hF.1 hF.2.1 dX3_brokenAt_89 (lv_at hl 4 rfl) ?_
          refine zi_const hF.1 hF.2.1 dX3_brokenAt_91 ?_
          refine zi_icmp_ge (tgt := 122) hF.1 hF.2.1 (a := (a : Int)) (b := 3) dX3_brokenAt_92 (by decide) (by omega) (by omega) (fun c_92 => ?_) (fun c_92 => ?_)
          · skip
            refine zi_const hF.1 hF.2.1 dX3_brokenAt_122 ?_
            exact z_reti (P := fun z _ => z = pt σ mi) (z := 0) (u := u_1) (w := fun κ9 => gC c h σ κ9 ω) hF hr hlocks hP hS (rfl) ((pt_0 hn2 hn3 (by rintro ⟨p, q1, q2⟩; have := hv2 p (by omega); omega)).symm) dX3_brokenAt_123
          · skip
            refine lv_aload_n hF.1 hF.2.1 dX3_brokenAt_95 rfl (lv_at hl 0 rfl) ?_
            refine z_get hF hK hP (k := 0) (C := RX3) (T := TX3) (N := 14) (by omega) (rfl) rfl uin_X3 11 (by decide) mw_68 (v := .ref (h (9))) rfl dX3_brokenAt_96 ?_
            refine lv_iload hF.1 hF.2.1 dX3_brokenAt_99 (lv_at hl 4 rfl) ?_
            refine z_iald hF hK hP (k := 9) (by decide) rfl 0 rfl (i := (a : Int)) (a) (rfl) (by omega) (by decide) (x := iz (u_1 1 a)) rfl dX3_brokenAt_101 ?_
            have q_13 := hLK.2.1 (a) (by omega)
            have q_14 := nsS_rg hG (mi := mi) (w := wd σ mi) (GI_4 hG (mi / 60).toNat) (hs := a) 16
            refine lv_aload_n hF.1 hF.2.1 dX3_brokenAt_102 rfl (lv_at hl 0 rfl) ?_
            refine z_get hF hK hP (k := 0) (C := RX3) (T := TX3) (N := 14) (by omega) (rfl) rfl uin_X3 3 (by decide) mw_57 (v := .ref (h (3))) rfl dX3_brokenAt_103 ?_
            refine lv_iload hF.1 hF.2.1 dX3_brokenAt_106 (lv_at hl 4 rfl) ?_
            refine z_iald hF hK hP (k := 3) (by decide) rfl 0 rfl (i := (a : Int)) (a) (rfl) (by omega) (by decide) (x := iz (σ 3 a)) rfl dX3_brokenAt_108 ?_
            have q_15 := GI_3 hG (a)
            refine lv_iload_n hF.1 hF.2.1 dX3_brokenAt_109 rfl (lv_at hl 3 rfl) ?_
            refine zi_sub hF.1 hF.2.1 dX3_brokenAt_110 ?_
            refine zi_icmp_le (tgt := 116) hF.1 hF.2.1 (a := u_1 1 a) (b := (σ 3 a) - v) dX3_brokenAt_111 (by decide) (by omega) (by omega) (fun c_111 => ?_) (fun c_111 => ?_)
            · skip
              refine lv_iinc (v := iz (((a + 1 : Nat) : Int))) (lv' := [(4, .int (iz (((a + 1 : Nat) : Int)))), (0, .ref (h (0))), (1, .int (iz (mi))), (2, .int (iz (100 * stN σ mi (σ 0 0).toNat))), (3, .int (iz (v)))]) hF.1 hF.2.1 dX3_brokenAt_116 hl (k := 4) rfl ((iz_add _ _).trans (congrArg iz (by omega))) (by decide) rfl (fun ls hl => ?_)
              refine lv_goto (tgt := 89) hF.1 hF.2.1 dX3_brokenAt_119 (by decide) ?_
              have nv_16 : (((a + 1)) ≤ 3) ∧ (∀ p : Nat, p < ((a + 1)) → nsS σ mi (wd σ mi) p 16 ≤ σ 3 p - ev mi) := ⟨by omega, lt_s hv2 (by omega)⟩
              exact ih_89 (a + 1) nv_16 (by show 4 - ((a + 1)) < 4 - a; omega) _ _ _ hP hS (lv_sub hl [1, 2, 3, 4, 0] rfl)
            · skip
              refine zi_const hF.1 hF.2.1 dX3_brokenAt_114 ?_
              exact z_reti (P := fun z _ => z = pt σ mi) (z := 4) (u := u_1) (w := fun κ9 => gC c h σ κ9 ω) hF hr hlocks hP hS (rfl) ((pt_4 hn2 hn3 ⟨a, by omega, by omega⟩).symm) dX3_brokenAt_115
        · skip
          refine lv_iload_n hF.1 hF.2.1 dX3_brokenAt_72 rfl (lv_at hl 1 rfl) ?_
          refine zi_sipush hF.1 hF.2.1 dX3_brokenAt_73 (by decide) ?_
          refine zi_icmp_lt (tgt := 84) hF.1 hF.2.1 (a := mi) (b := 600) dX3_brokenAt_76 (by decide) (by omega) (by omega) (fun c_76 => ?_) (fun c_76 => ?_)
          · skip
            refine zi_const hF.1 hF.2.1 dX3_brokenAt_84 ?_
            have nv_17 : (((0)) = ev mi) ∧ ((0 : Int) ≤ ((0)) ∧ ((0)) ≤ (10 : Int)) := ⟨(by unfold ev; split <;> omega), (by omega)⟩
            exact jn_85 (0) nv_17 _ _ _ hP hS (lv_sub hl [0, 1, 2] rfl)
          · skip
            refine zi_bipush hF.1 hF.2.1 dX3_brokenAt_79 (by decide) ?_
            refine lv_goto (tgt := 85) hF.1 hF.2.1 dX3_brokenAt_81 (by decide) ?_
            have nv_18 : (((10)) = ev mi) ∧ ((0 : Int) ≤ ((10)) ∧ ((10)) ≤ (10 : Int)) := ⟨(by unfold ev; split <;> omega), (by omega)⟩
            exact jn_85 (10) nv_18 _ _ _ hP hS (lv_sub hl [0, 1, 2] rfl)
      · skip
        refine zi_const hF.1 hF.2.1 dX3_brokenAt_70 ?_
        exact z_reti (P := fun z _ => z = pt σ mi) (z := 3) (u := u_1) (w := fun κ9 => gC c h σ κ9 ω) hF hr hlocks hP hS (rfl) ((pt_3 hn2 (by first | exact Or.inl (by rw [← hLK.2.2.2]; exact c_57) | exact Or.inr (by rw [← hLK.2.2.1]; exact c_67))).symm) dX3_brokenAt_71
  · skip
    refine lv_aload_n hF.1 hF.2.1 dX3_brokenAt_33 rfl (lv_at hl 3 rfl) ?_
    refine lv_iload hF.1 hF.2.1 dX3_brokenAt_34 (lv_at hl 5 rfl) ?_
    refine z_iald hF hK hP (k := 8) (by decide) rfl 0 rfl (i := (i : Int)) (i) (rfl) (by omega) (by decide) (x := iz (u_1 0 i)) rfl dX3_brokenAt_36 ?_
    have q_19 := hLK.1 (i) (by omega)
    have q_20 := ldS_rg hG (mi := mi) (p := i) 16
    refine lv_istore (lv' := [(6, .int (iz (u_1 0 i))), (0, .ref (h (0))), (1, .int (iz (mi))), (2, .int (iz (100 * stN σ mi (σ 0 0).toNat))), (3, .ref (h (8))), (4, .int (iz (3))), (5, .int (iz ((i : Int))))]) hF.1 hF.2.1 dX3_brokenAt_37 hl (by decide) rfl (fun ls hl => ?_)
    refine lv_iload hF.1 hF.2.1 dX3_brokenAt_39 (lv_at hl 0 rfl) ?_
    refine lv_iload_n hF.1 hF.2.1 dX3_brokenAt_41 rfl (lv_at hl 3 rfl) ?_
    refine zi_icmp_le (tgt := 47) hF.1 hF.2.1 (a := u_1 0 i) (b := 100 * stN σ mi (σ 0 0).toNat) dX3_brokenAt_42 (by decide) (by omega) (by omega) (fun c_42 => ?_) (fun c_42 => ?_)
    · skip
      refine lv_iinc (v := iz (((i + 1 : Nat) : Int))) (lv' := [(5, .int (iz (((i + 1 : Nat) : Int)))), (6, .int (iz (u_1 0 i))), (0, .ref (h (0))), (1, .int (iz (mi))), (2, .int (iz (100 * stN σ mi (σ 0 0).toNat))), (3, .ref (h (8))), (4, .int (iz (3)))]) hF.1 hF.2.1 dX3_brokenAt_47 hl (k := 6) rfl ((iz_add _ _).trans (congrArg iz (by omega))) (by decide) rfl (fun ls hl => ?_)
      refine lv_goto (tgt := 26) hF.1 hF.2.1 dX3_brokenAt_50 (by decide) ?_
      have nv_21 : (((i + 1)) ≤ 3) ∧ (∀ p : Nat, p < ((i + 1)) → ldS σ mi p 16 ≤ 100 * stN σ mi (σ 0 0).toNat) := ⟨by omega, lt_s hv1 (by omega)⟩
      exact ih_26 (i + 1) nv_21 (by show 4 - ((i + 1)) < 4 - i; omega) _ _ _ hP hS (lv_sub hl [2, 3, 4, 5, 6, 0] rfl)
    · skip
      refine zi_const hF.1 hF.2.1 dX3_brokenAt_45 ?_
      exact z_reti (P := fun z _ => z = pt σ mi) (z := 2) (u := u_1) (w := fun κ9 => gC c h σ κ9 ω) hF hr hlocks hP hS (rfl) ((pt_2 ⟨i, by omega, by omega⟩).symm) dX3_brokenAt_46
