set_option maxRecDepth 100000 in
set_option maxHeartbeats 4000000 in
theorem c_X3_isStormyAt (l : Launch) (h : Nat → Nat) (D : va_G) (c : Nat → ClassId) (σ κ : Nat → Nat → Int) (ω : Nat × (Nat → Int32) × Int32) (hinj : ∀ i j, i < 32 → j < 32 → h i = h j → i = j) (hG : GI σ) (sg : Int) (hsg : -10 ≤ sg ∧ sg ≤ 10) (mi : Int) (hm : -100 ≤ mi ∧ mi ≤ 5000) :
    zMi (S := Unit) l yX3_isStormyAt cX3_isStormyAt 7 (some .boolean) 0 0 [.ref (h (0)), .int (iz (sg)), .int (iz (mi))] 32 h D (gT c) (gC c h (σ) (κ) (ω)) (fun _ => gC c h σ κ ω) (fun z _ => z = b2i (stormy σ sg mi)) := by
  refine zM_of (by decide) (Nat.le_of_ble_eq_true rfl) ?_
  intro p e s m below meth cd ls ⟨hF, hr, hlocks, hK⟩ hP hl
  have hz : zD (zA 32 h s.heap.size) 32 h := zD.self hinj s.heap.size
  have hA : ∀ q, s.heap.size ≤ q → zA 32 h s.heap.size q := zA_new
  generalize zA 32 h s.heap.size = A at hz hA ⊢
  have hS : va_S A s.heap s.heap [] := va_S.rf
  have hl : lv_has ls 7 [(0, .ref (h (0))), (1, .int (iz (sg))), (2, .int (iz (mi)))] := hl
  refine lv_aload_n hF.1 hF.2.1 dX3_isStormyAt_0 rfl (lv_at hl 0 rfl) ?_
  refine z_get hF hK hP (k := 0) (C := RX3) (T := TX3) (N := 14) (by omega) (rfl) rfl uin_X3 8 (by decide) mw_66 (v := .ref (h (7))) rfl dX3_isStormyAt_1 ?_
  refine lv_astore_n (lv' := [(3, .ref (h (7))), (0, .ref (h (0))), (1, .int (iz (sg))), (2, .int (iz (mi)))]) hF.1 hF.2.1 dX3_isStormyAt_4 rfl hl (by decide) rfl (fun ls hl => ?_)
  refine lv_aload_n hF.1 hF.2.1 dX3_isStormyAt_5 rfl (lv_at hl 0 rfl) ?_
  refine z_alen hF hK hP (k := 7) (by decide) rfl 3 rfl (z := 5) rfl dX3_isStormyAt_6 ?_
  refine lv_istore (lv' := [(4, .int (iz (5))), (3, .ref (h (7))), (0, .ref (h (0))), (1, .int (iz (sg))), (2, .int (iz (mi)))]) hF.1 hF.2.1 dX3_isStormyAt_7 hl (by decide) rfl (fun ls hl => ?_)
  refine zi_const hF.1 hF.2.1 dX3_isStormyAt_9 ?_
  refine lv_istore (lv' := [(5, .int (iz (0))), (4, .int (iz (5))), (3, .ref (h (7))), (0, .ref (h (0))), (1, .int (iz (sg))), (2, .int (iz (mi)))]) hF.1 hF.2.1 dX3_isStormyAt_10 hl (by decide) rfl (fun ls hl => ?_)
  have nv_2 : ((0) ≤ 5) ∧ (∀ sx, sx < (0) → ¬ (σ 16 sx = sg ∧ σ 17 sx ≤ mi ∧ mi < σ 18 sx)) := ⟨by omega, lt_0⟩
  refine z_loop (V := Nat) (nL := 7) (wd := fun v_1 => gC c h (σ) (κ) (ω)) (lv := fun v_1 => [(0, .ref (h (0))), (1, .int (iz (sg))), (2, .int (iz (mi))), (3, .ref (h (7))), (4, .int (iz (5))), (5, .int (iz ((v_1 : Int))))]) (stk := fun v_1 => []) (mu := fun v_1 => 6 - v_1) (inv := fun v_1 => (v_1 ≤ 5) ∧ (∀ sx, sx < v_1 → ¬ (σ 16 sx = sg ∧ σ 17 sx ≤ mi ∧ mi < σ 18 sx))) ?_ 0 nv_2 hP hS (lv_sub hl [3, 4, 5, 2, 1, 0] rfl)
  intro i hv ih_12 H locs ls hP hS hl
  have hP : zB 32 h D (gC c h (σ) (κ) (ω)) H := hP
  have hl : lv_has ls 7 [(0, .ref (h (0))), (1, .int (iz (sg))), (2, .int (iz (mi))), (3, .ref (h (7))), (4, .int (iz (5))), (5, .int (iz ((i : Int))))] := hl
  obtain ⟨hi_i, hv1⟩ : (i ≤ 5) ∧ (∀ sx, sx < i → ¬ (σ 16 sx = sg ∧ σ 17 sx ≤ mi ∧ mi < σ 18 sx)) := hv
  refine lv_iload hF.1 hF.2.1 dX3_isStormyAt_12 (lv_at hl 5 rfl) ?_
  refine lv_iload hF.1 hF.2.1 dX3_isStormyAt_14 (lv_at hl 4 rfl) ?_
  refine zi_icmp_ge (tgt := 60) hF.1 hF.2.1 (a := (i : Int)) (b := 5) dX3_isStormyAt_16 (by decide) (by omega) (by omega) (fun c_16 => ?_) (fun c_16 => ?_)
  · skip
    refine zi_const hF.1 hF.2.1 dX3_isStormyAt_60 ?_
    exact z_reti (P := fun z _ => z = b2i (stormy σ sg mi)) (z := 0) (u := ()) (w := fun _ => gC c h σ κ ω) hF hr hlocks hP hS ((iz_nar_z (by first | omega | exact b2i_rg)).1) ((b2i_f (by rintro ⟨sx, q1, q2⟩; exact hv1 sx (by omega) q2)).symm) dX3_isStormyAt_61
  · skip
    refine lv_aload_n hF.1 hF.2.1 dX3_isStormyAt_19 rfl (lv_at hl 3 rfl) ?_
    refine lv_iload hF.1 hF.2.1 dX3_isStormyAt_20 (lv_at hl 5 rfl) ?_
    refine z_aald hF hK hP (k := 7) (by decide) rfl 3 rfl (i := (i : Int)) (i) (rfl) (by omega) (by decide) (a := h (i + 27)) rfl dX3_isStormyAt_22 ?_
    refine lv_astore (lv' := [(6, .ref (h (i + 27))), (0, .ref (h (0))), (1, .int (iz (sg))), (2, .int (iz (mi))), (3, .ref (h (7))), (4, .int (iz (5))), (5, .int (iz ((i : Int))))]) hF.1 hF.2.1 dX3_isStormyAt_23 hl (by decide) rfl (fun ls hl => ?_)
    refine lv_aload hF.1 hF.2.1 dX3_isStormyAt_25 (lv_at hl 0 rfl) ?_
    refine z_getN hF hK hP (k := i + 27) (C := RX1) (T := TX1) (N := 3) (by omega) (gC_storm) rfl uin_X1 0 (by decide) nw_5 (v := .int (iz (σ 16 i))) rfl dX3_isStormyAt_27 ?_
    have q_3 := GI_16 hG (i)
    refine lv_iload_n hF.1 hF.2.1 dX3_isStormyAt_30 rfl (lv_at hl 2 rfl) ?_
    refine zi_icmp_ne (tgt := 54) hF.1 hF.2.1 (a := σ 16 i) (b := sg) dX3_isStormyAt_31 (by decide) (by omega) (by omega) (fun c_31 => ?_) (fun c_31 => ?_)
    · skip
      refine lv_iinc (v := iz (((i + 1 : Nat) : Int))) (lv' := [(5, .int (iz (((i + 1 : Nat) : Int)))), (6, .ref (h (i + 27))), (0, .ref (h (0))), (1, .int (iz (sg))), (2, .int (iz (mi))), (3, .ref (h (7))), (4, .int (iz (5)))]) hF.1 hF.2.1 dX3_isStormyAt_54 hl (k := 6) rfl ((iz_add _ _).trans (congrArg iz (by omega))) (by decide) rfl (fun ls hl => ?_)
      refine lv_goto (tgt := 12) hF.1 hF.2.1 dX3_isStormyAt_57 (by decide) ?_
      have nv_4 : (((i + 1)) ≤ 5) ∧ (∀ sx, sx < ((i + 1)) → ¬ (σ 16 sx = sg ∧ σ 17 sx ≤ mi ∧ mi < σ 18 sx)) := ⟨by omega, lt_s hv1 (by first | omega | (intros; omega) | (intros; assumption))⟩
      exact ih_12 (i + 1) nv_4 (by show 6 - ((i + 1)) < 6 - i; omega) _ _ _ hP hS (lv_sub hl [2, 3, 4, 5, 6, 0] rfl)
    · skip
      refine lv_iload_n hF.1 hF.2.1 dX3_isStormyAt_34 rfl (lv_at hl 3 rfl) ?_
      refine lv_aload hF.1 hF.2.1 dX3_isStormyAt_35 (lv_at hl 0 rfl) ?_
      refine z_getN hF hK hP (k := i + 27) (C := RX1) (T := TX1) (N := 3) (by omega) (gC_storm) rfl uin_X1 1 (by decide) nw_6 (v := .int (iz (σ 17 i))) rfl dX3_isStormyAt_37 ?_
      have q_5 := GI_17 hG (i)
      refine zi_icmp_lt (tgt := 54) hF.1 hF.2.1 (a := mi) (b := σ 17 i) dX3_isStormyAt_40 (by decide) (by omega) (by omega) (fun c_40 => ?_) (fun c_40 => ?_)
      · skip
        refine lv_iinc (v := iz (((i + 1 : Nat) : Int))) (lv' := [(5, .int (iz (((i + 1 : Nat) : Int)))), (6, .ref (h (i + 27))), (0, .ref (h (0))), (1, .int (iz (sg))), (2, .int (iz (mi))), (3, .ref (h (7))), (4, .int (iz (5)))]) hF.1 hF.2.1 dX3_isStormyAt_54 hl (k := 6) rfl ((iz_add _ _).trans (congrArg iz (by omega))) (by decide) rfl (fun ls hl => ?_)
        refine lv_goto (tgt := 12) hF.1 hF.2.1 dX3_isStormyAt_57 (by decide) ?_
        have nv_6 : (((i + 1)) ≤ 5) ∧ (∀ sx, sx < ((i + 1)) → ¬ (σ 16 sx = sg ∧ σ 17 sx ≤ mi ∧ mi < σ 18 sx)) := ⟨by omega, lt_s hv1 (by first | omega | (intros; omega) | (intros; assumption))⟩
        exact ih_12 (i + 1) nv_6 (by show 6 - ((i + 1)) < 6 - i; omega) _ _ _ hP hS (lv_sub hl [2, 3, 4, 5, 6, 0] rfl)
      · skip
        refine lv_iload_n hF.1 hF.2.1 dX3_isStormyAt_43 rfl (lv_at hl 3 rfl) ?_
        refine lv_aload hF.1 hF.2.1 dX3_isStormyAt_44 (lv_at hl 0 rfl) ?_
        refine z_getN hF hK hP (k := i + 27) (C := RX1) (T := TX1) (N := 3) (by omega) (gC_storm) rfl uin_X1 2 (by decide) nw_7 (v := .int (iz (σ 18 i))) rfl dX3_isStormyAt_46 ?_
        have q_7 := GI_18 hG (i)
        refine zi_icmp_ge (tgt := 54) hF.1 hF.2.1 (a := mi) (b := σ 18 i) dX3_isStormyAt_49 (by decide) (by omega) (by omega) (fun c_49 => ?_) (fun c_49 => ?_)
        · skip
          refine lv_iinc (v := iz (((i + 1 : Nat) : Int))) (lv' := [(5, .int (iz (((i + 1 : Nat) : Int)))), (6, .ref (h (i + 27))), (0, .ref (h (0))), (1, .int (iz (sg))), (2, .int (iz (mi))), (3, .ref (h (7))), (4, .int (iz (5)))]) hF.1 hF.2.1 dX3_isStormyAt_54 hl (k := 6) rfl ((iz_add _ _).trans (congrArg iz (by omega))) (by decide) rfl (fun ls hl => ?_)
          refine lv_goto (tgt := 12) hF.1 hF.2.1 dX3_isStormyAt_57 (by decide) ?_
          have nv_8 : (((i + 1)) ≤ 5) ∧ (∀ sx, sx < ((i + 1)) → ¬ (σ 16 sx = sg ∧ σ 17 sx ≤ mi ∧ mi < σ 18 sx)) := ⟨by omega, lt_s hv1 (by first | omega | (intros; omega) | (intros; assumption))⟩
          exact ih_12 (i + 1) nv_8 (by show 6 - ((i + 1)) < 6 - i; omega) _ _ _ hP hS (lv_sub hl [2, 3, 4, 5, 6, 0] rfl)
        · skip
          refine zi_const hF.1 hF.2.1 dX3_isStormyAt_52 ?_
          exact z_reti (P := fun z _ => z = b2i (stormy σ sg mi)) (z := 1) (u := ()) (w := fun _ => gC c h σ κ ω) hF hr hlocks hP hS ((iz_nar_z (by first | omega | exact b2i_rg)).1) ((b2i_t ⟨i, by omega, by omega, by omega, by omega⟩).symm) dX3_isStormyAt_53

set_option maxRecDepth 100000 in
set_option maxHeartbeats 4000000 in
theorem c_X3_isHeldByAnother (l : Launch) (h : Nat → Nat) (D : va_G) (c : Nat → ClassId) (σ κ : Nat → Nat → Int) (ω : Nat × (Nat → Int32) × Int32) (hinj : ∀ i j, i < 32 → j < 32 → h i = h j → i = j) (hG : GI σ) (k : Nat) (hk : k < 16) (mi : Int) (hm : -100 ≤ mi ∧ mi ≤ 5000) :
    zMi (S := Unit) l yX3_isHeldByAnother cX3_isHeldByAnother 8 (some .boolean) 1 20 [.ref (h (0)), .ref (h (k + 11)), .int (iz (mi))] 32 h D (gT c) (gC c h (σ) (κ) (ω)) (fun _ => gC c h σ κ ω) (fun z _ => z = b2i (held σ k mi)) := by
  refine zM_of (by decide) (Nat.le_of_ble_eq_true rfl) ?_
  intro p e s m below meth cd ls ⟨hF, hr, hlocks, hK⟩ hP hl
  have hz : zD (zA 32 h s.heap.size) 32 h := zD.self hinj s.heap.size
  have hA : ∀ q, s.heap.size ≤ q → zA 32 h s.heap.size q := zA_new
  generalize zA 32 h s.heap.size = A at hz hA ⊢
  have hS : va_S A s.heap s.heap [] := va_S.rf
  have hl : lv_has ls 8 [(0, .ref (h (0))), (1, .ref (h (k + 11))), (2, .int (iz (mi)))] := hl
  refine lv_aload_n hF.1 hF.2.1 dX3_isHeldByAnother_0 rfl (lv_at hl 0 rfl) ?_
  refine z_get hF hK hP (k := 0) (C := RX3) (T := TX3) (N := 14) (by omega) (rfl) rfl uin_X3 2 (by decide) mw_56 (v := .ref (h (2))) rfl dX3_isHeldByAnother_1 ?_
  refine lv_aload_n hF.1 hF.2.1 dX3_isHeldByAnother_4 rfl (lv_at hl 1 rfl) ?_
  refine z_getN hF hK hP (k := k + 11) (C := RX0) (T := TX0) (N := 9) (by omega) (gC_act (by omega)) rfl uin_X0 0 (by decide) nw_8 (v := .int (iz (σ 7 k))) rfl dX3_isHeldByAnother_5 ?_
  have q_1 := GI_7 hG (k)
  refine z_iald hF hK hP (k := 2) (by decide) rfl 0 rfl (i := σ 7 k) ((σ 7 k).toNat) ((Int.toNat_of_nonneg (by omega)).symm) (by omega) (by decide) (x := iz ((σ) 2 ((σ 7 k).toNat))) rfl dX3_isHeldByAnother_8 ?_
  have q_2 := GI_2 hG ((σ 7 k).toNat)
  refine lv_istore_n (lv' := [(3, .int (iz ((σ) 2 ((σ 7 k).toNat)))), (0, .ref (h (0))), (1, .ref (h (k + 11))), (2, .int (iz (mi)))]) hF.1 hF.2.1 dX3_isHeldByAnother_9 rfl hl (by decide) rfl (fun ls hl => ?_)
  refine lv_aload_n hF.1 hF.2.1 dX3_isHeldByAnother_10 rfl (lv_at hl 1 rfl) ?_
  refine z_get hF hK hP (k := 0) (C := RX3) (T := TX3) (N := 14) (by omega) (rfl) rfl uin_X3 5 (by decide) mw_60 (v := .ref (h (5))) rfl dX3_isHeldByAnother_11 ?_
  refine lv_astore (lv' := [(4, .ref (h (5))), (3, .int (iz ((σ) 2 ((σ 7 k).toNat)))), (0, .ref (h (0))), (1, .ref (h (k + 11))), (2, .int (iz (mi)))]) hF.1 hF.2.1 dX3_isHeldByAnother_14 hl (by decide) rfl (fun ls hl => ?_)
  refine lv_aload hF.1 hF.2.1 dX3_isHeldByAnother_16 (lv_at hl 0 rfl) ?_
  refine z_alen hF hK hP (k := 5) (by decide) rfl 2 rfl (z := 16) rfl dX3_isHeldByAnother_18 ?_
  refine lv_istore (lv' := [(5, .int (iz (16))), (4, .ref (h (5))), (3, .int (iz ((σ) 2 ((σ 7 k).toNat)))), (0, .ref (h (0))), (1, .ref (h (k + 11))), (2, .int (iz (mi)))]) hF.1 hF.2.1 dX3_isHeldByAnother_19 hl (by decide) rfl (fun ls hl => ?_)
  refine zi_const hF.1 hF.2.1 dX3_isHeldByAnother_21 ?_
  refine lv_istore (lv' := [(6, .int (iz (0))), (5, .int (iz (16))), (4, .ref (h (5))), (3, .int (iz ((σ) 2 ((σ 7 k).toNat)))), (0, .ref (h (0))), (1, .ref (h (k + 11))), (2, .int (iz (mi)))]) hF.1 hF.2.1 dX3_isHeldByAnother_22 hl (by decide) rfl (fun ls hl => ?_)
  have nv_4 : ((0) ≤ 16) ∧ (∀ j, j < (0) → ¬ (j ≠ k ∧ σ 14 j ≠ 0 ∧ σ 7 j = σ 7 k ∧ σ 8 j ≤ mi ∧ mi < σ 8 j + σ 9 j + σ 2 (σ 7 k).toNat)) := ⟨by omega, lt_0⟩
  refine z_loop (V := Nat) (nL := 8) (wd := fun v_3 => gC c h (σ) (κ) (ω)) (lv := fun v_3 => [(0, .ref (h (0))), (1, .ref (h (k + 11))), (2, .int (iz (mi))), (3, .int (iz (σ 2 (σ 7 k).toNat))), (4, .ref (h (5))), (5, .int (iz (16))), (6, .int (iz ((v_3 : Int))))]) (stk := fun v_3 => []) (mu := fun v_3 => 17 - v_3) (inv := fun v_3 => (v_3 ≤ 16) ∧ (∀ j, j < v_3 → ¬ (j ≠ k ∧ σ 14 j ≠ 0 ∧ σ 7 j = σ 7 k ∧ σ 8 j ≤ mi ∧ mi < σ 8 j + σ 9 j + σ 2 (σ 7 k).toNat))) ?_ 0 nv_4 hP hS (lv_sub hl [4, 5, 6, 3, 2, 1, 0] rfl)
  intro i hv ih_24 H locs ls hP hS hl
  have hP : zB 32 h D (gC c h (σ) (κ) (ω)) H := hP
  have hl : lv_has ls 8 [(0, .ref (h (0))), (1, .ref (h (k + 11))), (2, .int (iz (mi))), (3, .int (iz (σ 2 (σ 7 k).toNat))), (4, .ref (h (5))), (5, .int (iz (16))), (6, .int (iz ((i : Int))))] := hl
  obtain ⟨hi_i, hv1⟩ : (i ≤ 16) ∧ (∀ j, j < i → ¬ (j ≠ k ∧ σ 14 j ≠ 0 ∧ σ 7 j = σ 7 k ∧ σ 8 j ≤ mi ∧ mi < σ 8 j + σ 9 j + σ 2 (σ 7 k).toNat)) := hv
  refine lv_iload hF.1 hF.2.1 dX3_isHeldByAnother_24 (lv_at hl 6 rfl) ?_
  refine lv_iload hF.1 hF.2.1 dX3_isHeldByAnother_26 (lv_at hl 5 rfl) ?_
  refine zi_icmp_ge (tgt := 92) hF.1 hF.2.1 (a := (i : Int)) (b := 16) dX3_isHeldByAnother_28 (by decide) (by omega) (by omega) (fun c_28 => ?_) (fun c_28 => ?_)
  · skip
    refine zi_const hF.1 hF.2.1 dX3_isHeldByAnother_92 ?_
    exact z_reti (P := fun z _ => z = b2i (held σ k mi)) (z := 0) (u := ()) (w := fun _ => gC c h σ κ ω) hF hr hlocks hP hS ((iz_nar_z (by first | omega | exact b2i_rg)).1) ((b2i_f (by rintro ⟨j, q1, q2⟩; exact hv1 j (by omega) q2)).symm) dX3_isHeldByAnother_93
  · skip
    refine lv_aload hF.1 hF.2.1 dX3_isHeldByAnother_31 (lv_at hl 4 rfl) ?_
    refine lv_iload hF.1 hF.2.1 dX3_isHeldByAnother_33 (lv_at hl 6 rfl) ?_
    refine z_aald hF hK hP (k := 5) (by decide) rfl 2 rfl (i := (i : Int)) (i) (rfl) (by omega) (by decide) (a := h (i + 11)) rfl dX3_isHeldByAnother_35 ?_
    refine lv_astore (lv' := [(7, .ref (h (i + 11))), (0, .ref (h (0))), (1, .ref (h (k + 11))), (2, .int (iz (mi))), (3, .int (iz (σ 2 (σ 7 k).toNat))), (4, .ref (h (5))), (5, .int (iz (16))), (6, .int (iz ((i : Int))))]) hF.1 hF.2.1 dX3_isHeldByAnother_36 hl (by decide) rfl (fun ls hl => ?_)
    refine lv_aload hF.1 hF.2.1 dX3_isHeldByAnother_38 (lv_at hl 0 rfl) ?_
    refine lv_aload_n hF.1 hF.2.1 dX3_isHeldByAnother_40 rfl (lv_at hl 2 rfl) ?_
    refine zi_acmp_eq (tgt := 86) hF.1 hF.2.1 hz (i := i + 11) (j := k + 11) dX3_isHeldByAnother_41 (by decide) (by omega) (by omega) (fun c_41 => ?_) (fun c_41 => ?_)
    · skip
      refine lv_iinc (v := iz (((i + 1 : Nat) : Int))) (lv' := [(6, .int (iz (((i + 1 : Nat) : Int)))), (7, .ref (h (i + 11))), (0, .ref (h (0))), (1, .ref (h (k + 11))), (2, .int (iz (mi))), (3, .int (iz (σ 2 (σ 7 k).toNat))), (4, .ref (h (5))), (5, .int (iz (16)))]) hF.1 hF.2.1 dX3_isHeldByAnother_86 hl (k := 7) rfl ((iz_add _ _).trans (congrArg iz (by omega))) (by decide) rfl (fun ls hl => ?_)
      refine lv_goto (tgt := 24) hF.1 hF.2.1 dX3_isHeldByAnother_89 (by decide) ?_
      have nv_5 : (((i + 1)) ≤ 16) ∧ (∀ j, j < ((i + 1)) → ¬ (j ≠ k ∧ σ 14 j ≠ 0 ∧ σ 7 j = σ 7 k ∧ σ 8 j ≤ mi ∧ mi < σ 8 j + σ 9 j + σ 2 (σ 7 k).toNat)) := ⟨by omega, lt_s hv1 (by first | omega | (intros; omega) | (intros; assumption))⟩
      exact ih_24 (i + 1) nv_5 (by show 17 - ((i + 1)) < 17 - i; omega) _ _ _ hP hS (lv_sub hl [2, 3, 4, 5, 6, 7, 0] rfl)
    · skip
      refine lv_aload hF.1 hF.2.1 dX3_isHeldByAnother_44 (lv_at hl 0 rfl) ?_
      refine z_getN hF hK hP (k := i + 11) (C := RX0) (T := TX0) (N := 9) (by omega) (gC_act (by omega)) rfl uin_X0 7 (by decide) nw_0 (v := .int (iz (σ 14 i))) rfl dX3_isHeldByAnother_46 ?_
      have q_6 := GI_14 hG (i)
      refine zi_if_eq (tgt := 86) hF.1 hF.2.1 (a := σ 14 i) dX3_isHeldByAnother_49 (by decide) (by omega) (fun c_49 => ?_) (fun c_49 => ?_)
      · skip
        refine lv_iinc (v := iz (((i + 1 : Nat) : Int))) (lv' := [(6, .int (iz (((i + 1 : Nat) : Int)))), (7, .ref (h (i + 11))), (0, .ref (h (0))), (1, .ref (h (k + 11))), (2, .int (iz (mi))), (3, .int (iz (σ 2 (σ 7 k).toNat))), (4, .ref (h (5))), (5, .int (iz (16)))]) hF.1 hF.2.1 dX3_isHeldByAnother_86 hl (k := 7) rfl ((iz_add _ _).trans (congrArg iz (by omega))) (by decide) rfl (fun ls hl => ?_)
        refine lv_goto (tgt := 24) hF.1 hF.2.1 dX3_isHeldByAnother_89 (by decide) ?_
        have nv_7 : (((i + 1)) ≤ 16) ∧ (∀ j, j < ((i + 1)) → ¬ (j ≠ k ∧ σ 14 j ≠ 0 ∧ σ 7 j = σ 7 k ∧ σ 8 j ≤ mi ∧ mi < σ 8 j + σ 9 j + σ 2 (σ 7 k).toNat)) := ⟨by omega, lt_s hv1 (by first | omega | (intros; omega) | (intros; assumption))⟩
        exact ih_24 (i + 1) nv_7 (by show 17 - ((i + 1)) < 17 - i; omega) _ _ _ hP hS (lv_sub hl [2, 3, 4, 5, 6, 7, 0] rfl)
      · skip
        refine lv_aload hF.1 hF.2.1 dX3_isHeldByAnother_52 (lv_at hl 0 rfl) ?_
        refine z_getN hF hK hP (k := i + 11) (C := RX0) (T := TX0) (N := 9) (by omega) (gC_act (by omega)) rfl uin_X0 0 (by decide) nw_8 (v := .int (iz (σ 7 i))) rfl dX3_isHeldByAnother_54 ?_
        have q_8 := GI_7 hG (i)
        refine lv_aload_n hF.1 hF.2.1 dX3_isHeldByAnother_57 rfl (lv_at hl 2 rfl) ?_
        refine z_getN hF hK hP (k := k + 11) (C := RX0) (T := TX0) (N := 9) (by omega) (gC_act (by omega)) rfl uin_X0 0 (by decide) nw_8 (v := .int (iz (σ 7 k))) rfl dX3_isHeldByAnother_58 ?_
        have q_9 := GI_7 hG (k)
        refine zi_icmp_ne (tgt := 86) hF.1 hF.2.1 (a := σ 7 i) (b := σ 7 k) dX3_isHeldByAnother_61 (by decide) (by omega) (by omega) (fun c_61 => ?_) (fun c_61 => ?_)
        · skip
          refine lv_iinc (v := iz (((i + 1 : Nat) : Int))) (lv' := [(6, .int (iz (((i + 1 : Nat) : Int)))), (7, .ref (h (i + 11))), (0, .ref (h (0))), (1, .ref (h (k + 11))), (2, .int (iz (mi))), (3, .int (iz (σ 2 (σ 7 k).toNat))), (4, .ref (h (5))), (5, .int (iz (16)))]) hF.1 hF.2.1 dX3_isHeldByAnother_86 hl (k := 7) rfl ((iz_add _ _).trans (congrArg iz (by omega))) (by decide) rfl (fun ls hl => ?_)
          refine lv_goto (tgt := 24) hF.1 hF.2.1 dX3_isHeldByAnother_89 (by decide) ?_
          have nv_10 : (((i + 1)) ≤ 16) ∧ (∀ j, j < ((i + 1)) → ¬ (j ≠ k ∧ σ 14 j ≠ 0 ∧ σ 7 j = σ 7 k ∧ σ 8 j ≤ mi ∧ mi < σ 8 j + σ 9 j + σ 2 (σ 7 k).toNat)) := ⟨by omega, lt_s hv1 (by first | omega | (intros; omega) | (intros; assumption))⟩
          exact ih_24 (i + 1) nv_10 (by show 17 - ((i + 1)) < 17 - i; omega) _ _ _ hP hS (lv_sub hl [2, 3, 4, 5, 6, 7, 0] rfl)
        · skip
          refine lv_iload_n hF.1 hF.2.1 dX3_isHeldByAnother_64 rfl (lv_at hl 3 rfl) ?_
          refine lv_aload hF.1 hF.2.1 dX3_isHeldByAnother_65 (lv_at hl 0 rfl) ?_
          refine z_getN hF hK hP (k := i + 11) (C := RX0) (T := TX0) (N := 9) (by omega) (gC_act (by omega)) rfl uin_X0 1 (by decide) nw_1 (v := .int (iz (σ 8 i))) rfl dX3_isHeldByAnother_67 ?_
          have q_11 := GI_8 hG (i)
          refine zi_icmp_lt (tgt := 86) hF.1 hF.2.1 (a := mi) (b := σ 8 i) dX3_isHeldByAnother_70 (by decide) (by omega) (by omega) (fun c_70 => ?_) (fun c_70 => ?_)
          · skip
            refine lv_iinc (v := iz (((i + 1 : Nat) : Int))) (lv' := [(6, .int (iz (((i + 1 : Nat) : Int)))), (7, .ref (h (i + 11))), (0, .ref (h (0))), (1, .ref (h (k + 11))), (2, .int (iz (mi))), (3, .int (iz (σ 2 (σ 7 k).toNat))), (4, .ref (h (5))), (5, .int (iz (16)))]) hF.1 hF.2.1 dX3_isHeldByAnother_86 hl (k := 7) rfl ((iz_add _ _).trans (congrArg iz (by omega))) (by decide) rfl (fun ls hl => ?_)
            refine lv_goto (tgt := 24) hF.1 hF.2.1 dX3_isHeldByAnother_89 (by decide) ?_
            have nv_12 : (((i + 1)) ≤ 16) ∧ (∀ j, j < ((i + 1)) → ¬ (j ≠ k ∧ σ 14 j ≠ 0 ∧ σ 7 j = σ 7 k ∧ σ 8 j ≤ mi ∧ mi < σ 8 j + σ 9 j + σ 2 (σ 7 k).toNat)) := ⟨by omega, lt_s hv1 (by first | omega | (intros; omega) | (intros; assumption))⟩
            exact ih_24 (i + 1) nv_12 (by show 17 - ((i + 1)) < 17 - i; omega) _ _ _ hP hS (lv_sub hl [2, 3, 4, 5, 6, 7, 0] rfl)
          · skip
            refine lv_iload_n hF.1 hF.2.1 dX3_isHeldByAnother_73 rfl (lv_at hl 3 rfl) ?_
            refine lv_aload hF.1 hF.2.1 dX3_isHeldByAnother_74 (lv_at hl 0 rfl) ?_
            refine z_ci (S := Unit) (w := fun _ => gC c h σ κ ω) (P := fun z _ => z = σ 8 i + σ 9 i) (z_runVN (rm := { frames := 0, cells := 0, slots := 0, locals := 0 }) hF hK hP (c_X0_end l h D c σ κ ω hinj hG i (by omega) _) mw_4 nw_21 mw_13 mw_11 mw_12 rfl rfl ⟨by decide, by decide, rfl⟩ ⟨Nat.le_of_ble_eq_true rfl, Nat.le_of_ble_eq_true rfl⟩ (k := i + 11) (T := TX0) (N := 9) (by omega) rfl (gC_act (by omega)) rfl (As := []) (rest := [.int (iz (mi))]) rfl hl.1 rfl (Nat.le_of_ble_eq_true rfl) dX3_isHeldByAnother_76 ⟨Nat.le_refl _, Nat.le_refl _⟩) hz hA hS (fun z_13 u_14 H locs hp hP hS => ?_)
            obtain rfl : z_13 = σ 8 i + σ 9 i := hp
            have q_15 := GI_8 hG i
            have q_16 := GI_9 hG i
            refine lv_iload_n hF.1 hF.2.1 dX3_isHeldByAnother_79 rfl (lv_at hl 4 rfl) ?_
            refine zi_add hF.1 hF.2.1 dX3_isHeldByAnother_80 ?_
            refine zi_icmp_ge (tgt := 86) hF.1 hF.2.1 (a := mi) (b := (σ 8 i + σ 9 i) + (σ 2 (σ 7 k).toNat)) dX3_isHeldByAnother_81 (by decide) (by omega) (by omega) (fun c_81 => ?_) (fun c_81 => ?_)
            · skip
              refine lv_iinc (v := iz (((i + 1 : Nat) : Int))) (lv' := [(6, .int (iz (((i + 1 : Nat) : Int)))), (7, .ref (h (i + 11))), (0, .ref (h (0))), (1, .ref (h (k + 11))), (2, .int (iz (mi))), (3, .int (iz (σ 2 (σ 7 k).toNat))), (4, .ref (h (5))), (5, .int (iz (16)))]) hF.1 hF.2.1 dX3_isHeldByAnother_86 hl (k := 7) rfl ((iz_add _ _).trans (congrArg iz (by omega))) (by decide) rfl (fun ls hl => ?_)
              refine lv_goto (tgt := 24) hF.1 hF.2.1 dX3_isHeldByAnother_89 (by decide) ?_
              have nv_17 : (((i + 1)) ≤ 16) ∧ (∀ j, j < ((i + 1)) → ¬ (j ≠ k ∧ σ 14 j ≠ 0 ∧ σ 7 j = σ 7 k ∧ σ 8 j ≤ mi ∧ mi < σ 8 j + σ 9 j + σ 2 (σ 7 k).toNat)) := ⟨by omega, lt_s hv1 (by first | omega | (intros; omega) | (intros; assumption))⟩
              exact ih_24 (i + 1) nv_17 (by show 17 - ((i + 1)) < 17 - i; omega) _ _ _ hP hS (lv_sub hl [2, 3, 4, 5, 6, 7, 0] rfl)
            · skip
              refine zi_const hF.1 hF.2.1 dX3_isHeldByAnother_84 ?_
              exact z_reti (P := fun z _ => z = b2i (held σ k mi)) (z := 1) (u := ()) (w := fun _ => gC c h σ κ ω) hF hr hlocks hP hS ((iz_nar_z (by first | omega | exact b2i_rg)).1) ((b2i_t ⟨i, by omega, by omega, by omega, by omega, by omega, by omega⟩).symm) dX3_isHeldByAnother_85

set_option maxRecDepth 100000 in
set_option maxHeartbeats 4000000 in
theorem c_X3_fitsOnStage (l : Launch) (h : Nat → Nat) (D : va_G) (c : Nat → ClassId) (σ κ : Nat → Nat → Int) (ω : Nat × (Nat → Int32) × Int32) (hinj : ∀ i j, i < 32 → j < 32 → h i = h j → i = j) (hG : GI σ) (k : Nat) (hk : k < 16) :
    zMi (S := Unit) l yX3_fitsOnStage cX3_fitsOnStage 7 (some .boolean) 2 42 [.ref (h (0)), .ref (h (k + 11))] 32 h D (gT c) (gC c h (σ) (κ) (ω)) (fun _ => gC c h σ κ ω) (fun z _ => z = b2i (fits' σ k)) := by
  refine zM_of (by decide) (Nat.le_of_ble_eq_true rfl) ?_
  intro p e s m below meth cd ls ⟨hF, hr, hlocks, hK⟩ hP hl
  have hz : zD (zA 32 h s.heap.size) 32 h := zD.self hinj s.heap.size
  have hA : ∀ q, s.heap.size ≤ q → zA 32 h s.heap.size q := zA_new
  generalize zA 32 h s.heap.size = A at hz hA ⊢
  have hS : va_S A s.heap s.heap [] := va_S.rf
  have hl : lv_has ls 7 [(0, .ref (h (0))), (1, .ref (h (k + 11)))] := hl
  refine lv_aload_n hF.1 hF.2.1 dX3_fitsOnStage_0 rfl (lv_at hl 1 rfl) ?_
  refine z_ci (S := Unit) (w := fun _ => gC c h σ κ ω) (P := fun z _ => z = σ 8 k + σ 9 k) (z_runVN (rm := { frames := 0, cells := 0, slots := 0, locals := 0 }) hF hK hP (c_X0_end l h D c σ κ ω hinj hG k (by omega) _) mw_4 nw_21 mw_13 mw_11 mw_12 rfl rfl ⟨by decide, by decide, rfl⟩ ⟨Nat.le_of_ble_eq_true rfl, Nat.le_of_ble_eq_true rfl⟩ (k := k + 11) (T := TX0) (N := 9) (by omega) rfl (gC_act (by omega)) rfl (As := []) (rest := []) rfl hl.1 rfl (Nat.le_of_ble_eq_true rfl) dX3_fitsOnStage_1 ⟨Nat.le_refl _, Nat.le_refl _⟩) hz hA hS (fun z_1 u_2 H locs hp hP hS => ?_)
  obtain rfl : z_1 = σ 8 k + σ 9 k := hp
  have q_3 := GI_8 hG k
  have q_4 := GI_9 hG k
  refine zi_sipush hF.1 hF.2.1 dX3_fitsOnStage_4 (by decide) ?_
  refine zi_icmp_le (tgt := 12) hF.1 hF.2.1 (a := σ 8 k + σ 9 k) (b := 1000) dX3_fitsOnStage_7 (by decide) (by omega) (by omega) (fun c_7 => ?_) (fun c_7 => ?_)
  · skip
    refine lv_aload_n hF.1 hF.2.1 dX3_fitsOnStage_12 rfl (lv_at hl 0 rfl) ?_
    refine z_get hF hK hP (k := 0) (C := RX3) (T := TX3) (N := 14) (by omega) (rfl) rfl uin_X3 8 (by decide) mw_66 (v := .ref (h (7))) rfl dX3_fitsOnStage_13 ?_
    refine lv_astore_n (lv' := [(2, .ref (h (7))), (0, .ref (h (0))), (1, .ref (h (k + 11)))]) hF.1 hF.2.1 dX3_fitsOnStage_16 rfl hl (by decide) rfl (fun ls hl => ?_)
    refine lv_aload_n hF.1 hF.2.1 dX3_fitsOnStage_17 rfl (lv_at hl 0 rfl) ?_
    refine z_alen hF hK hP (k := 7) (by decide) rfl 3 rfl (z := 5) rfl dX3_fitsOnStage_18 ?_
    refine lv_istore_n (lv' := [(3, .int (iz (5))), (2, .ref (h (7))), (0, .ref (h (0))), (1, .ref (h (k + 11)))]) hF.1 hF.2.1 dX3_fitsOnStage_19 rfl hl (by decide) rfl (fun ls hl => ?_)
    refine zi_const hF.1 hF.2.1 dX3_fitsOnStage_20 ?_
    refine lv_istore (lv' := [(4, .int (iz (0))), (3, .int (iz (5))), (2, .ref (h (7))), (0, .ref (h (0))), (1, .ref (h (k + 11)))]) hF.1 hF.2.1 dX3_fitsOnStage_21 hl (by decide) rfl (fun ls hl => ?_)
    have nv_6 : ((0) ≤ 5) ∧ (∀ sx, sx < (0) → ¬ hit σ sx k) := ⟨by omega, lt_0⟩
    refine z_loop (V := Nat) (nL := 7) (wd := fun v_5 => gC c h (σ) (κ) (ω)) (lv := fun v_5 => [(0, .ref (h (0))), (1, .ref (h (k + 11))), (2, .ref (h (7))), (3, .int (iz (5))), (4, .int (iz ((v_5 : Int))))]) (stk := fun v_5 => []) (mu := fun v_5 => 6 - v_5) (inv := fun v_5 => (v_5 ≤ 5) ∧ (∀ sx, sx < v_5 → ¬ hit σ sx k)) ?_ 0 nv_6 hP hS (lv_sub hl [3, 4, 2, 1, 0] rfl)
    intro i hv ih_23 H locs ls hP hS hl
    have hP : zB 32 h D (gC c h (σ) (κ) (ω)) H := hP
    have hl : lv_has ls 7 [(0, .ref (h (0))), (1, .ref (h (k + 11))), (2, .ref (h (7))), (3, .int (iz (5))), (4, .int (iz ((i : Int))))] := hl
    obtain ⟨hi_i, hv1⟩ : (i ≤ 5) ∧ (∀ sx, sx < i → ¬ hit σ sx k) := hv
    refine lv_iload hF.1 hF.2.1 dX3_fitsOnStage_23 (lv_at hl 4 rfl) ?_
    refine lv_iload_n hF.1 hF.2.1 dX3_fitsOnStage_25 rfl (lv_at hl 3 rfl) ?_
    refine zi_icmp_ge (tgt := 52) hF.1 hF.2.1 (a := (i : Int)) (b := 5) dX3_fitsOnStage_26 (by decide) (by omega) (by omega) (fun c_26 => ?_) (fun c_26 => ?_)
    · skip
      refine lv_aload_n hF.1 hF.2.1 dX3_fitsOnStage_52 rfl (lv_at hl 0 rfl) ?_
      refine z_get hF hK hP (k := 0) (C := RX3) (T := TX3) (N := 14) (by omega) (rfl) rfl uin_X3 2 (by decide) mw_56 (v := .ref (h (2))) rfl dX3_fitsOnStage_53 ?_
      refine lv_aload_n hF.1 hF.2.1 dX3_fitsOnStage_56 rfl (lv_at hl 1 rfl) ?_
      refine z_getN hF hK hP (k := k + 11) (C := RX0) (T := TX0) (N := 9) (by omega) (gC_act (by omega)) rfl uin_X0 0 (by decide) nw_8 (v := .int (iz (σ 7 k))) rfl dX3_fitsOnStage_57 ?_
      have q_7 := GI_7 hG (k)
      refine z_iald hF hK hP (k := 2) (by decide) rfl 0 rfl (i := σ 7 k) ((σ 7 k).toNat) ((Int.toNat_of_nonneg (by omega)).symm) (by omega) (by decide) (x := iz ((σ) 2 ((σ 7 k).toNat))) rfl dX3_fitsOnStage_60 ?_
      have q_8 := GI_2 hG ((σ 7 k).toNat)
      refine lv_istore_n (lv' := [(2, .int (iz ((σ) 2 ((σ 7 k).toNat)))), (0, .ref (h (0))), (1, .ref (h (k + 11))), (3, .int (iz (5))), (4, .int (iz ((i : Int))))]) hF.1 hF.2.1 dX3_fitsOnStage_61 rfl hl (by decide) rfl (fun ls hl => ?_)
      refine lv_aload_n hF.1 hF.2.1 dX3_fitsOnStage_62 rfl (lv_at hl 1 rfl) ?_
      refine z_get hF hK hP (k := 0) (C := RX3) (T := TX3) (N := 14) (by omega) (rfl) rfl uin_X3 5 (by decide) mw_60 (v := .ref (h (5))) rfl dX3_fitsOnStage_63 ?_
      refine lv_astore_n (lv' := [(3, .ref (h (5))), (2, .int (iz ((σ) 2 ((σ 7 k).toNat)))), (0, .ref (h (0))), (1, .ref (h (k + 11))), (4, .int (iz ((i : Int))))]) hF.1 hF.2.1 dX3_fitsOnStage_66 rfl hl (by decide) rfl (fun ls hl => ?_)
      refine lv_aload_n hF.1 hF.2.1 dX3_fitsOnStage_67 rfl (lv_at hl 0 rfl) ?_
      refine z_alen hF hK hP (k := 5) (by decide) rfl 2 rfl (z := 16) rfl dX3_fitsOnStage_68 ?_
      refine lv_istore (lv' := [(4, .int (iz (16))), (3, .ref (h (5))), (2, .int (iz ((σ) 2 ((σ 7 k).toNat)))), (0, .ref (h (0))), (1, .ref (h (k + 11)))]) hF.1 hF.2.1 dX3_fitsOnStage_69 hl (by decide) rfl (fun ls hl => ?_)
      refine zi_const hF.1 hF.2.1 dX3_fitsOnStage_71 ?_
      refine lv_istore (lv' := [(5, .int (iz (0))), (4, .int (iz (16))), (3, .ref (h (5))), (2, .int (iz ((σ) 2 ((σ 7 k).toNat)))), (0, .ref (h (0))), (1, .ref (h (k + 11)))]) hF.1 hF.2.1 dX3_fitsOnStage_72 hl (by decide) rfl (fun ls hl => ?_)
      have nv_10 : ((0) ≤ 16) ∧ (∀ j, j < (0) → ¬ (j ≠ k ∧ σ 14 j ≠ 0 ∧ σ 7 j = σ 7 k ∧ nr σ k j (σ 2 (σ 7 k).toNat))) := ⟨by omega, lt_0⟩
      refine z_loop (V := Nat) (nL := 7) (wd := fun v_9 => gC c h (σ) (κ) (ω)) (lv := fun v_9 => [(0, .ref (h (0))), (1, .ref (h (k + 11))), (2, .int (iz (σ 2 (σ 7 k).toNat))), (3, .ref (h (5))), (4, .int (iz (16))), (5, .int (iz ((v_9 : Int))))]) (stk := fun v_9 => []) (mu := fun v_9 => 17 - v_9) (inv := fun v_9 => (v_9 ≤ 16) ∧ (∀ j, j < v_9 → ¬ (j ≠ k ∧ σ 14 j ≠ 0 ∧ σ 7 j = σ 7 k ∧ nr σ k j (σ 2 (σ 7 k).toNat)))) ?_ 0 nv_10 hP hS (lv_sub hl [4, 5, 3, 2, 1, 0] rfl)
      intro a hv ih_74 H locs ls hP hS hl
      have hP : zB 32 h D (gC c h (σ) (κ) (ω)) H := hP
      have hl : lv_has ls 7 [(0, .ref (h (0))), (1, .ref (h (k + 11))), (2, .int (iz (σ 2 (σ 7 k).toNat))), (3, .ref (h (5))), (4, .int (iz (16))), (5, .int (iz ((a : Int))))] := hl
      obtain ⟨hi_a, hv2⟩ : (a ≤ 16) ∧ (∀ j, j < a → ¬ (j ≠ k ∧ σ 14 j ≠ 0 ∧ σ 7 j = σ 7 k ∧ nr σ k j (σ 2 (σ 7 k).toNat))) := hv
      refine lv_iload hF.1 hF.2.1 dX3_fitsOnStage_74 (lv_at hl 5 rfl) ?_
      refine lv_iload hF.1 hF.2.1 dX3_fitsOnStage_76 (lv_at hl 4 rfl) ?_
      refine zi_icmp_ge (tgt := 131) hF.1 hF.2.1 (a := (a : Int)) (b := 16) dX3_fitsOnStage_78 (by decide) (by omega) (by omega) (fun c_78 => ?_) (fun c_78 => ?_)
      · skip
        refine zi_const hF.1 hF.2.1 dX3_fitsOnStage_131 ?_
        exact z_reti (P := fun z _ => z = b2i (fits' σ k)) (z := 1) (u := ()) (w := fun _ => gC c h σ κ ω) hF hr hlocks hP hS ((iz_nar_z (by first | omega | exact b2i_rg)).1) ((b2i_t ⟨by omega, fun sx q => hv1 sx (by omega), fun j q => hv2 j (by omega)⟩).symm) dX3_fitsOnStage_132
      · skip
        refine lv_aload_n hF.1 hF.2.1 dX3_fitsOnStage_81 rfl (lv_at hl 3 rfl) ?_
        refine lv_iload hF.1 hF.2.1 dX3_fitsOnStage_82 (lv_at hl 5 rfl) ?_
        refine z_aald hF hK hP (k := 5) (by decide) rfl 2 rfl (i := (a : Int)) (a) (rfl) (by omega) (by decide) (a := h (a + 11)) rfl dX3_fitsOnStage_84 ?_
        refine lv_astore (lv' := [(6, .ref (h (a + 11))), (0, .ref (h (0))), (1, .ref (h (k + 11))), (2, .int (iz (σ 2 (σ 7 k).toNat))), (3, .ref (h (5))), (4, .int (iz (16))), (5, .int (iz ((a : Int))))]) hF.1 hF.2.1 dX3_fitsOnStage_85 hl (by decide) rfl (fun ls hl => ?_)
        refine lv_aload hF.1 hF.2.1 dX3_fitsOnStage_87 (lv_at hl 0 rfl) ?_
        refine lv_aload_n hF.1 hF.2.1 dX3_fitsOnStage_89 rfl (lv_at hl 2 rfl) ?_
        refine zi_acmp_eq (tgt := 125) hF.1 hF.2.1 hz (i := a + 11) (j := k + 11) dX3_fitsOnStage_90 (by decide) (by omega) (by omega) (fun c_90 => ?_) (fun c_90 => ?_)
        · skip
          refine lv_iinc (v := iz (((a + 1 : Nat) : Int))) (lv' := [(5, .int (iz (((a + 1 : Nat) : Int)))), (6, .ref (h (a + 11))), (0, .ref (h (0))), (1, .ref (h (k + 11))), (2, .int (iz (σ 2 (σ 7 k).toNat))), (3, .ref (h (5))), (4, .int (iz (16)))]) hF.1 hF.2.1 dX3_fitsOnStage_125 hl (k := 6) rfl ((iz_add _ _).trans (congrArg iz (by omega))) (by decide) rfl (fun ls hl => ?_)
          refine lv_goto (tgt := 74) hF.1 hF.2.1 dX3_fitsOnStage_128 (by decide) ?_
          have nv_11 : (((a + 1)) ≤ 16) ∧ (∀ j, j < ((a + 1)) → ¬ (j ≠ k ∧ σ 14 j ≠ 0 ∧ σ 7 j = σ 7 k ∧ nr σ k j (σ 2 (σ 7 k).toNat))) := ⟨by omega, lt_s hv2 (by first | omega | (rintro ⟨q1, q2, q3, q4⟩; first | omega | exact c_120 q4))⟩
          exact ih_74 (a + 1) nv_11 (by show 17 - ((a + 1)) < 17 - a; omega) _ _ _ hP hS (lv_sub hl [2, 3, 4, 5, 6, 0] rfl)
        · skip
          refine lv_aload hF.1 hF.2.1 dX3_fitsOnStage_93 (lv_at hl 0 rfl) ?_
          refine z_getN hF hK hP (k := a + 11) (C := RX0) (T := TX0) (N := 9) (by omega) (gC_act (by omega)) rfl uin_X0 7 (by decide) nw_0 (v := .int (iz (σ 14 a))) rfl dX3_fitsOnStage_95 ?_
          have q_12 := GI_14 hG (a)
          refine zi_if_eq (tgt := 125) hF.1 hF.2.1 (a := σ 14 a) dX3_fitsOnStage_98 (by decide) (by omega) (fun c_98 => ?_) (fun c_98 => ?_)
          · skip
            refine lv_iinc (v := iz (((a + 1 : Nat) : Int))) (lv' := [(5, .int (iz (((a + 1 : Nat) : Int)))), (6, .ref (h (a + 11))), (0, .ref (h (0))), (1, .ref (h (k + 11))), (2, .int (iz (σ 2 (σ 7 k).toNat))), (3, .ref (h (5))), (4, .int (iz (16)))]) hF.1 hF.2.1 dX3_fitsOnStage_125 hl (k := 6) rfl ((iz_add _ _).trans (congrArg iz (by omega))) (by decide) rfl (fun ls hl => ?_)
            refine lv_goto (tgt := 74) hF.1 hF.2.1 dX3_fitsOnStage_128 (by decide) ?_
            have nv_13 : (((a + 1)) ≤ 16) ∧ (∀ j, j < ((a + 1)) → ¬ (j ≠ k ∧ σ 14 j ≠ 0 ∧ σ 7 j = σ 7 k ∧ nr σ k j (σ 2 (σ 7 k).toNat))) := ⟨by omega, lt_s hv2 (by first | omega | (rintro ⟨q1, q2, q3, q4⟩; first | omega | exact c_120 q4))⟩
            exact ih_74 (a + 1) nv_13 (by show 17 - ((a + 1)) < 17 - a; omega) _ _ _ hP hS (lv_sub hl [2, 3, 4, 5, 6, 0] rfl)
          · skip
            refine lv_aload hF.1 hF.2.1 dX3_fitsOnStage_101 (lv_at hl 0 rfl) ?_
            refine z_getN hF hK hP (k := a + 11) (C := RX0) (T := TX0) (N := 9) (by omega) (gC_act (by omega)) rfl uin_X0 0 (by decide) nw_8 (v := .int (iz (σ 7 a))) rfl dX3_fitsOnStage_103 ?_
            have q_14 := GI_7 hG (a)
            refine lv_aload_n hF.1 hF.2.1 dX3_fitsOnStage_106 rfl (lv_at hl 2 rfl) ?_
            refine z_getN hF hK hP (k := k + 11) (C := RX0) (T := TX0) (N := 9) (by omega) (gC_act (by omega)) rfl uin_X0 0 (by decide) nw_8 (v := .int (iz (σ 7 k))) rfl dX3_fitsOnStage_107 ?_
            have q_15 := GI_7 hG (k)
            refine zi_icmp_ne (tgt := 125) hF.1 hF.2.1 (a := σ 7 a) (b := σ 7 k) dX3_fitsOnStage_110 (by decide) (by omega) (by omega) (fun c_110 => ?_) (fun c_110 => ?_)
            · skip
              refine lv_iinc (v := iz (((a + 1 : Nat) : Int))) (lv' := [(5, .int (iz (((a + 1 : Nat) : Int)))), (6, .ref (h (a + 11))), (0, .ref (h (0))), (1, .ref (h (k + 11))), (2, .int (iz (σ 2 (σ 7 k).toNat))), (3, .ref (h (5))), (4, .int (iz (16)))]) hF.1 hF.2.1 dX3_fitsOnStage_125 hl (k := 6) rfl ((iz_add _ _).trans (congrArg iz (by omega))) (by decide) rfl (fun ls hl => ?_)
              refine lv_goto (tgt := 74) hF.1 hF.2.1 dX3_fitsOnStage_128 (by decide) ?_
              have nv_16 : (((a + 1)) ≤ 16) ∧ (∀ j, j < ((a + 1)) → ¬ (j ≠ k ∧ σ 14 j ≠ 0 ∧ σ 7 j = σ 7 k ∧ nr σ k j (σ 2 (σ 7 k).toNat))) := ⟨by omega, lt_s hv2 (by first | omega | (rintro ⟨q1, q2, q3, q4⟩; first | omega | exact c_120 q4))⟩
              exact ih_74 (a + 1) nv_16 (by show 17 - ((a + 1)) < 17 - a; omega) _ _ _ hP hS (lv_sub hl [2, 3, 4, 5, 6, 0] rfl)
            · skip
              refine lv_aload_n hF.1 hF.2.1 dX3_fitsOnStage_113 rfl (lv_at hl 2 rfl) ?_
              refine lv_aload hF.1 hF.2.1 dX3_fitsOnStage_114 (lv_at hl 0 rfl) ?_
              refine lv_iload_n hF.1 hF.2.1 dX3_fitsOnStage_116 rfl (lv_at hl 3 rfl) ?_
              refine z_ci (S := Unit) (w := fun _ => gC c h σ κ ω) (P := fun z _ => z = b2i (nr σ k a (σ 2 (σ 7 k).toNat))) (z_runVN (rm := { frames := 1, cells := 0, slots := 0, locals := 20 }) hF hK hP (c_X0_isTooNear l h D c σ κ ω hinj hG k (by omega) a (by omega) (σ 2 (σ 7 k).toNat) (by omega) _) mw_9 nw_23 mw_13 mw_102 mw_103 rfl rfl ⟨by decide, by decide, rfl⟩ ⟨Nat.le_of_ble_eq_true rfl, Nat.le_of_ble_eq_true rfl⟩ (k := k + 11) (T := TX0) (N := 9) (by omega) rfl (gC_act (by omega)) rfl (As := [.ref (h (a + 11)), .int (iz (σ 2 (σ 7 k).toNat))]) (rest := []) rfl hl.1 rfl (Nat.le_of_ble_eq_true rfl) dX3_fitsOnStage_117 ⟨Nat.le_refl _, Nat.le_refl _⟩) hz hA hS (fun z_17 u_18 H locs hp hP hS => ?_)
              obtain rfl : z_17 = b2i (nr σ k a (σ 2 (σ 7 k).toNat)) := hp
              refine zi_ifb_eq (tgt := 125) hF.1 hF.2.1 (P := nr σ k a (σ 2 (σ 7 k).toNat)) dX3_fitsOnStage_120 (by decide) (fun c_120 => ?_) (fun c_120 => ?_)
              · skip
                refine lv_iinc (v := iz (((a + 1 : Nat) : Int))) (lv' := [(5, .int (iz (((a + 1 : Nat) : Int)))), (6, .ref (h (a + 11))), (0, .ref (h (0))), (1, .ref (h (k + 11))), (2, .int (iz (σ 2 (σ 7 k).toNat))), (3, .ref (h (5))), (4, .int (iz (16)))]) hF.1 hF.2.1 dX3_fitsOnStage_125 hl (k := 6) rfl ((iz_add _ _).trans (congrArg iz (by omega))) (by decide) rfl (fun ls hl => ?_)
                refine lv_goto (tgt := 74) hF.1 hF.2.1 dX3_fitsOnStage_128 (by decide) ?_
                have nv_19 : (((a + 1)) ≤ 16) ∧ (∀ j, j < ((a + 1)) → ¬ (j ≠ k ∧ σ 14 j ≠ 0 ∧ σ 7 j = σ 7 k ∧ nr σ k j (σ 2 (σ 7 k).toNat))) := ⟨by omega, lt_s hv2 (by first | omega | (rintro ⟨q1, q2, q3, q4⟩; first | omega | exact c_120 q4))⟩
                exact ih_74 (a + 1) nv_19 (by show 17 - ((a + 1)) < 17 - a; omega) _ _ _ hP hS (lv_sub hl [2, 3, 4, 5, 6, 0] rfl)
              · skip
                refine zi_const hF.1 hF.2.1 dX3_fitsOnStage_123 ?_
                exact z_reti (P := fun z _ => z = b2i (fits' σ k)) (z := 0) (u := ()) (w := fun _ => gC c h σ κ ω) hF hr hlocks hP hS ((iz_nar_z (by first | omega | exact b2i_rg)).1) ((b2i_f (by rintro ⟨q1, q2, q3⟩; exact q3 a (by omega) ⟨by omega, by omega, by omega, c_120⟩)).symm) dX3_fitsOnStage_124
    · skip
      refine lv_aload_n hF.1 hF.2.1 dX3_fitsOnStage_29 rfl (lv_at hl 2 rfl) ?_
      refine lv_iload hF.1 hF.2.1 dX3_fitsOnStage_30 (lv_at hl 4 rfl) ?_
      refine z_aald hF hK hP (k := 7) (by decide) rfl 3 rfl (i := (i : Int)) (i) (rfl) (by omega) (by decide) (a := h (i + 27)) rfl dX3_fitsOnStage_32 ?_
      refine lv_astore (lv' := [(5, .ref (h (i + 27))), (0, .ref (h (0))), (1, .ref (h (k + 11))), (2, .ref (h (7))), (3, .int (iz (5))), (4, .int (iz ((i : Int))))]) hF.1 hF.2.1 dX3_fitsOnStage_33 hl (by decide) rfl (fun ls hl => ?_)
      refine lv_aload hF.1 hF.2.1 dX3_fitsOnStage_35 (lv_at hl 0 rfl) ?_
      refine lv_aload_n hF.1 hF.2.1 dX3_fitsOnStage_37 rfl (lv_at hl 2 rfl) ?_
      refine z_ci (S := Unit) (w := fun _ => gC c h σ κ ω) (P := fun z _ => z = b2i (hit σ i k)) (z_runVN (rm := { frames := 1, cells := 0, slots := 0, locals := 20 }) hF hK hP (c_X1_hits l h D c σ κ ω hinj hG i (by omega) k (by omega) _) mw_31 nw_22 mw_71 mw_100 mw_101 rfl rfl ⟨by decide, by decide, rfl⟩ ⟨Nat.le_of_ble_eq_true rfl, Nat.le_of_ble_eq_true rfl⟩ (k := i + 27) (T := TX1) (N := 3) (by omega) rfl (gC_storm) rfl (As := [.ref (h (k + 11))]) (rest := []) rfl hl.1 rfl (Nat.le_of_ble_eq_true rfl) dX3_fitsOnStage_38 ⟨Nat.le_refl _, Nat.le_refl _⟩) hz hA hS (fun z_20 u_21 H locs hp hP hS => ?_)
      obtain rfl : z_20 = b2i (hit σ i k) := hp
      refine zi_ifb_eq (tgt := 46) hF.1 hF.2.1 (P := hit σ i k) dX3_fitsOnStage_41 (by decide) (fun c_41 => ?_) (fun c_41 => ?_)
      · skip
        refine lv_iinc (v := iz (((i + 1 : Nat) : Int))) (lv' := [(4, .int (iz (((i + 1 : Nat) : Int)))), (5, .ref (h (i + 27))), (0, .ref (h (0))), (1, .ref (h (k + 11))), (2, .ref (h (7))), (3, .int (iz (5)))]) hF.1 hF.2.1 dX3_fitsOnStage_46 hl (k := 5) rfl ((iz_add _ _).trans (congrArg iz (by omega))) (by decide) rfl (fun ls hl => ?_)
        refine lv_goto (tgt := 23) hF.1 hF.2.1 dX3_fitsOnStage_49 (by decide) ?_
        have nv_22 : (((i + 1)) ≤ 5) ∧ (∀ sx, sx < ((i + 1)) → ¬ hit σ sx k) := ⟨by omega, lt_s hv1 (c_41)⟩
        exact ih_23 (i + 1) nv_22 (by show 6 - ((i + 1)) < 6 - i; omega) _ _ _ hP hS (lv_sub hl [2, 3, 4, 5, 0] rfl)
      · skip
        refine zi_const hF.1 hF.2.1 dX3_fitsOnStage_44 ?_
        exact z_reti (P := fun z _ => z = b2i (fits' σ k)) (z := 0) (u := ()) (w := fun _ => gC c h σ κ ω) hF hr hlocks hP hS ((iz_nar_z (by first | omega | exact b2i_rg)).1) ((b2i_f (by rintro ⟨q1, q2, q3⟩; exact q2 i (by omega) c_41)).symm) dX3_fitsOnStage_45
  · skip
    refine zi_const hF.1 hF.2.1 dX3_fitsOnStage_10 ?_
    exact z_reti (P := fun z _ => z = b2i (fits' σ k)) (z := 0) (u := ()) (w := fun _ => gC c h σ κ ω) hF hr hlocks hP hS ((iz_nar_z (by first | omega | exact b2i_rg)).1) ((b2i_f (by rintro ⟨q1, q2⟩; omega)).symm) dX3_fitsOnStage_11

set_option maxRecDepth 100000 in
set_option maxHeartbeats 4000000 in
theorem c_X3_isStageFine (l : Launch) (h : Nat → Nat) (D : va_G) (c : Nat → ClassId) (σ κ : Nat → Nat → Int) (ω : Nat × (Nat → Int32) × Int32) (hinj : ∀ i j, i < 32 → j < 32 → h i = h j → i = j) (hG : GI σ) (sg : Int) (hsg : -10 ≤ sg ∧ sg ≤ 10) :
    zMi (S := Unit) l yX3_isStageFine cX3_isStageFine 6 (some .boolean) 3 68 [.ref (h (0)), .int (iz (sg))] 32 h D (gT c) (gC c h (σ) (κ) (ω)) (fun _ => gC c h σ κ ω) (fun z _ => z = b2i (stFine σ sg)) := by
  refine zM_of (by decide) (Nat.le_of_ble_eq_true rfl) ?_
  intro p e s m below meth cd ls ⟨hF, hr, hlocks, hK⟩ hP hl
  have hz : zD (zA 32 h s.heap.size) 32 h := zD.self hinj s.heap.size
  have hA : ∀ q, s.heap.size ≤ q → zA 32 h s.heap.size q := zA_new
  generalize zA 32 h s.heap.size = A at hz hA ⊢
  have hS : va_S A s.heap s.heap [] := va_S.rf
  have hl : lv_has ls 6 [(0, .ref (h (0))), (1, .int (iz (sg)))] := hl
  refine lv_aload_n hF.1 hF.2.1 dX3_isStageFine_0 rfl (lv_at hl 0 rfl) ?_
  refine z_get hF hK hP (k := 0) (C := RX3) (T := TX3) (N := 14) (by omega) (rfl) rfl uin_X3 5 (by decide) mw_60 (v := .ref (h (5))) rfl dX3_isStageFine_1 ?_
  refine lv_astore_n (lv' := [(2, .ref (h (5))), (0, .ref (h (0))), (1, .int (iz (sg)))]) hF.1 hF.2.1 dX3_isStageFine_4 rfl hl (by decide) rfl (fun ls hl => ?_)
  refine lv_aload_n hF.1 hF.2.1 dX3_isStageFine_5 rfl (lv_at hl 0 rfl) ?_
  refine z_alen hF hK hP (k := 5) (by decide) rfl 2 rfl (z := 16) rfl dX3_isStageFine_6 ?_
  refine lv_istore_n (lv' := [(3, .int (iz (16))), (2, .ref (h (5))), (0, .ref (h (0))), (1, .int (iz (sg)))]) hF.1 hF.2.1 dX3_isStageFine_7 rfl hl (by decide) rfl (fun ls hl => ?_)
  refine zi_const hF.1 hF.2.1 dX3_isStageFine_8 ?_
  refine lv_istore (lv' := [(4, .int (iz (0))), (3, .int (iz (16))), (2, .ref (h (5))), (0, .ref (h (0))), (1, .int (iz (sg)))]) hF.1 hF.2.1 dX3_isStageFine_9 hl (by decide) rfl (fun ls hl => ?_)
  have nv_2 : ((0) ≤ 16) ∧ (∀ k, k < (0) → σ 14 k ≠ 0 → σ 7 k = sg → fits' σ k) := ⟨by omega, lt_0⟩
  refine z_loop (V := Nat) (nL := 6) (wd := fun v_1 => gC c h (σ) (κ) (ω)) (lv := fun v_1 => [(0, .ref (h (0))), (1, .int (iz (sg))), (2, .ref (h (5))), (3, .int (iz (16))), (4, .int (iz ((v_1 : Int))))]) (stk := fun v_1 => []) (mu := fun v_1 => 17 - v_1) (inv := fun v_1 => (v_1 ≤ 16) ∧ (∀ k, k < v_1 → σ 14 k ≠ 0 → σ 7 k = sg → fits' σ k)) ?_ 0 nv_2 hP hS (lv_sub hl [3, 4, 2, 1, 0] rfl)
  intro i hv ih_11 H locs ls hP hS hl
  have hP : zB 32 h D (gC c h (σ) (κ) (ω)) H := hP
  have hl : lv_has ls 6 [(0, .ref (h (0))), (1, .int (iz (sg))), (2, .ref (h (5))), (3, .int (iz (16))), (4, .int (iz ((i : Int))))] := hl
  obtain ⟨hi_i, hv1⟩ : (i ≤ 16) ∧ (∀ k, k < i → σ 14 k ≠ 0 → σ 7 k = sg → fits' σ k) := hv
  refine lv_iload hF.1 hF.2.1 dX3_isStageFine_11 (lv_at hl 4 rfl) ?_
  refine lv_iload_n hF.1 hF.2.1 dX3_isStageFine_13 rfl (lv_at hl 3 rfl) ?_
  refine zi_icmp_ge (tgt := 57) hF.1 hF.2.1 (a := (i : Int)) (b := 16) dX3_isStageFine_14 (by decide) (by omega) (by omega) (fun c_14 => ?_) (fun c_14 => ?_)
  · skip
    refine zi_const hF.1 hF.2.1 dX3_isStageFine_57 ?_
    exact z_reti (P := fun z _ => z = b2i (stFine σ sg)) (z := 1) (u := ()) (w := fun _ => gC c h σ κ ω) hF hr hlocks hP hS ((iz_nar_z (by first | omega | exact b2i_rg)).1) ((b2i_t (fun k q => hv1 k (by omega))).symm) dX3_isStageFine_58
  · skip
    refine lv_aload_n hF.1 hF.2.1 dX3_isStageFine_17 rfl (lv_at hl 2 rfl) ?_
    refine lv_iload hF.1 hF.2.1 dX3_isStageFine_18 (lv_at hl 4 rfl) ?_
    refine z_aald hF hK hP (k := 5) (by decide) rfl 2 rfl (i := (i : Int)) (i) (rfl) (by omega) (by decide) (a := h (i + 11)) rfl dX3_isStageFine_20 ?_
    refine lv_astore (lv' := [(5, .ref (h (i + 11))), (0, .ref (h (0))), (1, .int (iz (sg))), (2, .ref (h (5))), (3, .int (iz (16))), (4, .int (iz ((i : Int))))]) hF.1 hF.2.1 dX3_isStageFine_21 hl (by decide) rfl (fun ls hl => ?_)
    refine lv_aload hF.1 hF.2.1 dX3_isStageFine_23 (lv_at hl 0 rfl) ?_
    refine z_getN hF hK hP (k := i + 11) (C := RX0) (T := TX0) (N := 9) (by omega) (gC_act (by omega)) rfl uin_X0 7 (by decide) nw_0 (v := .int (iz (σ 14 i))) rfl dX3_isStageFine_25 ?_
    have q_3 := GI_14 hG (i)
    refine zi_if_eq (tgt := 51) hF.1 hF.2.1 (a := σ 14 i) dX3_isStageFine_28 (by decide) (by omega) (fun c_28 => ?_) (fun c_28 => ?_)
    · skip
      refine lv_iinc (v := iz (((i + 1 : Nat) : Int))) (lv' := [(4, .int (iz (((i + 1 : Nat) : Int)))), (5, .ref (h (i + 11))), (0, .ref (h (0))), (1, .int (iz (sg))), (2, .ref (h (5))), (3, .int (iz (16)))]) hF.1 hF.2.1 dX3_isStageFine_51 hl (k := 5) rfl ((iz_add _ _).trans (congrArg iz (by omega))) (by decide) rfl (fun ls hl => ?_)
      refine lv_goto (tgt := 11) hF.1 hF.2.1 dX3_isStageFine_54 (by decide) ?_
      have nv_4 : (((i + 1)) ≤ 16) ∧ (∀ k, k < ((i + 1)) → σ 14 k ≠ 0 → σ 7 k = sg → fits' σ k) := ⟨by omega, lt_s hv1 (by first | (intros; assumption) | (intros; omega))⟩
      exact ih_11 (i + 1) nv_4 (by show 17 - ((i + 1)) < 17 - i; omega) _ _ _ hP hS (lv_sub hl [2, 3, 4, 5, 0] rfl)
    · skip
      refine lv_aload hF.1 hF.2.1 dX3_isStageFine_31 (lv_at hl 0 rfl) ?_
      refine z_getN hF hK hP (k := i + 11) (C := RX0) (T := TX0) (N := 9) (by omega) (gC_act (by omega)) rfl uin_X0 0 (by decide) nw_8 (v := .int (iz (σ 7 i))) rfl dX3_isStageFine_33 ?_
      have q_5 := GI_7 hG (i)
      refine lv_iload_n hF.1 hF.2.1 dX3_isStageFine_36 rfl (lv_at hl 2 rfl) ?_
      refine zi_icmp_ne (tgt := 51) hF.1 hF.2.1 (a := σ 7 i) (b := sg) dX3_isStageFine_37 (by decide) (by omega) (by omega) (fun c_37 => ?_) (fun c_37 => ?_)
      · skip
        refine lv_iinc (v := iz (((i + 1 : Nat) : Int))) (lv' := [(4, .int (iz (((i + 1 : Nat) : Int)))), (5, .ref (h (i + 11))), (0, .ref (h (0))), (1, .int (iz (sg))), (2, .ref (h (5))), (3, .int (iz (16)))]) hF.1 hF.2.1 dX3_isStageFine_51 hl (k := 5) rfl ((iz_add _ _).trans (congrArg iz (by omega))) (by decide) rfl (fun ls hl => ?_)
        refine lv_goto (tgt := 11) hF.1 hF.2.1 dX3_isStageFine_54 (by decide) ?_
        have nv_6 : (((i + 1)) ≤ 16) ∧ (∀ k, k < ((i + 1)) → σ 14 k ≠ 0 → σ 7 k = sg → fits' σ k) := ⟨by omega, lt_s hv1 (by first | (intros; assumption) | (intros; omega))⟩
        exact ih_11 (i + 1) nv_6 (by show 17 - ((i + 1)) < 17 - i; omega) _ _ _ hP hS (lv_sub hl [2, 3, 4, 5, 0] rfl)
      · skip
        refine lv_aload_n hF.1 hF.2.1 dX3_isStageFine_40 rfl (lv_at hl 1 rfl) ?_
        refine lv_aload hF.1 hF.2.1 dX3_isStageFine_41 (lv_at hl 0 rfl) ?_
        refine z_ci (S := Unit) (w := fun _ => gC c h σ κ ω) (P := fun z _ => z = b2i (fits' σ i)) (z_runV (rm := { frames := 2, cells := 0, slots := 0, locals := 42 }) hF hK hP (c_X3_fitsOnStage l h D c σ κ ω hinj hG i (by omega) _) (gIn_V mw_104 mw_105 mw_106 mw_86 mw_99) rfl rfl ⟨rfl, by decide, by decide, rfl⟩ ⟨Nat.le_of_ble_eq_true rfl, Nat.le_of_ble_eq_true rfl⟩ (k := 0) (T := TX3) (N := 14) (by omega) rfl (rfl) rfl (As := [.ref (h (i + 11))]) (rest := []) rfl hl.1 rfl (Nat.le_of_ble_eq_true rfl) dX3_isStageFine_43 ⟨Nat.le_refl _, Nat.le_refl _⟩) hz hA hS (fun z_7 u_8 H locs hp hP hS => ?_)
        obtain rfl : z_7 = b2i (fits' σ i) := hp
        refine zi_ifb_ne (tgt := 51) hF.1 hF.2.1 (P := fits' σ i) dX3_isStageFine_46 (by decide) (fun c_46 => ?_) (fun c_46 => ?_)
        · skip
          refine lv_iinc (v := iz (((i + 1 : Nat) : Int))) (lv' := [(4, .int (iz (((i + 1 : Nat) : Int)))), (5, .ref (h (i + 11))), (0, .ref (h (0))), (1, .int (iz (sg))), (2, .ref (h (5))), (3, .int (iz (16)))]) hF.1 hF.2.1 dX3_isStageFine_51 hl (k := 5) rfl ((iz_add _ _).trans (congrArg iz (by omega))) (by decide) rfl (fun ls hl => ?_)
          refine lv_goto (tgt := 11) hF.1 hF.2.1 dX3_isStageFine_54 (by decide) ?_
          have nv_9 : (((i + 1)) ≤ 16) ∧ (∀ k, k < ((i + 1)) → σ 14 k ≠ 0 → σ 7 k = sg → fits' σ k) := ⟨by omega, lt_s hv1 (by first | (intros; assumption) | (intros; omega))⟩
          exact ih_11 (i + 1) nv_9 (by show 17 - ((i + 1)) < 17 - i; omega) _ _ _ hP hS (lv_sub hl [2, 3, 4, 5, 0] rfl)
        · skip
          refine zi_const hF.1 hF.2.1 dX3_isStageFine_49 ?_
          exact z_reti (P := fun z _ => z = b2i (stFine σ sg)) (z := 0) (u := ()) (w := fun _ => gC c h σ κ ω) hF hr hlocks hP hS ((iz_nar_z (by first | omega | exact b2i_rg)).1) ((b2i_f (fun q => c_46 (q i (by omega) (by omega) (by omega)))).symm) dX3_isStageFine_50

set_option maxRecDepth 100000 in
set_option maxHeartbeats 4000000 in
theorem c_X3_areStagesFineAt (l : Launch) (h : Nat → Nat) (D : va_G) (c : Nat → ClassId) (σ κ : Nat → Nat → Int) (ω : Nat × (Nat → Int32) × Int32) (hinj : ∀ i j, i < 32 → j < 32 → h i = h j → i = j) (hG : GI σ) (mi : Int) (hm : -100 ≤ mi ∧ mi ≤ 5000) :
    zMi (S := Unit) l yX3_areStagesFineAt cX3_areStagesFineAt 6 (some .boolean) 2 47 [.ref (h (0)), .int (iz (mi))] 32 h D (gT c) (gC c h (σ) (κ) (ω)) (fun _ => gC c h σ κ ω) (fun z _ => z = b2i (stsFine σ mi)) := by
  refine zM_of (by decide) (Nat.le_of_ble_eq_true rfl) ?_
  intro p e s m below meth cd ls ⟨hF, hr, hlocks, hK⟩ hP hl
  have hz : zD (zA 32 h s.heap.size) 32 h := zD.self hinj s.heap.size
  have hA : ∀ q, s.heap.size ≤ q → zA 32 h s.heap.size q := zA_new
  generalize zA 32 h s.heap.size = A at hz hA ⊢
  have hS : va_S A s.heap s.heap [] := va_S.rf
  have hl : lv_has ls 6 [(0, .ref (h (0))), (1, .int (iz (mi)))] := hl
  refine lv_aload_n hF.1 hF.2.1 dX3_areStagesFineAt_0 rfl (lv_at hl 0 rfl) ?_
  refine z_get hF hK hP (k := 0) (C := RX3) (T := TX3) (N := 14) (by omega) (rfl) rfl uin_X3 5 (by decide) mw_60 (v := .ref (h (5))) rfl dX3_areStagesFineAt_1 ?_
  refine lv_astore_n (lv' := [(2, .ref (h (5))), (0, .ref (h (0))), (1, .int (iz (mi)))]) hF.1 hF.2.1 dX3_areStagesFineAt_4 rfl hl (by decide) rfl (fun ls hl => ?_)
  refine lv_aload_n hF.1 hF.2.1 dX3_areStagesFineAt_5 rfl (lv_at hl 0 rfl) ?_
  refine z_alen hF hK hP (k := 5) (by decide) rfl 2 rfl (z := 16) rfl dX3_areStagesFineAt_6 ?_
  refine lv_istore_n (lv' := [(3, .int (iz (16))), (2, .ref (h (5))), (0, .ref (h (0))), (1, .int (iz (mi)))]) hF.1 hF.2.1 dX3_areStagesFineAt_7 rfl hl (by decide) rfl (fun ls hl => ?_)
  refine zi_const hF.1 hF.2.1 dX3_areStagesFineAt_8 ?_
  refine lv_istore (lv' := [(4, .int (iz (0))), (3, .int (iz (16))), (2, .ref (h (5))), (0, .ref (h (0))), (1, .int (iz (mi)))]) hF.1 hF.2.1 dX3_areStagesFineAt_9 hl (by decide) rfl (fun ls hl => ?_)
  have nv_2 : ((0) ≤ 16) ∧ (∀ k, k < (0) → pl σ k mi → ¬ stormy σ (σ 7 k) mi ∧ ¬ held σ k mi) := ⟨by omega, lt_0⟩
  refine z_loop (V := Nat) (nL := 6) (wd := fun v_1 => gC c h (σ) (κ) (ω)) (lv := fun v_1 => [(0, .ref (h (0))), (1, .int (iz (mi))), (2, .ref (h (5))), (3, .int (iz (16))), (4, .int (iz ((v_1 : Int))))]) (stk := fun v_1 => []) (mu := fun v_1 => 17 - v_1) (inv := fun v_1 => (v_1 ≤ 16) ∧ (∀ k, k < v_1 → pl σ k mi → ¬ stormy σ (σ 7 k) mi ∧ ¬ held σ k mi)) ?_ 0 nv_2 hP hS (lv_sub hl [3, 4, 2, 1, 0] rfl)
  intro i hv ih_11 H locs ls hP hS hl
  have hP : zB 32 h D (gC c h (σ) (κ) (ω)) H := hP
  have hl : lv_has ls 6 [(0, .ref (h (0))), (1, .int (iz (mi))), (2, .ref (h (5))), (3, .int (iz (16))), (4, .int (iz ((i : Int))))] := hl
  obtain ⟨hi_i, hv1⟩ : (i ≤ 16) ∧ (∀ k, k < i → pl σ k mi → ¬ stormy σ (σ 7 k) mi ∧ ¬ held σ k mi) := hv
  refine lv_iload hF.1 hF.2.1 dX3_areStagesFineAt_11 (lv_at hl 4 rfl) ?_
  refine lv_iload_n hF.1 hF.2.1 dX3_areStagesFineAt_13 rfl (lv_at hl 3 rfl) ?_
  refine zi_icmp_ge (tgt := 63) hF.1 hF.2.1 (a := (i : Int)) (b := 16) dX3_areStagesFineAt_14 (by decide) (by omega) (by omega) (fun c_14 => ?_) (fun c_14 => ?_)
  · skip
    refine zi_const hF.1 hF.2.1 dX3_areStagesFineAt_63 ?_
    exact z_reti (P := fun z _ => z = b2i (stsFine σ mi)) (z := 1) (u := ()) (w := fun _ => gC c h σ κ ω) hF hr hlocks hP hS ((iz_nar_z (by first | omega | exact b2i_rg)).1) ((b2i_t (fun k q => hv1 k (by omega))).symm) dX3_areStagesFineAt_64
  · skip
    refine lv_aload_n hF.1 hF.2.1 dX3_areStagesFineAt_17 rfl (lv_at hl 2 rfl) ?_
    refine lv_iload hF.1 hF.2.1 dX3_areStagesFineAt_18 (lv_at hl 4 rfl) ?_
    refine z_aald hF hK hP (k := 5) (by decide) rfl 2 rfl (i := (i : Int)) (i) (rfl) (by omega) (by decide) (a := h (i + 11)) rfl dX3_areStagesFineAt_20 ?_
    refine lv_astore (lv' := [(5, .ref (h (i + 11))), (0, .ref (h (0))), (1, .int (iz (mi))), (2, .ref (h (5))), (3, .int (iz (16))), (4, .int (iz ((i : Int))))]) hF.1 hF.2.1 dX3_areStagesFineAt_21 hl (by decide) rfl (fun ls hl => ?_)
    refine lv_aload hF.1 hF.2.1 dX3_areStagesFineAt_23 (lv_at hl 0 rfl) ?_
    refine lv_iload_n hF.1 hF.2.1 dX3_areStagesFineAt_25 rfl (lv_at hl 2 rfl) ?_
    refine z_ci (S := Unit) (w := fun _ => gC c h σ κ ω) (P := fun z _ => z = b2i (pl σ i mi)) (z_runVN (rm := { frames := 0, cells := 0, slots := 0, locals := 0 }) hF hK hP (c_X0_playsAt l h D c σ κ ω hinj hG i (by omega) mi (by omega) _) mw_7 nw_24 mw_13 mw_122 mw_123 rfl rfl ⟨by decide, by decide, rfl⟩ ⟨Nat.le_of_ble_eq_true rfl, Nat.le_of_ble_eq_true rfl⟩ (k := i + 11) (T := TX0) (N := 9) (by omega) rfl (gC_act (by omega)) rfl (As := [.int (iz (mi))]) (rest := []) rfl hl.1 rfl (Nat.le_of_ble_eq_true rfl) dX3_areStagesFineAt_26 ⟨Nat.le_refl _, Nat.le_refl _⟩) hz hA hS (fun z_3 u_4 H locs hp hP hS => ?_)
    obtain rfl : z_3 = b2i (pl σ i mi) := hp
    refine zi_ifb_eq (tgt := 57) hF.1 hF.2.1 (P := pl σ i mi) dX3_areStagesFineAt_29 (by decide) (fun c_29 => ?_) (fun c_29 => ?_)
    · skip
      refine lv_iinc (v := iz (((i + 1 : Nat) : Int))) (lv' := [(4, .int (iz (((i + 1 : Nat) : Int)))), (5, .ref (h (i + 11))), (0, .ref (h (0))), (1, .int (iz (mi))), (2, .ref (h (5))), (3, .int (iz (16)))]) hF.1 hF.2.1 dX3_areStagesFineAt_57 hl (k := 5) rfl ((iz_add _ _).trans (congrArg iz (by omega))) (by decide) rfl (fun ls hl => ?_)
      refine lv_goto (tgt := 11) hF.1 hF.2.1 dX3_areStagesFineAt_60 (by decide) ?_
      have nv_5 : (((i + 1)) ≤ 16) ∧ (∀ k, k < ((i + 1)) → pl σ k mi → ¬ stormy σ (σ 7 k) mi ∧ ¬ held σ k mi) := ⟨by omega, lt_s hv1 (by first | exact fun q => absurd q c_29 | exact fun _ => ⟨c_42, c_52⟩)⟩
      exact ih_11 (i + 1) nv_5 (by show 17 - ((i + 1)) < 17 - i; omega) _ _ _ hP hS (lv_sub hl [2, 3, 4, 5, 0] rfl)
    · skip
      refine lv_aload_n hF.1 hF.2.1 dX3_areStagesFineAt_32 rfl (lv_at hl 1 rfl) ?_
      refine lv_aload hF.1 hF.2.1 dX3_areStagesFineAt_33 (lv_at hl 0 rfl) ?_
      refine z_getN hF hK hP (k := i + 11) (C := RX0) (T := TX0) (N := 9) (by omega) (gC_act (by omega)) rfl uin_X0 0 (by decide) nw_8 (v := .int (iz (σ 7 i))) rfl dX3_areStagesFineAt_35 ?_
      have q_6 := GI_7 hG (i)
      refine lv_iload_n hF.1 hF.2.1 dX3_areStagesFineAt_38 rfl (lv_at hl 2 rfl) ?_
      refine z_ci (S := Unit) (w := fun _ => gC c h σ κ ω) (P := fun z _ => z = b2i (stormy σ (σ 7 i) mi)) (z_runV (rm := { frames := 0, cells := 0, slots := 0, locals := 0 }) hF hK hP (c_X3_isStormyAt l h D c σ κ ω hinj hG (σ 7 i) (by omega) mi (by omega) _) (gIn_V mw_412 mw_413 mw_414 mw_86 mw_409) rfl rfl ⟨rfl, by decide, by decide, rfl⟩ ⟨Nat.le_of_ble_eq_true rfl, Nat.le_of_ble_eq_true rfl⟩ (k := 0) (T := TX3) (N := 14) (by omega) rfl (rfl) rfl (As := [.int (iz (σ 7 i)), .int (iz (mi))]) (rest := []) rfl hl.1 rfl (Nat.le_of_ble_eq_true rfl) dX3_areStagesFineAt_39 ⟨Nat.le_refl _, Nat.le_refl _⟩) hz hA hS (fun z_7 u_8 H locs hp hP hS => ?_)
      obtain rfl : z_7 = b2i (stormy σ (σ 7 i) mi) := hp
      refine zi_ifb_ne (tgt := 55) hF.1 hF.2.1 (P := stormy σ (σ 7 i) mi) dX3_areStagesFineAt_42 (by decide) (fun c_42 => ?_) (fun c_42 => ?_)
      · skip
        refine zi_const hF.1 hF.2.1 dX3_areStagesFineAt_55 ?_
        exact z_reti (P := fun z _ => z = b2i (stsFine σ mi)) (z := 0) (u := ()) (w := fun _ => gC c h σ κ ω) hF hr hlocks hP hS ((iz_nar_z (by first | omega | exact b2i_rg)).1) ((b2i_f (fun q => by have q := q i (by omega) c_29; first | exact q.1 c_42 | exact q.2 c_52)).symm) dX3_areStagesFineAt_56
      · skip
        refine lv_aload_n hF.1 hF.2.1 dX3_areStagesFineAt_45 rfl (lv_at hl 1 rfl) ?_
        refine lv_aload hF.1 hF.2.1 dX3_areStagesFineAt_46 (lv_at hl 0 rfl) ?_
        refine lv_iload_n hF.1 hF.2.1 dX3_areStagesFineAt_48 rfl (lv_at hl 2 rfl) ?_
        refine z_ci (S := Unit) (w := fun _ => gC c h σ κ ω) (P := fun z _ => z = b2i (held σ i mi)) (z_runV (rm := { frames := 1, cells := 0, slots := 0, locals := 20 }) hF hK hP (c_X3_isHeldByAnother l h D c σ κ ω hinj hG i (by omega) mi (by omega) _) (gIn_V mw_415 mw_416 mw_417 mw_86 mw_410) rfl rfl ⟨rfl, by decide, by decide, rfl⟩ ⟨Nat.le_of_ble_eq_true rfl, Nat.le_of_ble_eq_true rfl⟩ (k := 0) (T := TX3) (N := 14) (by omega) rfl (rfl) rfl (As := [.ref (h (i + 11)), .int (iz (mi))]) (rest := []) rfl hl.1 rfl (Nat.le_of_ble_eq_true rfl) dX3_areStagesFineAt_49 ⟨Nat.le_refl _, Nat.le_refl _⟩) hz hA hS (fun z_9 u_10 H locs hp hP hS => ?_)
        obtain rfl : z_9 = b2i (held σ i mi) := hp
        refine zi_ifb_eq (tgt := 57) hF.1 hF.2.1 (P := held σ i mi) dX3_areStagesFineAt_52 (by decide) (fun c_52 => ?_) (fun c_52 => ?_)
        · skip
          refine lv_iinc (v := iz (((i + 1 : Nat) : Int))) (lv' := [(4, .int (iz (((i + 1 : Nat) : Int)))), (5, .ref (h (i + 11))), (0, .ref (h (0))), (1, .int (iz (mi))), (2, .ref (h (5))), (3, .int (iz (16)))]) hF.1 hF.2.1 dX3_areStagesFineAt_57 hl (k := 5) rfl ((iz_add _ _).trans (congrArg iz (by omega))) (by decide) rfl (fun ls hl => ?_)
          refine lv_goto (tgt := 11) hF.1 hF.2.1 dX3_areStagesFineAt_60 (by decide) ?_
          have nv_11 : (((i + 1)) ≤ 16) ∧ (∀ k, k < ((i + 1)) → pl σ k mi → ¬ stormy σ (σ 7 k) mi ∧ ¬ held σ k mi) := ⟨by omega, lt_s hv1 (by first | exact fun q => absurd q c_29 | exact fun _ => ⟨c_42, c_52⟩)⟩
          exact ih_11 (i + 1) nv_11 (by show 17 - ((i + 1)) < 17 - i; omega) _ _ _ hP hS (lv_sub hl [2, 3, 4, 5, 0] rfl)
        · skip
          refine zi_const hF.1 hF.2.1 dX3_areStagesFineAt_55 ?_
          exact z_reti (P := fun z _ => z = b2i (stsFine σ mi)) (z := 0) (u := ()) (w := fun _ => gC c h σ κ ω) hF hr hlocks hP hS ((iz_nar_z (by first | omega | exact b2i_rg)).1) ((b2i_f (fun q => by have q := q i (by omega) c_29; first | exact q.1 c_42 | exact q.2 c_52)).symm) dX3_areStagesFineAt_56

set_option maxRecDepth 100000 in
set_option maxHeartbeats 4000000 in
theorem c_X3_setsAt (l : Launch) (h : Nat → Nat) (D : va_G) (c : Nat → ClassId) (σ κ : Nat → Nat → Int) (ω : Nat × (Nat → Int32) × Int32) (hinj : ∀ i j, i < 32 → j < 32 → h i = h j → i = j) (hG : GI σ) (mi : Int) (hm : -100 ≤ mi ∧ mi ≤ 5000) :
    zMi (S := Unit) l yX3_setsAt cX3_setsAt 4 (some .int) 0 0 [.ref (h (0)), .int (iz (mi))] 32 h D (gT c) (gC c h (σ) (κ) (ω)) (fun _ => gC c h σ κ ω) (fun z _ => z = stN σ mi (σ 0 0).toNat) := by
  refine zM_of (by decide) (Nat.le_of_ble_eq_true rfl) ?_
  intro p e s m below meth cd ls ⟨hF, hr, hlocks, hK⟩ hP hl
  have hz : zD (zA 32 h s.heap.size) 32 h := zD.self hinj s.heap.size
  have hA : ∀ q, s.heap.size ≤ q → zA 32 h s.heap.size q := zA_new
  generalize zA 32 h s.heap.size = A at hz hA ⊢
  have hS : va_S A s.heap s.heap [] := va_S.rf
  have hl : lv_has ls 4 [(0, .ref (h (0))), (1, .int (iz (mi)))] := hl
  refine zi_const hF.1 hF.2.1 dX3_setsAt_0 ?_
  refine lv_istore_n (lv' := [(2, .int (iz (0))), (0, .ref (h (0))), (1, .int (iz (mi)))]) hF.1 hF.2.1 dX3_setsAt_1 rfl hl (by decide) rfl (fun ls hl => ?_)
  refine zi_const hF.1 hF.2.1 dX3_setsAt_2 ?_
  refine lv_istore_n (lv' := [(3, .int (iz (0))), (2, .int (iz (0))), (0, .ref (h (0))), (1, .int (iz (mi)))]) hF.1 hF.2.1 dX3_setsAt_3 rfl hl (by decide) rfl (fun ls hl => ?_)
  have nv_2 : ((0) ≤ 6 ∧ ((0) : Int) ≤ σ 0 0) := ((by have := GI_00 hG; omega))
  refine z_loop (V := Nat) (nL := 4) (wd := fun v_1 => gC c h (σ) (κ) (ω)) (lv := fun v_1 => [(0, .ref (h (0))), (1, .int (iz (mi))), (2, .int (iz (stN σ mi v_1))), (3, .int (iz ((v_1 : Int))))]) (stk := fun v_1 => []) (mu := fun v_1 => 7 - v_1) (inv := fun v_1 => (v_1 ≤ 6 ∧ (v_1 : Int) ≤ σ 0 0)) ?_ 0 nv_2 hP hS (lv_sub hl [2, 3, 1, 0] rfl)
  intro i hv ih_4 H locs ls hP hS hl
  have hP : zB 32 h D (gC c h (σ) (κ) (ω)) H := hP
  have hl : lv_has ls 4 [(0, .ref (h (0))), (1, .int (iz (mi))), (2, .int (iz (stN σ mi i))), (3, .int (iz ((i : Int))))] := hl
  have hi_i : i ≤ 6 ∧ (i : Int) ≤ σ 0 0 := hv
  refine lv_iload_n hF.1 hF.2.1 dX3_setsAt_4 rfl (lv_at hl 3 rfl) ?_
  refine lv_aload_n hF.1 hF.2.1 dX3_setsAt_5 rfl (lv_at hl 0 rfl) ?_
  refine z_get hF hK hP (k := 0) (C := RX3) (T := TX3) (N := 14) (by omega) (rfl) rfl uin_X3 1 (by decide) mw_90 (v := .int (iz (σ 0 0))) rfl dX3_setsAt_6 ?_
  have q_3 := GI_00 hG
  refine zi_icmp_ge (tgt := 31) hF.1 hF.2.1 (a := (i : Int)) (b := σ 0 0) dX3_setsAt_9 (by decide) (by omega) (by omega) (fun c_9 => ?_) (fun c_9 => ?_)
  · skip
    refine lv_iload_n hF.1 hF.2.1 dX3_setsAt_31 rfl (lv_at hl 2 rfl) ?_
    exact z_reti (P := fun z _ => z = stN σ mi (σ 0 0).toNat) (z := stN σ mi i) (u := ()) (w := fun _ => gC c h σ κ ω) hF hr hlocks hP hS (rfl) ((by congr 1; omega)) dX3_setsAt_32
  · skip
    refine lv_aload_n hF.1 hF.2.1 dX3_setsAt_12 rfl (lv_at hl 0 rfl) ?_
    refine z_get hF hK hP (k := 0) (C := RX3) (T := TX3) (N := 14) (by omega) (rfl) rfl uin_X3 0 (by decide) mw_55 (v := .ref (h (1))) rfl dX3_setsAt_13 ?_
    refine lv_iload_n hF.1 hF.2.1 dX3_setsAt_16 rfl (lv_at hl 3 rfl) ?_
    refine z_iald hF hK hP (k := 1) (by decide) rfl 0 rfl (i := (i : Int)) (i) (rfl) (by omega) (by decide) (x := iz (σ 1 i)) rfl dX3_setsAt_17 ?_
    have q_4 := GI_1 hG (i)
    refine lv_iload_n hF.1 hF.2.1 dX3_setsAt_18 rfl (lv_at hl 1 rfl) ?_
    refine zi_icmp_gt (tgt := 25) hF.1 hF.2.1 (a := σ 1 i) (b := mi) dX3_setsAt_19 (by decide) (by omega) (by omega) (fun c_19 => ?_) (fun c_19 => ?_)
    · skip
      refine lv_iinc (v := iz (((i + 1 : Nat) : Int))) (lv' := [(3, .int (iz (((i + 1 : Nat) : Int)))), (0, .ref (h (0))), (1, .int (iz (mi))), (2, .int (iz (stN σ mi i)))]) hF.1 hF.2.1 dX3_setsAt_25 hl (k := 3) rfl ((iz_add _ _).trans (congrArg iz (by omega))) (by decide) rfl (fun ls hl => ?_)
      refine lv_goto (tgt := 4) hF.1 hF.2.1 dX3_setsAt_28 (by decide) ?_
      have e_5 : stN σ mi i = stN σ mi (i + 1) := by simp only [stN]; split <;> omega
      have hl : lv_has ls 4 [(3, .int (iz (((i + 1 : Nat) : Int)))), (0, .ref (h (0))), (1, .int (iz (mi))), (2, .int (iz (stN σ mi (i + 1))))] := by rw [← e_5]; exact hl
      have nv_6 : (((i + 1)) ≤ 6 ∧ (((i + 1)) : Int) ≤ σ 0 0) := (by omega)
      exact ih_4 (i + 1) nv_6 (by show 7 - ((i + 1)) < 7 - i; omega) _ _ _ hP hS (lv_sub hl [1, 2, 3, 0] rfl)
    · skip
      refine lv_iinc (v := iz ((stN σ mi i) + 1)) (lv' := [(2, .int (iz ((stN σ mi i) + 1))), (0, .ref (h (0))), (1, .int (iz (mi))), (3, .int (iz ((i : Int))))]) hF.1 hF.2.1 dX3_setsAt_22 hl (k := 2) rfl ((iz_add _ _).trans (congrArg iz (by omega))) (by decide) rfl (fun ls hl => ?_)
      refine lv_iinc (v := iz (((i + 1 : Nat) : Int))) (lv' := [(3, .int (iz (((i + 1 : Nat) : Int)))), (2, .int (iz ((stN σ mi i) + 1))), (0, .ref (h (0))), (1, .int (iz (mi)))]) hF.1 hF.2.1 dX3_setsAt_25 hl (k := 3) rfl ((iz_add _ _).trans (congrArg iz (by omega))) (by decide) rfl (fun ls hl => ?_)
      refine lv_goto (tgt := 4) hF.1 hF.2.1 dX3_setsAt_28 (by decide) ?_
      have e_7 : (stN σ mi i) + 1 = stN σ mi (i + 1) := by simp only [stN]; split <;> omega
      have hl : lv_has ls 4 [(3, .int (iz (((i + 1 : Nat) : Int)))), (2, .int (iz (stN σ mi (i + 1)))), (0, .ref (h (0))), (1, .int (iz (mi)))] := by rw [← e_7]; exact hl
      have nv_8 : (((i + 1)) ≤ 6 ∧ (((i + 1)) : Int) ≤ σ 0 0) := (by omega)
      exact ih_4 (i + 1) nv_8 (by show 7 - ((i + 1)) < 7 - i; omega) _ _ _ hP hS (lv_sub hl [2, 3, 1, 0] rfl)
