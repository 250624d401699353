set_option maxRecDepth 100000 in
set_option maxHeartbeats 4000000 in
theorem c_X3_replan (l : Launch) (h : Nat → Nat) (D : va_G) (c : Nat → ClassId) (σ κ : Nat → Nat → Int) (ω : Nat × (Nat → Int32) × Int32) (hinj : ∀ i j, i < 32 → j < 32 → h i = h j → i = j) (hG : GI σ) (fr : Int) (hfr : 0 ≤ fr ∧ fr ≤ 1000) (hl0 : ∀ k, k < 16 → σ 15 k ≠ 0 → 1 ≤ σ 9 k) :
    zMi (S := (Nat → Nat → Int) × (Nat → Nat → Int)) l yX3_replan cX3_replan 5 (some .int) 5 121 [.ref (h (0)), .int (iz (fr))] 32 h D (gT c) (gC c h (σ) (κ) (ω)) (fun u9 => gC c h u9.1 u9.2 ω) (fun z u9 => RPn fr 16 σ 0 u9.1 z ∧ GI u9.1) := by
  refine zM_of (by decide) (Nat.le_of_ble_eq_true rfl) ?_
  intro p e s m below meth cd ls ⟨hF, hr, hlocks, hK⟩ hP hl
  have hz : zD (zA 32 h s.heap.size) 32 h := zD.self hinj s.heap.size
  have hA : ∀ q, s.heap.size ≤ q → zA 32 h s.heap.size q := zA_new
  generalize zA 32 h s.heap.size = A at hz hA ⊢
  have hS : va_S A s.heap s.heap [] := va_S.rf
  have hl : lv_has ls 5 [(0, .ref (h (0))), (1, .int (iz (fr)))] := hl
  refine zi_const hF.1 hF.2.1 dX3_replan_0 ?_
  refine lv_istore_n (lv' := [(2, .int (iz (0))), (0, .ref (h (0))), (1, .int (iz (fr)))]) hF.1 hF.2.1 dX3_replan_1 rfl hl (by decide) rfl (fun ls hl => ?_)
  refine zi_const hF.1 hF.2.1 dX3_replan_2 ?_
  refine lv_istore_n (lv' := [(3, .int (iz (0))), (2, .int (iz (0))), (0, .ref (h (0))), (1, .int (iz (fr)))]) hF.1 hF.2.1 dX3_replan_3 rfl hl (by decide) rfl (fun ls hl => ?_)
  have nv_2 : ((0) ≤ 16 ∧ (0 : Int) ≤ (0) ∧ (0) ≤ (((0) : Nat) : Int)) ∧ (GI (σ)) ∧ (wc (σ) 16 ≤ 16 - (((0) : Nat) : Int)) ∧ (∀ k : Nat, k < 16 → (σ) 15 k ≠ 0 → 1 ≤ (σ) 9 k) ∧ (∀ (σ9 : Nat → Nat → Int) (b9 : Int), RPn fr (16 - (0)) (σ) (0) σ9 b9 → RPn fr 16 σ 0 σ9 b9) := ⟨by omega, hG, by have := wc_rg (σ := σ) 16; omega, hl0, fun _ _ q => q⟩
  refine z_loop (V := Nat × Int × (Nat → Nat → Int) × (Nat → Nat → Int)) (nL := 5) (wd := fun v_1 => gC c h (v_1.2.2.1) (v_1.2.2.2) (ω)) (lv := fun v_1 => [(0, .ref (h (0))), (1, .int (iz (fr))), (2, .int (iz (v_1.2.1))), (3, .int (iz ((v_1.1 : Int))))]) (stk := fun v_1 => []) (mu := fun v_1 => 17 - v_1.1) (inv := fun v_1 => (v_1.1 ≤ 16 ∧ (0 : Int) ≤ v_1.2.1 ∧ v_1.2.1 ≤ ((v_1.1 : Nat) : Int)) ∧ (GI v_1.2.2.1) ∧ (wc v_1.2.2.1 16 ≤ 16 - ((v_1.1 : Nat) : Int)) ∧ (∀ k : Nat, k < 16 → v_1.2.2.1 15 k ≠ 0 → 1 ≤ v_1.2.2.1 9 k) ∧ (∀ (σ9 : Nat → Nat → Int) (b9 : Int), RPn fr (16 - v_1.1) v_1.2.2.1 v_1.2.1 σ9 b9 → RPn fr 16 σ 0 σ9 b9)) ?_ (0, 0, σ, κ) nv_2 hP hS (lv_sub hl [2, 3, 1, 0] rfl)
  intro ⟨i, lost, σ1, κ1⟩ hv ih_4 H locs ls hP hS hl
  have hP : zB 32 h D (gC c h (σ1) (κ1) (ω)) H := hP
  have hl : lv_has ls 5 [(0, .ref (h (0))), (1, .int (iz (fr))), (2, .int (iz (lost))), (3, .int (iz ((i : Int))))] := hl
  obtain ⟨hi_i, hG1, hwc, hlen, hct⟩ : (i ≤ 16 ∧ (0 : Int) ≤ lost ∧ lost ≤ ((i : Nat) : Int)) ∧ (GI σ1) ∧ (wc σ1 16 ≤ 16 - ((i : Nat) : Int)) ∧ (∀ k : Nat, k < 16 → σ1 15 k ≠ 0 → 1 ≤ σ1 9 k) ∧ (∀ (σ9 : Nat → Nat → Int) (b9 : Int), RPn fr (16 - i) σ1 lost σ9 b9 → RPn fr 16 σ 0 σ9 b9) := hv
  refine lv_iload_n hF.1 hF.2.1 dX3_replan_4 rfl (lv_at hl 3 rfl) ?_
  refine zi_bipush hF.1 hF.2.1 dX3_replan_5 (by decide) ?_
  refine zi_icmp_ge (tgt := 62) hF.1 hF.2.1 (a := (i : Int)) (b := 16) dX3_replan_7 (by decide) (by omega) (by omega) (fun c_7 => ?_) (fun c_7 => ?_)
  · skip
    refine lv_iload_n hF.1 hF.2.1 dX3_replan_62 rfl (lv_at hl 2 rfl) ?_
    exact z_reti (P := fun z u9 => RPn fr 16 σ 0 u9.1 z ∧ GI u9.1) (z := lost) (u := (σ1, κ1)) (w := fun u9 => gC c h u9.1 u9.2 ω) hF hr hlocks hP hS (rfl) (⟨hct _ _ (RPn_end (by first | exact hnw | exact wc_0 (by omega))), hG1⟩) dX3_replan_63
  · skip
    refine lv_aload_n hF.1 hF.2.1 dX3_replan_10 rfl (lv_at hl 0 rfl) ?_
    refine z_cq (S := Unit) (w := fun _ => gC c h σ1 κ1 ω) (P := fun r9 _ => EWp σ1 r9) (z_runV (rm := { frames := 0, cells := 0, slots := 0, locals := 0 }) hF hK hP (c_X3_earliestWaiting l h D c σ1 κ1 ω hinj hG1  _) (gIn_V mw_394 mw_395 mw_396 mw_86 mw_393) rfl rfl ⟨rfl, by decide, by decide, rfl⟩ ⟨Nat.le_of_ble_eq_true rfl, Nat.le_of_ble_eq_true rfl⟩ (k := 0) (T := TX3) (N := 14) (by omega) rfl (rfl) rfl (As := []) (rest := []) rfl hl.1 rfl (Nat.le_of_ble_eq_true rfl) dX3_replan_11 ⟨Nat.le_refl _, Nat.le_refl _⟩) hz hA hS (fun r_3 u_4 H locs hp hP hS => ?_)
    rcases r_3 with _ | a9
    · skip
      have hnw : ∀ j, j < 16 → (σ1) 15 j = 0 := hp
      refine lv_astoreN (lv' := [(4, .null), (0, .ref (h (0))), (1, .int (iz (fr))), (2, .int (iz (lost))), (3, .int (iz ((i : Int))))]) hF.1 hF.2.1 dX3_replan_14 hl (by decide) rfl (fun ls hl => ?_)
      refine lv_aloadN hF.1 hF.2.1 dX3_replan_16 (lv_at hl 0 rfl) ?_
      refine lv_ifnonnullN hF.1 hF.2.1 dX3_replan_18 ?_
      refine lv_goto (tgt := 62) hF.1 hF.2.1 dX3_replan_21 (by decide) ?_
      refine lv_iload_n hF.1 hF.2.1 dX3_replan_62 rfl (lv_at hl 3 rfl) ?_
      exact z_reti (P := fun z u9 => RPn fr 16 σ 0 u9.1 z ∧ GI u9.1) (z := lost) (u := (σ1, κ1)) (w := fun u9 => gC c h u9.1 u9.2 ω) hF hr hlocks hP hS (rfl) (⟨hct _ _ (RPn_end (by first | exact hnw | exact wc_0 (by omega))), hG1⟩) dX3_replan_63
    · skip
      obtain ⟨k1, rfl, hew⟩ : ∃ k, a9 = k + 11 ∧ EWs (σ1) k := hp
      have hk1 := hew.1
      have hl1 := hlen k1 hk1 hew.2.1
      refine lv_astore (lv' := [(4, .ref (h (k1 + 11))), (0, .ref (h (0))), (1, .int (iz (fr))), (2, .int (iz (lost))), (3, .int (iz ((i : Int))))]) hF.1 hF.2.1 dX3_replan_14 hl (by decide) rfl (fun ls hl => ?_)
      refine lv_aload hF.1 hF.2.1 dX3_replan_16 (lv_at hl 0 rfl) ?_
      refine lv_ifnonnull (tgt := 24) hF.1 hF.2.1 dX3_replan_18 (by decide) ?_
      refine lv_aload hF.1 hF.2.1 dX3_replan_24 (lv_at hl 0 rfl) ?_
      refine zi_const hF.1 hF.2.1 dX3_replan_26 ?_
      refine z_putN hF hK hz hP hS (k := k1 + 11) (C := RX0) (T := TX0) (N := 9) (by omega) (gC_act (by omega)) rfl uin_X0 tyX0_ok nmX0 8 (by decide) nw_11 rfl (iz_nar_z (by first | (unfold b2i; split <;> omega) | omega)) (by simp) (g' := gC c h (u2 (σ1) 15 (k1) (0)) (κ1) (ω)) (by rw [gC_act (by omega)]; simp [u2]) (gC_act_o ⟨by decide, by decide⟩) dX3_replan_27 (fun H locs hP hS => ?_)
      have hG_5 := GI_u15 hG1 (v := 0) (k := k1) (by omega)
      refine lv_aload hF.1 hF.2.1 dX3_replan_30 (lv_at hl 0 rfl) ?_
      refine zi_const hF.1 hF.2.1 dX3_replan_32 ?_
      refine z_putN hF hK hz hP hS (k := k1 + 11) (C := RX0) (T := TX0) (N := 9) (by omega) (gC_act (by omega)) rfl uin_X0 tyX0_ok nmX0 7 (by decide) nw_0 rfl (iz_nar_z (by first | (unfold b2i; split <;> omega) | omega)) (by simp) (g' := gC c h (u2 (u2 (σ1) 15 (k1) (0)) 14 (k1) (1)) (κ1) (ω)) (by rw [gC_act (by omega)]; simp [u2]) (gC_act_o ⟨by decide, by decide⟩) dX3_replan_33 (fun H locs hP hS => ?_)
      have hG_6 := GI_u14 hG_5 (v := 1) (k := k1) (by omega)
      refine lv_aload_n hF.1 hF.2.1 dX3_replan_36 rfl (lv_at hl 1 rfl) ?_
      refine lv_aload hF.1 hF.2.1 dX3_replan_37 (lv_at hl 0 rfl) ?_
      refine lv_iload_n hF.1 hF.2.1 dX3_replan_39 rfl (lv_at hl 2 rfl) ?_
      refine z_ci (S := (Nat → Nat → Int) × (Nat → Nat → Int)) (w := fun u9 => gC c h u9.1 u9.2 ω) (P := fun z u9 => FFS (u2 (u2 (σ1) 15 (k1) (0)) 14 (k1) (1)) k1 fr z u9.1) (z_runV (rm := { frames := 4, cells := 0, slots := 0, locals := 97 }) hF hK hP (c_X3_firstFineStart l h D c (u2 (u2 (σ1) 15 (k1) (0)) 14 (k1) (1)) κ1 ω hinj hG_6 k1 (by omega) fr (by omega) (by first | omega | (simp [u2]; omega)) _) (gIn_V mw_187 mw_188 mw_189 mw_86 mw_186) rfl rfl ⟨rfl, by decide, by decide, rfl⟩ ⟨Nat.le_of_ble_eq_true rfl, Nat.le_of_ble_eq_true rfl⟩ (k := 0) (T := TX3) (N := 14) (by omega) rfl (rfl) rfl (As := [.ref (h (k1 + 11)), .int (iz (fr))]) (rest := []) rfl hl.1 rfl (Nat.le_of_ble_eq_true rfl) dX3_replan_40 ⟨Nat.le_refl _, Nat.le_refl _⟩) hz hA hS (fun z_7 u_8 H locs hp hP hS => ?_)
      obtain ⟨σ_u_8, κ_u_8⟩ := u_8
      have hff : FFS (u2 (u2 (σ1) 15 (k1) (0)) 14 (k1) (1)) k1 fr z_7 σ_u_8 := hp
      have hG_9 : GI σ_u_8 := by obtain ⟨⟨x, q1, q2, q3⟩, _⟩ := hff; rw [q3]; exact GI_u8 hG_6 ⟨q1, q2⟩
      have q_10 : -1 ≤ z_7 ∧ z_7 ≤ 1000 := by have q0 := GI_9 hG_6 k1; rcases hff.2 with q | q <;> omega
      have hP : zB 32 h D (gC c h (σ_u_8) (κ_u_8) (ω)) H := hP
      refine zi_const hF.1 hF.2.1 dX3_replan_43 ?_
      refine zi_icmp_ne (tgt := 56) hF.1 hF.2.1 (a := z_7) (b := -1) dX3_replan_44 (by decide) (by omega) (by omega) (fun c_44 => ?_) (fun c_44 => ?_)
      · skip
        refine lv_iinc (v := iz (((i + 1 : Nat) : Int))) (lv' := [(3, .int (iz (((i + 1 : Nat) : Int)))), (4, .ref (h (k1 + 11))), (0, .ref (h (0))), (1, .int (iz (fr))), (2, .int (iz (lost)))]) hF.1 hF.2.1 dX3_replan_56 hl (k := 4) rfl ((iz_add _ _).trans (congrArg iz (by omega))) (by decide) rfl (fun ls hl => ?_)
        refine lv_goto (tgt := 4) hF.1 hF.2.1 dX3_replan_59 (by decide) ?_
        have nv_11 : ((i + 1) ≤ 16 ∧ (0 : Int) ≤ (lost) ∧ (lost) ≤ (((i + 1) : Nat) : Int)) ∧ (GI (σ_u_8)) ∧ (wc (σ_u_8) 16 ≤ 16 - (((i + 1) : Nat) : Int)) ∧ (∀ k : Nat, k < 16 → (σ_u_8) 15 k ≠ 0 → 1 ≤ (σ_u_8) 9 k) ∧ (∀ (σ9 : Nat → Nat → Int) (b9 : Int), RPn fr (16 - (i + 1)) (σ_u_8) (lost) σ9 b9 → RPn fr 16 σ 0 σ9 b9) := ⟨by omega, hG_9, by rw [wc_drop (σ := σ1) hk1 hew.2.1 (by obtain ⟨⟨x9, x1, x2, x3⟩, _⟩ := hff; rw [x3, u2_row (by decide), u2_row (by decide), u2_at]) (fun j hj => by obtain ⟨⟨x9, x1, x2, x3⟩, _⟩ := hff; rw [x3, u2_row (by decide), u2_row (by decide), u2_ne hj])]; omega, fun k q1 q2 => by have e9 : σ_u_8 9 k = σ1 9 k := (by obtain ⟨⟨x9, x1, x2, x3⟩, _⟩ := hff; rw [x3, u2_row (by decide), u2_row (by decide), u2_row (by decide)]); rw [e9]; refine hlen k q1 (fun z9 => q2 ?_); by_cases qk : k = k1; rw [qk]; exact (by obtain ⟨⟨x9, x1, x2, x3⟩, _⟩ := hff; rw [x3, u2_row (by decide), u2_row (by decide), u2_at]); rw [(show ∀ j, j ≠ k1 → σ_u_8 15 j = σ1 15 j from fun j hj => by obtain ⟨⟨x9, x1, x2, x3⟩, _⟩ := hff; rw [x3, u2_row (by decide), u2_row (by decide), u2_ne hj]) k qk]; exact z9, fun σ9 b9 q => hct σ9 b9 (by rw [show 16 - i = (16 - (i + 1)) + 1 by omega]; exact Or.inr ⟨k1, z_7, σ_u_8, hew, hff, Or.inr ⟨c_44, q⟩⟩)⟩
        exact ih_4 (i + 1, lost, σ_u_8, κ_u_8) nv_11 (by show 17 - (i + 1) < 17 - i; omega) _ _ _ hP hS (lv_sub hl [2, 3, 4, 0] rfl)
      · skip
        refine lv_aload hF.1 hF.2.1 dX3_replan_47 (lv_at hl 0 rfl) ?_
        refine zi_const hF.1 hF.2.1 dX3_replan_49 ?_
        refine z_putN hF hK hz hP hS (k := k1 + 11) (C := RX0) (T := TX0) (N := 9) (by omega) (gC_act (by omega)) rfl uin_X0 tyX0_ok nmX0 7 (by decide) nw_0 rfl (iz_nar_z (by first | (unfold b2i; split <;> omega) | omega)) (by simp) (g' := gC c h (u2 (σ_u_8) 14 (k1) (0)) (κ_u_8) (ω)) (by rw [gC_act (by omega)]; simp [u2]) (gC_act_o ⟨by decide, by decide⟩) dX3_replan_50 (fun H locs hP hS => ?_)
        have hG_12 := GI_u14 hG_9 (v := 0) (k := k1) (by omega)
        refine lv_iinc (v := iz (lost + 1)) (lv' := [(2, .int (iz (lost + 1))), (4, .ref (h (k1 + 11))), (0, .ref (h (0))), (1, .int (iz (fr))), (3, .int (iz ((i : Int))))]) hF.1 hF.2.1 dX3_replan_53 hl (k := 3) rfl ((iz_add _ _).trans (congrArg iz (by omega))) (by decide) rfl (fun ls hl => ?_)
        refine lv_iinc (v := iz (((i + 1 : Nat) : Int))) (lv' := [(3, .int (iz (((i + 1 : Nat) : Int)))), (2, .int (iz (lost + 1))), (4, .ref (h (k1 + 11))), (0, .ref (h (0))), (1, .int (iz (fr)))]) hF.1 hF.2.1 dX3_replan_56 hl (k := 4) rfl ((iz_add _ _).trans (congrArg iz (by omega))) (by decide) rfl (fun ls hl => ?_)
        refine lv_goto (tgt := 4) hF.1 hF.2.1 dX3_replan_59 (by decide) ?_
        have nv_13 : ((i + 1) ≤ 16 ∧ (0 : Int) ≤ (lost + 1) ∧ (lost + 1) ≤ (((i + 1) : Nat) : Int)) ∧ (GI (u2 (σ_u_8) 14 (k1) (0))) ∧ (wc (u2 (σ_u_8) 14 (k1) (0)) 16 ≤ 16 - (((i + 1) : Nat) : Int)) ∧ (∀ k : Nat, k < 16 → (u2 (σ_u_8) 14 (k1) (0)) 15 k ≠ 0 → 1 ≤ (u2 (σ_u_8) 14 (k1) (0)) 9 k) ∧ (∀ (σ9 : Nat → Nat → Int) (b9 : Int), RPn fr (16 - (i + 1)) (u2 (σ_u_8) 14 (k1) (0)) (lost + 1) σ9 b9 → RPn fr 16 σ 0 σ9 b9) := ⟨by omega, hG_12, by rw [wc_drop (σ := σ1) hk1 hew.2.1 (by obtain ⟨⟨x9, x1, x2, x3⟩, _⟩ := hff; rw [u2_row (by decide), x3, u2_row (by decide), u2_row (by decide), u2_at]) (fun j hj => by obtain ⟨⟨x9, x1, x2, x3⟩, _⟩ := hff; rw [u2_row (by decide), x3, u2_row (by decide), u2_row (by decide), u2_ne hj])]; omega, fun k q1 q2 => by have e9 : (u2 (σ_u_8) 14 (k1) (0)) 9 k = σ1 9 k := (by obtain ⟨⟨x9, x1, x2, x3⟩, _⟩ := hff; rw [u2_row (by decide), x3, u2_row (by decide), u2_row (by decide), u2_row (by decide)]); rw [e9]; refine hlen k q1 (fun z9 => q2 ?_); by_cases qk : k = k1; rw [qk]; exact (by obtain ⟨⟨x9, x1, x2, x3⟩, _⟩ := hff; rw [u2_row (by decide), x3, u2_row (by decide), u2_row (by decide), u2_at]); rw [(show ∀ j, j ≠ k1 → (u2 (σ_u_8) 14 (k1) (0)) 15 j = σ1 15 j from fun j hj => by obtain ⟨⟨x9, x1, x2, x3⟩, _⟩ := hff; rw [u2_row (by decide), x3, u2_row (by decide), u2_row (by decide), u2_ne hj]) k qk]; exact z9, fun σ9 b9 q => hct σ9 b9 (by rw [show 16 - i = (16 - (i + 1)) + 1 by omega]; exact Or.inr ⟨k1, z_7, σ_u_8, hew, hff, Or.inl ⟨c_44, q⟩⟩)⟩
        exact ih_4 (i + 1, lost + 1, u2 (σ_u_8) 14 (k1) (0), κ_u_8) nv_13 (by show 17 - (i + 1) < 17 - i; omega) _ _ _ hP hS (lv_sub hl [3, 4, 1, 0] rfl)
