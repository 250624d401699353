theorem spL_get {τ : Nat → Nat → Int} {mi : Int} {i j : Nat} (h : j < (spL τ mi i).length) : (spL τ mi (i + 1)).getD j 0 = (spL τ mi i).getD j 0 := by
  rcases Classical.em (spk τ mi i) with q | q
  · rw [spL_t q]; simp [List.getD_eq_getElem?_getD, List.getElem?_append_left h]
  · rw [spL_f q]
theorem spH_rg {τ : Nat → Nat → Int} (hG : GI τ) (mi : Int) (j : Nat) : -1 ≤ spH τ mi j ∧ spH τ mi j ≤ 31 := GI_13 hG _
theorem spL_last {τ : Nat → Nat → Int} {mi : Int} {i : Nat} (q : spk τ mi i) : (spL τ mi (i + 1)).getD (spL τ mi i).length 0 = i := by
  rw [spL_t q]; simp [List.getD_eq_getElem?_getD]

set_option maxRecDepth 100000 in
set_option maxHeartbeats 4000000 in
theorem c_X4_isClear (l : Launch) (h : Nat → Nat) (D : va_G) (c : Nat → ClassId) (τ κ : Nat → Nat → Int) (hinj : ∀ i j, i < 17 → j < 17 → h i = h j → i = j) (hG : GI τ) (mi : Int) (hm : -100 ≤ mi ∧ mi ≤ 5000) :
    zMi (S := Nat → Nat → Int) l yX4_isClear cX4_isClear 8 (some .boolean) 2 44 [.ref (h (0)), .int (iz (mi))] 17 h D (gT c) (mC c h (τ) (κ)) (fun κ9 => mC c h τ κ9) (fun z κ9 => z = b2i (clr τ mi) ∧ κ9 1 = κ 1) := by
  refine zM_of (by decide) (Nat.le_of_ble_eq_true rfl) ?_
  intro p e s m below meth cd ls ⟨hF, hr, hlocks, hK⟩ hP hl
  have hz : zD (zA 17 h s.heap.size) 17 h := zD.self hinj s.heap.size
  have hA : ∀ q, s.heap.size ≤ q → zA 17 h s.heap.size q := zA_new
  generalize zA 17 h s.heap.size = A at hz hA ⊢
  have hS : va_S A s.heap s.heap [] := va_S.rf
  have hl : lv_has ls 8 [(0, .ref (h (0))), (1, .int (iz (mi)))] := hl
  refine zi_const hF.1 hF.2.1 dX4_isClear_0 ?_
  refine lv_istore_n (lv' := [(2, .int (iz (0))), (0, .ref (h (0))), (1, .int (iz (mi)))]) hF.1 hF.2.1 dX4_isClear_1 rfl hl (by decide) rfl (fun ls hl => ?_)
  refine zi_const hF.1 hF.2.1 dX4_isClear_2 ?_
  refine lv_istore_n (lv' := [(3, .int (iz (0))), (2, .int (iz (0))), (0, .ref (h (0))), (1, .int (iz (mi)))]) hF.1 hF.2.1 dX4_isClear_3 rfl hl (by decide) rfl (fun ls hl => ?_)
  have nv_2 : ((0) ≤ 17) ∧ ((κ) 1 = κ 1) ∧ (∀ j, j < (spL τ mi (0)).length → (κ) 0 j = τ 13 ((spL τ mi (0)).getD j 0)) := ⟨by omega, rfl, fun j q => absurd q (Nat.not_lt_zero j)⟩
  refine z_loop (V := Nat × (Nat → Nat → Int)) (nL := 8) (wd := fun v_1 => mC c h (τ) (v_1.2)) (lv := fun v_1 => [(0, .ref (h (0))), (1, .int (iz (mi))), (2, .int (iz (((spL τ mi v_1.1).length : Int)))), (3, .int (iz ((v_1.1 : Int))))]) (stk := fun v_1 => []) (mu := fun v_1 => 18 - v_1.1) (inv := fun v_1 => (v_1.1 ≤ 17) ∧ (v_1.2 1 = κ 1) ∧ (∀ j, j < (spL τ mi v_1.1).length → v_1.2 0 j = τ 13 ((spL τ mi v_1.1).getD j 0))) ?_ (0, κ) nv_2 hP hS (lv_sub hl [2, 3, 1, 0] rfl)
  intro ⟨i, κ1⟩ hv ih_4 H locs ls hP hS hl
  have hP : zB 17 h D (mC c h (τ) (κ1)) H := hP
  have hl : lv_has ls 8 [(0, .ref (h (0))), (1, .int (iz (mi))), (2, .int (iz (((spL τ mi i).length : Int)))), (3, .int (iz ((i : Int))))] := hl
  obtain ⟨hi_i, hk1, hv1⟩ : (i ≤ 17) ∧ (κ1 1 = κ 1) ∧ (∀ j, j < (spL τ mi i).length → κ1 0 j = τ 13 ((spL τ mi i).getD j 0)) := hv
  have hle := @spL_len τ mi i
  refine lv_iload_n hF.1 hF.2.1 dX4_isClear_4 rfl (lv_at hl 3 rfl) ?_
  refine zi_bipush hF.1 hF.2.1 dX4_isClear_5 (by decide) ?_
  refine zi_icmp_ge (tgt := 40) hF.1 hF.2.1 (a := (i : Int)) (b := 17) dX4_isClear_7 (by decide) (by omega) (by omega) (fun c_7 => ?_) (fun c_7 => ?_)
  · skip
    refine zi_const hF.1 hF.2.1 dX4_isClear_40 ?_
    refine lv_istore_n (lv' := [(3, .int (iz (1))), (0, .ref (h (0))), (1, .int (iz (mi))), (2, .int (iz (((spL τ mi i).length : Int))))]) hF.1 hF.2.1 dX4_isClear_41 rfl hl (by decide) rfl (fun ls hl => ?_)
    refine zi_const hF.1 hF.2.1 dX4_isClear_42 ?_
    refine lv_istore (lv' := [(4, .int (iz (0))), (3, .int (iz (1))), (0, .ref (h (0))), (1, .int (iz (mi))), (2, .int (iz (((spL τ mi i).length : Int))))]) hF.1 hF.2.1 dX4_isClear_43 hl (by decide) rfl (fun ls hl => ?_)
    have hi17 : i = 17 := by omega
    obtain ⟨n, hn⟩ : ∃ n, n = spn τ mi := ⟨_, rfl⟩
    have hn17 : n ≤ 17 := by rw [hn]; exact spL_len 17
    obtain ⟨n2, hn2⟩ : ∃ n2 : Nat, n2 = n * n := ⟨_, rfl⟩
    have hn2e : (n : Int) * (n : Int) = (n2 : Int) := by rw [hn2]; rfl
    have hn2b : n2 ≤ 289 := by rw [hn2]; exact Nat.le_trans (Nat.mul_le_mul hn17 hn17) (by decide)
    have hhd : ∀ j, j < n → κ1 0 j = spH τ mi j := fun j hj => by have z := hv1 j (by rw [hn] at hj; rw [hi17]; exact hj); rw [hi17] at z; exact z
    have e_3 : ((spL τ mi i).length : Int) = (n : Int) := by rw [hi17, hn]; rfl
    have hl : lv_has ls 8 [(4, .int (iz (0))), (3, .int (iz (1))), (0, .ref (h (0))), (1, .int (iz (mi))), (2, .int (iz ((n : Int))))] := by rw [← e_3]; exact hl
    have e_4 : (1 : Int) = b2i (∀ x, x < 0 → clear (spH τ mi) n x) := (b2i_t lt_0).symm
    have hl : lv_has ls 8 [(4, .int (iz (0))), (3, .int (iz (b2i (∀ x, x < 0 → clear (spH τ mi) n x)))), (0, .ref (h (0))), (1, .int (iz (mi))), (2, .int (iz ((n : Int))))] := by rw [← e_4]; exact hl
    have nv_6 : ((0) ≤ n2) := (by omega)
    refine z_loop (V := Nat) (nL := 8) (wd := fun v_5 => mC c h (τ) (κ1)) (lv := fun v_5 => [(0, .ref (h (0))), (1, .int (iz (mi))), (2, .int (iz ((n : Int)))), (3, .int (iz (b2i (∀ x, x < v_5 → clear (spH τ mi) n x)))), (4, .int (iz ((v_5 : Int))))]) (stk := fun v_5 => []) (mu := fun v_5 => 290 - v_5) (inv := fun v_5 => (v_5 ≤ n2)) ?_ 0 nv_6 hP hS (lv_sub hl [2, 3, 4, 1, 0] rfl)
    intro q hv ih_45 H locs ls hP hS hl
    have hP : zB 17 h D (mC c h (τ) (κ1)) H := hP
    have hl : lv_has ls 8 [(0, .ref (h (0))), (1, .int (iz (mi))), (2, .int (iz ((n : Int)))), (3, .int (iz (b2i (∀ x, x < q → clear (spH τ mi) n x)))), (4, .int (iz ((q : Int))))] := hl
    have hq_q : q ≤ n2 := hv
    refine lv_iload hF.1 hF.2.1 dX4_isClear_45 (lv_at hl 4 rfl) ?_
    refine lv_iload_n hF.1 hF.2.1 dX4_isClear_47 rfl (lv_at hl 2 rfl) ?_
    refine lv_iload_n hF.1 hF.2.1 dX4_isClear_48 rfl (lv_at hl 2 rfl) ?_
    refine zi_mulE hF.1 hF.2.1 hn2e dX4_isClear_49 ?_
    refine zi_icmp_ge (tgt := 180) hF.1 hF.2.1 (a := (q : Int)) (b := (n2 : Int)) dX4_isClear_50 (by decide) (by omega) (by omega) (fun c_50 => ?_) (fun c_50 => ?_)
    · skip
      refine lv_iload_n hF.1 hF.2.1 dX4_isClear_180 rfl (lv_at hl 3 rfl) ?_
      exact z_reti (P := fun z κ9 => z = b2i (clr τ mi) ∧ κ9 1 = κ 1) (z := b2i (∀ x, x < q → clear (spH τ mi) n x)) (u := κ1) (w := fun κ9 => mC c h τ κ9) hF hr hlocks hP hS ((iz_nar_z (by first | omega | exact b2i_rg)).1) (⟨by rw [show q = n * n by omega, hn]; rfl, hk1⟩) dX4_isClear_181
    · skip
      have hnp : 0 < n := by rcases Nat.eq_zero_or_pos n with z | z; rw [z] at hn2; omega; exact z
      obtain ⟨a, ha⟩ : ∃ a, a = q / n := ⟨_, rfl⟩
      obtain ⟨b, hb9⟩ : ∃ b, b = q % n := ⟨_, rfl⟩
      have han : a < n := by rw [ha]; exact Nat.div_lt_of_lt_mul (by rw [← hn2]; omega)
      have hbn : b < n := by rw [hb9]; exact Nat.mod_lt _ hnp
      refine lv_iload hF.1 hF.2.1 dX4_isClear_53 (lv_at hl 4 rfl) ?_
      refine lv_iload_n hF.1 hF.2.1 dX4_isClear_55 rfl (lv_at hl 2 rfl) ?_
      refine zi_divE hF.1 hF.2.1 (r := (a : Int)) (by rw [ha]; rfl) dX4_isClear_56 (by omega) (by omega) ?_
      refine lv_istore (lv' := [(5, .int (iz ((a : Int)))), (0, .ref (h (0))), (1, .int (iz (mi))), (2, .int (iz ((n : Int)))), (3, .int (iz (b2i (∀ x, x < q → clear (spH τ mi) n x)))), (4, .int (iz ((q : Int))))]) hF.1 hF.2.1 dX4_isClear_57 hl (by decide) rfl (fun ls hl => ?_)
      refine lv_iload hF.1 hF.2.1 dX4_isClear_59 (lv_at hl 5 rfl) ?_
      refine lv_iload_n hF.1 hF.2.1 dX4_isClear_61 rfl (lv_at hl 3 rfl) ?_
      refine zi_remE hF.1 hF.2.1 (r := (b : Int)) (by rw [hb9]; rfl) dX4_isClear_62 (by omega) (by omega) ?_
      refine lv_istore (lv' := [(6, .int (iz ((b : Int)))), (5, .int (iz ((a : Int)))), (0, .ref (h (0))), (1, .int (iz (mi))), (2, .int (iz ((n : Int)))), (3, .int (iz (b2i (∀ x, x < q → clear (spH τ mi) n x)))), (4, .int (iz ((q : Int))))]) hF.1 hF.2.1 dX4_isClear_63 hl (by decide) rfl (fun ls hl => ?_)
      refine lv_iload_n hF.1 hF.2.1 dX4_isClear_65 rfl (lv_at hl 5 rfl) ?_
      refine z_join (n := 17) (h := h) (D := D) (A := A) (V := Int) (tgt := 101) (nL := 8) (wd := fun v_7 => mC c h (τ) (κ1)) (lv := fun v_7 => [(0, .ref (h (0))), (1, .int (iz (mi))), (2, .int (iz ((n : Int)))), (3, .int (iz (b2i (∀ x, x < q → clear (spH τ mi) n x)))), (4, .int (iz ((q : Int)))), (5, .int (iz ((a : Int)))), (6, .int (iz ((b : Int))))]) (stk := fun v_7 => [.int (iz (v_7)), .int (iz (b2i (∀ x, x < q → clear (spH τ mi) n x)))]) (inv := fun v_7 => (v_7 = b2i (cE1 (spH τ mi) a b))) ?_ (fun jn_101 => ?_)
      · skip
        intro v hv H locs ls hP hS hl
        have hP : zB 17 h D (mC c h (τ) (κ1)) H := hP
        have hl : lv_has ls 8 [(0, .ref (h (0))), (1, .int (iz (mi))), (2, .int (iz ((n : Int)))), (3, .int (iz (b2i (∀ x, x < q → clear (spH τ mi) n x)))), (4, .int (iz ((q : Int)))), (5, .int (iz ((a : Int)))), (6, .int (iz ((b : Int))))] := hl
        have hvq : v = b2i (cE1 (spH τ mi) a b) := hv
        obtain rfl : v = b2i (cE1 (spH τ mi) a b) := hvq
        refine zi_andb hF.1 hF.2.1 (P := ∀ x, x < q → clear (spH τ mi) n x) (P' := cE1 (spH τ mi) a b) dX4_isClear_101 ?_
        refine lv_istore_n (lv' := [(3, .int (iz (b2i ((∀ x, x < q → clear (spH τ mi) n x) ∧ (cE1 (spH τ mi) a b))))), (0, .ref (h (0))), (1, .int (iz (mi))), (2, .int (iz ((n : Int)))), (4, .int (iz ((q : Int)))), (5, .int (iz ((a : Int)))), (6, .int (iz ((b : Int))))]) hF.1 hF.2.1 dX4_isClear_102 rfl hl (by decide) rfl (fun ls hl => ?_)
        refine zi_const hF.1 hF.2.1 dX4_isClear_103 ?_
        refine lv_istore (lv' := [(7, .int (iz (0))), (3, .int (iz (b2i ((∀ x, x < q → clear (spH τ mi) n x) ∧ (cE1 (spH τ mi) a b))))), (0, .ref (h (0))), (1, .int (iz (mi))), (2, .int (iz ((n : Int)))), (4, .int (iz ((q : Int)))), (5, .int (iz ((a : Int)))), (6, .int (iz ((b : Int))))]) hF.1 hF.2.1 dX4_isClear_104 hl (by decide) rfl (fun ls hl => ?_)
        have e_8 : b2i ((∀ x, x < q → clear (spH τ mi) n x) ∧ (cE1 (spH τ mi) a b)) = b2i (((∀ x, x < q → clear (spH τ mi) n x) ∧ cE1 (spH τ mi) a b) ∧ ∀ x, x < 0 → cE2 (spH τ mi) a b x) := b2i_iff (⟨fun z => ⟨z, lt_0⟩, fun z => z.1⟩)
        have hl : lv_has ls 8 [(7, .int (iz (0))), (3, .int (iz (b2i (((∀ x, x < q → clear (spH τ mi) n x) ∧ cE1 (spH τ mi) a b) ∧ ∀ x, x < 0 → cE2 (spH τ mi) a b x)))), (0, .ref (h (0))), (1, .int (iz (mi))), (2, .int (iz ((n : Int)))), (4, .int (iz ((q : Int)))), (5, .int (iz ((a : Int)))), (6, .int (iz ((b : Int))))] := by rw [← e_8]; exact hl
        have nv_10 : ((0) ≤ n) := (by omega)
        refine z_loop (V := Nat) (nL := 8) (wd := fun v_9 => mC c h (τ) (κ1)) (lv := fun v_9 => [(0, .ref (h (0))), (1, .int (iz (mi))), (2, .int (iz ((n : Int)))), (3, .int (iz (b2i (((∀ x, x < q → clear (spH τ mi) n x) ∧ cE1 (spH τ mi) a b) ∧ ∀ x, x < v_9 → cE2 (spH τ mi) a b x)))), (4, .int (iz ((q : Int)))), (5, .int (iz ((a : Int)))), (6, .int (iz ((b : Int)))), (7, .int (iz ((v_9 : Int))))]) (stk := fun v_9 => []) (mu := fun v_9 => 18 - v_9) (inv := fun v_9 => (v_9 ≤ n)) ?_ 0 nv_10 hP hS (lv_sub hl [2, 3, 4, 1, 5, 6, 7, 0] rfl)
        intro c9 hv ih_106 H locs ls hP hS hl
        have hP : zB 17 h D (mC c h (τ) (κ1)) H := hP
        have hl : lv_has ls 8 [(0, .ref (h (0))), (1, .int (iz (mi))), (2, .int (iz ((n : Int)))), (3, .int (iz (b2i (((∀ x, x < q → clear (spH τ mi) n x) ∧ cE1 (spH τ mi) a b) ∧ ∀ x, x < c9 → cE2 (spH τ mi) a b x)))), (4, .int (iz ((q : Int)))), (5, .int (iz ((a : Int)))), (6, .int (iz ((b : Int)))), (7, .int (iz ((c9 : Int))))] := hl
        have hc_c : c9 ≤ n := hv
        refine lv_iload hF.1 hF.2.1 dX4_isClear_106 (lv_at hl 7 rfl) ?_
        refine lv_iload_n hF.1 hF.2.1 dX4_isClear_108 rfl (lv_at hl 2 rfl) ?_
        refine zi_icmp_ge (tgt := 174) hF.1 hF.2.1 (a := (c9 : Int)) (b := (n : Int)) dX4_isClear_109 (by decide) (by omega) (by omega) (fun c_109 => ?_) (fun c_109 => ?_)
        · skip
          refine lv_iinc (v := iz (((q + 1 : Nat) : Int))) (lv' := [(4, .int (iz (((q + 1 : Nat) : Int)))), (0, .ref (h (0))), (1, .int (iz (mi))), (2, .int (iz ((n : Int)))), (3, .int (iz (b2i (((∀ x, x < q → clear (spH τ mi) n x) ∧ cE1 (spH τ mi) a b) ∧ ∀ x, x < c9 → cE2 (spH τ mi) a b x)))), (5, .int (iz ((a : Int)))), (6, .int (iz ((b : Int)))), (7, .int (iz ((c9 : Int))))]) hF.1 hF.2.1 dX4_isClear_174 hl (k := 4) rfl ((iz_add _ _).trans (congrArg iz (by omega))) (by decide) rfl (fun ls hl => ?_)
          refine lv_goto (tgt := 45) hF.1 hF.2.1 dX4_isClear_177 (by decide) ?_
          have e_11 : b2i (((∀ x, x < q → clear (spH τ mi) n x) ∧ cE1 (spH τ mi) a b) ∧ ∀ x, x < c9 → cE2 (spH τ mi) a b x) = b2i (∀ x, x < (q + 1) → clear (spH τ mi) n x) := b2i_iff (⟨fun z => lt_s z.1.1 ⟨by rw [← ha, ← hb9]; exact z.1.2, fun x hx => by rw [← ha, ← hb9]; exact z.2 x (by omega)⟩, fun z => ⟨⟨fun x hx => z x (by omega), by have y := (z q (by omega)).1; rw [← ha, ← hb9] at y; exact y⟩, fun x hx => by have y := (z q (by omega)).2 x (by omega); rw [← ha, ← hb9] at y; exact y⟩⟩)
          have hl : lv_has ls 8 [(4, .int (iz (((q + 1 : Nat) : Int)))), (0, .ref (h (0))), (1, .int (iz (mi))), (2, .int (iz ((n : Int)))), (3, .int (iz (b2i (∀ x, x < (q + 1) → clear (spH τ mi) n x)))), (5, .int (iz ((a : Int)))), (6, .int (iz ((b : Int)))), (7, .int (iz ((c9 : Int))))] := by rw [← e_11]; exact hl
          have nv_12 : (((q + 1)) ≤ n2) := (by omega)
          exact ih_45 (q + 1) nv_12 (by show 290 - ((q + 1)) < 290 - q; omega) _ _ _ hP hS (lv_sub hl [1, 2, 3, 4, 0] rfl)
        · skip
          refine lv_iload_n hF.1 hF.2.1 dX4_isClear_112 rfl (lv_at hl 3 rfl) ?_
          refine z_join (n := 17) (h := h) (D := D) (A := A) (V := Int) (tgt := 166) (nL := 8) (wd := fun v_13 => mC c h (τ) (κ1)) (lv := fun v_13 => [(0, .ref (h (0))), (1, .int (iz (mi))), (2, .int (iz ((n : Int)))), (3, .int (iz (b2i (((∀ x, x < q → clear (spH τ mi) n x) ∧ cE1 (spH τ mi) a b) ∧ ∀ x, x < c9 → cE2 (spH τ mi) a b x)))), (4, .int (iz ((q : Int)))), (5, .int (iz ((a : Int)))), (6, .int (iz ((b : Int)))), (7, .int (iz ((c9 : Int))))]) (stk := fun v_13 => [.int (iz (v_13)), .int (iz (b2i (((∀ x, x < q → clear (spH τ mi) n x) ∧ cE1 (spH τ mi) a b) ∧ ∀ x, x < c9 → cE2 (spH τ mi) a b x)))]) (inv := fun v_13 => (v_13 = b2i (cE2 (spH τ mi) a b c9))) ?_ (fun jn_166 => ?_)
          · skip
            intro v hv H locs ls hP hS hl
            have hP : zB 17 h D (mC c h (τ) (κ1)) H := hP
            have hl : lv_has ls 8 [(0, .ref (h (0))), (1, .int (iz (mi))), (2, .int (iz ((n : Int)))), (3, .int (iz (b2i (((∀ x, x < q → clear (spH τ mi) n x) ∧ cE1 (spH τ mi) a b) ∧ ∀ x, x < c9 → cE2 (spH τ mi) a b x)))), (4, .int (iz ((q : Int)))), (5, .int (iz ((a : Int)))), (6, .int (iz ((b : Int)))), (7, .int (iz ((c9 : Int))))] := hl
            have hvq : v = b2i (cE2 (spH τ mi) a b c9) := hv
            obtain rfl : v = b2i (cE2 (spH τ mi) a b c9) := hvq
            refine zi_andb hF.1 hF.2.1 (P := ((∀ x, x < q → clear (spH τ mi) n x) ∧ cE1 (spH τ mi) a b) ∧ ∀ x, x < c9 → cE2 (spH τ mi) a b x) (P' := cE2 (spH τ mi) a b c9) dX4_isClear_166 ?_
            refine lv_istore_n (lv' := [(3, .int (iz (b2i ((((∀ x, x < q → clear (spH τ mi) n x) ∧ cE1 (spH τ mi) a b) ∧ ∀ x, x < c9 → cE2 (spH τ mi) a b x) ∧ (cE2 (spH τ mi) a b c9))))), (0, .ref (h (0))), (1, .int (iz (mi))), (2, .int (iz ((n : Int)))), (4, .int (iz ((q : Int)))), (5, .int (iz ((a : Int)))), (6, .int (iz ((b : Int)))), (7, .int (iz ((c9 : Int))))]) hF.1 hF.2.1 dX4_isClear_167 rfl hl (by decide) rfl (fun ls hl => ?_)
            refine lv_iinc (v := iz (((c9 + 1 : Nat) : Int))) (lv' := [(7, .int (iz (((c9 + 1 : Nat) : Int)))), (3, .int (iz (b2i ((((∀ x, x < q → clear (spH τ mi) n x) ∧ cE1 (spH τ mi) a b) ∧ ∀ x, x < c9 → cE2 (spH τ mi) a b x) ∧ (cE2 (spH τ mi) a b c9))))), (0, .ref (h (0))), (1, .int (iz (mi))), (2, .int (iz ((n : Int)))), (4, .int (iz ((q : Int)))), (5, .int (iz ((a : Int)))), (6, .int (iz ((b : Int))))]) hF.1 hF.2.1 dX4_isClear_168 hl (k := 7) rfl ((iz_add _ _).trans (congrArg iz (by omega))) (by decide) rfl (fun ls hl => ?_)
            refine lv_goto (tgt := 106) hF.1 hF.2.1 dX4_isClear_171 (by decide) ?_
            have e_14 : b2i ((((∀ x, x < q → clear (spH τ mi) n x) ∧ cE1 (spH τ mi) a b) ∧ ∀ x, x < c9 → cE2 (spH τ mi) a b x) ∧ (cE2 (spH τ mi) a b c9)) = b2i (((∀ x, x < q → clear (spH τ mi) n x) ∧ cE1 (spH τ mi) a b) ∧ ∀ x, x < (c9 + 1) → cE2 (spH τ mi) a b x) := b2i_iff (and_all_s)
            have hl : lv_has ls 8 [(7, .int (iz (((c9 + 1 : Nat) : Int)))), (3, .int (iz (b2i (((∀ x, x < q → clear (spH τ mi) n x) ∧ cE1 (spH τ mi) a b) ∧ ∀ x, x < (c9 + 1) → cE2 (spH τ mi) a b x)))), (0, .ref (h (0))), (1, .int (iz (mi))), (2, .int (iz ((n : Int)))), (4, .int (iz ((q : Int)))), (5, .int (iz ((a : Int)))), (6, .int (iz ((b : Int))))] := by rw [← e_14]; exact hl
            have nv_15 : (((c9 + 1)) ≤ n) := (by omega)
            exact ih_106 (c9 + 1) nv_15 (by show 18 - ((c9 + 1)) < 18 - c9; omega) _ _ _ hP hS (lv_sub hl [2, 3, 4, 1, 5, 6, 7, 0] rfl)
          · skip
            refine lv_iload hF.1 hF.2.1 dX4_isClear_113 (lv_at hl 5 rfl) ?_
            refine lv_iload hF.1 hF.2.1 dX4_isClear_115 (lv_at hl 6 rfl) ?_
            refine zi_icmp_eq (tgt := 161) hF.1 hF.2.1 (a := (a : Int)) (b := (b : Int)) dX4_isClear_117 (by decide) (by omega) (by omega) (fun c_117 => ?_) (fun c_117 => ?_)
            · skip
              refine zi_const hF.1 hF.2.1 dX4_isClear_161 ?_
              refine lv_goto (tgt := 166) hF.1 hF.2.1 dX4_isClear_162 (by decide) ?_
              have nv_16 : (((1)) = b2i (cE2 (spH τ mi) a b c9)) := (by first | exact (b2i_t (Or.inl (by omega))).symm | exact (b2i_t (Or.inr (Or.inl (by omega)))).symm | exact (b2i_t (Or.inr (Or.inr (Or.inl (by omega))))).symm | exact (b2i_t (Or.inr (Or.inr (Or.inr (by omega))))).symm | exact (b2i_f (by rintro (z | z | z | z) <;> omega)).symm)
              exact jn_166 (1) nv_16 _ _ _ hP hS (lv_sub hl [0, 1, 2, 3, 4, 5, 6, 7] rfl)
            · skip
              refine lv_iload hF.1 hF.2.1 dX4_isClear_120 (lv_at hl 7 rfl) ?_
              refine lv_iload hF.1 hF.2.1 dX4_isClear_122 (lv_at hl 5 rfl) ?_
              refine zi_icmp_eq (tgt := 161) hF.1 hF.2.1 (a := (c9 : Int)) (b := (a : Int)) dX4_isClear_124 (by decide) (by omega) (by omega) (fun c_124 => ?_) (fun c_124 => ?_)
              · skip
                refine zi_const hF.1 hF.2.1 dX4_isClear_161 ?_
                refine lv_goto (tgt := 166) hF.1 hF.2.1 dX4_isClear_162 (by decide) ?_
                have nv_17 : (((1)) = b2i (cE2 (spH τ mi) a b c9)) := (by first | exact (b2i_t (Or.inl (by omega))).symm | exact (b2i_t (Or.inr (Or.inl (by omega)))).symm | exact (b2i_t (Or.inr (Or.inr (Or.inl (by omega))))).symm | exact (b2i_t (Or.inr (Or.inr (Or.inr (by omega))))).symm | exact (b2i_f (by rintro (z | z | z | z) <;> omega)).symm)
                exact jn_166 (1) nv_17 _ _ _ hP hS (lv_sub hl [0, 1, 2, 3, 4, 5, 6, 7] rfl)
              · skip
                refine lv_iload hF.1 hF.2.1 dX4_isClear_127 (lv_at hl 7 rfl) ?_
                refine lv_iload hF.1 hF.2.1 dX4_isClear_129 (lv_at hl 6 rfl) ?_
                refine zi_icmp_eq (tgt := 161) hF.1 hF.2.1 (a := (c9 : Int)) (b := (b : Int)) dX4_isClear_131 (by decide) (by omega) (by omega) (fun c_131 => ?_) (fun c_131 => ?_)
                · skip
                  refine zi_const hF.1 hF.2.1 dX4_isClear_161 ?_
                  refine lv_goto (tgt := 166) hF.1 hF.2.1 dX4_isClear_162 (by decide) ?_
                  have nv_18 : (((1)) = b2i (cE2 (spH τ mi) a b c9)) := (by first | exact (b2i_t (Or.inl (by omega))).symm | exact (b2i_t (Or.inr (Or.inl (by omega)))).symm | exact (b2i_t (Or.inr (Or.inr (Or.inl (by omega))))).symm | exact (b2i_t (Or.inr (Or.inr (Or.inr (by omega))))).symm | exact (b2i_f (by rintro (z | z | z | z) <;> omega)).symm)
                  exact jn_166 (1) nv_18 _ _ _ hP hS (lv_sub hl [0, 1, 2, 3, 4, 5, 6, 7] rfl)
                · skip
                  refine zi_const hF.1 hF.2.1 dX4_isClear_134 ?_
                  refine lv_aload_n hF.1 hF.2.1 dX4_isClear_135 rfl (lv_at hl 0 rfl) ?_
                  refine z_get hF hK hP (k := 0) (C := RX4) (T := TX4) (N := 22) (by omega) (rfl) rfl uin_X4 20 (by decide) mw_440 (v := .ref (h (16))) rfl dX4_isClear_136 ?_
                  refine lv_iload hF.1 hF.2.1 dX4_isClear_139 (lv_at hl 5 rfl) ?_
                  refine z_iald hF hK hP (k := 16) (by decide) rfl 0 rfl (i := (a : Int)) (a) (rfl) (by omega) (by decide) (x := iz (κ1 0 a)) rfl dX4_isClear_141 ?_
                  have q_19 := hhd (a) (by omega)
                  have q_20 := spH_rg hG mi (a)
                  refine zi_mul hF.1 hF.2.1 dX4_isClear_142 ?_
                  refine lv_aload_n hF.1 hF.2.1 dX4_isClear_143 rfl (lv_at hl 0 rfl) ?_
                  refine z_get hF hK hP (k := 0) (C := RX4) (T := TX4) (N := 22) (by omega) (rfl) rfl uin_X4 20 (by decide) mw_440 (v := .ref (h (16))) rfl dX4_isClear_144 ?_
                  refine lv_iload hF.1 hF.2.1 dX4_isClear_147 (lv_at hl 6 rfl) ?_
                  refine z_iald hF hK hP (k := 16) (by decide) rfl 0 rfl (i := (b : Int)) (b) (rfl) (by omega) (by decide) (x := iz (κ1 0 b)) rfl dX4_isClear_149 ?_
                  have q_21 := hhd (b) (by omega)
                  have q_22 := spH_rg hG mi (b)
                  refine zi_sub hF.1 hF.2.1 dX4_isClear_150 ?_
                  refine lv_aload_n hF.1 hF.2.1 dX4_isClear_151 rfl (lv_at hl 0 rfl) ?_
                  refine z_get hF hK hP (k := 0) (C := RX4) (T := TX4) (N := 22) (by omega) (rfl) rfl uin_X4 20 (by decide) mw_440 (v := .ref (h (16))) rfl dX4_isClear_152 ?_
                  refine lv_iload hF.1 hF.2.1 dX4_isClear_155 (lv_at hl 7 rfl) ?_
                  refine z_iald hF hK hP (k := 16) (by decide) rfl 0 rfl (i := (c9 : Int)) (c9) (rfl) (by omega) (by decide) (x := iz (κ1 0 c9)) rfl dX4_isClear_157 ?_
                  have q_23 := hhd (c9) (by omega)
                  have q_24 := spH_rg hG mi (c9)
                  refine zi_icmp_eq (tgt := 165) hF.1 hF.2.1 (a := (2 * (κ1 0 a)) - (κ1 0 b)) (b := κ1 0 c9) dX4_isClear_158 (by decide) (by omega) (by omega) (fun c_158 => ?_) (fun c_158 => ?_)
                  · skip
                    refine zi_const hF.1 hF.2.1 dX4_isClear_165 ?_
                    have nv_25 : (((0)) = b2i (cE2 (spH τ mi) a b c9)) := (by first | exact (b2i_t (Or.inl (by omega))).symm | exact (b2i_t (Or.inr (Or.inl (by omega)))).symm | exact (b2i_t (Or.inr (Or.inr (Or.inl (by omega))))).symm | exact (b2i_t (Or.inr (Or.inr (Or.inr (by omega))))).symm | exact (b2i_f (by rintro (z | z | z | z) <;> omega)).symm)
                    exact jn_166 (0) nv_25 _ _ _ hP hS (lv_sub hl [0, 1, 2, 3, 4, 5, 6, 7] rfl)
                  · skip
                    refine zi_const hF.1 hF.2.1 dX4_isClear_161 ?_
                    refine lv_goto (tgt := 166) hF.1 hF.2.1 dX4_isClear_162 (by decide) ?_
                    have nv_26 : (((1)) = b2i (cE2 (spH τ mi) a b c9)) := (by first | exact (b2i_t (Or.inl (by omega))).symm | exact (b2i_t (Or.inr (Or.inl (by omega)))).symm | exact (b2i_t (Or.inr (Or.inr (Or.inl (by omega))))).symm | exact (b2i_t (Or.inr (Or.inr (Or.inr (by omega))))).symm | exact (b2i_f (by rintro (z | z | z | z) <;> omega)).symm)
                    exact jn_166 (1) nv_26 _ _ _ hP hS (lv_sub hl [0, 1, 2, 3, 4, 5, 6, 7] rfl)
      · skip
        refine lv_iload hF.1 hF.2.1 dX4_isClear_66 (lv_at hl 1 rfl) ?_
        refine lv_iload hF.1 hF.2.1 dX4_isClear_68 (lv_at hl 0 rfl) ?_
        refine zi_icmp_eq (tgt := 96) hF.1 hF.2.1 (a := (a : Int)) (b := (b : Int)) dX4_isClear_70 (by decide) (by omega) (by omega) (fun c_70 => ?_) (fun c_70 => ?_)
        · skip
          refine zi_const hF.1 hF.2.1 dX4_isClear_96 ?_
          refine lv_goto (tgt := 101) hF.1 hF.2.1 dX4_isClear_97 (by decide) ?_
          have nv_27 : (((1)) = b2i (cE1 (spH τ mi) a b)) := (by first | exact (b2i_t (Or.inl (by omega))).symm | exact (b2i_t (Or.inr (by omega))).symm | exact (b2i_f (by rintro (z | z) <;> omega)).symm)
          exact jn_101 (1) nv_27 _ _ _ hP hS (lv_sub hl [2, 3, 4, 5, 6, 1, 0] rfl)
        · skip
          refine lv_aload_n hF.1 hF.2.1 dX4_isClear_73 rfl (lv_at hl 2 rfl) ?_
          refine z_get hF hK hP (k := 0) (C := RX4) (T := TX4) (N := 22) (by omega) (rfl) rfl uin_X4 20 (by decide) mw_440 (v := .ref (h (16))) rfl dX4_isClear_74 ?_
          refine lv_iload hF.1 hF.2.1 dX4_isClear_77 (lv_at hl 1 rfl) ?_
          refine z_iald hF hK hP (k := 16) (by decide) rfl 0 rfl (i := (a : Int)) (a) (rfl) (by omega) (by decide) (x := iz (κ1 0 a)) rfl dX4_isClear_79 ?_
          have q_28 := hhd (a) (by omega)
          have q_29 := spH_rg hG mi (a)
          refine lv_aload_n hF.1 hF.2.1 dX4_isClear_80 rfl (lv_at hl 2 rfl) ?_
          refine z_get hF hK hP (k := 0) (C := RX4) (T := TX4) (N := 22) (by omega) (rfl) rfl uin_X4 20 (by decide) mw_440 (v := .ref (h (16))) rfl dX4_isClear_81 ?_
          refine lv_iload hF.1 hF.2.1 dX4_isClear_84 (lv_at hl 0 rfl) ?_
          refine z_iald hF hK hP (k := 16) (by decide) rfl 0 rfl (i := (b : Int)) (b) (rfl) (by omega) (by decide) (x := iz (κ1 0 b)) rfl dX4_isClear_86 ?_
          have q_30 := hhd (b) (by omega)
          have q_31 := spH_rg hG mi (b)
          refine zi_sub hF.1 hF.2.1 dX4_isClear_87 ?_
          refine zi_const hF.1 hF.2.1 dX4_isClear_88 ?_
          refine zi_const hF.1 hF.2.1 dX4_isClear_89 ?_
          refine z_ci (S := Unit) (w := fun _ => mC c h τ κ1) (P := fun z _ => z = b2i ((-1) ≤ ((κ1 0 a) - (κ1 0 b)) ∧ ((κ1 0 a) - (κ1 0 b)) ≤ 1)) (z_runS (rm := { frames := 0, cells := 0, slots := 0, locals := 0 }) hF hK hP (c_X4_isIn l h D c τ κ1 hinj hG ((κ1 0 a) - (κ1 0 b)) (by omega) (-1) (by omega) 1 (by omega) _) (gIn_S mw_445 mw_446 mw_447 mw_443) rfl rfl ⟨rfl, by decide, by decide, rfl⟩ ⟨Nat.le_of_ble_eq_true rfl, Nat.le_of_ble_eq_true rfl⟩ (As := [.int (iz ((κ1 0 a) - (κ1 0 b))), .int (iz (-1)), .int (iz (1))]) (rest := [.int (iz (b2i (∀ x, x < q → clear (spH τ mi) n x)))]) rfl hl.1 rfl (Nat.le_of_ble_eq_true rfl) dX4_isClear_90 ⟨Nat.le_refl _, Nat.le_refl _⟩) hz hA hS (fun z_32 u_33 H locs hp hP hS => ?_)
          obtain rfl : z_32 = b2i ((-1) ≤ ((κ1 0 a) - (κ1 0 b)) ∧ ((κ1 0 a) - (κ1 0 b)) ≤ 1) := hp
          refine zi_ifb_ne (tgt := 100) hF.1 hF.2.1 (P := (-1) ≤ ((κ1 0 a) - (κ1 0 b)) ∧ ((κ1 0 a) - (κ1 0 b)) ≤ 1) dX4_isClear_93 (by decide) (fun c_93 => ?_) (fun c_93 => ?_)
          · skip
            refine zi_const hF.1 hF.2.1 dX4_isClear_100 ?_
            have nv_34 : (((0)) = b2i (cE1 (spH τ mi) a b)) := (by first | exact (b2i_t (Or.inl (by omega))).symm | exact (b2i_t (Or.inr (by omega))).symm | exact (b2i_f (by rintro (z | z) <;> omega)).symm)
            exact jn_101 (0) nv_34 _ _ _ hP hS (lv_sub hl [2, 3, 4, 5, 6, 1, 0] rfl)
          · skip
            refine zi_const hF.1 hF.2.1 dX4_isClear_96 ?_
            refine lv_goto (tgt := 101) hF.1 hF.2.1 dX4_isClear_97 (by decide) ?_
            have nv_35 : (((1)) = b2i (cE1 (spH τ mi) a b)) := (by first | exact (b2i_t (Or.inl (by omega))).symm | exact (b2i_t (Or.inr (by omega))).symm | exact (b2i_f (by rintro (z | z) <;> omega)).symm)
            exact jn_101 (1) nv_35 _ _ _ hP hS (lv_sub hl [2, 3, 4, 5, 6, 1, 0] rfl)
  · skip
    refine lv_aload_n hF.1 hF.2.1 dX4_isClear_10 rfl (lv_at hl 0 rfl) ?_
    refine lv_iload_n hF.1 hF.2.1 dX4_isClear_11 rfl (lv_at hl 3 rfl) ?_
    refine lv_iload_n hF.1 hF.2.1 dX4_isClear_12 rfl (lv_at hl 1 rfl) ?_
    refine z_ci (S := Unit) (w := fun _ => mC c h τ κ1) (P := fun z _ => z = b2i (spk τ mi i)) (z_runV (rm := { frames := 1, cells := 0, slots := 0, locals := 22 }) hF hK hP (c_X4_speaks l h D c τ κ1 hinj hG i (by omega) mi (by omega) _) (gIn_V mw_464 mw_465 mw_466 mw_447 mw_462) rfl rfl ⟨rfl, by decide, by decide, rfl⟩ ⟨Nat.le_of_ble_eq_true rfl, Nat.le_of_ble_eq_true rfl⟩ (k := 0) (T := TX4) (N := 22) (by omega) rfl (rfl) rfl (As := [.int (iz ((i : Int))), .int (iz (mi))]) (rest := []) rfl hl.1 rfl (Nat.le_of_ble_eq_true rfl) dX4_isClear_13 ⟨Nat.le_refl _, Nat.le_refl _⟩) hz hA hS (fun z_36 u_37 H locs hp hP hS => ?_)
    obtain rfl : z_36 = b2i (spk τ mi i) := hp
    refine zi_ifb_eq (tgt := 34) hF.1 hF.2.1 (P := spk τ mi i) dX4_isClear_16 (by decide) (fun c_16 => ?_) (fun c_16 => ?_)
    · skip
      refine lv_iinc (v := iz (((i + 1 : Nat) : Int))) (lv' := [(3, .int (iz (((i + 1 : Nat) : Int)))), (0, .ref (h (0))), (1, .int (iz (mi))), (2, .int (iz (((spL τ mi i).length : Int))))]) hF.1 hF.2.1 dX4_isClear_34 hl (k := 3) rfl ((iz_add _ _).trans (congrArg iz (by omega))) (by decide) rfl (fun ls hl => ?_)
      refine lv_goto (tgt := 4) hF.1 hF.2.1 dX4_isClear_37 (by decide) ?_
      have e_38 : ((spL τ mi i).length : Int) = ((spL τ mi (i + 1)).length : Int) := by rw [spL_f c_16]
      have hl : lv_has ls 8 [(3, .int (iz (((i + 1 : Nat) : Int)))), (0, .ref (h (0))), (1, .int (iz (mi))), (2, .int (iz (((spL τ mi (i + 1)).length : Int))))] := by rw [← e_38]; exact hl
      have nv_39 : ((i + 1) ≤ 17) ∧ ((κ1) 1 = κ 1) ∧ (∀ j, j < (spL τ mi (i + 1)).length → (κ1) 0 j = τ 13 ((spL τ mi (i + 1)).getD j 0)) := ⟨by omega, hk1, fun j q => by rw [spL_f c_16] at q; rw [spL_get q]; exact hv1 j q⟩
      exact ih_4 (i + 1, κ1) nv_39 (by show 18 - (i + 1) < 18 - i; omega) _ _ _ hP hS (lv_sub hl [1, 2, 3, 0] rfl)
    · skip
      refine lv_aload_n hF.1 hF.2.1 dX4_isClear_19 rfl (lv_at hl 0 rfl) ?_
      refine z_get hF hK hP (k := 0) (C := RX4) (T := TX4) (N := 22) (by omega) (rfl) rfl uin_X4 20 (by decide) mw_440 (v := .ref (h (16))) rfl dX4_isClear_20 ?_
      refine lv_iload_n hF.1 hF.2.1 dX4_isClear_23 rfl (lv_at hl 2 rfl) ?_
      refine lv_aload_n hF.1 hF.2.1 dX4_isClear_24 rfl (lv_at hl 0 rfl) ?_
      refine z_get hF hK hP (k := 0) (C := RX4) (T := TX4) (N := 22) (by omega) (rfl) rfl uin_X4 12 (by decide) mw_434 (v := .ref (h (11))) rfl dX4_isClear_25 ?_
      refine lv_iload_n hF.1 hF.2.1 dX4_isClear_28 rfl (lv_at hl 3 rfl) ?_
      refine z_iald hF hK hP (k := 11) (by decide) rfl 0 rfl (i := (i : Int)) (i) (rfl) (by omega) (by decide) (x := iz (τ 13 i)) rfl dX4_isClear_29 ?_
      have q_40 := GI_13 hG (i)
      refine z_iast hF hK hz hP hS (k := 16) (by decide) rfl 0 rfl (i := ((spL τ mi i).length : Int)) ((spL τ mi i).length) (rfl) (by omega) (by decide) (x := iz (τ 13 i)) (g' := mC c h (τ) (u2 (κ1) 0 ((spL τ mi i).length) (τ 13 i))) (by show Sum.inl (_, _, Sum.inl _) = _; rw [u2_up]) (mC_h_o) dX4_isClear_30 (fun H locs hP hS => ?_)
      refine lv_iinc (v := iz ((((spL τ mi i).length : Int)) + 1)) (lv' := [(2, .int (iz ((((spL τ mi i).length : Int)) + 1))), (0, .ref (h (0))), (1, .int (iz (mi))), (3, .int (iz ((i : Int))))]) hF.1 hF.2.1 dX4_isClear_31 hl (k := 2) rfl ((iz_add _ _).trans (congrArg iz (by omega))) (by decide) rfl (fun ls hl => ?_)
      refine lv_iinc (v := iz (((i + 1 : Nat) : Int))) (lv' := [(3, .int (iz (((i + 1 : Nat) : Int)))), (2, .int (iz ((((spL τ mi i).length : Int)) + 1))), (0, .ref (h (0))), (1, .int (iz (mi)))]) hF.1 hF.2.1 dX4_isClear_34 hl (k := 3) rfl ((iz_add _ _).trans (congrArg iz (by omega))) (by decide) rfl (fun ls hl => ?_)
      refine lv_goto (tgt := 4) hF.1 hF.2.1 dX4_isClear_37 (by decide) ?_
      have e_41 : (((spL τ mi i).length : Int)) + 1 = ((spL τ mi (i + 1)).length : Int) := by rw [spL_t c_16, List.length_append]; rfl
      have hl : lv_has ls 8 [(3, .int (iz (((i + 1 : Nat) : Int)))), (2, .int (iz (((spL τ mi (i + 1)).length : Int)))), (0, .ref (h (0))), (1, .int (iz (mi)))] := by rw [← e_41]; exact hl
      have nv_42 : ((i + 1) ≤ 17) ∧ ((u2 (κ1) 0 ((spL τ mi i).length) (τ 13 i)) 1 = κ 1) ∧ (∀ j, j < (spL τ mi (i + 1)).length → (u2 (κ1) 0 ((spL τ mi i).length) (τ 13 i)) 0 j = τ 13 ((spL τ mi (i + 1)).getD j 0)) := ⟨by omega, by rw [u2_row (by decide)]; exact hk1, fun j q => by rw [spL_t c_16, List.length_append] at q; have q : j < (spL τ mi i).length + 1 := q; rcases (show j < (spL τ mi i).length ∨ j = (spL τ mi i).length by omega) with z | z; rw [u2_ne (by omega), spL_get z]; exact hv1 j z; rw [z, u2_at, spL_last c_16]⟩
      exact ih_4 (i + 1, u2 (κ1) 0 ((spL τ mi i).length) (τ 13 i)) nv_42 (by show 18 - (i + 1) < 18 - i; omega) _ _ _ hP hS (lv_sub hl [2, 3, 1, 0] rfl)
