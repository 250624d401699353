theorem u2_self {σ : Nat → Nat → Int} {r i : Nat} : u2 σ r i (σ r i) = σ := by
  funext r' i'
  unfold u2
  by_cases h : r' = r
  · subst h
    by_cases h2 : i' = i
    · subst h2; simp
    · simp [h2]
  · simp [h]
theorem u2_u2 {σ : Nat → Nat → Int} {r i : Nat} {x y : Int} : u2 (u2 σ r i x) r i y = u2 σ r i y := by
  funext r' i'
  unfold u2
  by_cases h : r' = r
  · subst h
    by_cases h2 : i' = i
    · subst h2; simp
    · simp [h2]
  · simp [h]
/-- a start of a planned act that is fine -/
def okS (σ : Nat → Nat → Int) (k : Nat) (sx : Int) : Prop := (∀ m, sx ≤ m → m < sx + σ 9 k → pt (u2 σ 8 k m) m = 0) ∧ fits' (u2 σ 8 k sx) k
def FFS (σ : Nat → Nat → Int) (k : Nat) (fr z : Int) (σ1 : Nat → Nat → Int) : Prop := (∃ x, 0 ≤ x ∧ x ≤ 999 ∧ σ1 = u2 σ 8 k x) ∧
  ((z = -1 ∧ ∀ sx, fr ≤ sx → sx + σ 9 k ≤ 1000 → ¬ okS σ k sx) ∨ (fr ≤ z ∧ z + σ 9 k ≤ 1000 ∧ okS σ k z ∧ σ1 = u2 σ 8 k z ∧ ∀ sx, fr ≤ sx → sx < z → ¬ okS σ k sx))

set_option maxRecDepth 100000 in
set_option maxHeartbeats 4000000 in
theorem c_X3_firstFineStart (l : Launch) (h : Nat → Nat) (D : va_G) (c : Nat → ClassId) (σ κ : Nat → Nat → Int) (ω : Nat × (Nat → Int32) × Int32) (hinj : ∀ i j, i < 32 → j < 32 → h i = h j → i = j) (hG : GI σ) (k : Nat) (hk : k < 16) (fr : Int) (hfr : 0 ≤ fr ∧ fr ≤ 1000) (hlen : 1 ≤ σ 9 k) :
    zMi (S := (Nat → Nat → Int) × (Nat → Nat → Int)) l yX3_firstFineStart cX3_firstFineStart 5 (some .int) 4 97 [.ref (h (0)), .ref (h (k + 11)), .int (iz (fr))] 32 h D (gT c) (gC c h (σ) (κ) (ω)) (fun u9 => gC c h u9.1 u9.2 ω) (fun z u9 => FFS σ k fr z u9.1) := by
  refine zM_of (by decide) (Nat.le_of_ble_eq_true rfl) ?_
  intro p e s m below meth cd ls ⟨hF, hr, hlocks, hK⟩ hP hl
  have hz : zD (zA 32 h s.heap.size) 32 h := zD.self hinj s.heap.size
  have hA : ∀ q, s.heap.size ≤ q → zA 32 h s.heap.size q := zA_new
  generalize zA 32 h s.heap.size = A at hz hA ⊢
  have hS : va_S A s.heap s.heap [] := va_S.rf
  have hl : lv_has ls 5 [(0, .ref (h (0))), (1, .ref (h (k + 11))), (2, .int (iz (fr)))] := hl
  refine zi_const hF.1 hF.2.1 dX3_firstFineStart_0 ?_
  refine lv_istore_n (lv' := [(3, .int (iz (0))), (0, .ref (h (0))), (1, .ref (h (k + 11))), (2, .int (iz (fr)))]) hF.1 hF.2.1 dX3_firstFineStart_1 rfl hl (by decide) rfl (fun ls hl => ?_)
  refine lv_iload_n hF.1 hF.2.1 dX3_firstFineStart_2 rfl (lv_at hl 3 rfl) ?_
  refine lv_istore (lv' := [(4, .int (iz (fr))), (3, .int (iz (0))), (0, .ref (h (0))), (1, .ref (h (k + 11))), (2, .int (iz (fr)))]) hF.1 hF.2.1 dX3_firstFineStart_3 hl (by decide) rfl (fun ls hl => ?_)
  have hP : zB 32 h D (gC c h (u2 (σ) 8 (k) (σ 8 k)) (κ) (ω)) s.heap := by rw [u2_self]; exact hP
  have hq8 := GI_8 hG k
  have nv_2 : (fr ≤ (fr) ∧ (fr) ≤ 1000 ∧ 0 ≤ (σ 8 k) ∧ (σ 8 k) ≤ 999 ∧ (0 : Int) ≤ (0) ∧ (0) ≤ (fr) - fr) ∧ (∀ m : Int, (fr) - (0) ≤ m → m < (fr) → pt (u2 σ 8 k m) m = 0) ∧ (((0) : Int) < (fr) - fr → pt (u2 σ 8 k ((fr) - (0) - 1)) ((fr) - (0) - 1) ≠ 0) ∧ (∀ sx : Int, fr ≤ sx → sx + σ 9 k ≤ (fr) → ¬ okS σ k sx) := ⟨by omega, fun m q1 q2 => by omega, fun q => by omega, fun sx q1 q2 q3 => by omega⟩
  refine z_loop (V := Int × Int × Int × (Nat → Nat → Int)) (nL := 5) (wd := fun v_1 => gC c h (u2 (σ) 8 (k) (v_1.2.2.1)) (v_1.2.2.2) (ω)) (lv := fun v_1 => [(0, .ref (h (0))), (1, .ref (h (k + 11))), (2, .int (iz (fr))), (3, .int (iz (v_1.2.1))), (4, .int (iz (v_1.1)))]) (stk := fun v_1 => []) (mu := fun v_1 => (1001 - v_1.1).toNat) (inv := fun v_1 => (fr ≤ v_1.1 ∧ v_1.1 ≤ 1000 ∧ 0 ≤ v_1.2.2.1 ∧ v_1.2.2.1 ≤ 999 ∧ (0 : Int) ≤ v_1.2.1 ∧ v_1.2.1 ≤ v_1.1 - fr) ∧ (∀ m : Int, v_1.1 - v_1.2.1 ≤ m → m < v_1.1 → pt (u2 σ 8 k m) m = 0) ∧ ((v_1.2.1 : Int) < v_1.1 - fr → pt (u2 σ 8 k (v_1.1 - v_1.2.1 - 1)) (v_1.1 - v_1.2.1 - 1) ≠ 0) ∧ (∀ sx : Int, fr ≤ sx → sx + σ 9 k ≤ v_1.1 → ¬ okS σ k sx)) ?_ (fr, 0, σ 8 k, κ) nv_2 hP hS (lv_sub hl [2, 3, 4, 1, 0] rfl)
  intro ⟨mj, good, x, κ1⟩ hv ih_5 H locs ls hP hS hl
  have hP : zB 32 h D (gC c h (u2 (σ) 8 (k) (x)) (κ1) (ω)) H := hP
  have hl : lv_has ls 5 [(0, .ref (h (0))), (1, .ref (h (k + 11))), (2, .int (iz (fr))), (3, .int (iz (good))), (4, .int (iz (mj)))] := hl
  obtain ⟨hb, hg, hm, hn⟩ : (fr ≤ mj ∧ mj ≤ 1000 ∧ 0 ≤ x ∧ x ≤ 999 ∧ (0 : Int) ≤ good ∧ good ≤ mj - fr) ∧ (∀ m : Int, mj - good ≤ m → m < mj → pt (u2 σ 8 k m) m = 0) ∧ ((good : Int) < mj - fr → pt (u2 σ 8 k (mj - good - 1)) (mj - good - 1) ≠ 0) ∧ (∀ sx : Int, fr ≤ sx → sx + σ 9 k ≤ mj → ¬ okS σ k sx) := hv
  have hGx : GI (u2 (σ) 8 (k) (x)) := GI_u8 hG (by omega)
  refine lv_iload hF.1 hF.2.1 dX3_firstFineStart_5 (lv_at hl 4 rfl) ?_
  refine zi_sipush hF.1 hF.2.1 dX3_firstFineStart_7 (by decide) ?_
  refine zi_icmp_ge (tgt := 76) hF.1 hF.2.1 (a := mj) (b := 1000) dX3_firstFineStart_10 (by decide) (by omega) (by omega) (fun c_10 => ?_) (fun c_10 => ?_)
  · skip
    refine zi_const hF.1 hF.2.1 dX3_firstFineStart_76 ?_
    exact z_reti (P := fun z u9 => FFS σ k fr z u9.1) (z := -1) (u := (u2 (σ) 8 (k) (x), κ1)) (w := fun u9 => gC c h u9.1 u9.2 ω) hF hr hlocks hP hS (rfl) (⟨⟨_, by omega, by omega, rfl⟩, Or.inl ⟨rfl, fun sx q1 q2 => hn sx q1 (by omega)⟩⟩) dX3_firstFineStart_77
  · skip
    refine lv_aload_n hF.1 hF.2.1 dX3_firstFineStart_13 rfl (lv_at hl 1 rfl) ?_
    refine lv_iload hF.1 hF.2.1 dX3_firstFineStart_14 (lv_at hl 4 rfl) ?_
    refine z_putN hF hK hz hP hS (k := k + 11) (C := RX0) (T := TX0) (N := 9) (by omega) (gC_act (by omega)) rfl uin_X0 tyX0_ok nmX0 1 (by decide) nw_1 rfl (⟨rfl, rfl⟩) (by simp) (g' := gC c h (u2 (σ) 8 (k) (mj)) (κ1) (ω)) (by rw [gC_act (by omega)]; simp [u2]) (fun i9 hi9 hn9 => ((gC_act_o ⟨by decide, by decide⟩) i9 hi9 hn9).trans ((gC_act_o ⟨by decide, by decide⟩) i9 hi9 hn9).symm) dX3_firstFineStart_16 (fun H locs hP hS => ?_)
    have hG_3 := GI_u8 hG (v := mj) (k := k) (by omega)
    refine lv_aload_n hF.1 hF.2.1 dX3_firstFineStart_19 rfl (lv_at hl 0 rfl) ?_
    refine lv_iload hF.1 hF.2.1 dX3_firstFineStart_20 (lv_at hl 4 rfl) ?_
    refine z_ci (S := Nat → Nat → Int) (w := fun κ9 => gC c h (u2 (σ) 8 (k) (mj)) κ9 ω) (P := fun z _ => z = pt (u2 (σ) 8 (k) (mj)) mj) (z_runV (rm := { frames := 3, cells := 0, slots := 0, locals := 71 }) hF hK hP (c_X3_brokenAt l h D c (u2 (σ) 8 (k) (mj)) κ1 ω hinj hG_3 mj (by omega) _) (gIn_V mw_149 mw_150 mw_151 mw_86 mw_148) rfl rfl ⟨rfl, by decide, by decide, rfl⟩ ⟨Nat.le_of_ble_eq_true rfl, Nat.le_of_ble_eq_true rfl⟩ (k := 0) (T := TX3) (N := 14) (by omega) rfl (rfl) rfl (As := [.int (iz (mj))]) (rest := []) rfl hl.1 rfl (Nat.le_of_ble_eq_true rfl) dX3_firstFineStart_22 ⟨Nat.le_refl _, Nat.le_refl _⟩) hz hA hS (fun z_4 u_5 H locs hp hP hS => ?_)
    obtain rfl : z_4 = pt (u2 (σ) 8 (k) (mj)) mj := hp
    have hP : zB 32 h D (gC c h (u2 (σ) 8 (k) (mj)) (u_5) (ω)) H := hP
    have q_6 := @pt_rg (u2 (σ) 8 (k) (mj)) mj
    refine zi_if_ne (tgt := 34) hF.1 hF.2.1 (a := pt (u2 (σ) 8 (k) (mj)) mj) dX3_firstFineStart_25 (by decide) (by omega) (fun c_25 => ?_) (fun c_25 => ?_)
    · skip
      refine zi_const hF.1 hF.2.1 dX3_firstFineStart_34 ?_
      refine lv_istore_n (lv' := [(3, .int (iz (0))), (0, .ref (h (0))), (1, .ref (h (k + 11))), (2, .int (iz (fr))), (4, .int (iz (mj)))]) hF.1 hF.2.1 dX3_firstFineStart_35 rfl hl (by decide) rfl (fun ls hl => ?_)
      refine lv_iload_n hF.1 hF.2.1 dX3_firstFineStart_36 rfl (lv_at hl 0 rfl) ?_
      refine lv_aload_n hF.1 hF.2.1 dX3_firstFineStart_37 rfl (lv_at hl 2 rfl) ?_
      refine z_getN hF hK hP (k := k + 11) (C := RX0) (T := TX0) (N := 9) (by omega) (gC_act (by omega)) rfl uin_X0 2 (by decide) nw_9 (v := .int (iz (σ 9 k))) rfl dX3_firstFineStart_38 ?_
      have q_7 := GI_9 hG (k)
      refine zi_icmp_lt (tgt := 70) hF.1 hF.2.1 (a := 0) (b := σ 9 k) dX3_firstFineStart_41 (by decide) (by omega) (by omega) (fun c_41 => ?_) (fun c_41 => ?_)
      · skip
        refine lv_iinc (v := iz (mj + 1)) (lv' := [(4, .int (iz (mj + 1))), (3, .int (iz (0))), (0, .ref (h (0))), (1, .ref (h (k + 11))), (2, .int (iz (fr)))]) hF.1 hF.2.1 dX3_firstFineStart_70 hl (k := 4) rfl ((iz_add _ _).trans (congrArg iz (by omega))) (by decide) rfl (fun ls hl => ?_)
        refine lv_goto (tgt := 5) hF.1 hF.2.1 dX3_firstFineStart_73 (by decide) ?_
        have nv_8 : (fr ≤ (mj + 1) ∧ (mj + 1) ≤ 1000 ∧ 0 ≤ (mj) ∧ (mj) ≤ 999 ∧ (0 : Int) ≤ (0) ∧ (0) ≤ (mj + 1) - fr) ∧ (∀ m : Int, (mj + 1) - (0) ≤ m → m < (mj + 1) → pt (u2 σ 8 k m) m = 0) ∧ (((0) : Int) < (mj + 1) - fr → pt (u2 σ 8 k ((mj + 1) - (0) - 1)) ((mj + 1) - (0) - 1) ≠ 0) ∧ (∀ sx : Int, fr ≤ sx → sx + σ 9 k ≤ (mj + 1) → ¬ okS σ k sx) := ⟨by omega, fun m q1 q2 => by omega, fun q => by have e : mj + 1 - 0 - 1 = mj := (by omega); rw [e]; exact c_25, fun sx q1 q2 q3 => by by_cases q : sx + σ 9 k ≤ mj; exact hn sx q1 q q3; exact c_25 (q3.1 mj (by omega) (by omega))⟩
        exact ih_5 (mj + 1, 0, mj, u_5) nv_8 (by show (1001 - (mj + 1)).toNat < (1001 - mj).toNat; omega) _ _ _ hP hS (lv_sub hl [2, 3, 4, 1, 0] rfl)
      · skip
        exfalso; omega
    · skip
      refine lv_iload_n hF.1 hF.2.1 dX3_firstFineStart_28 rfl (lv_at hl 3 rfl) ?_
      refine zi_const hF.1 hF.2.1 dX3_firstFineStart_29 ?_
      refine zi_add hF.1 hF.2.1 dX3_firstFineStart_30 ?_
      refine lv_goto (tgt := 35) hF.1 hF.2.1 dX3_firstFineStart_31 (by decide) ?_
      refine lv_istore_n (lv' := [(3, .int (iz (good + 1))), (0, .ref (h (0))), (1, .ref (h (k + 11))), (2, .int (iz (fr))), (4, .int (iz (mj)))]) hF.1 hF.2.1 dX3_firstFineStart_35 rfl hl (by decide) rfl (fun ls hl => ?_)
      refine lv_iload_n hF.1 hF.2.1 dX3_firstFineStart_36 rfl (lv_at hl 0 rfl) ?_
      refine lv_aload_n hF.1 hF.2.1 dX3_firstFineStart_37 rfl (lv_at hl 2 rfl) ?_
      refine z_getN hF hK hP (k := k + 11) (C := RX0) (T := TX0) (N := 9) (by omega) (gC_act (by omega)) rfl uin_X0 2 (by decide) nw_9 (v := .int (iz (σ 9 k))) rfl dX3_firstFineStart_38 ?_
      have q_9 := GI_9 hG (k)
      refine zi_icmp_lt (tgt := 70) hF.1 hF.2.1 (a := good + 1) (b := σ 9 k) dX3_firstFineStart_41 (by decide) (by omega) (by omega) (fun c_41 => ?_) (fun c_41 => ?_)
      · skip
        refine lv_iinc (v := iz (mj + 1)) (lv' := [(4, .int (iz (mj + 1))), (3, .int (iz (good + 1))), (0, .ref (h (0))), (1, .ref (h (k + 11))), (2, .int (iz (fr)))]) hF.1 hF.2.1 dX3_firstFineStart_70 hl (k := 4) rfl ((iz_add _ _).trans (congrArg iz (by omega))) (by decide) rfl (fun ls hl => ?_)
        refine lv_goto (tgt := 5) hF.1 hF.2.1 dX3_firstFineStart_73 (by decide) ?_
        have nv_10 : (fr ≤ (mj + 1) ∧ (mj + 1) ≤ 1000 ∧ 0 ≤ (mj) ∧ (mj) ≤ 999 ∧ (0 : Int) ≤ (good + 1) ∧ (good + 1) ≤ (mj + 1) - fr) ∧ (∀ m : Int, (mj + 1) - (good + 1) ≤ m → m < (mj + 1) → pt (u2 σ 8 k m) m = 0) ∧ (((good + 1) : Int) < (mj + 1) - fr → pt (u2 σ 8 k ((mj + 1) - (good + 1) - 1)) ((mj + 1) - (good + 1) - 1) ≠ 0) ∧ (∀ sx : Int, fr ≤ sx → sx + σ 9 k ≤ (mj + 1) → ¬ okS σ k sx) := ⟨by omega, fun m q1 q2 => by rcases (show m < mj ∨ m = mj by omega) with q | q; exact hg m (by omega) q; rw [q]; exact c_25, fun q => by have e : mj + 1 - (good + 1) - 1 = mj - good - 1 := (by omega); rw [e]; exact hm (by omega), fun sx q1 q2 q3 => by by_cases q : sx + σ 9 k ≤ mj; exact hn sx q1 q q3; by_cases gg : good < mj - fr; exact hm gg (q3.1 (mj - good - 1) (by omega) (by omega)); omega⟩
        exact ih_5 (mj + 1, good + 1, mj, u_5) nv_10 (by show (1001 - (mj + 1)).toNat < (1001 - mj).toNat; omega) _ _ _ hP hS (lv_sub hl [2, 3, 4, 1, 0] rfl)
      · skip
        refine lv_aload_n hF.1 hF.2.1 dX3_firstFineStart_44 rfl (lv_at hl 2 rfl) ?_
        refine lv_iload hF.1 hF.2.1 dX3_firstFineStart_45 (lv_at hl 4 rfl) ?_
        refine lv_aload_n hF.1 hF.2.1 dX3_firstFineStart_47 rfl (lv_at hl 2 rfl) ?_
        refine z_getN hF hK hP (k := k + 11) (C := RX0) (T := TX0) (N := 9) (by omega) (gC_act (by omega)) rfl uin_X0 2 (by decide) nw_9 (v := .int (iz (σ 9 k))) rfl dX3_firstFineStart_48 ?_
        have q_11 := GI_9 hG (k)
        refine zi_sub hF.1 hF.2.1 dX3_firstFineStart_51 ?_
        refine zi_const hF.1 hF.2.1 dX3_firstFineStart_52 ?_
        refine zi_add hF.1 hF.2.1 dX3_firstFineStart_53 ?_
        refine z_putN hF hK hz hP hS (k := k + 11) (C := RX0) (T := TX0) (N := 9) (by omega) (gC_act (by omega)) rfl uin_X0 tyX0_ok nmX0 1 (by decide) nw_1 rfl (⟨rfl, rfl⟩) (by simp) (g' := gC c h (u2 (σ) 8 (k) ((mj - (σ 9 k)) + 1)) (u_5) (ω)) (by rw [gC_act (by omega)]; simp [u2]) (fun i9 hi9 hn9 => ((gC_act_o ⟨by decide, by decide⟩) i9 hi9 hn9).trans ((gC_act_o ⟨by decide, by decide⟩) i9 hi9 hn9).symm) dX3_firstFineStart_54 (fun H locs hP hS => ?_)
        have hG_12 := GI_u8 hG (v := (mj - (σ 9 k)) + 1) (k := k) (by omega)
        refine lv_aload_n hF.1 hF.2.1 dX3_firstFineStart_57 rfl (lv_at hl 1 rfl) ?_
        refine lv_aload_n hF.1 hF.2.1 dX3_firstFineStart_58 rfl (lv_at hl 2 rfl) ?_
        refine z_ci (S := Unit) (w := fun _ => gC c h (u2 (σ) 8 (k) ((mj - (σ 9 k)) + 1)) u_5 ω) (P := fun z _ => z = b2i (fits' (u2 (σ) 8 (k) ((mj - (σ 9 k)) + 1)) k)) (z_runV (rm := { frames := 2, cells := 0, slots := 0, locals := 42 }) hF hK hP (c_X3_fitsOnStage l h D c (u2 (σ) 8 (k) ((mj - (σ 9 k)) + 1)) u_5 ω hinj hG_12 k (by omega) _) (gIn_V mw_104 mw_105 mw_106 mw_86 mw_99) rfl rfl ⟨rfl, by decide, by decide, rfl⟩ ⟨Nat.le_of_ble_eq_true rfl, Nat.le_of_ble_eq_true rfl⟩ (k := 0) (T := TX3) (N := 14) (by omega) rfl (rfl) rfl (As := [.ref (h (k + 11))]) (rest := []) rfl hl.1 rfl (Nat.le_of_ble_eq_true rfl) dX3_firstFineStart_59 ⟨Nat.le_refl _, Nat.le_refl _⟩) hz hA hS (fun z_13 u_14 H locs hp hP hS => ?_)
        obtain rfl : z_13 = b2i (fits' (u2 (σ) 8 (k) ((mj - (σ 9 k)) + 1)) k) := hp
        refine zi_ifb_eq (tgt := 70) hF.1 hF.2.1 (P := fits' (u2 (σ) 8 (k) ((mj - (σ 9 k)) + 1)) k) dX3_firstFineStart_62 (by decide) (fun c_62 => ?_) (fun c_62 => ?_)
        · skip
          refine lv_iinc (v := iz (mj + 1)) (lv' := [(4, .int (iz (mj + 1))), (3, .int (iz (good + 1))), (0, .ref (h (0))), (1, .ref (h (k + 11))), (2, .int (iz (fr)))]) hF.1 hF.2.1 dX3_firstFineStart_70 hl (k := 4) rfl ((iz_add _ _).trans (congrArg iz (by omega))) (by decide) rfl (fun ls hl => ?_)
          refine lv_goto (tgt := 5) hF.1 hF.2.1 dX3_firstFineStart_73 (by decide) ?_
          have nv_15 : (fr ≤ (mj + 1) ∧ (mj + 1) ≤ 1000 ∧ 0 ≤ ((mj - (σ 9 k)) + 1) ∧ ((mj - (σ 9 k)) + 1) ≤ 999 ∧ (0 : Int) ≤ (good + 1) ∧ (good + 1) ≤ (mj + 1) - fr) ∧ (∀ m : Int, (mj + 1) - (good + 1) ≤ m → m < (mj + 1) → pt (u2 σ 8 k m) m = 0) ∧ (((good + 1) : Int) < (mj + 1) - fr → pt (u2 σ 8 k ((mj + 1) - (good + 1) - 1)) ((mj + 1) - (good + 1) - 1) ≠ 0) ∧ (∀ sx : Int, fr ≤ sx → sx + σ 9 k ≤ (mj + 1) → ¬ okS σ k sx) := ⟨by omega, fun m q1 q2 => by rcases (show m < mj ∨ m = mj by omega) with q | q; exact hg m (by omega) q; rw [q]; exact c_25, fun q => by have e : mj + 1 - (good + 1) - 1 = mj - good - 1 := (by omega); rw [e]; exact hm (by omega), fun sx q1 q2 q3 => by by_cases q : sx + σ 9 k ≤ mj; exact hn sx q1 q q3; have e : sx = mj - σ 9 k + 1 := (by omega); rw [e] at q3; exact c_62 q3.2⟩
          exact ih_5 (mj + 1, good + 1, (mj - (σ 9 k)) + 1, u_5) nv_15 (by show (1001 - (mj + 1)).toNat < (1001 - mj).toNat; omega) _ _ _ hP hS (lv_sub hl [2, 3, 4, 1, 0] rfl)
        · skip
          refine lv_aload_n hF.1 hF.2.1 dX3_firstFineStart_65 rfl (lv_at hl 2 rfl) ?_
          refine z_getN hF hK hP (k := k + 11) (C := RX0) (T := TX0) (N := 9) (by omega) (gC_act (by omega)) rfl uin_X0 1 (by decide) nw_1 (v := .int (iz ((mj - (σ 9 k)) + 1))) (by simp [u2]) dX3_firstFineStart_66 ?_
          exact z_reti (P := fun z u9 => FFS σ k fr z u9.1) (z := (mj - (σ 9 k)) + 1) (u := (u2 (σ) 8 (k) ((mj - (σ 9 k)) + 1), u_5)) (w := fun u9 => gC c h u9.1 u9.2 ω) hF hr hlocks hP hS (rfl) (⟨⟨_, by omega, by omega, rfl⟩, Or.inr ⟨by omega, by omega, ⟨fun m q1 q2 => by rcases (show m < mj ∨ m = mj by omega) with q | q; exact hg m (by omega) q; rw [q]; exact c_25, c_62⟩, rfl, fun sx q1 q2 => hn sx q1 (by omega)⟩⟩) dX3_firstFineStart_69
