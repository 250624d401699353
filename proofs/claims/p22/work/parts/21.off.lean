def COF (σ : Nat → Nat → Int) (sx : Nat) (σ1 : Nat → Nat → Int) : Prop := (∀ r, r ≠ 14 → r ≠ 15 → σ1 r = σ r) ∧ ∀ k, k < 16 → σ1 14 k = ie (σ 14 k ≠ 0 ∧ hit σ sx k) 0 (σ 14 k) ∧ σ1 15 k = ie (σ 14 k ≠ 0 ∧ hit σ sx k) 1 (σ 15 k)
theorem hit_congr {σ σ1 : Nat → Nat → Int} (h : ∀ r, r ≠ 14 → r ≠ 15 → σ1 r = σ r) {sx k : Nat} : hit σ1 sx k ↔ hit σ sx k := by
  unfold hit
  rw [h 16 (by decide) (by decide), h 7 (by decide) (by decide), h 8 (by decide) (by decide), h 18 (by decide) (by decide), h 17 (by decide) (by decide), h 9 (by decide) (by decide)]
def EWs (σ : Nat → Nat → Int) (k : Nat) : Prop := k < 16 ∧ σ 15 k ≠ 0 ∧ (∀ j, j < 16 → σ 15 j ≠ 0 → σ 8 k ≤ σ 8 j) ∧ ∀ j, j < k → σ 15 j ≠ 0 → σ 8 k < σ 8 j
def EWp (σ : Nat → Nat → Int) : Option Nat → Prop
  | none => ∀ j, j < 16 → σ 15 j = 0
  | some a => ∃ k, a = k + 11 ∧ EWs σ k
def EWi (σ : Nat → Nat → Int) (i : Nat) : Option Nat → Prop
  | none => ∀ j, j < i → σ 15 j = 0
  | some k => k < i ∧ σ 15 k ≠ 0 ∧ (∀ j, j < i → σ 15 j ≠ 0 → σ 8 k ≤ σ 8 j) ∧ ∀ j, j < k → σ 15 j ≠ 0 → σ 8 k < σ 8 j
noncomputable def wc (σ : Nat → Nat → Int) : Nat → Int
  | 0 => 0
  | i + 1 => wc σ i + b2i (σ 15 i ≠ 0)
theorem wc_rg {σ : Nat → Nat → Int} (n : Nat) : 0 ≤ wc σ n ∧ wc σ n ≤ n := by
  induction n with
  | zero => exact ⟨by simp [wc], by simp [wc]⟩
  | succ n ih => have := @b2i_rg (σ 15 n ≠ 0); simp only [wc]; omega
theorem wc_0 {σ : Nat → Nat → Int} {n : Nat} (h : wc σ n ≤ 0) : ∀ k, k < n → σ 15 k = 0 := by
  induction n with
  | zero => intro k hk; omega
  | succ n ih =>
    simp only [wc] at h
    have h1 := @wc_rg σ n
    have h2 := @b2i_rg (σ 15 n ≠ 0)
    intro k hk
    by_cases q : k = n
    · rw [q]
      have h3 : b2i (σ 15 n ≠ 0) = 0 := by omega
      exact Decidable.byContradiction fun z => b2i_0.mp h3 z
    · exact ih (by omega) k (by omega)
theorem wc_same {σ σ1 : Nat → Nat → Int} {n : Nat} (h : ∀ k, k < n → σ1 15 k = σ 15 k) : wc σ1 n = wc σ n := by
  induction n with
  | zero => rfl
  | succ n ih => simp only [wc]; rw [ih (fun k hk => h k (by omega)), h n (by omega)]
theorem wc_drop {σ σ1 : Nat → Nat → Int} {n k : Nat} (hk : k < n) (h0 : σ 15 k ≠ 0) (h1 : σ1 15 k = 0) (h : ∀ j, j ≠ k → σ1 15 j = σ 15 j) : wc σ1 n = wc σ n - 1 := by
  induction n with
  | zero => omega
  | succ n ih =>
    simp only [wc]
    by_cases q : k = n
    · subst q
      rw [wc_same (fun j hj => h j (by omega)), b2i_t h0, b2i_f (fun z => z h1)]; omega
    · rw [ih (by omega), h n (fun z => q z.symm)]; omega
/-- the acts that wait are planned again, one after the other -/
def RPn (fr : Int) : Nat → (Nat → Nat → Int) → Int → (Nat → Nat → Int) → Int → Prop
  | 0 => fun σ a σ' b => (∀ k, k < 16 → σ 15 k = 0) ∧ σ' = σ ∧ b = a
  | n + 1 => fun σ a σ' b => ((∀ k, k < 16 → σ 15 k = 0) ∧ σ' = σ ∧ b = a) ∨ ∃ (k : Nat) (z : Int) (σ1 : Nat → Nat → Int), EWs σ k ∧ FFS (u2 (u2 σ 15 k 0) 14 k 1) k fr z σ1 ∧ ((z = -1 ∧ RPn fr n (u2 σ1 14 k 0) (a + 1) σ' b) ∨ (z ≠ -1 ∧ RPn fr n σ1 a σ' b))
theorem RPn_end {fr : Int} {n : Nat} {σ : Nat → Nat → Int} {a : Int} (h : ∀ k, k < 16 → σ 15 k = 0) : RPn fr n σ a σ a := by
  cases n with
  | zero => exact ⟨h, rfl, rfl⟩
  | succ n => exact Or.inl ⟨h, rfl, rfl⟩

set_option maxRecDepth 100000 in
set_option maxHeartbeats 4000000 in
theorem c_X3_callOff (l : Launch) (h : Nat → Nat) (D : va_G) (c : Nat → ClassId) (σ κ : Nat → Nat → Int) (ω : Nat × (Nat → Int32) × Int32) (hinj : ∀ i j, i < 32 → j < 32 → h i = h j → i = j) (hG : GI σ) (sx : Nat) (hsx : sx < 5) :
    zMv (S := Nat → Nat → Int) l yX3_callOff cX3_callOff 6 (none) 2 41 [.ref (h (0)), .ref (h (sx + 27))] 32 h D (gT c) (gC c h (σ) (κ) (ω)) (fun σ9 => gC c h σ9 κ ω) (fun σ9 => COF σ sx σ9 ∧ GI σ9) := by
  refine zM_of (by decide) (Nat.le_of_ble_eq_true rfl) ?_
  intro p e s m below meth cd ls ⟨hF, hr, hlocks, hK⟩ hP hl
  have hz : zD (zA 32 h s.heap.size) 32 h := zD.self hinj s.heap.size
  have hA : ∀ q, s.heap.size ≤ q → zA 32 h s.heap.size q := zA_new
  generalize zA 32 h s.heap.size = A at hz hA ⊢
  have hS : va_S A s.heap s.heap [] := va_S.rf
  have hl : lv_has ls 6 [(0, .ref (h (0))), (1, .ref (h (sx + 27)))] := hl
  refine lv_aload_n hF.1 hF.2.1 dX3_callOff_0 rfl (lv_at hl 0 rfl) ?_
  refine z_get hF hK hP (k := 0) (C := RX3) (T := TX3) (N := 14) (by omega) (rfl) rfl uin_X3 5 (by decide) mw_60 (v := .ref (h (5))) rfl dX3_callOff_1 ?_
  refine lv_astore_n (lv' := [(2, .ref (h (5))), (0, .ref (h (0))), (1, .ref (h (sx + 27)))]) hF.1 hF.2.1 dX3_callOff_4 rfl hl (by decide) rfl (fun ls hl => ?_)
  refine lv_aload_n hF.1 hF.2.1 dX3_callOff_5 rfl (lv_at hl 0 rfl) ?_
  refine z_alen hF hK hP (k := 5) (by decide) rfl 2 rfl (z := 16) rfl dX3_callOff_6 ?_
  refine lv_istore_n (lv' := [(3, .int (iz (16))), (2, .ref (h (5))), (0, .ref (h (0))), (1, .ref (h (sx + 27)))]) hF.1 hF.2.1 dX3_callOff_7 rfl hl (by decide) rfl (fun ls hl => ?_)
  refine zi_const hF.1 hF.2.1 dX3_callOff_8 ?_
  refine lv_istore (lv' := [(4, .int (iz (0))), (3, .int (iz (16))), (2, .ref (h (5))), (0, .ref (h (0))), (1, .ref (h (sx + 27)))]) hF.1 hF.2.1 dX3_callOff_9 hl (by decide) rfl (fun ls hl => ?_)
  have nv_2 : ((0) ≤ 16) ∧ (GI (σ)) ∧ (∀ r : Nat, r ≠ 14 → r ≠ 15 → (σ) r = σ r) ∧ (∀ k : Nat, k < (0) → (σ) 14 k = ie (σ 14 k ≠ 0 ∧ hit σ sx k) 0 (σ 14 k) ∧ (σ) 15 k = ie (σ 14 k ≠ 0 ∧ hit σ sx k) 1 (σ 15 k)) ∧ (∀ k : Nat, (0) ≤ k → (σ) 14 k = σ 14 k ∧ (σ) 15 k = σ 15 k) := ⟨by omega, hG, fun _ _ _ => rfl, lt_0, fun _ _ => ⟨rfl, rfl⟩⟩
  refine z_loop (V := Nat × (Nat → Nat → Int)) (nL := 6) (wd := fun v_1 => gC c h (v_1.2) (κ) (ω)) (lv := fun v_1 => [(0, .ref (h (0))), (1, .ref (h (sx + 27))), (2, .ref (h (5))), (3, .int (iz (16))), (4, .int (iz ((v_1.1 : Int))))]) (stk := fun v_1 => []) (mu := fun v_1 => 17 - v_1.1) (inv := fun v_1 => (v_1.1 ≤ 16) ∧ (GI v_1.2) ∧ (∀ r : Nat, r ≠ 14 → r ≠ 15 → v_1.2 r = σ r) ∧ (∀ k : Nat, k < v_1.1 → v_1.2 14 k = ie (σ 14 k ≠ 0 ∧ hit σ sx k) 0 (σ 14 k) ∧ v_1.2 15 k = ie (σ 14 k ≠ 0 ∧ hit σ sx k) 1 (σ 15 k)) ∧ (∀ k : Nat, v_1.1 ≤ k → v_1.2 14 k = σ 14 k ∧ v_1.2 15 k = σ 15 k)) ?_ (0, σ) nv_2 hP hS (lv_sub hl [3, 4, 2, 1, 0] rfl)
  intro ⟨i, σ1⟩ hv ih_11 H locs ls hP hS hl
  have hP : zB 32 h D (gC c h (σ1) (κ) (ω)) H := hP
  have hl : lv_has ls 6 [(0, .ref (h (0))), (1, .ref (h (sx + 27))), (2, .ref (h (5))), (3, .int (iz (16))), (4, .int (iz ((i : Int))))] := hl
  obtain ⟨hi_i, hG1, hrw, hlo, hhi⟩ : (i ≤ 16) ∧ (GI σ1) ∧ (∀ r : Nat, r ≠ 14 → r ≠ 15 → σ1 r = σ r) ∧ (∀ k : Nat, k < i → σ1 14 k = ie (σ 14 k ≠ 0 ∧ hit σ sx k) 0 (σ 14 k) ∧ σ1 15 k = ie (σ 14 k ≠ 0 ∧ hit σ sx k) 1 (σ 15 k)) ∧ (∀ k : Nat, i ≤ k → σ1 14 k = σ 14 k ∧ σ1 15 k = σ 15 k) := hv
  refine lv_iload hF.1 hF.2.1 dX3_callOff_11 (lv_at hl 4 rfl) ?_
  refine lv_iload_n hF.1 hF.2.1 dX3_callOff_13 rfl (lv_at hl 3 rfl) ?_
  refine zi_icmp_ge (tgt := 58) hF.1 hF.2.1 (a := (i : Int)) (b := 16) dX3_callOff_14 (by decide) (by omega) (by omega) (fun c_14 => ?_) (fun c_14 => ?_)
  · skip
    exact z_retv (P := fun σ9 => COF σ sx σ9 ∧ GI σ9) (u := σ1) (w := fun σ9 => gC c h σ9 κ ω) hF hr hlocks hP hS (⟨⟨hrw, fun k hk => hlo k (by omega)⟩, hG1⟩) dX3_callOff_58
  · skip
    refine lv_aload_n hF.1 hF.2.1 dX3_callOff_17 rfl (lv_at hl 2 rfl) ?_
    refine lv_iload hF.1 hF.2.1 dX3_callOff_18 (lv_at hl 4 rfl) ?_
    refine z_aald hF hK hP (k := 5) (by decide) rfl 2 rfl (i := (i : Int)) (i) (rfl) (by omega) (by decide) (a := h (i + 11)) rfl dX3_callOff_20 ?_
    refine lv_astore (lv' := [(5, .ref (h (i + 11))), (0, .ref (h (0))), (1, .ref (h (sx + 27))), (2, .ref (h (5))), (3, .int (iz (16))), (4, .int (iz ((i : Int))))]) hF.1 hF.2.1 dX3_callOff_21 hl (by decide) rfl (fun ls hl => ?_)
    refine lv_aload hF.1 hF.2.1 dX3_callOff_23 (lv_at hl 0 rfl) ?_
    refine z_getN hF hK hP (k := i + 11) (C := RX0) (T := TX0) (N := 9) (by omega) (gC_act (by omega)) rfl uin_X0 7 (by decide) nw_0 (v := .int (iz (σ1 14 i))) rfl dX3_callOff_25 ?_
    have q_3 := GI_14 hG1 (i)
    refine zi_if_eq (tgt := 52) hF.1 hF.2.1 (a := σ1 14 i) dX3_callOff_28 (by decide) (by omega) (fun c_28 => ?_) (fun c_28 => ?_)
    · skip
      refine lv_iinc (v := iz (((i + 1 : Nat) : Int))) (lv' := [(4, .int (iz (((i + 1 : Nat) : Int)))), (5, .ref (h (i + 11))), (0, .ref (h (0))), (1, .ref (h (sx + 27))), (2, .ref (h (5))), (3, .int (iz (16)))]) hF.1 hF.2.1 dX3_callOff_52 hl (k := 5) rfl ((iz_add _ _).trans (congrArg iz (by omega))) (by decide) rfl (fun ls hl => ?_)
      refine lv_goto (tgt := 11) hF.1 hF.2.1 dX3_callOff_55 (by decide) ?_
      have nv_4 : ((i + 1) ≤ 16) ∧ (GI (σ1)) ∧ (∀ r : Nat, r ≠ 14 → r ≠ 15 → (σ1) r = σ r) ∧ (∀ k : Nat, k < (i + 1) → (σ1) 14 k = ie (σ 14 k ≠ 0 ∧ hit σ sx k) 0 (σ 14 k) ∧ (σ1) 15 k = ie (σ 14 k ≠ 0 ∧ hit σ sx k) 1 (σ 15 k)) ∧ (∀ k : Nat, (i + 1) ≤ k → (σ1) 14 k = σ 14 k ∧ (σ1) 15 k = σ 15 k) := ⟨by omega, hG1, hrw, lt_s hlo ⟨by rw [ie_f (fun q => by first | (have z := (hhi i (Nat.le_refl i)).1; omega) | exact c_37 ((hit_congr hrw).mpr q.2))]; exact (hhi i (Nat.le_refl i)).1, by rw [ie_f (fun q => by first | (have z := (hhi i (Nat.le_refl i)).1; omega) | exact c_37 ((hit_congr hrw).mpr q.2))]; exact (hhi i (Nat.le_refl i)).2⟩, fun k q => hhi k (by omega)⟩
      exact ih_11 (i + 1, σ1) nv_4 (by show 17 - (i + 1) < 17 - i; omega) _ _ _ hP hS (lv_sub hl [2, 3, 4, 5, 0] rfl)
    · skip
      refine lv_aload_n hF.1 hF.2.1 dX3_callOff_31 rfl (lv_at hl 2 rfl) ?_
      refine lv_aload hF.1 hF.2.1 dX3_callOff_32 (lv_at hl 0 rfl) ?_
      refine z_ci (S := Unit) (w := fun _ => gC c h σ1 κ ω) (P := fun z _ => z = b2i (hit σ1 sx i)) (z_runVN (rm := { frames := 1, cells := 0, slots := 0, locals := 20 }) hF hK hP (c_X1_hits l h D c σ1 κ ω hinj hG1 sx (by omega) i (by omega) _) mw_31 nw_22 mw_71 mw_100 mw_101 rfl rfl ⟨by decide, by decide, rfl⟩ ⟨Nat.le_of_ble_eq_true rfl, Nat.le_of_ble_eq_true rfl⟩ (k := sx + 27) (T := TX1) (N := 3) (by omega) rfl (gC_storm) rfl (As := [.ref (h (i + 11))]) (rest := []) rfl hl.1 rfl (Nat.le_of_ble_eq_true rfl) dX3_callOff_34 ⟨Nat.le_refl _, Nat.le_refl _⟩) hz hA hS (fun z_5 u_6 H locs hp hP hS => ?_)
      obtain rfl : z_5 = b2i (hit σ1 sx i) := hp
      refine zi_ifb_eq (tgt := 52) hF.1 hF.2.1 (P := hit σ1 sx i) dX3_callOff_37 (by decide) (fun c_37 => ?_) (fun c_37 => ?_)
      · skip
        refine lv_iinc (v := iz (((i + 1 : Nat) : Int))) (lv' := [(4, .int (iz (((i + 1 : Nat) : Int)))), (5, .ref (h (i + 11))), (0, .ref (h (0))), (1, .ref (h (sx + 27))), (2, .ref (h (5))), (3, .int (iz (16)))]) hF.1 hF.2.1 dX3_callOff_52 hl (k := 5) rfl ((iz_add _ _).trans (congrArg iz (by omega))) (by decide) rfl (fun ls hl => ?_)
        refine lv_goto (tgt := 11) hF.1 hF.2.1 dX3_callOff_55 (by decide) ?_
        have nv_7 : ((i + 1) ≤ 16) ∧ (GI (σ1)) ∧ (∀ r : Nat, r ≠ 14 → r ≠ 15 → (σ1) r = σ r) ∧ (∀ k : Nat, k < (i + 1) → (σ1) 14 k = ie (σ 14 k ≠ 0 ∧ hit σ sx k) 0 (σ 14 k) ∧ (σ1) 15 k = ie (σ 14 k ≠ 0 ∧ hit σ sx k) 1 (σ 15 k)) ∧ (∀ k : Nat, (i + 1) ≤ k → (σ1) 14 k = σ 14 k ∧ (σ1) 15 k = σ 15 k) := ⟨by omega, hG1, hrw, lt_s hlo ⟨by rw [ie_f (fun q => by first | (have z := (hhi i (Nat.le_refl i)).1; omega) | exact c_37 ((hit_congr hrw).mpr q.2))]; exact (hhi i (Nat.le_refl i)).1, by rw [ie_f (fun q => by first | (have z := (hhi i (Nat.le_refl i)).1; omega) | exact c_37 ((hit_congr hrw).mpr q.2))]; exact (hhi i (Nat.le_refl i)).2⟩, fun k q => hhi k (by omega)⟩
        exact ih_11 (i + 1, σ1) nv_7 (by show 17 - (i + 1) < 17 - i; omega) _ _ _ hP hS (lv_sub hl [2, 3, 4, 5, 0] rfl)
      · skip
        refine lv_aload hF.1 hF.2.1 dX3_callOff_40 (lv_at hl 0 rfl) ?_
        refine zi_const hF.1 hF.2.1 dX3_callOff_42 ?_
        refine z_putN hF hK hz hP hS (k := i + 11) (C := RX0) (T := TX0) (N := 9) (by omega) (gC_act (by omega)) rfl uin_X0 tyX0_ok nmX0 7 (by decide) nw_0 rfl (iz_nar_z (by first | (unfold b2i; split <;> omega) | omega)) (by simp) (g' := gC c h (u2 (σ1) 14 (i) (0)) (κ) (ω)) (by rw [gC_act (by omega)]; simp [u2]) (gC_act_o ⟨by decide, by decide⟩) dX3_callOff_43 (fun H locs hP hS => ?_)
        have hG_8 := GI_u14 hG1 (v := 0) (k := i) (by omega)
        refine lv_aload hF.1 hF.2.1 dX3_callOff_46 (lv_at hl 0 rfl) ?_
        refine zi_const hF.1 hF.2.1 dX3_callOff_48 ?_
        refine z_putN hF hK hz hP hS (k := i + 11) (C := RX0) (T := TX0) (N := 9) (by omega) (gC_act (by omega)) rfl uin_X0 tyX0_ok nmX0 8 (by decide) nw_11 rfl (iz_nar_z (by first | (unfold b2i; split <;> omega) | omega)) (by simp) (g' := gC c h (u2 (u2 (σ1) 14 (i) (0)) 15 (i) (1)) (κ) (ω)) (by rw [gC_act (by omega)]; simp [u2]) (gC_act_o ⟨by decide, by decide⟩) dX3_callOff_49 (fun H locs hP hS => ?_)
        have hG_9 := GI_u15 hG_8 (v := 1) (k := i) (by omega)
        refine lv_iinc (v := iz (((i + 1 : Nat) : Int))) (lv' := [(4, .int (iz (((i + 1 : Nat) : Int)))), (5, .ref (h (i + 11))), (0, .ref (h (0))), (1, .ref (h (sx + 27))), (2, .ref (h (5))), (3, .int (iz (16)))]) hF.1 hF.2.1 dX3_callOff_52 hl (k := 5) rfl ((iz_add _ _).trans (congrArg iz (by omega))) (by decide) rfl (fun ls hl => ?_)
        refine lv_goto (tgt := 11) hF.1 hF.2.1 dX3_callOff_55 (by decide) ?_
        have nv_10 : ((i + 1) ≤ 16) ∧ (GI (u2 (u2 (σ1) 14 (i) (0)) 15 (i) (1))) ∧ (∀ r : Nat, r ≠ 14 → r ≠ 15 → (u2 (u2 (σ1) 14 (i) (0)) 15 (i) (1)) r = σ r) ∧ (∀ k : Nat, k < (i + 1) → (u2 (u2 (σ1) 14 (i) (0)) 15 (i) (1)) 14 k = ie (σ 14 k ≠ 0 ∧ hit σ sx k) 0 (σ 14 k) ∧ (u2 (u2 (σ1) 14 (i) (0)) 15 (i) (1)) 15 k = ie (σ 14 k ≠ 0 ∧ hit σ sx k) 1 (σ 15 k)) ∧ (∀ k : Nat, (i + 1) ≤ k → (u2 (u2 (σ1) 14 (i) (0)) 15 (i) (1)) 14 k = σ 14 k ∧ (u2 (u2 (σ1) 14 (i) (0)) 15 (i) (1)) 15 k = σ 15 k) := ⟨by omega, hG_9, fun r q1 q2 => by rw [u2_row q2, u2_row q1]; exact hrw r q1 q2, lt_s (fun k q => by rw [u2_row (by decide), u2_ne (by omega), u2_ne (by omega), u2_row (by decide)]; exact hlo k q) ⟨by rw [u2_row (by decide), u2_at, ie_t ⟨by have z := (hhi i (Nat.le_refl i)).1; omega, (hit_congr hrw).mp c_37⟩], by rw [u2_at, ie_t ⟨by have z := (hhi i (Nat.le_refl i)).1; omega, (hit_congr hrw).mp c_37⟩]⟩, fun k q => by rw [u2_row (by decide), u2_ne (by omega), u2_ne (by omega), u2_row (by decide)]; exact hhi k (by omega)⟩
        exact ih_11 (i + 1, u2 (u2 (σ1) 14 (i) (0)) 15 (i) (1)) nv_10 (by show 17 - (i + 1) < 17 - i; omega) _ _ _ hP hS (lv_sub hl [2, 3, 4, 5, 0] rfl)

set_option maxRecDepth 100000 in
set_option maxHeartbeats 4000000 in
theorem c_X3_earliestWaiting (l : Launch) (h : Nat → Nat) (D : va_G) (c : Nat → ClassId) (σ κ : Nat → Nat → Int) (ω : Nat × (Nat → Int32) × Int32) (hinj : ∀ i j, i < 32 → j < 32 → h i = h j → i = j) (hG : GI σ)  :
    zMq (S := Unit) l yX3_earliestWaiting cX3_earliestWaiting 6 (some (.object "Festivalgrid$Act")) 0 0 [.ref (h (0))] 32 h D (gT c) (gC c h (σ) (κ) (ω)) (fun _ => gC c h σ κ ω) (fun r9 _ => EWp σ r9) := by
  refine zM_of (by decide) (Nat.le_of_ble_eq_true rfl) ?_
  intro p e s m below meth cd ls ⟨hF, hr, hlocks, hK⟩ hP hl
  have hz : zD (zA 32 h s.heap.size) 32 h := zD.self hinj s.heap.size
  have hA : ∀ q, s.heap.size ≤ q → zA 32 h s.heap.size q := zA_new
  generalize zA 32 h s.heap.size = A at hz hA ⊢
  have hS : va_S A s.heap s.heap [] := va_S.rf
  have hl : lv_has ls 6 [(0, .ref (h (0)))] := hl
  refine lv_null hF.1 hF.2.1 dX3_earliestWaiting_0 ?_
  refine lv_astore_nN (lv' := [(1, .null), (0, .ref (h (0)))]) hF.1 hF.2.1 dX3_earliestWaiting_1 rfl hl (by decide) rfl (fun ls hl => ?_)
  refine lv_aload_n hF.1 hF.2.1 dX3_earliestWaiting_2 rfl (lv_at hl 1 rfl) ?_
  refine z_get hF hK hP (k := 0) (C := RX3) (T := TX3) (N := 14) (by omega) (rfl) rfl uin_X3 5 (by decide) mw_60 (v := .ref (h (5))) rfl dX3_earliestWaiting_3 ?_
  refine lv_astore_n (lv' := [(2, .ref (h (5))), (1, .null), (0, .ref (h (0)))]) hF.1 hF.2.1 dX3_earliestWaiting_6 rfl hl (by decide) rfl (fun ls hl => ?_)
  refine lv_aload_n hF.1 hF.2.1 dX3_earliestWaiting_7 rfl (lv_at hl 0 rfl) ?_
  refine z_alen hF hK hP (k := 5) (by decide) rfl 2 rfl (z := 16) rfl dX3_earliestWaiting_8 ?_
  refine lv_istore_n (lv' := [(3, .int (iz (16))), (2, .ref (h (5))), (1, .null), (0, .ref (h (0)))]) hF.1 hF.2.1 dX3_earliestWaiting_9 rfl hl (by decide) rfl (fun ls hl => ?_)
  refine zi_const hF.1 hF.2.1 dX3_earliestWaiting_10 ?_
  refine lv_istore (lv' := [(4, .int (iz (0))), (3, .int (iz (16))), (2, .ref (h (5))), (1, .null), (0, .ref (h (0)))]) hF.1 hF.2.1 dX3_earliestWaiting_11 hl (by decide) rfl (fun ls hl => ?_)
  have nv_2 : ((0) ≤ 16) ∧ (EWi σ (0) (none)) := ⟨by omega, fun j q => absurd q (by omega)⟩
  refine z_loop (V := Nat × Option Nat) (nL := 6) (wd := fun v_1 => gC c h (σ) (κ) (ω)) (lv := fun v_1 => [(0, .ref (h (0))), (1, va_rf (v_1.2.map fun k => h (k + 11))), (2, .ref (h (5))), (3, .int (iz (16))), (4, .int (iz ((v_1.1 : Int))))]) (stk := fun v_1 => []) (mu := fun v_1 => 17 - v_1.1) (inv := fun v_1 => (v_1.1 ≤ 16) ∧ (EWi σ v_1.1 v_1.2)) ?_ (0, none) nv_2 hP hS (lv_sub hl [4, 3, 2, 1, 0] rfl)
  intro ⟨i, r⟩ hv ih_13 H locs ls hP hS hl
  have hP : zB 32 h D (gC c h (σ) (κ) (ω)) H := hP
  have hl : lv_has ls 6 [(0, .ref (h (0))), (1, va_rf (r.map fun k => h (k + 11))), (2, .ref (h (5))), (3, .int (iz (16))), (4, .int (iz ((i : Int))))] := hl
  obtain ⟨hi_i, hew⟩ : (i ≤ 16) ∧ (EWi σ i r) := hv
  rcases r with _ | k0
  · skip
    have hl : lv_has ls 6 [(0, .ref (h (0))), (1, .null), (2, .ref (h (5))), (3, .int (iz (16))), (4, .int (iz ((i : Int))))] := hl
    have hew : ∀ j, j < i → σ 15 j = 0 := hew
    refine lv_iload hF.1 hF.2.1 dX3_earliestWaiting_13 (lv_at hl 4 rfl) ?_
    refine lv_iload_n hF.1 hF.2.1 dX3_earliestWaiting_15 rfl (lv_at hl 3 rfl) ?_
    refine zi_icmp_ge (tgt := 58) hF.1 hF.2.1 (a := (i : Int)) (b := 16) dX3_earliestWaiting_16 (by decide) (by omega) (by omega) (fun c_16 => ?_) (fun c_16 => ?_)
    · skip
      refine lv_aload_nN hF.1 hF.2.1 dX3_earliestWaiting_58 rfl (lv_at hl 1 rfl) ?_
      exact z_retq (P := fun r9 _ => EWp σ r9) (r := none) (u := ()) (w := fun _ => gC c h σ κ ω) hF hr hlocks hP hS rfl (fun j q => hew j (by omega)) dX3_earliestWaiting_59
    · skip
      refine lv_aload_n hF.1 hF.2.1 dX3_earliestWaiting_19 rfl (lv_at hl 2 rfl) ?_
      refine lv_iload hF.1 hF.2.1 dX3_earliestWaiting_20 (lv_at hl 4 rfl) ?_
      refine z_aald hF hK hP (k := 5) (by decide) rfl 2 rfl (i := (i : Int)) (i) (rfl) (by omega) (by decide) (a := h (i + 11)) rfl dX3_earliestWaiting_22 ?_
      refine lv_astore (lv' := [(5, .ref (h (i + 11))), (0, .ref (h (0))), (1, .null), (2, .ref (h (5))), (3, .int (iz (16))), (4, .int (iz ((i : Int))))]) hF.1 hF.2.1 dX3_earliestWaiting_23 hl (by decide) rfl (fun ls hl => ?_)
      refine lv_aload hF.1 hF.2.1 dX3_earliestWaiting_25 (lv_at hl 0 rfl) ?_
      refine z_getN hF hK hP (k := i + 11) (C := RX0) (T := TX0) (N := 9) (by omega) (gC_act (by omega)) rfl uin_X0 8 (by decide) nw_11 (v := .int (iz (σ 15 i))) rfl dX3_earliestWaiting_27 ?_
      have q_3 := GI_15 hG (i)
      refine zi_if_eq (tgt := 52) hF.1 hF.2.1 (a := σ 15 i) dX3_earliestWaiting_30 (by decide) (by omega) (fun c_30 => ?_) (fun c_30 => ?_)
      · skip
        refine lv_iinc (v := iz (((i + 1 : Nat) : Int))) (lv' := [(4, .int (iz (((i + 1 : Nat) : Int)))), (5, .ref (h (i + 11))), (0, .ref (h (0))), (1, .null), (2, .ref (h (5))), (3, .int (iz (16)))]) hF.1 hF.2.1 dX3_earliestWaiting_52 hl (k := 5) rfl ((iz_add _ _).trans (congrArg iz (by omega))) (by decide) rfl (fun ls hl => ?_)
        refine lv_goto (tgt := 13) hF.1 hF.2.1 dX3_earliestWaiting_55 (by decide) ?_
        have nv_4 : ((i + 1) ≤ 16) ∧ (EWi σ (i + 1) (none)) := ⟨by omega, lt_s hew (by omega)⟩
        exact ih_13 (i + 1, none) nv_4 (by show 17 - (i + 1) < 17 - i; omega) _ _ _ hP hS (lv_sub hl [2, 3, 4, 5, 0] rfl)
      · skip
        refine lv_aload_nN hF.1 hF.2.1 dX3_earliestWaiting_33 rfl (lv_at hl 2 rfl) ?_
        refine lv_ifnullN (tgt := 49) hF.1 hF.2.1 dX3_earliestWaiting_34 (by decide) ?_
        refine lv_aload hF.1 hF.2.1 dX3_earliestWaiting_49 (lv_at hl 0 rfl) ?_
        refine lv_astore_n (lv' := [(1, .ref (h (i + 11))), (5, .ref (h (i + 11))), (0, .ref (h (0))), (2, .ref (h (5))), (3, .int (iz (16))), (4, .int (iz ((i : Int))))]) hF.1 hF.2.1 dX3_earliestWaiting_51 rfl hl (by decide) rfl (fun ls hl => ?_)
        refine lv_iinc (v := iz (((i + 1 : Nat) : Int))) (lv' := [(4, .int (iz (((i + 1 : Nat) : Int)))), (1, .ref (h (i + 11))), (5, .ref (h (i + 11))), (0, .ref (h (0))), (2, .ref (h (5))), (3, .int (iz (16)))]) hF.1 hF.2.1 dX3_earliestWaiting_52 hl (k := 5) rfl ((iz_add _ _).trans (congrArg iz (by omega))) (by decide) rfl (fun ls hl => ?_)
        refine lv_goto (tgt := 13) hF.1 hF.2.1 dX3_earliestWaiting_55 (by decide) ?_
        have nv_5 : ((i + 1) ≤ 16) ∧ (EWi σ (i + 1) (some i)) := ⟨by omega, ⟨by omega, by omega, fun j q1 q2 => by rcases (show j < i ∨ j = i by omega) with q | q; (first | exact absurd (hew j q) q2 | (have z := hew.2.2.1 j q q2; omega)); rw [q]; exact Int.le_refl _, fun j q1 q2 => by first | exact absurd (hew j q1) q2 | (have z := hew.2.2.1 j q1 q2; omega)⟩⟩
        exact ih_13 (i + 1, some i) nv_5 (by show 17 - (i + 1) < 17 - i; omega) _ _ _ hP hS (lv_sub hl [3, 1, 4, 5, 0] rfl)
  · skip
    have hl : lv_has ls 6 [(0, .ref (h (0))), (1, .ref (h (k0 + 11))), (2, .ref (h (5))), (3, .int (iz (16))), (4, .int (iz ((i : Int))))] := hl
    have hew : k0 < i ∧ σ 15 k0 ≠ 0 ∧ (∀ j, j < i → σ 15 j ≠ 0 → σ 8 k0 ≤ σ 8 j) ∧ ∀ j, j < k0 → σ 15 j ≠ 0 → σ 8 k0 < σ 8 j := hew
    have hk0 := hew.1
    refine lv_iload hF.1 hF.2.1 dX3_earliestWaiting_13 (lv_at hl 4 rfl) ?_
    refine lv_iload_n hF.1 hF.2.1 dX3_earliestWaiting_15 rfl (lv_at hl 3 rfl) ?_
    refine zi_icmp_ge (tgt := 58) hF.1 hF.2.1 (a := (i : Int)) (b := 16) dX3_earliestWaiting_16 (by decide) (by omega) (by omega) (fun c_16 => ?_) (fun c_16 => ?_)
    · skip
      refine lv_aload_n hF.1 hF.2.1 dX3_earliestWaiting_58 rfl (lv_at hl 1 rfl) ?_
      exact z_retq (P := fun r9 _ => EWp σ r9) (r := some (k0 + 11)) (u := ()) (w := fun _ => gC c h σ κ ω) hF hr hlocks hP hS rfl (⟨k0, rfl, by omega, hew.2.1, fun j q => hew.2.2.1 j (by omega), hew.2.2.2⟩) dX3_earliestWaiting_59
    · skip
      refine lv_aload_n hF.1 hF.2.1 dX3_earliestWaiting_19 rfl (lv_at hl 2 rfl) ?_
      refine lv_iload hF.1 hF.2.1 dX3_earliestWaiting_20 (lv_at hl 4 rfl) ?_
      refine z_aald hF hK hP (k := 5) (by decide) rfl 2 rfl (i := (i : Int)) (i) (rfl) (by omega) (by decide) (a := h (i + 11)) rfl dX3_earliestWaiting_22 ?_
      refine lv_astore (lv' := [(5, .ref (h (i + 11))), (0, .ref (h (0))), (1, .ref (h (k0 + 11))), (2, .ref (h (5))), (3, .int (iz (16))), (4, .int (iz ((i : Int))))]) hF.1 hF.2.1 dX3_earliestWaiting_23 hl (by decide) rfl (fun ls hl => ?_)
      refine lv_aload hF.1 hF.2.1 dX3_earliestWaiting_25 (lv_at hl 0 rfl) ?_
      refine z_getN hF hK hP (k := i + 11) (C := RX0) (T := TX0) (N := 9) (by omega) (gC_act (by omega)) rfl uin_X0 8 (by decide) nw_11 (v := .int (iz (σ 15 i))) rfl dX3_earliestWaiting_27 ?_
      have q_6 := GI_15 hG (i)
      refine zi_if_eq (tgt := 52) hF.1 hF.2.1 (a := σ 15 i) dX3_earliestWaiting_30 (by decide) (by omega) (fun c_30 => ?_) (fun c_30 => ?_)
      · skip
        refine lv_iinc (v := iz (((i + 1 : Nat) : Int))) (lv' := [(4, .int (iz (((i + 1 : Nat) : Int)))), (5, .ref (h (i + 11))), (0, .ref (h (0))), (1, .ref (h (k0 + 11))), (2, .ref (h (5))), (3, .int (iz (16)))]) hF.1 hF.2.1 dX3_earliestWaiting_52 hl (k := 5) rfl ((iz_add _ _).trans (congrArg iz (by omega))) (by decide) rfl (fun ls hl => ?_)
        refine lv_goto (tgt := 13) hF.1 hF.2.1 dX3_earliestWaiting_55 (by decide) ?_
        have nv_7 : ((i + 1) ≤ 16) ∧ (EWi σ (i + 1) (some k0)) := ⟨by omega, ⟨by omega, hew.2.1, fun j q1 q2 => by rcases (show j < i ∨ j = i by omega) with q | q; exact hew.2.2.1 j q q2; rw [q] at q2 ⊢; omega, hew.2.2.2⟩⟩
        exact ih_13 (i + 1, some k0) nv_7 (by show 17 - (i + 1) < 17 - i; omega) _ _ _ hP hS (lv_sub hl [2, 3, 4, 5, 0] rfl)
      · skip
        refine lv_aload_n hF.1 hF.2.1 dX3_earliestWaiting_33 rfl (lv_at hl 2 rfl) ?_
        refine lv_ifnull hF.1 hF.2.1 dX3_earliestWaiting_34 ?_
        refine lv_aload hF.1 hF.2.1 dX3_earliestWaiting_37 (lv_at hl 0 rfl) ?_
        refine z_getN hF hK hP (k := i + 11) (C := RX0) (T := TX0) (N := 9) (by omega) (gC_act (by omega)) rfl uin_X0 1 (by decide) nw_1 (v := .int (iz (σ 8 i))) rfl dX3_earliestWaiting_39 ?_
        have q_8 := GI_8 hG (i)
        refine lv_aload_n hF.1 hF.2.1 dX3_earliestWaiting_42 rfl (lv_at hl 2 rfl) ?_
        refine z_getN hF hK hP (k := k0 + 11) (C := RX0) (T := TX0) (N := 9) (by omega) (gC_act (by omega)) rfl uin_X0 1 (by decide) nw_1 (v := .int (iz (σ 8 k0))) rfl dX3_earliestWaiting_43 ?_
        have q_9 := GI_8 hG (k0)
        refine zi_icmp_ge (tgt := 52) hF.1 hF.2.1 (a := σ 8 i) (b := σ 8 k0) dX3_earliestWaiting_46 (by decide) (by omega) (by omega) (fun c_46 => ?_) (fun c_46 => ?_)
        · skip
          refine lv_iinc (v := iz (((i + 1 : Nat) : Int))) (lv' := [(4, .int (iz (((i + 1 : Nat) : Int)))), (5, .ref (h (i + 11))), (0, .ref (h (0))), (1, .ref (h (k0 + 11))), (2, .ref (h (5))), (3, .int (iz (16)))]) hF.1 hF.2.1 dX3_earliestWaiting_52 hl (k := 5) rfl ((iz_add _ _).trans (congrArg iz (by omega))) (by decide) rfl (fun ls hl => ?_)
          refine lv_goto (tgt := 13) hF.1 hF.2.1 dX3_earliestWaiting_55 (by decide) ?_
          have nv_10 : ((i + 1) ≤ 16) ∧ (EWi σ (i + 1) (some k0)) := ⟨by omega, ⟨by omega, hew.2.1, fun j q1 q2 => by rcases (show j < i ∨ j = i by omega) with q | q; exact hew.2.2.1 j q q2; rw [q] at q2 ⊢; omega, hew.2.2.2⟩⟩
          exact ih_13 (i + 1, some k0) nv_10 (by show 17 - (i + 1) < 17 - i; omega) _ _ _ hP hS (lv_sub hl [2, 3, 4, 5, 0] rfl)
        · skip
          refine lv_aload hF.1 hF.2.1 dX3_earliestWaiting_49 (lv_at hl 0 rfl) ?_
          refine lv_astore_n (lv' := [(1, .ref (h (i + 11))), (5, .ref (h (i + 11))), (0, .ref (h (0))), (2, .ref (h (5))), (3, .int (iz (16))), (4, .int (iz ((i : Int))))]) hF.1 hF.2.1 dX3_earliestWaiting_51 rfl hl (by decide) rfl (fun ls hl => ?_)
          refine lv_iinc (v := iz (((i + 1 : Nat) : Int))) (lv' := [(4, .int (iz (((i + 1 : Nat) : Int)))), (1, .ref (h (i + 11))), (5, .ref (h (i + 11))), (0, .ref (h (0))), (2, .ref (h (5))), (3, .int (iz (16)))]) hF.1 hF.2.1 dX3_earliestWaiting_52 hl (k := 5) rfl ((iz_add _ _).trans (congrArg iz (by omega))) (by decide) rfl (fun ls hl => ?_)
          refine lv_goto (tgt := 13) hF.1 hF.2.1 dX3_earliestWaiting_55 (by decide) ?_
          have nv_11 : ((i + 1) ≤ 16) ∧ (EWi σ (i + 1) (some i)) := ⟨by omega, ⟨by omega, by omega, fun j q1 q2 => by rcases (show j < i ∨ j = i by omega) with q | q; (first | exact absurd (hew j q) q2 | (have z := hew.2.2.1 j q q2; omega)); rw [q]; exact Int.le_refl _, fun j q1 q2 => by first | exact absurd (hew j q1) q2 | (have z := hew.2.2.1 j q1 q2; omega)⟩⟩
          exact ih_13 (i + 1, some i) nv_11 (by show 17 - (i + 1) < 17 - i; omega) _ _ _ hP hS (lv_sub hl [3, 1, 4, 5, 0] rfl)
