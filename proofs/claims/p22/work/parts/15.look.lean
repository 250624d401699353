set_option maxRecDepth 100000 in
set_option maxHeartbeats 4000000 in
theorem c_fill_8 (l : Launch) (h : Nat → Nat) (D : va_G) (c : Nat → ClassId) (σ κ : Nat → Nat → Int) (ω : Nat × (Nat → Int32) × Int32) (hinj : ∀ i j, i < 32 → j < 32 → h i = h j → i = j) (hG : GI σ) (v : Int) :
    zMv (S := Nat → Nat → Int) l yJ7_fill_53178 cJ7_fill_53178 4 (none) 0 0 [.ref (h (8)), .int (iz (v))] 32 h D (gT c) (gC c h (σ) (κ) (ω)) (fun κ9 => gC c h σ κ9 ω) (fun κ9 => (∀ p, p < 3 → κ9 0 p = v) ∧ ∀ r, r ≠ 0 → κ9 r = κ r) := by
  refine zM_of (by decide) (Nat.le_of_ble_eq_true rfl) ?_
  intro p e s m below meth cd ls ⟨hF, hr, hlocks, hK⟩ hP hl
  have hz : zD (zA 32 h s.heap.size) 32 h := zD.self hinj s.heap.size
  have hA : ∀ q, s.heap.size ≤ q → zA 32 h s.heap.size q := zA_new
  generalize zA 32 h s.heap.size = A at hz hA ⊢
  have hS : va_S A s.heap s.heap [] := va_S.rf
  have hl : lv_has ls 4 [(0, .ref (h (8))), (1, .int (iz (v)))] := hl
  refine zi_const hF.1 hF.2.1 dJ7_fill_53178_0 ?_
  refine lv_istore_n (lv' := [(2, .int (iz (0))), (0, .ref (h (8))), (1, .int (iz (v)))]) hF.1 hF.2.1 dJ7_fill_53178_1 rfl hl (by decide) rfl (fun ls hl => ?_)
  refine lv_aload_n hF.1 hF.2.1 dJ7_fill_53178_2 rfl (lv_at hl 1 rfl) ?_
  refine z_alen hF hK hP (k := 8) (by decide) rfl 0 rfl (z := 3) rfl dJ7_fill_53178_3 ?_
  refine lv_istore_n (lv' := [(3, .int (iz (3))), (2, .int (iz (0))), (0, .ref (h (8))), (1, .int (iz (v)))]) hF.1 hF.2.1 dJ7_fill_53178_4 rfl hl (by decide) rfl (fun ls hl => ?_)
  have nv_2 : ((0) ≤ 3) ∧ (∀ p, p < (0) → (κ) 0 p = v) ∧ (∀ r, r ≠ 0 → (κ) r = κ r) := ⟨by omega, lt_0, fun _ _ => rfl⟩
  refine z_loop (V := Nat × (Nat → Nat → Int)) (nL := 4) (wd := fun v_1 => gC c h (σ) (v_1.2) (ω)) (lv := fun v_1 => [(0, .ref (h (8))), (1, .int (iz (v))), (2, .int (iz ((v_1.1 : Int)))), (3, .int (iz (3)))]) (stk := fun v_1 => []) (mu := fun v_1 => 4 - v_1.1) (inv := fun v_1 => (v_1.1 ≤ 3) ∧ (∀ p, p < v_1.1 → v_1.2 0 p = v) ∧ (∀ r, r ≠ 0 → v_1.2 r = κ r)) ?_ (0, κ) nv_2 hP hS (lv_sub hl [2, 3, 1, 0] rfl)
  intro ⟨i, κ1⟩ hv ih_5 H locs ls hP hS hl
  have hP : zB 32 h D (gC c h (σ) (κ1) (ω)) H := hP
  have hl : lv_has ls 4 [(0, .ref (h (8))), (1, .int (iz (v))), (2, .int (iz ((i : Int)))), (3, .int (iz (3)))] := hl
  obtain ⟨hi_i, hv1, hv2⟩ : (i ≤ 3) ∧ (∀ p, p < i → κ1 0 p = v) ∧ (∀ r, r ≠ 0 → κ1 r = κ r) := hv
  refine lv_iload_n hF.1 hF.2.1 dJ7_fill_53178_5 rfl (lv_at hl 2 rfl) ?_
  refine lv_iload_n hF.1 hF.2.1 dJ7_fill_53178_6 rfl (lv_at hl 3 rfl) ?_
  refine zi_icmp_ge (tgt := 20) hF.1 hF.2.1 (a := (i : Int)) (b := 3) dJ7_fill_53178_7 (by decide) (by omega) (by omega) (fun c_7 => ?_) (fun c_7 => ?_)
  · skip
    exact z_retv (P := fun κ9 => (∀ p, p < 3 → κ9 0 p = v) ∧ ∀ r, r ≠ 0 → κ9 r = κ r) (u := κ1) (w := fun κ9 => gC c h σ κ9 ω) hF hr hlocks hP hS (⟨fun p hp => hv1 p (by omega), hv2⟩) dJ7_fill_53178_20
  · skip
    refine lv_aload_n hF.1 hF.2.1 dJ7_fill_53178_10 rfl (lv_at hl 0 rfl) ?_
    refine lv_iload_n hF.1 hF.2.1 dJ7_fill_53178_11 rfl (lv_at hl 2 rfl) ?_
    refine lv_iload_n hF.1 hF.2.1 dJ7_fill_53178_12 rfl (lv_at hl 1 rfl) ?_
    refine z_iast hF hK hz hP hS (k := 8) (by decide) rfl 0 rfl (i := (i : Int)) (i) (rfl) (by omega) (by decide) (x := iz (v)) (g' := gC c h (σ) (u2 (κ1) 0 (i) (v)) (ω)) (by show Sum.inl (_, _, Sum.inl _) = _; rw [u2_up]) (gC_k_o (by decide)) dJ7_fill_53178_13 (fun H locs hP hS => ?_)
    refine lv_iinc (v := iz (((i + 1 : Nat) : Int))) (lv' := [(2, .int (iz (((i + 1 : Nat) : Int)))), (0, .ref (h (8))), (1, .int (iz (v))), (3, .int (iz (3)))]) hF.1 hF.2.1 dJ7_fill_53178_14 hl (k := 2) rfl ((iz_add _ _).trans (congrArg iz (by omega))) (by decide) rfl (fun ls hl => ?_)
    refine lv_goto (tgt := 5) hF.1 hF.2.1 dJ7_fill_53178_17 (by decide) ?_
    have nv_3 : ((i + 1) ≤ 3) ∧ (∀ p, p < (i + 1) → (u2 (κ1) 0 (i) (v)) 0 p = v) ∧ (∀ r, r ≠ 0 → (u2 (κ1) 0 (i) (v)) r = κ r) := ⟨by omega, lt_s (fun p hp => by rw [u2_ne (by omega)]; exact hv1 p hp) (u2_at), fun r hr => by rw [u2_row hr]; exact hv2 r hr⟩
    exact ih_5 (i + 1, u2 (κ1) 0 (i) (v)) nv_3 (by show 4 - (i + 1) < 4 - i; omega) _ _ _ hP hS (lv_sub hl [1, 2, 0, 3] rfl)

set_option maxRecDepth 100000 in
set_option maxHeartbeats 4000000 in
theorem c_fill_9 (l : Launch) (h : Nat → Nat) (D : va_G) (c : Nat → ClassId) (σ κ : Nat → Nat → Int) (ω : Nat × (Nat → Int32) × Int32) (hinj : ∀ i j, i < 32 → j < 32 → h i = h j → i = j) (hG : GI σ) (v : Int) :
    zMv (S := Nat → Nat → Int) l yJ7_fill_53178 cJ7_fill_53178 4 (none) 0 0 [.ref (h (9)), .int (iz (v))] 32 h D (gT c) (gC c h (σ) (κ) (ω)) (fun κ9 => gC c h σ κ9 ω) (fun κ9 => (∀ p, p < 3 → κ9 1 p = v) ∧ ∀ r, r ≠ 1 → κ9 r = κ r) := by
  refine zM_of (by decide) (Nat.le_of_ble_eq_true rfl) ?_
  intro p e s m below meth cd ls ⟨hF, hr, hlocks, hK⟩ hP hl
  have hz : zD (zA 32 h s.heap.size) 32 h := zD.self hinj s.heap.size
  have hA : ∀ q, s.heap.size ≤ q → zA 32 h s.heap.size q := zA_new
  generalize zA 32 h s.heap.size = A at hz hA ⊢
  have hS : va_S A s.heap s.heap [] := va_S.rf
  have hl : lv_has ls 4 [(0, .ref (h (9))), (1, .int (iz (v)))] := hl
  refine zi_const hF.1 hF.2.1 dJ7_fill_53178_0 ?_
  refine lv_istore_n (lv' := [(2, .int (iz (0))), (0, .ref (h (9))), (1, .int (iz (v)))]) hF.1 hF.2.1 dJ7_fill_53178_1 rfl hl (by decide) rfl (fun ls hl => ?_)
  refine lv_aload_n hF.1 hF.2.1 dJ7_fill_53178_2 rfl (lv_at hl 1 rfl) ?_
  refine z_alen hF hK hP (k := 9) (by decide) rfl 0 rfl (z := 3) rfl dJ7_fill_53178_3 ?_
  refine lv_istore_n (lv' := [(3, .int (iz (3))), (2, .int (iz (0))), (0, .ref (h (9))), (1, .int (iz (v)))]) hF.1 hF.2.1 dJ7_fill_53178_4 rfl hl (by decide) rfl (fun ls hl => ?_)
  have nv_2 : ((0) ≤ 3) ∧ (∀ p, p < (0) → (κ) 1 p = v) ∧ (∀ r, r ≠ 1 → (κ) r = κ r) := ⟨by omega, lt_0, fun _ _ => rfl⟩
  refine z_loop (V := Nat × (Nat → Nat → Int)) (nL := 4) (wd := fun v_1 => gC c h (σ) (v_1.2) (ω)) (lv := fun v_1 => [(0, .ref (h (9))), (1, .int (iz (v))), (2, .int (iz ((v_1.1 : Int)))), (3, .int (iz (3)))]) (stk := fun v_1 => []) (mu := fun v_1 => 4 - v_1.1) (inv := fun v_1 => (v_1.1 ≤ 3) ∧ (∀ p, p < v_1.1 → v_1.2 1 p = v) ∧ (∀ r, r ≠ 1 → v_1.2 r = κ r)) ?_ (0, κ) nv_2 hP hS (lv_sub hl [2, 3, 1, 0] rfl)
  intro ⟨i, κ1⟩ hv ih_5 H locs ls hP hS hl
  have hP : zB 32 h D (gC c h (σ) (κ1) (ω)) H := hP
  have hl : lv_has ls 4 [(0, .ref (h (9))), (1, .int (iz (v))), (2, .int (iz ((i : Int)))), (3, .int (iz (3)))] := hl
  obtain ⟨hi_i, hv1, hv2⟩ : (i ≤ 3) ∧ (∀ p, p < i → κ1 1 p = v) ∧ (∀ r, r ≠ 1 → κ1 r = κ r) := hv
  refine lv_iload_n hF.1 hF.2.1 dJ7_fill_53178_5 rfl (lv_at hl 2 rfl) ?_
  refine lv_iload_n hF.1 hF.2.1 dJ7_fill_53178_6 rfl (lv_at hl 3 rfl) ?_
  refine zi_icmp_ge (tgt := 20) hF.1 hF.2.1 (a := (i : Int)) (b := 3) dJ7_fill_53178_7 (by decide) (by omega) (by omega) (fun c_7 => ?_) (fun c_7 => ?_)
  · skip
    exact z_retv (P := fun κ9 => (∀ p, p < 3 → κ9 1 p = v) ∧ ∀ r, r ≠ 1 → κ9 r = κ r) (u := κ1) (w := fun κ9 => gC c h σ κ9 ω) hF hr hlocks hP hS (⟨fun p hp => hv1 p (by omega), hv2⟩) dJ7_fill_53178_20
  · skip
    refine lv_aload_n hF.1 hF.2.1 dJ7_fill_53178_10 rfl (lv_at hl 0 rfl) ?_
    refine lv_iload_n hF.1 hF.2.1 dJ7_fill_53178_11 rfl (lv_at hl 2 rfl) ?_
    refine lv_iload_n hF.1 hF.2.1 dJ7_fill_53178_12 rfl (lv_at hl 1 rfl) ?_
    refine z_iast hF hK hz hP hS (k := 9) (by decide) rfl 0 rfl (i := (i : Int)) (i) (rfl) (by omega) (by decide) (x := iz (v)) (g' := gC c h (σ) (u2 (κ1) 1 (i) (v)) (ω)) (by show Sum.inl (_, _, Sum.inl _) = _; rw [u2_up]) (gC_k_o (by decide)) dJ7_fill_53178_13 (fun H locs hP hS => ?_)
    refine lv_iinc (v := iz (((i + 1 : Nat) : Int))) (lv' := [(2, .int (iz (((i + 1 : Nat) : Int)))), (0, .ref (h (9))), (1, .int (iz (v))), (3, .int (iz (3)))]) hF.1 hF.2.1 dJ7_fill_53178_14 hl (k := 2) rfl ((iz_add _ _).trans (congrArg iz (by omega))) (by decide) rfl (fun ls hl => ?_)
    refine lv_goto (tgt := 5) hF.1 hF.2.1 dJ7_fill_53178_17 (by decide) ?_
    have nv_3 : ((i + 1) ≤ 3) ∧ (∀ p, p < (i + 1) → (u2 (κ1) 1 (i) (v)) 1 p = v) ∧ (∀ r, r ≠ 1 → (u2 (κ1) 1 (i) (v)) r = κ r) := ⟨by omega, lt_s (fun p hp => by rw [u2_ne (by omega)]; exact hv1 p hp) (u2_at), fun r hr => by rw [u2_row hr]; exact hv2 r hr⟩
    exact ih_5 (i + 1, u2 (κ1) 1 (i) (v)) nv_3 (by show 4 - (i + 1) < 4 - i; omega) _ _ _ hP hS (lv_sub hl [1, 2, 0, 3] rfl)

abbrev addP (σ κ : Nat → Nat → Int) (k : Nat) (w : Int) (κ1 : Nat → Nat → Int) : Prop := (∀ p, p < 3 → κ1 0 p = κ 0 p + ic (σ 10 k = (p : Nat)) (σ 11 k)) ∧ (∀ hs, hs < 3 → κ1 1 hs = κ 1 hs + nz σ k hs w) ∧ κ1 2 0 = ie (σ 13 k ≠ -1) (ior (κ 2 0) (ish 1 (σ 13 k))) (κ 2 0) ∧ κ1 2 1 = ie (σ 13 k ≠ -1) (b2i (κ 2 1 ≠ 0 ∨ hc (κ 2 0) (σ 13 k - 1) ∨ hc (κ 2 0) (σ 13 k) ∨ hc (κ 2 0) (σ 13 k + 1))) (κ 2 1)
theorem LK_skip {σ κ : Nat → Nat → Int} {mi : Int} {i : Nat} (h : LK σ mi i κ) (hn : ¬ pl σ i mi) : LK σ mi (i + 1) κ := by
  obtain ⟨h1, h2, h3, h4⟩ := h
  refine ⟨fun p hp => ?_, fun p hp => ?_, ?_, ?_⟩
  · rw [h1 p hp]; simp only [ldS]; rw [ic_f (fun q => hn q.1)]; omega
  · rw [h2 p hp]; simp only [nsS]; rw [ic_f hn]; omega
  · rw [h3]; simp only [chS]; rw [ie_f (fun q => hn q.1)]
  · rw [h4]; simp only [tcS]; rw [ie_f (fun q => hn q.1)]
theorem LK_add {σ κ κ1 : Nat → Nat → Int} {mi : Int} {i : Nat} (h : LK σ mi i κ) (hp : pl σ i mi) (ha : addP σ κ i (wd σ mi) κ1) : LK σ mi (i + 1) κ1 := by
  obtain ⟨h1, h2, h3, h4⟩ := h
  obtain ⟨a1, a2, a3, a4⟩ := ha
  refine ⟨fun p hp' => ?_, fun p hp' => ?_, ?_, ?_⟩
  · rw [a1 p hp', h1 p hp']; simp only [ldS]
    by_cases q : σ 10 i = p
    · rw [ic_t q, ic_t ⟨hp, q⟩]
    · rw [ic_f q, ic_f (fun z => q z.2)]
  · rw [a2 p hp', h2 p hp']; simp only [nsS]; rw [ic_t hp]
  · rw [a3, h3]; simp only [chS]
    by_cases q : σ 13 i ≠ -1
    · rw [ie_t q, ie_t ⟨hp, q⟩]
    · rw [ie_f q, ie_f (fun z => q z.2)]
  · rw [a4, h3, h4]; simp only [tcS]
    by_cases q : σ 13 i ≠ -1
    · rw [ie_t q, ie_t ⟨hp, q⟩]
    · rw [ie_f q, ie_f (fun z => q z.2)]
theorem pt_2 {σ : Nat → Nat → Int} {mi : Int} (h : bad2 σ mi) : pt σ mi = 2 := ie_t h
theorem pt_3 {σ : Nat → Nat → Int} {mi : Int} (h : ¬ bad2 σ mi) (h3 : bad3 σ mi) : pt σ mi = 3 := by unfold pt; rw [ie_f h, ie_t h3]
theorem pt_4 {σ : Nat → Nat → Int} {mi : Int} (h : ¬ bad2 σ mi) (h3 : ¬ bad3 σ mi) (h4 : bad4 σ mi) : pt σ mi = 4 := by unfold pt; rw [ie_f h, ie_f h3, ie_t h4]
theorem pt_0 {σ : Nat → Nat → Int} {mi : Int} (h : ¬ bad2 σ mi) (h3 : ¬ bad3 σ mi) (h4 : ¬ bad4 σ mi) : pt σ mi = 0 := by unfold pt; rw [ie_f h, ie_f h3, ie_f h4]
theorem u2_ic {κ : Nat → Nat → Int} {r p : Nat} {a x : Int} (h : 0 ≤ a) : u2 κ r a.toNat (κ r a.toNat + x) r p = κ r p + ic (a = p) x := by
  by_cases hp : p = a.toNat
  · rw [hp, u2_at, ic_t (by omega)]
  · rw [u2_ne hp, ic_f (by omega)]; omega

set_option maxRecDepth 100000 in
set_option maxHeartbeats 4000000 in
theorem c_X3_addToLook (l : Launch) (h : Nat → Nat) (D : va_G) (c : Nat → ClassId) (σ κ : Nat → Nat → Int) (ω : Nat × (Nat → Int32) × Int32) (hinj : ∀ i j, i < 32 → j < 32 → h i = h j → i = j) (hG : GI σ) (k : Nat) (hk : k < 16) (w : Int) (hw : -10 ≤ w ∧ w ≤ 10) (hk2 : 0 ≤ κ 2 1 ∧ κ 2 1 ≤ 1) :
    zMv (S := Nat → Nat → Int) l yX3_addToLook cX3_addToLook 5 (none) 1 21 [.ref (h (0)), .ref (h (k + 11)), .int (iz (w))] 32 h D (gT c) (gC c h (σ) (κ) (ω)) (fun κ9 => gC c h σ κ9 ω) (fun κ9 => addP σ κ k w κ9) := by
  refine zM_of (by decide) (Nat.le_of_ble_eq_true rfl) ?_
  intro p e s m below meth cd ls ⟨hF, hr, hlocks, hK⟩ hP hl
  have hz : zD (zA 32 h s.heap.size) 32 h := zD.self hinj s.heap.size
  have hA : ∀ q, s.heap.size ≤ q → zA 32 h s.heap.size q := zA_new
  generalize zA 32 h s.heap.size = A at hz hA ⊢
  have hS : va_S A s.heap s.heap [] := va_S.rf
  have hl : lv_has ls 5 [(0, .ref (h (0))), (1, .ref (h (k + 11))), (2, .int (iz (w)))] := hl
  refine lv_aload_n hF.1 hF.2.1 dX3_addToLook_0 rfl (lv_at hl 0 rfl) ?_
  refine z_get hF hK hP (k := 0) (C := RX3) (T := TX3) (N := 14) (by omega) (rfl) rfl uin_X3 10 (by decide) mw_67 (v := .ref (h (8))) rfl dX3_addToLook_1 ?_
  refine lv_aload_n hF.1 hF.2.1 dX3_addToLook_4 rfl (lv_at hl 1 rfl) ?_
  refine z_getN hF hK hP (k := k + 11) (C := RX0) (T := TX0) (N := 9) (by omega) (gC_act (by omega)) rfl uin_X0 3 (by decide) nw_10 (v := .int (iz (σ 10 k))) rfl dX3_addToLook_5 ?_
  have q_1 := GI_10 hG (k)
  refine lv_dup2_11 hF.1 hF.2.1 dX3_addToLook_8 rfl rfl ?_
  refine z_iald hF hK hP (k := 8) (by decide) rfl 0 rfl (i := σ 10 k) ((σ 10 k).toNat) ((Int.toNat_of_nonneg (by omega)).symm) (by omega) (by decide) (x := iz ((κ) 0 ((σ 10 k).toNat))) rfl dX3_addToLook_9 ?_
  refine lv_aload_n hF.1 hF.2.1 dX3_addToLook_10 rfl (lv_at hl 1 rfl) ?_
  refine z_getN hF hK hP (k := k + 11) (C := RX0) (T := TX0) (N := 9) (by omega) (gC_act (by omega)) rfl uin_X0 4 (by decide) nw_2 (v := .int (iz (σ 11 k))) rfl dX3_addToLook_11 ?_
  have q_2 := GI_11 hG (k)
  refine zi_add hF.1 hF.2.1 dX3_addToLook_14 ?_
  refine z_iast hF hK hz hP hS (k := 8) (by decide) rfl 0 rfl (i := σ 10 k) ((σ 10 k).toNat) ((Int.toNat_of_nonneg (by omega)).symm) (by omega) (by decide) (x := iz (((κ) 0 ((σ 10 k).toNat)) + (σ 11 k))) (g' := gC c h (σ) (u2 (κ) 0 ((σ 10 k).toNat) (((κ) 0 ((σ 10 k).toNat)) + (σ 11 k))) (ω)) (by show Sum.inl (_, _, Sum.inl _) = _; rw [u2_up]) (gC_k_o (by decide)) dX3_addToLook_15 (fun H locs hP hS => ?_)
  refine zi_const hF.1 hF.2.1 dX3_addToLook_16 ?_
  refine lv_istore_n (lv' := [(3, .int (iz (0))), (0, .ref (h (0))), (1, .ref (h (k + 11))), (2, .int (iz (w)))]) hF.1 hF.2.1 dX3_addToLook_17 rfl hl (by decide) rfl (fun ls hl => ?_)
  have nv_4 : ((0) ≤ 3) ∧ ((u2 κ 0 (σ 10 k).toNat (κ 0 (σ 10 k).toNat + σ 11 k)) 0 = (u2 κ 0 (σ 10 k).toNat (κ 0 (σ 10 k).toNat + σ 11 k)) 0) ∧ ((u2 κ 0 (σ 10 k).toNat (κ 0 (σ 10 k).toNat + σ 11 k)) 2 = κ 2) ∧ (∀ hs : Nat, hs < (0) → (u2 κ 0 (σ 10 k).toNat (κ 0 (σ 10 k).toNat + σ 11 k)) 1 hs = κ 1 hs + nz σ k hs w) ∧ (∀ hs : Nat, (0) ≤ hs → (u2 κ 0 (σ 10 k).toNat (κ 0 (σ 10 k).toNat + σ 11 k)) 1 hs = κ 1 hs) := ⟨by omega, rfl, u2_row (by decide), lt_0, fun hs _ => by rw [u2_row (by decide)]⟩
  refine z_loop (V := Nat × (Nat → Nat → Int)) (nL := 5) (wd := fun v_3 => gC c h (σ) (v_3.2) (ω)) (lv := fun v_3 => [(0, .ref (h (0))), (1, .ref (h (k + 11))), (2, .int (iz (w))), (3, .int (iz ((v_3.1 : Int))))]) (stk := fun v_3 => []) (mu := fun v_3 => 4 - v_3.1) (inv := fun v_3 => (v_3.1 ≤ 3) ∧ (v_3.2 0 = (u2 κ 0 (σ 10 k).toNat (κ 0 (σ 10 k).toNat + σ 11 k)) 0) ∧ (v_3.2 2 = κ 2) ∧ (∀ hs : Nat, hs < v_3.1 → v_3.2 1 hs = κ 1 hs + nz σ k hs w) ∧ (∀ hs : Nat, v_3.1 ≤ hs → v_3.2 1 hs = κ 1 hs)) ?_ (0, u2 κ 0 (σ 10 k).toNat (κ 0 (σ 10 k).toNat + σ 11 k)) nv_4 hP hS (lv_sub hl [1, 2, 3, 0] rfl)
  intro ⟨i, κ1⟩ hv ih_18 H locs ls hP hS hl
  have hP : zB 32 h D (gC c h (σ) (κ1) (ω)) H := hP
  have hl : lv_has ls 5 [(0, .ref (h (0))), (1, .ref (h (k + 11))), (2, .int (iz (w))), (3, .int (iz ((i : Int))))] := hl
  obtain ⟨hi_i, hv1, hv2, hv3, hv4⟩ : (i ≤ 3) ∧ (κ1 0 = (u2 κ 0 (σ 10 k).toNat (κ 0 (σ 10 k).toNat + σ 11 k)) 0) ∧ (κ1 2 = κ 2) ∧ (∀ hs : Nat, hs < i → κ1 1 hs = κ 1 hs + nz σ k hs w) ∧ (∀ hs : Nat, i ≤ hs → κ1 1 hs = κ 1 hs) := hv
  have hq9 : κ1 2 1 = κ 2 1 := by rw [hv2]
  refine lv_iload_n hF.1 hF.2.1 dX3_addToLook_18 rfl (lv_at hl 3 rfl) ?_
  refine zi_const hF.1 hF.2.1 dX3_addToLook_19 ?_
  refine zi_icmp_ge (tgt := 68) hF.1 hF.2.1 (a := (i : Int)) (b := 3) dX3_addToLook_20 (by decide) (by omega) (by omega) (fun c_20 => ?_) (fun c_20 => ?_)
  · skip
    refine lv_aload_n hF.1 hF.2.1 dX3_addToLook_68 rfl (lv_at hl 1 rfl) ?_
    refine z_getN hF hK hP (k := k + 11) (C := RX0) (T := TX0) (N := 9) (by omega) (gC_act (by omega)) rfl uin_X0 6 (by decide) nw_4 (v := .int (iz (σ 13 k))) rfl dX3_addToLook_69 ?_
    have q_5 := GI_13 hG (k)
    refine lv_istore_n (lv' := [(3, .int (iz (σ 13 k))), (0, .ref (h (0))), (1, .ref (h (k + 11))), (2, .int (iz (w)))]) hF.1 hF.2.1 dX3_addToLook_72 rfl hl (by decide) rfl (fun ls hl => ?_)
    refine lv_iload_n hF.1 hF.2.1 dX3_addToLook_73 rfl (lv_at hl 0 rfl) ?_
    refine zi_const hF.1 hF.2.1 dX3_addToLook_74 ?_
    refine zi_icmp_eq (tgt := 143) hF.1 hF.2.1 (a := σ 13 k) (b := -1) dX3_addToLook_75 (by decide) (by omega) (by omega) (fun c_75 => ?_) (fun c_75 => ?_)
    · skip
      exact z_retv (P := fun κ9 => addP σ κ k w κ9) (u := κ1) (w := fun κ9 => gC c h σ κ9 ω) hF hr hlocks hP hS (⟨fun p hp => by rw [hv1]; exact u2_ic (by omega), fun hs q => by exact hv3 hs (by omega), by rw [hv2, ie_f (by omega)], by rw [hv2, ie_f (by omega)]⟩) dX3_addToLook_143
    · skip
      refine z_join (n := 32) (h := h) (D := D) (A := A) (V := Int) (tgt := 128) (nL := 5) (wd := fun v_6 => gC c h (σ) (κ1) (ω)) (lv := fun v_6 => [(0, .ref (h (0))), (1, .ref (h (k + 11))), (2, .int (iz (w))), (3, .int (iz (σ 13 k)))]) (stk := fun v_6 => [.int (iz (v_6)), .ref (h (0))]) (inv := fun v_6 => (v_6 = b2i (κ1 2 1 ≠ 0 ∨ hc (κ1 2 0) (σ 13 k - 1) ∨ hc (κ1 2 0) (σ 13 k) ∨ hc (κ1 2 0) (σ 13 k + 1))) ∧ ((0 : Int) ≤ v_6 ∧ v_6 ≤ (1 : Int))) ?_ (fun jn_128 => ?_)
      · skip
        intro v hv H locs ls hP hS hl
        have hP : zB 32 h D (gC c h (σ) (κ1) (ω)) H := hP
        have hl : lv_has ls 5 [(0, .ref (h (0))), (1, .ref (h (k + 11))), (2, .int (iz (w))), (3, .int (iz (σ 13 k)))] := hl
        obtain ⟨hv5, hv6⟩ : (v = b2i (κ1 2 1 ≠ 0 ∨ hc (κ1 2 0) (σ 13 k - 1) ∨ hc (κ1 2 0) (σ 13 k) ∨ hc (κ1 2 0) (σ 13 k + 1))) ∧ ((0 : Int) ≤ v ∧ v ≤ (1 : Int)) := hv
        refine z_put hF hK hz hP hS (k := 0) (C := RX3) (T := TX3) (N := 14) (by omega) (rfl) rfl uin_X3 tyX3_ok nmX3 13 (by decide) mw_118 rfl (iz_nar_z (by first | (unfold b2i; split <;> omega) | omega)) (by simp) (g' := gC c h (σ) (u2 (κ1) 2 1 (v)) (ω)) (rfl) (gC_ks_o) dX3_addToLook_128 (fun H locs hP hS => ?_)
        refine lv_aload_n hF.1 hF.2.1 dX3_addToLook_131 rfl (lv_at hl 0 rfl) ?_
        refine lv_dup hF.1 hF.2.1 dX3_addToLook_132 rfl ?_
        refine z_get hF hK hP (k := 0) (C := RX3) (T := TX3) (N := 14) (by omega) (rfl) rfl uin_X3 12 (by decide) mw_119 (v := .int (iz (κ1 2 0))) rfl dX3_addToLook_133 ?_
        refine zi_const hF.1 hF.2.1 dX3_addToLook_136 ?_
        refine lv_iload_n hF.1 hF.2.1 dX3_addToLook_137 rfl (lv_at hl 3 rfl) ?_
        refine zi_ishl hF.1 hF.2.1 (a := 1) (b := σ 13 k) dX3_addToLook_138 ?_
        have q_7 : -2147483648 ≤ ish 1 (σ 13 k) ∧ ish 1 (σ 13 k) ≤ 2147483647 := ti_rg _
        refine zi_ior hF.1 hF.2.1 (a := κ1 2 0) (b := ish 1 (σ 13 k)) dX3_addToLook_139 ?_
        have q_8 : -2147483648 ≤ ior (κ1 2 0) (ish 1 (σ 13 k)) ∧ ior (κ1 2 0) (ish 1 (σ 13 k)) ≤ 2147483647 := ti_rg _
        refine z_put hF hK hz hP hS (k := 0) (C := RX3) (T := TX3) (N := 14) (by omega) (rfl) rfl uin_X3 tyX3_ok nmX3 12 (by decide) mw_119 rfl (⟨rfl, rfl⟩) (by simp) (g' := gC c h (σ) (u2 (u2 (κ1) 2 1 (v)) 2 0 (ior (κ1 2 0) (ish 1 (σ 13 k)))) (ω)) (rfl) (gC_ks_o) dX3_addToLook_140 (fun H locs hP hS => ?_)
        exact z_retv (P := fun κ9 => addP σ κ k w κ9) (u := u2 (u2 (κ1) 2 1 (v)) 2 0 (ior (κ1 2 0) (ish 1 (σ 13 k)))) (w := fun κ9 => gC c h σ κ9 ω) hF hr hlocks hP hS (⟨fun p hp => by rw [u2_row (by decide), u2_row (by decide)]; rw [hv1]; exact u2_ic (by omega), fun hs q => by rw [u2_row (by decide), u2_row (by decide)]; exact hv3 hs (by omega), by rw [u2_at, ie_t (by omega), hv2], by rw [u2_ne (by decide), u2_at, ie_t (by omega), hv5, hv2]⟩) dX3_addToLook_143
      · skip
        refine lv_aload_n hF.1 hF.2.1 dX3_addToLook_78 rfl (lv_at hl 1 rfl) ?_
        refine lv_aload_n hF.1 hF.2.1 dX3_addToLook_79 rfl (lv_at hl 1 rfl) ?_
        refine z_get hF hK hP (k := 0) (C := RX3) (T := TX3) (N := 14) (by omega) (rfl) rfl uin_X3 13 (by decide) mw_118 (v := .int (iz (κ1 2 1))) rfl dX3_addToLook_80 ?_
        refine zi_if_ne (tgt := 123) hF.1 hF.2.1 (a := κ1 2 1) dX3_addToLook_83 (by decide) (by omega) (fun c_83 => ?_) (fun c_83 => ?_)
        · skip
          refine zi_const hF.1 hF.2.1 dX3_addToLook_123 ?_
          refine lv_goto (tgt := 128) hF.1 hF.2.1 dX3_addToLook_124 (by decide) ?_
          have nv_9 : (((1)) = b2i (κ1 2 1 ≠ 0 ∨ hc (κ1 2 0) (σ 13 k - 1) ∨ hc (κ1 2 0) (σ 13 k) ∨ hc (κ1 2 0) (σ 13 k + 1))) ∧ ((0 : Int) ≤ ((1)) ∧ ((1)) ≤ (1 : Int)) := ⟨(by first | exact (b2i_t (by first | exact Or.inl c_83 | exact Or.inr (Or.inl c_96) | exact Or.inr (Or.inr (Or.inl c_107)) | exact Or.inr (Or.inr (Or.inr c_120)))).symm | exact (b2i_f (by rintro (q | q | q | q) <;> first | exact q c_83 | exact c_96 q | exact c_107 q | exact c_120 q)).symm), (by omega)⟩
          exact jn_128 (1) nv_9 _ _ _ hP hS (lv_sub hl [1, 2, 3, 0] rfl)
        · skip
          refine lv_aload_n hF.1 hF.2.1 dX3_addToLook_86 rfl (lv_at hl 1 rfl) ?_
          refine z_get hF hK hP (k := 0) (C := RX3) (T := TX3) (N := 14) (by omega) (rfl) rfl uin_X3 12 (by decide) mw_119 (v := .int (iz (κ1 2 0))) rfl dX3_addToLook_87 ?_
          refine lv_iload_n hF.1 hF.2.1 dX3_addToLook_90 rfl (lv_at hl 0 rfl) ?_
          refine zi_const hF.1 hF.2.1 dX3_addToLook_91 ?_
          refine zi_sub hF.1 hF.2.1 dX3_addToLook_92 ?_
          refine z_ci (S := Unit) (w := fun _ => gC c h σ κ1 ω) (P := fun r _ => r = b2i (hc (κ1 2 0) ((σ 13 k) - 1))) (z_runS (rm := { frames := 0, cells := 0, slots := 0, locals := 0 }) hF hK hP (c_X3_hasChannel l h D c σ κ1 ω hinj hG (κ1 2 0) ((σ 13 k) - 1) (by omega) _) (gIn_S mw_120 mw_121 mw_86 mw_115) rfl rfl ⟨rfl, by decide, by decide, rfl⟩ ⟨Nat.le_of_ble_eq_true rfl, Nat.le_of_ble_eq_true rfl⟩ (As := [.int (iz (κ1 2 0)), .int (iz ((σ 13 k) - 1))]) (rest := [.ref (h (0))]) rfl hl.1 rfl (Nat.le_of_ble_eq_true rfl) dX3_addToLook_93 ⟨Nat.le_refl _, Nat.le_refl _⟩) hz hA hS (fun z_10 u_11 H locs hp hP hS => ?_)
          obtain rfl : z_10 = b2i (hc (κ1 2 0) ((σ 13 k) - 1)) := hp
          refine zi_ifb_ne (tgt := 123) hF.1 hF.2.1 (P := hc (κ1 2 0) ((σ 13 k) - 1)) dX3_addToLook_96 (by decide) (fun c_96 => ?_) (fun c_96 => ?_)
          · skip
            refine zi_const hF.1 hF.2.1 dX3_addToLook_123 ?_
            refine lv_goto (tgt := 128) hF.1 hF.2.1 dX3_addToLook_124 (by decide) ?_
            have nv_12 : (((1)) = b2i (κ1 2 1 ≠ 0 ∨ hc (κ1 2 0) (σ 13 k - 1) ∨ hc (κ1 2 0) (σ 13 k) ∨ hc (κ1 2 0) (σ 13 k + 1))) ∧ ((0 : Int) ≤ ((1)) ∧ ((1)) ≤ (1 : Int)) := ⟨(by first | exact (b2i_t (by first | exact Or.inl c_83 | exact Or.inr (Or.inl c_96) | exact Or.inr (Or.inr (Or.inl c_107)) | exact Or.inr (Or.inr (Or.inr c_120)))).symm | exact (b2i_f (by rintro (q | q | q | q) <;> first | exact q c_83 | exact c_96 q | exact c_107 q | exact c_120 q)).symm), (by omega)⟩
            exact jn_128 (1) nv_12 _ _ _ hP hS (lv_sub hl [1, 2, 3, 0] rfl)
          · skip
            refine lv_aload_n hF.1 hF.2.1 dX3_addToLook_99 rfl (lv_at hl 1 rfl) ?_
            refine z_get hF hK hP (k := 0) (C := RX3) (T := TX3) (N := 14) (by omega) (rfl) rfl uin_X3 12 (by decide) mw_119 (v := .int (iz (κ1 2 0))) rfl dX3_addToLook_100 ?_
            refine lv_iload_n hF.1 hF.2.1 dX3_addToLook_103 rfl (lv_at hl 0 rfl) ?_
            refine z_ci (S := Unit) (w := fun _ => gC c h σ κ1 ω) (P := fun r _ => r = b2i (hc (κ1 2 0) (σ 13 k))) (z_runS (rm := { frames := 0, cells := 0, slots := 0, locals := 0 }) hF hK hP (c_X3_hasChannel l h D c σ κ1 ω hinj hG (κ1 2 0) (σ 13 k) (by omega) _) (gIn_S mw_120 mw_121 mw_86 mw_115) rfl rfl ⟨rfl, by decide, by decide, rfl⟩ ⟨Nat.le_of_ble_eq_true rfl, Nat.le_of_ble_eq_true rfl⟩ (As := [.int (iz (κ1 2 0)), .int (iz (σ 13 k))]) (rest := [.ref (h (0))]) rfl hl.1 rfl (Nat.le_of_ble_eq_true rfl) dX3_addToLook_104 ⟨Nat.le_refl _, Nat.le_refl _⟩) hz hA hS (fun z_13 u_14 H locs hp hP hS => ?_)
            obtain rfl : z_13 = b2i (hc (κ1 2 0) (σ 13 k)) := hp
            refine zi_ifb_ne (tgt := 123) hF.1 hF.2.1 (P := hc (κ1 2 0) (σ 13 k)) dX3_addToLook_107 (by decide) (fun c_107 => ?_) (fun c_107 => ?_)
            · skip
              refine zi_const hF.1 hF.2.1 dX3_addToLook_123 ?_
              refine lv_goto (tgt := 128) hF.1 hF.2.1 dX3_addToLook_124 (by decide) ?_
              have nv_15 : (((1)) = b2i (κ1 2 1 ≠ 0 ∨ hc (κ1 2 0) (σ 13 k - 1) ∨ hc (κ1 2 0) (σ 13 k) ∨ hc (κ1 2 0) (σ 13 k + 1))) ∧ ((0 : Int) ≤ ((1)) ∧ ((1)) ≤ (1 : Int)) := ⟨(by first | exact (b2i_t (by first | exact Or.inl c_83 | exact Or.inr (Or.inl c_96) | exact Or.inr (Or.inr (Or.inl c_107)) | exact Or.inr (Or.inr (Or.inr c_120)))).symm | exact (b2i_f (by rintro (q | q | q | q) <;> first | exact q c_83 | exact c_96 q | exact c_107 q | exact c_120 q)).symm), (by omega)⟩
              exact jn_128 (1) nv_15 _ _ _ hP hS (lv_sub hl [1, 2, 3, 0] rfl)
            · skip
              refine lv_aload_n hF.1 hF.2.1 dX3_addToLook_110 rfl (lv_at hl 1 rfl) ?_
              refine z_get hF hK hP (k := 0) (C := RX3) (T := TX3) (N := 14) (by omega) (rfl) rfl uin_X3 12 (by decide) mw_119 (v := .int (iz (κ1 2 0))) rfl dX3_addToLook_111 ?_
              refine lv_iload_n hF.1 hF.2.1 dX3_addToLook_114 rfl (lv_at hl 0 rfl) ?_
              refine zi_const hF.1 hF.2.1 dX3_addToLook_115 ?_
              refine zi_add hF.1 hF.2.1 dX3_addToLook_116 ?_
              refine z_ci (S := Unit) (w := fun _ => gC c h σ κ1 ω) (P := fun r _ => r = b2i (hc (κ1 2 0) ((σ 13 k) + 1))) (z_runS (rm := { frames := 0, cells := 0, slots := 0, locals := 0 }) hF hK hP (c_X3_hasChannel l h D c σ κ1 ω hinj hG (κ1 2 0) ((σ 13 k) + 1) (by omega) _) (gIn_S mw_120 mw_121 mw_86 mw_115) rfl rfl ⟨rfl, by decide, by decide, rfl⟩ ⟨Nat.le_of_ble_eq_true rfl, Nat.le_of_ble_eq_true rfl⟩ (As := [.int (iz (κ1 2 0)), .int (iz ((σ 13 k) + 1))]) (rest := [.ref (h (0))]) rfl hl.1 rfl (Nat.le_of_ble_eq_true rfl) dX3_addToLook_117 ⟨Nat.le_refl _, Nat.le_refl _⟩) hz hA hS (fun z_16 u_17 H locs hp hP hS => ?_)
              obtain rfl : z_16 = b2i (hc (κ1 2 0) ((σ 13 k) + 1)) := hp
              refine zi_ifb_eq (tgt := 127) hF.1 hF.2.1 (P := hc (κ1 2 0) ((σ 13 k) + 1)) dX3_addToLook_120 (by decide) (fun c_120 => ?_) (fun c_120 => ?_)
              · skip
                refine zi_const hF.1 hF.2.1 dX3_addToLook_127 ?_
                have nv_18 : (((0)) = b2i (κ1 2 1 ≠ 0 ∨ hc (κ1 2 0) (σ 13 k - 1) ∨ hc (κ1 2 0) (σ 13 k) ∨ hc (κ1 2 0) (σ 13 k + 1))) ∧ ((0 : Int) ≤ ((0)) ∧ ((0)) ≤ (1 : Int)) := ⟨(by first | exact (b2i_t (by first | exact Or.inl c_83 | exact Or.inr (Or.inl c_96) | exact Or.inr (Or.inr (Or.inl c_107)) | exact Or.inr (Or.inr (Or.inr c_120)))).symm | exact (b2i_f (by rintro (q | q | q | q) <;> first | exact q c_83 | exact c_96 q | exact c_107 q | exact c_120 q)).symm), (by omega)⟩
                exact jn_128 (0) nv_18 _ _ _ hP hS (lv_sub hl [1, 2, 3, 0] rfl)
              · skip
                refine zi_const hF.1 hF.2.1 dX3_addToLook_123 ?_
                refine lv_goto (tgt := 128) hF.1 hF.2.1 dX3_addToLook_124 (by decide) ?_
                have nv_19 : (((1)) = b2i (κ1 2 1 ≠ 0 ∨ hc (κ1 2 0) (σ 13 k - 1) ∨ hc (κ1 2 0) (σ 13 k) ∨ hc (κ1 2 0) (σ 13 k + 1))) ∧ ((0 : Int) ≤ ((1)) ∧ ((1)) ≤ (1 : Int)) := ⟨(by first | exact (b2i_t (by first | exact Or.inl c_83 | exact Or.inr (Or.inl c_96) | exact Or.inr (Or.inr (Or.inl c_107)) | exact Or.inr (Or.inr (Or.inr c_120)))).symm | exact (b2i_f (by rintro (q | q | q | q) <;> first | exact q c_83 | exact c_96 q | exact c_107 q | exact c_120 q)).symm), (by omega)⟩
                exact jn_128 (1) nv_19 _ _ _ hP hS (lv_sub hl [1, 2, 3, 0] rfl)
  · skip
    refine zi_bipush hF.1 hF.2.1 dX3_addToLook_23 (by decide) ?_
    refine zi_bipush hF.1 hF.2.1 dX3_addToLook_25 (by decide) ?_
    refine lv_aload_n hF.1 hF.2.1 dX3_addToLook_27 rfl (lv_at hl 1 rfl) ?_
    refine z_getN hF hK hP (k := k + 11) (C := RX0) (T := TX0) (N := 9) (by omega) (gC_act (by omega)) rfl uin_X0 0 (by decide) nw_8 (v := .int (iz (σ 7 k))) rfl dX3_addToLook_28 ?_
    have q_20 := GI_7 hG (k)
    refine lv_iload_n hF.1 hF.2.1 dX3_addToLook_31 rfl (lv_at hl 3 rfl) ?_
    refine zi_sub hF.1 hF.2.1 dX3_addToLook_32 ?_
    refine zi_abs hF hl.1 mw_91 mw_92 mw_17 mw_93 (Nat.le_of_ble_eq_true rfl) (Nat.le_of_ble_eq_true rfl) (Nat.le_refl _) (Nat.le_refl _) (a := (σ 7 k) - ((i : Int))) (by omega) dX3_addToLook_33 ?_
    refine zi_mul hF.1 hF.2.1 dX3_addToLook_36 ?_
    refine zi_add hF.1 hF.2.1 dX3_addToLook_37 ?_
    refine lv_iload_n hF.1 hF.2.1 dX3_addToLook_38 rfl (lv_at hl 2 rfl) ?_
    refine zi_add hF.1 hF.2.1 dX3_addToLook_39 ?_
    refine lv_istore (lv' := [(4, .int (iz ((10 + (10 * (max ((σ 7 k) - ((i : Int))) (-((σ 7 k) - ((i : Int))))))) + w))), (0, .ref (h (0))), (1, .ref (h (k + 11))), (2, .int (iz (w))), (3, .int (iz ((i : Int))))]) hF.1 hF.2.1 dX3_addToLook_40 hl (by decide) rfl (fun ls hl => ?_)
    refine lv_aload_n hF.1 hF.2.1 dX3_addToLook_42 rfl (lv_at hl 1 rfl) ?_
    refine z_get hF hK hP (k := 0) (C := RX3) (T := TX3) (N := 14) (by omega) (rfl) rfl uin_X3 11 (by decide) mw_68 (v := .ref (h (9))) rfl dX3_addToLook_43 ?_
    refine lv_iload_n hF.1 hF.2.1 dX3_addToLook_46 rfl (lv_at hl 4 rfl) ?_
    refine lv_dup2_11 hF.1 hF.2.1 dX3_addToLook_47 rfl rfl ?_
    refine z_iald hF hK hP (k := 9) (by decide) rfl 0 rfl (i := (i : Int)) (i) (rfl) (by omega) (by decide) (x := iz (κ1 1 i)) rfl dX3_addToLook_48 ?_
    refine zi_const hF.1 hF.2.1 dX3_addToLook_49 ?_
    refine lv_aload_n hF.1 hF.2.1 dX3_addToLook_50 rfl (lv_at hl 2 rfl) ?_
    refine z_getN hF hK hP (k := k + 11) (C := RX0) (T := TX0) (N := 9) (by omega) (gC_act (by omega)) rfl uin_X0 5 (by decide) nw_3 (v := .int (iz (σ 12 k))) rfl dX3_addToLook_51 ?_
    have q_21 := GI_12 hG (k)
    refine lv_iload hF.1 hF.2.1 dX3_addToLook_54 (lv_at hl 0 rfl) ?_
    refine zi_sub hF.1 hF.2.1 dX3_addToLook_56 ?_
    refine zi_max hF hl.1 mw_117 mw_20 mw_17 mw_21 (Nat.le_of_ble_eq_true rfl) (Nat.le_of_ble_eq_true rfl) (Nat.le_refl _) (Nat.le_refl _) (a := 0) (b := (σ 12 k) - ((10 + (10 * (max ((σ 7 k) - ((i : Int))) (-((σ 7 k) - ((i : Int))))))) + w)) (by omega) (by omega) dX3_addToLook_57 ?_
    refine zi_add hF.1 hF.2.1 dX3_addToLook_60 ?_
    refine z_iast hF hK hz hP hS (k := 9) (by decide) rfl 0 rfl (i := (i : Int)) (i) (rfl) (by omega) (by decide) (x := iz ((κ1 1 i) + (max (0) ((σ 12 k) - ((10 + (10 * (max ((σ 7 k) - ((i : Int))) (-((σ 7 k) - ((i : Int))))))) + w))))) (g' := gC c h (σ) (u2 (κ1) 1 (i) ((κ1 1 i) + (max (0) ((σ 12 k) - ((10 + (10 * (max ((σ 7 k) - ((i : Int))) (-((σ 7 k) - ((i : Int))))))) + w))))) (ω)) (by show Sum.inl (_, _, Sum.inl _) = _; rw [u2_up]) (gC_k_o (by decide)) dX3_addToLook_61 (fun H locs hP hS => ?_)
    refine lv_iinc (v := iz (((i + 1 : Nat) : Int))) (lv' := [(3, .int (iz (((i + 1 : Nat) : Int)))), (4, .int (iz ((10 + (10 * (max ((σ 7 k) - ((i : Int))) (-((σ 7 k) - ((i : Int))))))) + w))), (0, .ref (h (0))), (1, .ref (h (k + 11))), (2, .int (iz (w)))]) hF.1 hF.2.1 dX3_addToLook_62 hl (k := 4) rfl ((iz_add _ _).trans (congrArg iz (by omega))) (by decide) rfl (fun ls hl => ?_)
    refine lv_goto (tgt := 18) hF.1 hF.2.1 dX3_addToLook_65 (by decide) ?_
    have nv_22 : ((i + 1) ≤ 3) ∧ ((u2 (κ1) 1 (i) ((κ1 1 i) + (max (0) ((σ 12 k) - ((10 + (10 * (max ((σ 7 k) - ((i : Int))) (-((σ 7 k) - ((i : Int))))))) + w))))) 0 = (u2 κ 0 (σ 10 k).toNat (κ 0 (σ 10 k).toNat + σ 11 k)) 0) ∧ ((u2 (κ1) 1 (i) ((κ1 1 i) + (max (0) ((σ 12 k) - ((10 + (10 * (max ((σ 7 k) - ((i : Int))) (-((σ 7 k) - ((i : Int))))))) + w))))) 2 = κ 2) ∧ (∀ hs : Nat, hs < (i + 1) → (u2 (κ1) 1 (i) ((κ1 1 i) + (max (0) ((σ 12 k) - ((10 + (10 * (max ((σ 7 k) - ((i : Int))) (-((σ 7 k) - ((i : Int))))))) + w))))) 1 hs = κ 1 hs + nz σ k hs w) ∧ (∀ hs : Nat, (i + 1) ≤ hs → (u2 (κ1) 1 (i) ((κ1 1 i) + (max (0) ((σ 12 k) - ((10 + (10 * (max ((σ 7 k) - ((i : Int))) (-((σ 7 k) - ((i : Int))))))) + w))))) 1 hs = κ 1 hs) := ⟨by omega, by rw [u2_row (by decide)]; exact hv1, by rw [u2_row (by decide)]; exact hv2, lt_s (fun p hp => by rw [u2_ne (by omega)]; exact hv3 p hp) (by rw [u2_at, hv4 i (Nat.le_refl i)]; unfold nz; rfl), fun hs q => by rw [u2_ne (by omega)]; exact hv4 hs (by omega)⟩
    exact ih_18 (i + 1, u2 (κ1) 1 (i) ((κ1 1 i) + (max (0) ((σ 12 k) - ((10 + (10 * (max ((σ 7 k) - ((i : Int))) (-((σ 7 k) - ((i : Int))))))) + w))))) nv_22 (by show 4 - (i + 1) < 4 - i; omega) _ _ _ hP hS (lv_sub hl [2, 3, 4, 0] rfl)
