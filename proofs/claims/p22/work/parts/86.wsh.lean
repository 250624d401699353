/-! texts are compared; which wish is typed -/
section ZWG
variable {p : Program} {l : Launch} {e : Env} {R : Room} {s : State} {m : MethodId} {args : Array Value} {below : List Frame} {meth : Method} {c : Code} {H : Heap} {locs : List Loc} {cells slots : Nat} {Q : State → Prop}
variable {cc : ByteArray} {nL pc : Nat} {own : String} {ls : Array Slot} {rest : List Value} {A : Nat → Prop} {D : va_G} {tys : List (ClassId × FieldType)}
/-- a field of a wish, read by a nest mate -/
theorem z_wget (hF : CallFix p m c cc nL s args UW own) (hK : zK D tys s) (hS : va_S A s.heap H locs) {o n d host : String} {idx q : Nat} {v : Value} (hE : va_OF o n d v q A s s.heap) (hlink : Cond.fieldLinkNest own idx o n d host ∈ NW) (hd : decode cc pc = .ok (.getfield idx, 3))
    (kk : W p l e R s m args below meth c H locs cells slots Q (F0 m (pc + 3) ls (v :: rest))) : W p l e R s m args below meth c H locs cells slots Q (F0 m pc ls (.ref q :: rest)) := by
  obtain ⟨cf, k, fi, f, cell, h1, h2, h3, h4, h5, h6⟩ := hE.kept hS.2.1
  exact va_Wgetf hF.1 hF.2.1 hF.2.2.2.1 (va_Nw.use rfl (hK.2 _ hlink)) h1 h2 h3 h4 (v := v) h5 rfl rfl hd kk
end ZWG
set_option maxRecDepth 100000 in
set_option maxHeartbeats 4000000 in
theorem cg_J1_equals (l : Launch) (n : Nat) (h : Nat → Nat) (D : va_G) (c : Nat → ClassId) (g : Nat → va_E) (hinj : ∀ i j, i < n → j < n → h i = h j → i = j) (t : Nat) (ad adK adV : Nat → Nat) (i9 : Nat) (hi9 : i9 < 5) (kb : Nat) (hkb : kb < n) (f : Nat → Int32) (m9 : Nat) (hm : m9 ≤ 6) (hg : g kb = .inl (c 1, m9, .inl f)) :
    ∀ sz, Met l yJ1_equals_b5fdf (Cond.code yJ1_equals_b5fdf cJ1_equals_b5fdf 3 (some .boolean) :: UW) { frames := 0, cells := 0, slots := 6 * 0, locals := 0 } (zPE (zWi t ad adK adV) [.ref (adV i9), .ref (h kb)] n h D (gT c) sz (g)) (va_Qi (fun r (u : Int × Unit) => r = iz u.1 ∧ u.1 = b2i (wLen.getD i9 0 = m9 ∧ ∀ j, j < m9 → (wByt.getD i9 []).getD j 0 = f j)) (fun _ t => zB n h D g t.heap) (zA n h sz)) 0 (6 * 0) (zA n h sz) := by
  refine zEM_of (Ex := zWi t ad adK adV) (by decide) (Nat.le_of_ble_eq_true rfl) ?_
  intro p e s m below meth cd ls ⟨hF, hr, hlocks, hK, hX⟩ hW hP hl
  have hz : zD (zA n h s.heap.size) n h := zD.self hinj s.heap.size
  have hA : ∀ q, s.heap.size ≤ q → zA n h s.heap.size q := zA_new
  generalize zA n h s.heap.size = A at hz hA hX hW ⊢
  have hS : va_S A s.heap s.heap [] := va_S.rf
  have hl : lv_has ls 3 [(0, .ref (adV i9)), (1, .ref (h kb))] := hl
  have hT := (hW.2.2.2.2.2.2.1 i9 hi9).2.2.2
  have hL : wLen.getD i9 0 ≤ 5 := by
    have : ∀ i, i < 5 → wLen.getD i 0 ≤ 5 := by decide
    exact this i9 hi9
  generalize wLen.getD i9 0 = L at hT hL ⊢
  generalize wByt.getD i9 [] = B at hT ⊢
  refine lv_aload_n hF.1 hF.2.1 dJ1_equals_b5fdf_0 rfl (lv_at hl 0 rfl) ?_
  refine va_tlen hF.1 hF.2.1 hT hS (v := iz L) (iz_nI L) dJ1_equals_b5fdf_1 ?_
  refine lv_aload_n hF.1 hF.2.1 dJ1_equals_b5fdf_2 rfl (lv_at hl 1 rfl) ?_
  refine z_alen hF hK hP (k := kb) hkb hg 1 rfl (z := (m9 : Int)) rfl dJ1_equals_b5fdf_3 ?_
  refine zi_icmp_ne (tgt := 34) hF.1 hF.2.1 (a := (L : Int)) (b := (m9 : Int)) dJ1_equals_b5fdf_4 (by decide) (by omega) (by omega) (fun c_4 => ?_) (fun c_4 => ?_)
  · refine zi_const hF.1 hF.2.1 dJ1_equals_b5fdf_34 ?_
    exact z_sreti (K := 0) (S := Unit) (P := fun z _ => z = b2i (L = m9 ∧ ∀ j, j < m9 → B.getD j 0 = f j)) (z := 0) (u := ()) (w := fun _ => g) hF hr hlocks hP hS (Nat.le_refl _) (Nat.le_refl _) (by decide) (b2i_f (fun q => by omega)).symm dJ1_equals_b5fdf_35
  · have eL : L = m9 := by omega
    subst eL
    refine zi_const hF.1 hF.2.1 dJ1_equals_b5fdf_7 ?_
    refine lv_istore_n (lv' := [(2, .int (iz 0)), (0, .ref (adV i9)), (1, .ref (h kb))]) hF.1 hF.2.1 dJ1_equals_b5fdf_8 rfl hl (by decide) rfl (fun ls hl => ?_)
    refine z_loop (V := Nat) (nL := 3) (wd := fun _ => g) (lv := fun v => [(2, .int (iz (v : Int))), (0, .ref (adV i9)), (1, .ref (h kb))]) (stk := fun _ => []) (mu := fun v => 7 - v) (inv := fun v => v ≤ L ∧ ∀ j, j < v → B.getD j 0 = f j) ?_ 0 ⟨Nat.zero_le _, lt_0⟩ hP hS hl
    intro v hv ih H locs ls hP hS hl
    refine lv_iload_n hF.1 hF.2.1 dJ1_equals_b5fdf_9 rfl (lv_at hl 0 rfl) ?_
    refine lv_aload_n hF.1 hF.2.1 dJ1_equals_b5fdf_10 rfl (lv_at hl 1 rfl) ?_
    refine va_tlen hF.1 hF.2.1 hT hS (v := iz L) (iz_nI L) dJ1_equals_b5fdf_11 ?_
    refine zi_icmp_ge (tgt := 32) hF.1 hF.2.1 (a := (v : Int)) (b := (L : Int)) dJ1_equals_b5fdf_12 (by decide) (by have := hv.1; omega) (by omega) (fun c_12 => ?_) (fun c_12 => ?_)
    · refine zi_const hF.1 hF.2.1 dJ1_equals_b5fdf_32 ?_
      exact z_sreti (K := 0) (S := Unit) (P := fun z _ => z = b2i (L = L ∧ ∀ j, j < L → B.getD j 0 = f j)) (z := 1) (u := ()) (w := fun _ => g) hF hr hlocks hP hS (Nat.le_refl _) (Nat.le_refl _) (by decide) (b2i_t ⟨rfl, fun j hj => hv.2 j (by omega)⟩).symm dJ1_equals_b5fdf_33
    · have hvL : v < L := by omega
      refine lv_aload_n hF.1 hF.2.1 dJ1_equals_b5fdf_15 rfl (lv_at hl 1 rfl) ?_
      refine lv_iload_n hF.1 hF.2.1 dJ1_equals_b5fdf_16 rfl (lv_at hl 0 rfl) ?_
      refine va_tb hF.1 hF.2.1 hT hS (i := iz (v : Int)) (iz_in (by omega) (by omega)) (v := .int (B.getD v 0)) (by rw [iz_clamp (by omega)]; rfl) dJ1_equals_b5fdf_17 ?_
      refine lv_aload_n hF.1 hF.2.1 dJ1_equals_b5fdf_18 rfl (lv_at hl 2 rfl) ?_
      refine lv_iload_n hF.1 hF.2.1 dJ1_equals_b5fdf_19 rfl (lv_at hl 0 rfl) ?_
      refine z_bald hF hK hP (k := kb) hkb hg 1 rfl v rfl hvL (by omega) rfl dJ1_equals_b5fdf_20 ?_
      refine lv_icmp_eq (tgt := 26) hF.1 hF.2.1 dJ1_equals_b5fdf_21 (by decide) (fun c_21 => ?_) (fun c_21 => ?_)
      · refine lv_iinc (v := iz ((v + 1 : Nat) : Int)) (lv' := [(2, .int (iz ((v + 1 : Nat) : Int))), (0, .ref (adV i9)), (1, .ref (h kb))]) hF.1 hF.2.1 dJ1_equals_b5fdf_26 hl (k := 0) rfl ((iz_add _ _).trans (congrArg iz (by omega))) (by decide) rfl (fun ls hl => ?_)
        refine lv_goto (tgt := 9) hF.1 hF.2.1 dJ1_equals_b5fdf_29 (by decide) ?_
        exact ih (v + 1) ⟨hvL, lt_s hv.2 c_21⟩ (by show 7 - (v + 1) < 7 - v; omega) _ _ _ hP hS hl
      · refine zi_const hF.1 hF.2.1 dJ1_equals_b5fdf_24 ?_
        exact z_sreti (K := 0) (S := Unit) (P := fun z _ => z = b2i (L = L ∧ ∀ j, j < L → B.getD j 0 = f j)) (z := 0) (u := ()) (w := fun _ => g) hF hr hlocks hP hS (Nat.le_refl _) (Nat.le_refl _) (by decide) (b2i_f (fun q => c_21 (q.2 v hvL))).symm dJ1_equals_b5fdf_25

set_option maxRecDepth 100000 in
set_option maxHeartbeats 4000000 in
theorem cg_J0_equals (l : Launch) (n : Nat) (h : Nat → Nat) (D : va_G) (c : Nat → ClassId) (g : Nat → va_E) (hinj : ∀ i j, i < n → j < n → h i = h j → i = j) (t : Nat) (ad adK adV : Nat → Nat) (i9 : Nat) (hi9 : i9 < 5) (ks kb : Nat) (hks : ks < n) (hkb : kb < n) (f : Nat → Int32) (m9 : Nat) (hm : m9 ≤ 6) (hgs : g ks = .inr (0, [.ref (h kb), .int 0, .int 0, .int 0])) (hg : g kb = .inl (c 1, m9, .inl f)) :
    ∀ sz, Met l yJ0_equals_9ea2d (Cond.code yJ0_equals_9ea2d cJ0_equals_9ea2d 3 (some .boolean) :: UW) { frames := 1, cells := 0, slots := 6 * 0, locals := 22 } (zPE (zWi t ad adK adV) [.ref (adK i9), .ref (h ks)] n h D (gT c) sz (g)) (va_Qi (fun r (u : Int × Unit) => r = iz u.1 ∧ u.1 = b2i (wLen.getD i9 0 = m9 ∧ ∀ j, j < m9 → (wByt.getD i9 []).getD j 0 = f j)) (fun _ t => zB n h D g t.heap) (zA n h sz)) 0 (6 * 0) (zA n h sz) := by
  refine zEM_of (Ex := zWi t ad adK adV) (by decide) (Nat.le_of_ble_eq_true rfl) ?_
  intro p e s m below meth cd ls ⟨hF, hr, hlocks, hK, hX⟩ hW hP hl
  have hz : zD (zA n h s.heap.size) n h := zD.self hinj s.heap.size
  have hA : ∀ q, s.heap.size ≤ q → zA n h s.heap.size q := zA_new
  generalize zA n h s.heap.size = A at hz hA hX hW ⊢
  have hS : va_S A s.heap s.heap [] := va_S.rf
  have hl : lv_has ls 3 [(0, .ref (adK i9)), (1, .ref (h ks))] := hl
  obtain ⟨hO, hCo, hVa, hT⟩ := hW.2.2.2.2.2.2.1 i9 hi9
  have hnA : ¬ A (adK i9) := by obtain ⟨_, _, _, _, q⟩ := hO; exact q
  refine lv_aload_n hF.1 hF.2.1 dJ0_equals_9ea2d_0 rfl (lv_at hl 0 rfl) ?_
  refine lv_aload_n hF.1 hF.2.1 dJ0_equals_9ea2d_1 rfl (lv_at hl 1 rfl) ?_
  refine lv_acmp_ne (tgt := 7) (rx := some (adK i9)) (ry := some (h ks)) hF.1 hF.2.1 dJ0_equals_9ea2d_2 (by decide) (fun c_2 => ?_) (fun c_2 => absurd (hz.2 ks hks) (Option.some.inj c_2 ▸ hnA))
  refine lv_aload_n hF.1 hF.2.1 dJ0_equals_9ea2d_7 rfl (lv_at hl 1 rfl) ?_
  refine va_instS hF.1 hF.2.1 hF.2.2.2.1 (hF.2.2.2.2 _ mw_374) (hK.1.1 0 _ rfl).2 (z_recv hK hP hks hgs rfl) dJ0_equals_9ea2d_8 ?_
  refine zi_if_eq (tgt := 54) hF.1 hF.2.1 (a := 1) dJ0_equals_9ea2d_11 (by decide) (by omega) (fun c_11 => absurd c_11 (by decide)) (fun c_11 => ?_)
  refine lv_aload_n hF.1 hF.2.1 dJ0_equals_9ea2d_14 rfl (lv_at hl 1 rfl) ?_
  refine va_castS hF.1 hF.2.1 hF.2.2.2.1 (hF.2.2.2.2 _ mw_374) (hK.1.1 0 _ rfl).2 (z_recv hK hP hks hgs rfl) dJ0_equals_9ea2d_15 ?_
  refine lv_astore_n (lv' := [(2, .ref (h ks)), (0, .ref (adK i9)), (1, .ref (h ks))]) hF.1 hF.2.1 dJ0_equals_9ea2d_18 rfl hl (by decide) rfl (fun ls hl => ?_)
  refine z_compact hF hX hS mw_348 dJ0_equals_9ea2d_19 ?_
  refine zi_if_eq (tgt := 36) hF.1 hF.2.1 (a := 1) dJ0_equals_9ea2d_22 (by decide) (by omega) (fun c_22 => absurd c_22 (by decide)) (fun c_22 => ?_)
  refine lv_aload_n hF.1 hF.2.1 dJ0_equals_9ea2d_25 rfl (lv_at hl 1 rfl) ?_
  refine vk_getf hF.1 hF.2.1 hCo hS hF.2.2.2.1 (hF.2.2.2.2 _ mw_346) (fun _ q => q) dJ0_equals_9ea2d_26 ?_
  refine lv_aload_n hF.1 hF.2.1 dJ0_equals_9ea2d_29 rfl (lv_at hl 0 rfl) ?_
  refine z_get hF hK hP (k := ks) (C := RJ0) (T := TJ0) (N := 4) hks hgs rfl uin_J0 1 (by decide) mw_346 (v := .int 0) rfl dJ0_equals_9ea2d_30 ?_
  refine lv_icmp_ne (tgt := 54) hF.1 hF.2.1 dJ0_equals_9ea2d_33 (by decide) (fun c_33 => absurd rfl c_33) (fun c_33 => ?_)
  refine lv_aload_n hF.1 hF.2.1 dJ0_equals_9ea2d_36 rfl (lv_at hl 1 rfl) ?_
  refine vk_getf hF.1 hF.2.1 hVa hS hF.2.2.2.1 (hF.2.2.2.2 _ mw_347) (fun _ q => q) dJ0_equals_9ea2d_37 ?_
  refine lv_aload_n hF.1 hF.2.1 dJ0_equals_9ea2d_40 rfl (lv_at hl 0 rfl) ?_
  refine z_get hF hK hP (k := ks) (C := RJ0) (T := TJ0) (N := 4) hks hgs rfl uin_J0 0 (by decide) mw_347 (v := .ref (h kb)) rfl dJ0_equals_9ea2d_41 ?_
  refine z_ciK (S := Unit) (w := fun _ => g) (P := fun z _ => z = b2i (wLen.getD i9 0 = m9 ∧ ∀ j, j < m9 → (wByt.getD i9 []).getD j 0 = f j)) (z_rS (na := 2) (rm := { frames := 0, cells := 0, slots := 6 * 0, locals := 0 }) hF (z_preE (zWi_st t ad adK adV) hK hX hW hz hA hP hS) (cg_J1_equals l n h D c g hinj t ad adK adV i9 hi9 kb hkb f m9 hm hg _) mw_375 mw_376 mw_261 mw_372 rfl rfl ⟨by decide, by decide, rfl⟩ ⟨(Nat.le_of_ble_eq_true rfl), (Nat.le_of_ble_eq_true rfl)⟩ (As := [.ref (adV i9), .ref (h kb)]) (rest := []) rfl hl.1 rfl (Nat.le_of_ble_eq_true rfl) dJ0_equals_9ea2d_44 ⟨(Nat.le_of_ble_eq_true rfl), (Nat.le_of_ble_eq_true rfl)⟩) hz hA hS (fun z_44 u_44 H locs hp hP hS => ?_)
  obtain rfl : z_44 = b2i (wLen.getD i9 0 = m9 ∧ ∀ j, j < m9 → (wByt.getD i9 []).getD j 0 = f j) := hp
  refine zi_ifb_eq (tgt := 54) hF.1 hF.2.1 (P := wLen.getD i9 0 = m9 ∧ ∀ j, j < m9 → (wByt.getD i9 []).getD j 0 = f j) dJ0_equals_9ea2d_47 (by decide) (fun c_47 => ?_) (fun c_47 => ?_)
  · refine zi_const hF.1 hF.2.1 dJ0_equals_9ea2d_54 ?_
    exact z_sreti (K := 0) (S := Unit) (P := fun z _ => z = b2i (wLen.getD i9 0 = m9 ∧ ∀ j, j < m9 → (wByt.getD i9 []).getD j 0 = f j)) (z := 0) (u := ()) (w := fun _ => g) hF hr hlocks hP hS (Nat.le_of_ble_eq_true rfl) (Nat.le_of_ble_eq_true rfl) (by decide) (b2i_f c_47).symm dJ0_equals_9ea2d_55
  · refine zi_const hF.1 hF.2.1 dJ0_equals_9ea2d_50 ?_
    refine lv_goto (tgt := 55) hF.1 hF.2.1 dJ0_equals_9ea2d_51 (by decide) ?_
    exact z_sreti (K := 0) (S := Unit) (P := fun z _ => z = b2i (wLen.getD i9 0 = m9 ∧ ∀ j, j < m9 → (wByt.getD i9 []).getD j 0 = f j)) (z := 1) (u := ()) (w := fun _ => g) hF hr hlocks hP hS (Nat.le_of_ble_eq_true rfl) (Nat.le_of_ble_eq_true rfl) (by decide) (b2i_t c_47).symm dJ0_equals_9ea2d_55

set_option maxRecDepth 100000 in
set_option maxHeartbeats 4000000 in
theorem c_X3_typedWish (l : Launch) (h : Nat → Nat) (D : va_G) (c : Nat → ClassId) (σ κ : Nat → Nat → Int) (ω : Nat × (Nat → Int32) × Int32) (hinj : ∀ i j, i < 32 → j < 32 → h i = h j → i = j) (t : Nat) (ad adK adV : Nat → Nat) (hn : ω.1 ≤ 6) (hby : ∀ j, j < ω.1 → ∃ x : Int, (97 ≤ x ∧ x ≤ 122) ∧ ω.2.1 j = iz x) :
    ∀ sz, Met l yX3_typedWish (Cond.code yX3_typedWish cX3_typedWish 6 (some (.object "Festivalgrid$Wish")) :: UW) { frames := 6, cells := 2, slots := 6 * 2, locals := 151 } (zPE (zWi t ad adK adV) [.ref (h 0)] 32 h D (gT c) sz (gC c h σ κ ω)) (va_Qq (fun (r : Option Nat) (_ : Unit) => ∃ z : Int, TW ω z ∧ ((z = -1 ∧ r = none) ∨ ∃ i : Nat, z = (i : Int) ∧ i < 5 ∧ r = some (ad i))) (fun _ t => zB 32 h D (gC c h σ κ ω) t.heap) (zA 32 h sz)) 2 (6 * 2) (zA 32 h sz) := by
  refine zEM_of (Ex := zWi t ad adK adV) (by decide) (Nat.le_of_ble_eq_true rfl) ?_
  intro p e s m below meth cd ls ⟨hF, hr, hlocks, hK, hX⟩ hW hP hl
  have hz : zD (zA 32 h s.heap.size) 32 h := zD.self hinj s.heap.size
  have hA : ∀ q, s.heap.size ≤ q → zA 32 h s.heap.size q := zA_new
  generalize zA 32 h s.heap.size = A at hz hA hX hW ⊢
  have hS : va_S A s.heap s.heap [] := va_S.rf
  have hl : lv_has ls 6 [(0, .ref (h 0))] := hl
  have hfit : ∀ j, j < ω.1 → fits .byte (.int (ω.2.1 j)) = true := fun j hj => by
    obtain ⟨x, hx, ex⟩ := hby j hj
    have key : ∀ k : Fin 26, fits .byte (.int (iz (97 + (k.val : Int)))) = true := by decide
    have := key ⟨(x - 97).toNat, by omega⟩
    rw [ex]
    rwa [show (97 : Int) + (((x - 97).toNat : Nat) : Int) = x from by omega] at this
  refine lv_aload_n hF.1 hF.2.1 dX3_typedWish_0 rfl (lv_at hl 0 rfl) ?_
  refine z_get hF hK hP (k := 0) (C := RX3) (T := TX3) (N := 14) (by omega) (rfl) rfl uin_X3 7 (by decide) mw_64 (v := .ref (h 6)) rfl dX3_typedWish_1 ?_
  refine z_crN (S := Nat) (n' := 34) (hh := fun q ra => hx (hx h 32 ra) 33 q) (w := fun q _ => gx (gx (gC c h σ κ ω) 33 (.inl (c 1, ω.1, .inl (cpB ω.2.1 ω.1)))) 32 (.inr (0, [.ref q, .int 0, .int 0, .int 0]))) (P := fun _ => True) (z_rV (C := RJ4) (na := 0) (rm := { frames := 5, cells := 2, slots := 6 * 2, locals := 131 }) hF (z_recv hK hP (k := 6) (by omega) rfl rfl) (z_preX hK hX hz hA hP hS) (cg_toString l 32 h D c (gC c h σ κ ω) hinj 6 10 (by omega) (by omega) ω.2.2 ω.2.1 ω.1 hn hfit rfl rfl _) (gIn_V mw_378 mw_379 mw_380 mw_63 mw_371) rfl rfl ⟨rfl, by decide, by decide, rfl⟩ ⟨(Nat.le_of_ble_eq_true rfl), (Nat.le_of_ble_eq_true rfl)⟩ (As := []) (rest := []) rfl hl.1 rfl (Nat.le_of_ble_eq_true rfl) dX3_typedWish_4 ⟨(Nat.le_of_ble_eq_true rfl), (Nat.le_of_ble_eq_true rfl)⟩) hz hA hS (fun q ra H locs hp hP hz4 hS => ?_)
  refine lv_astore_n (lv' := [(1, .ref ra), (0, .ref (h 0))]) hF.1 hF.2.1 dX3_typedWish_7 rfl hl (by decide) rfl (fun ls hl => ?_)
  refine va_gets hF.1 hF.2.1 hW.1 hS hF.2.2.2.1 (hF.2.2.2.2 _ mw_377) (fun _ q => q) dX3_typedWish_8 ?_
  refine lv_astore_n (lv' := [(2, .ref t), (1, .ref ra), (0, .ref (h 0))]) hF.1 hF.2.1 dX3_typedWish_11 rfl hl (by decide) rfl (fun ls hl => ?_)
  refine lv_aload_n hF.1 hF.2.1 dX3_typedWish_12 rfl (lv_at hl 0 rfl) ?_
  refine va_tlen hF.1 hF.2.1 hW.2.1 hS (v := iz 5) rfl dX3_typedWish_13 ?_
  refine lv_istore_n (lv' := [(3, .int (iz 5)), (2, .ref t), (1, .ref ra), (0, .ref (h 0))]) hF.1 hF.2.1 dX3_typedWish_14 rfl hl (by decide) rfl (fun ls hl => ?_)
  refine zi_const hF.1 hF.2.1 dX3_typedWish_15 ?_
  refine lv_istore (lv' := [(4, .int (iz 0)), (3, .int (iz 5)), (2, .ref t), (1, .ref ra), (0, .ref (h 0))]) hF.1 hF.2.1 dX3_typedWish_16 hl (by decide) rfl (fun ls hl => ?_)
  have back : ∀ {H : Heap}, zB 34 (hx (hx h 32 ra) 33 q) D (gx (gx (gC c h σ κ ω) 33 (.inl (c 1, ω.1, .inl (cpB ω.2.1 ω.1)))) 32 (.inr (0, [.ref q, .int 0, .int 0, .int 0]))) H → zB 32 h D (gC c h σ κ ω) H := fun hP => zB_congr (zB_less hP (by omega)) (fun k hk => by rw [hx_ne (by omega), hx_ne (by omega)]) (fun k hk => by rw [gx_ne (by omega), gx_ne (by omega)])
  have eqv : ∀ i, i < 5 → ((wLen.getD i 0 = ω.1 ∧ ∀ j, j < ω.1 → (wByt.getD i []).getD j 0 = cpB ω.2.1 ω.1 j) ↔ eqw ω (wtx.getD i [])) := fun i hi => by
    have k1 : ∀ i, i < 5 → wLen.getD i 0 = (wtx.getD i []).length := by decide
    have k2 : ∀ i, i < 5 → ∀ j, j < 6 → j < (wtx.getD i []).length → (wByt.getD i []).getD j 0 = iz ((wtx.getD i []).getD j 0) := by decide
    unfold eqw
    rw [k1 i hi]
    constructor
    · rintro ⟨a, b⟩
      exact ⟨a.symm, fun j hj => by have := b j (by omega); rw [cpB_at (by omega), k2 i hi j (by omega) hj] at this; exact this.symm⟩
    · rintro ⟨a, b⟩
      exact ⟨a.symm, fun j hj => by rw [cpB_at hj, k2 i hi j (by omega) (by omega)]; exact (b j (by omega)).symm⟩
  have es : hx (hx h 32 ra) 33 q 32 = ra := by rw [hx_ne (by decide), hx_at]
  have eb : hx (hx h 32 ra) 33 q 33 = q := hx_at
  refine z_loop (V := Nat) (n := 34) (h := hx (hx h 32 ra) 33 q) (nL := 6) (wd := fun _ => gx (gx (gC c h σ κ ω) 33 (.inl (c 1, ω.1, .inl (cpB ω.2.1 ω.1)))) 32 (.inr (0, [.ref q, .int 0, .int 0, .int 0]))) (lv := fun v => (if v = 0 then [] else [(5, .ref (ad (v - 1)))]) ++ [(4, .int (iz (v : Int))), (3, .int (iz 5)), (2, .ref t), (1, .ref ra), (0, .ref (h 0))]) (stk := fun _ => []) (mu := fun v => 6 - v) (inv := fun v => v ≤ 5 ∧ ∀ j, j < v → ¬ eqw ω (wtx.getD j [])) ?_ 0 ⟨Nat.zero_le _, lt_0⟩ hP hS hl
  intro v hv ih H locs ls hP hS hl
  have hl : lv_has ls 6 [(4, .int (iz (v : Int))), (3, .int (iz 5)), (2, .ref t), (1, .ref ra), (0, .ref (h 0))] := by
    by_cases q0 : v = 0
    · rw [if_pos q0] at hl; exact hl
    · rw [if_neg q0] at hl; exact lv_sub hl [1, 2, 3, 4, 5] rfl
  refine lv_iload hF.1 hF.2.1 dX3_typedWish_18 (lv_at hl 0 rfl) ?_
  refine lv_iload_n hF.1 hF.2.1 dX3_typedWish_20 rfl (lv_at hl 1 rfl) ?_
  refine zi_icmp_ge (tgt := 51) hF.1 hF.2.1 (a := (v : Int)) (b := 5) dX3_typedWish_21 (by decide) (by have := hv.1; omega) (by omega) (fun c_21 => ?_) (fun c_21 => ?_)
  · refine lv_null hF.1 hF.2.1 dX3_typedWish_51 ?_
    exact (W.aret (free := A) hF.1 hF.2.1 hr (Or.inl ⟨_, rfl⟩) (Or.inl rfl) (fun t' ht hW => ⟨⟨none, (), rfl, ⟨-1, Or.inl ⟨rfl, fun j hj => hv.2 j (by omega)⟩, Or.inl ⟨rfl, rfl⟩⟩, by show zB _ _ _ _ t'.heap; rw [ht]; exact back hP⟩, hS.F ht⟩) hS.2.2 dX3_typedWish_52 hlocks).wide (Nat.le_of_ble_eq_true rfl) (Nat.le_of_ble_eq_true rfl)
  · have hv5 : v < 5 := by omega
    refine lv_aload_n hF.1 hF.2.1 dX3_typedWish_24 rfl (lv_at hl 2 rfl) ?_
    refine lv_iload hF.1 hF.2.1 dX3_typedWish_25 (lv_at hl 0 rfl) ?_
    refine vb_tq hF.1 hF.2.1 hW.2.1 hS (i := iz (v : Int)) (iz_in (by omega) (by omega)) (v := .ref (ad v)) (by rw [iz_clamp (by omega)]; rfl) dX3_typedWish_27 ?_
    refine lv_astore (lv' := (5, .ref (ad v)) :: [(4, .int (iz (v : Int))), (3, .int (iz 5)), (2, .ref t), (1, .ref ra), (0, .ref (h 0))]) hF.1 hF.2.1 dX3_typedWish_28 hl (by decide) rfl (fun ls hl => ?_)
    refine lv_aload hF.1 hF.2.1 dX3_typedWish_30 (lv_at hl 0 rfl) ?_
    refine z_wget hF hK hS (hW.2.2.2.2.2.1 v hv5) nw_12 dX3_typedWish_32 ?_
    refine lv_aload_n hF.1 hF.2.1 dX3_typedWish_35 rfl (lv_at hl 4 rfl) ?_
    refine z_ciK (S := Unit) (n := 34) (h := hx (hx h 32 ra) 33 q) (w := fun _ => gx (gx (gC c h σ κ ω) 33 (.inl (c 1, ω.1, .inl (cpB ω.2.1 ω.1)))) 32 (.inr (0, [.ref q, .int 0, .int 0, .int 0]))) (P := fun z _ => z = b2i (wLen.getD v 0 = ω.1 ∧ ∀ j, j < ω.1 → (wByt.getD v []).getD j 0 = cpB ω.2.1 ω.1 j)) (z_rV (C := RJ0) (na := 1) (rm := { frames := 1, cells := 0, slots := 6 * 0, locals := 22 }) hF (vk_recv hW.2.2.2.2.2.2 hv5 hS) (z_preE (zWi_st t ad adK adV) hK hX hW hz4 hA hP hS) (cg_J0_equals l 34 (hx (hx h 32 ra) 33 q) D c (gx (gx (gC c h σ κ ω) 33 (.inl (c 1, ω.1, .inl (cpB ω.2.1 ω.1)))) 32 (.inr (0, [.ref q, .int 0, .int 0, .int 0]))) hz4.1 t ad adK adV v hv5 32 33 (by omega) (by omega) (cpB ω.2.1 ω.1) ω.1 hn (by rw [gx_at, eb]) (by rw [gx_ne (by decide), gx_at]) _) (gIn_V mw_381 mw_382 mw_383 mw_242 mw_373) rfl rfl ⟨rfl, by decide, by decide, rfl⟩ ⟨(Nat.le_of_ble_eq_true rfl), (Nat.le_of_ble_eq_true rfl)⟩ (As := [.ref (hx (hx h 32 ra) 33 q 32)]) (rest := []) rfl hl.1 (by rw [es]; rfl) (Nat.le_of_ble_eq_true rfl) dX3_typedWish_36 ⟨(Nat.le_of_ble_eq_true rfl), (Nat.le_of_ble_eq_true rfl)⟩) hz4 hA hS (fun z_36 u_36 H locs hp hP hS => ?_)
    obtain rfl : z_36 = b2i (wLen.getD v 0 = ω.1 ∧ ∀ j, j < ω.1 → (wByt.getD v []).getD j 0 = cpB ω.2.1 ω.1 j) := hp
    refine zi_ifb_eq (tgt := 45) hF.1 hF.2.1 (P := wLen.getD v 0 = ω.1 ∧ ∀ j, j < ω.1 → (wByt.getD v []).getD j 0 = cpB ω.2.1 ω.1 j) dX3_typedWish_39 (by decide) (fun c_39 => ?_) (fun c_39 => ?_)
    · refine lv_iinc (v := iz ((v + 1 : Nat) : Int)) (lv' := [(4, .int (iz ((v + 1 : Nat) : Int))), (5, .ref (ad v)), (3, .int (iz 5)), (2, .ref t), (1, .ref ra), (0, .ref (h 0))]) hF.1 hF.2.1 dX3_typedWish_45 hl (k := 1) rfl ((iz_add _ _).trans (congrArg iz (by omega))) (by decide) rfl (fun ls hl => ?_)
      refine lv_goto (tgt := 18) hF.1 hF.2.1 dX3_typedWish_48 (by decide) ?_
      exact ih (v + 1) ⟨hv5, lt_s hv.2 (fun z => c_39 ((eqv v hv5).mpr z))⟩ (by show 6 - (v + 1) < 6 - v; omega) _ _ _ hP hS (lv_sub hl [1, 0, 2, 3, 4, 5] rfl)
    · refine lv_aload hF.1 hF.2.1 dX3_typedWish_42 (lv_at hl 0 rfl) ?_
      exact (W.aret (free := A) hF.1 hF.2.1 hr (Or.inl ⟨_, rfl⟩) (Or.inr ⟨ad v, rfl⟩) (fun t' ht hW => ⟨⟨some (ad v), (), rfl, ⟨(v : Int), Or.inr ⟨v, rfl, hv5, (eqv v hv5).mp c_39⟩, Or.inr ⟨v, rfl, hv5, rfl⟩⟩, by show zB _ _ _ _ t'.heap; rw [ht]; exact back hP⟩, hS.F ht⟩) hS.2.2 dX3_typedWish_44 hlocks).wide (Nat.le_of_ble_eq_true rfl) (Nat.le_of_ble_eq_true rfl)
