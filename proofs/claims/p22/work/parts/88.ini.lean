/-! constructors: the small ones; loops in which a world grows -/
theorem vp_cell_eq {cA : ClassId} {N : Nat} {f f' : Nat → Int32} (h : ∀ j, j < N → f' j = f j) : vp_cell cA (N, .inl f') = vp_cell cA (N, .inl f) := by
  unfold vp_cell arrV
  simp only
  congr 1
  apply Array.ext
  · simp
  · intro i h1 h2
    simp only [Array.getElem_ofFn]
    rw [h i (by simpa using h1)]
/-- what a row of ints says beyond its end doesn't matter -/
theorem zB_arr {n : Nat} {h : Nat → Nat} {D : va_G} {g g' : Nat → va_E} {H : Heap} (hP : zB n h D g H) (hg : ∀ k, k < n → g' k = g k ∨ ∃ (cA : ClassId) (N : Nat) (f f' : Nat → Int32), g k = .inl (cA, N, .inl f) ∧ g' k = .inl (cA, N, .inl f') ∧ ∀ j, j < N → f' j = f j) : zB n h D g' H := by
  intro k q hk
  obtain ⟨hl, rfl⟩ := wN_lt hk
  have h1 := hP k _ (wN_at hl)
  rcases hg k hl with e | ⟨cA, N, f, f', e1, e2, e3⟩
  · rw [e]; exact h1
  · rw [e1] at h1
    rw [e2]
    show H[h k]? = some (vp_cell cA (N, .inl f'))
    rw [vp_cell_eq e3]
    exact h1
theorem zB_perm {n : Nat} {h : Nat → Nat} {D : va_G} {g : Nat → va_E} {H : Heap} (hP : zB n h D g H) (π : Nat → Nat) (hπ : ∀ k, k < n → π k < n) : zB n (fun k => h (π k)) D (fun k => g (π k)) H := by
  intro k q hk
  obtain ⟨hl, rfl⟩ := wN_lt hk
  exact hP (π k) _ (wN_at (hπ k hl))
theorem zD_perm {A : Nat → Prop} {n : Nat} {h : Nat → Nat} (hz : zD A n h) (π : Nat → Nat) (hπ : ∀ k, k < n → π k < n) (hi : ∀ i j, i < n → j < n → π i = π j → i = j) : zD A n (fun k => h (π k)) :=
  ⟨fun i j h1 h2 e => hi i j h1 h2 (hz.1 _ _ (hπ i h1) (hπ j h2) e), fun k hk => hz.2 _ (hπ k hk)⟩
theorem zD_congr {A : Nat → Prop} {n : Nat} {h h' : Nat → Nat} (hz : zD A n h) (e : ∀ k, k < n → h' k = h k) : zD A n h' :=
  ⟨fun i j h1 h2 q => hz.1 i j h1 h2 (by rw [← e i h1, ← e j h2]; exact q), fun k hk => by rw [e k hk]; exact hz.2 k hk⟩
section ZNL
variable {p : Program} {l : Launch} {e : Env} {R : Room} {s : State} {m : MethodId} {args : Array Value} {below : List Frame} {meth : Method} {c : Code} {H : Heap} {locs : List Loc} {Q : State → Prop}
variable {cc : ByteArray} {nL pc : Nat} {own : String} {ls : Array Slot} {rest : List Value} {A : Nat → Prop} {D : va_G} {tys : List (ClassId × FieldType)}
theorem z_loopN {V : Type} {nn : V → Nat} {hh : V → Nat → Nat} {wd : V → Nat → va_E} {lv : V → List (Nat × Value)} {cv sv mu : V → Nat} {inv : V → Prop}
    (step : ∀ v, inv v → (∀ v', inv v' → mu v' < mu v → ∀ (H : Heap) (locs : List Loc) (ls : Array Slot), zB (nn v') (hh v') D (wd v') H → zD A (nn v') (hh v') → va_S A s.heap H locs → lv_has ls nL (lv v') → W p l e R s m args below meth c H locs (cv v') (sv v') Q (F0 m pc ls [])) →
      ∀ (H : Heap) (locs : List Loc) (ls : Array Slot), zB (nn v) (hh v) D (wd v) H → zD A (nn v) (hh v) → va_S A s.heap H locs → lv_has ls nL (lv v) → W p l e R s m args below meth c H locs (cv v) (sv v) Q (F0 m pc ls []))
    (v0 : V) (h0 : inv v0) (hP : zB (nn v0) (hh v0) D (wd v0) H) (hz : zD A (nn v0) (hh v0)) (hS : va_S A s.heap H locs) (hl : lv_has ls nL (lv v0)) : W p l e R s m args below meth c H locs (cv v0) (sv v0) Q (F0 m pc ls []) := by
  have key : ∀ (k : Nat) (v : V), mu v < k → inv v → ∀ (H : Heap) (locs : List Loc) (ls : Array Slot), zB (nn v) (hh v) D (wd v) H → zD A (nn v) (hh v) → va_S A s.heap H locs → lv_has ls nL (lv v) → W p l e R s m args below meth c H locs (cv v) (sv v) Q (F0 m pc ls []) := by
    intro k
    induction k with
    | zero => intro v hk; exact absurd hk (Nat.not_lt_zero _)
    | succ k ih =>
      intro v hk hv
      exact step v hv (fun v' hv' hlt => ih v' (by omega) hv')
  exact key (mu v0 + 1) v0 (Nat.lt_succ_self _) h0 H locs ls hP hz hS hl
variable {cells slots mc ms idx na maxL : Nat} {y : MethodName} {cy : ByteArray} {rm : Room} {Pc : Array Value → State → Prop} {Qc : Array Value → State → Outcome → State → Prop} {free : Addr → Prop} {As st0 : List Value} {b : Nat} {host : String}
/-- a private constructor of a nest mate -/
theorem z_rIN (hF : CallFix p m c cc nL s args UW own) (hK : zK D tys s) (hp : FrameBlind Pc ∧ ∀ U : State, U.heap = H → s.WarmedH U.vm → Pc (Value.ref b :: As).toArray U) (hM : Met l y (Cond.code y cy maxL none :: UW) rm Pc Qc mc ms free)
    (hl : Cond.methodLinkNest own idx y host ∈ NW) (h2 : Cond.instanceMethod y ∈ UW) (h4 : Cond.initialized y.cls ∈ UW) (h5 : Cond.code y cy maxL none ∈ UW) (hy1 : y.name = "<init>") (hrc : rm.cells = mc) (hrs : rm.slots = ms) (hd : y.cls ≠ "java/lang/invoke/MethodHandle" ∧ y.cls ≠ "java/lang/invoke/VarHandle" ∧ (parseMethodDescriptor y.desc).map (fun d => d.parameters.length) = some na) (hR : rm.frames + 1 ≤ R.frames ∧ 8 + (maxL + 11) + rm.locals ≤ R.locals)
    (hna : As.length = na) (hsz : ls.size = nL) (hst : st0 = As.reverse ++ .ref b :: rest) (hW : (rest.map fun v => v.category).sum ≤ 8) (hdg : decode cc pc = .ok (.invokespecial idx, 3)) (hf : cells + mc ≤ R.cells ∧ slots + ms ≤ R.slots) :
    va_Run p l e R s m args below meth c H locs cells slots mc ms (F0 m pc ls st0) rest (Qc (Value.ref b :: As).toArray) free :=
  va_runIN hF hM ⟨va_cnB na hF.2.2.2.2 (gIn_C h5) rfl hrc hrs (hK.2 _ hl) (hF.2.2.2.2 _ h4) hd hR, hy1, hF.2.2.2.2 _ h2⟩ hp rfl hna hsz hst (by show 2 * 0 + _ ≤ 8; omega) hdg hf
end ZNL

set_option maxRecDepth 100000 in
set_option maxHeartbeats 4000000 in
theorem cg_X0_init (l : Launch) (n : Nat) (h : Nat → Nat) (D : va_G) (c : Nat → ClassId) (g : Nat → va_E) (hinj : ∀ i j, i < n → j < n → h i = h j → i = j) (k : Nat) (hk : k < n) :
    zNv (S := Unit) l yX0_init cX0_init 1 1 12 0 0 [.ref (h k)] n h D (gT c) g n (fun _ => h) (fun _ => g) (fun _ => True) := by
  refine zIM_of (by decide) (Nat.le_of_ble_eq_true rfl) rfl ?_
  intro p e s m below meth cd ls ⟨hF, hr, hlocks, hK, hX⟩ hmn hP hl
  have hz : zD (zA n h s.heap.size) n h := zD.self hinj s.heap.size
  have hA : ∀ q, s.heap.size ≤ q → zA n h s.heap.size q := zA_new
  generalize zA n h s.heap.size = A at hz hA hX ⊢
  have hS : va_S A s.heap s.heap [] := va_S.rf
  have hl : lv_has ls 1 [(0, .ref (h k))] := hl
  refine lv_aload_n hF.1 hF.2.1 dX0_init_0 rfl (lv_at hl 0 rfl) ?_
  refine W.objInit hF.1 hF.2.1 hF.2.2.2.1 (hF.2.2.2.2 _ mw_1) (hF.2.2.2.2 _ mw_2) (hF.2.2.2.2 _ mw_3) rfl (hl.1.trans hF.2.2.1.symm) rfl dX0_init_1 (Nat.le_of_ble_eq_true rfl) (Nat.le_of_ble_eq_true rfl) ?_
  show W p l e _ s m _ below meth cd _ _ _ _ _ (F0 m 4 ls [])
  exact (W.vret (free := A) hF.1 hF.2.1 hr (fun t' ht hW => ⟨⟨(), rfl, trivial, by show zB _ _ _ _ t'.heap; rw [ht]; exact hP, hz⟩, hS.F ht⟩) hS.2.2 dX0_init_4 hlocks).wide (Nat.le_of_ble_eq_true rfl) (Nat.le_of_ble_eq_true rfl)

set_option maxRecDepth 100000 in
set_option maxHeartbeats 4000000 in
theorem cg_X1_init (l : Launch) (n : Nat) (h : Nat → Nat) (D : va_G) (c : Nat → ClassId) (g : Nat → va_E) (hinj : ∀ i j, i < n → j < n → h i = h j → i = j) (k : Nat) (hk : k < n) (hg : g k = .inr (5, [.int 0, .int 0, .int 0])) :
    zNv (S := Unit) l yX1_init cX1_init 1 1 12 0 0 [.ref (h k)] n h D (gT c) g n (fun _ => h) (fun _ => gx g k (.inr (5, [.int (iz (-1)), .int 0, .int 0]))) (fun _ => True) := by
  refine zIM_of (by decide) (Nat.le_of_ble_eq_true rfl) rfl ?_
  intro p e s m below meth cd ls ⟨hF, hr, hlocks, hK, hX⟩ hmn hP hl
  have hz : zD (zA n h s.heap.size) n h := zD.self hinj s.heap.size
  have hA : ∀ q, s.heap.size ≤ q → zA n h s.heap.size q := zA_new
  generalize zA n h s.heap.size = A at hz hA hX ⊢
  have hS : va_S A s.heap s.heap [] := va_S.rf
  have hl : lv_has ls 1 [(0, .ref (h k))] := hl
  refine lv_aload_n hF.1 hF.2.1 dX1_init_0 rfl (lv_at hl 0 rfl) ?_
  refine W.objInit hF.1 hF.2.1 hF.2.2.2.1 (hF.2.2.2.2 _ mw_29) (hF.2.2.2.2 _ mw_2) (hF.2.2.2.2 _ mw_3) rfl (hl.1.trans hF.2.2.1.symm) rfl dX1_init_1 (Nat.le_of_ble_eq_true rfl) (Nat.le_of_ble_eq_true rfl) ?_
  show W p l e _ s m _ below meth cd _ _ _ _ _ (F0 m 4 ls [])
  refine lv_aload_n hF.1 hF.2.1 dX1_init_4 rfl (lv_at hl 0 rfl) ?_
  refine zi_const hF.1 hF.2.1 dX1_init_5 ?_
  refine z_put hF hK hz hP hS (k := k) (C := RX1) (T := TX1) (N := 3) hk hg rfl uin_X1 tyX1_ok nmX1 0 (by decide) mw_30 rfl ⟨rfl, rfl⟩ (Nat.le_of_ble_eq_true rfl) (g' := gx g k (.inr (5, [.int (iz (-1)), .int 0, .int 0]))) (by rw [gx_at]; rfl) (fun i hi hne => gx_ne hne) dX1_init_6 (fun H locs hP hS => ?_)
  exact (W.vret (free := A) hF.1 hF.2.1 hr (fun t' ht hW => ⟨⟨(), rfl, trivial, by show zB _ _ _ _ t'.heap; rw [ht]; exact hP, hz⟩, hS.F ht⟩) hS.2.2 dX1_init_9 hlocks).wide (Nat.le_of_ble_eq_true rfl) (Nat.le_of_ble_eq_true rfl)

set_option maxRecDepth 100000 in
set_option maxHeartbeats 4000000 in
theorem cg_J5_init (l : Launch) (n : Nat) (h : Nat → Nat) (D : va_G) (c : Nat → ClassId) (g : Nat → va_E) (hinj : ∀ i j, i < n → j < n → h i = h j → i = j) (k : Nat) (hk : k < n) (hg : g k = .inr (1, [.null, .int 0, .int 0, .int 0])) :
    zNv (S := Nat) l yJ5_init_d00df cJ5_init_d00df 2 1 13 1 16 [.ref (h k), .int (iz 16)] n h D (gT c) g (n + 1) (fun q => hx h n q) (fun q => gx (gx g n (.inl (c 1, 16, .inl fun _ => 0))) k (.inr (1, [.ref q, .int 0, .int 0, .int 0]))) (fun _ => True) := by
  refine zIM_of (by decide) (Nat.le_of_ble_eq_true rfl) rfl ?_
  intro p e s m below meth cd ls ⟨hF, hr, hlocks, hK, hX⟩ hmn hP hl
  have hz : zD (zA n h s.heap.size) n h := zD.self hinj s.heap.size
  have hA : ∀ q, s.heap.size ≤ q → zA n h s.heap.size q := zA_new
  generalize zA n h s.heap.size = A at hz hA hX ⊢
  have hS : va_S A s.heap s.heap [] := va_S.rf
  have hl : lv_has ls 2 [(0, .ref (h k)), (1, .int (iz 16))] := hl
  refine lv_aload_n hF.1 hF.2.1 dJ5_init_d00df_0 rfl (lv_at hl 0 rfl) ?_
  refine W.objInit hF.1 hF.2.1 hF.2.2.2.1 (hF.2.2.2.2 _ mw_42) (hF.2.2.2.2 _ mw_2) (hF.2.2.2.2 _ mw_3) rfl (hl.1.trans hF.2.2.1.symm) rfl dJ5_init_d00df_1 (Nat.le_of_ble_eq_true rfl) (Nat.le_of_ble_eq_true rfl) ?_
  show W p l e _ s m _ below meth cd _ _ _ _ _ (F0 m 4 ls [])
  refine z_compact hF hX hS mw_43 dJ5_init_d00df_4 ?_
  refine zi_if_eq (tgt := 25) hF.1 hF.2.1 (a := 1) dJ5_init_d00df_7 (by decide) (by omega) (fun c_7 => absurd c_7 (by decide)) (fun c_7 => ?_)
  refine lv_aload_n hF.1 hF.2.1 dJ5_init_d00df_10 rfl (lv_at hl 0 rfl) ?_
  refine lv_iload_n hF.1 hF.2.1 dJ5_init_d00df_11 rfl (lv_at hl 1 rfl) ?_
  refine z_newa hF hK hz hA hP hS (atype := .byte) mw_37 rfl 1 rfl (N' := 16) (fun cA => rfl) rfl (by omega) (by decide) (Nat.le_of_ble_eq_true rfl) (Nat.le_of_ble_eq_true rfl) dJ5_init_d00df_12 (fun q H hP hz1 hS => ?_)
  have hkn : k ≠ n := by omega
  have ehk : hx h n q k = h k := hx_ne hkn
  refine W_top2 ehk.symm ?_
  refine z_put hF hK hz1 hP hS (k := k) (C := RJ4) (T := TJ4) (N := 4) (by omega) (by rw [gx_ne hkn]; exact hg) rfl uin_J4 tyJ4_ok nmJ4 0 (by decide) mw_44 rfl ⟨rfl, rfl⟩ (Nat.le_of_ble_eq_true rfl) (g' := gx (gx g n (.inl (c 1, 16, .inl fun _ => 0))) k (.inr (1, [.ref q, .int 0, .int 0, .int 0]))) (by rw [gx_at]; rfl) (fun i hi hne => gx_ne hne) dJ5_init_d00df_14 (fun H locs hP hS => ?_)
  refine lv_aload_n hF.1 hF.2.1 dJ5_init_d00df_17 rfl (lv_at hl 0 rfl) ?_
  refine zi_const hF.1 hF.2.1 dJ5_init_d00df_18 ?_
  refine W_top2 ehk.symm ?_
  refine z_put hF hK hz1 hP hS (k := k) (C := RJ4) (T := TJ4) (N := 4) (by omega) gx_at rfl uin_J4 tyJ4_ok nmJ4 1 (by decide) mw_45 rfl (by decide) (Nat.le_of_ble_eq_true rfl) (g' := gx (gx g n (.inl (c 1, 16, .inl fun _ => 0))) k (.inr (1, [.ref q, .int 0, .int 0, .int 0]))) (by rw [gx_at]; rfl) (fun i hi hne => rfl) dJ5_init_d00df_19 (fun H locs hP hS => ?_)
  refine lv_goto (tgt := 38) hF.1 hF.2.1 dJ5_init_d00df_22 (by decide) ?_
  exact (W.vret (free := A) hF.1 hF.2.1 hr (fun t' ht hW => ⟨⟨q, rfl, trivial, by show zB _ _ _ _ t'.heap; rw [ht]; exact hP, hz1⟩, hS.F ht⟩) hS.2.2 dJ5_init_d00df_38 hlocks).wide (Nat.le_of_ble_eq_true rfl) (Nat.le_of_ble_eq_true rfl)

set_option maxRecDepth 100000 in
set_option maxHeartbeats 4000000 in
theorem cg_J4_init (l : Launch) (n : Nat) (h : Nat → Nat) (D : va_G) (c : Nat → ClassId) (g : Nat → va_E) (hinj : ∀ i j, i < n → j < n → h i = h j → i = j) (k : Nat) (hk : k < n) (hg : g k = .inr (1, [.null, .int 0, .int 0, .int 0])) :
    zNv (S := Nat) l yJ4_init_da8c8 cJ4_init_da8c8 1 2 34 1 16 [.ref (h k)] n h D (gT c) g (n + 1) (fun q => hx h n q) (fun q => gx (gx g n (.inl (c 1, 16, .inl fun _ => 0))) k (.inr (1, [.ref q, .int 0, .int 0, .int 0]))) (fun _ => True) := by
  refine zIM_of (by decide) (Nat.le_of_ble_eq_true rfl) rfl ?_
  intro p e s m below meth cd ls ⟨hF, hr, hlocks, hK, hX⟩ hmn hP hl
  have hz : zD (zA n h s.heap.size) n h := zD.self hinj s.heap.size
  have hA : ∀ q, s.heap.size ≤ q → zA n h s.heap.size q := zA_new
  generalize zA n h s.heap.size = A at hz hA hX ⊢
  have hS : va_S A s.heap s.heap [] := va_S.rf
  have hl : lv_has ls 1 [(0, .ref (h k))] := hl
  refine lv_aload_n hF.1 hF.2.1 dJ4_init_da8c8_0 rfl (lv_at hl 0 rfl) ?_
  refine zi_bipush hF.1 hF.2.1 dJ4_init_da8c8_1 (by decide) ?_
  refine z_cvN (S := Nat) (n' := n + 1) (hh := fun q => hx h n q) (w := fun q => gx (gx g n (.inl (c 1, 16, .inl fun _ => 0))) k (.inr (1, [.ref q, .int 0, .int 0, .int 0]))) (P := fun _ => True) (z_rI (na := 1) (rm := { frames := 1, cells := 1, slots := 16, locals := 13 }) hF (z_preX hK hX hz hA hP hS) (cg_J5_init l n h D c g hinj k hk hg _) mw_49 mw_50 mw_51 mw_41 rfl rfl rfl ⟨by decide, by decide, rfl⟩ ⟨(Nat.le_of_ble_eq_true rfl), (Nat.le_of_ble_eq_true rfl)⟩ (As := [.int (iz 16)]) (rest := []) rfl hl.1 rfl (Nat.le_of_ble_eq_true rfl) dJ4_init_da8c8_3 ⟨(Nat.le_of_ble_eq_true rfl), (Nat.le_of_ble_eq_true rfl)⟩) hz hA hS (fun q H locs hp hP hz1 hS => ?_)
  exact (W.vret (free := A) hF.1 hF.2.1 hr (fun t' ht hW => ⟨⟨q, rfl, trivial, by show zB _ _ _ _ t'.heap; rw [ht]; exact hP, hz1⟩, hS.F ht⟩) hS.2.2 dJ4_init_da8c8_6 hlocks).wide (Nat.le_of_ble_eq_true rfl) (Nat.le_of_ble_eq_true rfl)

set_option maxRecDepth 100000 in
set_option maxHeartbeats 4000000 in
theorem cg_fill (l : Launch) (n : Nat) (h : Nat → Nat) (D : va_G) (c : Nat → ClassId) (g : Nat → va_E) (hinj : ∀ i j, i < n → j < n → h i = h j → i = j) (k : Nat) (hk : k < n) (N : Nat) (hN : N ≤ 100) (f : Nat → Int32) (hg : g k = .inl (c 0, N, .inl f)) (x : Int) :
    zMv (S := Unit) l yJ7_fill_53178 cJ7_fill_53178 4 none 0 0 [.ref (h k), .int (iz x)] n h D (gT c) g (fun _ => gx g k (.inl (c 0, N, .inl fun j => if j < N then iz x else f j))) (fun _ => True) := by
  refine zM_of (by decide) (Nat.le_of_ble_eq_true rfl) ?_
  intro p e s m below meth cd ls ⟨hF, hr, hlocks, hK⟩ hP hl
  have hz : zD (zA n h s.heap.size) n h := zD.self hinj s.heap.size
  have hA : ∀ q, s.heap.size ≤ q → zA n h s.heap.size q := zA_new
  generalize zA n h s.heap.size = A at hz hA ⊢
  have hS : va_S A s.heap s.heap [] := va_S.rf
  have hl : lv_has ls 4 [(0, .ref (h k)), (1, .int (iz x))] := hl
  refine zi_const hF.1 hF.2.1 dJ7_fill_53178_0 ?_
  refine lv_istore_n (lv' := [(2, .int (iz 0)), (0, .ref (h k)), (1, .int (iz x))]) hF.1 hF.2.1 dJ7_fill_53178_1 rfl hl (by decide) rfl (fun ls hl => ?_)
  refine lv_aload_n hF.1 hF.2.1 dJ7_fill_53178_2 rfl (lv_at hl 1 rfl) ?_
  refine z_alen hF hK hP (k := k) hk hg 0 rfl (z := (N : Int)) rfl dJ7_fill_53178_3 ?_
  refine lv_istore_n (lv' := [(3, .int (iz N)), (2, .int (iz 0)), (0, .ref (h k)), (1, .int (iz x))]) hF.1 hF.2.1 dJ7_fill_53178_4 rfl hl (by decide) rfl (fun ls hl => ?_)
  have hP0 : zB n h D (gx g k (.inl (c 0, N, .inl fun j => if j < 0 then iz x else f j))) s.heap := zB_congr hP (fun _ _ => rfl) (fun i hi => by
    rcases Classical.em (i = k) with q | q
    · rw [q, gx_at, hg]; rfl
    · rw [gx_ne q])
  refine z_loop (V := Nat) (nL := 4) (wd := fun v => gx g k (.inl (c 0, N, .inl fun j => if j < v then iz x else f j))) (lv := fun v => [(2, .int (iz (v : Int))), (3, .int (iz N)), (0, .ref (h k)), (1, .int (iz x))]) (stk := fun _ => []) (mu := fun v => N + 1 - v) (inv := fun v => v ≤ N) ?_ 0 (Nat.zero_le _) hP0 hS (lv_sub hl [1, 0, 2, 3] rfl)
  intro v hv ih H locs ls hP hS hl
  have hv : v ≤ N := hv
  refine lv_iload_n hF.1 hF.2.1 dJ7_fill_53178_5 rfl (lv_at hl 0 rfl) ?_
  refine lv_iload_n hF.1 hF.2.1 dJ7_fill_53178_6 rfl (lv_at hl 1 rfl) ?_
  refine zi_icmp_ge (tgt := 20) hF.1 hF.2.1 (a := (v : Int)) (b := (N : Int)) dJ7_fill_53178_7 (by decide) (by omega) (by omega) (fun c_7 => ?_) (fun c_7 => ?_)
  · have e : v = N := by omega
    rw [e] at hP
    exact z_retv (P := fun _ => True) (u := ()) (w := fun _ => gx g k (.inl (c 0, N, .inl fun j => if j < N then iz x else f j))) hF hr hlocks hP hS trivial dJ7_fill_53178_20
  · refine lv_aload_n hF.1 hF.2.1 dJ7_fill_53178_10 rfl (lv_at hl 2 rfl) ?_
    refine lv_iload_n hF.1 hF.2.1 dJ7_fill_53178_11 rfl (lv_at hl 0 rfl) ?_
    refine lv_iload_n hF.1 hF.2.1 dJ7_fill_53178_12 rfl (lv_at hl 3 rfl) ?_
    refine z_iast hF hK hz hP hS (k := k) hk gx_at 0 rfl v rfl (by omega) (by omega) (g' := gx g k (.inl (c 0, N, .inl fun j => if j < v + 1 then iz x else f j))) (by
      rw [gx_at]
      congr 4
      funext j
      unfold upd
      by_cases h1 : j = v
      · rw [if_pos h1, if_pos (by omega)]
      · rw [if_neg h1]
        show (if j < v + 1 then iz x else f j) = if j < v then iz x else f j
        by_cases h2 : j < v
        · rw [if_pos h2, if_pos (by omega)]
        · rw [if_neg h2, if_neg (by omega)]) (fun i hi hne => by rw [gx_ne hne, gx_ne hne]) dJ7_fill_53178_13 (fun H locs hP hS => ?_)
    refine lv_iinc (v := iz ((v + 1 : Nat) : Int)) (lv' := [(2, .int (iz ((v + 1 : Nat) : Int))), (3, .int (iz N)), (0, .ref (h k)), (1, .int (iz x))]) hF.1 hF.2.1 dJ7_fill_53178_14 hl (k := 0) rfl ((iz_add _ _).trans (congrArg iz (by omega))) (by decide) rfl (fun ls hl => ?_)
    refine lv_goto (tgt := 5) hF.1 hF.2.1 dJ7_fill_53178_17 (by decide) ?_
    exact ih (v + 1) (by show v + 1 ≤ N; omega) (by show N + 1 - (v + 1) < N + 1 - v; omega) _ _ _ hP hS hl
