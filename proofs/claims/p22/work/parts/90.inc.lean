/-! the class's constructor -/
theorem vp_cellq_eq {cA : ClassId} {N : Nat} {f f' : Nat → Option Nat} (h : ∀ j, j < N → f' j = f j) : vp_cell cA (N, .inr (.inr (.inr (.inr f')))) = vp_cell cA (N, .inr (.inr (.inr (.inr f)))) := by
  unfold vp_cell arrV
  simp only
  congr 1
  apply Array.ext
  · simp
  · intro i h1 h2
    simp only [Array.getElem_ofFn]
    rw [h i (by simpa using h1)]
theorem zB_arrq {n : Nat} {h : Nat → Nat} {D : va_G} {g g' : Nat → va_E} {H : Heap} (hP : zB n h D g H) (hg : ∀ k, k < n → g' k = g k ∨ ∃ (cA : ClassId) (N : Nat) (f f' : Nat → Option Nat), g k = .inl (cA, N, .inr (.inr (.inr (.inr f)))) ∧ g' k = .inl (cA, N, .inr (.inr (.inr (.inr f')))) ∧ ∀ j, j < N → f' j = f j) : zB n h D g' H := by
  intro k q hk
  obtain ⟨hl, rfl⟩ := wN_lt hk
  have h1 := hP k _ (wN_at hl)
  rcases hg k hl with e | ⟨cA, N, f, f', e1, e2, e3⟩
  · rw [e]; exact h1
  · rw [e1] at h1
    rw [e2]
    show H[h k]? = some (vp_cell cA (N, .inr (.inr (.inr (.inr f')))))
    rw [vp_cellq_eq e3]
    exact h1
/-- rows of acts and of storms can be made -/
def zAO : (Nat → Prop) → State → Heap → Prop := fun _ U _ => va_AO RX0 U ∧ va_AO RX1 U
theorem zAO_st : zSt zAO := ⟨fun _ _ _ _ _ _ h _ hW _ => ⟨va_AO.moved hW.alike h.1, va_AO.moved hW.alike h.2⟩, fun _ s U _ hv h => by
  have e : s.vm.Alike U.vm := by rw [hv]; exact Vm.Alike.refl s.vm
  exact ⟨va_AO.moved e h.1, va_AO.moved e h.2⟩⟩
theorem zIEM_of {Ex : (Nat → Prop) → State → Heap → Prop} {l : Launch} {y : MethodName} {cy : ByteArray} {maxL : Nat} {rm : Room} {av : List Value} {n : Nat} {h : Nat → Nat} {D : va_G} {tys : List (ClassId × FieldType)} {g : Nat → va_E} {Qc : Nat → Array Value → State → Outcome → State → Prop} {mc ms : Nat}
    (hy : plainName y.cls = true) (hn : (lg_sl av).length ≤ maxL) (hnm : y.name = "<init>")
    (body : ∀ (p : Program) (e : Env) (s : State) (m : MethodId) (below : List Frame) (meth : Method) (c : Code) (ls : Array Slot), zES p s m meth c y cy maxL none av D tys n h → meth.name = "<init>" → Ex (zA n h s.heap.size) s s.heap → zB n h D g s.heap → lv_has ls maxL (lv_args 0 av) →
      W p l e rm s m av.toArray below meth c s.heap [] 0 0 (MQ below (Qc s.heap.size) av.toArray s mc ms (zA n h s.heap.size)) (F0 m 0 ls [])) :
    ∀ sz, Met l y (Cond.code y cy maxL none :: UW) rm (zPE Ex av n h D tys sz g) (Qc sz) mc ms (zA n h sz) := by
  intro sz
  refine Met.ofW (cc := cy) (maxL := maxL) (ret := none) hy rfl ?_
  intro p e s m args below meth c s₁ B hml hv
  obtain ⟨rfl, hsz, hP, hK, hX, hE⟩ := hv
  subst hsz
  rw [lg_entry_eq]
  exact body p e s m below meth c _ ⟨⟨B.exec, B.bytes, hml, findClass_of_methodNamed B.named, fun w hw => atoms_spec (ws := _ :: UW) B.pre w (List.mem_cons_of_mem _ hw)⟩, B.returns, B.notSynchronized, hK, hX⟩ ((name_of_methodNamed B.named B.method).1.trans hnm) hE hP (lv_entry av hn)
/-- the grid while its rows are made, in the order in which they are made: 1 sets, 2 changes, 3 bounds, 4 winds, 5 acts, 6 the word, 7 its bytes, 8 storms, 9 loads, 10 noises -/
def gF (h : Nat → Nat) (n : Nat) : List Value := [nrf h n 1, .int 0, nrf h n 2, nrf h n 3, nrf h n 4, nrf h n 5, .int 0, if 7 < n then .ref (h 6) else .null, nrf h n 8, .int 0, nrf h n 9, nrf h n 10, .int 0, .int 0]
def gAr (c : Nat → ClassId) (h : Nat → Nat) : Nat → va_E
  | 1 => .inl (c 0, 6, .inl fun _ => 0)
  | 2 => .inl (c 0, 3, .inl fun _ => 0)
  | 3 => .inl (c 0, 3, .inl fun _ => 0)
  | 4 => .inl (c 0, 17, .inl fun _ => 0)
  | 5 => .inl (c 2, 16, .inr (.inr (.inr (.inr fun _ => none))))
  | 6 => .inr (1, [.ref (h 7), .int 0, .int 0, .int 0])
  | 7 => .inl (c 1, 16, .inl fun _ => 0)
  | 8 => .inl (c 3, 5, .inr (.inr (.inr (.inr fun _ => none))))
  | _ => .inl (c 0, 3, .inl fun _ => 0)
def gG (c : Nat → ClassId) (h : Nat → Nat) (n : Nat) : Nat → va_E := fun k => if k = 0 then .inr (6, gF h n) else gAr c h k
theorem gG_0 {c : Nat → ClassId} {h : Nat → Nat} {n : Nat} : gG c h n 0 = .inr (6, gF h n) := if_pos rfl
theorem gG_ne {c : Nat → ClassId} {h : Nat → Nat} {n k : Nat} (hk : k ≠ 0) : gG c h n k = gAr c h k := if_neg hk
theorem gAr_h {c : Nat → ClassId} {h h' : Nat → Nat} {k : Nat} (hk : k ≠ 6) : gAr c h' k = gAr c h k := by
  match k with
  | 0 => rfl
  | 1 => rfl
  | 2 => rfl
  | 3 => rfl
  | 4 => rfl
  | 5 => rfl
  | 6 => exact absurd rfl hk
  | 7 => rfl
  | 8 => rfl
  | k + 9 => rfl
/-- then acts and storms are made, and put into their rows -/
def gA (c : Nat → ClassId) (h : Nat → Nat) (i s : Nat) : Nat → va_E
  | 0 => .inr (6, gF h 11)
  | 1 => .inl (c 0, 6, .inl fun _ => 0)
  | 2 => .inl (c 0, 3, .inl fun _ => 0)
  | 3 => .inl (c 0, 3, .inl fun j => if j < 3 then iz 60 else 0)
  | 4 => .inl (c 0, 17, .inl fun _ => 0)
  | 5 => .inl (c 2, 16, .inr (.inr (.inr (.inr fun j => if j < i then some (h (j + 11)) else none))))
  | 6 => .inr (1, [.ref (h 7), .int 0, .int 0, .int 0])
  | 7 => .inl (c 1, 16, .inl fun _ => 0)
  | 8 => .inl (c 3, 5, .inr (.inr (.inr (.inr fun j => if j < s then some (h (j + 27)) else none))))
  | 9 => .inl (c 0, 3, .inl fun _ => 0)
  | 10 => .inl (c 0, 3, .inl fun _ => 0)
  | k + 11 => if k < 16 then .inr (4, [.int 0, .int 0, .int 0, .int 0, .int 0, .int 0, .int 0, .int 0, .int 0]) else .inr (5, [.int (iz (-1)), .int 0, .int 0])
theorem gF_h {h h' : Nat → Nat} {n : Nat} (e : ∀ j, j < 11 → h' j = h j) : gF h' n = gF h n := by
  unfold gF nrf
  rw [e 1 (by decide), e 2 (by decide), e 3 (by decide), e 4 (by decide), e 5 (by decide), e 6 (by decide), e 8 (by decide), e 9 (by decide), e 10 (by decide)]
theorem gA_keep {c : Nat → ClassId} {h h' : Nat → Nat} {i i' s s' : Nat} (e : ∀ j, j < 11 → h' j = h j) : ∀ k, k ≠ 5 → k ≠ 8 → gA c h' i' s' k = gA c h i s k := by
  intro k h5 h8
  match k with
  | 0 => show Sum.inr (6, gF h' 11) = Sum.inr (6, gF h 11); rw [gF_h e]
  | 1 => rfl
  | 2 => rfl
  | 3 => rfl
  | 4 => rfl
  | 5 => exact absurd rfl h5
  | 6 => show Sum.inr (1, [Value.ref (h' 7), .int 0, .int 0, .int 0]) = Sum.inr (1, [Value.ref (h 7), .int 0, .int 0, .int 0]); rw [e 7 (by decide)]
  | 7 => rfl
  | 8 => exact absurd rfl h8
  | 9 => rfl
  | 10 => rfl
  | k + 11 => rfl
theorem gA_act {c : Nat → ClassId} {h : Nat → Nat} {i s k : Nat} (hk : k < 16) : gA c h i s (k + 11) = .inr (4, [.int 0, .int 0, .int 0, .int 0, .int 0, .int 0, .int 0, .int 0, .int 0]) := if_pos hk
theorem gA_storm {c : Nat → ClassId} {h : Nat → Nat} {i s k : Nat} : gA c h i s (k + 27) = .inr (5, [.int (iz (-1)), .int 0, .int 0]) := by
  have e : gA c h i s (k + 27) = gA c h i s ((k + 16) + 11) := rfl
  rw [e]
  simp only [gA]
  rw [if_neg (by omega)]
theorem row_up {h h' : Nat → Nat} {i o q : Nat} (e : ∀ j, j < i + o → h' j = h j) (eq : h' (i + o) = q) : va_up (fun j => if j < i then some (h (j + o)) else none) i (some q) = fun j => if j < i + 1 then some (h' (j + o)) else none := by
  funext j
  unfold va_up
  by_cases h1 : j = i
  · rw [if_pos h1, if_pos (by omega), h1, eq]
  · rw [if_neg h1]
    show (if j < i then some (h (j + o)) else none) = if j < i + 1 then some (h' (j + o)) else none
    by_cases h2 : j < i
    · rw [if_pos h2, if_pos (by omega), e (j + o) (by omega)]
    · rw [if_neg h2, if_neg (by omega)]
/-- the class at its beginning -/
def sig0 : Nat → Nat → Int := fun r _ => if r = 3 then 60 else if r = 16 then -1 else 0
theorem GI_sig0 : GI sig0 := by
  refine ⟨by decide, by decide, by decide, fun r i h => ?_⟩
  unfold sig0 GR
  split <;> simp_all
/-- the order in which the cells are named -/
def piG : Nat → Nat := fun k => if k = 7 then 8 else if k = 8 then 9 else if k = 9 then 10 else if k = 10 then 7 else k
theorem piG_lt : ∀ k, k < 32 → piG k < 32 := by intro k hk; unfold piG; repeat' split
                                                all_goals omega
theorem piG_inj : ∀ i j, i < 32 → j < 32 → piG i = piG j → i = j := by
  intro i j h1 h2 e
  unfold piG at e
  repeat' split at e
  all_goals omega

set_option maxRecDepth 100000 in
set_option maxHeartbeats 4000000 in
theorem c_X3_init (l : Launch) (b : Nat) (D : va_G) (c : Nat → ClassId) :
    ∀ sz, Met l yX3_init (Cond.code yX3_init cX3_init 2 none :: UW) { frames := 3, cells := 31, slots := 235, locals := 60 } (zPE zAO [.ref b] 1 (fun _ => b) D (gT c) sz (gG c (fun _ => b) 1)) (va_Qv (fun h : Nat → Nat => h 0 = b) (fun h t => zB 32 h D (gC c h sig0 kap0 (0, fun _ => 0, 0)) t.heap ∧ zD (zA 1 (fun _ => b) sz) 32 h) (zA 1 (fun _ => b) sz)) 31 235 (zA 1 (fun _ => b) sz) := by
  have hinj : ∀ i j, i < 1 → j < 1 → (fun _ : Nat => b) i = (fun _ : Nat => b) j → i = j := fun i j h1 h2 _ => by omega
  refine zIEM_of (by decide) (Nat.le_of_ble_eq_true rfl) rfl ?_
  intro p e s m below meth cd ls ⟨hF, hr, hlocks, hK, hX⟩ hmn hAO hP hl
  have hz : zD (zA 1 (fun _ => b) s.heap.size) 1 (fun _ => b) := zD.self hinj s.heap.size
  have hA : ∀ q, s.heap.size ≤ q → zA 1 (fun _ => b) s.heap.size q := zA_new
  generalize zA 1 (fun _ => b) s.heap.size = A at hz hA hX hAO ⊢
  have hS : va_S A s.heap s.heap [] := va_S.rf
  have hl : lv_has ls 2 [(0, .ref b)] := hl
  refine lv_aload_n hF.1 hF.2.1 dX3_init_0 rfl (lv_at hl 0 rfl) ?_
  refine W.objInit hF.1 hF.2.1 hF.2.2.2.1 (hF.2.2.2.2 _ mw_53) (hF.2.2.2.2 _ mw_2) (hF.2.2.2.2 _ mw_3) rfl (hl.1.trans hF.2.2.1.symm) rfl dX3_init_1 (Nat.le_of_ble_eq_true rfl) (Nat.le_of_ble_eq_true rfl) ?_
  show W p l e _ s m _ below meth cd _ _ _ _ _ (F0 m 4 ls [])
  obtain ⟨h, eh⟩ : ∃ h : Nat → Nat, h = fun _ => b := ⟨_, rfl⟩
  have h0 : h 0 = b := by rw [eh]
  rw [← eh] at hP hz
  clear eh
  refine lv_aload_n hF.1 hF.2.1 dX3_init_4 rfl (lv_at hl 0 rfl) ?_
  refine zi_bipush hF.1 hF.2.1 dX3_init_5 (by decide) ?_
  refine z_newa hF hK hz hA hP hS (atype := .int) mw_54 rfl 0 rfl (N' := 6) (fun cA => rfl) rfl (by omega) (by decide) (Nat.le_of_ble_eq_true rfl) (Nat.le_of_ble_eq_true rfl) dX3_init_7 (fun q H hP hz hS => ?_)
  refine W_top2 (b' := hx h 1 q 0) (by rw [hx_ne (by decide)]; exact h0.symm) ?_
  refine z_putF hF hK hz hP hS hmn (k := 0) (C := RX3) (T := TX3) (N := 14) (by decide) (by rw [gx_ne (by decide)]; exact gG_0) rfl uin_X3 tyX3_ok nmX3 0 (by decide) mw_55 rfl rfl ⟨rfl, rfl⟩ (Nat.le_of_ble_eq_true rfl) (g' := gG c (hx h 1 q) 2) (by rw [gG_0]; simp [gF, nrf, hx]) (fun i hi hne => by
    rw [gG_ne hne]
    rcases Classical.em (i = 1) with e9 | e9
    · rw [e9, gx_at]; rfl
    · rw [gx_ne e9, gG_ne hne]
      exact gAr_h (by omega)) dX3_init_9 (fun H locs hP hS => ?_)
  obtain ⟨h', eh⟩ : ∃ h' : Nat → Nat, h' = hx h 1 q := ⟨_, rfl⟩
  have h0 : h' 0 = b := by rw [eh]; simp [hx]; exact h0
  rw [← eh] at hP hz
  clear eh
  generalize h' = h at hP hz h0
  refine lv_aload_n hF.1 hF.2.1 dX3_init_12 rfl (lv_at hl 0 rfl) ?_
  refine zi_const hF.1 hF.2.1 dX3_init_13 ?_
  refine z_newa hF hK hz hA hP hS (atype := .int) mw_54 rfl 0 rfl (N' := 3) (fun cA => rfl) rfl (by omega) (by decide) (Nat.le_of_ble_eq_true rfl) (Nat.le_of_ble_eq_true rfl) dX3_init_14 (fun q H hP hz hS => ?_)
  refine W_top2 (b' := hx h 2 q 0) (by rw [hx_ne (by decide)]; exact h0.symm) ?_
  refine z_putF hF hK hz hP hS hmn (k := 0) (C := RX3) (T := TX3) (N := 14) (by decide) (by rw [gx_ne (by decide)]; exact gG_0) rfl uin_X3 tyX3_ok nmX3 2 (by decide) mw_56 rfl rfl ⟨rfl, rfl⟩ (Nat.le_of_ble_eq_true rfl) (g' := gG c (hx h 2 q) 3) (by rw [gG_0]; simp [gF, nrf, hx]) (fun i hi hne => by
    rw [gG_ne hne]
    rcases Classical.em (i = 2) with e9 | e9
    · rw [e9, gx_at]; rfl
    · rw [gx_ne e9, gG_ne hne]
      exact gAr_h (by omega)) dX3_init_16 (fun H locs hP hS => ?_)
  obtain ⟨h', eh⟩ : ∃ h' : Nat → Nat, h' = hx h 2 q := ⟨_, rfl⟩
  have h0 : h' 0 = b := by rw [eh]; simp [hx]; exact h0
  rw [← eh] at hP hz
  clear eh
  generalize h' = h at hP hz h0
  refine lv_aload_n hF.1 hF.2.1 dX3_init_19 rfl (lv_at hl 0 rfl) ?_
  refine zi_const hF.1 hF.2.1 dX3_init_20 ?_
  refine z_newa hF hK hz hA hP hS (atype := .int) mw_54 rfl 0 rfl (N' := 3) (fun cA => rfl) rfl (by omega) (by decide) (Nat.le_of_ble_eq_true rfl) (Nat.le_of_ble_eq_true rfl) dX3_init_21 (fun q H hP hz hS => ?_)
  refine W_top2 (b' := hx h 3 q 0) (by rw [hx_ne (by decide)]; exact h0.symm) ?_
  refine z_putF hF hK hz hP hS hmn (k := 0) (C := RX3) (T := TX3) (N := 14) (by decide) (by rw [gx_ne (by decide)]; exact gG_0) rfl uin_X3 tyX3_ok nmX3 3 (by decide) mw_57 rfl rfl ⟨rfl, rfl⟩ (Nat.le_of_ble_eq_true rfl) (g' := gG c (hx h 3 q) 4) (by rw [gG_0]; simp [gF, nrf, hx]) (fun i hi hne => by
    rw [gG_ne hne]
    rcases Classical.em (i = 3) with e9 | e9
    · rw [e9, gx_at]; rfl
    · rw [gx_ne e9, gG_ne hne]
      exact gAr_h (by omega)) dX3_init_23 (fun H locs hP hS => ?_)
  obtain ⟨h', eh⟩ : ∃ h' : Nat → Nat, h' = hx h 3 q := ⟨_, rfl⟩
  have h0 : h' 0 = b := by rw [eh]; simp [hx]; exact h0
  rw [← eh] at hP hz
  clear eh
  generalize h' = h at hP hz h0
  refine lv_aload_n hF.1 hF.2.1 dX3_init_26 rfl (lv_at hl 0 rfl) ?_
  refine zi_bipush hF.1 hF.2.1 dX3_init_27 (by decide) ?_
  refine z_newa hF hK hz hA hP hS (atype := .int) mw_54 rfl 0 rfl (N' := 17) (fun cA => rfl) rfl (by omega) (by decide) (Nat.le_of_ble_eq_true rfl) (Nat.le_of_ble_eq_true rfl) dX3_init_29 (fun q H hP hz hS => ?_)
  refine W_top2 (b' := hx h 4 q 0) (by rw [hx_ne (by decide)]; exact h0.symm) ?_
  refine z_putF hF hK hz hP hS hmn (k := 0) (C := RX3) (T := TX3) (N := 14) (by decide) (by rw [gx_ne (by decide)]; exact gG_0) rfl uin_X3 tyX3_ok nmX3 4 (by decide) mw_58 rfl rfl ⟨rfl, rfl⟩ (Nat.le_of_ble_eq_true rfl) (g' := gG c (hx h 4 q) 5) (by rw [gG_0]; simp [gF, nrf, hx]) (fun i hi hne => by
    rw [gG_ne hne]
    rcases Classical.em (i = 4) with e9 | e9
    · rw [e9, gx_at]; rfl
    · rw [gx_ne e9, gG_ne hne]
      exact gAr_h (by omega)) dX3_init_31 (fun H locs hP hS => ?_)
  obtain ⟨h', eh⟩ : ∃ h' : Nat → Nat, h' = hx h 4 q := ⟨_, rfl⟩
  have h0 : h' 0 = b := by rw [eh]; simp [hx]; exact h0
  rw [← eh] at hP hz
  clear eh
  generalize h' = h at hP hz h0
  refine lv_aload_n hF.1 hF.2.1 dX3_init_34 rfl (lv_at hl 0 rfl) ?_
  refine zi_bipush hF.1 hF.2.1 dX3_init_35 (by decide) ?_
  refine z_newq hF hK hz hA hP hS (C := RX0) mw_59 hAO.1 2 rfl (N' := 16) rfl (by omega) (Nat.le_of_ble_eq_true rfl) (Nat.le_of_ble_eq_true rfl) dX3_init_37 (fun q H hP hz hS => ?_)
  refine W_top2 (b' := hx h 5 q 0) (by rw [hx_ne (by decide)]; exact h0.symm) ?_
  refine z_putF hF hK hz hP hS hmn (k := 0) (C := RX3) (T := TX3) (N := 14) (by decide) (by rw [gx_ne (by decide)]; exact gG_0) rfl uin_X3 tyX3_ok nmX3 5 (by decide) mw_60 rfl rfl ⟨rfl, rfl⟩ (Nat.le_of_ble_eq_true rfl) (g' := gG c (hx h 5 q) 6) (by rw [gG_0]; simp [gF, nrf, hx]) (fun i hi hne => by
    rw [gG_ne hne]
    rcases Classical.em (i = 5) with e9 | e9
    · rw [e9, gx_at]; rfl
    · rw [gx_ne e9, gG_ne hne]
      exact gAr_h (by omega)) dX3_init_40 (fun H locs hP hS => ?_)
  obtain ⟨h', eh⟩ : ∃ h' : Nat → Nat, h' = hx h 5 q := ⟨_, rfl⟩
  have h0 : h' 0 = b := by rw [eh]; simp [hx]; exact h0
  rw [← eh] at hP hz
  clear eh
  generalize h' = h at hP hz h0
  refine lv_aload_n hF.1 hF.2.1 dX3_init_43 rfl (lv_at hl 0 rfl) ?_
  refine z_new hF hK hz hA hP hS (C := RJ4) (T := TJ4) (N := 4) (ci := 1) uin_J4 tyJ4 tyJ4_ok mw_61 mw_62 mw_63 rfl (fs := [.null, .int 0, .int 0, .int 0]) (by decide) (Nat.le_of_ble_eq_true rfl) (Nat.le_of_ble_eq_true rfl) dX3_init_44 (fun qa H hP hz1 hS => ?_)
  refine lv_dup hF.1 hF.2.1 dX3_init_47 rfl ?_
  have e6 : hx h 6 qa 6 = qa := hx_at
  refine z_cvN (S := Nat) (n' := 8) (hh := fun q => hx (hx h 6 qa) 7 q) (w := fun q => gx (gx (gx (gG c h 6) 6 (.inr (1, [.null, .int 0, .int 0, .int 0]))) 7 (.inl (c 1, 16, .inl fun _ => 0))) 6 (.inr (1, [.ref q, .int 0, .int 0, .int 0]))) (P := fun _ => True) (z_rI (na := 0) (b := hx h 6 qa 6) (rm := { frames := 2, cells := 1, slots := 16, locals := 34 }) hF (z_preX hK hX hz1 hA hP hS) (cg_J4_init l 7 (hx h 6 qa) D c (gx (gG c h 6) 6 (.inr (1, [.null, .int 0, .int 0, .int 0]))) hz1.1 6 (by decide) gx_at _) mw_72 mw_73 mw_63 mw_48 rfl rfl rfl ⟨by decide, by decide, rfl⟩ ⟨(Nat.le_of_ble_eq_true rfl), (Nat.le_of_ble_eq_true rfl)⟩ (As := []) (rest := [.ref qa, .ref b]) rfl hl.1 (by rw [e6]; rfl) (Nat.le_of_ble_eq_true rfl) dX3_init_48 ⟨(Nat.le_of_ble_eq_true rfl), (Nat.le_of_ble_eq_true rfl)⟩) hz1 hA hS (fun q H locs hp hP hz hS => ?_)
  refine W_top2 (b' := hx (hx h 6 qa) 7 q 0) (by rw [hx_ne (by decide), hx_ne (by decide)]; exact h0.symm) ?_
  refine z_putF hF hK hz hP hS hmn (k := 0) (C := RX3) (T := TX3) (N := 14) (by decide) (by rw [gx_ne (by decide), gx_ne (by decide), gx_ne (by decide)]; exact gG_0) rfl uin_X3 tyX3_ok nmX3 7 (by decide) mw_64 rfl rfl ⟨rfl, rfl⟩ (Nat.le_of_ble_eq_true rfl) (g' := gG c (hx (hx h 6 qa) 7 q) 8) (by rw [gG_0]; simp [gF, nrf, hx]) (fun i hi hne => by
    rw [gG_ne hne]
    rcases Classical.em (i = 6) with e8 | e8
    · rw [e8, gx_at]; show Sum.inr (1, [Value.ref (hx (hx h 6 qa) 7 q 7), .int 0, .int 0, .int 0]) = _; rw [hx_at]
    · rw [gx_ne e8]
      rcases Classical.em (i = 7) with e9 | e9
      · rw [e9, gx_at]; rfl
      · rw [gx_ne e9, gx_ne e8, gG_ne hne]; exact gAr_h e8) dX3_init_51 (fun H locs hP hS => ?_)
  obtain ⟨h', eh⟩ : ∃ h' : Nat → Nat, h' = hx (hx h 6 qa) 7 q := ⟨_, rfl⟩
  have h0 : h' 0 = b := by rw [eh]; simp [hx]; exact h0
  rw [← eh] at hP hz
  clear eh
  generalize h' = h at hP hz h0
  refine lv_aload_n hF.1 hF.2.1 dX3_init_54 rfl (lv_at hl 0 rfl) ?_
  refine zi_const hF.1 hF.2.1 dX3_init_55 ?_
  refine z_newq hF hK hz hA hP hS (C := RX1) mw_65 hAO.2 3 rfl (N' := 5) rfl (by omega) (Nat.le_of_ble_eq_true rfl) (Nat.le_of_ble_eq_true rfl) dX3_init_56 (fun q H hP hz hS => ?_)
  refine W_top2 (b' := hx h 8 q 0) (by rw [hx_ne (by decide)]; exact h0.symm) ?_
  refine z_putF hF hK hz hP hS hmn (k := 0) (C := RX3) (T := TX3) (N := 14) (by decide) (by rw [gx_ne (by decide)]; exact gG_0) rfl uin_X3 tyX3_ok nmX3 8 (by decide) mw_66 rfl rfl ⟨rfl, rfl⟩ (Nat.le_of_ble_eq_true rfl) (g' := gG c (hx h 8 q) 9) (by rw [gG_0]; simp [gF, nrf, hx]) (fun i hi hne => by
    rw [gG_ne hne]
    rcases Classical.em (i = 8) with e9 | e9
    · rw [e9, gx_at]; rfl
    · rw [gx_ne e9, gG_ne hne]
      rcases Classical.em (i = 6) with e8 | e8
      · rw [e8]; show Sum.inr (1, [Value.ref (hx h 8 q 7), .int 0, .int 0, .int 0]) = Sum.inr (1, [Value.ref (h 7), .int 0, .int 0, .int 0]); rw [hx_ne (by decide)]
      · exact gAr_h e8) dX3_init_59 (fun H locs hP hS => ?_)
  obtain ⟨h', eh⟩ : ∃ h' : Nat → Nat, h' = hx h 8 q := ⟨_, rfl⟩
  have h0 : h' 0 = b := by rw [eh]; simp [hx]; exact h0
  rw [← eh] at hP hz
  clear eh
  generalize h' = h at hP hz h0
  refine lv_aload_n hF.1 hF.2.1 dX3_init_62 rfl (lv_at hl 0 rfl) ?_
  refine zi_const hF.1 hF.2.1 dX3_init_63 ?_
  refine z_newa hF hK hz hA hP hS (atype := .int) mw_54 rfl 0 rfl (N' := 3) (fun cA => rfl) rfl (by omega) (by decide) (Nat.le_of_ble_eq_true rfl) (Nat.le_of_ble_eq_true rfl) dX3_init_64 (fun q H hP hz hS => ?_)
  refine W_top2 (b' := hx h 9 q 0) (by rw [hx_ne (by decide)]; exact h0.symm) ?_
  refine z_putF hF hK hz hP hS hmn (k := 0) (C := RX3) (T := TX3) (N := 14) (by decide) (by rw [gx_ne (by decide)]; exact gG_0) rfl uin_X3 tyX3_ok nmX3 10 (by decide) mw_67 rfl rfl ⟨rfl, rfl⟩ (Nat.le_of_ble_eq_true rfl) (g' := gG c (hx h 9 q) 10) (by rw [gG_0]; simp [gF, nrf, hx]) (fun i hi hne => by
    rw [gG_ne hne]
    rcases Classical.em (i = 9) with e9 | e9
    · rw [e9, gx_at]; rfl
    · rw [gx_ne e9, gG_ne hne]
      rcases Classical.em (i = 6) with e8 | e8
      · rw [e8]; show Sum.inr (1, [Value.ref (hx h 9 q 7), .int 0, .int 0, .int 0]) = Sum.inr (1, [Value.ref (h 7), .int 0, .int 0, .int 0]); rw [hx_ne (by decide)]
      · exact gAr_h e8) dX3_init_66 (fun H locs hP hS => ?_)
  obtain ⟨h', eh⟩ : ∃ h' : Nat → Nat, h' = hx h 9 q := ⟨_, rfl⟩
  have h0 : h' 0 = b := by rw [eh]; simp [hx]; exact h0
  rw [← eh] at hP hz
  clear eh
  generalize h' = h at hP hz h0
  refine lv_aload_n hF.1 hF.2.1 dX3_init_69 rfl (lv_at hl 0 rfl) ?_
  refine zi_const hF.1 hF.2.1 dX3_init_70 ?_
  refine z_newa hF hK hz hA hP hS (atype := .int) mw_54 rfl 0 rfl (N' := 3) (fun cA => rfl) rfl (by omega) (by decide) (Nat.le_of_ble_eq_true rfl) (Nat.le_of_ble_eq_true rfl) dX3_init_71 (fun q H hP hz hS => ?_)
  refine W_top2 (b' := hx h 10 q 0) (by rw [hx_ne (by decide)]; exact h0.symm) ?_
  refine z_putF hF hK hz hP hS hmn (k := 0) (C := RX3) (T := TX3) (N := 14) (by decide) (by rw [gx_ne (by decide)]; exact gG_0) rfl uin_X3 tyX3_ok nmX3 11 (by decide) mw_68 rfl rfl ⟨rfl, rfl⟩ (Nat.le_of_ble_eq_true rfl) (g' := gG c (hx h 10 q) 11) (by rw [gG_0]; simp [gF, nrf, hx]) (fun i hi hne => by
    rw [gG_ne hne]
    rcases Classical.em (i = 10) with e9 | e9
    · rw [e9, gx_at]; rfl
    · rw [gx_ne e9, gG_ne hne]
      rcases Classical.em (i = 6) with e8 | e8
      · rw [e8]; show Sum.inr (1, [Value.ref (hx h 10 q 7), .int 0, .int 0, .int 0]) = Sum.inr (1, [Value.ref (h 7), .int 0, .int 0, .int 0]); rw [hx_ne (by decide)]
      · exact gAr_h e8) dX3_init_73 (fun H locs hP hS => ?_)
  obtain ⟨h', eh⟩ : ∃ h' : Nat → Nat, h' = hx h 10 q := ⟨_, rfl⟩
  have h0 : h' 0 = b := by rw [eh]; simp [hx]; exact h0
  rw [← eh] at hP hz
  clear eh
  generalize h' = h at hP hz h0
  refine lv_aload_n hF.1 hF.2.1 dX3_init_76 rfl (lv_at hl 0 rfl) ?_
  refine W_top (b' := h 0) h0.symm ?_
  refine z_get hF hK hP (k := 0) (C := RX3) (T := TX3) (N := 14) (by decide) gG_0 rfl uin_X3 3 (by decide) mw_57 (v := .ref (h 3)) rfl dX3_init_77 ?_
  refine zi_bipush hF.1 hF.2.1 dX3_init_80 (by decide) ?_
  refine z_cvK (S := Unit) (n := 11) (h := h) (w := fun _ => gx (gG c h 11) 3 (.inl (c 0, 3, .inl fun j => if j < 3 then iz 60 else 0))) (P := fun _ => True) (z_rS (na := 2) (rm := { frames := 0, cells := 0, slots := 0, locals := 0 }) hF (z_pre hK hP) (cg_fill l 11 h D c (gG c h 11) hz.1 3 (by decide) 3 (by decide) (fun _ => 0) rfl 60 _) mw_74 mw_75 mw_76 mw_52 rfl rfl ⟨by decide, by decide, rfl⟩ ⟨(Nat.le_of_ble_eq_true rfl), (Nat.le_of_ble_eq_true rfl)⟩ (As := [.ref (h 3), .int (iz 60)]) (rest := []) rfl hl.1 rfl (Nat.le_of_ble_eq_true rfl) dX3_init_82 ⟨(Nat.le_of_ble_eq_true rfl), (Nat.le_of_ble_eq_true rfl)⟩) hz hA hS (fun u_82 H locs hp hP hS => ?_)
  have hP : zB 11 h D (gA c h 0 0) H := zB_congr hP (fun _ _ => rfl) (fun k hk => by
    match k with
    | 0 => rw [gx_ne (by decide), gG_0]; rfl
    | 1 => rfl
    | 2 => rfl
    | 3 => rw [gx_at]; rfl
    | 4 => rfl
    | 5 => rw [gx_ne (by decide), gG_ne (by decide)]; show Sum.inl (c 2, 16, _) = Sum.inl (c 2, 16, _); simp
    | 6 => rfl
    | 7 => rfl
    | 8 => rw [gx_ne (by decide), gG_ne (by decide)]; show Sum.inl (c 3, 5, _) = Sum.inl (c 3, 5, _); simp
    | 9 => rfl
    | 10 => rfl
    | k + 11 => exact absurd hk (by omega))
  refine zi_const hF.1 hF.2.1 dX3_init_85 ?_
  refine lv_istore_n (lv' := [(1, .int (iz 0)), (0, .ref b)]) hF.1 hF.2.1 dX3_init_86 rfl hl (by decide) rfl (fun ls hl => ?_)
  refine z_loopN (V := Nat × (Nat → Nat)) (nL := 2) (nn := fun v => v.1 + 11) (hh := fun v => v.2) (wd := fun v => gA c v.2 v.1 0) (lv := fun v => [(1, .int (iz (v.1 : Int))), (0, .ref b)]) (cv := fun v => 10 + v.1) (sv := fun v => 76 + 9 * v.1) (mu := fun v => 17 - v.1) (inv := fun v => v.1 ≤ 16 ∧ v.2 0 = b) ?_ (0, h) ⟨Nat.zero_le _, h0⟩ hP hz hS hl
  clear hP hz hS hl h0
  rintro ⟨i, h⟩ ⟨hi, h0⟩ ih H locs ls hP hz hS hl
  have hi : i ≤ 16 := hi
  have h0 : h 0 = b := h0
  have hP : zB (i + 11) h D (gA c h i 0) H := hP
  have hz : zD A (i + 11) h := hz
  have hl : lv_has ls 2 [(1, .int (iz (i : Int))), (0, .ref b)] := hl
  refine lv_iload_n hF.1 hF.2.1 dX3_init_87 rfl (lv_at hl 0 rfl) ?_
  refine zi_bipush hF.1 hF.2.1 dX3_init_88 (by decide) ?_
  refine zi_icmp_ge (tgt := 112) hF.1 hF.2.1 (a := (i : Int)) (b := 16) dX3_init_90 (by decide) (by omega) (by omega) (fun c_90 => ?_) (fun c_90 => ?_)
  · have e16 : i = 16 := by omega
    subst e16
    clear ih
    refine zi_const hF.1 hF.2.1 dX3_init_112 ?_
    refine lv_istore_n (lv' := [(1, .int (iz 0)), (0, .ref b)]) hF.1 hF.2.1 dX3_init_113 rfl hl (by decide) rfl (fun ls hl => ?_)
    refine W.wide (cells' := 26 + 0) (slots' := 220 + 3 * 0) ?_ (by show 10 + 16 ≤ 26; decide) (by show 76 + 9 * 16 ≤ 220; decide)
    refine z_loopN (V := Nat × (Nat → Nat)) (nL := 2) (nn := fun v => v.1 + 27) (hh := fun v => v.2) (wd := fun v => gA c v.2 16 v.1) (lv := fun v => [(1, .int (iz (v.1 : Int))), (0, .ref b)]) (cv := fun v => 26 + v.1) (sv := fun v => 220 + 3 * v.1) (mu := fun v => 6 - v.1) (inv := fun v => v.1 ≤ 5 ∧ v.2 0 = b) ?_ (0, h) ⟨Nat.zero_le _, h0⟩ hP hz hS hl
    clear hP hz hS hl h0
    rintro ⟨i, h⟩ ⟨hi, h0⟩ ih H locs ls hP hz hS hl
    have hi : i ≤ 5 := hi
    have h0 : h 0 = b := h0
    have hP : zB (i + 27) h D (gA c h 16 i) H := hP
    have hz : zD A (i + 27) h := hz
    have hl : lv_has ls 2 [(1, .int (iz (i : Int))), (0, .ref b)] := hl
    refine lv_iload_n hF.1 hF.2.1 dX3_init_114 rfl (lv_at hl 0 rfl) ?_
    refine zi_const hF.1 hF.2.1 dX3_init_115 ?_
    refine zi_icmp_ge (tgt := 138) hF.1 hF.2.1 (a := (i : Int)) (b := 5) dX3_init_116 (by decide) (by omega) (by omega) (fun c_116 => ?_) (fun c_116 => ?_)
    · have e5 : i = 5 := by omega
      subst e5
      have hP := zB_perm hP piG piG_lt
      have hz := zD_perm hz piG piG_lt piG_inj
      have hP : zB 32 (fun k => h (piG k)) D (fun k => match k with
        | 3 => .inl (c 0, 3, .inl fun _ => iz 60)
        | k => gA c h 16 5 (piG k)) H := zB_arr hP (fun k hk => by
          match k with
          | 3 => exact Or.inr ⟨c 0, 3, _, _, rfl, rfl, fun j hj => by rw [if_pos hj]⟩
          | 0 => exact Or.inl rfl
          | 1 => exact Or.inl rfl
          | 2 => exact Or.inl rfl
          | k + 4 => exact Or.inl rfl)
      have hP : zB 32 (fun k => h (piG k)) D (gC c (fun k => h (piG k)) sig0 kap0 (0, fun _ => 0, 0)) H := zB_arrq hP (fun k hk => by
        match k with
        | 0 => exact Or.inl rfl
        | 1 => exact Or.inl rfl
        | 2 => exact Or.inl rfl
        | 3 => exact Or.inl rfl
        | 4 => exact Or.inl rfl
        | 5 => exact Or.inr ⟨c 2, 16, _, _, rfl, rfl, fun j hj => by
            rw [if_pos hj]
            show some (h (piG (j + 11))) = some (h (j + 11))
            unfold piG
            rw [if_neg (by omega), if_neg (by omega), if_neg (by omega), if_neg (by omega)]⟩
        | 6 => exact Or.inl rfl
        | 7 => exact Or.inr ⟨c 3, 5, _, _, rfl, rfl, fun j hj => by
            rw [if_pos hj]
            show some (h (piG (j + 27))) = some (h (j + 27))
            unfold piG
            rw [if_neg (by omega), if_neg (by omega), if_neg (by omega), if_neg (by omega)]⟩
        | 8 => exact Or.inl rfl
        | 9 => exact Or.inl rfl
        | 10 => exact Or.inl rfl
        | k' + 11 =>
          refine Or.inl ?_
          have ep : piG (k' + 11) = k' + 11 := by
            unfold piG
            rw [if_neg (by omega), if_neg (by omega), if_neg (by omega), if_neg (by omega)]
          show gC c (fun k => h (piG k)) sig0 kap0 (0, fun _ => 0, 0) (k' + 11) = gA c h 16 5 (piG (k' + 11))
          rw [ep]
          by_cases h16 : k' < 16
          · rw [gC_act h16, gA_act h16]; rfl
          · show (if k' < 16 then _ else _) = (if k' < 16 then _ else _)
            rw [if_neg h16, if_neg h16]; rfl)
      exact (W.vret (free := A) hF.1 hF.2.1 hr (fun t' ht hW => ⟨⟨fun k => h (piG k), rfl, h0, by show zB _ _ _ _ t'.heap; rw [ht]; exact hP, hz⟩, hS.F ht⟩) hS.2.2 dX3_init_138 hlocks).wide (by show 26 + 5 ≤ 31; omega) (by show 220 + 3 * 5 ≤ 235; omega)
    · refine lv_aload_n hF.1 hF.2.1 dX3_init_119 rfl (lv_at hl 1 rfl) ?_
      refine W_top (b' := h 0) h0.symm ?_
      refine z_get hF hK hP (k := 0) (C := RX3) (T := TX3) (N := 14) (by omega) rfl rfl uin_X3 8 (by decide) mw_66 (v := .ref (h 8)) rfl dX3_init_120 ?_
      refine lv_iload_n hF.1 hF.2.1 dX3_init_123 rfl (lv_at hl 0 rfl) ?_
      refine z_new hF hK hz hA hP hS (C := RX1) (T := TX1) (N := 3) (ci := 5) uin_X1 tyX1 tyX1_ok mw_65 mw_70 mw_71 rfl (fs := [.int 0, .int 0, .int 0]) (by decide) (by show 26 + i + 1 ≤ 31; omega) (by show 220 + 3 * i + 3 ≤ 235; omega) dX3_init_124 (fun q H hP hz hS => ?_)
      refine lv_dup hF.1 hF.2.1 dX3_init_127 rfl ?_
      have eq : hx h (i + 27) q (i + 27) = q := hx_at
      refine z_cvN (S := Unit) (n' := i + 27 + 1) (hh := fun _ => hx h (i + 27) q) (w := fun _ => gx (gx (gA c h 16 i) (i + 27) (.inr (5, [.int 0, .int 0, .int 0]))) (i + 27) (.inr (5, [.int (iz (-1)), .int 0, .int 0]))) (P := fun _ => True) (z_rIN (na := 0) (b := hx h (i + 27) q (i + 27)) (rm := { frames := 1, cells := 0, slots := 0, locals := 12 }) hF hK (z_preX hK hX hz hA hP hS) (cg_X1_init l (i + 27 + 1) (hx h (i + 27) q) D c (gx (gA c h 16 i) (i + 27) (.inr (5, [.int 0, .int 0, .int 0]))) hz.1 (i + 27) (by omega) gx_at _) nw_19 mw_78 mw_71 mw_28 rfl rfl rfl ⟨by decide, by decide, rfl⟩ ⟨(Nat.le_of_ble_eq_true rfl), (Nat.le_of_ble_eq_true rfl)⟩ (As := []) (rest := [.ref q, .int (iz (i : Int)), .ref (h 8)]) rfl hl.1 (by rw [eq]; rfl) (Nat.le_of_ble_eq_true rfl) dX3_init_128 ⟨(by show 26 + i + 1 + 0 ≤ 31; omega), (by show 220 + 3 * i + 3 + 0 ≤ 235; omega)⟩) hz hA hS (fun u_128 H locs hp hP hz hS => ?_)
      refine W_top (b' := hx h (i + 27) q (i + 27)) eq.symm ?_
      refine W_top3 (b' := hx h (i + 27) q 8) (by rw [hx_ne (by omega)]) ?_
      refine z_aastq hF hK hz hP hS (k := 8) (kv := i + 27) (C := RX1) (T := TX1) (N := 3) (ci := 5) (len := 5) (cA := c 3) (f := fun j => if j < i then some (h (j + 27)) else none) (by omega) (by rw [gx_ne (by omega), gx_ne (by omega)]; rfl) 3 rfl (by omega) gx_at rfl i rfl (by omega) (by omega) (g' := gA c (hx h (i + 27) q) 16 (i + 1)) (by
        rw [eq, row_up (h' := hx h (i + 27) q) (fun j hj => hx_ne (by omega)) eq]
        rfl) (fun k hk hne => by
        rcases Classical.em (k = i + 27) with e9 | e9
        · rw [e9, gx_at, gA_storm]
        · rw [gx_ne e9, gx_ne e9]
          rcases Classical.em (k = 5) with e5 | e5
          · rw [e5]
            show Sum.inl (c 2, 16, _) = Sum.inl (c 2, 16, _)
            congr 7
            funext j
            by_cases hj : j < 16
            · rw [if_pos hj, if_pos hj, hx_ne (by omega)]
            · rw [if_neg hj, if_neg hj]
          · exact gA_keep (fun j hj => hx_ne (by omega)) k e5 hne) dX3_init_131 (fun H locs hP hS => ?_)
      refine lv_iinc (v := iz ((i + 1 : Nat) : Int)) (lv' := [(1, .int (iz ((i + 1 : Nat) : Int))), (0, .ref b)]) hF.1 hF.2.1 dX3_init_132 hl (k := 0) rfl ((iz_add _ _).trans (congrArg iz (by omega))) (by decide) rfl (fun ls hl => ?_)
      refine lv_goto (tgt := 114) hF.1 hF.2.1 dX3_init_135 (by decide) ?_
      refine W.wide (cells' := 26 + (i + 1)) (slots' := 220 + 3 * (i + 1)) ?_ (by show 26 + i + 1 + 0 ≤ _; omega) (by show 220 + 3 * i + 3 + 0 ≤ _; omega)
      exact ih (i + 1, hx h (i + 27) q) ⟨by show i + 1 ≤ 5; omega, by show hx h (i + 27) q 0 = b; rw [hx_ne (by omega)]; exact h0⟩ (by show 6 - (i + 1) < 6 - i; omega) _ _ _ (by rw [show i + 1 + 27 = i + 27 + 1 from by omega]; exact hP) (by rw [show i + 1 + 27 = i + 27 + 1 from by omega]; exact hz) hS hl
  · refine lv_aload_n hF.1 hF.2.1 dX3_init_93 rfl (lv_at hl 1 rfl) ?_
    refine W_top (b' := h 0) h0.symm ?_
    refine z_get hF hK hP (k := 0) (C := RX3) (T := TX3) (N := 14) (by omega) rfl rfl uin_X3 5 (by decide) mw_60 (v := .ref (h 5)) rfl dX3_init_94 ?_
    refine lv_iload_n hF.1 hF.2.1 dX3_init_97 rfl (lv_at hl 0 rfl) ?_
    refine z_new hF hK hz hA hP hS (C := RX0) (T := TX0) (N := 9) (ci := 4) uin_X0 tyX0 tyX0_ok mw_59 mw_69 mw_13 rfl (fs := [.int 0, .int 0, .int 0, .int 0, .int 0, .int 0, .int 0, .int 0, .int 0]) (by decide) (by show 10 + i + 1 ≤ 31; omega) (by show 76 + 9 * i + 9 ≤ 235; omega) dX3_init_98 (fun q H hP hz hS => ?_)
    refine lv_dup hF.1 hF.2.1 dX3_init_101 rfl ?_
    have eq : hx h (i + 11) q (i + 11) = q := hx_at
    refine z_cvN (S := Unit) (n' := i + 11 + 1) (hh := fun _ => hx h (i + 11) q) (w := fun _ => gx (gA c h i 0) (i + 11) (.inr (4, [.int 0, .int 0, .int 0, .int 0, .int 0, .int 0, .int 0, .int 0, .int 0]))) (P := fun _ => True) (z_rIN (na := 0) (b := hx h (i + 11) q (i + 11)) (rm := { frames := 1, cells := 0, slots := 0, locals := 12 }) hF hK (z_preX hK hX hz hA hP hS) (cg_X0_init l (i + 11 + 1) (hx h (i + 11) q) D c (gx (gA c h i 0) (i + 11) (.inr (4, [.int 0, .int 0, .int 0, .int 0, .int 0, .int 0, .int 0, .int 0, .int 0]))) hz.1 (i + 11) (by omega) _) nw_18 mw_77 mw_13 mw_0 rfl rfl rfl ⟨by decide, by decide, rfl⟩ ⟨(Nat.le_of_ble_eq_true rfl), (Nat.le_of_ble_eq_true rfl)⟩ (As := []) (rest := [.ref q, .int (iz (i : Int)), .ref (h 5)]) rfl hl.1 (by rw [eq]; rfl) (Nat.le_of_ble_eq_true rfl) dX3_init_102 ⟨(by show 10 + i + 1 + 0 ≤ 31; omega), (by show 76 + 9 * i + 9 + 0 ≤ 235; omega)⟩) hz hA hS (fun u_102 H locs hp hP hz hS => ?_)
    refine W_top (b' := hx h (i + 11) q (i + 11)) eq.symm ?_
    refine W_top3 (b' := hx h (i + 11) q 5) (by rw [hx_ne (by omega)]) ?_
    refine z_aastq hF hK hz hP hS (k := 5) (kv := i + 11) (C := RX0) (T := TX0) (N := 9) (ci := 4) (len := 16) (cA := c 2) (f := fun j => if j < i then some (h (j + 11)) else none) (by omega) (by rw [gx_ne (by omega)]; rfl) 2 rfl (by omega) gx_at rfl i rfl (by omega) (by omega) (g' := gA c (hx h (i + 11) q) (i + 1) 0) (by
      rw [eq, row_up (h' := hx h (i + 11) q) (fun j hj => hx_ne (by omega)) eq]
      rfl) (fun k hk hne => by
      rcases Classical.em (k = i + 11) with e9 | e9
      · rw [e9, gx_at, gA_act (by omega)]
      · rw [gx_ne e9]
        rcases Classical.em (k = 8) with e8 | e8
        · rw [e8]
          show Sum.inl (c 3, 5, _) = Sum.inl (c 3, 5, _)
          congr 6
        · exact gA_keep (fun j hj => hx_ne (by omega)) k hne e8) dX3_init_105 (fun H locs hP hS => ?_)
    refine lv_iinc (v := iz ((i + 1 : Nat) : Int)) (lv' := [(1, .int (iz ((i + 1 : Nat) : Int))), (0, .ref b)]) hF.1 hF.2.1 dX3_init_106 hl (k := 0) rfl ((iz_add _ _).trans (congrArg iz (by omega))) (by decide) rfl (fun ls hl => ?_)
    refine lv_goto (tgt := 87) hF.1 hF.2.1 dX3_init_109 (by decide) ?_
    refine W.wide (cells' := 10 + (i + 1)) (slots' := 76 + 9 * (i + 1)) ?_ (by show 10 + i + 1 + 0 ≤ _; omega) (by show 76 + 9 * i + 9 + 0 ≤ _; omega)
    exact ih (i + 1, hx h (i + 11) q) ⟨by show i + 1 ≤ 16; omega, by show hx h (i + 11) q 0 = b; rw [hx_ne (by omega)]; exact h0⟩ (by show 17 - (i + 1) < 17 - i; omega) _ _ _ (by rw [show i + 1 + 11 = i + 11 + 1 from by omega]; exact hP) (by rw [show i + 1 + 11 = i + 11 + 1 from by omega]; exact hz) hS hl
