/-! methods that throw: the class's world is as it was, what was thrown is named -/
abbrev zNm : List String := ["java/lang/RuntimeException", "java/lang/Exception"]
abbrev E98 : String := "java/lang/IndexOutOfBoundsException"
abbrev E206 : String := "java/lang/IllegalArgumentException"
abbrev E67 : String := "java/lang/IllegalStateException"
/-- the class's texts -/
def zTx : List (Nat × String) := [(65, "all sets are started"), (96, "no such hour"), (134, "the word is full"), (147, "the word is no wish"), (162, "no such what"), (167, "all storms have been"), (204, "out of range"), (207, "no such stage"), (209, "no such house"), (211, "no such phase"), (213, "no such act"), (215, "the act is not planned"), (217, "all acts are used")]
/-- the wishes' letters as bytes, and what each wish brings -/
def wByt : List (List Int32) := [[108, 105, 103, 104, 116], [100, 97, 114, 107], [108, 111, 117, 100], [115, 111, 102, 116], [97, 105, 114]]
def wLen : List Nat := [5, 4, 4, 4, 3]
def wDr : Nat → Int := fun j => if j = 0 then 20 else if j = 1 then -20 else 0
def wLo : Nat → Int := fun j => if j = 2 then 5 else if j = 3 then -5 else 0
def wNx : Nat → Int := fun j => if j = 4 then 1 else 0
/-- the wishes in the heap: the row of them, what each one holds, their texts -/
def zWi (t : Nat) (ad adK adV : Nat → Nat) (A : Nat → Prop) (U : State) (H : Heap) : Prop :=
  va_Z RX3 "WISHES" "[LFestivalgrid$Wish;" (.ref t) A U H ∧ va_T (.object RX2) t 5 (fun j => .ref (ad j)) A U H ∧
  va_Ef 5 RX2 "moreDraw" "I" (fun j => .int (iz (wDr j))) ad A U H ∧ va_Ef 5 RX2 "moreLoud" "I" (fun j => .int (iz (wLo j))) ad A U H ∧ va_Ef 5 RX2 "nextChannel" "Z" (fun j => .int (iz (wNx j))) ad A U H ∧
  va_Ef 5 RX2 "text" "Ljava/lang/String;" (fun j => .ref (adK j)) ad A U H ∧ vk_S 5 wLen wByt adK adV A U H
theorem zWi.here {t : Nat} {ad adK adV : Nat → Nat} {A B : Nat → Prop} {s U : State} {H : Heap} {locs : List Loc} (h : zWi t ad adK adV A s s.heap) (hS : va_S A s.heap H locs) (hW : s.WarmedH U.vm) (hB : ∀ q, B q → A q) : zWi t ad adK adV B U H :=
  ⟨va_Z.moved hW.alike ((h.1.kept hS.2.1).narrow hB), va_T.moved hW.alike ((h.2.1.kept hS.2.1).narrow hB), va_Ef.moved hW.alike ((h.2.2.1.kept hS.2.1).narrow hB), va_Ef.moved hW.alike ((h.2.2.2.1.kept hS.2.1).narrow hB), va_Ef.moved hW.alike ((h.2.2.2.2.1.kept hS.2.1).narrow hB), va_Ef.moved hW.alike ((h.2.2.2.2.2.1.kept hS.2.1).narrow hB), vk_S.moved hW.alike ((h.2.2.2.2.2.2.kept hS.2.1).narrow hB)⟩
theorem zWi.same {t : Nat} {ad adK adV : Nat → Nat} {A : Nat → Prop} {s U : State} {H : Heap} (hv : U.vm = s.vm) (h : zWi t ad adK adV A s H) : zWi t ad adK adV A U H := by
  have e : s.vm.Alike U.vm := by rw [hv]; exact Vm.Alike.refl s.vm
  exact ⟨va_Z.moved e h.1, va_T.moved e h.2.1, va_Ef.moved e h.2.2.1, va_Ef.moved e h.2.2.2.1, va_Ef.moved e h.2.2.2.2.1, va_Ef.moved e h.2.2.2.2.2.1, vk_S.moved e h.2.2.2.2.2.2⟩
/-- what the methods need of the heap and of the tables beside their worlds: what a throw reads, what the word's builder reads, the wishes -/
def zX (A : Nat → Prop) (U : State) (H : Heap) : Prop := vx_Zq Bundle.tN "UNASSIGNED_STACK" Bundle.steD A U H ∧ vx_Zq Bundle.tN "SUPPRESSED_SENTINEL" Bundle.listD A U H ∧ (∀ r ∈ zTx, ∃ a, vk_R RX3 r.1 r.2 a U) ∧ va_Z "java/lang/String" "COMPACT_STRINGS" "Z" (.int 1) A U H ∧
  (Cond.selects RJ4 yJ5_ensureCapacityInternal_d00df yJ5_ensureCapacityInternal_d00df).before #[] U = true ∧ ∃ (t : Nat) (ad adK adV : Nat → Nat), zWi t ad adK adV A U H
theorem zX.here {A B : Nat → Prop} {s U : State} {H : Heap} {locs : List Loc} (hX : zX A s s.heap) (hS : va_S A s.heap H locs) (hW : s.WarmedH U.vm) (hB : ∀ q, B q → A q) : zX B U H := by
  obtain ⟨h1, h2, h3, h4, h5, t, ad, adK, adV, h6⟩ := hX
  exact ⟨vx_Zq.moved hW.alike ((h1.kept hS.2.1).narrow hB), vx_Zq.moved hW.alike ((h2.kept hS.2.1).narrow hB), fun r hr => (h3 r hr).imp fun _ q => vk_R.warm hW q, va_Z.moved hW.alike ((h4.kept hS.2.1).narrow hB), word_at hW (Or.inl rfl) h5, t, ad, adK, adV, h6.here hS hW hB⟩
theorem zX.same {A : Nat → Prop} {s U : State} {H : Heap} (hv : U.vm = s.vm) (hX : zX A s H) : zX A U H := by
  obtain ⟨h1, h2, h3, h4, h5, t, ad, adK, adV, h6⟩ := hX
  have e : s.vm.Alike U.vm := by rw [hv]; exact Vm.Alike.refl s.vm
  exact ⟨vx_Zq.moved e h1, vx_Zq.moved e h2, fun r hr => (h3 r hr).imp fun _ q => vk_R.same hv q, va_Z.moved e h4, va_tabs rfl hv.symm h5, t, ad, adK, adV, h6.same hv⟩
def zPX (av : List Value) (n : Nat) (h : Nat → Nat) (D : va_G) (tys : List (ClassId × FieldType)) (sz : Nat) (g : Nat → va_E) : Array Value → State → Prop := va_Pc av (fun U => U.heap.size = sz ∧ zB n h D g U.heap ∧ zK D tys U ∧ zX (zA n h sz) U U.heap)
theorem zPX_blind {av : List Value} {n : Nat} {h : Nat → Nat} {D : va_G} {tys : List (ClassId × FieldType)} {sz : Nat} {g : Nat → va_E} : FrameBlind (zPX av n h D tys sz g) := fun a U f mk q => by
  obtain ⟨h0, h1, h2, h3, h4⟩ := q
  exact ⟨h0, h1, h2, zK.same (s := U) (U := U.calling f mk a) rfl h3, zX.same (s := U) (U := U.calling f mk a) rfl h4⟩
def zXC (PX : String → Prop) (n : Nat) (h : Nat → Nat) (D : va_G) (g : Nat → va_E) (A : Nat → Prop) : String → State → State → Prop := vx_X (fun _ : Unit => True) (fun E _ t => PX E ∧ zB n h D g t.heap) A
def zXi {S : Type} (l : Launch) (y : MethodName) (cy : ByteArray) (maxL : Nat) (ret : Option FieldType) (fr lo K : Nat) (av : List Value) (n : Nat) (h : Nat → Nat) (D : va_G) (tys : List (ClassId × FieldType)) (g : Nat → va_E) (w : S → Nat → va_E) (P : Int → S → Prop) (PX : String → Prop) : Prop :=
  ∀ sz, vx_Met l y (Cond.code y cy maxL ret :: UW) { frames := fr, cells := K, slots := 6 * K, locals := lo } (zPX av n h D tys sz g) (va_Qi (fun r (u : Int × S) => r = iz u.1 ∧ P u.1 u.2) (fun u t => zB n h D (w u.2) t.heap) (zA n h sz)) (zXC PX n h D g (zA n h sz)) K (6 * K) (zA n h sz)
def zXv {S : Type} (l : Launch) (y : MethodName) (cy : ByteArray) (maxL : Nat) (ret : Option FieldType) (fr lo K : Nat) (av : List Value) (n : Nat) (h : Nat → Nat) (D : va_G) (tys : List (ClassId × FieldType)) (g : Nat → va_E) (w : S → Nat → va_E) (P : S → Prop) (PX : String → Prop) : Prop :=
  ∀ sz, vx_Met l y (Cond.code y cy maxL ret :: UW) { frames := fr, cells := K, slots := 6 * K, locals := lo } (zPX av n h D tys sz g) (va_Qv (fun u : S => P u) (fun u t => zB n h D (w u) t.heap) (zA n h sz)) (zXC PX n h D g (zA n h sz)) K (6 * K) (zA n h sz)
def zXq {S : Type} (l : Launch) (y : MethodName) (cy : ByteArray) (maxL : Nat) (ret : Option FieldType) (fr lo K : Nat) (av : List Value) (n : Nat) (h : Nat → Nat) (D : va_G) (tys : List (ClassId × FieldType)) (g : Nat → va_E) (w : S → Nat → va_E) (P : Option Nat → S → Prop) (PX : String → Prop) : Prop :=
  ∀ sz, vx_Met l y (Cond.code y cy maxL ret :: UW) { frames := fr, cells := K, slots := 6 * K, locals := lo } (zPX av n h D tys sz g) (va_Qq (fun r (u : Option Nat × S) => r = u.1.map h ∧ P u.1 u.2) (fun u t => zB n h D (w u.2) t.heap) (zA n h sz)) (zXC PX n h D g (zA n h sz)) K (6 * K) (zA n h sz)
def zEX (p : Program) (s : State) (m : MethodId) (meth : Method) (c : Code) (y : MethodName) (cy : ByteArray) (maxL : Nat) (ret : Option FieldType) (av : List Value) (D : va_G) (tys : List (ClassId × FieldType)) (n : Nat) (h : Nat → Nat) : Prop :=
  CallFix p m c cy maxL s av.toArray UW y.cls ∧ meth.sig.returnType = ret ∧ meth.locks = false ∧ zK D tys s ∧ (∀ x ∈ c.exceptionTable.toList, False) ∧ zX (zA n h s.heap.size) s s.heap
theorem zXM_of {l : Launch} {y : MethodName} {cy : ByteArray} {maxL : Nat} {ret : Option FieldType} {rm : Room} {av : List Value} {n : Nat} {h : Nat → Nat} {D : va_G} {tys : List (ClassId × FieldType)} {g : Nat → va_E} {Qc : Nat → Array Value → State → Outcome → State → Prop} {XC : Nat → String → State → State → Prop} {mc ms : Nat}
    (hy : plainName y.cls = true) (hn : (lg_sl av).length ≤ maxL)
    (body : ∀ (p : Program) (e : Env) (s : State) (m : MethodId) (below : List Frame) (meth : Method) (c : Code) (ls : Array Slot), zEX p s m meth c y cy maxL ret av D tys n h → zB n h D g s.heap → lv_has ls maxL (lv_args 0 av) →
      W p l e rm s m av.toArray below meth c s.heap [] 0 0 (vx_MQ below (Qc s.heap.size) (XC s.heap.size) av.toArray s mc ms (zA n h s.heap.size)) (F0 m 0 ls [])) :
    ∀ sz, vx_Met l y (Cond.code y cy maxL ret :: UW) rm (zPX av n h D tys sz g) (Qc sz) (XC sz) mc ms (zA n h sz) := by
  intro sz
  refine vx_ofW (cc := cy) (maxL := maxL) (ret := ret) hy rfl ?_
  intro p e s m args below meth c s₁ B hml hex hv
  obtain ⟨rfl, hsz, hP, hK, hX⟩ := hv
  subst hsz
  rw [lg_entry_eq]
  exact body p e s m below meth c _ ⟨⟨B.exec, B.bytes, hml, findClass_of_methodNamed B.named, fun w hw => atoms_spec (ws := _ :: UW) B.pre w (List.mem_cons_of_mem _ hw)⟩, B.returns, B.notSynchronized, hK, hex, hX⟩ hP (lv_entry av hn)
section ZX
variable {p : Program} {l : Launch} {e : Env} {R : Room} {s : State} {m : MethodId} {args : Array Value} {below : List Frame} {meth : Method} {c : Code} {H : Heap} {locs : List Loc} {cells slots : Nat} {Q : State → Prop}
variable {cc : ByteArray} {nL pc : Nat} {own : String} {ls : Array Slot} {rest : List Value} {A : Nat → Prop} {n : Nat} {h : Nat → Nat} {D : va_G} {tys : List (ClassId × FieldType)} {g : Nat → va_E}
variable {y : MethodName} {cy : ByteArray} {maxL mc ms idx na k K : Nat} {ret : Option FieldType} {rm : Room} {Qc : Array Value → State → Outcome → State → Prop} {XC : String → State → State → Prop} {free : Addr → Prop} {As : List Value} {st0 : List Value} {b : Nat} {C host : String} {PX PXc : String → Prop}
theorem z_kept {g : Nat → va_E} {H1 : Heap} (hP : zB n h D g H) (h2 : ∀ q : Nat, q < H.size → H1[q]? = H[q]?) : zB n h D g H1 := va_P.kept hP (fun k q hk => h2 q.1 (hP k q hk).lt)
theorem z_throw (hF : CallFix p m c cc nL s args UW own) (hK : zK D tys s) (hX : zX A s s.heap) (hexc : ∀ x ∈ c.exceptionTable.toList, False) (hlocks : meth.locks = false) (hst : l.stackTraces = false) (hP : zB n h D g H) (hS : va_S A s.heap H locs) (hsz : ls.size = nL) {cls text : String} {ik is ic : Nat}
    (hfit : Bundle.fit cls = true) (hk : Cond.classLink own ik cls ∈ UW) (hini : Cond.initialized cls ∈ UW) (hat : (vx_atS own ic cls zNm).all (fun w => decide (w ∈ lw_tbl) && (goodWord w || isNW w)) = true) (hot : (Cond.classLink own ik cls :: Cond.initialized cls :: vx_atS own ic cls zNm).all (fun w => vx_ot w) = true) (htx : (is, text) ∈ zTx) (hown : own = RX3)
    (d0 : decode cc pc = .ok (.new ik, 3)) (d3 : decode cc (pc + 3) = .ok (.dup, 1)) (d4 : decode cc (pc + 4) = .ok (.ldc is, 2)) (d6 : decode cc (pc + 6) = .ok (.invokespecial ic, 3)) (d9 : decode cc (pc + 9) = .ok (.athrow, 1))
    (hR : 5 < R.frames ∧ (rest.map fun v => v.category).sum + 82 ≤ R.locals ∧ K ≤ R.cells ∧ 6 * K ≤ R.slots) (hc : cells + 1 ≤ K) (hs : slots + 6 ≤ 6 * K) (hPX : PX cls) :
    W p l e R s m args below meth c H locs cells slots (vx_MQ below Qc (zXC PX n h D g A) args s K (6 * K) A) (F0 m pc ls rest) := by
  subst hown
  obtain ⟨sa, hsa⟩ := hX.2.2.1 _ htx
  refine vx_throwS (A := A) (names := zNm) hF.1 hF.2.1 hst hF.2.2.2.1 hfit (by decide) (hF.2.2.2.2 _ hk) (hF.2.2.2.2 _ hini) hsa (fun w hw => ?_) (fun w hw => List.all_eq_true.mp hot w hw) hX.1 hX.2.1 hS (hsz.trans hF.2.2.1.symm) d0 d3 d4 d6 d9 (fun x hx => (hexc x hx).elim) hR.1 hR.2.1 (by omega) (by omega) hlocks
    (fun t _ h1 h2 => ⟨(), trivial, ⟨hPX, z_kept hP h2⟩, Nat.le_trans hS.1 h1, fun q a b => (h2 q (Nat.lt_of_lt_of_le a hS.1)).trans (hS.2.1 q a b)⟩) hS.2.2 hc hs
  have h1 := List.all_eq_true.mp hat w hw
  simp only [Bool.and_eq_true, Bool.or_eq_true, decide_eq_true_eq] at h1
  rcases h1.2 with q | q
  · exact hF.2.2.2.2 _ (UW_mem h1.1 q)
  · exact va_Nw.use (NW_on q) (hK.2 _ (NW_mem h1.1 q))
theorem z_preX {As : List Value} (hK : zK D tys s) (hX : zX A s s.heap) (hz : zD A n h) (hA : ∀ q, s.heap.size ≤ q → A q) (hP : zB n h D g H) (hS : va_S A s.heap H locs) : FrameBlind (zPX As n h D tys H.size g) ∧ ∀ U : State, U.heap = H → s.WarmedH U.vm → zPX As n h D tys H.size g As.toArray U :=
  ⟨zPX_blind, fun U hU hW => ⟨rfl, by rw [hU], by rw [hU]; exact hP, hK.warm hW, by rw [hU]; exact hX.here hS hW (zA_sub hz hA hS)⟩⟩
theorem z_xrunV (hF : CallFix p m c cc nL s args UW own) (hK : zK D tys s) (hX : zX A s s.heap) (hz : zD A n h) (hA : ∀ q, s.heap.size ≤ q → A q) (hP : zB n h D g H) (hS : va_S A s.heap H locs) (hM : vx_Met l y (Cond.code y cy maxL ret :: UW) rm (zPX (.ref b :: As) n h D tys H.size g) Qc XC mc ms free)
    (hG : GoodIn UW (wsV own idx C y (Cond.code y cy maxL ret :: UW))) (hrc : rm.cells = mc) (hrs : rm.slots = ms) (hd : y.cls = C ∧ y.cls ≠ "java/lang/invoke/MethodHandle" ∧ y.cls ≠ "java/lang/invoke/VarHandle" ∧ (parseMethodDescriptor y.desc).map (fun d => d.parameters.length) = some na) (hR : rm.frames + 1 ≤ R.frames ∧ 8 + (maxL + 11) + rm.locals ≤ R.locals)
    {k ci N : Nat} {T : u_T} {fs : List Value} (hk : k < n) (hbk : b = h k) (hg : g k = .inr (ci, fs)) (hc : vwCl[ci]? = some (C, T, N))
    (hna : As.length = na) (hsz : ls.size = nL) (hst : st0 = As.reverse ++ .ref b :: rest) (hW : (rest.map fun v => v.category).sum ≤ 8) (hdg : decode cc pc = .ok (.invokevirtual idx, 3)) (hf : cells + mc ≤ R.cells ∧ slots + ms ≤ R.slots) :
    vx_Run p l e R s m args below meth c H locs cells slots mc ms (F0 m pc ls st0) rest (Qc (Value.ref b :: As).toArray) XC free := by
  obtain ⟨h1, h2⟩ := z_preX (As := .ref b :: As) hK hX hz hA hP hS
  subst hbk
  exact vx_runV hF hM (cwV na hF.2.2.2.2 hG rfl hrc hrs hd hR) ⟨h1, va_recv hK.1 hP hc (by rw [wN_at hk, hg]), h2⟩ rfl hna hsz hst (by show 2 * 0 + _ ≤ 8; omega) hdg hf
theorem z_xrunS (hF : CallFix p m c cc nL s args UW own) (hK : zK D tys s) (hX : zX A s s.heap) (hz : zD A n h) (hA : ∀ q, s.heap.size ≤ q → A q) (hP : zB n h D g H) (hS : va_S A s.heap H locs) (hM : vx_Met l y (Cond.code y cy maxL ret :: UW) rm (zPX As n h D tys H.size g) Qc XC mc ms free)
    (hG : GoodIn UW (wsS own idx y (Cond.code y cy maxL ret :: UW))) (hrc : rm.cells = mc) (hrs : rm.slots = ms) (hd : y.cls = own ∧ y.cls ≠ "java/lang/invoke/MethodHandle" ∧ y.cls ≠ "java/lang/invoke/VarHandle" ∧ (parseMethodDescriptor y.desc).map (fun d => d.parameters.length) = some na) (hR : rm.frames + 1 ≤ R.frames ∧ 8 + (maxL + 11) + rm.locals ≤ R.locals)
    (hna : As.length = na) (hsz : ls.size = nL) (hst : st0 = As.reverse ++ rest) (hW : (rest.map fun v => v.category).sum ≤ 8) (hdg : decode cc pc = .ok (.invokestatic idx, 3)) (hf : cells + mc ≤ R.cells ∧ slots + ms ≤ R.slots) :
    vx_Run p l e R s m args below meth c H locs cells slots mc ms (F0 m pc ls st0) rest (Qc As.toArray) XC free := by
  obtain ⟨h1, h2⟩ := z_preX (As := As) hK hX hz hA hP hS
  exact vx_runS hF hM (cwS na hF.2.2.2.2 hG rfl hrc hrs hd hR) ⟨h1, h2⟩ rfl hna hsz hst (by show 2 * 0 + _ ≤ 8; omega) hdg hf
variable {a : Array Value} {S : Type} {w : S → Nat → va_E}
theorem z_xci {P : Int → S → Prop} (hr : vx_Run p l e R s m args below meth c H locs cells slots k (6 * k) (F0 m pc ls st0) rest (va_Qi (fun r (u : Int × S) => r = iz u.1 ∧ P u.1 u.2) (fun u t => zB n h D (w u.2) t.heap) (zA n h H.size) a) (zXC PXc n h D g (zA n h H.size)) (zA n h H.size)) (hz : zD A n h) (hA : ∀ q, s.heap.size ≤ q → A q) (hS : va_S A s.heap H locs)
    (hexc : ∀ x ∈ c.exceptionTable.toList, False) (hlocks : meth.locks = false) (hc : cells + k ≤ K) (hs : slots + 6 * k ≤ 6 * K) (hPX : ∀ E, PXc E → PX E)
    (kk : ∀ (z : Int) (u : S) (H1 : Heap) (locs1 : List Loc), P z u → zB n h D (w u) H1 → va_S A s.heap H1 locs1 → W p l e R s m args below meth c H1 locs1 (cells + k) (slots + 6 * k) (vx_MQ below Qc (zXC PX n h D g A) args s K (6 * K) A) (F0 m (pc + 3) ls (.int (iz z) :: rest))) :
    W p l e R s m args below meth c H locs cells slots (vx_MQ below Qc (zXC PX n h D g A) args s K (6 * K) A) (F0 m pc ls st0) := by
  refine vx_calli hr hS (fun q _ hq => zA_sub hz hA hS q hq) (zA_sub hz hA hS) (fun q _ hq => zA_sub hz hA hS q hq) (fun E ce q9 u t H1 locs1 ht hvm _ hB _ _ hS1 hce hcv hcl => vx_out (fun x hx => (hexc x hx).elim) hlocks hce hcv hcl (fun t' ht' hv' => ⟨(), trivial, ⟨hPX E hB.1, by rw [ht', ← ht]; exact hB.2⟩, hS1.F ht'⟩) hS1.2.2 hc hs) (fun r u t H1 locs1 ht hvm hw hB hz1 hk1 hS1 => ?_)
  obtain ⟨z, u⟩ := u
  obtain ⟨rfl, hp⟩ := hw
  rw [ht] at hB
  exact kk z u H1 locs1 hp hB hS1
theorem z_xcv {P : S → Prop} (hr : vx_Run p l e R s m args below meth c H locs cells slots k (6 * k) (F0 m pc ls st0) rest (va_Qv (fun u : S => P u) (fun u t => zB n h D (w u) t.heap) (zA n h H.size) a) (zXC PXc n h D g (zA n h H.size)) (zA n h H.size)) (hz : zD A n h) (hA : ∀ q, s.heap.size ≤ q → A q) (hS : va_S A s.heap H locs)
    (hexc : ∀ x ∈ c.exceptionTable.toList, False) (hlocks : meth.locks = false) (hc : cells + k ≤ K) (hs : slots + 6 * k ≤ 6 * K) (hPX : ∀ E, PXc E → PX E)
    (kk : ∀ (u : S) (H1 : Heap) (locs1 : List Loc), P u → zB n h D (w u) H1 → va_S A s.heap H1 locs1 → W p l e R s m args below meth c H1 locs1 (cells + k) (slots + 6 * k) (vx_MQ below Qc (zXC PX n h D g A) args s K (6 * K) A) (F0 m (pc + 3) ls rest)) :
    W p l e R s m args below meth c H locs cells slots (vx_MQ below Qc (zXC PX n h D g A) args s K (6 * K) A) (F0 m pc ls st0) := by
  refine vx_callv hr hS (fun q _ hq => zA_sub hz hA hS q hq) (zA_sub hz hA hS) (fun q _ hq => zA_sub hz hA hS q hq) (fun E ce q9 u t H1 locs1 ht hvm _ hB _ _ hS1 hce hcv hcl => vx_out (fun x hx => (hexc x hx).elim) hlocks hce hcv hcl (fun t' ht' hv' => ⟨(), trivial, ⟨hPX E hB.1, by rw [ht', ← ht]; exact hB.2⟩, hS1.F ht'⟩) hS1.2.2 hc hs) (fun u t H1 locs1 ht hvm hw hB hz1 hk1 hS1 => ?_)
  rw [ht] at hB
  exact kk u H1 locs1 hw hB hS1
theorem z_xcq {P : Option Nat → S → Prop} (hr : vx_Run p l e R s m args below meth c H locs cells slots k (6 * k) (F0 m pc ls st0) rest (va_Qq (fun r (u : Option Nat × S) => r = u.1.map h ∧ P u.1 u.2) (fun u t => zB n h D (w u.2) t.heap) (zA n h H.size) a) (zXC PXc n h D g (zA n h H.size)) (zA n h H.size)) (hz : zD A n h) (hA : ∀ q, s.heap.size ≤ q → A q) (hS : va_S A s.heap H locs)
    (hexc : ∀ x ∈ c.exceptionTable.toList, False) (hlocks : meth.locks = false) (hc : cells + k ≤ K) (hs : slots + 6 * k ≤ 6 * K) (hPX : ∀ E, PXc E → PX E)
    (kk : ∀ (r : Option Nat) (u : S) (H1 : Heap) (locs1 : List Loc), P r u → zB n h D (w u) H1 → va_S A s.heap H1 locs1 → W p l e R s m args below meth c H1 locs1 (cells + k) (slots + 6 * k) (vx_MQ below Qc (zXC PX n h D g A) args s K (6 * K) A) (F0 m (pc + 3) ls (va_rf (r.map h) :: rest))) :
    W p l e R s m args below meth c H locs cells slots (vx_MQ below Qc (zXC PX n h D g A) args s K (6 * K) A) (F0 m pc ls st0) := by
  intro T hT X
  rcases hr T hT X with ⟨v, st₀, t, T', L, h0, X', hL, e1, e2, ⟨⟨r, u, hv, ⟨hr9, hp⟩, hb⟩, hF9⟩, st⟩ | ⟨q, st₀, t, T', L, E, ce, h0, X', hL, e1, e2, ⟨u, _, hb, hF9⟩, hce, hcv, hcl, st⟩
  · cases hv
    obtain ⟨k1, k2, k3⟩ := vx_keep h0 e1 hS (fun q _ hq => zA_sub hz hA hS q hq) (zA_sub hz hA hS) hL hF9
    subst hr9
    obtain ⟨t2, a1, b1⟩ := kk u.1 u.2 T'.heap (locs ++ L) hp (by rw [e1]; exact hb) k3 T' rfl X'
    exact ⟨t2, st t2 a1, b1⟩
  · obtain ⟨k1, k2, k3⟩ := vx_keep h0 e1 hS (fun q _ hq => zA_sub hz hA hS q hq) (zA_sub hz hA hS) hL hF9
    obtain ⟨t2, a1, b1⟩ := vx_out (mc := K) (ms := 6 * K) (Qc := Qc) (XC := zXC PX n h D g A) (free := A) (args := args) (fun x hx => (hexc x hx).elim) hlocks (by rw [e1]; exact hce) hcv hcl (fun t' ht' hv' => ⟨(), trivial, ⟨hPX E hb.1, by rw [ht', e1]; exact hb.2⟩, k3.F ht'⟩) k3.2.2 hc hs T' rfl X'
    exact ⟨t2, st.trans a1, b1⟩
theorem W.wide {cells' slots' : Nat} {g9 : JFrame} (k : W p l e R s m args below meth c H locs cells' slots' Q g9) (h1 : cells ≤ cells') (h2 : slots ≤ slots') : W p l e R s m args below meth c H locs cells slots Q g9 := fun T hT X => k T hT (stand_widen X h1 h2)
theorem z_xreti {P : Int → S → Prop} {z : Int} {u : S} {ty : FieldType} (hF : CallFix p m c cc nL s args UW own) (hr : meth.sig.returnType = some ty) (hlocks : meth.locks = false) (hP : zB n h D (w u) H) (hS : va_S A s.heap H locs) (hc : cells ≤ K) (hs : slots ≤ 6 * K) (hn : narrow ty (.int (iz z)) = .int (iz z)) (hp : P z u) (hd : decode cc pc = .ok (.ireturn, 1)) :
    W p l e R s m args below meth c H locs cells slots (vx_MQ below (va_Qi (fun r (u : Int × S) => r = iz u.1 ∧ P u.1 u.2) (fun u t => zB n h D (w u.2) t.heap) A) (zXC PX n h D g A) args s K (6 * K) A) (F0 m pc ls [.int (iz z)]) :=
  vx_ret ((W.zret hF.1 hF.2.1 hr hn (fun t ht hW => ⟨⟨iz z, (z, u), rfl, ⟨rfl, hp⟩, (by show zB _ _ _ _ t.heap; rw [ht]; exact hP)⟩, hS.F ht⟩) hS.2.2 hd hlocks).wide hc hs)
theorem z_xretv {P : S → Prop} {u : S} (hF : CallFix p m c cc nL s args UW own) (hr : meth.sig.returnType = none) (hlocks : meth.locks = false) (hP : zB n h D (w u) H) (hS : va_S A s.heap H locs) (hc : cells ≤ K) (hs : slots ≤ 6 * K) (hp : P u) (hd : decode cc pc = .ok (.return_, 1)) :
    W p l e R s m args below meth c H locs cells slots (vx_MQ below (va_Qv (fun u : S => P u) (fun u t => zB n h D (w u) t.heap) A) (zXC PX n h D g A) args s K (6 * K) A) (F0 m pc ls []) :=
  vx_ret ((W.vret hF.1 hF.2.1 hr (fun t ht hW => ⟨⟨u, rfl, hp, (by show zB _ _ _ _ t.heap; rw [ht]; exact hP)⟩, hS.F ht⟩) hS.2.2 hd hlocks).wide hc hs)
theorem z_xretq {P : Option Nat → S → Prop} {r : Option Nat} {u : S} {nm : String} {v : Value} (hF : CallFix p m c cc nL s args UW own) (hr : meth.sig.returnType = some (.object nm)) (hlocks : meth.locks = false) (hP : zB n h D (w u) H) (hS : va_S A s.heap H locs) (hc : cells ≤ K) (hs : slots ≤ 6 * K) (hv : v = va_rf (r.map h)) (hp : P r u) (hd : decode cc pc = .ok (.areturn, 1)) :
    W p l e R s m args below meth c H locs cells slots (vx_MQ below (va_Qq (fun r (u : Option Nat × S) => r = u.1.map h ∧ P u.1 u.2) (fun u t => zB n h D (w u.2) t.heap) A) (zXC PX n h D g A) args s K (6 * K) A) (F0 m pc ls [v]) := by
  subst hv
  exact vx_ret ((W.aret hF.1 hF.2.1 hr (Or.inl ⟨nm, rfl⟩) (by cases r with
    | none => exact Or.inl rfl
    | some k => exact Or.inr ⟨h k, rfl⟩) (fun t ht hW => ⟨⟨r.map h, (r, u), rfl, ⟨rfl, hp⟩, (by show zB _ _ _ _ t.heap; rw [ht]; exact hP)⟩, hS.F ht⟩) hS.2.2 hd hlocks).wide hc hs)
end ZX
