/-! methods that read what stands beside their world and never throw; K: room for K cells and 6K slots -/
theorem sel_priv {args : Array Value} {s : State} {C : String} {x0 y0 y : MethodName} (hsel : (Cond.selects C x0 y0).before args s = true) (hc : y0.cls = y.cls) (hy : y.cls ≠ "java/lang/invoke/MethodHandle" ∧ y.cls ≠ "java/lang/invoke/VarHandle")
    (hpriv : (Cond.privateMethod y).before args s = true) (hinst : (Cond.instanceMethod y).before args s = true) : (Cond.selects C y y).before args s = true := by
  obtain ⟨c, r, m, h1, h2, h3, h4, mk, h5, h6⟩ := Cond.selects_spec hsel
  obtain ⟨mk2, methM, hnamed, hmethM, -, -⟩ := Cond.instanceMethod_spec hinst
  have hfound : s.methodFound? y.cls y.name y.desc = some mk2 := State.methodFound?_of_named hnamed hy
  have hcls : mk2.cls = m.cls := by
    have a := findClass_of_methodNamed hnamed
    have b := findClass_of_methodNamed h3
    rw [hc] at b
    exact Option.some.inj (a.symm.trans b)
  have hsel2 : selectMethod {} s.vm c mk2 = .method mk2 := selectMethod_private hmethM (Cond.privateMethod_at hpriv mk2 methM hnamed hmethM)
  simp only [Cond.before, Cond.holds, Cond.value, h1, hfound, hnamed, hsel2, hcls, h5]
  simp
  exact h6
def zSi {S : Type} (l : Launch) (y : MethodName) (cy : ByteArray) (maxL : Nat) (ret : Option FieldType) (fr lo K : Nat) (av : List Value) (n : Nat) (h : Nat → Nat) (D : va_G) (tys : List (ClassId × FieldType)) (g : Nat → va_E) (w : S → Nat → va_E) (P : Int → S → Prop) : Prop :=
  ∀ sz, Met l y (Cond.code y cy maxL ret :: UW) { frames := fr, cells := K, slots := 6 * K, locals := lo } (zPX av n h D tys sz g) (va_Qi (fun r (u : Int × S) => r = iz u.1 ∧ P u.1 u.2) (fun u t => zB n h D (w u.2) t.heap) (zA n h sz)) K (6 * K) (zA n h sz)
def zSv {S : Type} (l : Launch) (y : MethodName) (cy : ByteArray) (maxL : Nat) (ret : Option FieldType) (fr lo K : Nat) (av : List Value) (n : Nat) (h : Nat → Nat) (D : va_G) (tys : List (ClassId × FieldType)) (g : Nat → va_E) (w : S → Nat → va_E) (P : S → Prop) : Prop :=
  ∀ sz, Met l y (Cond.code y cy maxL ret :: UW) { frames := fr, cells := K, slots := 6 * K, locals := lo } (zPX av n h D tys sz g) (va_Qv (fun u : S => P u) (fun u t => zB n h D (w u) t.heap) (zA n h sz)) K (6 * K) (zA n h sz)
def zSq {S : Type} (l : Launch) (y : MethodName) (cy : ByteArray) (maxL : Nat) (ret : Option FieldType) (fr lo K : Nat) (av : List Value) (n : Nat) (h : Nat → Nat) (D : va_G) (tys : List (ClassId × FieldType)) (g : Nat → va_E) (w : S → Nat → va_E) (P : Option Nat → S → Prop) : Prop :=
  ∀ sz, Met l y (Cond.code y cy maxL ret :: UW) { frames := fr, cells := K, slots := 6 * K, locals := lo } (zPX av n h D tys sz g) (va_Qq (fun r (u : Option Nat × S) => r = u.1.map h ∧ P u.1 u.2) (fun u t => zB n h D (w u.2) t.heap) (zA n h sz)) K (6 * K) (zA n h sz)
/-- what stands at such a method's entry -/
def zES (p : Program) (s : State) (m : MethodId) (meth : Method) (c : Code) (y : MethodName) (cy : ByteArray) (maxL : Nat) (ret : Option FieldType) (av : List Value) (D : va_G) (tys : List (ClassId × FieldType)) (n : Nat) (h : Nat → Nat) : Prop :=
  CallFix p m c cy maxL s av.toArray UW y.cls ∧ meth.sig.returnType = ret ∧ meth.locks = false ∧ zK D tys s ∧ zX (zA n h s.heap.size) s s.heap
theorem zSM_of {l : Launch} {y : MethodName} {cy : ByteArray} {maxL : Nat} {ret : Option FieldType} {rm : Room} {av : List Value} {n : Nat} {h : Nat → Nat} {D : va_G} {tys : List (ClassId × FieldType)} {g : Nat → va_E} {Qc : Nat → Array Value → State → Outcome → State → Prop} {mc ms : Nat}
    (hy : plainName y.cls = true) (hn : (lg_sl av).length ≤ maxL)
    (body : ∀ (p : Program) (e : Env) (s : State) (m : MethodId) (below : List Frame) (meth : Method) (c : Code) (ls : Array Slot), zES p s m meth c y cy maxL ret av D tys n h → zB n h D g s.heap → lv_has ls maxL (lv_args 0 av) →
      W p l e rm s m av.toArray below meth c s.heap [] 0 0 (MQ below (Qc s.heap.size) av.toArray s mc ms (zA n h s.heap.size)) (F0 m 0 ls [])) :
    ∀ sz, Met l y (Cond.code y cy maxL ret :: UW) rm (zPX av n h D tys sz g) (Qc sz) mc ms (zA n h sz) := by
  intro sz
  refine Met.ofW (cc := cy) (maxL := maxL) (ret := ret) hy rfl ?_
  intro p e s m args below meth c s₁ B hml hv
  obtain ⟨rfl, hsz, hP, hK, hX⟩ := hv
  subst hsz
  rw [lg_entry_eq]
  exact body p e s m below meth c _ ⟨⟨B.exec, B.bytes, hml, findClass_of_methodNamed B.named, fun w hw => atoms_spec (ws := _ :: UW) B.pre w (List.mem_cons_of_mem _ hw)⟩, B.returns, B.notSynchronized, hK, hX⟩ hP (lv_entry av hn)
section ZS
variable {p : Program} {l : Launch} {e : Env} {R : Room} {s : State} {m : MethodId} {args : Array Value} {below : List Frame} {meth : Method} {c : Code} {H : Heap} {locs : List Loc} {cells slots : Nat} {Q : State → Prop}
variable {cc : ByteArray} {nL pc : Nat} {own : String} {ls : Array Slot} {rest : List Value} {A : Nat → Prop} {n : Nat} {h : Nat → Nat} {D : va_G} {tys : List (ClassId × FieldType)} {g : Nat → va_E}
variable {y : MethodName} {cy : ByteArray} {maxL mc ms idx na k K : Nat} {ret : Option FieldType} {rm : Room} {Qc : Array Value → State → Outcome → State → Prop} {free : Addr → Prop} {As : List Value} {st0 : List Value} {b : Nat} {C : String}
theorem z_srunV (hF : CallFix p m c cc nL s args UW own) (hK : zK D tys s) (hX : zX A s s.heap) (hz : zD A n h) (hA : ∀ q, s.heap.size ≤ q → A q) (hP : zB n h D g H) (hS : va_S A s.heap H locs) (hM : Met l y (Cond.code y cy maxL ret :: UW) rm (zPX (.ref b :: As) n h D tys H.size g) Qc mc ms free)
    (hG : GoodIn UW (wsV own idx C y (Cond.code y cy maxL ret :: UW))) (hrc : rm.cells = mc) (hrs : rm.slots = ms) (hd : y.cls = C ∧ y.cls ≠ "java/lang/invoke/MethodHandle" ∧ y.cls ≠ "java/lang/invoke/VarHandle" ∧ (parseMethodDescriptor y.desc).map (fun d => d.parameters.length) = some na) (hR : rm.frames + 1 ≤ R.frames ∧ 8 + (maxL + 11) + rm.locals ≤ R.locals)
    {k ci N : Nat} {T : u_T} {fs : List Value} (hk : k < n) (hbk : b = h k) (hg : g k = .inr (ci, fs)) (hc : vwCl[ci]? = some (C, T, N))
    (hna : As.length = na) (hsz : ls.size = nL) (hst : st0 = As.reverse ++ .ref b :: rest) (hW : (rest.map fun v => v.category).sum ≤ 8) (hdg : decode cc pc = .ok (.invokevirtual idx, 3)) (hf : cells + mc ≤ R.cells ∧ slots + ms ≤ R.slots) :
    va_Run p l e R s m args below meth c H locs cells slots mc ms (F0 m pc ls st0) rest (Qc (Value.ref b :: As).toArray) free := by
  obtain ⟨h1, h2⟩ := z_preX (As := .ref b :: As) hK hX hz hA hP hS
  subst hbk
  exact va_runV hF hM (cwV na hF.2.2.2.2 hG rfl hrc hrs hd hR) ⟨h1, va_recv hK.1 hP hc (by rw [wN_at hk, hg]), h2⟩ rfl hna hsz hst (by show 2 * 0 + _ ≤ 8; omega) hdg hf
/-- a method that a superclass declares, called by name on an object -/
theorem z_srunU (hF : CallFix p m c cc nL s args UW own) (hK : zK D tys s) (hX : zX A s s.heap) (hz : zD A n h) (hA : ∀ q, s.heap.size ≤ q → A q) (hP : zB n h D g H) (hS : va_S A s.heap H locs) (hM : Met l y (Cond.code y cy maxL ret :: UW) rm (zPX (.ref b :: As) n h D tys H.size g) Qc mc ms free)
    (h1 : Cond.methodLink own idx y ∈ UW) (h2 : Cond.sameMethod y.cls y.cls y.name y.desc ∈ UW) (h3 : (Cond.selects C y y).before args s = true) (h4 : Cond.instanceMethod y ∈ UW) (h5 : Cond.initialized y.cls ∈ UW) (h6 : Cond.code y cy maxL ret ∈ UW)
    (hrc : rm.cells = mc) (hrs : rm.slots = ms) (hd : y.cls ≠ "java/lang/invoke/MethodHandle" ∧ y.cls ≠ "java/lang/invoke/VarHandle" ∧ (parseMethodDescriptor y.desc).map (fun d => d.parameters.length) = some na) (hR : rm.frames + 1 ≤ R.frames ∧ 8 + (maxL + 11) + rm.locals ≤ R.locals)
    {k ci N : Nat} {T : u_T} {fs : List Value} (hk : k < n) (hbk : b = h k) (hg : g k = .inr (ci, fs)) (hc : vwCl[ci]? = some (C, T, N))
    (hna : As.length = na) (hsz : ls.size = nL) (hst : st0 = As.reverse ++ .ref b :: rest) (hW : (rest.map fun v => v.category).sum ≤ 8) (hdg : decode cc pc = .ok (.invokevirtual idx, 3)) (hf : cells + mc ≤ R.cells ∧ slots + ms ≤ R.slots) :
    va_Run p l e R s m args below meth c H locs cells slots mc ms (F0 m pc ls st0) rest (Qc (Value.ref b :: As).toArray) free := by
  obtain ⟨g1, g2⟩ := z_preX (As := .ref b :: As) hK hX hz hA hP hS
  subst hbk
  have ok := hF.2.2.2.2
  refine va_runU (C := C) (owner := y.cls) (x := y) (y := y) hF hM ⟨⟨hrc, hrs, hR.1, hR.2, pay_in ok (gIn_C h6), List.mem_cons_self⟩, ok _ h6, ok _ h5, ⟨hd.1, hd.2.1⟩, fun sig q => ?_, ok _ h1, ok _ h2, va_Decl.of (ok _ h4) (ok _ h6), h3, ok _ h4⟩ ⟨g1, va_recv hK.1 hP hc (by rw [wN_at hk, hg]), g2⟩ rfl hna hsz hst (by show 2 * 0 + _ ≤ 8; omega) hdg hf
  have q2 := hd.2.2
  rw [q] at q2
  exact (Option.some.inj q2).symm
theorem z_srunSU (hF : CallFix p m c cc nL s args UW own) (hK : zK D tys s) (hX : zX A s s.heap) (hz : zD A n h) (hA : ∀ q, s.heap.size ≤ q → A q) (hP : zB n h D g H) (hS : va_S A s.heap H locs) (hM : Met l y (Cond.code y cy maxL ret :: UW) rm (zPX (.ref b :: As) n h D tys H.size g) Qc mc ms free)
    (hG : GoodIn UW (va_wsSU own idx y (Cond.code y cy maxL ret :: UW))) (hrc : rm.cells = mc) (hrs : rm.slots = ms) (hd : y.name ≠ "<init>" ∧ (parseMethodDescriptor y.desc).map (fun d => d.parameters.length) = some na) (hR : rm.frames + 1 ≤ R.frames ∧ 8 + (maxL + 11) + rm.locals ≤ R.locals)
    {k ci N : Nat} {T : u_T} {fs : List Value} (hk : k < n) (hbk : b = h k) (hg : g k = .inr (ci, fs)) (hc : vwCl[ci]? = some (C, T, N))
    (hna : As.length = na) (hsz : ls.size = nL) (hst : st0 = As.reverse ++ .ref b :: rest) (hW : (rest.map fun v => v.category).sum ≤ 8) (hdg : decode cc pc = .ok (.invokespecial idx, 3)) (hf : cells + mc ≤ R.cells ∧ slots + ms ≤ R.slots) :
    va_Run p l e R s m args below meth c H locs cells slots mc ms (F0 m pc ls st0) rest (Qc (Value.ref b :: As).toArray) free := by
  obtain ⟨h1, h2⟩ := z_preX (As := .ref b :: As) hK hX hz hA hP hS
  subst hbk
  exact va_runSU (hK.1.1 _ _ hc).2 hF hM (va_cwSU na hF.2.2.2.2 hG rfl hrc hrs hd hR) ⟨h1, va_recv hK.1 hP hc (by rw [wN_at hk, hg]), h2⟩ rfl hna hsz hst (by show 2 * 0 + _ ≤ 8; omega) hdg hf
variable {a : Array Value} {S : Type} {w : S → Nat → va_E}
theorem z_ciK {P : Int → S → Prop} (hr : va_Run p l e R s m args below meth c H locs cells slots mc ms (F0 m pc ls st0) rest (va_Qi (fun r (u : Int × S) => r = iz u.1 ∧ P u.1 u.2) (fun u t => zB n h D (w u.2) t.heap) (zA n h H.size) a) (zA n h H.size)) (hz : zD A n h) (hA : ∀ q, s.heap.size ≤ q → A q) (hS : va_S A s.heap H locs)
    (kk : ∀ (z : Int) (u : S) (H1 : Heap) (locs1 : List Loc), P z u → zB n h D (w u) H1 → va_S A s.heap H1 locs1 → W p l e R s m args below meth c H1 locs1 (cells + mc) (slots + ms) Q (F0 m (pc + 3) ls (.int (iz z) :: rest))) : W p l e R s m args below meth c H locs cells slots Q (F0 m pc ls st0) := by
  refine va_calli hr hS (fun q _ hq => zA_sub hz hA hS q hq) (zA_sub hz hA hS) (fun r u t H1 locs1 ht hvm hw hB hz1 hk1 hS1 => ?_)
  obtain ⟨z, u⟩ := u
  obtain ⟨rfl, hp⟩ := hw
  rw [ht] at hB
  exact kk z u H1 locs1 hp hB hS1
theorem z_cvK {P : S → Prop} (hr : va_Run p l e R s m args below meth c H locs cells slots mc ms (F0 m pc ls st0) rest (va_Qv (fun u : S => P u) (fun u t => zB n h D (w u) t.heap) (zA n h H.size) a) (zA n h H.size)) (hz : zD A n h) (hA : ∀ q, s.heap.size ≤ q → A q) (hS : va_S A s.heap H locs)
    (kk : ∀ (u : S) (H1 : Heap) (locs1 : List Loc), P u → zB n h D (w u) H1 → va_S A s.heap H1 locs1 → W p l e R s m args below meth c H1 locs1 (cells + mc) (slots + ms) Q (F0 m (pc + 3) ls rest)) : W p l e R s m args below meth c H locs cells slots Q (F0 m pc ls st0) := by
  refine va_callv hr hS (fun q _ hq => zA_sub hz hA hS q hq) (zA_sub hz hA hS) (fun u t H1 locs1 ht hvm hw hB hz1 hk1 hS1 => ?_)
  rw [ht] at hB
  exact kk u H1 locs1 hw hB hS1
theorem z_cqK {P : Option Nat → S → Prop} (hr : va_Run p l e R s m args below meth c H locs cells slots mc ms (F0 m pc ls st0) rest (va_Qq (fun r (u : Option Nat × S) => r = u.1.map h ∧ P u.1 u.2) (fun u t => zB n h D (w u.2) t.heap) (zA n h H.size) a) (zA n h H.size)) (hz : zD A n h) (hA : ∀ q, s.heap.size ≤ q → A q) (hS : va_S A s.heap H locs)
    (kk : ∀ (r : Option Nat) (u : S) (H1 : Heap) (locs1 : List Loc), P r u → zB n h D (w u) H1 → va_S A s.heap H1 locs1 → W p l e R s m args below meth c H1 locs1 (cells + mc) (slots + ms) Q (F0 m (pc + 3) ls (va_rf (r.map h) :: rest))) : W p l e R s m args below meth c H locs cells slots Q (F0 m pc ls st0) := by
  refine va_callq hr hS (fun q _ hq => zA_sub hz hA hS q hq) (zA_sub hz hA hS) (fun r u t H1 locs1 ht hvm hw hB hz1 hk1 hS1 => ?_)
  obtain ⟨z, u⟩ := u
  obtain ⟨rfl, hp⟩ := hw
  rw [ht] at hB
  exact kk z u H1 locs1 hp hB hS1
theorem z_sreti {P : Int → S → Prop} {z : Int} {u : S} {ty : FieldType} (hF : CallFix p m c cc nL s args UW own) (hr : meth.sig.returnType = some ty) (hlocks : meth.locks = false) (hP : zB n h D (w u) H) (hS : va_S A s.heap H locs) (hc : cells ≤ K) (hs : slots ≤ 6 * K) (hn : narrow ty (.int (iz z)) = .int (iz z)) (hp : P z u) (hd : decode cc pc = .ok (.ireturn, 1)) :
    W p l e R s m args below meth c H locs cells slots (MQ below (va_Qi (fun r (u : Int × S) => r = iz u.1 ∧ P u.1 u.2) (fun u t => zB n h D (w u.2) t.heap) A) args s K (6 * K) A) (F0 m pc ls [.int (iz z)]) :=
  (W.zret hF.1 hF.2.1 hr hn (fun t ht hW => ⟨⟨iz z, (z, u), rfl, ⟨rfl, hp⟩, (by show zB _ _ _ _ t.heap; rw [ht]; exact hP)⟩, hS.F ht⟩) hS.2.2 hd hlocks).wide hc hs
theorem z_sretv {P : S → Prop} {u : S} (hF : CallFix p m c cc nL s args UW own) (hr : meth.sig.returnType = none) (hlocks : meth.locks = false) (hP : zB n h D (w u) H) (hS : va_S A s.heap H locs) (hc : cells ≤ K) (hs : slots ≤ 6 * K) (hp : P u) (hd : decode cc pc = .ok (.return_, 1)) :
    W p l e R s m args below meth c H locs cells slots (MQ below (va_Qv (fun u : S => P u) (fun u t => zB n h D (w u) t.heap) A) args s K (6 * K) A) (F0 m pc ls []) :=
  (W.vret hF.1 hF.2.1 hr (fun t ht hW => ⟨⟨u, rfl, hp, (by show zB _ _ _ _ t.heap; rw [ht]; exact hP)⟩, hS.F ht⟩) hS.2.2 hd hlocks).wide hc hs
theorem z_sretq {P : Option Nat → S → Prop} {r : Option Nat} {u : S} {nm : String} {v : Value} (hF : CallFix p m c cc nL s args UW own) (hr : meth.sig.returnType = some (.object nm)) (hlocks : meth.locks = false) (hP : zB n h D (w u) H) (hS : va_S A s.heap H locs) (hc : cells ≤ K) (hs : slots ≤ 6 * K) (hv : v = va_rf (r.map h)) (hp : P r u) (hd : decode cc pc = .ok (.areturn, 1)) :
    W p l e R s m args below meth c H locs cells slots (MQ below (va_Qq (fun r (u : Option Nat × S) => r = u.1.map h ∧ P u.1 u.2) (fun u t => zB n h D (w u.2) t.heap) A) args s K (6 * K) A) (F0 m pc ls [v]) := by
  subst hv
  exact (W.aret hF.1 hF.2.1 hr (Or.inl ⟨nm, rfl⟩) (by cases r with
    | none => exact Or.inl rfl
    | some k => exact Or.inr ⟨h k, rfl⟩) (fun t ht hW => ⟨⟨r.map h, (r, u), rfl, ⟨rfl, hp⟩, (by show zB _ _ _ _ t.heap; rw [ht]; exact hP)⟩, hS.F ht⟩) hS.2.2 hd hlocks).wide hc hs
/-- bytes -/
theorem z_bald (hF : CallFix p m c cc nL s args UW own) (hK : zK D tys s) (hP : zB n h D g H) {k len : Nat} {cA : ClassId} {f : Nat → Int32} (hk : k < n) (hg : g k = .inl (cA, len, .inl f)) (t0 : Nat) (ht : tys[t0]? = some (cA, .byte)) {i : Int} (j : Nat) (hj : i = (j : Int)) (hlt : j < len) (hn : len ≤ 1000) {x : Int32} (hx : f j = x) (hd : decode cc pc = .ok (.baload, 1))
    (kk : W p l e R s m args below meth c H locs cells slots Q (F0 m (pc + 1) ls (.int x :: rest))) : W p l e R s m args below meth c H locs cells slots Q (F0 m pc ls (.int (iz i) :: .ref (h k) :: rest)) := by
  subst hj hx
  refine va_bald hF.1 hF.2.1 hK.1 hP k t0 (by rw [wN_at hk, hg]) ht (iz_in (by omega) (by omega)) hd ?_
  rw [iz_clamp (by omega), Int.toNat_natCast]
  exact kk
theorem z_bast (hF : CallFix p m c cc nL s args UW own) (hK : zK D tys s) (hz : zD A n h) (hP : zB n h D g H) (hS : va_S A s.heap H locs) {k len : Nat} {cA : ClassId} {f : Nat → Int32} (hk : k < n) (hg : g k = .inl (cA, len, .inl f)) (t0 : Nat) (ht : tys[t0]? = some (cA, .byte)) {i : Int} (j : Nat) (hj : i = (j : Int)) (hlt : j < len) (hn : len ≤ 1000) {x : Int32} (hx : vp_nar .byte x = x) {g' : Nat → va_E} (hg' : g' k = .inl (cA, len, .inl (upd f j x))) (ho : ∀ i, i < n → i ≠ k → g' i = g i) (hd : decode cc pc = .ok (.bastore, 1))
    (kk : ∀ (H1 : Heap) (locs1 : List Loc), zB n h D g' H1 → va_S A s.heap H1 locs1 → W p l e R s m args below meth c H1 locs1 cells slots Q (F0 m (pc + 1) ls rest)) : W p l e R s m args below meth c H locs cells slots Q (F0 m pc ls (.int x :: .int (iz i) :: .ref (h k) :: rest)) := by
  subst hj
  refine va_bast hF.1 hF.2.1 hK.1 hP (hz.va g) hS k t0 (by rw [wN_at hk, hg]) ht (iz_in (by omega) (by omega)) hd ?_
  rw [iz_clamp (by omega), Int.toNat_natCast, hx]
  exact fun H1 locs1 h1 _ h3 => kk H1 locs1 (by unfold zB; rw [← wN_set hk hg' ho]; exact h1) h3
theorem iz_byte {a : Int} (h : -128 ≤ a ∧ a ≤ 127) : (iz a).toInt8.toInt32 = iz a := by
  rw [← Int32.toInt_inj, Int8.toInt_toInt32, Int32.toInt_toInt8, iz_toInt (by omega)]
  exact Int.bmod_eq_of_le (by omega) (by omega)
end ZS
theorem se_isLatin1 : Cond.selects RJ4 yJ5_isLatin1_aae02 yJ5_isLatin1_aae02 ∈ UW := UW_mem (by decide +kernel) (by decide +kernel)
theorem se_getValue : Cond.selects RJ4 yJ5_getValue_6d5f1 yJ5_getValue_6d5f1 ∈ UW := UW_mem (by decide +kernel) (by decide +kernel)
theorem sm_isLatin1 : Cond.sameMethod RJ5 RJ5 "isLatin1" "()Z" ∈ UW := UW_mem (by decide +kernel) (by decide +kernel)
theorem sm_getValue : Cond.sameMethod RJ5 RJ5 "getValue" "()[B" ∈ UW := UW_mem (by decide +kernel) (by decide +kernel)
theorem sm_ensure : Cond.sameMethod RJ5 RJ5 "ensureCapacityInternal" "(I)V" ∈ UW := UW_mem (by decide +kernel) (by decide +kernel)
/-- the word's cells alone change -/
theorem gC_w_o {c : Nat → ClassId} {h : Nat → Nat} {σ κ : Nat → Nat → Int} {ω ω' : Nat × (Nat → Int32) × Int32} : ∀ i, i < 32 → i ≠ 6 → i ≠ 10 → gC c h σ κ ω' i = gC c h σ κ ω i := by
  intro i hi h6 h10
  match i with
  | 0 => rfl
  | 1 => rfl
  | 2 => rfl
  | 3 => rfl
  | 4 => rfl
  | 5 => rfl
  | 6 => exact absurd rfl h6
  | 7 => rfl
  | 8 => rfl
  | 9 => rfl
  | 10 => exact absurd rfl h10
  | k' + 11 => rfl
