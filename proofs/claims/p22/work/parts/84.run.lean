/-! calls in any world, with whatever the callee needs beside it -/
def zPE (Ex : (Nat → Prop) → State → Heap → Prop) (av : List Value) (n : Nat) (h : Nat → Nat) (D : va_G) (tys : List (ClassId × FieldType)) (sz : Nat) (g : Nat → va_E) : Array Value → State → Prop := va_Pc av (fun U => U.heap.size = sz ∧ zB n h D g U.heap ∧ zK D tys U ∧ zX (zA n h sz) U U.heap ∧ Ex (zA n h sz) U U.heap)
/-- what stays where calls begin and while a world changes -/
def zSt (Ex : (Nat → Prop) → State → Heap → Prop) : Prop :=
  (∀ (A B : Nat → Prop) (s U : State) (H : Heap) (locs : List Loc), Ex A s s.heap → va_S A s.heap H locs → s.WarmedH U.vm → (∀ q, B q → A q) → Ex B U H) ∧ ∀ (A : Nat → Prop) (s U : State) (H : Heap), U.vm = s.vm → Ex A s H → Ex A U H
theorem zWi_st (t : Nat) (ad adK adV : Nat → Nat) : zSt (zWi t ad adK adV) := ⟨fun _ _ _ _ _ _ h hS hW hB => h.here hS hW hB, fun _ _ _ _ hv h => h.same hv⟩
section ZR5
variable {p : Program} {l : Launch} {e : Env} {R : Room} {s : State} {m : MethodId} {args : Array Value} {below : List Frame} {meth : Method} {c : Code} {H : Heap} {locs : List Loc} {cells slots : Nat} {Q : State → Prop}
variable {cc : ByteArray} {nL pc : Nat} {own : String} {ls : Array Slot} {rest : List Value} {A : Nat → Prop} {n : Nat} {h : Nat → Nat} {D : va_G} {tys : List (ClassId × FieldType)} {g : Nat → va_E} {Ex : (Nat → Prop) → State → Heap → Prop}
variable {y : MethodName} {cy : ByteArray} {maxL mc ms idx na k K : Nat} {ret : Option FieldType} {rm : Room} {Pc : Array Value → State → Prop} {Qc : Array Value → State → Outcome → State → Prop} {free : Addr → Prop} {As : List Value} {st0 : List Value} {b : Nat} {C : String}
theorem z_preE (hE : zSt Ex) (hK : zK D tys s) (hX : zX A s s.heap) (hW : Ex A s s.heap) (hz : zD A n h) (hA : ∀ q, s.heap.size ≤ q → A q) (hP : zB n h D g H) (hS : va_S A s.heap H locs) : FrameBlind (zPE Ex As n h D tys H.size g) ∧ ∀ U : State, U.heap = H → s.WarmedH U.vm → zPE Ex As n h D tys H.size g As.toArray U :=
  ⟨fun a U f mk q => by
    obtain ⟨h0, h1, h2, h3, h4, h5⟩ := q
    exact ⟨h0, h1, h2, zK.same (s := U) (U := U.calling f mk a) rfl h3, zX.same (s := U) (U := U.calling f mk a) rfl h4, hE.2 _ U (U.calling f mk a) _ rfl h5⟩,
   fun U hU hWm => ⟨rfl, by rw [hU], by rw [hU]; exact hP, hK.warm hWm, by rw [hU]; exact hX.here hS hWm (zA_sub hz hA hS), by rw [hU]; exact hE.1 A _ s U H locs hW hS hWm (zA_sub hz hA hS)⟩⟩
/-- a static method of any class of the tables -/
theorem z_rS (hF : CallFix p m c cc nL s args UW own) (hp : FrameBlind Pc ∧ ∀ U : State, U.heap = H → s.WarmedH U.vm → Pc As.toArray U) (hM : Met l y (Cond.code y cy maxL ret :: UW) rm Pc Qc mc ms free)
    (h1 : Cond.methodLink own idx y ∈ UW) (h2 : Cond.static y ∈ UW) (h4 : Cond.initialized y.cls ∈ UW) (h5 : Cond.code y cy maxL ret ∈ UW) (hrc : rm.cells = mc) (hrs : rm.slots = ms) (hd : y.cls ≠ "java/lang/invoke/MethodHandle" ∧ y.cls ≠ "java/lang/invoke/VarHandle" ∧ (parseMethodDescriptor y.desc).map (fun d => d.parameters.length) = some na) (hR : rm.frames + 1 ≤ R.frames ∧ 8 + (maxL + 11) + rm.locals ≤ R.locals)
    (hna : As.length = na) (hsz : ls.size = nL) (hst : st0 = As.reverse ++ rest) (hW : (rest.map fun v => v.category).sum ≤ 8) (hdg : decode cc pc = .ok (.invokestatic idx, 3)) (hf : cells + mc ≤ R.cells ∧ slots + ms ≤ R.slots) :
    va_Run p l e R s m args below meth c H locs cells slots mc ms (F0 m pc ls st0) rest (Qc As.toArray) free := by
  refine va_runS hF hM (va_cwS na hF.2.2.2.2 ?_ rfl hrc hrs hd hR) hp rfl hna hsz hst (by show 2 * 0 + _ ≤ 8; omega) hdg hf
  intro w hw
  simp only [va_wsS, List.mem_append, List.mem_cons, List.not_mem_nil, or_false] at hw
  rcases hw with (rfl | rfl | rfl) | (rfl | hw)
  · exact UW_gd h1
  · exact UW_gd h2
  · exact UW_gd h4
  · exact UW_gd h5
  · exact UW_gd hw
/-- a constructor -/
theorem z_rI (hF : CallFix p m c cc nL s args UW own) (hp : FrameBlind Pc ∧ ∀ U : State, U.heap = H → s.WarmedH U.vm → Pc (Value.ref b :: As).toArray U) (hM : Met l y (Cond.code y cy maxL none :: UW) rm Pc Qc mc ms free)
    (h1 : Cond.methodLink own idx y ∈ UW) (h2 : Cond.instanceMethod y ∈ UW) (h4 : Cond.initialized y.cls ∈ UW) (h5 : Cond.code y cy maxL none ∈ UW) (hy1 : y.name = "<init>") (hrc : rm.cells = mc) (hrs : rm.slots = ms) (hd : y.cls ≠ "java/lang/invoke/MethodHandle" ∧ y.cls ≠ "java/lang/invoke/VarHandle" ∧ (parseMethodDescriptor y.desc).map (fun d => d.parameters.length) = some na) (hR : rm.frames + 1 ≤ R.frames ∧ 8 + (maxL + 11) + rm.locals ≤ R.locals)
    (hna : As.length = na) (hsz : ls.size = nL) (hst : st0 = As.reverse ++ .ref b :: rest) (hW : (rest.map fun v => v.category).sum ≤ 8) (hdg : decode cc pc = .ok (.invokespecial idx, 3)) (hf : cells + mc ≤ R.cells ∧ slots + ms ≤ R.slots) :
    va_Run p l e R s m args below meth c H locs cells slots mc ms (F0 m pc ls st0) rest (Qc (Value.ref b :: As).toArray) free :=
  va_runI hF hM (cwI na hF.2.2.2.2 (gIn_C h5) rfl hrc hrs (hF.2.2.2.2 _ h4) (hF.2.2.2.2 _ h1) (hF.2.2.2.2 _ h2) hy1 hd hR) hp rfl hna hsz hst (by show 2 * 0 + _ ≤ 8; omega) hdg hf
/-- a virtual method of the object's own class -/
theorem z_rV (hF : CallFix p m c cc nL s args UW own) (hr : ∃ cell : Cell, H[b]? = some cell ∧ cell.vm.isStatics = false ∧ s.vm.findClass C = some cell.cls) (hp : FrameBlind Pc ∧ ∀ U : State, U.heap = H → s.WarmedH U.vm → Pc (Value.ref b :: As).toArray U) (hM : Met l y (Cond.code y cy maxL ret :: UW) rm Pc Qc mc ms free)
    (hG : GoodIn UW (wsV own idx C y (Cond.code y cy maxL ret :: UW))) (hrc : rm.cells = mc) (hrs : rm.slots = ms) (hd : y.cls = C ∧ y.cls ≠ "java/lang/invoke/MethodHandle" ∧ y.cls ≠ "java/lang/invoke/VarHandle" ∧ (parseMethodDescriptor y.desc).map (fun d => d.parameters.length) = some na) (hR : rm.frames + 1 ≤ R.frames ∧ 8 + (maxL + 11) + rm.locals ≤ R.locals)
    (hna : As.length = na) (hsz : ls.size = nL) (hst : st0 = As.reverse ++ .ref b :: rest) (hW : (rest.map fun v => v.category).sum ≤ 8) (hdg : decode cc pc = .ok (.invokevirtual idx, 3)) (hf : cells + mc ≤ R.cells ∧ slots + ms ≤ R.slots) :
    va_Run p l e R s m args below meth c H locs cells slots mc ms (F0 m pc ls st0) rest (Qc (Value.ref b :: As).toArray) free :=
  va_runV hF hM (cwV na hF.2.2.2.2 hG rfl hrc hrs hd hR) ⟨hp.1, hr, hp.2⟩ rfl hna hsz hst (by show 2 * 0 + _ ≤ 8; omega) hdg hf
/-- a private method of a nest mate -/
theorem z_rVN (hF : CallFix p m c cc nL s args UW own) (hK : zK D tys s) (hr : ∃ cell : Cell, H[b]? = some cell ∧ cell.vm.isStatics = false ∧ s.vm.findClass C = some cell.cls) (hp : FrameBlind Pc ∧ ∀ U : State, U.heap = H → s.WarmedH U.vm → Pc (Value.ref b :: As).toArray U) (hM : Met l y (Cond.code y cy maxL ret :: UW) rm Pc Qc mc ms free) {host : String}
    (hG : Cond.code y cy maxL ret ∈ UW) (hl : Cond.methodLinkNest own idx y host ∈ NW) (hini : Cond.initialized y.cls ∈ UW) (hin : Cond.instanceMethod y ∈ UW) (hse : Cond.selects C y y ∈ UW) (hrc : rm.cells = mc) (hrs : rm.slots = ms) (hd : y.cls ≠ "java/lang/invoke/MethodHandle" ∧ y.cls ≠ "java/lang/invoke/VarHandle" ∧ (parseMethodDescriptor y.desc).map (fun d => d.parameters.length) = some na) (hR : rm.frames + 1 ≤ R.frames ∧ 8 + (maxL + 11) + rm.locals ≤ R.locals)
    (hna : As.length = na) (hsz : ls.size = nL) (hst : st0 = As.reverse ++ .ref b :: rest) (hW : (rest.map fun v => v.category).sum ≤ 8) (hdg : decode cc pc = .ok (.invokevirtual idx, 3)) (hf : cells + mc ≤ R.cells ∧ slots + ms ≤ R.slots) :
    va_Run p l e R s m args below meth c H locs cells slots mc ms (F0 m pc ls st0) rest (Qc (Value.ref b :: As).toArray) free :=
  va_runVN hF hM ⟨va_cnB na hF.2.2.2.2 (gIn_C hG) rfl hrc hrs (hK.2 _ hl) (hF.2.2.2.2 _ hini) hd hR, hF.2.2.2.2 _ hin, hF.2.2.2.2 _ hse⟩ ⟨hp.1, hr, hp.2⟩ rfl hna hsz hst (by show 2 * 0 + _ ≤ 8; omega) hdg hf
/-- a method that the reference names in a superclass; x: what is named, y: what is run -/
theorem z_rU {x : MethodName} (hF : CallFix p m c cc nL s args UW own) (hr : ∃ cell : Cell, H[b]? = some cell ∧ cell.vm.isStatics = false ∧ s.vm.findClass C = some cell.cls) (hp : FrameBlind Pc ∧ ∀ U : State, U.heap = H → s.WarmedH U.vm → Pc (Value.ref b :: As).toArray U) (hM : Met l y (Cond.code y cy maxL ret :: UW) rm Pc Qc mc ms free)
    (h1 : Cond.methodLink own idx x ∈ UW) (h2 : Cond.sameMethod x.cls x.cls x.name x.desc ∈ UW) (h3 : (Cond.selects C x y).before args s = true) (h4 : Cond.instanceMethod y ∈ UW) (h5 : Cond.initialized y.cls ∈ UW) (h6 : Cond.code y cy maxL ret ∈ UW) {bx : ByteArray} {mx : Nat} {rx : Option FieldType} (h7 : Cond.instanceMethod x ∈ UW) (h8 : Cond.code x bx mx rx ∈ UW)
    (hrc : rm.cells = mc) (hrs : rm.slots = ms) (hd : x.cls ≠ "java/lang/invoke/MethodHandle" ∧ x.cls ≠ "java/lang/invoke/VarHandle" ∧ (parseMethodDescriptor x.desc).map (fun d => d.parameters.length) = some na) (hR : rm.frames + 1 ≤ R.frames ∧ 8 + (maxL + 11) + rm.locals ≤ R.locals)
    (hna : As.length = na) (hsz : ls.size = nL) (hst : st0 = As.reverse ++ .ref b :: rest) (hW : (rest.map fun v => v.category).sum ≤ 8) (hdg : decode cc pc = .ok (.invokevirtual idx, 3)) (hf : cells + mc ≤ R.cells ∧ slots + ms ≤ R.slots) :
    va_Run p l e R s m args below meth c H locs cells slots mc ms (F0 m pc ls st0) rest (Qc (Value.ref b :: As).toArray) free := by
  have ok := hF.2.2.2.2
  refine va_runU (C := C) (owner := x.cls) (x := x) (y := y) hF hM ⟨⟨hrc, hrs, hR.1, hR.2, pay_in ok (gIn_C h6), List.mem_cons_self⟩, ok _ h6, ok _ h5, ⟨hd.1, hd.2.1⟩, fun sig q => ?_, ok _ h1, ok _ h2, va_Decl.of (ok _ h7) (ok _ h8), h3, ok _ h4⟩ ⟨hp.1, hr, hp.2⟩ rfl hna hsz hst (by show 2 * 0 + _ ≤ 8; omega) hdg hf
  have q2 := hd.2.2
  rw [q] at q2
  exact (Option.some.inj q2).symm
theorem z_recv (hK : zK D tys s) (hP : zB n h D g H) {k ci N : Nat} {T : u_T} {fs : List Value} (hk : k < n) (hg : g k = .inr (ci, fs)) (hc : vwCl[ci]? = some (C, T, N)) : ∃ cell : Cell, H[h k]? = some cell ∧ cell.vm.isStatics = false ∧ s.vm.findClass C = some cell.cls := va_recv hK.1 hP hc (by rw [wN_at hk, hg])
variable {a : Array Value} {S : Type} {n' : Nat}
/-- what comes back is a new cell, the world has grown -/
theorem z_crN {hh : S → Nat → Nat → Nat} {w : S → Nat → Nat → va_E} {P : S → Prop} (hr : va_Run p l e R s m args below meth c H locs cells slots mc ms (F0 m pc ls st0) rest (va_Qr (fun u : S => P u) (fun u ra t => zB n' (hh u ra) D (w u ra) t.heap ∧ zD (zA n h H.size) n' (hh u ra)) (zA n h H.size) a) (zA n h H.size)) (hz : zD A n h) (hA : ∀ q, s.heap.size ≤ q → A q) (hS : va_S A s.heap H locs)
    (kk : ∀ (u : S) (ra : Nat) (H1 : Heap) (locs1 : List Loc), P u → zB n' (hh u ra) D (w u ra) H1 → zD A n' (hh u ra) → va_S A s.heap H1 locs1 → W p l e R s m args below meth c H1 locs1 (cells + mc) (slots + ms) Q (F0 m (pc + 3) ls (.ref ra :: rest))) : W p l e R s m args below meth c H locs cells slots Q (F0 m pc ls st0) := by
  refine va_callr hr hS (fun q _ hq => zA_sub hz hA hS q hq) (zA_sub hz hA hS) (fun u ra t H1 locs1 ht hvm hw hB hz1 hk1 hS1 => ?_)
  obtain ⟨hB, hD⟩ := hB
  rw [ht] at hB
  exact kk u ra H1 locs1 hw hB (hD.mono (zA_sub hz hA hS)) hS1
theorem z_cvN {hh : S → Nat → Nat} {w : S → Nat → va_E} {P : S → Prop} (hr : va_Run p l e R s m args below meth c H locs cells slots mc ms (F0 m pc ls st0) rest (va_Qv (fun u : S => P u) (fun u t => zB n' (hh u) D (w u) t.heap ∧ zD (zA n h H.size) n' (hh u)) (zA n h H.size) a) (zA n h H.size)) (hz : zD A n h) (hA : ∀ q, s.heap.size ≤ q → A q) (hS : va_S A s.heap H locs)
    (kk : ∀ (u : S) (H1 : Heap) (locs1 : List Loc), P u → zB n' (hh u) D (w u) H1 → zD A n' (hh u) → va_S A s.heap H1 locs1 → W p l e R s m args below meth c H1 locs1 (cells + mc) (slots + ms) Q (F0 m (pc + 3) ls rest)) : W p l e R s m args below meth c H locs cells slots Q (F0 m pc ls st0) := by
  refine va_callv hr hS (fun q _ hq => zA_sub hz hA hS q hq) (zA_sub hz hA hS) (fun u t H1 locs1 ht hvm hw hB hz1 hk1 hS1 => ?_)
  obtain ⟨hB, hD⟩ := hB
  rw [ht] at hB
  exact kk u H1 locs1 hw hB (hD.mono (zA_sub hz hA hS)) hS1
end ZR5
/-- a method that gives back a new cell -/
def zNr {S : Type} (l : Launch) (y : MethodName) (cy : ByteArray) (maxL : Nat) (ret : Option FieldType) (fr lo K : Nat) (av : List Value) (n : Nat) (h : Nat → Nat) (D : va_G) (tys : List (ClassId × FieldType)) (g : Nat → va_E) (n' : Nat) (hh : S → Nat → Nat → Nat) (w : S → Nat → Nat → va_E) (P : S → Prop) : Prop :=
  ∀ sz, Met l y (Cond.code y cy maxL ret :: UW) { frames := fr, cells := K, slots := 6 * K, locals := lo } (zPX av n h D tys sz g) (va_Qr (fun u : S => P u) (fun u ra t => zB n' (hh u ra) D (w u ra) t.heap ∧ zD (zA n h sz) n' (hh u ra)) (zA n h sz)) K (6 * K) (zA n h sz)
/-- a constructor in whose course the world grows; fields: how many slots -/
def zNv {S : Type} (l : Launch) (y : MethodName) (cy : ByteArray) (maxL : Nat) (fr lo K ms : Nat) (av : List Value) (n : Nat) (h : Nat → Nat) (D : va_G) (tys : List (ClassId × FieldType)) (g : Nat → va_E) (n' : Nat) (hh : S → Nat → Nat) (w : S → Nat → va_E) (P : S → Prop) : Prop :=
  ∀ sz, Met l y (Cond.code y cy maxL none :: UW) { frames := fr, cells := K, slots := ms, locals := lo } (zPX av n h D tys sz g) (va_Qv (fun u : S => P u) (fun u t => zB n' (hh u) D (w u) t.heap ∧ zD (zA n h sz) n' (hh u)) (zA n h sz)) K ms (zA n h sz)
/-- what stands at a constructor's entry -/
theorem zIM_of {l : Launch} {y : MethodName} {cy : ByteArray} {maxL : Nat} {rm : Room} {av : List Value} {n : Nat} {h : Nat → Nat} {D : va_G} {tys : List (ClassId × FieldType)} {g : Nat → va_E} {Qc : Nat → Array Value → State → Outcome → State → Prop} {mc ms : Nat}
    (hy : plainName y.cls = true) (hn : (lg_sl av).length ≤ maxL) (hnm : y.name = "<init>")
    (body : ∀ (p : Program) (e : Env) (s : State) (m : MethodId) (below : List Frame) (meth : Method) (c : Code) (ls : Array Slot), zES p s m meth c y cy maxL none av D tys n h → meth.name = "<init>" → zB n h D g s.heap → lv_has ls maxL (lv_args 0 av) →
      W p l e rm s m av.toArray below meth c s.heap [] 0 0 (MQ below (Qc s.heap.size) av.toArray s mc ms (zA n h s.heap.size)) (F0 m 0 ls [])) :
    ∀ sz, Met l y (Cond.code y cy maxL none :: UW) rm (zPX av n h D tys sz g) (Qc sz) mc ms (zA n h sz) := by
  intro sz
  refine Met.ofW (cc := cy) (maxL := maxL) (ret := none) hy rfl ?_
  intro p e s m args below meth c s₁ B hml hv
  obtain ⟨rfl, hsz, hP, hK, hX⟩ := hv
  subst hsz
  rw [lg_entry_eq]
  exact body p e s m below meth c _ ⟨⟨B.exec, B.bytes, hml, findClass_of_methodNamed B.named, fun w hw => atoms_spec (ws := _ :: UW) B.pre w (List.mem_cons_of_mem _ hw)⟩, B.returns, B.notSynchronized, hK, hX⟩ ((name_of_methodNamed B.named B.method).1.trans hnm) hP (lv_entry av hn)
/-- with what the callee needs beside it -/
theorem zEM_of {Ex : (Nat → Prop) → State → Heap → Prop} {l : Launch} {y : MethodName} {cy : ByteArray} {maxL : Nat} {ret : Option FieldType} {rm : Room} {av : List Value} {n : Nat} {h : Nat → Nat} {D : va_G} {tys : List (ClassId × FieldType)} {g : Nat → va_E} {Qc : Nat → Array Value → State → Outcome → State → Prop} {mc ms : Nat}
    (hy : plainName y.cls = true) (hn : (lg_sl av).length ≤ maxL)
    (body : ∀ (p : Program) (e : Env) (s : State) (m : MethodId) (below : List Frame) (meth : Method) (c : Code) (ls : Array Slot), zES p s m meth c y cy maxL ret av D tys n h → Ex (zA n h s.heap.size) s s.heap → zB n h D g s.heap → lv_has ls maxL (lv_args 0 av) →
      W p l e rm s m av.toArray below meth c s.heap [] 0 0 (MQ below (Qc s.heap.size) av.toArray s mc ms (zA n h s.heap.size)) (F0 m 0 ls [])) :
    ∀ sz, Met l y (Cond.code y cy maxL ret :: UW) rm (zPE Ex av n h D tys sz g) (Qc sz) mc ms (zA n h sz) := by
  intro sz
  refine Met.ofW (cc := cy) (maxL := maxL) (ret := ret) hy rfl ?_
  intro p e s m args below meth c s₁ B hml hv
  obtain ⟨rfl, hsz, hP, hK, hX, hE⟩ := hv
  subst hsz
  rw [lg_entry_eq]
  exact body p e s m below meth c _ ⟨⟨B.exec, B.bytes, hml, findClass_of_methodNamed B.named, fun w hw => atoms_spec (ws := _ :: UW) B.pre w (List.mem_cons_of_mem _ hw)⟩, B.returns, B.notSynchronized, hK, hX⟩ hE hP (lv_entry av hn)
