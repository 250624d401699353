/-! the law's helpers: they call the class and catch what it throws -/
def zNcs (U : State) : Prop := va_Nc E206 E98 U ∧ va_Nc E67 E98 U ∧ va_Nc E67 E206 U
def zNCx : (Nat → Prop) → State → Heap → Prop := fun _ U _ => zNcs U
theorem zNc_st : zSt zNCx :=
  ⟨fun _ _ _ _ _ _ h _ hW _ => ⟨va_Nc.moved hW.alike h.1, va_Nc.moved hW.alike h.2.1, va_Nc.moved hW.alike h.2.2⟩, fun _ s U _ hv h => by
    have e : s.vm.Alike U.vm := by rw [hv]; exact Vm.Alike.refl s.vm
    exact ⟨va_Nc.moved e h.1, va_Nc.moved e h.2.1, va_Nc.moved e h.2.2⟩⟩
/-- what lies apart from a world stays while a method works on it -/
theorem zB_apart {n n' : Nat} {h h' : Nat → Nat} {D : va_G} {g' : Nat → va_E} {H H1 : Heap} (hP' : zB n' h' D g' H) (hap : ∀ i j, i < n → j < n' → h i ≠ h' j) (hk1 : ∀ q : Nat, q < H.size → ¬ zA n h H.size q → H1[q]? = H[q]?) : zB n' h' D g' H1 :=
  va_P.kept hP' (fun k q hk => by
    have hlt := (hP' k q hk).lt
    obtain ⟨hl, rfl⟩ := wN_lt hk
    refine hk1 _ hlt ?_
    rintro (⟨i, hi, e⟩ | hq)
    · exact hap i k hi hl e
    · exact absurd hlt (Nat.not_lt.mpr hq))
/-- what stands at a helper's entry -/
theorem zHM_of {l : Launch} {y : MethodName} {cy : ByteArray} {maxL : Nat} {hh : List (Nat × Nat × Nat × Nat)} {rm : Room} {av : List Value} {n : Nat} {h : Nat → Nat} {D : va_G} {tys : List (ClassId × FieldType)} {g : Nat → va_E} {Qc : Nat → Array Value → State → Outcome → State → Prop} {mc ms : Nat}
    (hy : plainName y.cls = true) (hn : (lg_sl av).length ≤ maxL)
    (body : ∀ (p : Program) (e : Env) (s : State) (m : MethodId) (below : List Frame) (meth : Method) (c : Code) (ls : Array Slot), zES p s m meth c y cy maxL (some .int) av D tys n h → c.exceptionTable.toList = tableOf hh → zNcs s → zB n h D g s.heap → lv_has ls maxL (lv_args 0 av) →
      W p l e rm s m av.toArray below meth c s.heap [] 0 0 (MQ below (Qc s.heap.size) av.toArray s mc ms (zA n h s.heap.size)) (F0 m 0 ls [])) :
    ∀ sz, Met l y (Cond.codeWith y cy maxL (some .int) hh :: UW) rm (zPE zNCx av n h D tys sz g) (Qc sz) mc ms (zA n h sz) := by
  intro sz
  refine va_MetW (cc := cy) (maxL := maxL) (ret := some .int) (hh := hh) hy rfl ?_
  intro p e s m args below meth c s₁ B hml hv
  obtain ⟨rfl, hsz, hP, hK, hX, hE⟩ := hv
  subst hsz
  rw [lg_entry_eq]
  exact body p e s m below meth c _ ⟨⟨B.exec, B.bytes, hml, findClass_of_methodNamed B.named, fun w hw => atoms_spec (ws := _ :: UW) B.pre w (List.mem_cons_of_mem _ hw)⟩, B.returns, B.notSynchronized, hK, hX⟩ (vx_table (x := y) B (atoms_spec (ws := Cond.codeWith y cy maxL (some .int) hh :: UW) B.pre _ List.mem_cons_self)) hE hP (lv_entry av hn)
abbrev S3 : Type := (Nat → Nat → Int) × (Nat → Nat → Int) × (Nat × (Nat → Int32) × Int32)
def gS (c : Nat → ClassId) (h : Nat → Nat) (u : S3) : Nat → va_E := gC c h u.1 u.2.1 u.2.2
section ZH
variable {p : Program} {l : Launch} {e : Env} {R : Room} {s : State} {m : MethodId} {args : Array Value} {below : List Frame} {meth : Method} {cd : Code} {H : Heap} {locs : List Loc} {cells slots : Nat} {Q : State → Prop}
variable {cc : ByteArray} {nL pc : Nat} {own : String} {ls : Array Slot} {rest : List Value} {A : Nat → Prop} {n : Nat} {h : Nat → Nat} {D : va_G} {tys : List (ClassId × FieldType)} {g : Nat → va_E} {c : Nat → ClassId}
variable {k K : Nat} {st0 : List Value} {S : Type} {w : S → Nat → va_E} {PX : String → Prop} {a : Array Value}
/-- a call that may throw, in a method that catches -/
theorem z_hci {P : Int → S → Prop} (hr : vx_Run p l e R s m args below meth cd H locs cells slots k (6 * k) (F0 m pc ls st0) rest (va_Qi (fun r (u : Int × S) => r = iz u.1 ∧ P u.1 u.2) (fun u t => zB n h D (w u.2) t.heap) (zA n h H.size) a) (zXC PX n h D g (zA n h H.size)) (zA n h H.size))
    (hz : zD A n h) (hA : ∀ q, s.heap.size ≤ q → A q) (hS : va_S A s.heap H locs)
    (kx : ∀ (E : String) (ce : Cell) (q9 : Addr) (H1 : Heap) (locs1 : List Loc), PX E → zB n h D g H1 → va_S A s.heap H1 locs1 → H1[q9]? = some ce → ce.vm = .none → s.vm.findClass E = some ce.cls → vx_W p l e R s m args below meth cd H1 locs1 (cells + k) (slots + 6 * k) Q (F0 m pc ls rest) q9)
    (kk : ∀ (z : Int) (v : S) (H1 : Heap) (locs1 : List Loc), P z v → zB n h D (w v) H1 → va_S A s.heap H1 locs1 → W p l e R s m args below meth cd H1 locs1 (cells + k) (slots + 6 * k) Q (F0 m (pc + 3) ls (.int (iz z) :: rest))) :
    W p l e R s m args below meth cd H locs cells slots Q (F0 m pc ls st0) := by
  refine vx_calli hr hS (fun q _ hq => zA_sub hz hA hS q hq) (zA_sub hz hA hS) (fun q _ hq => zA_sub hz hA hS q hq) (fun E ce q9 v t H1 locs1 ht hvm hpx hB hz1 hk1 hS1 hce hcv hcl => ?_) (fun r v t H1 locs1 ht hvm hw9 hB hz1 hk1 hS1 => ?_)
  · have hB2 := hB.2
    rw [ht] at hB2
    exact kx E ce q9 H1 locs1 hB.1 hB2 hS1 hce hcv hcl
  · obtain ⟨z, v⟩ := v
    obtain ⟨rfl, hp⟩ := hw9
    have hB : zB n h D (w v) t.heap := hB
    rw [ht] at hB
    exact kk z v H1 locs1 hp hB hS1
theorem z_hcv {P : S → Prop} (hr : vx_Run p l e R s m args below meth cd H locs cells slots k (6 * k) (F0 m pc ls st0) rest (va_Qv (fun u : S => P u) (fun u t => zB n h D (w u) t.heap) (zA n h H.size) a) (zXC PX n h D g (zA n h H.size)) (zA n h H.size))
    (hz : zD A n h) (hA : ∀ q, s.heap.size ≤ q → A q) (hS : va_S A s.heap H locs)
    (kx : ∀ (E : String) (ce : Cell) (q9 : Addr) (H1 : Heap) (locs1 : List Loc), PX E → zB n h D g H1 → va_S A s.heap H1 locs1 → H1[q9]? = some ce → ce.vm = .none → s.vm.findClass E = some ce.cls → vx_W p l e R s m args below meth cd H1 locs1 (cells + k) (slots + 6 * k) Q (F0 m pc ls rest) q9)
    (kk : ∀ (v : S) (H1 : Heap) (locs1 : List Loc), P v → zB n h D (w v) H1 → va_S A s.heap H1 locs1 → W p l e R s m args below meth cd H1 locs1 (cells + k) (slots + 6 * k) Q (F0 m (pc + 3) ls rest)) :
    W p l e R s m args below meth cd H locs cells slots Q (F0 m pc ls st0) := by
  refine vx_callv hr hS (fun q _ hq => zA_sub hz hA hS q hq) (zA_sub hz hA hS) (fun q _ hq => zA_sub hz hA hS q hq) (fun E ce q9 v t H1 locs1 ht hvm hpx hB hz1 hk1 hS1 hce hcv hcl => ?_) (fun v t H1 locs1 ht hvm hp hB hz1 hk1 hS1 => ?_)
  · have hB2 := hB.2
    rw [ht] at hB2
    exact kx E ce q9 H1 locs1 hB.1 hB2 hS1 hce hcv hcl
  · rw [ht] at hB
    exact kk v H1 locs1 hp hB hS1
/-- the row of the table that catches it -/
theorem z_hnd (hF : CallFix p m cd cc nL s args UW own) (hK : zK D tys s) {pre suf : List (Nat × Nat × Nat × Nat)} {f9 t9 hpc ct : Nat} {E : String} (htab : cd.exceptionTable.toList = tableOf (pre ++ (f9, t9, hpc, ct) :: suf)) (hpass : ∀ z ∈ pre, z.2.2.2 ≠ 0 ∧ ∃ nm : String, Cond.classLink own z.2.2.2 nm ∈ UW ∧ va_Nc E nm s)
    (hcov : covers ⟨f9, t9, hpc, ct⟩ pc = true) (h0 : ct ≠ 0) (hlink : Cond.classLink own ct E ∈ UW) (hcast : Cond.castable E E ∈ NW) {ce : Cell} {q : Addr} (hcell : H[q]? = some ce) (hv : ce.vm = .none) (hcl : s.vm.findClass E = some ce.cls)
    (kk : W p l e R s m args below meth cd H locs cells slots Q (F0 m hpc ls [.ref q])) : vx_W p l e R s m args below meth cd H locs cells slots Q (F0 m pc ls rest) q := by
  refine vx_catch (own := own) (name := E) (E := E) (x := ⟨f9, t9, hpc, ct⟩) (pre := tableOf pre) (suf := tableOf suf) hF.2.2.2.1 (by rw [htab]; simp [tableOf]) (fun z hz => ?_) hcov h0 (hF.2.2.2.2 _ hlink) (va_Nw.use rfl (hK.2 _ hcast)) hcell hv hcl kk
  obtain ⟨z0, hz0, rfl⟩ := List.mem_map.mp hz
  obtain ⟨q1, nm, q2, q3⟩ := hpass z0 hz0
  exact Or.inr ⟨q1, nm, hF.2.2.2.2 _ q2, q3⟩
variable {y : MethodName} {cy : ByteArray} {maxL mc ms idx na : Nat} {rm : Room} {Qc : Array Value → State → Outcome → State → Prop} {free : Addr → Prop} {As : List Value} {hh : List (Nat × Nat × Nat × Nat)}
/-- a helper is called -/
theorem z_lrunH (hF : CallFix p m cd cc nL s args UW own) (hK : zK D tys s) (hX : zX A s s.heap) (hN : zNcs s) (hz : zD A n h) (hA : ∀ q, s.heap.size ≤ q → A q) (hP : zB n h D g H) (hS : va_S A s.heap H locs) (hM : Met l y (Cond.codeWith y cy maxL (some .int) hh :: UW) rm (zPE zNCx As n h D tys H.size g) Qc mc ms free)
    (h1 : Cond.methodLink own idx y ∈ UW) (h2 : Cond.static y ∈ UW) (h4 : Cond.initialized y.cls ∈ UW) (h5 : Cond.codeWith y cy maxL (some .int) hh ∈ UW) (hrc : rm.cells = mc) (hrs : rm.slots = ms) (hd : y.cls ≠ "java/lang/invoke/MethodHandle" ∧ y.cls ≠ "java/lang/invoke/VarHandle" ∧ (parseMethodDescriptor y.desc).map (fun d => d.parameters.length) = some na) (hR : rm.frames + 1 ≤ R.frames ∧ 8 + (maxL + 11) + rm.locals ≤ R.locals)
    (hna : As.length = na) (hsz : ls.size = nL) (hst : st0 = As.reverse ++ rest) (hW : (rest.map fun v => v.category).sum ≤ 8) (hdg : decode cc pc = .ok (.invokestatic idx, 3)) (hf : cells + mc ≤ R.cells ∧ slots + ms ≤ R.slots) :
    va_Run p l e R s m args below meth cd H locs cells slots mc ms (F0 m pc ls st0) rest (Qc As.toArray) free := by
  refine vx_runSW hF hM (vx_cwSW (hh := hh) (bytes := cy) (maxL := maxL) (ret := some .int) na hF.2.2.2.2 ?_ rfl hrc hrs hd hR) (z_preE zNc_st hK hX hN hz hA hP hS) rfl hna hsz hst (by show 2 * 0 + _ ≤ 8; omega) hdg hf
  intro w hw
  simp only [va_wsS, List.mem_append, List.mem_cons, List.not_mem_nil, or_false] at hw
  rcases hw with (rfl | rfl | rfl) | (rfl | hw)
  · exact UW_gd h1
  · exact UW_gd h2
  · exact UW_gd h4
  · exact UW_gd h5
  · exact UW_gd hw
end ZH
