/-! the law's helpers: a world of 33 cells (the class's, and the law's row of one long); a call that may throw, and what catches it -/
def zNcs (U : State) : Prop := va_Nc E206 E98 U ∧ va_Nc E67 E98 U ∧ va_Nc E67 E206 U
def zNCx : (Nat → Prop) → State → Heap → Prop := fun _ U _ => zNcs U
theorem zNc_st : zSt zNCx :=
  ⟨fun _ _ _ _ _ _ h _ hW _ => ⟨va_Nc.moved hW.alike h.1, va_Nc.moved hW.alike h.2.1, va_Nc.moved hW.alike h.2.2⟩, fun _ s U _ hv h => by
    have e : s.vm.Alike U.vm := by rw [hv]; exact Vm.Alike.refl s.vm
    exact ⟨va_Nc.moved e h.1, va_Nc.moved e h.2.1, va_Nc.moved e h.2.2⟩⟩
abbrev SS : Type := (Nat → Nat → Int) × (Nat → Nat → Int) × (Nat × (Nat → Int32) × Int32) × Int64
def oE (cL : ClassId) (o : Int64) : va_E := .inl (cL, 1, .inr (.inl fun j => if j = 0 then o else 0))
def gL (c : Nat → ClassId) (cL : ClassId) (h : Nat → Nat) (u : SS) : Nat → va_E := gx (gC c h u.1 u.2.1 u.2.2.1) 32 (oE cL u.2.2.2)
def gTL (c : Nat → ClassId) (cL : ClassId) : List (ClassId × FieldType) := gT c ++ [(cL, .long)]
def cvI (z : Int) : Int64 := (iz z).toInt64
def cvB (z : Int) : Int64 := if iz z = 0 then 0 else 1
theorem zK_gT {D : va_G} {c : Nat → ClassId} {cL : ClassId} {s : State} (hK : zK D (gTL c cL) s) : zK D (gT c) s := ⟨va_K.sub hK.1 [0, 1, 2, 3, 4] rfl, hK.2⟩
theorem gL_32 {c : Nat → ClassId} {cL : ClassId} {h : Nat → Nat} {u : SS} : gL c cL h u 32 = oE cL u.2.2.2 := gx_at
theorem gL_lt {c : Nat → ClassId} {cL : ClassId} {h : Nat → Nat} {u : SS} {k : Nat} (hk : k < 32) : gL c cL h u k = gC c h u.1 u.2.1 u.2.2.1 k := gx_ne (by omega)
theorem zB_32 {c : Nat → ClassId} {cL : ClassId} {h : Nat → Nat} {u : SS} {D : va_G} {H : Heap} (hP : zB 33 h D (gL c cL h u) H) : zB 32 h D (gC c h u.1 u.2.1 u.2.2.1) H :=
  zB_congr (zB_less hP (by decide)) (fun _ _ => rfl) (fun k hk => (gL_lt hk).symm)
theorem zB_o {c : Nat → ClassId} {cL : ClassId} {h : Nat → Nat} {u : SS} {D : va_G} {H : Heap} (hP : zB 33 h D (gL c cL h u) H) : zB 1 (fun _ => h 32) D (fun _ => oE cL u.2.2.2) H := by
  intro k q hk
  obtain ⟨hl, rfl⟩ := wN_lt hk
  have := hP 32 _ (wN_at (by decide))
  rw [gL_32] at this
  exact this
theorem zB_33 {c : Nat → ClassId} {cL : ClassId} {h : Nat → Nat} {D : va_G} {H : Heap} {g : Nat → va_E} {u : SS} (h1 : zB 32 h D g H) (h2 : zB 1 (fun _ => h 32) D (fun _ => oE cL u.2.2.2) H) (e : ∀ k, k < 32 → gC c h u.1 u.2.1 u.2.2.1 k = g k) : zB 33 h D (gL c cL h u) H := by
  intro k q hk
  obtain ⟨hl, rfl⟩ := wN_lt hk
  rcases Nat.lt_or_ge k 32 with q | q
  · rw [gL_lt q, e k q]; exact h1 k _ (wN_at q)
  · have : k = 32 := by omega
    subst this
    rw [gL_32]
    exact h2 0 _ (wN_at (by decide))
/-- what lies apart from a world stays while a method works on it -/
theorem zB_apart {n n' : Nat} {h h' : Nat → Nat} {D : va_G} {g' : Nat → va_E} {H H1 : Heap} (hP' : zB n' h' D g' H) (hap : ∀ i j, i < n → j < n' → h i ≠ h' j) (hk1 : ∀ q : Nat, q < H.size → ¬ zA n h H.size q → H1[q]? = H[q]?) : zB n' h' D g' H1 :=
  va_P.kept hP' (fun k q hk => by
    have hlt := (hP' k q hk).lt
    obtain ⟨hl, rfl⟩ := wN_lt hk
    refine hk1 _ hlt ?_
    rintro (⟨i, hi, e⟩ | hq)
    · exact hap i k hi hl e
    · exact absurd hlt (Nat.not_lt.mpr hq))
/-- what stands at a helper's entry -/
theorem zHM_of {l : Launch} {y : MethodName} {cy : ByteArray} {maxL : Nat} {hh : List (Nat × Nat × Nat × Nat)} {rm : Room} {av : List Value} {n : Nat} {h : Nat → Nat} {D : va_G} {tys : List (ClassId × FieldType)} {g : Nat → va_E} {Qc : Nat → Array Value → State → Outcome → State → Prop} {mc ms : Nat}
    (hy : plainName y.cls = true) (hn : (lg_sl av).length ≤ maxL)
    (body : ∀ (p : Program) (e : Env) (s : State) (m : MethodId) (below : List Frame) (meth : Method) (c : Code) (ls : Array Slot), zES p s m meth c y cy maxL (some .int) av D tys n h → c.exceptionTable.toList = tableOf hh → zNcs s → zB n h D g s.heap → lv_has ls maxL (lv_args 0 av) →
      W p l e rm s m av.toArray below meth c s.heap [] 0 0 (MQ below (Qc s.heap.size) av.toArray s mc ms (zA n h s.heap.size)) (F0 m 0 ls [])) :
    ∀ sz, Met l y (Cond.codeWith y cy maxL (some .int) hh :: UW) rm (zPE zNCx av n h D tys sz g) (Qc sz) mc ms (zA n h sz) := by
  intro sz
  refine va_MetW (cc := cy) (maxL := maxL) (ret := some .int) (hh := hh) hy rfl ?_
  intro p e s m args below meth c s₁ B hml hv
  obtain ⟨rfl, hsz, hP, hK, hX, hE⟩ := hv
  subst hsz
  rw [lg_entry_eq]
  exact body p e s m below meth c _ ⟨⟨B.exec, B.bytes, hml, findClass_of_methodNamed B.named, fun w hw => atoms_spec (ws := _ :: UW) B.pre w (List.mem_cons_of_mem _ hw)⟩, B.returns, B.notSynchronized, hK, hX⟩ (vx_table (x := y) B (atoms_spec (ws := Cond.codeWith y cy maxL (some .int) hh :: UW) B.pre _ List.mem_cons_self)) hE hP (lv_entry av hn)
section ZH
variable {p : Program} {l : Launch} {e : Env} {R : Room} {s : State} {m : MethodId} {args : Array Value} {below : List Frame} {meth : Method} {cd : Code} {H : Heap} {locs : List Loc} {cells slots : Nat} {Q : State → Prop}
variable {cc : ByteArray} {nL pc : Nat} {own : String} {ls : Array Slot} {rest : List Value} {A : Nat → Prop} {n : Nat} {h : Nat → Nat} {D : va_G} {tys : List (ClassId × FieldType)} {g : Nat → va_E} {c : Nat → ClassId} {cL : ClassId} {u : SS}
variable {y : MethodName} {cy : ByteArray} {maxL mc ms idx na k K : Nat} {ret : Option FieldType} {rm : Room} {free : Addr → Prop} {As : List Value} {st0 : List Value} {b : Nat}
theorem z_last (hF : CallFix p m cd cc nL s args UW own) (hK : zK D (gTL c cL) s) (hz : zD A 33 h) (hP : zB 33 h D (gL c cL h u) H) (hS : va_S A s.heap H locs) {x : Int64} (hd : decode cc pc = .ok (.lastore, 1))
    (kk : ∀ (H1 : Heap) (locs1 : List Loc), zB 33 h D (gL c cL h (u.1, u.2.1, u.2.2.1, x)) H1 → va_S A s.heap H1 locs1 → W p l e R s m args below meth cd H1 locs1 cells slots Q (F0 m (pc + 1) ls rest)) : W p l e R s m args below meth cd H locs cells slots Q (F0 m pc ls (.long x :: .int (iz 0) :: .ref (h 32) :: rest)) := by
  refine va_last hF.1 hF.2.1 hK.1 hP (hz.va _) hS 32 5 (cA := cL) (n := 1) (f := fun j => if j = 0 then u.2.2.2 else 0) (by rw [wN_at (by decide), gL_32]; rfl) rfl (iz_in (by decide) (by decide)) hd (fun H1 locs1 h1 _ h3 => kk H1 locs1 ?_ h3)
  unfold zB
  rw [← wN_set (n := 33) (k := 32) (h := h) (g := gL c cL h u) (g' := gL c cL h (u.1, u.2.1, u.2.2.1, x)) (e := .inl (cL, 1, .inr (.inl (vp_updL (fun j => if j = 0 then u.2.2.2 else 0) (iz 0).toNatClampNeg x)))) (by decide) ?_ ?_]
  · exact h1
  · rw [gL_32]
    have e9 : vp_updL (fun j => if j = 0 then u.2.2.2 else 0) (iz 0).toNatClampNeg x = fun j => if j = 0 then x else 0 := by
      funext j
      unfold vp_updL
      rw [show (iz 0).toNatClampNeg = 0 from rfl]
      by_cases hj : j = 0
      · simp [hj]
      · simp [hj]
    rw [e9]
    rfl
  · intro j hj hne
    rw [gL_lt (by omega), gL_lt (by omega)]
/-- the class is called from a helper -/
theorem z_hcall {S : Type} {w : S → Nat → va_E} {P : Int → S → Prop} {PX : String → Prop} {a : Array Value} (hr : vx_Run p l e R s m args below meth cd H locs cells slots k (6 * k) (F0 m pc ls st0) rest (va_Qi (fun r (u : Int × S) => r = iz u.1 ∧ P u.1 u.2) (fun u t => zB 32 h D (w u.2) t.heap) (zA 32 h H.size) a) (zXC PX 32 h D (gC c h u.1 u.2.1 u.2.2.1) (zA 32 h H.size)) (zA 32 h H.size))
    (hz : zD A 33 h) (hA : ∀ q, s.heap.size ≤ q → A q) (hP : zB 33 h D (gL c cL h u) H) (hS : va_S A s.heap H locs) (wu : S → SS) (hw : ∀ v : S, w v = gC c h (wu v).1 (wu v).2.1 (wu v).2.2.1) (ho : ∀ v : S, (wu v).2.2.2 = u.2.2.2)
    (kx : ∀ (E : String) (ce : Cell) (q9 : Addr) (H1 : Heap) (locs1 : List Loc), PX E → zB 33 h D (gL c cL h u) H1 → va_S A s.heap H1 locs1 → H1[q9]? = some ce → ce.vm = .none → s.vm.findClass E = some ce.cls → vx_W p l e R s m args below meth cd H1 locs1 (cells + k) (slots + 6 * k) Q (F0 m pc ls rest) q9)
    (kk : ∀ (z : Int) (v : S) (H1 : Heap) (locs1 : List Loc), P z v → zB 33 h D (gL c cL h (wu v)) H1 → va_S A s.heap H1 locs1 → W p l e R s m args below meth cd H1 locs1 (cells + k) (slots + 6 * k) Q (F0 m (pc + 3) ls (.int (iz z) :: rest))) :
    W p l e R s m args below meth cd H locs cells slots Q (F0 m pc ls st0) := by
  have hz2 : zD A 32 h := hz.less (by decide)
  have hap : ∀ i j, i < 32 → j < 1 → h i ≠ (fun _ : Nat => h 32) j := fun i j hi _ q => by
    have := hz.1 i 32 (by omega) (by decide) q
    omega
  refine vx_calli hr hS (fun q _ hq => zA_sub hz2 hA hS q hq) (zA_sub hz2 hA hS) (fun q _ hq => zA_sub hz2 hA hS q hq) (fun E ce q9 v t H1 locs1 ht hvm hpx hB hz1 hk1 hS1 hce hcv hcl => ?_) (fun r v t H1 locs1 ht hvm hw9 hB hz1 hk1 hS1 => ?_)
  · have hB2 := hB.2
    rw [ht] at hB2
    exact kx E ce q9 H1 locs1 hB.1 (zB_33 hB2 (zB_apart (zB_o hP) hap hk1) (fun _ _ => rfl)) hS1 hce hcv hcl
  · obtain ⟨z, v⟩ := v
    obtain ⟨rfl, hp⟩ := hw9
    have hB : zB 32 h D (w v) t.heap := hB
    rw [ht] at hB
    exact kk z v H1 locs1 hp (zB_33 hB (by rw [ho v]; exact zB_apart (zB_o hP) hap hk1) (fun _ _ => by rw [hw v])) hS1
theorem z_hcallv {S : Type} {w : S → Nat → va_E} {P : S → Prop} {PX : String → Prop} {a : Array Value} (hr : vx_Run p l e R s m args below meth cd H locs cells slots k (6 * k) (F0 m pc ls st0) rest (va_Qv (fun u : S => P u) (fun u t => zB 32 h D (w u) t.heap) (zA 32 h H.size) a) (zXC PX 32 h D (gC c h u.1 u.2.1 u.2.2.1) (zA 32 h H.size)) (zA 32 h H.size))
    (hz : zD A 33 h) (hA : ∀ q, s.heap.size ≤ q → A q) (hP : zB 33 h D (gL c cL h u) H) (hS : va_S A s.heap H locs) (wu : S → SS) (hw : ∀ v : S, w v = gC c h (wu v).1 (wu v).2.1 (wu v).2.2.1) (ho : ∀ v : S, (wu v).2.2.2 = u.2.2.2)
    (kx : ∀ (E : String) (ce : Cell) (q9 : Addr) (H1 : Heap) (locs1 : List Loc), PX E → zB 33 h D (gL c cL h u) H1 → va_S A s.heap H1 locs1 → H1[q9]? = some ce → ce.vm = .none → s.vm.findClass E = some ce.cls → vx_W p l e R s m args below meth cd H1 locs1 (cells + k) (slots + 6 * k) Q (F0 m pc ls rest) q9)
    (kk : ∀ (v : S) (H1 : Heap) (locs1 : List Loc), P v → zB 33 h D (gL c cL h (wu v)) H1 → va_S A s.heap H1 locs1 → W p l e R s m args below meth cd H1 locs1 (cells + k) (slots + 6 * k) Q (F0 m (pc + 3) ls rest)) :
    W p l e R s m args below meth cd H locs cells slots Q (F0 m pc ls st0) := by
  have hz2 : zD A 32 h := hz.less (by decide)
  have hap : ∀ i j, i < 32 → j < 1 → h i ≠ (fun _ : Nat => h 32) j := fun i j hi _ q => by
    have := hz.1 i 32 (by omega) (by decide) q
    omega
  refine vx_callv hr hS (fun q _ hq => zA_sub hz2 hA hS q hq) (zA_sub hz2 hA hS) (fun q _ hq => zA_sub hz2 hA hS q hq) (fun E ce q9 v t H1 locs1 ht hvm hpx hB hz1 hk1 hS1 hce hcv hcl => ?_) (fun v t H1 locs1 ht hvm hp hB hz1 hk1 hS1 => ?_)
  · have hB2 := hB.2
    rw [ht] at hB2
    exact kx E ce q9 H1 locs1 hB.1 (zB_33 hB2 (zB_apart (zB_o hP) hap hk1) (fun _ _ => rfl)) hS1 hce hcv hcl
  · rw [ht] at hB
    exact kk v H1 locs1 hp (zB_33 hB (by rw [ho v]; exact zB_apart (zB_o hP) hap hk1) (fun _ _ => by rw [hw v])) hS1
/-- the row of the table that catches it -/
theorem z_hnd (hF : CallFix p m cd cc nL s args UW own) (hK : zK D tys s) {pre suf : List (Nat × Nat × Nat × Nat)} {f9 t9 hpc ct : Nat} {E : String} (htab : cd.exceptionTable.toList = tableOf (pre ++ (f9, t9, hpc, ct) :: suf)) (hpass : ∀ z ∈ pre, z.2.2.2 ≠ 0 ∧ ∃ nm : String, Cond.classLink own z.2.2.2 nm ∈ UW ∧ va_Nc E nm s)
    (hcov : covers ⟨f9, t9, hpc, ct⟩ pc = true) (h0 : ct ≠ 0) (hlink : Cond.classLink own ct E ∈ UW) (hcast : Cond.castable E E ∈ NW) {ce : Cell} {q : Addr} (hcell : H[q]? = some ce) (hv : ce.vm = .none) (hcl : s.vm.findClass E = some ce.cls)
    (kk : W p l e R s m args below meth cd H locs cells slots Q (F0 m hpc ls [.ref q])) : vx_W p l e R s m args below meth cd H locs cells slots Q (F0 m pc ls rest) q := by
  refine vx_catch (own := own) (name := E) (E := E) (x := ⟨f9, t9, hpc, ct⟩) (pre := tableOf pre) (suf := tableOf suf) hF.2.2.2.1 (by rw [htab]; simp [tableOf]) (fun z hz => ?_) hcov h0 (hF.2.2.2.2 _ hlink) (va_Nw.use rfl (hK.2 _ hcast)) hcell hv hcl kk
  obtain ⟨z0, hz0, rfl⟩ := List.mem_map.mp hz
  obtain ⟨q1, nm, q2, q3⟩ := hpass z0 hz0
  exact Or.inr ⟨q1, nm, hF.2.2.2.2 _ q2, q3⟩
end ZH
