/-! a world of a fixed shape: n cells at h 0 .. h (n-1), what each holds by a function -/
abbrev vwCl : List vw_C := [(RJ0, TJ0, 4), (RJ4, TJ4, 4), (RJx00060, TJx00060, 6), (RJx7c733, TJx7c733, 6), (RX0, TX0, 9), (RX1, TX1, 3), (RX3, TX3, 14)]
def wN (n : Nat) (h : Nat → Nat) (g : Nat → va_E) : va_W := (List.range n).map (fun k => (h k, g k))
theorem wN_at {n k : Nat} {h : Nat → Nat} {g : Nat → va_E} (hk : k < n) : (wN n h g)[k]? = some (h k, g k) := by
  unfold wN
  rw [List.getElem?_map, List.getElem?_range hk]
  rfl
theorem wN_len {n : Nat} {h : Nat → Nat} {g : Nat → va_E} : (wN n h g).length = n := by simp [wN]
theorem wN_lt {n k : Nat} {h : Nat → Nat} {g : Nat → va_E} {q : Nat × va_E} (h1 : (wN n h g)[k]? = some q) : k < n ∧ q = (h k, g k) := by
  have hl := (List.getElem?_eq_some_iff.mp h1).1
  rw [wN_len] at hl
  rw [wN_at hl] at h1
  exact ⟨hl, (Option.some.inj h1).symm⟩
theorem wN_set {n k : Nat} {h : Nat → Nat} {g g' : Nat → va_E} {e : va_E} (hk : k < n) (he : g' k = e) (ho : ∀ j, j < n → j ≠ k → g' j = g j) : (wN n h g).set k (h k, e) = wN n h g' := by
  apply List.ext_getElem?
  intro i
  by_cases hi : i < n
  · by_cases hik : i = k
    · subst hik
      rw [List.getElem?_set_self (by rw [wN_len]; exact hk), wN_at hk, he]
    · rw [List.getElem?_set_ne (Ne.symm hik), wN_at hi, wN_at hi, ho i hi hik]
  · rw [List.getElem?_eq_none (by rw [List.length_set, wN_len]; omega), List.getElem?_eq_none (by rw [wN_len]; omega)]
def zD (A : Nat → Prop) (n : Nat) (h : Nat → Nat) : Prop := (∀ i j, i < n → j < n → h i = h j → i = j) ∧ ∀ k, k < n → A (h k)
theorem zD.va {A : Nat → Prop} {n : Nat} {h : Nat → Nat} (hz : zD A n h) (g : Nat → va_E) : va_D A (wN n h g) :=
  ⟨fun i j p q hp hq he => by
    obtain ⟨hi, rfl⟩ := wN_lt hp
    obtain ⟨hj, rfl⟩ := wN_lt hq
    exact hz.1 i j hi hj he, fun k q hq => by
    obtain ⟨hk, rfl⟩ := wN_lt hq
    exact hz.2 k hk⟩
def zA (n : Nat) (h : Nat → Nat) (sz : Nat) : Nat → Prop := fun q => (∃ k, k < n ∧ h k = q) ∨ sz ≤ q
theorem zD.self {n : Nat} {h : Nat → Nat} (hi : ∀ i j, i < n → j < n → h i = h j → i = j) (sz : Nat) : zD (zA n h sz) n h := ⟨hi, fun k hk => Or.inl ⟨k, hk, rfl⟩⟩
theorem zA_new {n : Nat} {h : Nat → Nat} {sz : Nat} : ∀ q, sz ≤ q → zA n h sz q := fun _ h => Or.inr h
theorem zA_sub {A : Nat → Prop} {n : Nat} {h : Nat → Nat} {H0 H : Heap} {locs : List Loc} (hz : zD A n h) (hA : ∀ q, H0.size ≤ q → A q) (hS : va_S A H0 H locs) : ∀ q, zA n h H.size q → A q := by
  rintro q (⟨k, hk, rfl⟩ | hq)
  · exact hz.2 k hk
  · exact hA q (Nat.le_trans hS.1 hq)
def zK (D : va_G) (tys : List (ClassId × FieldType)) (U : State) : Prop := va_K D vwCl tys U ∧ ∀ w ∈ NW, va_Nw w U
theorem zK.warm {D : va_G} {tys : List (ClassId × FieldType)} {s U : State} (hW : s.WarmedH U.vm) (h : zK D tys s) : zK D tys U := ⟨va_K.moved hW.alike h.1, fun w hw => NW_warm (NW_is hw) hW (h.2 w hw)⟩
theorem zK.same {D : va_G} {tys : List (ClassId × FieldType)} {s U : State} (hv : s.vm = U.vm) (h : zK D tys s) : zK D tys U := ⟨va_K.moved (by rw [hv]; exact Vm.Alike.refl U.vm) h.1, fun w hw => va_Nw.same (NW_on (NW_is hw)) hv (h.2 w hw)⟩
def zB (n : Nat) (h : Nat → Nat) (D : va_G) (g : Nat → va_E) (H : Heap) : Prop := va_P D vwCl (wN n h g) H
def zP (av : List Value) (n : Nat) (h : Nat → Nat) (D : va_G) (tys : List (ClassId × FieldType)) (sz : Nat) (g : Nat → va_E) : Array Value → State → Prop := va_Pc av (fun U => U.heap.size = sz ∧ zB n h D g U.heap ∧ zK D tys U)
theorem zP_blind {av : List Value} {n : Nat} {h : Nat → Nat} {D : va_G} {tys : List (ClassId × FieldType)} {sz : Nat} {g : Nat → va_E} : FrameBlind (zP av n h D tys sz g) := fun a U f mk q => by
  obtain ⟨h0, h1, h2, h3⟩ := q
  exact ⟨h0, h1, h2, zK.same (s := U) (U := U.calling f mk a) rfl h3⟩
/-- a method that returns an int (a boolean), in a world of n cells; it makes none -/
def zMi {S : Type} (l : Launch) (y : MethodName) (cy : ByteArray) (maxL : Nat) (ret : Option FieldType) (fr lo : Nat) (av : List Value) (n : Nat) (h : Nat → Nat) (D : va_G) (tys : List (ClassId × FieldType)) (g : Nat → va_E) (w : S → Nat → va_E) (P : Int → S → Prop) : Prop :=
  ∀ sz, Met l y (Cond.code y cy maxL ret :: UW) { frames := fr, cells := 0, slots := 0, locals := lo } (zP av n h D tys sz g) (va_Qi (fun r (u : Int × S) => r = iz u.1 ∧ P u.1 u.2) (fun u t => zB n h D (w u.2) t.heap) (zA n h sz)) 0 0 (zA n h sz)
def zMv {S : Type} (l : Launch) (y : MethodName) (cy : ByteArray) (maxL : Nat) (ret : Option FieldType) (fr lo : Nat) (av : List Value) (n : Nat) (h : Nat → Nat) (D : va_G) (tys : List (ClassId × FieldType)) (g : Nat → va_E) (w : S → Nat → va_E) (P : S → Prop) : Prop :=
  ∀ sz, Met l y (Cond.code y cy maxL ret :: UW) { frames := fr, cells := 0, slots := 0, locals := lo } (zP av n h D tys sz g) (va_Qv (fun u : S => P u) (fun u t => zB n h D (w u) t.heap) (zA n h sz)) 0 0 (zA n h sz)
def zMq {S : Type} (l : Launch) (y : MethodName) (cy : ByteArray) (maxL : Nat) (ret : Option FieldType) (fr lo : Nat) (av : List Value) (n : Nat) (h : Nat → Nat) (D : va_G) (tys : List (ClassId × FieldType)) (g : Nat → va_E) (w : S → Nat → va_E) (P : Option Nat → S → Prop) : Prop :=
  ∀ sz, Met l y (Cond.code y cy maxL ret :: UW) { frames := fr, cells := 0, slots := 0, locals := lo } (zP av n h D tys sz g) (va_Qq (fun r (u : Option Nat × S) => r = u.1.map h ∧ P u.1 u.2) (fun u t => zB n h D (w u.2) t.heap) (zA n h sz)) 0 0 (zA n h sz)
/-- what stands at a method's entry -/
def zE (p : Program) (s : State) (m : MethodId) (meth : Method) (c : Code) (y : MethodName) (cy : ByteArray) (maxL : Nat) (ret : Option FieldType) (av : List Value) (D : va_G) (tys : List (ClassId × FieldType)) : Prop :=
  CallFix p m c cy maxL s av.toArray UW y.cls ∧ meth.sig.returnType = ret ∧ meth.locks = false ∧ zK D tys s
theorem zM_of {l : Launch} {y : MethodName} {cy : ByteArray} {maxL : Nat} {ret : Option FieldType} {rm : Room} {av : List Value} {n : Nat} {h : Nat → Nat} {D : va_G} {tys : List (ClassId × FieldType)} {g : Nat → va_E} {Qc : Nat → Array Value → State → Outcome → State → Prop} {mc ms : Nat}
    (hy : plainName y.cls = true) (hn : (lg_sl av).length ≤ maxL)
    (body : ∀ (p : Program) (e : Env) (s : State) (m : MethodId) (below : List Frame) (meth : Method) (c : Code) (ls : Array Slot), zE p s m meth c y cy maxL ret av D tys → zB n h D g s.heap → lv_has ls maxL (lv_args 0 av) →
      W p l e rm s m av.toArray below meth c s.heap [] 0 0 (MQ below (Qc s.heap.size) av.toArray s mc ms (zA n h s.heap.size)) (F0 m 0 ls [])) :
    ∀ sz, Met l y (Cond.code y cy maxL ret :: UW) rm (zP av n h D tys sz g) (Qc sz) mc ms (zA n h sz) := by
  intro sz
  refine Met.ofW (cc := cy) (maxL := maxL) (ret := ret) hy rfl ?_
  intro p e s m args below meth c s₁ B hml hv
  obtain ⟨rfl, hsz, hP, hK⟩ := hv
  subst hsz
  rw [lg_entry_eq]
  exact body p e s m below meth c _ ⟨⟨B.exec, B.bytes, hml, findClass_of_methodNamed B.named, fun w hw => atoms_spec (ws := _ :: UW) B.pre w (List.mem_cons_of_mem _ hw)⟩, B.returns, B.notSynchronized, hK⟩ hP (lv_entry av hn)
section ZW
variable {p : Program} {l : Launch} {e : Env} {R : Room} {s : State} {m : MethodId} {args : Array Value} {below : List Frame} {meth : Method} {c : Code} {H : Heap} {locs : List Loc} {cells slots : Nat} {Q : State → Prop}
variable {cc : ByteArray} {nL pc : Nat} {own : String} {ls : Array Slot} {rest : List Value} {A : Nat → Prop} {n : Nat} {h : Nat → Nat} {D : va_G} {tys : List (ClassId × FieldType)} {g : Nat → va_E}
theorem z_get (hF : CallFix p m c cc nL s args UW own) (hK : zK D tys s) (hP : zB n h D g H) {C : String} {T : u_T} {N ci idx k : Nat} {fs : List Value} (hk : k < n) (hg : g k = .inr (ci, fs)) (hc : vwCl[ci]? = some (C, T, N)) (hin : ∀ w ∈ u_ws C T N, w ∈ UW) (j : Nat) (hj : j < N)
    (hlink : Cond.fieldLink own idx (T j).1 (T j).2.1 (T j).2.2.1 ∈ UW) {v : Value} (hv : fs[j]? = some v) (hd : decode cc pc = .ok (.getfield idx, 3))
    (kk : W p l e R s m args below meth c H locs cells slots Q (F0 m (pc + 3) ls (v :: rest))) : W p l e R s m args below meth c H locs cells slots Q (F0 m pc ls (.ref (h k) :: rest)) :=
  va_get hF.1 hF.2.1 hF.2.2.2.2 hin hF.2.2.2.1 hK.1 hP k (by rw [wN_at hk, hg]) hc j hj (hF.2.2.2.2 _ hlink) (fun _ q => q) hv hd kk
theorem z_getN (hF : CallFix p m c cc nL s args UW own) (hK : zK D tys s) (hP : zB n h D g H) {C host : String} {T : u_T} {N ci idx k : Nat} {fs : List Value} (hk : k < n) (hg : g k = .inr (ci, fs)) (hc : vwCl[ci]? = some (C, T, N)) (hin : ∀ w ∈ u_ws C T N, w ∈ UW) (j : Nat) (hj : j < N)
    (hlink : Cond.fieldLinkNest own idx (T j).1 (T j).2.1 (T j).2.2.1 host ∈ NW) {v : Value} (hv : fs[j]? = some v) (hd : decode cc pc = .ok (.getfield idx, 3))
    (kk : W p l e R s m args below meth c H locs cells slots Q (F0 m (pc + 3) ls (v :: rest))) : W p l e R s m args below meth c H locs cells slots Q (F0 m pc ls (.ref (h k) :: rest)) :=
  va_getN hF.1 hF.2.1 hF.2.2.2.2 hin hF.2.2.2.1 hK.1 hP k (by rw [wN_at hk, hg]) hc j hj (va_Nw.use rfl (hK.2 _ hlink)) (fun _ q => q) hv hd kk
theorem z_put (hF : CallFix p m c cc nL s args UW own) (hK : zK D tys s) (hz : zD A n h) (hP : zB n h D g H) (hS : va_S A s.heap H locs) {C : String} {T : u_T} {N ci idx k : Nat} {fs : List Value} (hk : k < n) (hg : g k = .inr (ci, fs)) (hc : vwCl[ci]? = some (C, T, N)) (hin : ∀ w ∈ u_ws C T N, w ∈ UW)
    {ty0 : Nat → FieldType} (hty : ∀ k, k < N → parseFieldDescriptor (T k).2.2.1 = some (ty0 k)) (hnm : ∀ a, a < N → ∀ b, b < N → a ≠ b → (T a).2.1 ≠ (T b).2.1) (j : Nat) (hj : j < N)
    (hlink : Cond.fieldLink own idx (T j).1 (T j).2.1 (T j).2.2.1 ∈ UW) (hfin : (T j).2.2.2 = false) {v : Value} (hn : narrow (ty0 j) v = v ∧ fits (ty0 j) v = true) (hl : j < fs.length) {g' : Nat → va_E} (hg' : g' k = .inr (ci, fs.set j v)) (ho : ∀ i, i < n → i ≠ k → g' i = g i) (hd : decode cc pc = .ok (.putfield idx, 3))
    (kk : ∀ (H1 : Heap) (locs1 : List Loc), zB n h D g' H1 → va_S A s.heap H1 locs1 → W p l e R s m args below meth c H1 locs1 cells slots Q (F0 m (pc + 3) ls rest)) : W p l e R s m args below meth c H locs cells slots Q (F0 m pc ls (v :: .ref (h k) :: rest)) :=
  va_put hF.1 hF.2.1 hF.2.2.2.2 hin ty0 hty hnm hF.2.2.2.1 hK.1 hP (hz.va g) hS k (by rw [wN_at hk, hg]) hc j hj (hF.2.2.2.2 _ hlink) (fun _ q => q) hfin (hty j hj) hn.1 hn.2 hl hd
    (fun H1 locs1 h1 _ h3 => kk H1 locs1 (by unfold zB; rw [← wN_set hk hg' ho]; exact h1) h3)
theorem z_putN (hF : CallFix p m c cc nL s args UW own) (hK : zK D tys s) (hz : zD A n h) (hP : zB n h D g H) (hS : va_S A s.heap H locs) {C host : String} {T : u_T} {N ci idx k : Nat} {fs : List Value} (hk : k < n) (hg : g k = .inr (ci, fs)) (hc : vwCl[ci]? = some (C, T, N)) (hin : ∀ w ∈ u_ws C T N, w ∈ UW)
    {ty0 : Nat → FieldType} (hty : ∀ k, k < N → parseFieldDescriptor (T k).2.2.1 = some (ty0 k)) (hnm : ∀ a, a < N → ∀ b, b < N → a ≠ b → (T a).2.1 ≠ (T b).2.1) (j : Nat) (hj : j < N)
    (hlink : Cond.fieldLinkNest own idx (T j).1 (T j).2.1 (T j).2.2.1 host ∈ NW) (hfin : (T j).2.2.2 = false) {v : Value} (hn : narrow (ty0 j) v = v ∧ fits (ty0 j) v = true) (hl : j < fs.length) {g' : Nat → va_E} (hg' : g' k = .inr (ci, fs.set j v)) (ho : ∀ i, i < n → i ≠ k → g' i = g i) (hd : decode cc pc = .ok (.putfield idx, 3))
    (kk : ∀ (H1 : Heap) (locs1 : List Loc), zB n h D g' H1 → va_S A s.heap H1 locs1 → W p l e R s m args below meth c H1 locs1 cells slots Q (F0 m (pc + 3) ls rest)) : W p l e R s m args below meth c H locs cells slots Q (F0 m pc ls (v :: .ref (h k) :: rest)) :=
  va_putN hF.1 hF.2.1 hF.2.2.2.2 hin ty0 hty hnm hF.2.2.2.1 hK.1 hP (hz.va g) hS k (by rw [wN_at hk, hg]) hc j hj (va_Nw.use rfl (hK.2 _ hlink)) (fun _ q => q) hfin (hty j hj) hn.1 hn.2 hl hd
    (fun H1 locs1 h1 _ h3 => kk H1 locs1 (by unfold zB; rw [← wN_set hk hg' ho]; exact h1) h3)
theorem z_iald (hF : CallFix p m c cc nL s args UW own) (hK : zK D tys s) (hP : zB n h D g H) {k len : Nat} {cA : ClassId} {f : Nat → Int32} (hk : k < n) (hg : g k = .inl (cA, len, .inl f)) (t0 : Nat) (ht : tys[t0]? = some (cA, .int)) {i : Int} (j : Nat) (hj : i = (j : Int)) (hlt : j < len) (hn : len ≤ 1000) {x : Int32} (hx : f j = x) (hd : decode cc pc = .ok (.iaload, 1))
    (kk : W p l e R s m args below meth c H locs cells slots Q (F0 m (pc + 1) ls (.int x :: rest))) : W p l e R s m args below meth c H locs cells slots Q (F0 m pc ls (.int (iz i) :: .ref (h k) :: rest)) := by
  subst hj hx
  refine va_iald hF.1 hF.2.1 hK.1 hP k t0 (by rw [wN_at hk, hg]) ht (iz_in (by omega) (by omega)) hd ?_
  rw [iz_clamp (by omega), Int.toNat_natCast]
  exact kk
theorem z_zald (hF : CallFix p m c cc nL s args UW own) (hK : zK D tys s) (hP : zB n h D g H) {k len : Nat} {cA : ClassId} {f : Nat → Int32} (hk : k < n) (hg : g k = .inl (cA, len, .inl f)) (t0 : Nat) (ht : tys[t0]? = some (cA, .boolean)) {i : Int} (j : Nat) (hj : i = (j : Int)) (hlt : j < len) (hn : len ≤ 1000) {x : Int32} (hx : f j = x) (hd : decode cc pc = .ok (.baload, 1))
    (kk : W p l e R s m args below meth c H locs cells slots Q (F0 m (pc + 1) ls (.int x :: rest))) : W p l e R s m args below meth c H locs cells slots Q (F0 m pc ls (.int (iz i) :: .ref (h k) :: rest)) := by
  subst hj hx
  refine va_zald hF.1 hF.2.1 hK.1 hP k t0 (by rw [wN_at hk, hg]) ht (iz_in (by omega) (by omega)) hd ?_
  rw [iz_clamp (by omega), Int.toNat_natCast]
  exact kk
theorem z_aald (hF : CallFix p m c cc nL s args UW own) (hK : zK D tys s) (hP : zB n h D g H) {k len : Nat} {cA : ClassId} {C : String} {f : Nat → Option Nat} (hk : k < n) (hg : g k = .inl (cA, len, .inr (.inr (.inr (.inr f))))) (t0 : Nat) (ht : tys[t0]? = some (cA, .object C)) {i : Int} (j : Nat) (hj : i = (j : Int)) (hlt : j < len) (hn : len ≤ 1000) {a : Nat} (hx : f j = some a) (hd : decode cc pc = .ok (.aaload, 1))
    (kk : W p l e R s m args below meth c H locs cells slots Q (F0 m (pc + 1) ls (.ref a :: rest))) : W p l e R s m args below meth c H locs cells slots Q (F0 m pc ls (.int (iz i) :: .ref (h k) :: rest)) := by
  subst hj
  refine va_aldq hF.1 hF.2.1 hK.1 hP k t0 (by rw [wN_at hk, hg]) ht (iz_in (by omega) (by omega)) hd ?_
  rw [iz_clamp (by omega), Int.toNat_natCast, hx]
  exact kk
theorem z_iast (hF : CallFix p m c cc nL s args UW own) (hK : zK D tys s) (hz : zD A n h) (hP : zB n h D g H) (hS : va_S A s.heap H locs) {k len : Nat} {cA : ClassId} {f : Nat → Int32} (hk : k < n) (hg : g k = .inl (cA, len, .inl f)) (t0 : Nat) (ht : tys[t0]? = some (cA, .int)) {i : Int} (j : Nat) (hj : i = (j : Int)) (hlt : j < len) (hn : len ≤ 1000) {x : Int32} {g' : Nat → va_E} (hg' : g' k = .inl (cA, len, .inl (upd f j x))) (ho : ∀ i, i < n → i ≠ k → g' i = g i) (hd : decode cc pc = .ok (.iastore, 1))
    (kk : ∀ (H1 : Heap) (locs1 : List Loc), zB n h D g' H1 → va_S A s.heap H1 locs1 → W p l e R s m args below meth c H1 locs1 cells slots Q (F0 m (pc + 1) ls rest)) : W p l e R s m args below meth c H locs cells slots Q (F0 m pc ls (.int x :: .int (iz i) :: .ref (h k) :: rest)) := by
  subst hj
  refine va_iast hF.1 hF.2.1 hK.1 hP (hz.va g) hS k t0 (by rw [wN_at hk, hg]) ht (iz_in (by omega) (by omega)) hd ?_
  rw [iz_clamp (by omega), Int.toNat_natCast]
  exact fun H1 locs1 h1 _ h3 => kk H1 locs1 (by unfold zB; rw [← wN_set hk hg' ho]; exact h1) h3
theorem z_zast (hF : CallFix p m c cc nL s args UW own) (hK : zK D tys s) (hz : zD A n h) (hP : zB n h D g H) (hS : va_S A s.heap H locs) {k len : Nat} {cA : ClassId} {f : Nat → Int32} (hk : k < n) (hg : g k = .inl (cA, len, .inl f)) (t0 : Nat) (ht : tys[t0]? = some (cA, .boolean)) {i : Int} (j : Nat) (hj : i = (j : Int)) (hlt : j < len) (hn : len ≤ 1000) {x : Int} (hx : 0 ≤ x ∧ x ≤ 1) {g' : Nat → va_E} (hg' : g' k = .inl (cA, len, .inl (upd f j (iz x)))) (ho : ∀ i, i < n → i ≠ k → g' i = g i) (hd : decode cc pc = .ok (.bastore, 1))
    (kk : ∀ (H1 : Heap) (locs1 : List Loc), zB n h D g' H1 → va_S A s.heap H1 locs1 → W p l e R s m args below meth c H1 locs1 cells slots Q (F0 m (pc + 1) ls rest)) : W p l e R s m args below meth c H locs cells slots Q (F0 m pc ls (.int (iz x) :: .int (iz i) :: .ref (h k) :: rest)) := by
  subst hj
  refine va_zast hF.1 hF.2.1 hK.1 hP (hz.va g) hS k t0 (by rw [wN_at hk, hg]) ht (iz_in (by omega) (by omega)) hd ?_
  have e : vp_nar .boolean (iz x) = iz x := by
    unfold vp_nar
    rw [(iz_nar_z hx).1]
  rw [iz_clamp (by omega), Int.toNat_natCast, e]
  exact fun H1 locs1 h1 _ h3 => kk H1 locs1 (by unfold zB; rw [← wN_set hk hg' ho]; exact h1) h3
theorem z_alen (hF : CallFix p m c cc nL s args UW own) (hK : zK D tys s) (hP : zB n h D g H) {k : Nat} {cA : ClassId} {x : vp_A} {ty : FieldType} (hk : k < n) (hg : g k = .inl (cA, x)) (t0 : Nat) (ht : tys[t0]? = some (cA, ty)) {z : Int} (hv : (x.1 : Int) = z) (hd : decode cc pc = .ok (.arraylength, 1))
    (kk : W p l e R s m args below meth c H locs cells slots Q (F0 m (pc + 1) ls (.int (iz z) :: rest))) : W p l e R s m args below meth c H locs cells slots Q (F0 m pc ls (.ref (h k) :: rest)) :=
  va_alen hF.1 hF.2.1 hK.1 hP k t0 (by rw [wN_at hk, hg]) ht (v := iz z) (by rw [← hv]; exact iz_nI x.1) hd kk
variable {y : MethodName} {cy : ByteArray} {maxL mc ms idx na : Nat} {ret : Option FieldType} {rm : Room} {Qc : Array Value → State → Outcome → State → Prop} {free : Addr → Prop} {As : List Value} {st0 : List Value} {b : Nat} {C host : String}
theorem z_pre {As : List Value} (hK : zK D tys s) (hP : zB n h D g H) : FrameBlind (zP As n h D tys H.size g) ∧ ∀ U : State, U.heap = H → s.WarmedH U.vm → zP As n h D tys H.size g As.toArray U :=
  ⟨zP_blind, fun U hU hW => ⟨rfl, by rw [hU], by rw [hU]; exact hP, hK.warm hW⟩⟩
/-- an own virtual method -/
theorem z_runV (hF : CallFix p m c cc nL s args UW own) (hK : zK D tys s) (hP : zB n h D g H) (hM : Met l y (Cond.code y cy maxL ret :: UW) rm (zP (.ref b :: As) n h D tys H.size g) Qc mc ms free)
    (hG : GoodIn UW (wsV own idx C y (Cond.code y cy maxL ret :: UW))) (hrc : rm.cells = mc) (hrs : rm.slots = ms) (hd : y.cls = C ∧ y.cls ≠ "java/lang/invoke/MethodHandle" ∧ y.cls ≠ "java/lang/invoke/VarHandle" ∧ (parseMethodDescriptor y.desc).map (fun d => d.parameters.length) = some na) (hR : rm.frames + 1 ≤ R.frames ∧ 8 + (maxL + 11) + rm.locals ≤ R.locals)
    {k ci N : Nat} {T : u_T} {fs : List Value} (hk : k < n) (hbk : b = h k) (hg : g k = .inr (ci, fs)) (hc : vwCl[ci]? = some (C, T, N))
    (hna : As.length = na) (hsz : ls.size = nL) (hst : st0 = As.reverse ++ .ref b :: rest) (hW : (rest.map fun v => v.category).sum ≤ 8) (hdg : decode cc pc = .ok (.invokevirtual idx, 3)) (hf : cells + mc ≤ R.cells ∧ slots + ms ≤ R.slots) :
    va_Run p l e R s m args below meth c H locs cells slots mc ms (F0 m pc ls st0) rest (Qc (Value.ref b :: As).toArray) free := by
  obtain ⟨h1, h2⟩ := z_pre (As := .ref b :: As) hK hP
  subst hbk
  exact va_runV hF hM (cwV na hF.2.2.2.2 hG rfl hrc hrs hd hR) ⟨h1, va_recv hK.1 hP hc (by rw [wN_at hk, hg]), h2⟩ rfl hna hsz hst (by show 2 * 0 + _ ≤ 8; omega) hdg hf
/-- a private method of a nest mate -/
theorem z_runVN (hF : CallFix p m c cc nL s args UW own) (hK : zK D tys s) (hP : zB n h D g H) (hM : Met l y (Cond.code y cy maxL ret :: UW) rm (zP (.ref b :: As) n h D tys H.size g) Qc mc ms free)
    (hG : Cond.code y cy maxL ret ∈ UW) (hl : Cond.methodLinkNest own idx y host ∈ NW) (hini : Cond.initialized y.cls ∈ UW) (hin : Cond.instanceMethod y ∈ UW) (hse : Cond.selects C y y ∈ UW) (hrc : rm.cells = mc) (hrs : rm.slots = ms) (hd : y.cls ≠ "java/lang/invoke/MethodHandle" ∧ y.cls ≠ "java/lang/invoke/VarHandle" ∧ (parseMethodDescriptor y.desc).map (fun d => d.parameters.length) = some na) (hR : rm.frames + 1 ≤ R.frames ∧ 8 + (maxL + 11) + rm.locals ≤ R.locals)
    {k ci N : Nat} {T : u_T} {fs : List Value} (hk : k < n) (hbk : b = h k) (hg : g k = .inr (ci, fs)) (hc : vwCl[ci]? = some (C, T, N))
    (hna : As.length = na) (hsz : ls.size = nL) (hst : st0 = As.reverse ++ .ref b :: rest) (hW : (rest.map fun v => v.category).sum ≤ 8) (hdg : decode cc pc = .ok (.invokevirtual idx, 3)) (hf : cells + mc ≤ R.cells ∧ slots + ms ≤ R.slots) :
    va_Run p l e R s m args below meth c H locs cells slots mc ms (F0 m pc ls st0) rest (Qc (Value.ref b :: As).toArray) free := by
  obtain ⟨h1, h2⟩ := z_pre (As := .ref b :: As) hK hP
  subst hbk
  exact va_runVN hF hM ⟨va_cnB na hF.2.2.2.2 (gIn_C hG) rfl hrc hrs (hK.2 _ hl) (hF.2.2.2.2 _ hini) hd hR, hF.2.2.2.2 _ hin, hF.2.2.2.2 _ hse⟩ ⟨h1, va_recv hK.1 hP hc (by rw [wN_at hk, hg]), h2⟩ rfl hna hsz hst (by show 2 * 0 + _ ≤ 8; omega) hdg hf
/-- an own static method -/
theorem z_runS (hF : CallFix p m c cc nL s args UW own) (hK : zK D tys s) (hP : zB n h D g H) (hM : Met l y (Cond.code y cy maxL ret :: UW) rm (zP As n h D tys H.size g) Qc mc ms free)
    (hG : GoodIn UW (wsS own idx y (Cond.code y cy maxL ret :: UW))) (hrc : rm.cells = mc) (hrs : rm.slots = ms) (hd : y.cls = own ∧ y.cls ≠ "java/lang/invoke/MethodHandle" ∧ y.cls ≠ "java/lang/invoke/VarHandle" ∧ (parseMethodDescriptor y.desc).map (fun d => d.parameters.length) = some na) (hR : rm.frames + 1 ≤ R.frames ∧ 8 + (maxL + 11) + rm.locals ≤ R.locals)
    (hna : As.length = na) (hsz : ls.size = nL) (hst : st0 = As.reverse ++ rest) (hW : (rest.map fun v => v.category).sum ≤ 8) (hdg : decode cc pc = .ok (.invokestatic idx, 3)) (hf : cells + mc ≤ R.cells ∧ slots + ms ≤ R.slots) :
    va_Run p l e R s m args below meth c H locs cells slots mc ms (F0 m pc ls st0) rest (Qc As.toArray) free := by
  obtain ⟨h1, h2⟩ := z_pre (As := As) hK hP
  exact va_runS hF hM (cwS na hF.2.2.2.2 hG rfl hrc hrs hd hR) ⟨h1, h2⟩ rfl hna hsz hst (by show 2 * 0 + _ ≤ 8; omega) hdg hf
variable {a : Array Value} {S : Type} {w : S → Nat → va_E}
theorem z_ci {P : Int → S → Prop} (hr : va_Run p l e R s m args below meth c H locs cells slots 0 0 (F0 m pc ls st0) rest (va_Qi (fun r (u : Int × S) => r = iz u.1 ∧ P u.1 u.2) (fun u t => zB n h D (w u.2) t.heap) (zA n h H.size) a) (zA n h H.size)) (hz : zD A n h) (hA : ∀ q, s.heap.size ≤ q → A q) (hS : va_S A s.heap H locs)
    (kk : ∀ (z : Int) (u : S) (H1 : Heap) (locs1 : List Loc), P z u → zB n h D (w u) H1 → va_S A s.heap H1 locs1 → W p l e R s m args below meth c H1 locs1 cells slots Q (F0 m (pc + 3) ls (.int (iz z) :: rest))) : W p l e R s m args below meth c H locs cells slots Q (F0 m pc ls st0) := by
  refine va_calli hr hS (fun q _ hq => zA_sub hz hA hS q hq) (zA_sub hz hA hS) (fun r u t H1 locs1 ht hvm hw hB hz1 hk1 hS1 => ?_)
  obtain ⟨z, u⟩ := u
  obtain ⟨rfl, hp⟩ := hw
  rw [ht] at hB
  exact kk z u H1 locs1 hp hB hS1
theorem z_cv {P : S → Prop} (hr : va_Run p l e R s m args below meth c H locs cells slots 0 0 (F0 m pc ls st0) rest (va_Qv (fun u : S => P u) (fun u t => zB n h D (w u) t.heap) (zA n h H.size) a) (zA n h H.size)) (hz : zD A n h) (hA : ∀ q, s.heap.size ≤ q → A q) (hS : va_S A s.heap H locs)
    (kk : ∀ (u : S) (H1 : Heap) (locs1 : List Loc), P u → zB n h D (w u) H1 → va_S A s.heap H1 locs1 → W p l e R s m args below meth c H1 locs1 cells slots Q (F0 m (pc + 3) ls rest)) : W p l e R s m args below meth c H locs cells slots Q (F0 m pc ls st0) := by
  refine va_callv hr hS (fun q _ hq => zA_sub hz hA hS q hq) (zA_sub hz hA hS) (fun u t H1 locs1 ht hvm hw hB hz1 hk1 hS1 => ?_)
  rw [ht] at hB
  exact kk u H1 locs1 hw hB hS1
theorem z_cq {P : Option Nat → S → Prop} (hr : va_Run p l e R s m args below meth c H locs cells slots 0 0 (F0 m pc ls st0) rest (va_Qq (fun r (u : Option Nat × S) => r = u.1.map h ∧ P u.1 u.2) (fun u t => zB n h D (w u.2) t.heap) (zA n h H.size) a) (zA n h H.size)) (hz : zD A n h) (hA : ∀ q, s.heap.size ≤ q → A q) (hS : va_S A s.heap H locs)
    (kk : ∀ (r : Option Nat) (u : S) (H1 : Heap) (locs1 : List Loc), P r u → zB n h D (w u) H1 → va_S A s.heap H1 locs1 → W p l e R s m args below meth c H1 locs1 cells slots Q (F0 m (pc + 3) ls (va_rf (r.map h) :: rest))) : W p l e R s m args below meth c H locs cells slots Q (F0 m pc ls st0) := by
  refine va_callq hr hS (fun q _ hq => zA_sub hz hA hS q hq) (zA_sub hz hA hS) (fun r u t H1 locs1 ht hvm hw hB hz1 hk1 hS1 => ?_)
  obtain ⟨z, u⟩ := u
  obtain ⟨rfl, hp⟩ := hw
  rw [ht] at hB
  exact kk z u H1 locs1 hp hB hS1
theorem z_reti {P : Int → S → Prop} {z : Int} {u : S} {ty : FieldType} (hF : CallFix p m c cc nL s args UW own) (hr : meth.sig.returnType = some ty) (hlocks : meth.locks = false) (hP : zB n h D (w u) H) (hS : va_S A s.heap H locs) (hn : narrow ty (.int (iz z)) = .int (iz z)) (hp : P z u) (hd : decode cc pc = .ok (.ireturn, 1)) :
    W p l e R s m args below meth c H locs 0 0 (MQ below (va_Qi (fun r (u : Int × S) => r = iz u.1 ∧ P u.1 u.2) (fun u t => zB n h D (w u.2) t.heap) A) args s 0 0 A) (F0 m pc ls [.int (iz z)]) :=
  W.zret hF.1 hF.2.1 hr hn (fun t ht hW => ⟨⟨iz z, (z, u), rfl, ⟨rfl, hp⟩, (by show zB _ _ _ _ t.heap; rw [ht]; exact hP)⟩, hS.F ht⟩) hS.2.2 hd hlocks
theorem z_retv {P : S → Prop} {u : S} (hF : CallFix p m c cc nL s args UW own) (hr : meth.sig.returnType = none) (hlocks : meth.locks = false) (hP : zB n h D (w u) H) (hS : va_S A s.heap H locs) (hp : P u) (hd : decode cc pc = .ok (.return_, 1)) :
    W p l e R s m args below meth c H locs 0 0 (MQ below (va_Qv (fun u : S => P u) (fun u t => zB n h D (w u) t.heap) A) args s 0 0 A) (F0 m pc ls []) :=
  W.vret hF.1 hF.2.1 hr (fun t ht hW => ⟨⟨u, rfl, hp, (by show zB _ _ _ _ t.heap; rw [ht]; exact hP)⟩, hS.F ht⟩) hS.2.2 hd hlocks
theorem z_retq {P : Option Nat → S → Prop} {r : Option Nat} {u : S} {nm : String} {v : Value} (hF : CallFix p m c cc nL s args UW own) (hr : meth.sig.returnType = some (.object nm)) (hlocks : meth.locks = false) (hP : zB n h D (w u) H) (hS : va_S A s.heap H locs) (hv : v = va_rf (r.map h)) (hp : P r u) (hd : decode cc pc = .ok (.areturn, 1)) :
    W p l e R s m args below meth c H locs 0 0 (MQ below (va_Qq (fun r (u : Option Nat × S) => r = u.1.map h ∧ P u.1 u.2) (fun u t => zB n h D (w u.2) t.heap) A) args s 0 0 A) (F0 m pc ls [v]) := by
  subst hv
  exact W.aret hF.1 hF.2.1 hr (Or.inl ⟨nm, rfl⟩) (by cases r with
    | none => exact Or.inl rfl
    | some k => exact Or.inr ⟨h k, rfl⟩) (fun t ht hW => ⟨⟨r.map h, (r, u), rfl, ⟨rfl, hp⟩, (by show zB _ _ _ _ t.heap; rw [ht]; exact hP)⟩, hS.F ht⟩) hS.2.2 hd hlocks
end ZW
