/-! worlds that grow: a new cell at the next place -/
def hx (h : Nat → Nat) (n q : Nat) : Nat → Nat := fun k => if k = n then q else h k
def gx (g : Nat → va_E) (n : Nat) (e : va_E) : Nat → va_E := fun k => if k = n then e else g k
theorem hx_at {h : Nat → Nat} {n q : Nat} : hx h n q n = q := if_pos rfl
theorem hx_ne {h : Nat → Nat} {n q k : Nat} (hk : k ≠ n) : hx h n q k = h k := if_neg hk
theorem gx_at {g : Nat → va_E} {n : Nat} {e : va_E} : gx g n e n = e := if_pos rfl
theorem gx_ne {g : Nat → va_E} {n k : Nat} {e : va_E} (hk : k ≠ n) : gx g n e k = g k := if_neg hk
theorem wN_snoc {n q : Nat} {h : Nat → Nat} {g : Nat → va_E} {e : va_E} : wN n h g ++ [(q, e)] = wN (n + 1) (hx h n q) (gx g n e) := by
  apply List.ext_getElem?
  intro i
  rcases Nat.lt_trichotomy i n with hi | hi | hi
  · rw [List.getElem?_append_left (by rw [wN_len]; exact hi), wN_at hi, wN_at (by omega), hx_ne (by omega), gx_ne (by omega)]
  · subst hi
    rw [List.getElem?_append_right (by rw [wN_len]; exact Nat.le_refl _), wN_len, Nat.sub_self, wN_at (by omega), hx_at, gx_at]
    rfl
  · rw [List.getElem?_eq_none (by rw [List.length_append, wN_len]; simp; omega), List.getElem?_eq_none (by rw [wN_len]; omega)]
theorem zD_of_va {A : Nat → Prop} {n : Nat} {h : Nat → Nat} {g : Nat → va_E} (hd : va_D A (wN n h g)) : zD A n h :=
  ⟨fun i j hi hj he => hd.1 i j _ _ (wN_at hi) (wN_at hj) he, fun k hk => hd.2 k _ (wN_at hk)⟩
theorem zD.mono {A B : Nat → Prop} {n : Nat} {h : Nat → Nat} (hz : zD B n h) (hAB : ∀ q, B q → A q) : zD A n h := ⟨hz.1, fun k hk => hAB _ (hz.2 k hk)⟩
theorem zD.less {A : Nat → Prop} {n n' : Nat} {h : Nat → Nat} (hz : zD A n h) (hn : n' ≤ n) : zD A n' h := ⟨fun i j hi hj => hz.1 i j (by omega) (by omega), fun k hk => hz.2 k (by omega)⟩
theorem zB_congr {n : Nat} {h h' : Nat → Nat} {D : va_G} {g g' : Nat → va_E} {H : Heap} (hP : zB n h D g H) (hh : ∀ k, k < n → h' k = h k) (hg : ∀ k, k < n → g' k = g k) : zB n h' D g' H := by
  intro k q hk
  obtain ⟨hl, rfl⟩ := wN_lt hk
  rw [hh k hl, hg k hl]
  exact hP k _ (wN_at hl)
theorem zB_less {n n' : Nat} {h : Nat → Nat} {D : va_G} {g : Nat → va_E} {H : Heap} (hP : zB n h D g H) (hn : n' ≤ n) : zB n' h D g H := by
  intro k q hk
  obtain ⟨hl, rfl⟩ := wN_lt hk
  exact hP k _ (wN_at (by omega))
theorem va_RA_inj {U : State} {a b : ClassId} {ty : FieldType} (h1 : va_RA U a ty) (h2 : va_RA U b ty) : a = b := by
  cases ty <;> first
    | exact Option.some.inj (Eq.trans (Eq.symm h1) h2)
    | (obtain ⟨_, _, _, _, _, q1⟩ := h1; obtain ⟨_, _, _, _, _, q2⟩ := h2; exact Option.some.inj (q1.symm.trans q2))
section ZN
variable {p : Program} {l : Launch} {e : Env} {R : Room} {s : State} {m : MethodId} {args : Array Value} {below : List Frame} {meth : Method} {c : Code} {H : Heap} {locs : List Loc} {cells slots : Nat} {Q : State → Prop}
variable {cc : ByteArray} {nL pc : Nat} {own : String} {ls : Array Slot} {rest : List Value} {A : Nat → Prop} {n : Nat} {h : Nat → Nat} {D : va_G} {tys : List (ClassId × FieldType)} {g : Nat → va_E}
theorem z_new (hF : CallFix p m c cc nL s args UW own) (hK : zK D tys s) (hz : zD A n h) (hA : ∀ q, s.heap.size ≤ q → A q) (hP : zB n h D g H) (hS : va_S A s.heap H locs) {C : String} {T : u_T} {N ci idx : Nat} (hin : ∀ w ∈ u_ws C T N, w ∈ UW) (ty : Nat → FieldType) (hty : ∀ k, k < N → parseFieldDescriptor (T k).2.2.1 = some (ty k))
    (hcl : Cond.classLink own idx C ∈ UW) (hinst : Cond.instantiable C N ∈ UW) (hini : Cond.initialized C ∈ UW) (hc : vwCl[ci]? = some (C, T, N)) {fs : List Value} (hfs : ∀ j, j < N → defaultValue (ty j) = vp_V fs j) (hcells : cells + 1 ≤ R.cells) (hslots : slots + N ≤ R.slots) (hd : decode cc pc = .ok (.new idx, 3))
    (kk : ∀ (q : Nat) (H1 : Heap), zB (n + 1) (hx h n q) D (gx g n (.inr (ci, fs))) H1 → zD A (n + 1) (hx h n q) → va_S A s.heap H1 locs →
      W p l e R s m args below meth c H1 locs (cells + 1) (slots + N) Q (F0 m (pc + 3) ls (.ref q :: rest))) : W p l e R s m args below meth c H locs cells slots Q (F0 m pc ls rest) :=
  va_new hF.1 hF.2.1 hF.2.2.2.2 hin ty hty hF.2.2.2.1 (hF.2.2.2.2 _ hcl) (hF.2.2.2.2 _ hinst) (hF.2.2.2.2 _ hini) hK.1 hP (hz.va g) hS hA hc hfs hcells hslots hd
    (fun q H1 h1 h2 h3 => kk q H1 (by unfold zB; rw [← wN_snoc]; exact h1) (zD_of_va (g := gx g n (.inr (ci, fs))) (by rw [← wN_snoc]; exact h2)) h3)
/-- a new row of ints (bytes, booleans) -/
theorem z_newa (hF : CallFix p m c cc nL s args UW own) (hK : zK D tys s) (hz : zD A n h) (hA : ∀ q, s.heap.size ≤ q → A q) (hP : zB n h D g H) (hS : va_S A s.heap H locs) {atype : ArrayType} (harr : Cond.arrayClass (newarray.typeOf atype) ∈ UW) {ty : FieldType} (hty : newarray.typeOf atype = ty) (t0 : Nat) {cA : ClassId} (ht : tys[t0]? = some (cA, ty))
    {z : Int} {N' : Nat} (ha : ∀ cA : ClassId, vp_cell cA (N', .inl (fun _ => 0)) = arrV cA N' (fun _ => defaultValue ty)) (hN : z = (N' : Int)) (hn : N' ≤ 1000) (hbytes : N' * componentBytes ty ≤ 536870912) (hcells : cells + 1 ≤ R.cells) (hslots : slots + N' ≤ R.slots) (hd : decode cc pc = .ok (.newarray atype, 2))
    (kk : ∀ (q : Nat) (H1 : Heap), zB (n + 1) (hx h n q) D (gx g n (.inl (cA, N', .inl (fun _ => 0)))) H1 → zD A (n + 1) (hx h n q) → va_S A s.heap H1 locs →
      W p l e R s m args below meth c H1 locs (cells + 1) (slots + N') Q (F0 m (pc + 2) ls (.ref q :: rest))) : W p l e R s m args below meth c H locs cells slots Q (F0 m pc ls (.int (iz z) :: rest)) := by
  subst hN
  refine va_newa hF.1 hF.2.1 (hF.2.2.2.2 _ harr) hty hK.1 hP (hz.va g) hS hA (a0 := (N', .inl (fun _ => 0))) ha (fun q => ?_) (by rw [iz_clamp (by omega)]; rfl) hbytes hcells hslots hd (fun q cB H1 k1 h1 h2 h3 => ?_)
  · have := (iz_lt (a := (N' : Int)) (b := 0) (by omega) (by omega)).mp q
    omega
  · have e1 : cB = cA := va_RA_inj (k1.2 tys.length (cB, ty) (by rw [List.getElem?_append_right (Nat.le_refl _), Nat.sub_self]; rfl)).2 (hK.1.2 t0 _ ht).2
    subst e1
    exact kk q H1 (by unfold zB; rw [← wN_snoc]; exact h1) (zD_of_va (g := gx g n (.inl (cB, N', .inl (fun _ => 0)))) (by rw [← wN_snoc]; exact h2)) h3
/-- a new row of references -/
theorem z_newq (hF : CallFix p m c cc nL s args UW own) (hK : zK D tys s) (hz : zD A n h) (hA : ∀ q, s.heap.size ≤ q → A q) (hP : zB n h D g H) (hS : va_S A s.heap H locs) {C : String} {idx : Nat} (hcl : Cond.classLink own idx C ∈ UW) (hover : va_AO C s) (t0 : Nat) {cA : ClassId} (ht : tys[t0]? = some (cA, .object C))
    {z : Int} {N' : Nat} (hN : z = (N' : Int)) (hn : N' ≤ 1000) (hcells : cells + 1 ≤ R.cells) (hslots : slots + N' ≤ R.slots) (hd : decode cc pc = .ok (.anewarray idx, 3))
    (kk : ∀ (q : Nat) (H1 : Heap), zB (n + 1) (hx h n q) D (gx g n (.inl (cA, N', .inr (.inr (.inr (.inr (fun _ => none))))))) H1 → zD A (n + 1) (hx h n q) → va_S A s.heap H1 locs →
      W p l e R s m args below meth c H1 locs (cells + 1) (slots + N') Q (F0 m (pc + 3) ls (.ref q :: rest))) : W p l e R s m args below meth c H locs cells slots Q (F0 m pc ls (.int (iz z) :: rest)) := by
  subst hN
  refine va_newq hF.1 hF.2.1 hF.2.2.2.1 (hF.2.2.2.2 _ hcl) hover hK.1 hP (hz.va g) hS hA (N' := N') (fun q => ?_) (by rw [iz_clamp (by omega)]; rfl) (by omega) hcells hslots hd (fun q cB H1 k1 h1 h2 h3 => ?_)
  · have := (iz_lt (a := (N' : Int)) (b := 0) (by omega) (by omega)).mp q
    omega
  · have e1 : cB = cA := va_RA_inj (k1.2 tys.length (cB, .object C) (by rw [List.getElem?_append_right (Nat.le_refl _), Nat.sub_self]; rfl)).2 (hK.1.2 t0 _ ht).2
    subst e1
    exact kk q H1 (by unfold zB; rw [← wN_snoc]; exact h1) (zD_of_va (g := gx g n (.inl (cB, N', .inr (.inr (.inr (.inr (fun _ => none))))))) (by rw [← wN_snoc]; exact h2)) h3
/-- a final field in a constructor -/
theorem z_putF (hF : CallFix p m c cc nL s args UW own) (hK : zK D tys s) (hz : zD A n h) (hP : zB n h D g H) (hS : va_S A s.heap H locs) (hmn : meth.name = "<init>") {C : String} {T : u_T} {N ci idx k : Nat} {fs : List Value} (hk : k < n) (hg : g k = .inr (ci, fs)) (hc : vwCl[ci]? = some (C, T, N)) (hin : ∀ w ∈ u_ws C T N, w ∈ UW)
    {ty0 : Nat → FieldType} (hty : ∀ k, k < N → parseFieldDescriptor (T k).2.2.1 = some (ty0 k)) (hnm : ∀ a, a < N → ∀ b, b < N → a ≠ b → (T a).2.1 ≠ (T b).2.1) (j : Nat) (hj : j < N)
    (hlink : Cond.fieldLink own idx (T j).1 (T j).2.1 (T j).2.2.1 ∈ UW) (hfin : (T j).2.2.2 = true) (hdecl : (T j).1 = own) {v : Value} (hn : narrow (ty0 j) v = v ∧ fits (ty0 j) v = true) (hl : j < fs.length) {g' : Nat → va_E} (hg' : g' k = .inr (ci, fs.set j v)) (ho : ∀ i, i < n → i ≠ k → g' i = g i) (hd : decode cc pc = .ok (.putfield idx, 3))
    (kk : ∀ (H1 : Heap) (locs1 : List Loc), zB n h D g' H1 → va_S A s.heap H1 locs1 → W p l e R s m args below meth c H1 locs1 cells slots Q (F0 m (pc + 3) ls rest)) : W p l e R s m args below meth c H locs cells slots Q (F0 m pc ls (v :: .ref (h k) :: rest)) :=
  va_putF hF.1 hF.2.1 hF.2.2.2.2 hin ty0 hty hnm hF.2.2.2.1 hK.1 hP (hz.va g) hS k (by rw [wN_at hk, hg]) hc j hj (hF.2.2.2.2 _ hlink) (fun _ q => q) hfin hmn hdecl (hty j hj) hn.1 hn.2 hl hd
    (fun H1 locs1 h1 _ h3 => kk H1 locs1 (by unfold zB; rw [← wN_set hk hg' ho]; exact h1) h3)
/-- a reference is put into a row of references -/
theorem z_aastq (hF : CallFix p m c cc nL s args UW own) (hK : zK D tys s) (hz : zD A n h) (hP : zB n h D g H) (hS : va_S A s.heap H locs) {k kv len ci N : Nat} {cA : ClassId} {C : String} {T : u_T} {fs : List Value} {f : Nat → Option Nat} (hk : k < n) (hg : g k = .inl (cA, len, .inr (.inr (.inr (.inr f))))) (t0 : Nat) (ht : tys[t0]? = some (cA, .object C))
    (hkv : kv < n) (hgv : g kv = .inr (ci, fs)) (hc : vwCl[ci]? = some (C, T, N)) {i : Int} (j : Nat) (hj : i = (j : Int)) (hlt : j < len) (hn : len ≤ 1000) {g' : Nat → va_E} (hg' : g' k = .inl (cA, len, .inr (.inr (.inr (.inr (va_up f j (some (h kv)))))))) (ho : ∀ i, i < n → i ≠ k → g' i = g i) (hd : decode cc pc = .ok (.aastore, 1))
    (kk : ∀ (H1 : Heap) (locs1 : List Loc), zB n h D g' H1 → va_S A s.heap H1 locs1 → W p l e R s m args below meth c H1 locs1 cells slots Q (F0 m (pc + 1) ls rest)) : W p l e R s m args below meth c H locs cells slots Q (F0 m pc ls (.ref (h kv) :: .int (iz i) :: .ref (h k) :: rest)) := by
  subst hj
  refine va_astq hF.1 hF.2.1 hK.1 hP (hz.va g) hS k t0 kv ci (r := (C, T, N)) (by rw [wN_at hk, hg]) ht (by rw [wN_at hkv, hgv]) hc (iz_in (by omega) (by omega)) hd ?_
  rw [iz_clamp (by omega), Int.toNat_natCast]
  exact fun H1 locs1 h1 _ h3 => kk H1 locs1 (by unfold zB; rw [← wN_set hk hg' ho]; exact h1) h3
end ZN
