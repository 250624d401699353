/-! loops, joins, comparisons of cells, Math, bits -/
section ZL
variable {p : Program} {l : Launch} {e : Env} {R : Room} {s : State} {m : MethodId} {args : Array Value} {below : List Frame} {meth : Method} {c : Code} {H : Heap} {locs : List Loc} {cells slots : Nat} {Q : State → Prop}
variable {cc : ByteArray} {nL pc : Nat} {own : String} {ls : Array Slot} {rest : List Value} {A : Nat → Prop} {n : Nat} {h : Nat → Nat} {D : va_G}
theorem z_loop {V : Type} {wd : V → Nat → va_E} {lv : V → List (Nat × Value)} {stk : V → List Value} {mu : V → Nat} {inv : V → Prop}
    (step : ∀ v, inv v → (∀ v', inv v' → mu v' < mu v → ∀ (H : Heap) (locs : List Loc) (ls : Array Slot), zB n h D (wd v') H → va_S A s.heap H locs → lv_has ls nL (lv v') → W p l e R s m args below meth c H locs cells slots Q (F0 m pc ls (stk v'))) →
      ∀ (H : Heap) (locs : List Loc) (ls : Array Slot), zB n h D (wd v) H → va_S A s.heap H locs → lv_has ls nL (lv v) → W p l e R s m args below meth c H locs cells slots Q (F0 m pc ls (stk v)))
    (v0 : V) (h0 : inv v0) (hP : zB n h D (wd v0) H) (hS : va_S A s.heap H locs) (hl : lv_has ls nL (lv v0)) : W p l e R s m args below meth c H locs cells slots Q (F0 m pc ls (stk v0)) := by
  have key : ∀ (k : Nat) (v : V), mu v < k → inv v → ∀ (H : Heap) (locs : List Loc) (ls : Array Slot), zB n h D (wd v) H → va_S A s.heap H locs → lv_has ls nL (lv v) → W p l e R s m args below meth c H locs cells slots Q (F0 m pc ls (stk v)) := by
    intro k
    induction k with
    | zero => intro v hk; exact absurd hk (Nat.not_lt_zero _)
    | succ k ih =>
      intro v hk hv
      exact step v hv (fun v' hv' hlt => ih v' (by omega) hv')
  exact key (mu v0 + 1) v0 (Nat.lt_succ_self _) h0 H locs ls hP hS hl
theorem z_join {V : Type} {tgt : Nat} {wd : V → Nat → va_E} {lv : V → List (Nat × Value)} {stk : V → List Value} {inv : V → Prop} {g : JFrame}
    (cont : ∀ v, inv v → ∀ (H : Heap) (locs : List Loc) (ls : Array Slot), zB n h D (wd v) H → va_S A s.heap H locs → lv_has ls nL (lv v) → W p l e R s m args below meth c H locs cells slots Q (F0 m tgt ls (stk v)))
    (main : (∀ v, inv v → ∀ (H : Heap) (locs : List Loc) (ls : Array Slot), zB n h D (wd v) H → va_S A s.heap H locs → lv_has ls nL (lv v) → W p l e R s m args below meth c H locs cells slots Q (F0 m tgt ls (stk v))) → W p l e R s m args below meth c H locs cells slots Q g) :
    W p l e R s m args below meth c H locs cells slots Q g := main cont
theorem zi_acmp_eq (hx : p.tables.exec = Jvm.exec) (hb : c.code = cc) (hz : zD A n h) {i j : Nat} {off : Int} {tgt : Nat} (hd : decode cc pc = .ok (.if_acmp .eq off, 3)) (ht : (pc : Int) + off = (tgt : Int)) (hi : i < n) (hj : j < n)
    (kt : i = j → W p l e R s m args below meth c H locs cells slots Q (F0 m tgt ls rest)) (kf : i ≠ j → W p l e R s m args below meth c H locs cells slots Q (F0 m (pc + 3) ls rest)) : W p l e R s m args below meth c H locs cells slots Q (F0 m pc ls (.ref (h j) :: .ref (h i) :: rest)) :=
  lv_acmp_eq (rx := some (h i)) (ry := some (h j)) hx hb hd ht (fun q => kt (hz.1 i j hi hj (Option.some.inj q))) (fun q => kf fun z => q (by rw [z]))
theorem zi_acmp_ne (hx : p.tables.exec = Jvm.exec) (hb : c.code = cc) (hz : zD A n h) {i j : Nat} {off : Int} {tgt : Nat} (hd : decode cc pc = .ok (.if_acmp .ne off, 3)) (ht : (pc : Int) + off = (tgt : Int)) (hi : i < n) (hj : j < n)
    (kt : i ≠ j → W p l e R s m args below meth c H locs cells slots Q (F0 m tgt ls rest)) (kf : i = j → W p l e R s m args below meth c H locs cells slots Q (F0 m (pc + 3) ls rest)) : W p l e R s m args below meth c H locs cells slots Q (F0 m pc ls (.ref (h j) :: .ref (h i) :: rest)) :=
  lv_acmp_ne (rx := some (h i)) (ry := some (h j)) hx hb hd ht (fun q => kt fun z => q (by rw [z])) (fun q => kf (hz.1 i j hi hj (Option.some.inj q)))
theorem zi_max (hF : CallFix p m c cc nL s args UW own) (hsz : ls.size = nL) {idx : Nat} (h1 : Cond.methodLink own idx Lib.Math.max.name ∈ UW) (h2 : Cond.static Lib.Math.max.name ∈ UW) (h3 : Cond.initialized "java/lang/Math" ∈ UW) (h4 : Cond.code Lib.Math.max.name Lib.Math.max.code 2 (some .int) ∈ UW)
    (hf : 1 ≤ R.frames) (hlo : (rest.map fun v => v.category).sum + 13 ≤ R.locals) (hc : cells ≤ R.cells) (hs : slots ≤ R.slots) {a b : Int} (ha : -2147483648 ≤ a ∧ a ≤ 2147483647) (hb : -2147483648 ≤ b ∧ b ≤ 2147483647) (hd : decode cc pc = .ok (.invokestatic idx, 3))
    (k : W p l e R s m args below meth c H locs cells slots Q (F0 m (pc + 3) ls (.int (iz (max a b)) :: rest))) : W p l e R s m args below meth c H locs cells slots Q (F0 m pc ls (.int (iz b) :: .int (iz a) :: rest)) := by
  refine va_mmax hF.1 hF.2.1 (hF.2.2.1.trans hsz.symm) hF.2.2.2.1 (hF.2.2.2.2 _ h1) (hF.2.2.2.2 _ h2) (hF.2.2.2.2 _ h3) (hF.2.2.2.2 _ h4) hf hlo hc hs hd ?_
  have e : (if iz a < iz b then iz b else iz a) = iz (max a b) := by
    by_cases q : a < b
    · rw [if_pos ((iz_lt ha hb).mpr q)]; congr 1; omega
    · rw [if_neg (fun z => q ((iz_lt ha hb).mp z))]; congr 1; omega
  rw [e]; exact k
theorem zi_min (hF : CallFix p m c cc nL s args UW own) (hsz : ls.size = nL) {idx : Nat} (h1 : Cond.methodLink own idx Lib.Math.min.name ∈ UW) (h2 : Cond.static Lib.Math.min.name ∈ UW) (h3 : Cond.initialized "java/lang/Math" ∈ UW) (h4 : Cond.code Lib.Math.min.name Lib.Math.min.code 2 (some .int) ∈ UW)
    (hf : 1 ≤ R.frames) (hlo : (rest.map fun v => v.category).sum + 13 ≤ R.locals) (hc : cells ≤ R.cells) (hs : slots ≤ R.slots) {a b : Int} (ha : -2147483648 ≤ a ∧ a ≤ 2147483647) (hb : -2147483648 ≤ b ∧ b ≤ 2147483647) (hd : decode cc pc = .ok (.invokestatic idx, 3))
    (k : W p l e R s m args below meth c H locs cells slots Q (F0 m (pc + 3) ls (.int (iz (min a b)) :: rest))) : W p l e R s m args below meth c H locs cells slots Q (F0 m pc ls (.int (iz b) :: .int (iz a) :: rest)) := by
  refine va_mmin hF.1 hF.2.1 (hF.2.2.1.trans hsz.symm) hF.2.2.2.1 (hF.2.2.2.2 _ h1) (hF.2.2.2.2 _ h2) (hF.2.2.2.2 _ h3) (hF.2.2.2.2 _ h4) hf hlo hc hs hd ?_
  have e : (if iz b < iz a then iz b else iz a) = iz (min a b) := by
    by_cases q : b < a
    · rw [if_pos ((iz_lt hb ha).mpr q)]; congr 1; omega
    · rw [if_neg (fun z => q ((iz_lt hb ha).mp z))]; congr 1; omega
  rw [e]; exact k
theorem zi_abs (hF : CallFix p m c cc nL s args UW own) (hsz : ls.size = nL) {idx : Nat} (h1 : Cond.methodLink own idx Lib.Math.abs.name ∈ UW) (h2 : Cond.static Lib.Math.abs.name ∈ UW) (h3 : Cond.initialized "java/lang/Math" ∈ UW) (h4 : Cond.code Lib.Math.abs.name Lib.Math.abs.code 1 (some .int) ∈ UW)
    (hf : 1 ≤ R.frames) (hlo : (rest.map fun v => v.category).sum + 13 ≤ R.locals) (hc : cells ≤ R.cells) (hs : slots ≤ R.slots) {a : Int} (ha : -2147483647 ≤ a ∧ a ≤ 2147483647) (hd : decode cc pc = .ok (.invokestatic idx, 3))
    (k : W p l e R s m args below meth c H locs cells slots Q (F0 m (pc + 3) ls (.int (iz (max a (-a))) :: rest))) : W p l e R s m args below meth c H locs cells slots Q (F0 m pc ls (.int (iz a) :: rest)) := by
  refine va_mabs hF.1 hF.2.1 (hF.2.2.1.trans hsz.symm) hF.2.2.2.1 (hF.2.2.2.2 _ h1) (hF.2.2.2.2 _ h2) (hF.2.2.2.2 _ h3) (hF.2.2.2.2 _ h4) hf hlo hc hs hd ?_
  have e : (if 0 ≤ iz a then iz a else 0 - iz a) = iz (max a (-a)) := by
    have e0 : (0 : Int32) = iz 0 := rfl
    rw [e0]
    by_cases q : 0 ≤ a
    · rw [if_pos ((iz_le iz_r0 (by omega)).mpr q)]; congr 1; omega
    · rw [if_neg (fun z => q ((iz_le iz_r0 (by omega)).mp z)), iz_sub]; congr 1; omega
  rw [e]; exact k
/-- bit operations as whole numbers -/
def ius (a b : Int) : Int := ((iz a).toUInt32 >>> ((iz b).toUInt32 &&& Int32.toUInt32 31)).toInt32.toInt
def ian (a b : Int) : Int := (iz a &&& iz b).toInt
def ior (a b : Int) : Int := (iz a ||| iz b).toInt
def ixo (a b : Int) : Int := (iz a ^^^ iz b).toInt
def ish (a b : Int) : Int := (iz a <<< (iz b &&& 31)).toInt
def isr (a b : Int) : Int := (iz a >>> (iz b &&& 31)).toInt
theorem iz_ti (x : Int32) : iz x.toInt = x := Int32.ofInt_toInt x
theorem ti_rg (x : Int32) : -2147483648 ≤ x.toInt ∧ x.toInt ≤ 2147483647 := ⟨by have := Int32.le_toInt x; omega, by have := Int32.toInt_lt x; omega⟩
theorem zi_iushr (hx : p.tables.exec = Jvm.exec) (hb : c.code = cc) {a b : Int} (hd : decode cc pc = .ok (.iushr, 1))
    (k : W p l e R s m args below meth c H locs cells slots Q (F0 m (pc + 1) ls (.int (iz (ius a b)) :: rest))) : W p l e R s m args below meth c H locs cells slots Q (F0 m pc ls (.int (iz b) :: .int (iz a) :: rest)) := lv_iushr hx hb hd (iz_ti _).symm k
theorem zi_iand (hx : p.tables.exec = Jvm.exec) (hb : c.code = cc) {a b : Int} (hd : decode cc pc = .ok (.iand, 1))
    (k : W p l e R s m args below meth c H locs cells slots Q (F0 m (pc + 1) ls (.int (iz (ian a b)) :: rest))) : W p l e R s m args below meth c H locs cells slots Q (F0 m pc ls (.int (iz b) :: .int (iz a) :: rest)) := lv_iand hx hb hd (by unfold ian at k; rw [iz_ti] at k; exact k)
theorem zi_ior (hx : p.tables.exec = Jvm.exec) (hb : c.code = cc) {a b : Int} (hd : decode cc pc = .ok (.ior, 1))
    (k : W p l e R s m args below meth c H locs cells slots Q (F0 m (pc + 1) ls (.int (iz (ior a b)) :: rest))) : W p l e R s m args below meth c H locs cells slots Q (F0 m pc ls (.int (iz b) :: .int (iz a) :: rest)) := lv_ior hx hb hd (by unfold ior at k; rw [iz_ti] at k; exact k)
theorem zi_ixor (hx : p.tables.exec = Jvm.exec) (hb : c.code = cc) {a b : Int} (hd : decode cc pc = .ok (.ixor, 1))
    (k : W p l e R s m args below meth c H locs cells slots Q (F0 m (pc + 1) ls (.int (iz (ixo a b)) :: rest))) : W p l e R s m args below meth c H locs cells slots Q (F0 m pc ls (.int (iz b) :: .int (iz a) :: rest)) := lv_ixor hx hb hd (by unfold ixo at k; rw [iz_ti] at k; exact k)
theorem zi_ishl (hx : p.tables.exec = Jvm.exec) (hb : c.code = cc) {a b : Int} (hd : decode cc pc = .ok (.ishl, 1))
    (k : W p l e R s m args below meth c H locs cells slots Q (F0 m (pc + 1) ls (.int (iz (ish a b)) :: rest))) : W p l e R s m args below meth c H locs cells slots Q (F0 m pc ls (.int (iz b) :: .int (iz a) :: rest)) := lv_ishl hx hb hd (by unfold ish at k; rw [iz_ti] at k; exact k)
theorem zi_ishr (hx : p.tables.exec = Jvm.exec) (hb : c.code = cc) {a b : Int} (hd : decode cc pc = .ok (.ishr, 1))
    (k : W p l e R s m args below meth c H locs cells slots Q (F0 m (pc + 1) ls (.int (iz (isr a b)) :: rest))) : W p l e R s m args below meth c H locs cells slots Q (F0 m pc ls (.int (iz b) :: .int (iz a) :: rest)) := lv_ishr hx hb hd (by unfold isr at k; rw [iz_ti] at k; exact k)
/-- a static method of another class of the tables -/
theorem z_runSO {y : MethodName} {cy : ByteArray} {maxL mc ms idx na : Nat} {ret : Option FieldType} {rm : Room} {Qc : Array Value → State → Outcome → State → Prop} {free : Addr → Prop} {As st0 : List Value} {tys : List (ClassId × FieldType)} {g : Nat → va_E} (hF : CallFix p m c cc nL s args UW own) (hK : zK D tys s) (hP : zB n h D g H) (hM : Met l y (Cond.code y cy maxL ret :: UW) rm (zP As n h D tys H.size g) Qc mc ms free)
    (h1 : Cond.methodLink own idx y ∈ UW) (h2 : Cond.static y ∈ UW) (h4 : Cond.initialized y.cls ∈ UW) (h5 : Cond.code y cy maxL ret ∈ UW) (hrc : rm.cells = mc) (hrs : rm.slots = ms) (hd : y.cls ≠ "java/lang/invoke/MethodHandle" ∧ y.cls ≠ "java/lang/invoke/VarHandle" ∧ (parseMethodDescriptor y.desc).map (fun d => d.parameters.length) = some na) (hR : rm.frames + 1 ≤ R.frames ∧ 8 + (maxL + 11) + rm.locals ≤ R.locals)
    (hna : As.length = na) (hsz : ls.size = nL) (hst : st0 = As.reverse ++ rest) (hW : (rest.map fun v => v.category).sum ≤ 8) (hdg : decode cc pc = .ok (.invokestatic idx, 3)) (hf : cells + mc ≤ R.cells ∧ slots + ms ≤ R.slots) :
    va_Run p l e R s m args below meth c H locs cells slots mc ms (F0 m pc ls st0) rest (Qc As.toArray) free := by
  obtain ⟨q1, q2⟩ := z_pre (As := As) hK hP
  refine va_runS hF hM (va_cwS na hF.2.2.2.2 ?_ rfl hrc hrs hd hR) ⟨q1, q2⟩ rfl hna hsz hst (by show 2 * 0 + _ ≤ 8; omega) hdg hf
  intro w hw
  simp only [va_wsS, List.mem_append, List.mem_cons, List.not_mem_nil, or_false] at hw
  rcases hw with (rfl | rfl | rfl) | (rfl | hw)
  · exact UW_gd h1
  · exact UW_gd h2
  · exact UW_gd h4
  · exact UW_gd h5
  · exact UW_gd hw
end ZL
