/-! rows over written numbers -/
section LT
variable {p : Program} {l : Launch} {e : Env} {R : Room} {s : State} {m : MethodId} {args : Array Value} {below : List Frame} {meth : Method} {c : Code} {H : Heap} {locs : List Loc} {cells slots : Nat} {Q : State → Prop}
variable {cc : ByteArray} {pc : Nat} {ls : Array Slot} {rest : List Value} {nL : Nat}
theorem zl_ldc (hF : CallFix p m c cc nL s args UW RL) {idx : Nat} {x : Int32} {n : Int} (hw : Cond.constant RL idx x ∈ UW) (hv : x = iz n) (hd : decode cc pc = .ok (.ldc idx, 2))
    (k : W p l e R s m args below meth c H locs cells slots Q (F0 m (pc + 2) ls (.int (iz n) :: rest))) : W p l e R s m args below meth c H locs cells slots Q (F0 m pc ls rest) := by
  subst hv
  exact lv_ldc hF.1 hF.2.1 hF.2.2.2.1 (hF.2.2.2.2 _ hw) hd k
theorem zl_add (hx : p.tables.exec = Jvm.exec) (hb : c.code = cc) {a b v : Int} (hv : a + b = v) (hd : decode cc pc = .ok (.iadd, 1))
    (k : W p l e R s m args below meth c H locs cells slots Q (F0 m (pc + 1) ls (.int (iz v) :: rest))) : W p l e R s m args below meth c H locs cells slots Q (F0 m pc ls (.int (iz b) :: .int (iz a) :: rest)) := by subst hv; exact zi_add hx hb hd k
theorem zl_sub (hx : p.tables.exec = Jvm.exec) (hb : c.code = cc) {a b v : Int} (hv : a - b = v) (hd : decode cc pc = .ok (.isub, 1))
    (k : W p l e R s m args below meth c H locs cells slots Q (F0 m (pc + 1) ls (.int (iz v) :: rest))) : W p l e R s m args below meth c H locs cells slots Q (F0 m pc ls (.int (iz b) :: .int (iz a) :: rest)) := by subst hv; exact zi_sub hx hb hd k
theorem zl_mul (hx : p.tables.exec = Jvm.exec) (hb : c.code = cc) {a b v : Int} (hv : a * b = v) (hd : decode cc pc = .ok (.imul, 1))
    (k : W p l e R s m args below meth c H locs cells slots Q (F0 m (pc + 1) ls (.int (iz v) :: rest))) : W p l e R s m args below meth c H locs cells slots Q (F0 m pc ls (.int (iz b) :: .int (iz a) :: rest)) := by subst hv; exact zi_mul hx hb hd k
theorem zl_neg (hx : p.tables.exec = Jvm.exec) (hb : c.code = cc) {a v : Int} (hv : -a = v) (hd : decode cc pc = .ok (.ineg, 1))
    (k : W p l e R s m args below meth c H locs cells slots Q (F0 m (pc + 1) ls (.int (iz v) :: rest))) : W p l e R s m args below meth c H locs cells slots Q (F0 m pc ls (.int (iz a) :: rest)) := by
  subst hv
  exact lv_ineg hx hb hd (by rw [iz_neg]; exact k)
theorem zl_rem (hx : p.tables.exec = Jvm.exec) (hb : c.code = cc) {a b v : Int} (ha : 0 ≤ a ∧ a ≤ 2147483647) (hb0 : 0 < b ∧ b ≤ 2147483647) (hv : a % b = v) (hd : decode cc pc = .ok (.irem, 1))
    (k : W p l e R s m args below meth c H locs cells slots Q (F0 m (pc + 1) ls (.int (iz v) :: rest))) : W p l e R s m args below meth c H locs cells slots Q (F0 m pc ls (.int (iz b) :: .int (iz a) :: rest)) := by subst hv; exact zi_rem hx hb hd ha hb0 k
theorem zl_div (hx : p.tables.exec = Jvm.exec) (hb : c.code = cc) {a b v : Int} (ha : 0 ≤ a ∧ a ≤ 2147483647) (hb0 : 0 < b ∧ b ≤ 2147483647) (hv : a / b = v) (hd : decode cc pc = .ok (.idiv, 1))
    (k : W p l e R s m args below meth c H locs cells slots Q (F0 m (pc + 1) ls (.int (iz v) :: rest))) : W p l e R s m args below meth c H locs cells slots Q (F0 m pc ls (.int (iz b) :: .int (iz a) :: rest)) := by subst hv; exact zi_div hx hb hd ha hb0 k
theorem zl_i2c (hx : p.tables.exec = Jvm.exec) (hb : c.code = cc) {a v : Int} (hv : ((iz a).toUInt32 % 65536).toInt32 = iz v) (hd : decode cc pc = .ok (.i2c, 1))
    (k : W p l e R s m args below meth c H locs cells slots Q (F0 m (pc + 1) ls (.int (iz v) :: rest))) : W p l e R s m args below meth c H locs cells slots Q (F0 m pc ls (.int (iz a) :: rest)) := lv_i2c hx hb hd hv k
end LT
/-- what stands at the entry of a method of the law that catches nothing -/
theorem zGM_of {l : Launch} {y : MethodName} {cy : ByteArray} {maxL : Nat} {ret : Option FieldType} {rm : Room} {av : List Value} {h : Nat → Nat} {D : va_G} {c : Nat → ClassId} {g : Nat → va_E} {Qc : Nat → Array Value → State → Outcome → State → Prop} {mc ms : Nat}
    (hy : plainName y.cls = true) (hyR : y.cls = RL) (hn : (lg_sl av).length ≤ maxL) (hinj : ∀ i j, i < 32 → j < 32 → h i = h j → i = j)
    (body : ∀ (p : Program) (e : Env) (s : State) (m : MethodId) (below : List Frame) (meth : Method) (cd : Code) (ls : Array Slot), CX p m cd cy maxL s av.toArray h D c (zA 32 h s.heap.size) → meth.sig.returnType = ret → meth.locks = false → zB 32 h D g s.heap → lv_has ls maxL (lv_args 0 av) →
      W p l e rm s m av.toArray below meth cd s.heap [] 0 0 (MQ below (Qc s.heap.size) av.toArray s mc ms (zA 32 h s.heap.size)) (F0 m 0 ls [])) :
    ∀ sz, Met l y (Cond.code y cy maxL ret :: UW) rm (zPE zNCx av 32 h D (gT c) sz g) (Qc sz) mc ms (zA 32 h sz) := by
  refine zEM_of (Ex := zNCx) hy hn ?_
  intro p e s m below meth cd ls ⟨hF, hr, hlocks, hK, hX⟩ hN hP hl
  rw [hyR] at hF
  exact body p e s m below meth cd ls ⟨hF, hK, hX, hN, zD.self hinj _, zA_new⟩ hr hlocks hP hl
