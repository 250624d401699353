/-! the helpers' ends -/
section ZHR
variable {p : Program} {l : Launch} {e : Env} {R : Room} {s : State} {m : MethodId} {args : Array Value} {below : List Frame} {meth : Method} {cd : Code} {H : Heap} {locs : List Loc} {cells slots : Nat} {Q : State → Prop}
variable {cc : ByteArray} {nL pc : Nat} {own : String} {ls : Array Slot} {A : Nat → Prop} {h : Nat → Nat} {D : va_G} {c : Nat → ClassId} {cL : ClassId} {u : SS} {K tgt t1 t2 : Nat} {off o1 o2 : Int}
theorem z_hI {P : Int → SS → Prop} {z : Int} (hF : CallFix p m cd cc nL s args UW own) (hr : meth.sig.returnType = some .int) (hlocks : meth.locks = false) (hK : zK D (gTL c cL) s) (hz : zD A 33 h) (hP : zB 33 h D (gL c cL h u) H) (hS : va_S A s.heap H locs) (hc : cells ≤ K) (hs : slots ≤ 6 * K)
    (d0 : decode cc pc = .ok (.i2l, 1)) (d1 : decode cc (pc + 1) = .ok (.lastore, 1)) (d2 : decode cc (pc + 2) = .ok (.goto off, 3)) (ht : ((pc + 2 : Nat) : Int) + off = (tgt : Int)) (d3 : decode cc tgt = .ok (.iconst 0, 1)) (d4 : decode cc (tgt + 1) = .ok (.ireturn, 1)) (hp : P 0 (u.1, u.2.1, u.2.2.1, cvI z)) :
    W p l e R s m args below meth cd H locs cells slots (MQ below (va_Qi (fun r (u : Int × SS) => r = iz u.1 ∧ P u.1 u.2) (fun u t => zB 33 h D (gL c cL h u.2) t.heap) A) args s K (6 * K) A) (F0 m pc ls [.int (iz z), .int (iz 0), .ref (h 32)]) := by
  refine lv_i2l hF.1 hF.2.1 d0 (v := cvI z) rfl ?_
  refine z_last hF hK hz hP hS d1 (fun H1 locs1 hP hS => ?_)
  refine lv_goto hF.1 hF.2.1 d2 ht ?_
  refine zi_const hF.1 hF.2.1 d3 ?_
  exact z_sreti (w := gL c cL h) (P := P) hF hr hlocks hP hS hc hs rfl hp d4
theorem z_hB {P : Int → SS → Prop} {z : Int} (hF : CallFix p m cd cc nL s args UW own) (hr : meth.sig.returnType = some .int) (hlocks : meth.locks = false) (hK : zK D (gTL c cL) s) (hz : zD A 33 h) (hP : zB 33 h D (gL c cL h u) H) (hS : va_S A s.heap H locs) (hc : cells ≤ K) (hs : slots ≤ 6 * K)
    (d0 : decode cc pc = .ok (.ifCond .eq o1, 3)) (h1 : (pc : Int) + o1 = (t1 : Int)) (d3 : decode cc (pc + 3) = .ok (.lconst 1, 1)) (d4 : decode cc (pc + 4) = .ok (.goto o2, 3)) (h2 : ((pc + 4 : Nat) : Int) + o2 = (t2 : Int)) (d7 : decode cc t1 = .ok (.lconst 0, 1)) (d8 : decode cc (t1 + 1) = .ok (.lastore, 1)) (d9 : decode cc (t1 + 2) = .ok (.goto off, 3)) (ht : ((t1 + 2 : Nat) : Int) + off = (tgt : Int)) (d10 : decode cc tgt = .ok (.iconst 0, 1)) (d11 : decode cc (tgt + 1) = .ok (.ireturn, 1)) (h3 : t2 = t1 + 1 := by decide) (hp : P 0 (u.1, u.2.1, u.2.2.1, cvB z)) :
    W p l e R s m args below meth cd H locs cells slots (MQ below (va_Qi (fun r (u : Int × SS) => r = iz u.1 ∧ P u.1 u.2) (fun u t => zB 33 h D (gL c cL h u.2) t.heap) A) args s K (6 * K) A) (F0 m pc ls [.int (iz z), .int (iz 0), .ref (h 32)]) := by
  subst h3
  have k8 : ∀ x : Int64, x = cvB z → W p l e R s m args below meth cd H locs cells slots (MQ below (va_Qi (fun r (u : Int × SS) => r = iz u.1 ∧ P u.1 u.2) (fun u t => zB 33 h D (gL c cL h u.2) t.heap) A) args s K (6 * K) A) (F0 m (t1 + 1) ls [.long x, .int (iz 0), .ref (h 32)]) := fun x hx => by
    refine z_last hF hK hz hP hS d8 (fun H1 locs1 hP hS => ?_)
    refine lv_goto hF.1 hF.2.1 d9 ht ?_
    refine zi_const hF.1 hF.2.1 d10 ?_
    exact z_sreti (w := gL c cL h) (P := P) hF hr hlocks hP hS hc hs rfl (by rw [hx]; exact hp) d11
  refine lv_if_eq hF.1 hF.2.1 d0 h1 (fun q => ?_) (fun q => ?_)
  · refine lv_lconst hF.1 hF.2.1 d7 (v := 0) rfl ?_
    exact k8 0 (by unfold cvB; rw [if_pos q])
  · refine lv_lconst hF.1 hF.2.1 d3 (v := 1) rfl ?_
    refine lv_goto hF.1 hF.2.1 d4 h2 ?_
    exact k8 1 (by unfold cvB; rw [if_neg q])
end ZHR
