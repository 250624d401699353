/-! calls of a superclass's own method; statics that a method reads -/
theorem gIn_SU {own : String} {idx maxL : Nat} {y : MethodName} {cy : ByteArray} {ret : Option FieldType} (h1 : Cond.methodLink own idx y ∈ UW) (h2 : Cond.sameMethod y.cls y.cls y.name y.desc ∈ UW) (h3 : Cond.superclass own y.cls ∈ UW) (h4 : Cond.instanceMethod y ∈ UW) (h5 : Cond.initialized y.cls ∈ UW) (h6 : Cond.code y cy maxL ret ∈ UW) :
    GoodIn UW (va_wsSU own idx y (.code y cy maxL ret :: UW)) := by
  intro w hw
  simp only [va_wsSU, List.mem_append, List.mem_cons, List.not_mem_nil, or_false] at hw
  rcases hw with (rfl | rfl | rfl | rfl | rfl) | (rfl | hw)
  · exact UW_gd h1
  · exact UW_gd h2
  · exact UW_gd h3
  · exact UW_gd h4
  · exact UW_gd h5
  · exact UW_gd h6
  · exact UW_gd hw
section ZSU
variable {p : Program} {l : Launch} {e : Env} {R : Room} {s : State} {m : MethodId} {args : Array Value} {below : List Frame} {meth : Method} {c : Code} {H : Heap} {locs : List Loc} {cells slots : Nat} {Q : State → Prop}
variable {cc : ByteArray} {nL pc : Nat} {own : String} {ls : Array Slot} {rest : List Value} {A : Nat → Prop} {n : Nat} {h : Nat → Nat} {D : va_G} {tys : List (ClassId × FieldType)} {g : Nat → va_E}
variable {y : MethodName} {cy : ByteArray} {maxL mc ms idx na : Nat} {ret : Option FieldType} {rm : Room} {Qc : Array Value → State → Outcome → State → Prop} {free : Addr → Prop} {As : List Value} {st0 : List Value} {b : Nat} {C : String}
theorem z_runSU (hF : CallFix p m c cc nL s args UW own) (hK : zK D tys s) (hP : zB n h D g H) (hM : Met l y (Cond.code y cy maxL ret :: UW) rm (zP (.ref b :: As) n h D tys H.size g) Qc mc ms free)
    (hG : GoodIn UW (va_wsSU own idx y (Cond.code y cy maxL ret :: UW))) (hrc : rm.cells = mc) (hrs : rm.slots = ms) (hd : y.name ≠ "<init>" ∧ (parseMethodDescriptor y.desc).map (fun d => d.parameters.length) = some na) (hR : rm.frames + 1 ≤ R.frames ∧ 8 + (maxL + 11) + rm.locals ≤ R.locals)
    {k ci N : Nat} {T : u_T} {fs : List Value} (hk : k < n) (hbk : b = h k) (hg : g k = .inr (ci, fs)) (hc : vwCl[ci]? = some (C, T, N))
    (hna : As.length = na) (hsz : ls.size = nL) (hst : st0 = As.reverse ++ .ref b :: rest) (hW : (rest.map fun v => v.category).sum ≤ 8) (hdg : decode cc pc = .ok (.invokespecial idx, 3)) (hf : cells + mc ≤ R.cells ∧ slots + ms ≤ R.slots) :
    va_Run p l e R s m args below meth c H locs cells slots mc ms (F0 m pc ls st0) rest (Qc (Value.ref b :: As).toArray) free := by
  obtain ⟨h1, h2⟩ := z_pre (As := .ref b :: As) hK hP
  subst hbk
  exact va_runSU (hK.1.1 _ _ hc).2 hF hM (va_cwSU na hF.2.2.2.2 hG rfl hrc hrs hd hR) ⟨h1, va_recv hK.1 hP hc (by rw [wN_at hk, hg]), h2⟩ rfl hna hsz hst (by show 2 * 0 + _ ≤ 8; omega) hdg hf
end ZSU
theorem sm_sup : Cond.superclass RJ4 RJ5 ∈ UW := UW_mem (by decide +kernel) (by decide +kernel)
theorem sm_len : Cond.sameMethod RJ5 RJ5 "length" "()I" ∈ UW := UW_mem (by decide +kernel) (by decide +kernel)
theorem sm_app : Cond.sameMethod RJ5 RJ5 "append" "(C)Ljava/lang/AbstractStringBuilder;" ∈ UW := UW_mem (by decide +kernel) (by decide +kernel)
theorem sm_set : Cond.sameMethod RJ5 RJ5 "setLength" "(I)V" ∈ UW := UW_mem (by decide +kernel) (by decide +kernel)
section ZSU2
variable {p : Program} {l : Launch} {e : Env} {R : Room} {s : State} {m : MethodId} {args : Array Value} {below : List Frame} {meth : Method} {c : Code} {H : Heap} {locs : List Loc} {cells slots : Nat} {Q : State → Prop}
variable {cc : ByteArray} {nL pc : Nat} {own : String} {ls : Array Slot} {rest : List Value} {A : Nat → Prop}
theorem z_compact (hF : CallFix p m c cc nL s args UW own) (hX : zX A s s.heap) (hS : va_S A s.heap H locs) {idx : Nat} (hlink : Cond.fieldLink own idx "java/lang/String" "COMPACT_STRINGS" "Z" ∈ UW) (hd : decode cc pc = .ok (.getstatic idx, 3))
    (kk : W p l e R s m args below meth c H locs cells slots Q (F0 m (pc + 3) ls (.int (iz 1) :: rest))) : W p l e R s m args below meth c H locs cells slots Q (F0 m pc ls rest) :=
  va_gets hF.1 hF.2.1 hX.2.2.2.1 hS hF.2.2.2.1 (hF.2.2.2.2 _ hlink) (fun _ q => q) hd kk
end ZSU2
