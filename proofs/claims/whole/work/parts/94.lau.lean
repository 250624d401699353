/-! the law's own steps -/
def xZ (xs : Nat → Int32) (j : Nat) : Int := (xs j).toInt
theorem xZ_iz (xs : Nat → Int32) (j : Nat) : xs j = iz (xZ xs j) := (Int32.ofInt_toInt _).symm
theorem i32_rg (x : Int32) : -2147483648 ≤ x.toInt ∧ x.toInt ≤ 2147483647 := ⟨by have := Int32.le_toInt x; omega, by have := Int32.toInt_lt x; omega⟩
theorem xZ_rg (xs : Nat → Int32) (j : Nat) : -2147483648 ≤ xZ xs j ∧ xZ xs j ≤ 2147483647 := i32_rg _
section ZLW
variable {p : Program} {l : Launch} {e : Env} {R : Room} {s : State} {m : MethodId} {args : Array Value} {below : List Frame} {meth : Method} {cd : Code} {H : Heap} {locs : List Loc} {cells slots : Nat} {Q : State → Prop}
variable {cc : ByteArray} {nL pc : Nat} {own : String} {ls : Array Slot} {rest : List Value} {A : Nat → Prop} {n n' : Nat} {h h' : Nat → Nat} {D : va_G} {tys : List (ClassId × FieldType)} {g g' : Nat → va_E} {c : Nat → ClassId} {cL : ClassId} {u : SS}
variable {y : MethodName} {cy : ByteArray} {maxL mc ms idx na k K : Nat} {rm : Room} {Qc : Array Value → State → Outcome → State → Prop} {free : Addr → Prop} {As : List Value} {st0 : List Value} {b : Nat} {hh : List (Nat × Nat × Nat × Nat)} {a : Array Value} {S : Type} {w : S → Nat → va_E}
/-- a helper is called -/
theorem z_lrunH (hF : CallFix p m cd cc nL s args UW own) (hK : zK D tys s) (hX : zX A s s.heap) (hN : zNcs s) (hz : zD A n h) (hA : ∀ q, s.heap.size ≤ q → A q) (hP : zB n h D g H) (hS : va_S A s.heap H locs) (hM : Met l y (Cond.codeWith y cy maxL (some .int) hh :: UW) rm (zPE zNCx As n h D tys H.size g) Qc mc ms free)
    (h1 : Cond.methodLink own idx y ∈ UW) (h2 : Cond.static y ∈ UW) (h4 : Cond.initialized y.cls ∈ UW) (h5 : Cond.codeWith y cy maxL (some .int) hh ∈ UW) (hrc : rm.cells = mc) (hrs : rm.slots = ms) (hd : y.cls ≠ "java/lang/invoke/MethodHandle" ∧ y.cls ≠ "java/lang/invoke/VarHandle" ∧ (parseMethodDescriptor y.desc).map (fun d => d.parameters.length) = some na) (hR : rm.frames + 1 ≤ R.frames ∧ 8 + (maxL + 11) + rm.locals ≤ R.locals)
    (hna : As.length = na) (hsz : ls.size = nL) (hst : st0 = As.reverse ++ rest) (hW : (rest.map fun v => v.category).sum ≤ 8) (hdg : decode cc pc = .ok (.invokestatic idx, 3)) (hf : cells + mc ≤ R.cells ∧ slots + ms ≤ R.slots) :
    va_Run p l e R s m args below meth cd H locs cells slots mc ms (F0 m pc ls st0) rest (Qc As.toArray) free := by
  refine vx_runSW hF hM (vx_cwSW (hh := hh) (bytes := cy) (maxL := maxL) (ret := some .int) na hF.2.2.2.2 ?_ rfl hrc hrs hd hR) (z_preE zNc_st hK hX hN hz hA hP hS) rfl hna hsz hst (by show 2 * 0 + _ ≤ 8; omega) hdg hf
  intro w hw
  simp only [va_wsS, List.mem_append, List.mem_cons, List.not_mem_nil, or_false] at hw
  rcases hw with (rfl | rfl | rfl) | (rfl | hw)
  · exact UW_gd h1
  · exact UW_gd h2
  · exact UW_gd h4
  · exact UW_gd h5
  · exact UW_gd hw
/-- what comes back, and what stays beside it -/
theorem z_lci {P : Int → S → Prop} (hr : va_Run p l e R s m args below meth cd H locs cells slots mc ms (F0 m pc ls st0) rest (va_Qi (fun r (u : Int × S) => r = iz u.1 ∧ P u.1 u.2) (fun u t => zB n h D (w u.2) t.heap) (zA n h H.size) a) (zA n h H.size)) (hz : zD A n h) (hA : ∀ q, s.heap.size ≤ q → A q) (hS : va_S A s.heap H locs) (hP' : zB n' h' D g' H) (hap : ∀ i j, i < n → j < n' → h i ≠ h' j)
    (kk : ∀ (z : Int) (u : S) (H1 : Heap) (locs1 : List Loc), P z u → zB n h D (w u) H1 → zB n' h' D g' H1 → va_S A s.heap H1 locs1 → W p l e R s m args below meth cd H1 locs1 (cells + mc) (slots + ms) Q (F0 m (pc + 3) ls (.int (iz z) :: rest))) : W p l e R s m args below meth cd H locs cells slots Q (F0 m pc ls st0) := by
  refine va_calli hr hS (fun q _ hq => zA_sub hz hA hS q hq) (zA_sub hz hA hS) (fun r u t H1 locs1 ht hvm hw hB hz1 hk1 hS1 => ?_)
  obtain ⟨z, u⟩ := u
  obtain ⟨rfl, hp⟩ := hw
  rw [ht] at hB
  exact kk z u H1 locs1 hp hB (zB_apart hP' hap hk1) hS1
theorem z_lcv {P : S → Prop} (hr : va_Run p l e R s m args below meth cd H locs cells slots mc ms (F0 m pc ls st0) rest (va_Qv (fun u : S => P u) (fun u t => zB n h D (w u) t.heap) (zA n h H.size) a) (zA n h H.size)) (hz : zD A n h) (hA : ∀ q, s.heap.size ≤ q → A q) (hS : va_S A s.heap H locs) (hP' : zB n' h' D g' H) (hap : ∀ i j, i < n → j < n' → h i ≠ h' j)
    (kk : ∀ (u : S) (H1 : Heap) (locs1 : List Loc), P u → zB n h D (w u) H1 → zB n' h' D g' H1 → va_S A s.heap H1 locs1 → W p l e R s m args below meth cd H1 locs1 (cells + mc) (slots + ms) Q (F0 m (pc + 3) ls rest)) : W p l e R s m args below meth cd H locs cells slots Q (F0 m pc ls st0) := by
  refine va_callv hr hS (fun q _ hq => zA_sub hz hA hS q hq) (zA_sub hz hA hS) (fun u t H1 locs1 ht hvm hw hB hz1 hk1 hS1 => ?_)
  rw [ht] at hB
  exact kk u H1 locs1 hw hB (zB_apart hP' hap hk1) hS1
/-- a method of the class that doesn't throw -/
theorem z_lc3 {P : Int → S → Prop} (hr : va_Run p l e R s m args below meth cd H locs cells slots mc ms (F0 m pc ls st0) rest (va_Qi (fun r (u : Int × S) => r = iz u.1 ∧ P u.1 u.2) (fun u t => zB 32 h D (w u.2) t.heap) (zA 32 h H.size) a) (zA 32 h H.size)) (hz : zD A 33 h) (hA : ∀ q, s.heap.size ≤ q → A q) (hS : va_S A s.heap H locs) (hP : zB 33 h D (gL c cL h u) H) (hP' : zB 17 h' D g' H) (hap : ∀ i j, i < 33 → j < 17 → h i ≠ h' j) (wu : S → SS) (hw : ∀ v : S, w v = gC c h (wu v).1 (wu v).2.1 (wu v).2.2.1) (ho : ∀ v : S, (wu v).2.2.2 = u.2.2.2)
    (kk : ∀ (z : Int) (v : S) (H1 : Heap) (locs1 : List Loc), P z v → zB 33 h D (gL c cL h (wu v)) H1 → zB 17 h' D g' H1 → va_S A s.heap H1 locs1 → W p l e R s m args below meth cd H1 locs1 (cells + mc) (slots + ms) Q (F0 m (pc + 3) ls (.int (iz z) :: rest))) : W p l e R s m args below meth cd H locs cells slots Q (F0 m pc ls st0) := by
  have hz2 : zD A 32 h := hz.less (by decide)
  have hap1 : ∀ i j, i < 32 → j < 1 → h i ≠ (fun _ : Nat => h 32) j := fun i j hi _ q => by
    have := hz.1 i 32 (by omega) (by decide) q
    omega
  refine va_calli hr hS (fun q _ hq => zA_sub hz2 hA hS q hq) (zA_sub hz2 hA hS) (fun r v t H1 locs1 ht hvm hw9 hB hz1 hk1 hS1 => ?_)
  obtain ⟨z, v⟩ := v
  obtain ⟨rfl, hp⟩ := hw9
  have hB : zB 32 h D (w v) t.heap := hB
  rw [ht] at hB
  exact kk z v H1 locs1 hp (zB_33 hB (by rw [ho v]; exact zB_apart (zB_o hP) hap1 hk1) (fun _ _ => by rw [hw v])) (zB_apart hP' (fun i j hi hj => hap i j (by omega) hj) hk1) hS1
theorem z_lald (hF : CallFix p m cd cc nL s args UW own) (hK : zK D (gTL c cL) s) (hP : zB 33 h D (gL c cL h u) H) (hd : decode cc pc = .ok (.laload, 1))
    (kk : W p l e R s m args below meth cd H locs cells slots Q (F0 m (pc + 1) ls (.long u.2.2.2 :: rest))) : W p l e R s m args below meth cd H locs cells slots Q (F0 m pc ls (.int (iz 0) :: .ref (h 32) :: rest)) :=
  va_lald hF.1 hF.2.1 hK.1 hP 32 5 (cA := cL) (n := 1) (f := fun j => if j = 0 then u.2.2.2 else 0) (by rw [wN_at (by decide), gL_32]; rfl) rfl (iz_in (by decide) (by decide)) hd (by rw [show (iz 0).toNatClampNeg = 0 from rfl, if_pos rfl]; exact kk)
/-- an int of the script -/
theorem z_sld (hF : CallFix p m cd cc nL s args UW own) {L : Nat} {xs : Nat → Int32} (hXs : va_X b L xs s s.heap) (hbl : b < s.heap.size) (hbA : ¬ A b) (hL : L ≤ 4096) (hS : va_S A s.heap H locs) {z : Int} (j : Nat) (hj : z = (j : Int)) (hlt : j < L) (hd : decode cc pc = .ok (.iaload, 1))
    (kk : W p l e R s m args below meth cd H locs cells slots Q (F0 m (pc + 1) ls (.int (iz (xZ xs j)) :: rest))) : W p l e R s m args below meth cd H locs cells slots Q (F0 m pc ls (.int (iz z) :: .ref b :: rest)) := by
  subst hj
  refine va_sld hF.1 hF.2.1 hXs hbl hbA hS (iz_in (by omega) (by omega)) hd ?_
  rw [iz_clamp (by omega), Int.toNat_natCast, xZ_iz xs j]
  exact kk
theorem z_arg (hF : CallFix p m cd cc nL s args UW own) {L : Nat} {xs : Nat → Int32} (hXs : va_X b L xs s s.heap) (hbl : b < s.heap.size) (hbA : ¬ A b) (hL : L ≤ 4096) (hS : va_S A s.heap H locs) {i j : Nat} (hi : i + 8 ≤ L) (hj : j < 8) {q1 : Int} (hq : q1 = (j : Int)) (h0 : ls[0]? = some (.val (.ref b))) (h4 : ls[4]? = some (.val (.int (iz (i : Int)))))
    (d0 : decode cc pc = .ok (.aload_n 0, 1)) (d1 : decode cc (pc + 1) = .ok (.iload 4, 2)) (d3 : decode cc (pc + 3) = .ok (.iconst q1, 1)) (d4 : decode cc (pc + 4) = .ok (.iadd, 1)) (d5 : decode cc (pc + 5) = .ok (.iaload, 1))
    (kk : W p l e R s m args below meth cd H locs cells slots Q (F0 m (pc + 6) ls (.int (iz (xZ xs (i + j))) :: rest))) : W p l e R s m args below meth cd H locs cells slots Q (F0 m pc ls rest) := by
  refine lv_aload_n hF.1 hF.2.1 d0 rfl h0 ?_
  refine lv_iload hF.1 hF.2.1 d1 h4 ?_
  refine zi_const hF.1 hF.2.1 d3 ?_
  refine zi_add hF.1 hF.2.1 d4 ?_
  exact z_sld hF hXs hbl hbA hL hS (i + j) (by omega) (by omega) d5 kk
theorem z_argb (hF : CallFix p m cd cc nL s args UW own) {L : Nat} {xs : Nat → Int32} (hXs : va_X b L xs s s.heap) (hbl : b < s.heap.size) (hbA : ¬ A b) (hL : L ≤ 4096) (hS : va_S A s.heap H locs) {i j : Nat} (hi : i + 8 ≤ L) (hj : j < 8) {q1 : Int} (hq : q1 = (j : Int)) (hv : (Int8.ofInt q1).toInt32 = iz q1) (h0 : ls[0]? = some (.val (.ref b))) (h4 : ls[4]? = some (.val (.int (iz (i : Int)))))
    (d0 : decode cc pc = .ok (.aload_n 0, 1)) (d1 : decode cc (pc + 1) = .ok (.iload 4, 2)) (d3 : decode cc (pc + 3) = .ok (.bipush q1, 2)) (d4 : decode cc (pc + 5) = .ok (.iadd, 1)) (d5 : decode cc (pc + 6) = .ok (.iaload, 1))
    (kk : W p l e R s m args below meth cd H locs cells slots Q (F0 m (pc + 7) ls (.int (iz (xZ xs (i + j))) :: rest))) : W p l e R s m args below meth cd H locs cells slots Q (F0 m pc ls rest) := by
  refine lv_aload_n hF.1 hF.2.1 d0 rfl h0 ?_
  refine lv_iload hF.1 hF.2.1 d1 h4 ?_
  refine zi_bipush hF.1 hF.2.1 d3 hv ?_
  refine zi_add hF.1 hF.2.1 d4 ?_
  exact z_sld hF hXs hbl hbA hL hS (i + j) (by omega) (by omega) d5 kk
variable {τ κm : Nat → Nat → Int} {t t2 tgt : Nat} {o1 o2 o3 o4 : Int} {kz zb : Int}
/-- the reference's number is the helper's -/
theorem z_thr (hF : CallFix p m cd cc nL s args UW RL) (hK : zK D (gTL c cL) s) (hz : zD A 33 h) (hz' : zD A 17 h') (hap : ∀ i j, i < 33 → j < 17 → h i ≠ h' j) (hA : ∀ q, s.heap.size ≤ q → A q) (hP : zB 33 h D (gL c cL h u) H) (hP' : zB 17 h' D (mC c h' τ κm) H) (hS : va_S A s.heap H locs) (hR : 2 ≤ R.frames ∧ 30 ≤ R.locals) (hf : cells ≤ R.cells ∧ slots ≤ R.slots) (hsz : ls.size = nL) (h2 : ls[2]? = some (.val (.ref (h' 0)))) (h5 : ls[5]? = some (.val (.int (iz kz)))) (ht : κm 1 0 = kz)
    (d0 : decode cc pc = .ok (.aload_n 2, 1)) (d1 : decode cc (pc + 1) = .ok (.invokevirtual 84, 3)) (d4 : decode cc (pc + 4) = .ok (.iload 5, 2)) (d6 : decode cc (pc + 6) = .ok (.if_icmp .eq 5, 3))
    (kk : ∀ (H1 : Heap) (locs1 : List Loc), zB 33 h D (gL c cL h u) H1 → zB 17 h' D (mC c h' τ κm) H1 → va_S A s.heap H1 locs1 → W p l e R s m args below meth cd H1 locs1 cells slots Q (F0 m (pc + 11) ls [])) : W p l e R s m args below meth cd H locs cells slots Q (F0 m pc ls []) := by
  refine lv_aload_n hF.1 hF.2.1 d0 rfl h2 ?_
  refine z_lci (mc := 0) (ms := 0) (S := Unit) (w := fun _ => mC c h' τ κm) (P := fun z _ => z = κm 1 0) (g' := gL c cL h u) (n' := 33) (h' := h) (z_runV (na := 0) (rm := { frames := 0, cells := 0, slots := 0, locals := 0 }) hF (zK_gT hK) hP' (c_X4_thrown l h' D c τ κm hz'.1 _) (gIn_V mw_696 mw_697 mw_698 mw_447 mw_441) rfl rfl ⟨rfl, by decide, by decide, rfl⟩ ⟨by show 0 + 1 ≤ R.frames; omega, by show 8 + (1 + 11) + 0 ≤ R.locals; omega⟩ (k := 0) (T := TX4) (N := 22) (by decide) rfl rfl rfl (As := []) (rest := []) rfl hsz rfl (Nat.le_of_ble_eq_true rfl) d1 ⟨by omega, by omega⟩) hz' hA hS hP (fun i j hi hj q => hap j i hj hi q.symm) (fun z v H locs hp hP' hP hS => ?_)
  obtain rfl : z = κm 1 0 := hp
  refine lv_iload hF.1 hF.2.1 d4 h5 ?_
  refine lv_icmp_eq (tgt := pc + 11) hF.1 hF.2.1 d6 (by omega) (fun _ => kk H locs hP hP' hS) (fun q => absurd (by rw [ht]) q)
/-- no exception: the answers are compared -/
theorem z_tI (hF : CallFix p m cd cc nL s args UW RL) (hK : zK D (gTL c cL) s) (hP : zB 33 h D (gL c cL h u) H) (h3 : ls[3]? = some (.val (.ref (h 32)))) (h5 : ls[5]? = some (.val (.int (iz kz)))) (h6 : ls[6]? = some (.val (.int (iz zb)))) (hk : 0 ≤ kz ∧ kz ≤ 3) (ho : kz = 0 → u.2.2.2 = cvI zb)
    (d11 : decode cc pc = .ok (.iload 5, 2)) (d13 : decode cc (pc + 2) = .ok (.ifCond .ne 15, 3)) (d16 : decode cc (pc + 5) = .ok (.aload_n 3, 1)) (d17 : decode cc (pc + 6) = .ok (.iconst 0, 1)) (d18 : decode cc (pc + 7) = .ok (.laload, 1)) (d19 : decode cc (pc + 8) = .ok (.iload 6, 2)) (d21 : decode cc (pc + 10) = .ok (.i2l, 1)) (d22 : decode cc (pc + 11) = .ok (.lcmp, 1)) (d23 : decode cc (pc + 12) = .ok (.ifCond .eq 5, 3)) (d28 : decode cc (pc + 17) = .ok (.goto o1, 3)) (h28 : ((pc + 17 : Nat) : Int) + o1 = (tgt : Int))
    (kk : W p l e R s m args below meth cd H locs cells slots Q (F0 m tgt ls [])) : W p l e R s m args below meth cd H locs cells slots Q (F0 m pc ls []) := by
  refine lv_iload hF.1 hF.2.1 d11 h5 ?_
  have kend : W p l e R s m args below meth cd H locs cells slots Q (F0 m (pc + 17) ls []) := lv_goto hF.1 hF.2.1 d28 h28 kk
  refine zi_if_ne (tgt := pc + 17) hF.1 hF.2.1 d13 (by omega) (by omega) (fun _ => kend) (fun q => ?_)
  refine lv_aload_n hF.1 hF.2.1 d16 rfl h3 ?_
  refine zi_const hF.1 hF.2.1 d17 ?_
  refine z_lald hF hK hP d18 ?_
  refine lv_iload hF.1 hF.2.1 d19 h6 ?_
  refine lv_i2l hF.1 hF.2.1 d21 (v := cvI zb) rfl ?_
  refine W.lcmp hF.1 hF.2.1 d22 ?_
  have e0 : lg_cmp u.2.2.2 (cvI zb) = 0 := by rw [ho q]; simp [lg_cmp]
  exact lv_if_eq (tgt := pc + 17) hF.1 hF.2.1 d23 (by omega) (fun _ => kend) (fun q => absurd e0 q)
theorem z_tB (hF : CallFix p m cd cc nL s args UW RL) (hK : zK D (gTL c cL) s) (hP : zB 33 h D (gL c cL h u) H) (h3 : ls[3]? = some (.val (.ref (h 32)))) (h5 : ls[5]? = some (.val (.int (iz kz)))) (h6 : ls[6]? = some (.val (.int (iz zb)))) (hk : 0 ≤ kz ∧ kz ≤ 3) (ho : kz = 0 → u.2.2.2 = cvB zb)
    (d11 : decode cc pc = .ok (.iload 5, 2)) (d13 : decode cc (pc + 2) = .ok (.ifCond .ne 22, 3)) (d16 : decode cc (pc + 5) = .ok (.aload_n 3, 1)) (d17 : decode cc (pc + 6) = .ok (.iconst 0, 1)) (d18 : decode cc (pc + 7) = .ok (.laload, 1)) (d19 : decode cc (pc + 8) = .ok (.iload 6, 2)) (d21 : decode cc (pc + 10) = .ok (.ifCond .eq 7, 3)) (d24 : decode cc (pc + 13) = .ok (.lconst 1, 1)) (d25 : decode cc (pc + 14) = .ok (.goto 4, 3)) (d28 : decode cc (pc + 17) = .ok (.lconst 0, 1)) (d29 : decode cc (pc + 18) = .ok (.lcmp, 1)) (d30 : decode cc (pc + 19) = .ok (.ifCond .eq 5, 3)) (d35 : decode cc (pc + 24) = .ok (.goto o1, 3)) (h35 : ((pc + 24 : Nat) : Int) + o1 = (tgt : Int))
    (kk : W p l e R s m args below meth cd H locs cells slots Q (F0 m tgt ls [])) : W p l e R s m args below meth cd H locs cells slots Q (F0 m pc ls []) := by
  refine lv_iload hF.1 hF.2.1 d11 h5 ?_
  have kend : W p l e R s m args below meth cd H locs cells slots Q (F0 m (pc + 24) ls []) := lv_goto hF.1 hF.2.1 d35 h35 kk
  refine zi_if_ne (tgt := pc + 24) hF.1 hF.2.1 d13 (by omega) (by omega) (fun _ => kend) (fun q => ?_)
  refine lv_aload_n hF.1 hF.2.1 d16 rfl h3 ?_
  refine zi_const hF.1 hF.2.1 d17 ?_
  refine z_lald hF hK hP d18 ?_
  refine lv_iload hF.1 hF.2.1 d19 h6 ?_
  have e0 : lg_cmp u.2.2.2 (cvB zb) = 0 := by rw [ho q]; simp [lg_cmp]
  have kc : ∀ x : Int64, x = cvB zb → W p l e R s m args below meth cd H locs cells slots Q (F0 m (pc + 18) ls [.long x, .long u.2.2.2]) := fun x hx => by
    subst hx
    refine W.lcmp hF.1 hF.2.1 d29 ?_
    exact lv_if_eq (tgt := pc + 24) hF.1 hF.2.1 d30 (by omega) (fun _ => kend) (fun q => absurd e0 q)
  refine lv_if_eq (tgt := pc + 17) hF.1 hF.2.1 d21 (by omega) (fun q => ?_) (fun q => ?_)
  · refine lv_lconst hF.1 hF.2.1 d28 (v := 0) rfl ?_
    exact kc 0 (by unfold cvB; rw [if_pos q])
  · refine lv_lconst hF.1 hF.2.1 d24 (v := 1) rfl ?_
    refine lv_goto (tgt := pc + 18) hF.1 hF.2.1 d25 (by omega) ?_
    exact kc 1 (by unfold cvB; rw [if_neg q])
end ZLW
