/-! THE CLAIM OUT OF ONE WALK OF THE LAW'S BODY. Your part is whole_start (and what it stands on); all else here is the same for every law, but numbers. -/
def R_law : String := "FestivalgridLaw"
def lw_P (b : Addr) (xs : List Int32) (args : Array Value) (s : State) : Prop := args = #[.ref b] ∧ s.IntsAt b xs ∧ xs.length ≤ 4096 ∧ (Jvm.Cond.and given_1 narrow_1).before args s = true
def lw_Q (_ : Array Value) (s : State) (o : Outcome) (t : State) : Prop := o = .returned (some (.int 1)) ∧ Framed s o t [] 660928 7113320
def lw_Z (below : List Frame) (a : Array Value) (s : State) : State → Prop := fun t => ∃ o, t.status = .running ∧ Ended t below o ∧ lw_Q a s o t
/-- the law's own end, with 1 on the stack, nothing written that was there before, its room as the claim has it -/
theorem lw_ret {p : Program} {l : Launch} {e : Env} {s : State} {m : MethodId} {below : List Frame} {meth : Method} {c : Code} {b : Nat} (hx : p.tables.exec = Jvm.exec) (hb : c.code = code) (hr : meth.sig.returnType = ret) (hlocks : meth.locks = false) {pc : Nat} {H : Heap} {ls : Array Slot} (hdg : decode code pc = .ok (.ireturn, 1)) : W p l e room_1 s m #[Value.ref b] below meth c H [] 660928 7113320 (lw_Z below #[Value.ref b] s) (F0 m pc ls [.int 1]) := by
  intro T hT X
  obtain ⟨fs, hret, hrun, hended, hW, hframe⟩ := X.leave (v := some (.int 1)) (hlocks := hlocks) (fun h => by rw [hr] at h; cases h)
  have hmeth' : T.vm.method? m = some meth := X.method'
  refine ⟨T.setFrames fs, ?_, .returned (some (.int 1)), hrun, hended, rfl, ⟨_, rfl⟩, hW, hframe⟩
  jvm_step X.here [X.here.top, hx, hb, hdg, hmeth', hr, ret, narrow_b1]
  (try refine ⟨rfl, ?_⟩); (try refine ⟨rfl, ?_⟩)
  first | (intro acts; rw [hret _ acts rfl rfl rfl]) | rw [hret _ _ rfl rfl rfl]
  exact Steps.refl _
/-- what holds at the law's entry: the machine, the code, the tables' words (any of lw_tbl by 'hts w (by decide +kernel)'), the script of L ints xs at the cell b, what the Statement gives of the start (any of its parts by flat_of_before) -/
def lw_At (p : Program) (s : State) (m : MethodId) (meth : Method) (c : Code) (b L : Nat) (xs : Nat → Int32) : Prop :=
  p.tables.exec = Jvm.exec ∧ c.code = code ∧ meth.sig.returnType = ret ∧ c.maxLocals = 7 ∧ s.vm.findClass R_law = some m.cls ∧ (∀ w ∈ lw_tbl, w.before #[Value.ref b] s = true) ∧ va_X b L xs s s.heap ∧ b < s.heap.size ∧ meth.locks = false ∧ (Jvm.Cond.and given_1 narrow_1).before #[Value.ref b] s = true

set_option maxRecDepth 100000 in
set_option maxHeartbeats 4000000 in
/-- the law's loop: 512 times at most; each time eight cells and 48 slots at most -/
theorem lw_loop (l : Launch) (hst : l.stackTraces = false) {p : Program} {e : Env} {s : State} {m : MethodId} {below : List Frame} {meth : Method} {cd : Code} {h h' : Nat → Nat} {D : va_G} {c : Nat → ClassId} {cL : ClassId} {b L : Nat} {xs : Nat → Int32}
    (hF : CallFix p m cd cL_law 7 s #[Value.ref b] UW RL) (hr : meth.sig.returnType = ret) (hlocks : meth.locks = false) (hK : zK D (gTL c cL) s) (hX : zX (fun q => s.heap.size ≤ q) s s.heap) (hN : zNcs s) (hz : zD (fun q => s.heap.size ≤ q) 33 h) (hz' : zD (fun q => s.heap.size ≤ q) 17 h') (hap : ∀ i j, i < 33 → j < 17 → h i ≠ h' j) (hXs : va_X b L xs s s.heap) (hbl : b < s.heap.size) (hL : L ≤ 4096) :
    ∀ (k i : Nat), L - i < k → i ≤ L → ∀ (u : SS) (τ κm : Nat → Nat → Int) (H : Heap) (locs : List Loc) (ls : Array Slot), INV u.1 u.2.2.1 τ → zB 33 h D (gL c cL h u) H → zB 17 h' D (mC c h' τ κm) H → va_S (fun q => s.heap.size ≤ q) s.heap H locs → lv_has ls 7 (LV b h h' i) →
      W p l e room_1 s m #[Value.ref b] below meth cd H locs (60 + i) (500 + 6 * i) (lw_Z below #[Value.ref b] s) (F0 m 23 ls []) := by
  intro k
  induction k with
  | zero => intro i h0; omega
  | succ k ih =>
    intro i hk hiL u τ κm H locs ls hI hP hP' hS hl
    have hA : ∀ q : Nat, s.heap.size ≤ q → (fun q : Nat => s.heap.size ≤ q) q := fun _ h => h
    have hbA : ¬ (fun q : Nat => s.heap.size ≤ q) b := Nat.not_le.mpr hbl
    have hl : lv_has ls 7 [(4, .int (iz (i : Int))), (3, .ref (h 32)), (2, .ref (h' 0)), (1, .ref (h 0)), (0, .ref b)] := hl
    refine lv_iload hF.1 hF.2.1 dL_law_23 (lv_at hl 0 rfl) ?_
    refine lv_aload_n hF.1 hF.2.1 dL_law_25 rfl (lv_at hl 4 rfl) ?_
    refine va_slen hF.1 hF.2.1 hXs hbl hbA hS dL_law_26 ?_
    rw [show Int32.ofNat L = iz (L : Int) from iz_nI L]
    refine zi_bipush hF.1 hF.2.1 dL_law_27 (by decide) ?_
    refine zi_sub hF.1 hF.2.1 dL_law_29 ?_
    refine zi_icmp_gt (tgt := 1405) hF.1 hF.2.1 dL_law_30 (by decide) (by omega) (by omega) (fun _ => ?_) (fun hi0 => ?_)
    · refine lv_iconst (v := 1) hF.1 hF.2.1 dL_law_1405 rfl ?_
      refine va_forget hS.2.2 ?_
      refine W.widen (k := 660928) (n := 7113320) (by omega) (by omega) ?_
      exact lw_ret hF.1 hF.2.1 hr hlocks dL_law_1406
    · have hi : i + 8 ≤ L := by omega
      have kk : ∀ (u : SS) (τ κm : Nat → Nat → Int) (H : Heap) (locs : List Loc) (ls : Array Slot), INV u.1 u.2.2.1 τ → zB 33 h D (gL c cL h u) H → zB 17 h' D (mC c h' τ κm) H → va_S (fun q => s.heap.size ≤ q) s.heap H locs → lv_has ls 7 (LV b h h' i) → W p l e room_1 s m #[Value.ref b] below meth cd H locs (60 + i + 8) (500 + 6 * i + 48) (lw_Z below #[Value.ref b] s) (F0 m 1399 ls []) := fun u τ κm H locs ls hI hP hP' hS hl => by
        have hl : lv_has ls 7 [(4, .int (iz (i : Int))), (3, .ref (h 32)), (2, .ref (h' 0)), (1, .ref (h 0)), (0, .ref b)] := hl
        refine lv_iinc (v := iz ((i + 8 : Nat) : Int)) (lv' := [(4, .int (iz ((i + 8 : Nat) : Int))), (3, .ref (h 32)), (2, .ref (h' 0)), (1, .ref (h 0)), (0, .ref b)]) hF.1 hF.2.1 dL_law_1399 hl (k := 0) rfl ((iz_add _ _).trans (congrArg iz (by omega))) (by decide) rfl (fun ls hl => ?_)
        refine lv_goto (tgt := 23) hF.1 hF.2.1 dL_law_1402 (by decide) ?_
        exact (ih (i + 8) (by omega) (by omega) u τ κm H locs ls hI hP hP' hS hl).wide (by omega) (by omega)
      obtain ⟨σ, κ, ω, o⟩ := u
      refine lv_aload_n hF.1 hF.2.1 dL_law_33 rfl (lv_at hl 4 rfl) ?_
      refine lv_iload hF.1 hF.2.1 dL_law_34 (lv_at hl 0 rfl) ?_
      refine z_sld hF hXs hbl hbA hL hS i rfl (by omega) dL_law_36 ?_
      refine zi_bipush hF.1 hF.2.1 dL_law_37 (by decide) ?_
      refine lv_iand hF.1 hF.2.1 dL_law_39 ?_
      generalize (iz (xZ xs i) &&& iz 31) = v
      have hc8 : 60 + i + 8 ≤ 660928 := by omega
      have hs8 : 500 + 6 * i + 48 ≤ 7113320 := by omega
      rcases (show (v.toInt < 0 ∨ 18 < v.toInt) ∨ v.toInt = 0 ∨ v.toInt = 1 ∨ v.toInt = 2 ∨ v.toInt = 3 ∨ v.toInt = 4 ∨ v.toInt = 5 ∨ v.toInt = 6 ∨ v.toInt = 7 ∨ v.toInt = 8 ∨ v.toInt = 9 ∨ v.toInt = 10 ∨ v.toInt = 11 ∨ v.toInt = 12 ∨ v.toInt = 13 ∨ v.toInt = 14 ∨ v.toInt = 15 ∨ v.toInt = 16 ∨ v.toInt = 17 ∨ v.toInt = 18 from by omega) with hv | hv | hv | hv | hv | hv | hv | hv | hv | hv | hv | hv | hv | hv | hv | hv | hv | hv | hv | hv
      · refine lv_tableOut (tgt := 1399) hF.1 hF.2.1 dL_law_40 hv (by decide) ?_
        exact (kk (σ, κ, ω, o) τ κm H locs ls hI hP hP' hS hl).wide (by omega) (by omega)
      · refine lv_tableIn (off := 92) (tgt := 132) hF.1 hF.2.1 dL_law_40 (by omega) (by omega) (by rw [hv]; rfl) (by decide) ?_
        exact w_startSet l hst hF hK hX hN hz hz' hap hA hXs hbl hbA hL hi hI hP hP' hS hl hc8 hs8 kk
      · refine lv_tableIn (off := 148) (tgt := 188) hF.1 hF.2.1 dL_law_40 (by omega) (by omega) (by rw [hv]; rfl) (by decide) ?_
        exact w_setChange l hst hF hK hX hN hz hz' hap hA hXs hbl hbA hL hi hI hP hP' hS hl hc8 hs8 kk
      · refine lv_tableIn (off := 223) (tgt := 263) hF.1 hF.2.1 dL_law_40 (by omega) (by omega) (by rw [hv]; rfl) (by decide) ?_
        exact w_setBound l hst hF hK hX hN hz hz' hap hA hXs hbl hbA hL hi hI hP hP' hS hl hc8 hs8 kk
      · refine lv_tableIn (off := 298) (tgt := 338) hF.1 hF.2.1 dL_law_40 (by omega) (by omega) (by rw [hv]; rfl) (by decide) ?_
        exact w_setWind l hst hF hK hX hN hz hz' hap hA hXs hbl hbA hL hi hI hP hP' hS hl hc8 hs8 kk
      · refine lv_tableIn (off := 373) (tgt := 413) hF.1 hF.2.1 dL_law_40 (by omega) (by omega) (by rw [hv]; rfl) (by decide) ?_
        exact w_plan l hst hF hK hX hN hz hz' hap hA hXs hbl hbA hL hi hI hP hP' hS hl hc8 hs8 kk
      · refine lv_tableIn (off := 505) (tgt := 545) hF.1 hF.2.1 dL_law_40 (by omega) (by omega) (by rw [hv]; rfl) (by decide) ?_
        exact w_reason l hst hF hK hX hN hz hz' hap hA hXs hbl hbA hL hi hI hP hP' hS hl hc8 hs8 kk
      · refine lv_tableIn (off := 637) (tgt := 677) hF.1 hF.2.1 dL_law_40 (by omega) (by omega) (by rw [hv]; rfl) (by decide) ?_
        exact w_move l hst hF hK hX hN hz hz' hap hA hXs hbl hbA hL hi hI hP hP' hS hl hc8 hs8 kk
      · refine lv_tableIn (off := 712) (tgt := 752) hF.1 hF.2.1 dL_law_40 (by omega) (by omega) (by rw [hv]; rfl) (by decide) ?_
        exact w_drop l hst hF hK hX hN hz hz' hap hA hXs hbl hbA hL hi hI hP hP' hS hl hc8 hs8 kk
      · refine lv_tableIn (off := 748) (tgt := 788) hF.1 hF.2.1 dL_law_40 (by omega) (by omega) (by rw [hv]; rfl) (by decide) ?_
        exact w_start l hst hF hK hX hN hz hz' hap hA hXs hbl hbA hL hi hI hP hP' hS hl hc8 hs8 kk
      · refine lv_tableIn (off := 804) (tgt := 844) hF.1 hF.2.1 dL_law_40 (by omega) (by omega) (by rw [hv]; rfl) (by decide) ?_
        exact w_firstStart l hst hF hK hX hN hz hz' hap hA hXs hbl hbA hL hi hI hP hP' hS hl hc8 hs8 kk
      · refine lv_tableIn (off := 872) (tgt := 912) hF.1 hF.2.1 dL_law_40 (by omega) (by omega) (by rw [hv]; rfl) (by decide) ?_
        exact w_type l hst hF hK hX hN hz hz' hap hA hXs hbl hbA hL hi hI hP hP' hS hl hc8 hs8 kk
      · refine lv_tableIn (off := 930) (tgt := 970) hF.1 hF.2.1 dL_law_40 (by omega) (by omega) (by rw [hv]; rfl) (by decide) ?_
        exact w_wipe l hst hF hK hX hN hz hz' hap hA hXs hbl hbA hL hi hI hP hP' hS hl hc8 hs8 kk
      · refine lv_tableIn (off := 943) (tgt := 983) hF.1 hF.2.1 dL_law_40 (by omega) (by omega) (by rw [hv]; rfl) (by decide) ?_
        exact w_grant l hst hF hK hX hN hz hz' hap hA hXs hbl hbA hL hi hI hP hP' hS hl hc8 hs8 kk
      · refine lv_tableIn (off := 1006) (tgt := 1046) hF.1 hF.2.1 dL_law_40 (by omega) (by omega) (by rw [hv]; rfl) (by decide) ?_
        exact w_ofAct l hst hF hK hX hN hz hz' hap hA hXs hbl hbA hL hi hI hP hP' hS hl hc8 hs8 kk
      · refine lv_tableIn (off := 1074) (tgt := 1114) hF.1 hF.2.1 dL_law_40 (by omega) (by omega) (by rw [hv]; rfl) (by decide) ?_
        exact w_storm l hst hF hK hX hN hz hz' hap hA hXs hbl hbA hL hi hI hP hP' hS hl hc8 hs8 kk
      · refine lv_tableIn (off := 1154) (tgt := 1194) hF.1 hF.2.1 dL_law_40 (by omega) (by omega) (by rw [hv]; rfl) (by decide) ?_
        exact w_load l hst hF hK hX hN hz hz' hap hA hXs hbl hbA hL hi hI hP hP' hS hl hc8 hs8 kk
      · refine lv_tableIn (off := 1222) (tgt := 1262) hF.1 hF.2.1 dL_law_40 (by omega) (by omega) (by rw [hv]; rfl) (by decide) ?_
        exact w_noise l hst hF hK hX hN hz hz' hap hA hXs hbl hbA hL hi hI hP hP' hS hl hc8 hs8 kk
      · refine lv_tableIn (off := 1290) (tgt := 1330) hF.1 hF.2.1 dL_law_40 (by omega) (by omega) (by rw [hv]; rfl) (by decide) ?_
        exact w_channels l hst hF hK hX hN hz hz' hap hA hXs hbl hbA hL hi hI hP hP' hS hl hc8 hs8 kk
      · refine lv_tableIn (off := 1346) (tgt := 1386) hF.1 hF.2.1 dL_law_40 (by omega) (by omega) (by rw [hv]; rfl) (by decide) ?_
        exact w_isFineByMinutes l hst hF hK hX hN hz hz' hap hA hXs hbl hbA hL hi hI hP hP' hS hl hc8 hs8 kk
