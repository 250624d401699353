/-! THE CLAIM OUT OF ONE WALK OF THE LAW'S BODY. Your part is whole_start (and what it stands on); all else here is the same for every law, but numbers. -/
def R_law : String := "FestivalgridLaw"
def lw_P (b : Addr) (xs : List Int32) (args : Array Value) (s : State) : Prop := args = #[.ref b] ∧ s.IntsAt b xs ∧ xs.length ≤ 260 ∧ (Jvm.Cond.and given_1 narrow_1).before args s = true
def lw_Q (_ : Array Value) (s : State) (o : Outcome) (t : State) : Prop := o = .returned (some (.int 1)) ∧ Framed s o t [] 679788 7062465
def lw_Z (below : List Frame) (a : Array Value) (s : State) : State → Prop := fun t => ∃ o, t.status = .running ∧ Ended t below o ∧ lw_Q a s o t
/-- the law's own end, with 1 on the stack, nothing written that was there before, its room as the claim has it -/
theorem lw_ret {p : Program} {l : Launch} {e : Env} {s : State} {m : MethodId} {below : List Frame} {meth : Method} {c : Code} {b : Nat} (hx : p.tables.exec = Jvm.exec) (hb : c.code = code) (hr : meth.sig.returnType = ret) (hlocks : meth.locks = false) {pc : Nat} {H : Heap} {ls : Array Slot} (hdg : decode code pc = .ok (.ireturn, 1)) : W p l e room_1 s m #[Value.ref b] below meth c H [] 679788 7062465 (lw_Z below #[Value.ref b] s) (F0 m pc ls [.int 1]) := by
  intro T hT X
  obtain ⟨fs, hret, hrun, hended, hW, hframe⟩ := X.leave (v := some (.int 1)) (hlocks := hlocks) (fun h => by rw [hr] at h; cases h)
  have hmeth' : T.vm.method? m = some meth := X.method'
  refine ⟨T.setFrames fs, ?_, .returned (some (.int 1)), hrun, hended, rfl, ⟨_, rfl⟩, hW, hframe⟩
  jvm_step X.here [X.here.top, hx, hb, hdg, hmeth', hr, ret, narrow_b1]
  (try refine ⟨rfl, ?_⟩); (try refine ⟨rfl, ?_⟩)
  first | (intro acts; rw [hret _ acts rfl rfl rfl]) | rw [hret _ _ rfl rfl rfl]
  exact Steps.refl _
/-- what holds at the law's entry: the machine, the code, the tables' words (any of lw_tbl by 'hts w (by decide +kernel)'), the script of L ints xs at the cell b, what the Statement gives of the start (any of its parts by flat_of_before) -/
def lw_At (p : Program) (s : State) (m : MethodId) (meth : Method) (c : Code) (b L : Nat) (xs : Nat → Int32) : Prop :=
  p.tables.exec = Jvm.exec ∧ c.code = code ∧ meth.sig.returnType = ret ∧ c.maxLocals = 7 ∧ s.vm.findClass R_law = some m.cls ∧ (∀ w ∈ lw_tbl, w.before #[Value.ref b] s = true) ∧ va_X b L xs s s.heap ∧ b < s.heap.size ∧ meth.locks = false ∧ (Jvm.Cond.and given_1 narrow_1).before #[Value.ref b] s = true
/-! the calls of the law's own loop, over the numbers -/
section GR
variable {p : Program} {l : Launch} {e : Env} {R : Room} {s : State} {m : MethodId} {args : Array Value} {below : List Frame} {meth : Method} {cd : Code} {H : Heap} {locs : List Loc} {cells slots : Nat} {Q : State → Prop}
variable {cc : ByteArray} {nL pc : Nat} {ls : Array Slot} {rest : List Value} {A : Nat → Prop} {h : Nat → Nat} {D : va_G} {c : Nat → ClassId} {σ κ : Nat → Nat → Int} {ω : Nat × (Nat → Int32) × Int32} {d d' : Da} {L L' : List Int}
set_option maxHeartbeats 1000000 in
theorem g_reason (hst : l.stackTraces = false) (hC : CX p m cd cc nL s args h D c A) (hP : zB 32 h D (gC c h σ κ ω) H) (hS : va_S A s.heap H locs) (hG : GI σ) {sg sa ln ph dr lo ch : Int} (hsg : -2147483648 ≤ sg ∧ sg ≤ 2147483647) (hsa : -2147483648 ≤ sa ∧ sa ≤ 2147483647) (hln : -2147483648 ≤ ln ∧ ln ≤ 2147483647) (hph : -2147483648 ≤ ph ∧ ph ≤ 2147483647) (hdr : -2147483648 ≤ dr ∧ dr ≤ 2147483647) (hlo : -2147483648 ≤ lo ∧ lo ≤ 2147483647) (hch : -2147483648 ≤ ch ∧ ch ≤ 2147483647) (h0 : thL σ sg sa ln ph dr lo ch = 0) (hd : decode cc pc = .ok (.invokevirtual 7, 3)) (hsz : ls.size = nL) (hW9 : (rest.map fun v => v.category).sum ≤ 8) (hR : 9 + 1 ≤ R.frames ∧ 8 + (10 + 11) + 152 ≤ R.locals) (hf : cells + 8 ≤ R.cells ∧ slots + 6 * 8 ≤ R.slots)
    (kk : ∀ (z : Int) (σ' κ' : Nat → Nat → Int) (H : Heap) (locs : List Loc), z = bby (lay σ (σ 0 1).toNat sg sa ln ph dr lo ch) (σ 0 1).toNat → σ' = u2 (lay σ (σ 0 1).toNat sg sa ln ph dr lo ch) 14 (σ 0 1).toNat 0 → zB 32 h D (gC c h σ' κ' ω) H → va_S A s.heap H locs → W p l e R s m args below meth cd H locs (cells + 8) (slots + 6 * 8) Q (F0 m (pc + 3) ls (.int (iz z) :: rest))) :
    W p l e R s m args below meth cd H locs cells slots Q (F0 m pc ls (.int (iz ch) :: .int (iz lo) :: .int (iz dr) :: .int (iz ph) :: .int (iz ln) :: .int (iz sa) :: .int (iz sg) :: .ref (h 0) :: rest)) := by
  refine z_hci (k := 8) (S := ((Nat → Nat → Int) × (Nat → Nat → Int))) (w := (fun u9 => gC c h u9.1 u9.2 ω)) (P := (fun z u9 => thL σ sg sa ln ph dr lo ch = 0 ∧ z = bby (lay σ (σ 0 1).toNat sg sa ln ph dr lo ch) ((σ 0 1).toNat) ∧ u9.1 = u2 (lay σ (σ 0 1).toNat sg sa ln ph dr lo ch) 14 (σ 0 1).toNat 0 ∧ GI u9.1)) (PX := fun E9 => (E9 = E98 ∧ thL σ sg sa ln ph dr lo ch = 1) ∨ (E9 = E206 ∧ thL σ sg sa ln ph dr lo ch = 2) ∨ (E9 = E67 ∧ thL σ sg sa ln ph dr lo ch = 3)) (g := gC c h σ κ ω) (z_xrunV (rm := { frames := 9, cells := 8, slots := 6 * 8, locals := 152 }) hC.1 hC.2.1 hC.2.2.1 hC.2.2.2.2.1 hC.2.2.2.2.2 hP hS (c_X3_reason l h D c σ κ ω hC.2.2.2.2.1.1 hG sg hsg sa hsa ln hln ph hph dr hdr lo hlo ch hch hst _) (gIn_V mp_3 mw_645 mw_646 mw_86 mw_174) rfl rfl ⟨rfl, by decide, by decide, rfl⟩ hR (k := 0) (T := TX3) (N := 14) (by decide) rfl rfl rfl (As := [.int (iz sg), .int (iz sa), .int (iz ln), .int (iz ph), .int (iz dr), .int (iz lo), .int (iz ch)]) (rest := rest) rfl hsz rfl hW9 hd hf) hC.2.2.2.2.1 hC.2.2.2.2.2 hS (fun E9 ce q9 H locs hpx hP hS hce hcv hcl => ?_) (fun z w9 H locs hp hP hS => ?_)
  · exfalso
    omega
  · exact kk z w9.1 w9.2 H locs hp.2.1 hp.2.2.1 hP hS
set_option maxHeartbeats 1000000 in
theorem g_plan (hst : l.stackTraces = false) (hC : CX p m cd cc nL s args h D c A) (hP : zB 32 h D (gC c h σ κ ω) H) (hS : va_S A s.heap H locs) (hG : GI σ) {sg sa ln ph dr lo ch : Int} (hsg : -2147483648 ≤ sg ∧ sg ≤ 2147483647) (hsa : -2147483648 ≤ sa ∧ sa ≤ 2147483647) (hln : -2147483648 ≤ ln ∧ ln ≤ 2147483647) (hph : -2147483648 ≤ ph ∧ ph ≤ 2147483647) (hdr : -2147483648 ≤ dr ∧ dr ≤ 2147483647) (hlo : -2147483648 ≤ lo ∧ lo ≤ 2147483647) (hch : -2147483648 ≤ ch ∧ ch ≤ 2147483647) (h0 : thL σ sg sa ln ph dr lo ch = 0) (hd : decode cc pc = .ok (.invokevirtual 13, 3)) (hsz : ls.size = nL) (hW9 : (rest.map fun v => v.category).sum ≤ 8) (hR : 9 + 1 ≤ R.frames ∧ 8 + (9 + 11) + 152 ≤ R.locals) (hf : cells + 8 ≤ R.cells ∧ slots + 6 * 8 ≤ R.slots)
    (kk : ∀ (z : Int) (σ' κ' : Nat → Nat → Int) (H : Heap) (locs : List Loc), (bby (lay σ (σ 0 1).toNat sg sa ln ph dr lo ch) (σ 0 1).toNat ≠ 0 ∧ z = -1 ∧ σ' = u2 (lay σ (σ 0 1).toNat sg sa ln ph dr lo ch) 14 (σ 0 1).toNat 0) ∨ (bby (lay σ (σ 0 1).toNat sg sa ln ph dr lo ch) (σ 0 1).toNat = 0 ∧ z = σ 0 1 ∧ σ' = u2 (lay σ (σ 0 1).toNat sg sa ln ph dr lo ch) 0 1 (σ 0 1 + 1)) → zB 32 h D (gC c h σ' κ' ω) H → va_S A s.heap H locs → W p l e R s m args below meth cd H locs (cells + 8) (slots + 6 * 8) Q (F0 m (pc + 3) ls (.int (iz z) :: rest))) :
    W p l e R s m args below meth cd H locs cells slots Q (F0 m pc ls (.int (iz ch) :: .int (iz lo) :: .int (iz dr) :: .int (iz ph) :: .int (iz ln) :: .int (iz sa) :: .int (iz sg) :: .ref (h 0) :: rest)) := by
  refine z_hci (k := 8) (S := ((Nat → Nat → Int) × (Nat → Nat → Int))) (w := (fun u9 => gC c h u9.1 u9.2 ω)) (P := (fun z u9 => thL σ sg sa ln ph dr lo ch = 0 ∧ ((bby (lay σ (σ 0 1).toNat sg sa ln ph dr lo ch) ((σ 0 1).toNat) ≠ 0 ∧ z = -1 ∧ u9.1 = u2 (lay σ (σ 0 1).toNat sg sa ln ph dr lo ch) 14 (σ 0 1).toNat 0) ∨ (bby (lay σ (σ 0 1).toNat sg sa ln ph dr lo ch) ((σ 0 1).toNat) = 0 ∧ z = σ 0 1 ∧ u9.1 = u2 (lay σ (σ 0 1).toNat sg sa ln ph dr lo ch) 0 1 (σ 0 1 + 1))) ∧ GI u9.1)) (PX := fun E9 => (E9 = E98 ∧ thL σ sg sa ln ph dr lo ch = 1) ∨ (E9 = E206 ∧ thL σ sg sa ln ph dr lo ch = 2) ∨ (E9 = E67 ∧ thL σ sg sa ln ph dr lo ch = 3)) (g := gC c h σ κ ω) (z_xrunV (rm := { frames := 9, cells := 8, slots := 6 * 8, locals := 152 }) hC.1 hC.2.1 hC.2.2.1 hC.2.2.2.2.1 hC.2.2.2.2.2 hP hS (c_X3_plan l h D c σ κ ω hC.2.2.2.2.1.1 hG sg hsg sa hsa ln hln ph hph dr hdr lo hlo ch hch hst _) (gIn_V mp_4 mw_642 mw_643 mw_86 mw_173) rfl rfl ⟨rfl, by decide, by decide, rfl⟩ hR (k := 0) (T := TX3) (N := 14) (by decide) rfl rfl rfl (As := [.int (iz sg), .int (iz sa), .int (iz ln), .int (iz ph), .int (iz dr), .int (iz lo), .int (iz ch)]) (rest := rest) rfl hsz rfl hW9 hd hf) hC.2.2.2.2.1 hC.2.2.2.2.2 hS (fun E9 ce q9 H locs hpx hP hS hce hcv hcl => ?_) (fun z w9 H locs hp hP hS => ?_)
  · exfalso
    omega
  · exact kk z w9.1 w9.2 H locs hp.2.1 hP hS
set_option maxHeartbeats 1000000 in
theorem g_start (hst : l.stackTraces = false) (hC : CX p m cd cc nL s args h D c A) (hP : zB 32 h D (gC c h σ κ ω) H) (hS : va_S A s.heap H locs) (hG : GI σ) {a : Int} (ha : -2147483648 ≤ a ∧ a ≤ 2147483647) (h0 : th1 σ a = 0) (hd : decode cc pc = .ok (.invokevirtual 47, 3)) (hsz : ls.size = nL) (hW9 : (rest.map fun v => v.category).sum ≤ 8) (hR : 7 + 1 ≤ R.frames ∧ 8 + (2 + 11) + 103 ≤ R.locals) (hf : cells + 1 ≤ R.cells ∧ slots + 6 * 1 ≤ R.slots)
    (kk : ∀ (z : Int) (H : Heap) (locs : List Loc), z = (if σ 14 a.toNat = 0 then -1 else σ 8 a.toNat) → zB 32 h D (gC c h σ κ ω) H → va_S A s.heap H locs → W p l e R s m args below meth cd H locs (cells + 1) (slots + 6 * 1) Q (F0 m (pc + 3) ls (.int (iz z) :: rest))) :
    W p l e R s m args below meth cd H locs cells slots Q (F0 m pc ls (.int (iz a) :: .ref (h 0) :: rest)) := by
  refine z_hci (k := 1) (S := Unit) (w := (fun _ => gC c h σ κ ω)) (P := (fun z _ => th1 σ a = 0 ∧ z = if σ 14 a.toNat = 0 then -1 else σ 8 a.toNat)) (PX := fun E9 => (E9 = E98 ∧ th1 σ a = 1)) (g := gC c h σ κ ω) (z_xrunV (rm := { frames := 7, cells := 1, slots := 6 * 1, locals := 103 }) hC.1 hC.2.1 hC.2.2.1 hC.2.2.2.2.1 hC.2.2.2.2.2 hP hS (c_X3_start l h D c σ κ ω hC.2.2.2.2.1.1 hG a ha hst _) (gIn_V mp_12 mw_654 mw_655 mw_86 mw_185) rfl rfl ⟨rfl, by decide, by decide, rfl⟩ hR (k := 0) (T := TX3) (N := 14) (by decide) rfl rfl rfl (As := [.int (iz a)]) (rest := rest) rfl hsz rfl hW9 hd hf) hC.2.2.2.2.1 hC.2.2.2.2.2 hS (fun E9 ce q9 H locs hpx hP hS hce hcv hcl => ?_) (fun z w9 H locs hp hP hS => ?_)
  · exfalso
    omega
  · exact kk z H locs hp.2 hP hS
end GR
def xZ (xs : Nat → Int32) (j : Nat) : Int := (xs j).toInt
theorem xZ_iz (xs : Nat → Int32) (j : Nat) : xs j = iz (xZ xs j) := by
  unfold xZ iz
  exact (Int32.ofInt_toInt (xs j)).symm
/-- an act's numbers, out of one of the script's -/
theorem thL_x {σ : Nat → Nat → Int} {x : Int} (hx : 0 ≤ x ∧ x ≤ 16777215) (hn : σ 0 1 ≠ 16) : thL σ (x % 3) (x % 1000) (1 + x % 200) (x / 3 % 3) (x % 90) (x % 80) (x % 33 - 1) = 0 := by
  unfold thL
  rw [if_pos (by omega), if_pos (by omega), if_neg hn]
