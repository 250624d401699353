/-! calls of the law's methods, as rows: of the class, of the helpers -/
def CX (p : Program) (m : MethodId) (cd : Code) (cc : ByteArray) (nL : Nat) (s : State) (args : Array Value) (h : Nat → Nat) (D : va_G) (c : Nat → ClassId) (A : Nat → Prop) : Prop :=
  CallFix p m cd cc nL s args UW RL ∧ zK D (gT c) s ∧ zX A s s.heap ∧ zNcs s ∧ zD A 32 h ∧ ∀ q, s.heap.size ≤ q → A q
def WS (D : va_G) (c : Nat → ClassId) (h : Nat → Nat) (A : Nat → Prop) (s : State) (σ κ : Nat → Nat → Int) (ω : Nat × (Nat → Int32) × Int32) (d : Da) (L : List Int) (H : Heap) (locs : List Loc) : Prop :=
  zB 32 h D (gC c h σ κ ω) H ∧ va_S A s.heap H locs ∧ ES σ d ∧ WL ω L
section DR
variable {p : Program} {l : Launch} {e : Env} {R : Room} {s : State} {m : MethodId} {args : Array Value} {below : List Frame} {meth : Method} {cd : Code} {H : Heap} {locs : List Loc} {cells slots : Nat} {Q : State → Prop}
variable {cc : ByteArray} {nL pc : Nat} {ls : Array Slot} {rest : List Value} {A : Nat → Prop} {h : Nat → Nat} {D : va_G} {c : Nat → ClassId} {σ κ : Nat → Nat → Int} {ω : Nat × (Nat → Int32) × Int32} {d d' : Da} {L L' : List Int}
theorem hg_plan1 (hst : l.stackTraces = false) (hC : CX p m cd cc nL s args h D c A) (hP : zB 32 h D (gC c h σ κ ω) H) (hS : va_S A s.heap H locs) (hG : GI σ) {sg sa ln ph dr lo ch : Int} (hsg : -2147483648 ≤ sg ∧ sg ≤ 2147483647) (hsa : -2147483648 ≤ sa ∧ sa ≤ 2147483647) (hln : -2147483648 ≤ ln ∧ ln ≤ 2147483647) (hph : -2147483648 ≤ ph ∧ ph ≤ 2147483647) (hdr : -2147483648 ≤ dr ∧ dr ≤ 2147483647) (hlo : -2147483648 ≤ lo ∧ lo ≤ 2147483647) (hch : -2147483648 ≤ ch ∧ ch ≤ 2147483647) (hd : decode cc pc = .ok (.invokestatic 88, 3)) (hsz : ls.size = nL) (hW9 : (rest.map fun v => v.category).sum ≤ 8) (hR : 10 + 1 ≤ R.frames ∧ 8 + (10 + 11) + 181 ≤ R.locals) (hf : cells + 8 ≤ R.cells ∧ slots + 6 * 8 ≤ R.slots)
    (kk : ∀ (k : Int) (u : S3) (H1 : Heap) (locs1 : List Loc), (fun (k : Int) (u : S3) => (∃ z : Int, k = z ∧ thL σ sg sa ln ph dr lo ch = 0 ∧ z = bby (lay σ (σ 0 1).toNat sg sa ln ph dr lo ch) ((σ 0 1).toNat) ∧ u.1 = u2 (lay σ (σ 0 1).toNat sg sa ln ph dr lo ch) 14 (σ 0 1).toNat 0 ∧ GI u.1 ∧ u.2.2 = ω) ∨ (u = (σ, κ, ω) ∧ ((k = -71 ∧ thL σ sg sa ln ph dr lo ch = 1) ∨ (k = -72 ∧ thL σ sg sa ln ph dr lo ch = 2) ∨ (k = -73 ∧ thL σ sg sa ln ph dr lo ch = 3)))) k u → zB 32 h D (gS c h u) H1 → va_S A s.heap H1 locs1 → W p l e R s m args below meth cd H1 locs1 (cells + 8) (slots + 6 * 8) Q (F0 m (pc + 3) ls (.int (iz k) :: rest))) :
    W p l e R s m args below meth cd H locs cells slots Q (F0 m pc ls (.int (iz ch) :: .int (iz lo) :: .int (iz dr) :: .int (iz ph) :: .int (iz ln) :: .int (iz sa) :: .int (iz sg) :: .int (iz 1) :: .ref (h 0) :: rest)) :=
  z_ciK (mc := 8) (ms := 6 * 8) (S := S3) (w := gS c h) (P := (fun (k : Int) (u : S3) => (∃ z : Int, k = z ∧ thL σ sg sa ln ph dr lo ch = 0 ∧ z = bby (lay σ (σ 0 1).toNat sg sa ln ph dr lo ch) ((σ 0 1).toNat) ∧ u.1 = u2 (lay σ (σ 0 1).toNat sg sa ln ph dr lo ch) 14 (σ 0 1).toNat 0 ∧ GI u.1 ∧ u.2.2 = ω) ∨ (u = (σ, κ, ω) ∧ ((k = -71 ∧ thL σ sg sa ln ph dr lo ch = 1) ∨ (k = -72 ∧ thL σ sg sa ln ph dr lo ch = 2) ∨ (k = -73 ∧ thL σ sg sa ln ph dr lo ch = 3))))) (z_lrunH (na := 9) (rm := { frames := 10, cells := 8, slots := 6 * 8, locals := 181 }) hC.1 hC.2.1 hC.2.2.1 hC.2.2.2.1 hC.2.2.2.2.1 hC.2.2.2.2.2 hP hS (c_L_plan1 l h D c σ κ ω hC.2.2.2.2.1.1 hG sg hsg sa hsa ln hln ph hph dr hdr lo hlo ch hch hst _) mp_30 mp_31 mp_25 mp_32 rfl rfl ⟨by decide, by decide, rfl⟩ hR (As := [.ref (h 0), .int (iz 1), .int (iz sg), .int (iz sa), .int (iz ln), .int (iz ph), .int (iz dr), .int (iz lo), .int (iz ch)]) (rest := rest) rfl hsz rfl hW9 hd hf) hC.2.2.2.2.1 hC.2.2.2.2.2 hS (fun k u H locs hp hP hS => kk k u H locs hp hP hS)
theorem hx_plan1_1 (hst : l.stackTraces = false) (hC : CX p m cd cc nL s args h D c A) (hP : zB 32 h D (gC c h σ κ ω) H) (hS : va_S A s.heap H locs) (hG : GI σ) {sg sa ln ph dr lo ch : Int} (hsg : -2147483648 ≤ sg ∧ sg ≤ 2147483647) (hsa : -2147483648 ≤ sa ∧ sa ≤ 2147483647) (hln : -2147483648 ≤ ln ∧ ln ≤ 2147483647) (hph : -2147483648 ≤ ph ∧ ph ≤ 2147483647) (hdr : -2147483648 ≤ dr ∧ dr ≤ 2147483647) (hlo : -2147483648 ≤ lo ∧ lo ≤ 2147483647) (hch : -2147483648 ≤ ch ∧ ch ≤ 2147483647) (hq : thL σ sg sa ln ph dr lo ch = 1) (hd : decode cc pc = .ok (.invokestatic 88, 3)) (hsz : ls.size = nL) (hW9 : (rest.map fun v => v.category).sum ≤ 8) (hR : 10 + 1 ≤ R.frames ∧ 8 + (10 + 11) + 181 ≤ R.locals) (hf : cells + 8 ≤ R.cells ∧ slots + 6 * 8 ≤ R.slots)
    (kk : ∀ (H1 : Heap) (locs1 : List Loc), zB 32 h D (gC c h σ κ ω) H1 → va_S A s.heap H1 locs1 → W p l e R s m args below meth cd H1 locs1 (cells + 8) (slots + 6 * 8) Q (F0 m (pc + 3) ls (.int (iz (-71)) :: rest))) :
    W p l e R s m args below meth cd H locs cells slots Q (F0 m pc ls (.int (iz ch) :: .int (iz lo) :: .int (iz dr) :: .int (iz ph) :: .int (iz ln) :: .int (iz sa) :: .int (iz sg) :: .int (iz 1) :: .ref (h 0) :: rest)) := by
  refine hg_plan1 hst hC hP hS hG hsg hsa hln hph hdr hlo hch hd hsz hW9 hR hf (fun k u H locs hp hP hS => ?_)
  have hh : k = -71 ∧ u = (σ, κ, ω) := by
    rcases hp with ⟨z, _, q1, _⟩ | ⟨hu, hk⟩
    · exfalso; omega
    · exact ⟨by omega, hu⟩
  obtain ⟨rfl, rfl⟩ := hh
  exact kk H locs hP hS
theorem hx_plan1_2 (hst : l.stackTraces = false) (hC : CX p m cd cc nL s args h D c A) (hP : zB 32 h D (gC c h σ κ ω) H) (hS : va_S A s.heap H locs) (hG : GI σ) {sg sa ln ph dr lo ch : Int} (hsg : -2147483648 ≤ sg ∧ sg ≤ 2147483647) (hsa : -2147483648 ≤ sa ∧ sa ≤ 2147483647) (hln : -2147483648 ≤ ln ∧ ln ≤ 2147483647) (hph : -2147483648 ≤ ph ∧ ph ≤ 2147483647) (hdr : -2147483648 ≤ dr ∧ dr ≤ 2147483647) (hlo : -2147483648 ≤ lo ∧ lo ≤ 2147483647) (hch : -2147483648 ≤ ch ∧ ch ≤ 2147483647) (hq : thL σ sg sa ln ph dr lo ch = 2) (hd : decode cc pc = .ok (.invokestatic 88, 3)) (hsz : ls.size = nL) (hW9 : (rest.map fun v => v.category).sum ≤ 8) (hR : 10 + 1 ≤ R.frames ∧ 8 + (10 + 11) + 181 ≤ R.locals) (hf : cells + 8 ≤ R.cells ∧ slots + 6 * 8 ≤ R.slots)
    (kk : ∀ (H1 : Heap) (locs1 : List Loc), zB 32 h D (gC c h σ κ ω) H1 → va_S A s.heap H1 locs1 → W p l e R s m args below meth cd H1 locs1 (cells + 8) (slots + 6 * 8) Q (F0 m (pc + 3) ls (.int (iz (-72)) :: rest))) :
    W p l e R s m args below meth cd H locs cells slots Q (F0 m pc ls (.int (iz ch) :: .int (iz lo) :: .int (iz dr) :: .int (iz ph) :: .int (iz ln) :: .int (iz sa) :: .int (iz sg) :: .int (iz 1) :: .ref (h 0) :: rest)) := by
  refine hg_plan1 hst hC hP hS hG hsg hsa hln hph hdr hlo hch hd hsz hW9 hR hf (fun k u H locs hp hP hS => ?_)
  have hh : k = -72 ∧ u = (σ, κ, ω) := by
    rcases hp with ⟨z, _, q1, _⟩ | ⟨hu, hk⟩
    · exfalso; omega
    · exact ⟨by omega, hu⟩
  obtain ⟨rfl, rfl⟩ := hh
  exact kk H locs hP hS
theorem hx_plan1_3 (hst : l.stackTraces = false) (hC : CX p m cd cc nL s args h D c A) (hP : zB 32 h D (gC c h σ κ ω) H) (hS : va_S A s.heap H locs) (hG : GI σ) {sg sa ln ph dr lo ch : Int} (hsg : -2147483648 ≤ sg ∧ sg ≤ 2147483647) (hsa : -2147483648 ≤ sa ∧ sa ≤ 2147483647) (hln : -2147483648 ≤ ln ∧ ln ≤ 2147483647) (hph : -2147483648 ≤ ph ∧ ph ≤ 2147483647) (hdr : -2147483648 ≤ dr ∧ dr ≤ 2147483647) (hlo : -2147483648 ≤ lo ∧ lo ≤ 2147483647) (hch : -2147483648 ≤ ch ∧ ch ≤ 2147483647) (hq : thL σ sg sa ln ph dr lo ch = 3) (hd : decode cc pc = .ok (.invokestatic 88, 3)) (hsz : ls.size = nL) (hW9 : (rest.map fun v => v.category).sum ≤ 8) (hR : 10 + 1 ≤ R.frames ∧ 8 + (10 + 11) + 181 ≤ R.locals) (hf : cells + 8 ≤ R.cells ∧ slots + 6 * 8 ≤ R.slots)
    (kk : ∀ (H1 : Heap) (locs1 : List Loc), zB 32 h D (gC c h σ κ ω) H1 → va_S A s.heap H1 locs1 → W p l e R s m args below meth cd H1 locs1 (cells + 8) (slots + 6 * 8) Q (F0 m (pc + 3) ls (.int (iz (-73)) :: rest))) :
    W p l e R s m args below meth cd H locs cells slots Q (F0 m pc ls (.int (iz ch) :: .int (iz lo) :: .int (iz dr) :: .int (iz ph) :: .int (iz ln) :: .int (iz sa) :: .int (iz sg) :: .int (iz 1) :: .ref (h 0) :: rest)) := by
  refine hg_plan1 hst hC hP hS hG hsg hsa hln hph hdr hlo hch hd hsz hW9 hR hf (fun k u H locs hp hP hS => ?_)
  have hh : k = -73 ∧ u = (σ, κ, ω) := by
    rcases hp with ⟨z, _, q1, _⟩ | ⟨hu, hk⟩
    · exfalso; omega
    · exact ⟨by omega, hu⟩
  obtain ⟨rfl, rfl⟩ := hh
  exact kk H locs hP hS
theorem hg_plan0 (hst : l.stackTraces = false) (hC : CX p m cd cc nL s args h D c A) (hP : zB 32 h D (gC c h σ κ ω) H) (hS : va_S A s.heap H locs) (hG : GI σ) {sg sa ln ph dr lo ch : Int} (hsg : -2147483648 ≤ sg ∧ sg ≤ 2147483647) (hsa : -2147483648 ≤ sa ∧ sa ≤ 2147483647) (hln : -2147483648 ≤ ln ∧ ln ≤ 2147483647) (hph : -2147483648 ≤ ph ∧ ph ≤ 2147483647) (hdr : -2147483648 ≤ dr ∧ dr ≤ 2147483647) (hlo : -2147483648 ≤ lo ∧ lo ≤ 2147483647) (hch : -2147483648 ≤ ch ∧ ch ≤ 2147483647) (hd : decode cc pc = .ok (.invokestatic 88, 3)) (hsz : ls.size = nL) (hW9 : (rest.map fun v => v.category).sum ≤ 8) (hR : 10 + 1 ≤ R.frames ∧ 8 + (10 + 11) + 180 ≤ R.locals) (hf : cells + 8 ≤ R.cells ∧ slots + 6 * 8 ≤ R.slots)
    (kk : ∀ (k : Int) (u : S3) (H1 : Heap) (locs1 : List Loc), (fun (k : Int) (u : S3) => (∃ z : Int, k = z ∧ thL σ sg sa ln ph dr lo ch = 0 ∧ ((bby (lay σ (σ 0 1).toNat sg sa ln ph dr lo ch) ((σ 0 1).toNat) ≠ 0 ∧ z = -1 ∧ u.1 = u2 (lay σ (σ 0 1).toNat sg sa ln ph dr lo ch) 14 (σ 0 1).toNat 0) ∨ (bby (lay σ (σ 0 1).toNat sg sa ln ph dr lo ch) ((σ 0 1).toNat) = 0 ∧ z = σ 0 1 ∧ u.1 = u2 (lay σ (σ 0 1).toNat sg sa ln ph dr lo ch) 0 1 (σ 0 1 + 1))) ∧ GI u.1 ∧ u.2.2 = ω) ∨ (u = (σ, κ, ω) ∧ ((k = -71 ∧ thL σ sg sa ln ph dr lo ch = 1) ∨ (k = -72 ∧ thL σ sg sa ln ph dr lo ch = 2) ∨ (k = -73 ∧ thL σ sg sa ln ph dr lo ch = 3)))) k u → zB 32 h D (gS c h u) H1 → va_S A s.heap H1 locs1 → W p l e R s m args below meth cd H1 locs1 (cells + 8) (slots + 6 * 8) Q (F0 m (pc + 3) ls (.int (iz k) :: rest))) :
    W p l e R s m args below meth cd H locs cells slots Q (F0 m pc ls (.int (iz ch) :: .int (iz lo) :: .int (iz dr) :: .int (iz ph) :: .int (iz ln) :: .int (iz sa) :: .int (iz sg) :: .int (iz 0) :: .ref (h 0) :: rest)) :=
  z_ciK (mc := 8) (ms := 6 * 8) (S := S3) (w := gS c h) (P := (fun (k : Int) (u : S3) => (∃ z : Int, k = z ∧ thL σ sg sa ln ph dr lo ch = 0 ∧ ((bby (lay σ (σ 0 1).toNat sg sa ln ph dr lo ch) ((σ 0 1).toNat) ≠ 0 ∧ z = -1 ∧ u.1 = u2 (lay σ (σ 0 1).toNat sg sa ln ph dr lo ch) 14 (σ 0 1).toNat 0) ∨ (bby (lay σ (σ 0 1).toNat sg sa ln ph dr lo ch) ((σ 0 1).toNat) = 0 ∧ z = σ 0 1 ∧ u.1 = u2 (lay σ (σ 0 1).toNat sg sa ln ph dr lo ch) 0 1 (σ 0 1 + 1))) ∧ GI u.1 ∧ u.2.2 = ω) ∨ (u = (σ, κ, ω) ∧ ((k = -71 ∧ thL σ sg sa ln ph dr lo ch = 1) ∨ (k = -72 ∧ thL σ sg sa ln ph dr lo ch = 2) ∨ (k = -73 ∧ thL σ sg sa ln ph dr lo ch = 3))))) (z_lrunH (na := 9) (rm := { frames := 10, cells := 8, slots := 6 * 8, locals := 180 }) hC.1 hC.2.1 hC.2.2.1 hC.2.2.2.1 hC.2.2.2.2.1 hC.2.2.2.2.2 hP hS (c_L_plan0 l h D c σ κ ω hC.2.2.2.2.1.1 hG sg hsg sa hsa ln hln ph hph dr hdr lo hlo ch hch hst _) mp_30 mp_31 mp_25 mp_32 rfl rfl ⟨by decide, by decide, rfl⟩ hR (As := [.ref (h 0), .int (iz 0), .int (iz sg), .int (iz sa), .int (iz ln), .int (iz ph), .int (iz dr), .int (iz lo), .int (iz ch)]) (rest := rest) rfl hsz rfl hW9 hd hf) hC.2.2.2.2.1 hC.2.2.2.2.2 hS (fun k u H locs hp hP hS => kk k u H locs hp hP hS)
theorem hx_plan0_1 (hst : l.stackTraces = false) (hC : CX p m cd cc nL s args h D c A) (hP : zB 32 h D (gC c h σ κ ω) H) (hS : va_S A s.heap H locs) (hG : GI σ) {sg sa ln ph dr lo ch : Int} (hsg : -2147483648 ≤ sg ∧ sg ≤ 2147483647) (hsa : -2147483648 ≤ sa ∧ sa ≤ 2147483647) (hln : -2147483648 ≤ ln ∧ ln ≤ 2147483647) (hph : -2147483648 ≤ ph ∧ ph ≤ 2147483647) (hdr : -2147483648 ≤ dr ∧ dr ≤ 2147483647) (hlo : -2147483648 ≤ lo ∧ lo ≤ 2147483647) (hch : -2147483648 ≤ ch ∧ ch ≤ 2147483647) (hq : thL σ sg sa ln ph dr lo ch = 1) (hd : decode cc pc = .ok (.invokestatic 88, 3)) (hsz : ls.size = nL) (hW9 : (rest.map fun v => v.category).sum ≤ 8) (hR : 10 + 1 ≤ R.frames ∧ 8 + (10 + 11) + 180 ≤ R.locals) (hf : cells + 8 ≤ R.cells ∧ slots + 6 * 8 ≤ R.slots)
    (kk : ∀ (H1 : Heap) (locs1 : List Loc), zB 32 h D (gC c h σ κ ω) H1 → va_S A s.heap H1 locs1 → W p l e R s m args below meth cd H1 locs1 (cells + 8) (slots + 6 * 8) Q (F0 m (pc + 3) ls (.int (iz (-71)) :: rest))) :
    W p l e R s m args below meth cd H locs cells slots Q (F0 m pc ls (.int (iz ch) :: .int (iz lo) :: .int (iz dr) :: .int (iz ph) :: .int (iz ln) :: .int (iz sa) :: .int (iz sg) :: .int (iz 0) :: .ref (h 0) :: rest)) := by
  refine hg_plan0 hst hC hP hS hG hsg hsa hln hph hdr hlo hch hd hsz hW9 hR hf (fun k u H locs hp hP hS => ?_)
  have hh : k = -71 ∧ u = (σ, κ, ω) := by
    rcases hp with ⟨z, _, q1, _⟩ | ⟨hu, hk⟩
    · exfalso; omega
    · exact ⟨by omega, hu⟩
  obtain ⟨rfl, rfl⟩ := hh
  exact kk H locs hP hS
theorem hx_plan0_2 (hst : l.stackTraces = false) (hC : CX p m cd cc nL s args h D c A) (hP : zB 32 h D (gC c h σ κ ω) H) (hS : va_S A s.heap H locs) (hG : GI σ) {sg sa ln ph dr lo ch : Int} (hsg : -2147483648 ≤ sg ∧ sg ≤ 2147483647) (hsa : -2147483648 ≤ sa ∧ sa ≤ 2147483647) (hln : -2147483648 ≤ ln ∧ ln ≤ 2147483647) (hph : -2147483648 ≤ ph ∧ ph ≤ 2147483647) (hdr : -2147483648 ≤ dr ∧ dr ≤ 2147483647) (hlo : -2147483648 ≤ lo ∧ lo ≤ 2147483647) (hch : -2147483648 ≤ ch ∧ ch ≤ 2147483647) (hq : thL σ sg sa ln ph dr lo ch = 2) (hd : decode cc pc = .ok (.invokestatic 88, 3)) (hsz : ls.size = nL) (hW9 : (rest.map fun v => v.category).sum ≤ 8) (hR : 10 + 1 ≤ R.frames ∧ 8 + (10 + 11) + 180 ≤ R.locals) (hf : cells + 8 ≤ R.cells ∧ slots + 6 * 8 ≤ R.slots)
    (kk : ∀ (H1 : Heap) (locs1 : List Loc), zB 32 h D (gC c h σ κ ω) H1 → va_S A s.heap H1 locs1 → W p l e R s m args below meth cd H1 locs1 (cells + 8) (slots + 6 * 8) Q (F0 m (pc + 3) ls (.int (iz (-72)) :: rest))) :
    W p l e R s m args below meth cd H locs cells slots Q (F0 m pc ls (.int (iz ch) :: .int (iz lo) :: .int (iz dr) :: .int (iz ph) :: .int (iz ln) :: .int (iz sa) :: .int (iz sg) :: .int (iz 0) :: .ref (h 0) :: rest)) := by
  refine hg_plan0 hst hC hP hS hG hsg hsa hln hph hdr hlo hch hd hsz hW9 hR hf (fun k u H locs hp hP hS => ?_)
  have hh : k = -72 ∧ u = (σ, κ, ω) := by
    rcases hp with ⟨z, _, q1, _⟩ | ⟨hu, hk⟩
    · exfalso; omega
    · exact ⟨by omega, hu⟩
  obtain ⟨rfl, rfl⟩ := hh
  exact kk H locs hP hS
theorem hx_plan0_3 (hst : l.stackTraces = false) (hC : CX p m cd cc nL s args h D c A) (hP : zB 32 h D (gC c h σ κ ω) H) (hS : va_S A s.heap H locs) (hG : GI σ) {sg sa ln ph dr lo ch : Int} (hsg : -2147483648 ≤ sg ∧ sg ≤ 2147483647) (hsa : -2147483648 ≤ sa ∧ sa ≤ 2147483647) (hln : -2147483648 ≤ ln ∧ ln ≤ 2147483647) (hph : -2147483648 ≤ ph ∧ ph ≤ 2147483647) (hdr : -2147483648 ≤ dr ∧ dr ≤ 2147483647) (hlo : -2147483648 ≤ lo ∧ lo ≤ 2147483647) (hch : -2147483648 ≤ ch ∧ ch ≤ 2147483647) (hq : thL σ sg sa ln ph dr lo ch = 3) (hd : decode cc pc = .ok (.invokestatic 88, 3)) (hsz : ls.size = nL) (hW9 : (rest.map fun v => v.category).sum ≤ 8) (hR : 10 + 1 ≤ R.frames ∧ 8 + (10 + 11) + 180 ≤ R.locals) (hf : cells + 8 ≤ R.cells ∧ slots + 6 * 8 ≤ R.slots)
    (kk : ∀ (H1 : Heap) (locs1 : List Loc), zB 32 h D (gC c h σ κ ω) H1 → va_S A s.heap H1 locs1 → W p l e R s m args below meth cd H1 locs1 (cells + 8) (slots + 6 * 8) Q (F0 m (pc + 3) ls (.int (iz (-73)) :: rest))) :
    W p l e R s m args below meth cd H locs cells slots Q (F0 m pc ls (.int (iz ch) :: .int (iz lo) :: .int (iz dr) :: .int (iz ph) :: .int (iz ln) :: .int (iz sa) :: .int (iz sg) :: .int (iz 0) :: .ref (h 0) :: rest)) := by
  refine hg_plan0 hst hC hP hS hG hsg hsa hln hph hdr hlo hch hd hsz hW9 hR hf (fun k u H locs hp hP hS => ?_)
  have hh : k = -73 ∧ u = (σ, κ, ω) := by
    rcases hp with ⟨z, _, q1, _⟩ | ⟨hu, hk⟩
    · exfalso; omega
    · exact ⟨by omega, hu⟩
  obtain ⟨rfl, rfl⟩ := hh
  exact kk H locs hP hS
theorem hg_drop (hst : l.stackTraces = false) (hC : CX p m cd cc nL s args h D c A) (hP : zB 32 h D (gC c h σ κ ω) H) (hS : va_S A s.heap H locs) (hG : GI σ) {a : Int} (ha : -2147483648 ≤ a ∧ a ≤ 2147483647) (hd : decode cc pc = .ok (.invokestatic 85, 3)) (hsz : ls.size = nL) (hW9 : (rest.map fun v => v.category).sum ≤ 8) (hR : 8 + 1 ≤ R.frames ∧ 8 + (3 + 11) + 124 ≤ R.locals) (hf : cells + 2 ≤ R.cells ∧ slots + 6 * 2 ≤ R.slots)
    (kk : ∀ (k : Int) (u : S3) (H1 : Heap) (locs1 : List Loc), (fun (k : Int) (u : S3) => (k = 0 ∧ thD σ a = 0 ∧ u.1 = u2 σ 14 a.toNat 0 ∧ GI u.1 ∧ u.2.2 = ω) ∨ (u = (σ, κ, ω) ∧ ((k = -71 ∧ thD σ a = 1) ∨ (k = -73 ∧ thD σ a = 2)))) k u → zB 32 h D (gS c h u) H1 → va_S A s.heap H1 locs1 → W p l e R s m args below meth cd H1 locs1 (cells + 2) (slots + 6 * 2) Q (F0 m (pc + 3) ls (.int (iz k) :: rest))) :
    W p l e R s m args below meth cd H locs cells slots Q (F0 m pc ls (.int (iz a) :: .ref (h 0) :: rest)) :=
  z_ciK (mc := 2) (ms := 6 * 2) (S := S3) (w := gS c h) (P := (fun (k : Int) (u : S3) => (k = 0 ∧ thD σ a = 0 ∧ u.1 = u2 σ 14 a.toNat 0 ∧ GI u.1 ∧ u.2.2 = ω) ∨ (u = (σ, κ, ω) ∧ ((k = -71 ∧ thD σ a = 1) ∨ (k = -73 ∧ thD σ a = 2))))) (z_lrunH (na := 2) (rm := { frames := 8, cells := 2, slots := 6 * 2, locals := 124 }) hC.1 hC.2.1 hC.2.2.1 hC.2.2.2.1 hC.2.2.2.2.1 hC.2.2.2.2.2 hP hS (c_L_drop l h D c σ κ ω hC.2.2.2.2.1.1 hG a ha hst _) mp_27 mp_28 mp_25 mp_29 rfl rfl ⟨by decide, by decide, rfl⟩ hR (As := [.ref (h 0), .int (iz a)]) (rest := rest) rfl hsz rfl hW9 hd hf) hC.2.2.2.2.1 hC.2.2.2.2.2 hS (fun k u H locs hp hP hS => kk k u H locs hp hP hS)
theorem hx_drop_1 (hst : l.stackTraces = false) (hC : CX p m cd cc nL s args h D c A) (hP : zB 32 h D (gC c h σ κ ω) H) (hS : va_S A s.heap H locs) (hG : GI σ) {a : Int} (ha : -2147483648 ≤ a ∧ a ≤ 2147483647) (hq : thD σ a = 1) (hd : decode cc pc = .ok (.invokestatic 85, 3)) (hsz : ls.size = nL) (hW9 : (rest.map fun v => v.category).sum ≤ 8) (hR : 8 + 1 ≤ R.frames ∧ 8 + (3 + 11) + 124 ≤ R.locals) (hf : cells + 2 ≤ R.cells ∧ slots + 6 * 2 ≤ R.slots)
    (kk : ∀ (H1 : Heap) (locs1 : List Loc), zB 32 h D (gC c h σ κ ω) H1 → va_S A s.heap H1 locs1 → W p l e R s m args below meth cd H1 locs1 (cells + 2) (slots + 6 * 2) Q (F0 m (pc + 3) ls (.int (iz (-71)) :: rest))) :
    W p l e R s m args below meth cd H locs cells slots Q (F0 m pc ls (.int (iz a) :: .ref (h 0) :: rest)) := by
  refine hg_drop hst hC hP hS hG ha hd hsz hW9 hR hf (fun k u H locs hp hP hS => ?_)
  have hh : k = -71 ∧ u = (σ, κ, ω) := by
    rcases hp with ⟨_, q1, _⟩ | ⟨hu, hk⟩
    · exfalso; omega
    · exact ⟨by omega, hu⟩
  obtain ⟨rfl, rfl⟩ := hh
  exact kk H locs hP hS
theorem hx_drop_2 (hst : l.stackTraces = false) (hC : CX p m cd cc nL s args h D c A) (hP : zB 32 h D (gC c h σ κ ω) H) (hS : va_S A s.heap H locs) (hG : GI σ) {a : Int} (ha : -2147483648 ≤ a ∧ a ≤ 2147483647) (hq : thD σ a = 2) (hd : decode cc pc = .ok (.invokestatic 85, 3)) (hsz : ls.size = nL) (hW9 : (rest.map fun v => v.category).sum ≤ 8) (hR : 8 + 1 ≤ R.frames ∧ 8 + (3 + 11) + 124 ≤ R.locals) (hf : cells + 2 ≤ R.cells ∧ slots + 6 * 2 ≤ R.slots)
    (kk : ∀ (H1 : Heap) (locs1 : List Loc), zB 32 h D (gC c h σ κ ω) H1 → va_S A s.heap H1 locs1 → W p l e R s m args below meth cd H1 locs1 (cells + 2) (slots + 6 * 2) Q (F0 m (pc + 3) ls (.int (iz (-73)) :: rest))) :
    W p l e R s m args below meth cd H locs cells slots Q (F0 m pc ls (.int (iz a) :: .ref (h 0) :: rest)) := by
  refine hg_drop hst hC hP hS hG ha hd hsz hW9 hR hf (fun k u H locs hp hP hS => ?_)
  have hh : k = -73 ∧ u = (σ, κ, ω) := by
    rcases hp with ⟨_, q1, _⟩ | ⟨hu, hk⟩
    · exfalso; omega
    · exact ⟨by omega, hu⟩
  obtain ⟨rfl, rfl⟩ := hh
  exact kk H locs hP hS
theorem hg_type (hst : l.stackTraces = false) (hC : CX p m cd cc nL s args h D c A) (hP : zB 32 h D (gC c h σ κ ω) H) (hS : va_S A s.heap H locs) (hG : GI σ) {ch : Int} (hch : -2147483648 ≤ ch ∧ ch ≤ 2147483647) (hn : ω.1 ≤ 6) (hd : decode cc pc = .ok (.invokestatic 92, 3)) (hsz : ls.size = nL) (hW9 : (rest.map fun v => v.category).sum ≤ 8) (hR : 8 + 1 ≤ R.frames ∧ 8 + (3 + 11) + 125 ≤ R.locals) (hf : cells + 2 ≤ R.cells ∧ slots + 6 * 2 ≤ R.slots)
    (kk : ∀ (k : Int) (u : S3) (H1 : Heap) (locs1 : List Loc), (fun (k : Int) (u : S3) => (∃ z : Int, k = z ∧ (97 ≤ ch ∧ ch ≤ 122) ∧ ω.1 < 6 ∧ z = (ω.1 : Int) + 1 ∧ u.1 = σ ∧ u.2.2 = (ω.1 + 1, upd ω.2.1 ω.1 (iz ch), ω.2.2)) ∨ (u = (σ, κ, ω) ∧ ((k = -72 ∧ ¬ (97 ≤ ch ∧ ch ≤ 122)) ∨ (k = -73 ∧ (97 ≤ ch ∧ ch ≤ 122) ∧ ω.1 = 6)))) k u → zB 32 h D (gS c h u) H1 → va_S A s.heap H1 locs1 → W p l e R s m args below meth cd H1 locs1 (cells + 2) (slots + 6 * 2) Q (F0 m (pc + 3) ls (.int (iz k) :: rest))) :
    W p l e R s m args below meth cd H locs cells slots Q (F0 m pc ls (.int (iz ch) :: .ref (h 0) :: rest)) :=
  z_ciK (mc := 2) (ms := 6 * 2) (S := S3) (w := gS c h) (P := (fun (k : Int) (u : S3) => (∃ z : Int, k = z ∧ (97 ≤ ch ∧ ch ≤ 122) ∧ ω.1 < 6 ∧ z = (ω.1 : Int) + 1 ∧ u.1 = σ ∧ u.2.2 = (ω.1 + 1, upd ω.2.1 ω.1 (iz ch), ω.2.2)) ∨ (u = (σ, κ, ω) ∧ ((k = -72 ∧ ¬ (97 ≤ ch ∧ ch ≤ 122)) ∨ (k = -73 ∧ (97 ≤ ch ∧ ch ≤ 122) ∧ ω.1 = 6))))) (z_lrunH (na := 2) (rm := { frames := 8, cells := 2, slots := 6 * 2, locals := 125 }) hC.1 hC.2.1 hC.2.2.1 hC.2.2.2.1 hC.2.2.2.2.1 hC.2.2.2.2.2 hP hS (c_L_type l h D c σ κ ω hC.2.2.2.2.1.1 hG ch hch hn hst _) mp_33 mp_34 mp_25 mp_35 rfl rfl ⟨by decide, by decide, rfl⟩ hR (As := [.ref (h 0), .int (iz ch)]) (rest := rest) rfl hsz rfl hW9 hd hf) hC.2.2.2.2.1 hC.2.2.2.2.2 hS (fun k u H locs hp hP hS => kk k u H locs hp hP hS)
theorem hx_type_1 (hst : l.stackTraces = false) (hC : CX p m cd cc nL s args h D c A) (hP : zB 32 h D (gC c h σ κ ω) H) (hS : va_S A s.heap H locs) (hG : GI σ) {ch : Int} (hch : -2147483648 ≤ ch ∧ ch ≤ 2147483647) (hn : ω.1 ≤ 6) (hq : ¬ (97 ≤ ch ∧ ch ≤ 122)) (hd : decode cc pc = .ok (.invokestatic 92, 3)) (hsz : ls.size = nL) (hW9 : (rest.map fun v => v.category).sum ≤ 8) (hR : 8 + 1 ≤ R.frames ∧ 8 + (3 + 11) + 125 ≤ R.locals) (hf : cells + 2 ≤ R.cells ∧ slots + 6 * 2 ≤ R.slots)
    (kk : ∀ (H1 : Heap) (locs1 : List Loc), zB 32 h D (gC c h σ κ ω) H1 → va_S A s.heap H1 locs1 → W p l e R s m args below meth cd H1 locs1 (cells + 2) (slots + 6 * 2) Q (F0 m (pc + 3) ls (.int (iz (-72)) :: rest))) :
    W p l e R s m args below meth cd H locs cells slots Q (F0 m pc ls (.int (iz ch) :: .ref (h 0) :: rest)) := by
  refine hg_type hst hC hP hS hG hch hn hd hsz hW9 hR hf (fun k u H locs hp hP hS => ?_)
  have hh : k = -72 ∧ u = (σ, κ, ω) := by
    rcases hp with ⟨z, _, q1, q2, _⟩ | ⟨hu, hk⟩
    · exfalso; omega
    · exact ⟨by omega, hu⟩
  obtain ⟨rfl, rfl⟩ := hh
  exact kk H locs hP hS
theorem hx_type_2 (hst : l.stackTraces = false) (hC : CX p m cd cc nL s args h D c A) (hP : zB 32 h D (gC c h σ κ ω) H) (hS : va_S A s.heap H locs) (hG : GI σ) {ch : Int} (hch : -2147483648 ≤ ch ∧ ch ≤ 2147483647) (hn : ω.1 ≤ 6) (hq : (97 ≤ ch ∧ ch ≤ 122) ∧ ω.1 = 6) (hd : decode cc pc = .ok (.invokestatic 92, 3)) (hsz : ls.size = nL) (hW9 : (rest.map fun v => v.category).sum ≤ 8) (hR : 8 + 1 ≤ R.frames ∧ 8 + (3 + 11) + 125 ≤ R.locals) (hf : cells + 2 ≤ R.cells ∧ slots + 6 * 2 ≤ R.slots)
    (kk : ∀ (H1 : Heap) (locs1 : List Loc), zB 32 h D (gC c h σ κ ω) H1 → va_S A s.heap H1 locs1 → W p l e R s m args below meth cd H1 locs1 (cells + 2) (slots + 6 * 2) Q (F0 m (pc + 3) ls (.int (iz (-73)) :: rest))) :
    W p l e R s m args below meth cd H locs cells slots Q (F0 m pc ls (.int (iz ch) :: .ref (h 0) :: rest)) := by
  refine hg_type hst hC hP hS hG hch hn hd hsz hW9 hR hf (fun k u H locs hp hP hS => ?_)
  have hh : k = -73 ∧ u = (σ, κ, ω) := by
    rcases hp with ⟨z, _, q1, q2, _⟩ | ⟨hu, hk⟩
    · exfalso; omega
    · exact ⟨by omega, hu⟩
  obtain ⟨rfl, rfl⟩ := hh
  exact kk H locs hP hS
theorem hg_act0 (hst : l.stackTraces = false) (hC : CX p m cd cc nL s args h D c A) (hP : zB 32 h D (gC c h σ κ ω) H) (hS : va_S A s.heap H locs) (hG : GI σ) {mi x0 x1 : Int} (hmi : -2147483648 ≤ mi ∧ mi ≤ 2147483647) (hd : decode cc pc = .ok (.invokestatic 79, 3)) (hsz : ls.size = nL) (hW9 : (rest.map fun v => v.category).sum ≤ 8) (hR : 9 + 1 ≤ R.frames ∧ 8 + (6 + 11) + 146 ≤ R.locals) (hf : cells + 2 ≤ R.cells ∧ slots + 6 * 2 ≤ R.slots)
    (kk : ∀ (k : Int) (u : S3) (H1 : Heap) (locs1 : List Loc), (fun (k : Int) (u : S3) => (∃ z : Int, k = z ∧ MSet σ mi z u.1 0 ∧ u.2.2 = ω) ∨ (u = (σ, κ, ω) ∧ ((k = -72 ∧ thS σ mi = 1) ∨ (k = -73 ∧ thS σ mi = 2)))) k u → zB 32 h D (gS c h u) H1 → va_S A s.heap H1 locs1 → W p l e R s m args below meth cd H1 locs1 (cells + 2) (slots + 6 * 2) Q (F0 m (pc + 3) ls (.int (iz k) :: rest))) :
    W p l e R s m args below meth cd H locs cells slots Q (F0 m pc ls (.int (iz x1) :: .int (iz x0) :: .int (iz mi) :: .int (iz 0) :: .ref (h 0) :: rest)) :=
  z_ciK (mc := 2) (ms := 6 * 2) (S := S3) (w := gS c h) (P := (fun (k : Int) (u : S3) => (∃ z : Int, k = z ∧ MSet σ mi z u.1 0 ∧ u.2.2 = ω) ∨ (u = (σ, κ, ω) ∧ ((k = -72 ∧ thS σ mi = 1) ∨ (k = -73 ∧ thS σ mi = 2))))) (z_lrunH (na := 5) (rm := { frames := 9, cells := 2, slots := 6 * 2, locals := 146 }) hC.1 hC.2.1 hC.2.2.1 hC.2.2.2.1 hC.2.2.2.2.1 hC.2.2.2.2.2 hP hS (c_L_act0 l h D c σ κ ω hC.2.2.2.2.1.1 hG mi hmi x0 x1 hst _) mp_23 mp_24 mp_25 mp_26 rfl rfl ⟨by decide, by decide, rfl⟩ hR (As := [.ref (h 0), .int (iz 0), .int (iz mi), .int (iz x0), .int (iz x1)]) (rest := rest) rfl hsz rfl hW9 hd hf) hC.2.2.2.2.1 hC.2.2.2.2.2 hS (fun k u H locs hp hP hS => kk k u H locs hp hP hS)
theorem hx_act0_1 (hst : l.stackTraces = false) (hC : CX p m cd cc nL s args h D c A) (hP : zB 32 h D (gC c h σ κ ω) H) (hS : va_S A s.heap H locs) (hG : GI σ) {mi x0 x1 : Int} (hmi : -2147483648 ≤ mi ∧ mi ≤ 2147483647) (hq : thS σ mi = 1) (hd : decode cc pc = .ok (.invokestatic 79, 3)) (hsz : ls.size = nL) (hW9 : (rest.map fun v => v.category).sum ≤ 8) (hR : 9 + 1 ≤ R.frames ∧ 8 + (6 + 11) + 146 ≤ R.locals) (hf : cells + 2 ≤ R.cells ∧ slots + 6 * 2 ≤ R.slots)
    (kk : ∀ (H1 : Heap) (locs1 : List Loc), zB 32 h D (gC c h σ κ ω) H1 → va_S A s.heap H1 locs1 → W p l e R s m args below meth cd H1 locs1 (cells + 2) (slots + 6 * 2) Q (F0 m (pc + 3) ls (.int (iz (-72)) :: rest))) :
    W p l e R s m args below meth cd H locs cells slots Q (F0 m pc ls (.int (iz x1) :: .int (iz x0) :: .int (iz mi) :: .int (iz 0) :: .ref (h 0) :: rest)) := by
  refine hg_act0 hst hC hP hS hG hmi hd hsz hW9 hR hf (fun k u H locs hp hP hS => ?_)
  have hh : k = -72 ∧ u = (σ, κ, ω) := by
    rcases hp with ⟨z, _, q1, _⟩ | ⟨hu, hk⟩
    · exfalso; have := q1.1; omega
    · exact ⟨by omega, hu⟩
  obtain ⟨rfl, rfl⟩ := hh
  exact kk H locs hP hS
theorem hx_act0_2 (hst : l.stackTraces = false) (hC : CX p m cd cc nL s args h D c A) (hP : zB 32 h D (gC c h σ κ ω) H) (hS : va_S A s.heap H locs) (hG : GI σ) {mi x0 x1 : Int} (hmi : -2147483648 ≤ mi ∧ mi ≤ 2147483647) (hq : thS σ mi = 2) (hd : decode cc pc = .ok (.invokestatic 79, 3)) (hsz : ls.size = nL) (hW9 : (rest.map fun v => v.category).sum ≤ 8) (hR : 9 + 1 ≤ R.frames ∧ 8 + (6 + 11) + 146 ≤ R.locals) (hf : cells + 2 ≤ R.cells ∧ slots + 6 * 2 ≤ R.slots)
    (kk : ∀ (H1 : Heap) (locs1 : List Loc), zB 32 h D (gC c h σ κ ω) H1 → va_S A s.heap H1 locs1 → W p l e R s m args below meth cd H1 locs1 (cells + 2) (slots + 6 * 2) Q (F0 m (pc + 3) ls (.int (iz (-73)) :: rest))) :
    W p l e R s m args below meth cd H locs cells slots Q (F0 m pc ls (.int (iz x1) :: .int (iz x0) :: .int (iz mi) :: .int (iz 0) :: .ref (h 0) :: rest)) := by
  refine hg_act0 hst hC hP hS hG hmi hd hsz hW9 hR hf (fun k u H locs hp hP hS => ?_)
  have hh : k = -73 ∧ u = (σ, κ, ω) := by
    rcases hp with ⟨z, _, q1, _⟩ | ⟨hu, hk⟩
    · exfalso; have := q1.1; omega
    · exact ⟨by omega, hu⟩
  obtain ⟨rfl, rfl⟩ := hh
  exact kk H locs hP hS
theorem hg_act1 (hst : l.stackTraces = false) (hC : CX p m cd cc nL s args h D c A) (hP : zB 32 h D (gC c h σ κ ω) H) (hS : va_S A s.heap H locs) (hG : GI σ) {sg mi x0 : Int} (hsg : -2147483648 ≤ sg ∧ sg ≤ 2147483647) (hmi : -2147483648 ≤ mi ∧ mi ≤ 2147483647) (hd : decode cc pc = .ok (.invokestatic 79, 3)) (hsz : ls.size = nL) (hW9 : (rest.map fun v => v.category).sum ≤ 8) (hR : 8 + 1 ≤ R.frames ∧ 8 + (6 + 11) + 127 ≤ R.locals) (hf : cells + 2 ≤ R.cells ∧ slots + 6 * 2 ≤ R.slots)
    (kk : ∀ (k : Int) (u : S3) (H1 : Heap) (locs1 : List Loc), (fun (k : Int) (u : S3) => (∃ z : Int, k = (if iz z = 0 then 0 else 1) ∧ thC sg mi = 0 ∧ CS σ (u2 σ 2 sg.toNat mi) (stFine (u2 σ 2 sg.toNat mi) sg) z u.1 ∧ GI u.1 ∧ u.2.2 = ω) ∨ (u = (σ, κ, ω) ∧ ((k = -71 ∧ thC sg mi = 1) ∨ (k = -72 ∧ thC sg mi = 2)))) k u → zB 32 h D (gS c h u) H1 → va_S A s.heap H1 locs1 → W p l e R s m args below meth cd H1 locs1 (cells + 2) (slots + 6 * 2) Q (F0 m (pc + 3) ls (.int (iz k) :: rest))) :
    W p l e R s m args below meth cd H locs cells slots Q (F0 m pc ls (.int (iz x0) :: .int (iz mi) :: .int (iz sg) :: .int (iz 1) :: .ref (h 0) :: rest)) :=
  z_ciK (mc := 2) (ms := 6 * 2) (S := S3) (w := gS c h) (P := (fun (k : Int) (u : S3) => (∃ z : Int, k = (if iz z = 0 then 0 else 1) ∧ thC sg mi = 0 ∧ CS σ (u2 σ 2 sg.toNat mi) (stFine (u2 σ 2 sg.toNat mi) sg) z u.1 ∧ GI u.1 ∧ u.2.2 = ω) ∨ (u = (σ, κ, ω) ∧ ((k = -71 ∧ thC sg mi = 1) ∨ (k = -72 ∧ thC sg mi = 2))))) (z_lrunH (na := 5) (rm := { frames := 8, cells := 2, slots := 6 * 2, locals := 127 }) hC.1 hC.2.1 hC.2.2.1 hC.2.2.2.1 hC.2.2.2.2.1 hC.2.2.2.2.2 hP hS (c_L_act1 l h D c σ κ ω hC.2.2.2.2.1.1 hG sg hsg mi hmi x0 hst _) mp_23 mp_24 mp_25 mp_26 rfl rfl ⟨by decide, by decide, rfl⟩ hR (As := [.ref (h 0), .int (iz 1), .int (iz sg), .int (iz mi), .int (iz x0)]) (rest := rest) rfl hsz rfl hW9 hd hf) hC.2.2.2.2.1 hC.2.2.2.2.2 hS (fun k u H locs hp hP hS => kk k u H locs hp hP hS)
theorem hx_act1_1 (hst : l.stackTraces = false) (hC : CX p m cd cc nL s args h D c A) (hP : zB 32 h D (gC c h σ κ ω) H) (hS : va_S A s.heap H locs) (hG : GI σ) {sg mi x0 : Int} (hsg : -2147483648 ≤ sg ∧ sg ≤ 2147483647) (hmi : -2147483648 ≤ mi ∧ mi ≤ 2147483647) (hq : thC sg mi = 1) (hd : decode cc pc = .ok (.invokestatic 79, 3)) (hsz : ls.size = nL) (hW9 : (rest.map fun v => v.category).sum ≤ 8) (hR : 8 + 1 ≤ R.frames ∧ 8 + (6 + 11) + 127 ≤ R.locals) (hf : cells + 2 ≤ R.cells ∧ slots + 6 * 2 ≤ R.slots)
    (kk : ∀ (H1 : Heap) (locs1 : List Loc), zB 32 h D (gC c h σ κ ω) H1 → va_S A s.heap H1 locs1 → W p l e R s m args below meth cd H1 locs1 (cells + 2) (slots + 6 * 2) Q (F0 m (pc + 3) ls (.int (iz (-71)) :: rest))) :
    W p l e R s m args below meth cd H locs cells slots Q (F0 m pc ls (.int (iz x0) :: .int (iz mi) :: .int (iz sg) :: .int (iz 1) :: .ref (h 0) :: rest)) := by
  refine hg_act1 hst hC hP hS hG hsg hmi hd hsz hW9 hR hf (fun k u H locs hp hP hS => ?_)
  have hh : k = -71 ∧ u = (σ, κ, ω) := by
    rcases hp with ⟨z, _, q1, _⟩ | ⟨hu, hk⟩
    · exfalso; omega
    · exact ⟨by omega, hu⟩
  obtain ⟨rfl, rfl⟩ := hh
  exact kk H locs hP hS
theorem hx_act1_2 (hst : l.stackTraces = false) (hC : CX p m cd cc nL s args h D c A) (hP : zB 32 h D (gC c h σ κ ω) H) (hS : va_S A s.heap H locs) (hG : GI σ) {sg mi x0 : Int} (hsg : -2147483648 ≤ sg ∧ sg ≤ 2147483647) (hmi : -2147483648 ≤ mi ∧ mi ≤ 2147483647) (hq : thC sg mi = 2) (hd : decode cc pc = .ok (.invokestatic 79, 3)) (hsz : ls.size = nL) (hW9 : (rest.map fun v => v.category).sum ≤ 8) (hR : 8 + 1 ≤ R.frames ∧ 8 + (6 + 11) + 127 ≤ R.locals) (hf : cells + 2 ≤ R.cells ∧ slots + 6 * 2 ≤ R.slots)
    (kk : ∀ (H1 : Heap) (locs1 : List Loc), zB 32 h D (gC c h σ κ ω) H1 → va_S A s.heap H1 locs1 → W p l e R s m args below meth cd H1 locs1 (cells + 2) (slots + 6 * 2) Q (F0 m (pc + 3) ls (.int (iz (-72)) :: rest))) :
    W p l e R s m args below meth cd H locs cells slots Q (F0 m pc ls (.int (iz x0) :: .int (iz mi) :: .int (iz sg) :: .int (iz 1) :: .ref (h 0) :: rest)) := by
  refine hg_act1 hst hC hP hS hG hsg hmi hd hsz hW9 hR hf (fun k u H locs hp hP hS => ?_)
  have hh : k = -72 ∧ u = (σ, κ, ω) := by
    rcases hp with ⟨z, _, q1, _⟩ | ⟨hu, hk⟩
    · exfalso; omega
    · exact ⟨by omega, hu⟩
  obtain ⟨rfl, rfl⟩ := hh
  exact kk H locs hP hS
theorem hg_act2 (hst : l.stackTraces = false) (hC : CX p m cd cc nL s args h D c A) (hP : zB 32 h D (gC c h σ κ ω) H) (hS : va_S A s.heap H locs) (hG : GI σ) {hs bd x0 : Int} (hhs : -2147483648 ≤ hs ∧ hs ≤ 2147483647) (hbd : -2147483648 ≤ bd ∧ bd ≤ 2147483647) (hd : decode cc pc = .ok (.invokestatic 79, 3)) (hsz : ls.size = nL) (hW9 : (rest.map fun v => v.category).sum ≤ 8) (hR : 8 + 1 ≤ R.frames ∧ 8 + (6 + 11) + 145 ≤ R.locals) (hf : cells + 2 ≤ R.cells ∧ slots + 6 * 2 ≤ R.slots)
    (kk : ∀ (k : Int) (u : S3) (H1 : Heap) (locs1 : List Loc), (fun (k : Int) (u : S3) => (∃ z : Int, k = (if iz z = 0 then 0 else 1) ∧ thB hs bd = 0 ∧ CS σ (u2 σ 3 hs.toNat bd) (bw (u2 σ 3 hs.toNat bd) 0 1000 = 0) z u.1 ∧ GI u.1 ∧ u.2.2 = ω) ∨ (u = (σ, κ, ω) ∧ ((k = -71 ∧ thB hs bd = 1) ∨ (k = -72 ∧ thB hs bd = 2)))) k u → zB 32 h D (gS c h u) H1 → va_S A s.heap H1 locs1 → W p l e R s m args below meth cd H1 locs1 (cells + 2) (slots + 6 * 2) Q (F0 m (pc + 3) ls (.int (iz k) :: rest))) :
    W p l e R s m args below meth cd H locs cells slots Q (F0 m pc ls (.int (iz x0) :: .int (iz bd) :: .int (iz hs) :: .int (iz 2) :: .ref (h 0) :: rest)) :=
  z_ciK (mc := 2) (ms := 6 * 2) (S := S3) (w := gS c h) (P := (fun (k : Int) (u : S3) => (∃ z : Int, k = (if iz z = 0 then 0 else 1) ∧ thB hs bd = 0 ∧ CS σ (u2 σ 3 hs.toNat bd) (bw (u2 σ 3 hs.toNat bd) 0 1000 = 0) z u.1 ∧ GI u.1 ∧ u.2.2 = ω) ∨ (u = (σ, κ, ω) ∧ ((k = -71 ∧ thB hs bd = 1) ∨ (k = -72 ∧ thB hs bd = 2))))) (z_lrunH (na := 5) (rm := { frames := 8, cells := 2, slots := 6 * 2, locals := 145 }) hC.1 hC.2.1 hC.2.2.1 hC.2.2.2.1 hC.2.2.2.2.1 hC.2.2.2.2.2 hP hS (c_L_act2 l h D c σ κ ω hC.2.2.2.2.1.1 hG hs hhs bd hbd x0 hst _) mp_23 mp_24 mp_25 mp_26 rfl rfl ⟨by decide, by decide, rfl⟩ hR (As := [.ref (h 0), .int (iz 2), .int (iz hs), .int (iz bd), .int (iz x0)]) (rest := rest) rfl hsz rfl hW9 hd hf) hC.2.2.2.2.1 hC.2.2.2.2.2 hS (fun k u H locs hp hP hS => kk k u H locs hp hP hS)
theorem hx_act2_1 (hst : l.stackTraces = false) (hC : CX p m cd cc nL s args h D c A) (hP : zB 32 h D (gC c h σ κ ω) H) (hS : va_S A s.heap H locs) (hG : GI σ) {hs bd x0 : Int} (hhs : -2147483648 ≤ hs ∧ hs ≤ 2147483647) (hbd : -2147483648 ≤ bd ∧ bd ≤ 2147483647) (hq : thB hs bd = 1) (hd : decode cc pc = .ok (.invokestatic 79, 3)) (hsz : ls.size = nL) (hW9 : (rest.map fun v => v.category).sum ≤ 8) (hR : 8 + 1 ≤ R.frames ∧ 8 + (6 + 11) + 145 ≤ R.locals) (hf : cells + 2 ≤ R.cells ∧ slots + 6 * 2 ≤ R.slots)
    (kk : ∀ (H1 : Heap) (locs1 : List Loc), zB 32 h D (gC c h σ κ ω) H1 → va_S A s.heap H1 locs1 → W p l e R s m args below meth cd H1 locs1 (cells + 2) (slots + 6 * 2) Q (F0 m (pc + 3) ls (.int (iz (-71)) :: rest))) :
    W p l e R s m args below meth cd H locs cells slots Q (F0 m pc ls (.int (iz x0) :: .int (iz bd) :: .int (iz hs) :: .int (iz 2) :: .ref (h 0) :: rest)) := by
  refine hg_act2 hst hC hP hS hG hhs hbd hd hsz hW9 hR hf (fun k u H locs hp hP hS => ?_)
  have hh : k = -71 ∧ u = (σ, κ, ω) := by
    rcases hp with ⟨z, _, q1, _⟩ | ⟨hu, hk⟩
    · exfalso; omega
    · exact ⟨by omega, hu⟩
  obtain ⟨rfl, rfl⟩ := hh
  exact kk H locs hP hS
theorem hx_act2_2 (hst : l.stackTraces = false) (hC : CX p m cd cc nL s args h D c A) (hP : zB 32 h D (gC c h σ κ ω) H) (hS : va_S A s.heap H locs) (hG : GI σ) {hs bd x0 : Int} (hhs : -2147483648 ≤ hs ∧ hs ≤ 2147483647) (hbd : -2147483648 ≤ bd ∧ bd ≤ 2147483647) (hq : thB hs bd = 2) (hd : decode cc pc = .ok (.invokestatic 79, 3)) (hsz : ls.size = nL) (hW9 : (rest.map fun v => v.category).sum ≤ 8) (hR : 8 + 1 ≤ R.frames ∧ 8 + (6 + 11) + 145 ≤ R.locals) (hf : cells + 2 ≤ R.cells ∧ slots + 6 * 2 ≤ R.slots)
    (kk : ∀ (H1 : Heap) (locs1 : List Loc), zB 32 h D (gC c h σ κ ω) H1 → va_S A s.heap H1 locs1 → W p l e R s m args below meth cd H1 locs1 (cells + 2) (slots + 6 * 2) Q (F0 m (pc + 3) ls (.int (iz (-72)) :: rest))) :
    W p l e R s m args below meth cd H locs cells slots Q (F0 m pc ls (.int (iz x0) :: .int (iz bd) :: .int (iz hs) :: .int (iz 2) :: .ref (h 0) :: rest)) := by
  refine hg_act2 hst hC hP hS hG hhs hbd hd hsz hW9 hR hf (fun k u H locs hp hP hS => ?_)
  have hh : k = -72 ∧ u = (σ, κ, ω) := by
    rcases hp with ⟨z, _, q1, _⟩ | ⟨hu, hk⟩
    · exfalso; omega
    · exact ⟨by omega, hu⟩
  obtain ⟨rfl, rfl⟩ := hh
  exact kk H locs hP hS
theorem hg_act3 (hst : l.stackTraces = false) (hC : CX p m cd cc nL s args h D c A) (hP : zB 32 h D (gC c h σ κ ω) H) (hS : va_S A s.heap H locs) (hG : GI σ) {hr9 wn x0 : Int} (hhr9 : -2147483648 ≤ hr9 ∧ hr9 ≤ 2147483647) (hwn : -2147483648 ≤ wn ∧ wn ≤ 2147483647) (hd : decode cc pc = .ok (.invokestatic 79, 3)) (hsz : ls.size = nL) (hW9 : (rest.map fun v => v.category).sum ≤ 8) (hR : 8 + 1 ≤ R.frames ∧ 8 + (6 + 11) + 145 ≤ R.locals) (hf : cells + 1 ≤ R.cells ∧ slots + 6 * 1 ≤ R.slots)
    (kk : ∀ (k : Int) (u : S3) (H1 : Heap) (locs1 : List Loc), (fun (k : Int) (u : S3) => (∃ z : Int, k = (if iz z = 0 then 0 else 1) ∧ thW hr9 wn = 0 ∧ CS σ (u2 σ 4 hr9.toNat wn) (bw (u2 σ 4 hr9.toNat wn) (hr9 * 60) (min (hr9 * 60 + 60) 1000) = 0) z u.1 ∧ GI u.1 ∧ u.2.2 = ω) ∨ (u = (σ, κ, ω) ∧ ((k = -71 ∧ thW hr9 wn = 1) ∨ (k = -72 ∧ thW hr9 wn = 2)))) k u → zB 32 h D (gS c h u) H1 → va_S A s.heap H1 locs1 → W p l e R s m args below meth cd H1 locs1 (cells + 1) (slots + 6 * 1) Q (F0 m (pc + 3) ls (.int (iz k) :: rest))) :
    W p l e R s m args below meth cd H locs cells slots Q (F0 m pc ls (.int (iz x0) :: .int (iz wn) :: .int (iz hr9) :: .int (iz 3) :: .ref (h 0) :: rest)) :=
  z_ciK (mc := 1) (ms := 6 * 1) (S := S3) (w := gS c h) (P := (fun (k : Int) (u : S3) => (∃ z : Int, k = (if iz z = 0 then 0 else 1) ∧ thW hr9 wn = 0 ∧ CS σ (u2 σ 4 hr9.toNat wn) (bw (u2 σ 4 hr9.toNat wn) (hr9 * 60) (min (hr9 * 60 + 60) 1000) = 0) z u.1 ∧ GI u.1 ∧ u.2.2 = ω) ∨ (u = (σ, κ, ω) ∧ ((k = -71 ∧ thW hr9 wn = 1) ∨ (k = -72 ∧ thW hr9 wn = 2))))) (z_lrunH (na := 5) (rm := { frames := 8, cells := 1, slots := 6 * 1, locals := 145 }) hC.1 hC.2.1 hC.2.2.1 hC.2.2.2.1 hC.2.2.2.2.1 hC.2.2.2.2.2 hP hS (c_L_act3 l h D c σ κ ω hC.2.2.2.2.1.1 hG hr9 hhr9 wn hwn x0 hst _) mp_23 mp_24 mp_25 mp_26 rfl rfl ⟨by decide, by decide, rfl⟩ hR (As := [.ref (h 0), .int (iz 3), .int (iz hr9), .int (iz wn), .int (iz x0)]) (rest := rest) rfl hsz rfl hW9 hd hf) hC.2.2.2.2.1 hC.2.2.2.2.2 hS (fun k u H locs hp hP hS => kk k u H locs hp hP hS)
theorem hx_act3_1 (hst : l.stackTraces = false) (hC : CX p m cd cc nL s args h D c A) (hP : zB 32 h D (gC c h σ κ ω) H) (hS : va_S A s.heap H locs) (hG : GI σ) {hr9 wn x0 : Int} (hhr9 : -2147483648 ≤ hr9 ∧ hr9 ≤ 2147483647) (hwn : -2147483648 ≤ wn ∧ wn ≤ 2147483647) (hq : thW hr9 wn = 1) (hd : decode cc pc = .ok (.invokestatic 79, 3)) (hsz : ls.size = nL) (hW9 : (rest.map fun v => v.category).sum ≤ 8) (hR : 8 + 1 ≤ R.frames ∧ 8 + (6 + 11) + 145 ≤ R.locals) (hf : cells + 1 ≤ R.cells ∧ slots + 6 * 1 ≤ R.slots)
    (kk : ∀ (H1 : Heap) (locs1 : List Loc), zB 32 h D (gC c h σ κ ω) H1 → va_S A s.heap H1 locs1 → W p l e R s m args below meth cd H1 locs1 (cells + 1) (slots + 6 * 1) Q (F0 m (pc + 3) ls (.int (iz (-71)) :: rest))) :
    W p l e R s m args below meth cd H locs cells slots Q (F0 m pc ls (.int (iz x0) :: .int (iz wn) :: .int (iz hr9) :: .int (iz 3) :: .ref (h 0) :: rest)) := by
  refine hg_act3 hst hC hP hS hG hhr9 hwn hd hsz hW9 hR hf (fun k u H locs hp hP hS => ?_)
  have hh : k = -71 ∧ u = (σ, κ, ω) := by
    rcases hp with ⟨z, _, q1, _⟩ | ⟨hu, hk⟩
    · exfalso; omega
    · exact ⟨by omega, hu⟩
  obtain ⟨rfl, rfl⟩ := hh
  exact kk H locs hP hS
theorem hx_act3_2 (hst : l.stackTraces = false) (hC : CX p m cd cc nL s args h D c A) (hP : zB 32 h D (gC c h σ κ ω) H) (hS : va_S A s.heap H locs) (hG : GI σ) {hr9 wn x0 : Int} (hhr9 : -2147483648 ≤ hr9 ∧ hr9 ≤ 2147483647) (hwn : -2147483648 ≤ wn ∧ wn ≤ 2147483647) (hq : thW hr9 wn = 2) (hd : decode cc pc = .ok (.invokestatic 79, 3)) (hsz : ls.size = nL) (hW9 : (rest.map fun v => v.category).sum ≤ 8) (hR : 8 + 1 ≤ R.frames ∧ 8 + (6 + 11) + 145 ≤ R.locals) (hf : cells + 1 ≤ R.cells ∧ slots + 6 * 1 ≤ R.slots)
    (kk : ∀ (H1 : Heap) (locs1 : List Loc), zB 32 h D (gC c h σ κ ω) H1 → va_S A s.heap H1 locs1 → W p l e R s m args below meth cd H1 locs1 (cells + 1) (slots + 6 * 1) Q (F0 m (pc + 3) ls (.int (iz (-72)) :: rest))) :
    W p l e R s m args below meth cd H locs cells slots Q (F0 m pc ls (.int (iz x0) :: .int (iz wn) :: .int (iz hr9) :: .int (iz 3) :: .ref (h 0) :: rest)) := by
  refine hg_act3 hst hC hP hS hG hhr9 hwn hd hsz hW9 hR hf (fun k u H locs hp hP hS => ?_)
  have hh : k = -72 ∧ u = (σ, κ, ω) := by
    rcases hp with ⟨z, _, q1, _⟩ | ⟨hu, hk⟩
    · exfalso; omega
    · exact ⟨by omega, hu⟩
  obtain ⟨rfl, rfl⟩ := hh
  exact kk H locs hP hS
theorem hg_act4 (hst : l.stackTraces = false) (hC : CX p m cd cc nL s args h D c A) (hP : zB 32 h D (gC c h σ κ ω) H) (hS : va_S A s.heap H locs) (hG : GI σ) {a mi x0 : Int} (ha : -2147483648 ≤ a ∧ a ≤ 2147483647) (hmi : -2147483648 ≤ mi ∧ mi ≤ 2147483647) (hd : decode cc pc = .ok (.invokestatic 79, 3)) (hsz : ls.size = nL) (hW9 : (rest.map fun v => v.category).sum ≤ 8) (hR : 9 + 1 ≤ R.frames ∧ 8 + (6 + 11) + 167 ≤ R.locals) (hf : cells + 3 ≤ R.cells ∧ slots + 6 * 3 ≤ R.slots)
    (kk : ∀ (k : Int) (u : S3) (H1 : Heap) (locs1 : List Loc), (fun (k : Int) (u : S3) => (∃ z : Int, k = (if iz z = 0 then 0 else 1) ∧ thM σ a mi = 0 ∧ CS σ (u2 σ 8 a.toNat mi) (bby (u2 σ 8 a.toNat mi) a.toNat = 0) z u.1 ∧ GI u.1 ∧ u.2.2 = ω) ∨ (u = (σ, κ, ω) ∧ ((k = -71 ∧ thM σ a mi = 1) ∨ (k = -72 ∧ thM σ a mi = 2) ∨ (k = -73 ∧ thM σ a mi = 3)))) k u → zB 32 h D (gS c h u) H1 → va_S A s.heap H1 locs1 → W p l e R s m args below meth cd H1 locs1 (cells + 3) (slots + 6 * 3) Q (F0 m (pc + 3) ls (.int (iz k) :: rest))) :
    W p l e R s m args below meth cd H locs cells slots Q (F0 m pc ls (.int (iz x0) :: .int (iz mi) :: .int (iz a) :: .int (iz 4) :: .ref (h 0) :: rest)) :=
  z_ciK (mc := 3) (ms := 6 * 3) (S := S3) (w := gS c h) (P := (fun (k : Int) (u : S3) => (∃ z : Int, k = (if iz z = 0 then 0 else 1) ∧ thM σ a mi = 0 ∧ CS σ (u2 σ 8 a.toNat mi) (bby (u2 σ 8 a.toNat mi) a.toNat = 0) z u.1 ∧ GI u.1 ∧ u.2.2 = ω) ∨ (u = (σ, κ, ω) ∧ ((k = -71 ∧ thM σ a mi = 1) ∨ (k = -72 ∧ thM σ a mi = 2) ∨ (k = -73 ∧ thM σ a mi = 3))))) (z_lrunH (na := 5) (rm := { frames := 9, cells := 3, slots := 6 * 3, locals := 167 }) hC.1 hC.2.1 hC.2.2.1 hC.2.2.2.1 hC.2.2.2.2.1 hC.2.2.2.2.2 hP hS (c_L_act4 l h D c σ κ ω hC.2.2.2.2.1.1 hG a ha mi hmi x0 hst _) mp_23 mp_24 mp_25 mp_26 rfl rfl ⟨by decide, by decide, rfl⟩ hR (As := [.ref (h 0), .int (iz 4), .int (iz a), .int (iz mi), .int (iz x0)]) (rest := rest) rfl hsz rfl hW9 hd hf) hC.2.2.2.2.1 hC.2.2.2.2.2 hS (fun k u H locs hp hP hS => kk k u H locs hp hP hS)
theorem hx_act4_1 (hst : l.stackTraces = false) (hC : CX p m cd cc nL s args h D c A) (hP : zB 32 h D (gC c h σ κ ω) H) (hS : va_S A s.heap H locs) (hG : GI σ) {a mi x0 : Int} (ha : -2147483648 ≤ a ∧ a ≤ 2147483647) (hmi : -2147483648 ≤ mi ∧ mi ≤ 2147483647) (hq : thM σ a mi = 1) (hd : decode cc pc = .ok (.invokestatic 79, 3)) (hsz : ls.size = nL) (hW9 : (rest.map fun v => v.category).sum ≤ 8) (hR : 9 + 1 ≤ R.frames ∧ 8 + (6 + 11) + 167 ≤ R.locals) (hf : cells + 3 ≤ R.cells ∧ slots + 6 * 3 ≤ R.slots)
    (kk : ∀ (H1 : Heap) (locs1 : List Loc), zB 32 h D (gC c h σ κ ω) H1 → va_S A s.heap H1 locs1 → W p l e R s m args below meth cd H1 locs1 (cells + 3) (slots + 6 * 3) Q (F0 m (pc + 3) ls (.int (iz (-71)) :: rest))) :
    W p l e R s m args below meth cd H locs cells slots Q (F0 m pc ls (.int (iz x0) :: .int (iz mi) :: .int (iz a) :: .int (iz 4) :: .ref (h 0) :: rest)) := by
  refine hg_act4 hst hC hP hS hG ha hmi hd hsz hW9 hR hf (fun k u H locs hp hP hS => ?_)
  have hh : k = -71 ∧ u = (σ, κ, ω) := by
    rcases hp with ⟨z, _, q1, _⟩ | ⟨hu, hk⟩
    · exfalso; omega
    · exact ⟨by omega, hu⟩
  obtain ⟨rfl, rfl⟩ := hh
  exact kk H locs hP hS
theorem hx_act4_2 (hst : l.stackTraces = false) (hC : CX p m cd cc nL s args h D c A) (hP : zB 32 h D (gC c h σ κ ω) H) (hS : va_S A s.heap H locs) (hG : GI σ) {a mi x0 : Int} (ha : -2147483648 ≤ a ∧ a ≤ 2147483647) (hmi : -2147483648 ≤ mi ∧ mi ≤ 2147483647) (hq : thM σ a mi = 2) (hd : decode cc pc = .ok (.invokestatic 79, 3)) (hsz : ls.size = nL) (hW9 : (rest.map fun v => v.category).sum ≤ 8) (hR : 9 + 1 ≤ R.frames ∧ 8 + (6 + 11) + 167 ≤ R.locals) (hf : cells + 3 ≤ R.cells ∧ slots + 6 * 3 ≤ R.slots)
    (kk : ∀ (H1 : Heap) (locs1 : List Loc), zB 32 h D (gC c h σ κ ω) H1 → va_S A s.heap H1 locs1 → W p l e R s m args below meth cd H1 locs1 (cells + 3) (slots + 6 * 3) Q (F0 m (pc + 3) ls (.int (iz (-72)) :: rest))) :
    W p l e R s m args below meth cd H locs cells slots Q (F0 m pc ls (.int (iz x0) :: .int (iz mi) :: .int (iz a) :: .int (iz 4) :: .ref (h 0) :: rest)) := by
  refine hg_act4 hst hC hP hS hG ha hmi hd hsz hW9 hR hf (fun k u H locs hp hP hS => ?_)
  have hh : k = -72 ∧ u = (σ, κ, ω) := by
    rcases hp with ⟨z, _, q1, _⟩ | ⟨hu, hk⟩
    · exfalso; omega
    · exact ⟨by omega, hu⟩
  obtain ⟨rfl, rfl⟩ := hh
  exact kk H locs hP hS
theorem hx_act4_3 (hst : l.stackTraces = false) (hC : CX p m cd cc nL s args h D c A) (hP : zB 32 h D (gC c h σ κ ω) H) (hS : va_S A s.heap H locs) (hG : GI σ) {a mi x0 : Int} (ha : -2147483648 ≤ a ∧ a ≤ 2147483647) (hmi : -2147483648 ≤ mi ∧ mi ≤ 2147483647) (hq : thM σ a mi = 3) (hd : decode cc pc = .ok (.invokestatic 79, 3)) (hsz : ls.size = nL) (hW9 : (rest.map fun v => v.category).sum ≤ 8) (hR : 9 + 1 ≤ R.frames ∧ 8 + (6 + 11) + 167 ≤ R.locals) (hf : cells + 3 ≤ R.cells ∧ slots + 6 * 3 ≤ R.slots)
    (kk : ∀ (H1 : Heap) (locs1 : List Loc), zB 32 h D (gC c h σ κ ω) H1 → va_S A s.heap H1 locs1 → W p l e R s m args below meth cd H1 locs1 (cells + 3) (slots + 6 * 3) Q (F0 m (pc + 3) ls (.int (iz (-73)) :: rest))) :
    W p l e R s m args below meth cd H locs cells slots Q (F0 m pc ls (.int (iz x0) :: .int (iz mi) :: .int (iz a) :: .int (iz 4) :: .ref (h 0) :: rest)) := by
  refine hg_act4 hst hC hP hS hG ha hmi hd hsz hW9 hR hf (fun k u H locs hp hP hS => ?_)
  have hh : k = -73 ∧ u = (σ, κ, ω) := by
    rcases hp with ⟨z, _, q1, _⟩ | ⟨hu, hk⟩
    · exfalso; omega
    · exact ⟨by omega, hu⟩
  obtain ⟨rfl, rfl⟩ := hh
  exact kk H locs hP hS
theorem hg_act5 (hst : l.stackTraces = false) (hC : CX p m cd cc nL s args h D c A) (hP : zB 32 h D (gC c h σ κ ω) H) (hS : va_S A s.heap H locs) (hG : GI σ) {a x0 x1 : Int} (ha : -2147483648 ≤ a ∧ a ≤ 2147483647) (hd : decode cc pc = .ok (.invokestatic 79, 3)) (hsz : ls.size = nL) (hW9 : (rest.map fun v => v.category).sum ≤ 8) (hR : 8 + 1 ≤ R.frames ∧ 8 + (6 + 11) + 124 ≤ R.locals) (hf : cells + 1 ≤ R.cells ∧ slots + 6 * 1 ≤ R.slots)
    (kk : ∀ (k : Int) (u : S3) (H1 : Heap) (locs1 : List Loc), (fun (k : Int) (u : S3) => (∃ z : Int, k = z ∧ th1 σ a = 0 ∧ (z = if σ 14 a.toNat = 0 then -1 else σ 8 a.toNat) ∧ u.1 = σ ∧ u.2.2 = ω) ∨ (u = (σ, κ, ω) ∧ ((k = -71 ∧ th1 σ a = 1)))) k u → zB 32 h D (gS c h u) H1 → va_S A s.heap H1 locs1 → W p l e R s m args below meth cd H1 locs1 (cells + 1) (slots + 6 * 1) Q (F0 m (pc + 3) ls (.int (iz k) :: rest))) :
    W p l e R s m args below meth cd H locs cells slots Q (F0 m pc ls (.int (iz x1) :: .int (iz x0) :: .int (iz a) :: .int (iz 5) :: .ref (h 0) :: rest)) :=
  z_ciK (mc := 1) (ms := 6 * 1) (S := S3) (w := gS c h) (P := (fun (k : Int) (u : S3) => (∃ z : Int, k = z ∧ th1 σ a = 0 ∧ (z = if σ 14 a.toNat = 0 then -1 else σ 8 a.toNat) ∧ u.1 = σ ∧ u.2.2 = ω) ∨ (u = (σ, κ, ω) ∧ ((k = -71 ∧ th1 σ a = 1))))) (z_lrunH (na := 5) (rm := { frames := 8, cells := 1, slots := 6 * 1, locals := 124 }) hC.1 hC.2.1 hC.2.2.1 hC.2.2.2.1 hC.2.2.2.2.1 hC.2.2.2.2.2 hP hS (c_L_act5 l h D c σ κ ω hC.2.2.2.2.1.1 hG a ha x0 x1 hst _) mp_23 mp_24 mp_25 mp_26 rfl rfl ⟨by decide, by decide, rfl⟩ hR (As := [.ref (h 0), .int (iz 5), .int (iz a), .int (iz x0), .int (iz x1)]) (rest := rest) rfl hsz rfl hW9 hd hf) hC.2.2.2.2.1 hC.2.2.2.2.2 hS (fun k u H locs hp hP hS => kk k u H locs hp hP hS)
theorem hx_act5_1 (hst : l.stackTraces = false) (hC : CX p m cd cc nL s args h D c A) (hP : zB 32 h D (gC c h σ κ ω) H) (hS : va_S A s.heap H locs) (hG : GI σ) {a x0 x1 : Int} (ha : -2147483648 ≤ a ∧ a ≤ 2147483647) (hq : th1 σ a = 1) (hd : decode cc pc = .ok (.invokestatic 79, 3)) (hsz : ls.size = nL) (hW9 : (rest.map fun v => v.category).sum ≤ 8) (hR : 8 + 1 ≤ R.frames ∧ 8 + (6 + 11) + 124 ≤ R.locals) (hf : cells + 1 ≤ R.cells ∧ slots + 6 * 1 ≤ R.slots)
    (kk : ∀ (H1 : Heap) (locs1 : List Loc), zB 32 h D (gC c h σ κ ω) H1 → va_S A s.heap H1 locs1 → W p l e R s m args below meth cd H1 locs1 (cells + 1) (slots + 6 * 1) Q (F0 m (pc + 3) ls (.int (iz (-71)) :: rest))) :
    W p l e R s m args below meth cd H locs cells slots Q (F0 m pc ls (.int (iz x1) :: .int (iz x0) :: .int (iz a) :: .int (iz 5) :: .ref (h 0) :: rest)) := by
  refine hg_act5 hst hC hP hS hG ha hd hsz hW9 hR hf (fun k u H locs hp hP hS => ?_)
  have hh : k = -71 ∧ u = (σ, κ, ω) := by
    rcases hp with ⟨z, _, q1, _⟩ | ⟨hu, hk⟩
    · exfalso; omega
    · exact ⟨by omega, hu⟩
  obtain ⟨rfl, rfl⟩ := hh
  exact kk H locs hP hS
theorem hg_act6 (hst : l.stackTraces = false) (hC : CX p m cd cc nL s args h D c A) (hP : zB 32 h D (gC c h σ κ ω) H) (hS : va_S A s.heap H locs) (hG : GI σ) {a mi x0 : Int} (ha : -2147483648 ≤ a ∧ a ≤ 2147483647) (hmi : -2147483648 ≤ mi ∧ mi ≤ 2147483647) (hlen : ∀ k, k < 16 → σ 14 k ≠ 0 → 1 ≤ σ 9 k) (hd : decode cc pc = .ok (.invokestatic 79, 3)) (hsz : ls.size = nL) (hW9 : (rest.map fun v => v.category).sum ≤ 8) (hR : 9 + 1 ≤ R.frames ∧ 8 + (6 + 11) + 149 ≤ R.locals) (hf : cells + 3 ≤ R.cells ∧ slots + 6 * 3 ≤ R.slots)
    (kk : ∀ (k : Int) (u : S3) (H1 : Heap) (locs1 : List Loc), (fun (k : Int) (u : S3) => (∃ z : Int, k = z ∧ thM σ a mi = 0 ∧ (∃ σ9, FFS σ a.toNat mi z σ9) ∧ u.1 = σ ∧ u.2.2 = ω) ∨ (u = (σ, κ, ω) ∧ ((k = -71 ∧ thM σ a mi = 1) ∨ (k = -72 ∧ thM σ a mi = 2) ∨ (k = -73 ∧ thM σ a mi = 3)))) k u → zB 32 h D (gS c h u) H1 → va_S A s.heap H1 locs1 → W p l e R s m args below meth cd H1 locs1 (cells + 3) (slots + 6 * 3) Q (F0 m (pc + 3) ls (.int (iz k) :: rest))) :
    W p l e R s m args below meth cd H locs cells slots Q (F0 m pc ls (.int (iz x0) :: .int (iz mi) :: .int (iz a) :: .int (iz 6) :: .ref (h 0) :: rest)) :=
  z_ciK (mc := 3) (ms := 6 * 3) (S := S3) (w := gS c h) (P := (fun (k : Int) (u : S3) => (∃ z : Int, k = z ∧ thM σ a mi = 0 ∧ (∃ σ9, FFS σ a.toNat mi z σ9) ∧ u.1 = σ ∧ u.2.2 = ω) ∨ (u = (σ, κ, ω) ∧ ((k = -71 ∧ thM σ a mi = 1) ∨ (k = -72 ∧ thM σ a mi = 2) ∨ (k = -73 ∧ thM σ a mi = 3))))) (z_lrunH (na := 5) (rm := { frames := 9, cells := 3, slots := 6 * 3, locals := 149 }) hC.1 hC.2.1 hC.2.2.1 hC.2.2.2.1 hC.2.2.2.2.1 hC.2.2.2.2.2 hP hS (c_L_act6 l h D c σ κ ω hC.2.2.2.2.1.1 hG a ha mi hmi x0 hlen hst _) mp_23 mp_24 mp_25 mp_26 rfl rfl ⟨by decide, by decide, rfl⟩ hR (As := [.ref (h 0), .int (iz 6), .int (iz a), .int (iz mi), .int (iz x0)]) (rest := rest) rfl hsz rfl hW9 hd hf) hC.2.2.2.2.1 hC.2.2.2.2.2 hS (fun k u H locs hp hP hS => kk k u H locs hp hP hS)
theorem hx_act6_1 (hst : l.stackTraces = false) (hC : CX p m cd cc nL s args h D c A) (hP : zB 32 h D (gC c h σ κ ω) H) (hS : va_S A s.heap H locs) (hG : GI σ) {a mi x0 : Int} (ha : -2147483648 ≤ a ∧ a ≤ 2147483647) (hmi : -2147483648 ≤ mi ∧ mi ≤ 2147483647) (hlen : ∀ k, k < 16 → σ 14 k ≠ 0 → 1 ≤ σ 9 k) (hq : thM σ a mi = 1) (hd : decode cc pc = .ok (.invokestatic 79, 3)) (hsz : ls.size = nL) (hW9 : (rest.map fun v => v.category).sum ≤ 8) (hR : 9 + 1 ≤ R.frames ∧ 8 + (6 + 11) + 149 ≤ R.locals) (hf : cells + 3 ≤ R.cells ∧ slots + 6 * 3 ≤ R.slots)
    (kk : ∀ (H1 : Heap) (locs1 : List Loc), zB 32 h D (gC c h σ κ ω) H1 → va_S A s.heap H1 locs1 → W p l e R s m args below meth cd H1 locs1 (cells + 3) (slots + 6 * 3) Q (F0 m (pc + 3) ls (.int (iz (-71)) :: rest))) :
    W p l e R s m args below meth cd H locs cells slots Q (F0 m pc ls (.int (iz x0) :: .int (iz mi) :: .int (iz a) :: .int (iz 6) :: .ref (h 0) :: rest)) := by
  refine hg_act6 hst hC hP hS hG ha hmi hlen hd hsz hW9 hR hf (fun k u H locs hp hP hS => ?_)
  have hh : k = -71 ∧ u = (σ, κ, ω) := by
    rcases hp with ⟨z, _, q1, _⟩ | ⟨hu, hk⟩
    · exfalso; omega
    · exact ⟨by omega, hu⟩
  obtain ⟨rfl, rfl⟩ := hh
  exact kk H locs hP hS
theorem hx_act6_2 (hst : l.stackTraces = false) (hC : CX p m cd cc nL s args h D c A) (hP : zB 32 h D (gC c h σ κ ω) H) (hS : va_S A s.heap H locs) (hG : GI σ) {a mi x0 : Int} (ha : -2147483648 ≤ a ∧ a ≤ 2147483647) (hmi : -2147483648 ≤ mi ∧ mi ≤ 2147483647) (hlen : ∀ k, k < 16 → σ 14 k ≠ 0 → 1 ≤ σ 9 k) (hq : thM σ a mi = 2) (hd : decode cc pc = .ok (.invokestatic 79, 3)) (hsz : ls.size = nL) (hW9 : (rest.map fun v => v.category).sum ≤ 8) (hR : 9 + 1 ≤ R.frames ∧ 8 + (6 + 11) + 149 ≤ R.locals) (hf : cells + 3 ≤ R.cells ∧ slots + 6 * 3 ≤ R.slots)
    (kk : ∀ (H1 : Heap) (locs1 : List Loc), zB 32 h D (gC c h σ κ ω) H1 → va_S A s.heap H1 locs1 → W p l e R s m args below meth cd H1 locs1 (cells + 3) (slots + 6 * 3) Q (F0 m (pc + 3) ls (.int (iz (-72)) :: rest))) :
    W p l e R s m args below meth cd H locs cells slots Q (F0 m pc ls (.int (iz x0) :: .int (iz mi) :: .int (iz a) :: .int (iz 6) :: .ref (h 0) :: rest)) := by
  refine hg_act6 hst hC hP hS hG ha hmi hlen hd hsz hW9 hR hf (fun k u H locs hp hP hS => ?_)
  have hh : k = -72 ∧ u = (σ, κ, ω) := by
    rcases hp with ⟨z, _, q1, _⟩ | ⟨hu, hk⟩
    · exfalso; omega
    · exact ⟨by omega, hu⟩
  obtain ⟨rfl, rfl⟩ := hh
  exact kk H locs hP hS
theorem hx_act6_3 (hst : l.stackTraces = false) (hC : CX p m cd cc nL s args h D c A) (hP : zB 32 h D (gC c h σ κ ω) H) (hS : va_S A s.heap H locs) (hG : GI σ) {a mi x0 : Int} (ha : -2147483648 ≤ a ∧ a ≤ 2147483647) (hmi : -2147483648 ≤ mi ∧ mi ≤ 2147483647) (hlen : ∀ k, k < 16 → σ 14 k ≠ 0 → 1 ≤ σ 9 k) (hq : thM σ a mi = 3) (hd : decode cc pc = .ok (.invokestatic 79, 3)) (hsz : ls.size = nL) (hW9 : (rest.map fun v => v.category).sum ≤ 8) (hR : 9 + 1 ≤ R.frames ∧ 8 + (6 + 11) + 149 ≤ R.locals) (hf : cells + 3 ≤ R.cells ∧ slots + 6 * 3 ≤ R.slots)
    (kk : ∀ (H1 : Heap) (locs1 : List Loc), zB 32 h D (gC c h σ κ ω) H1 → va_S A s.heap H1 locs1 → W p l e R s m args below meth cd H1 locs1 (cells + 3) (slots + 6 * 3) Q (F0 m (pc + 3) ls (.int (iz (-73)) :: rest))) :
    W p l e R s m args below meth cd H locs cells slots Q (F0 m pc ls (.int (iz x0) :: .int (iz mi) :: .int (iz a) :: .int (iz 6) :: .ref (h 0) :: rest)) := by
  refine hg_act6 hst hC hP hS hG ha hmi hlen hd hsz hW9 hR hf (fun k u H locs hp hP hS => ?_)
  have hh : k = -73 ∧ u = (σ, κ, ω) := by
    rcases hp with ⟨z, _, q1, _⟩ | ⟨hu, hk⟩
    · exfalso; omega
    · exact ⟨by omega, hu⟩
  obtain ⟨rfl, rfl⟩ := hh
  exact kk H locs hP hS
theorem hg_act7 (hst : l.stackTraces = false) (hC : CX p m cd cc nL s args h D c A) (hP : zB 32 h D (gC c h σ κ ω) H) (hS : va_S A s.heap H locs) (hG : GI σ) {a x0 x1 : Int} (ha : -2147483648 ≤ a ∧ a ≤ 2147483647) (hn : ω.1 ≤ 6) (hby : ∀ j, j < ω.1 → ∃ x : Int, (97 ≤ x ∧ x ≤ 122) ∧ ω.2.1 j = iz x) (hd : decode cc pc = .ok (.invokestatic 79, 3)) (hsz : ls.size = nL) (hW9 : (rest.map fun v => v.category).sum ≤ 8) (hR : 9 + 1 ≤ R.frames ∧ 8 + (6 + 11) + 202 ≤ R.locals) (hf : cells + 5 ≤ R.cells ∧ slots + 6 * 5 ≤ R.slots)
    (kk : ∀ (k : Int) (u : S3) (H1 : Heap) (locs1 : List Loc), (fun (k : Int) (u : S3) => (∃ z : Int, k = (if iz z = 0 then 0 else 1) ∧ (∃ i : Int, TW ω i ∧ 0 ≤ i ∧ (0 ≤ a ∧ a ≤ σ 0 1 - 1) ∧ σ 14 a.toNat ≠ 0 ∧ CS σ (grT σ a.toNat i) (bby (grT σ a.toNat i) a.toNat = 0) z u.1 ∧ GI u.1) ∧ u.2.2 = ω) ∨ (u = (σ, κ, ω) ∧ ((k = -71 ∧ ¬ (0 ≤ a ∧ a ≤ σ 0 1 - 1)) ∨ (k = -73 ∧ (0 ≤ a ∧ a ≤ σ 0 1 - 1) ∧ (σ 14 a.toNat = 0 ∨ TW ω (-1)))))) k u → zB 32 h D (gS c h u) H1 → va_S A s.heap H1 locs1 → W p l e R s m args below meth cd H1 locs1 (cells + 5) (slots + 6 * 5) Q (F0 m (pc + 3) ls (.int (iz k) :: rest))) :
    W p l e R s m args below meth cd H locs cells slots Q (F0 m pc ls (.int (iz x1) :: .int (iz x0) :: .int (iz a) :: .int (iz 7) :: .ref (h 0) :: rest)) :=
  z_ciK (mc := 5) (ms := 6 * 5) (S := S3) (w := gS c h) (P := (fun (k : Int) (u : S3) => (∃ z : Int, k = (if iz z = 0 then 0 else 1) ∧ (∃ i : Int, TW ω i ∧ 0 ≤ i ∧ (0 ≤ a ∧ a ≤ σ 0 1 - 1) ∧ σ 14 a.toNat ≠ 0 ∧ CS σ (grT σ a.toNat i) (bby (grT σ a.toNat i) a.toNat = 0) z u.1 ∧ GI u.1) ∧ u.2.2 = ω) ∨ (u = (σ, κ, ω) ∧ ((k = -71 ∧ ¬ (0 ≤ a ∧ a ≤ σ 0 1 - 1)) ∨ (k = -73 ∧ (0 ≤ a ∧ a ≤ σ 0 1 - 1) ∧ (σ 14 a.toNat = 0 ∨ TW ω (-1))))))) (z_lrunH (na := 5) (rm := { frames := 9, cells := 5, slots := 6 * 5, locals := 202 }) hC.1 hC.2.1 hC.2.2.1 hC.2.2.2.1 hC.2.2.2.2.1 hC.2.2.2.2.2 hP hS (c_L_act7 l h D c σ κ ω hC.2.2.2.2.1.1 hG a ha x0 x1 hn hby hst _) mp_23 mp_24 mp_25 mp_26 rfl rfl ⟨by decide, by decide, rfl⟩ hR (As := [.ref (h 0), .int (iz 7), .int (iz a), .int (iz x0), .int (iz x1)]) (rest := rest) rfl hsz rfl hW9 hd hf) hC.2.2.2.2.1 hC.2.2.2.2.2 hS (fun k u H locs hp hP hS => kk k u H locs hp hP hS)
theorem hx_act7_1 (hst : l.stackTraces = false) (hC : CX p m cd cc nL s args h D c A) (hP : zB 32 h D (gC c h σ κ ω) H) (hS : va_S A s.heap H locs) (hG : GI σ) {a x0 x1 : Int} (ha : -2147483648 ≤ a ∧ a ≤ 2147483647) (hn : ω.1 ≤ 6) (hby : ∀ j, j < ω.1 → ∃ x : Int, (97 ≤ x ∧ x ≤ 122) ∧ ω.2.1 j = iz x) (hq : ¬ (0 ≤ a ∧ a ≤ σ 0 1 - 1)) (hd : decode cc pc = .ok (.invokestatic 79, 3)) (hsz : ls.size = nL) (hW9 : (rest.map fun v => v.category).sum ≤ 8) (hR : 9 + 1 ≤ R.frames ∧ 8 + (6 + 11) + 202 ≤ R.locals) (hf : cells + 5 ≤ R.cells ∧ slots + 6 * 5 ≤ R.slots)
    (kk : ∀ (H1 : Heap) (locs1 : List Loc), zB 32 h D (gC c h σ κ ω) H1 → va_S A s.heap H1 locs1 → W p l e R s m args below meth cd H1 locs1 (cells + 5) (slots + 6 * 5) Q (F0 m (pc + 3) ls (.int (iz (-71)) :: rest))) :
    W p l e R s m args below meth cd H locs cells slots Q (F0 m pc ls (.int (iz x1) :: .int (iz x0) :: .int (iz a) :: .int (iz 7) :: .ref (h 0) :: rest)) := by
  refine hg_act7 hst hC hP hS hG ha hn hby hd hsz hW9 hR hf (fun k u H locs hp hP hS => ?_)
  have hh : k = -71 ∧ u = (σ, κ, ω) := by
    rcases hp with ⟨z, _, ⟨i, _, _, q1, _⟩, _⟩ | ⟨hu, hk⟩
    · exact absurd q1 hq
    · rcases hk with ⟨hk, _⟩ | ⟨_, q1, _⟩
      · exact ⟨hk, hu⟩
      · exact absurd q1 hq
  obtain ⟨rfl, rfl⟩ := hh
  exact kk H locs hP hS
theorem hx_act7_2 (hst : l.stackTraces = false) (hC : CX p m cd cc nL s args h D c A) (hP : zB 32 h D (gC c h σ κ ω) H) (hS : va_S A s.heap H locs) (hG : GI σ) {a x0 x1 : Int} (ha : -2147483648 ≤ a ∧ a ≤ 2147483647) (hn : ω.1 ≤ 6) (hby : ∀ j, j < ω.1 → ∃ x : Int, (97 ≤ x ∧ x ≤ 122) ∧ ω.2.1 j = iz x) (hq : (0 ≤ a ∧ a ≤ σ 0 1 - 1) ∧ (σ 14 a.toNat = 0 ∨ ∀ i, TW ω i → i < 0)) (hd : decode cc pc = .ok (.invokestatic 79, 3)) (hsz : ls.size = nL) (hW9 : (rest.map fun v => v.category).sum ≤ 8) (hR : 9 + 1 ≤ R.frames ∧ 8 + (6 + 11) + 202 ≤ R.locals) (hf : cells + 5 ≤ R.cells ∧ slots + 6 * 5 ≤ R.slots)
    (kk : ∀ (H1 : Heap) (locs1 : List Loc), zB 32 h D (gC c h σ κ ω) H1 → va_S A s.heap H1 locs1 → W p l e R s m args below meth cd H1 locs1 (cells + 5) (slots + 6 * 5) Q (F0 m (pc + 3) ls (.int (iz (-73)) :: rest))) :
    W p l e R s m args below meth cd H locs cells slots Q (F0 m pc ls (.int (iz x1) :: .int (iz x0) :: .int (iz a) :: .int (iz 7) :: .ref (h 0) :: rest)) := by
  refine hg_act7 hst hC hP hS hG ha hn hby hd hsz hW9 hR hf (fun k u H locs hp hP hS => ?_)
  have hh : k = -73 ∧ u = (σ, κ, ω) := by
    rcases hp with ⟨z, _, ⟨i, q0, q1, _, q2, _⟩, _⟩ | ⟨hu, hk⟩
    · exfalso
      rcases hq.2 with q | q
      · exact q2 q
      · have := q i q0; omega
    · rcases hk with ⟨_, q1⟩ | ⟨hk, _⟩
      · exact absurd hq.1 q1
      · exact ⟨hk, hu⟩
  obtain ⟨rfl, rfl⟩ := hh
  exact kk H locs hP hS
theorem hg_act8 (hst : l.stackTraces = false) (hC : CX p m cd cc nL s args h D c A) (hP : zB 32 h D (gC c h σ κ ω) H) (hS : va_S A s.heap H locs) (hG : GI σ) {a wh x0 : Int} (ha : -2147483648 ≤ a ∧ a ≤ 2147483647) (hwh : -2147483648 ≤ wh ∧ wh ≤ 2147483647) (hd : decode cc pc = .ok (.invokestatic 79, 3)) (hsz : ls.size = nL) (hW9 : (rest.map fun v => v.category).sum ≤ 8) (hR : 8 + 1 ≤ R.frames ∧ 8 + (6 + 11) + 125 ≤ R.locals) (hf : cells + 2 ≤ R.cells ∧ slots + 6 * 2 ≤ R.slots)
    (kk : ∀ (k : Int) (u : S3) (H1 : Heap) (locs1 : List Loc), (fun (k : Int) (u : S3) => (∃ z : Int, k = z ∧ thO σ a wh = 0 ∧ (z = if wh = 0 then σ 11 a.toNat else if wh = 1 then σ 12 a.toNat else σ 13 a.toNat) ∧ u.1 = σ ∧ u.2.2 = ω) ∨ (u = (σ, κ, ω) ∧ ((k = -71 ∧ thO σ a wh = 1)))) k u → zB 32 h D (gS c h u) H1 → va_S A s.heap H1 locs1 → W p l e R s m args below meth cd H1 locs1 (cells + 2) (slots + 6 * 2) Q (F0 m (pc + 3) ls (.int (iz k) :: rest))) :
    W p l e R s m args below meth cd H locs cells slots Q (F0 m pc ls (.int (iz x0) :: .int (iz wh) :: .int (iz a) :: .int (iz 8) :: .ref (h 0) :: rest)) :=
  z_ciK (mc := 2) (ms := 6 * 2) (S := S3) (w := gS c h) (P := (fun (k : Int) (u : S3) => (∃ z : Int, k = z ∧ thO σ a wh = 0 ∧ (z = if wh = 0 then σ 11 a.toNat else if wh = 1 then σ 12 a.toNat else σ 13 a.toNat) ∧ u.1 = σ ∧ u.2.2 = ω) ∨ (u = (σ, κ, ω) ∧ ((k = -71 ∧ thO σ a wh = 1))))) (z_lrunH (na := 5) (rm := { frames := 8, cells := 2, slots := 6 * 2, locals := 125 }) hC.1 hC.2.1 hC.2.2.1 hC.2.2.2.1 hC.2.2.2.2.1 hC.2.2.2.2.2 hP hS (c_L_act8 l h D c σ κ ω hC.2.2.2.2.1.1 hG a ha wh hwh x0 hst _) mp_23 mp_24 mp_25 mp_26 rfl rfl ⟨by decide, by decide, rfl⟩ hR (As := [.ref (h 0), .int (iz 8), .int (iz a), .int (iz wh), .int (iz x0)]) (rest := rest) rfl hsz rfl hW9 hd hf) hC.2.2.2.2.1 hC.2.2.2.2.2 hS (fun k u H locs hp hP hS => kk k u H locs hp hP hS)
theorem hx_act8_1 (hst : l.stackTraces = false) (hC : CX p m cd cc nL s args h D c A) (hP : zB 32 h D (gC c h σ κ ω) H) (hS : va_S A s.heap H locs) (hG : GI σ) {a wh x0 : Int} (ha : -2147483648 ≤ a ∧ a ≤ 2147483647) (hwh : -2147483648 ≤ wh ∧ wh ≤ 2147483647) (hq : thO σ a wh = 1) (hd : decode cc pc = .ok (.invokestatic 79, 3)) (hsz : ls.size = nL) (hW9 : (rest.map fun v => v.category).sum ≤ 8) (hR : 8 + 1 ≤ R.frames ∧ 8 + (6 + 11) + 125 ≤ R.locals) (hf : cells + 2 ≤ R.cells ∧ slots + 6 * 2 ≤ R.slots)
    (kk : ∀ (H1 : Heap) (locs1 : List Loc), zB 32 h D (gC c h σ κ ω) H1 → va_S A s.heap H1 locs1 → W p l e R s m args below meth cd H1 locs1 (cells + 2) (slots + 6 * 2) Q (F0 m (pc + 3) ls (.int (iz (-71)) :: rest))) :
    W p l e R s m args below meth cd H locs cells slots Q (F0 m pc ls (.int (iz x0) :: .int (iz wh) :: .int (iz a) :: .int (iz 8) :: .ref (h 0) :: rest)) := by
  refine hg_act8 hst hC hP hS hG ha hwh hd hsz hW9 hR hf (fun k u H locs hp hP hS => ?_)
  have hh : k = -71 ∧ u = (σ, κ, ω) := by
    rcases hp with ⟨z, _, q1, _⟩ | ⟨hu, hk⟩
    · exfalso; omega
    · exact ⟨by omega, hu⟩
  obtain ⟨rfl, rfl⟩ := hh
  exact kk H locs hP hS
theorem hg_act9 (hst : l.stackTraces = false) (hC : CX p m cd cc nL s args h D c A) (hP : zB 32 h D (gC c h σ κ ω) H) (hS : va_S A s.heap H locs) (hG : GI σ) {sg mi du : Int} (hsg : -2147483648 ≤ sg ∧ sg ≤ 2147483647) (hmi : -2147483648 ≤ mi ∧ mi ≤ 2147483647) (hdu : -2147483648 ≤ du ∧ du ≤ 2147483647) (hlen : ∀ k, k < 16 → σ 14 k ≠ 0 → 1 ≤ σ 9 k) (hwt : ∀ k, k < 16 → σ 15 k = 0) (hd : decode cc pc = .ok (.invokestatic 79, 3)) (hsz : ls.size = nL) (hW9 : (rest.map fun v => v.category).sum ≤ 8) (hR : 9 + 1 ≤ R.frames ∧ 8 + (6 + 11) + 169 ≤ R.locals) (hf : cells + 4 ≤ R.cells ∧ slots + 6 * 4 ≤ R.slots)
    (kk : ∀ (k : Int) (u : S3) (H1 : Heap) (locs1 : List Loc), (fun (k : Int) (u : S3) => (∃ z : Int, k = z ∧ thX σ sg mi du = 0 ∧ (∃ σ1, COF (stC σ sg mi (min (mi + du) 1000)) (σ 0 2).toNat σ1 ∧ GI σ1 ∧ RPn (min (mi + du) 1000) 16 σ1 0 u.1 z) ∧ GI u.1 ∧ u.2.2 = ω) ∨ (u = (σ, κ, ω) ∧ ((k = -71 ∧ thX σ sg mi du = 1) ∨ (k = -72 ∧ thX σ sg mi du = 2) ∨ (k = -73 ∧ thX σ sg mi du = 3)))) k u → zB 32 h D (gS c h u) H1 → va_S A s.heap H1 locs1 → W p l e R s m args below meth cd H1 locs1 (cells + 4) (slots + 6 * 4) Q (F0 m (pc + 3) ls (.int (iz k) :: rest))) :
    W p l e R s m args below meth cd H locs cells slots Q (F0 m pc ls (.int (iz du) :: .int (iz mi) :: .int (iz sg) :: .int (iz 9) :: .ref (h 0) :: rest)) :=
  z_ciK (mc := 4) (ms := 6 * 4) (S := S3) (w := gS c h) (P := (fun (k : Int) (u : S3) => (∃ z : Int, k = z ∧ thX σ sg mi du = 0 ∧ (∃ σ1, COF (stC σ sg mi (min (mi + du) 1000)) (σ 0 2).toNat σ1 ∧ GI σ1 ∧ RPn (min (mi + du) 1000) 16 σ1 0 u.1 z) ∧ GI u.1 ∧ u.2.2 = ω) ∨ (u = (σ, κ, ω) ∧ ((k = -71 ∧ thX σ sg mi du = 1) ∨ (k = -72 ∧ thX σ sg mi du = 2) ∨ (k = -73 ∧ thX σ sg mi du = 3))))) (z_lrunH (na := 5) (rm := { frames := 9, cells := 4, slots := 6 * 4, locals := 169 }) hC.1 hC.2.1 hC.2.2.1 hC.2.2.2.1 hC.2.2.2.2.1 hC.2.2.2.2.2 hP hS (c_L_act9 l h D c σ κ ω hC.2.2.2.2.1.1 hG sg hsg mi hmi du hdu hlen hwt hst _) mp_23 mp_24 mp_25 mp_26 rfl rfl ⟨by decide, by decide, rfl⟩ hR (As := [.ref (h 0), .int (iz 9), .int (iz sg), .int (iz mi), .int (iz du)]) (rest := rest) rfl hsz rfl hW9 hd hf) hC.2.2.2.2.1 hC.2.2.2.2.2 hS (fun k u H locs hp hP hS => kk k u H locs hp hP hS)
theorem hx_act9_1 (hst : l.stackTraces = false) (hC : CX p m cd cc nL s args h D c A) (hP : zB 32 h D (gC c h σ κ ω) H) (hS : va_S A s.heap H locs) (hG : GI σ) {sg mi du : Int} (hsg : -2147483648 ≤ sg ∧ sg ≤ 2147483647) (hmi : -2147483648 ≤ mi ∧ mi ≤ 2147483647) (hdu : -2147483648 ≤ du ∧ du ≤ 2147483647) (hlen : ∀ k, k < 16 → σ 14 k ≠ 0 → 1 ≤ σ 9 k) (hwt : ∀ k, k < 16 → σ 15 k = 0) (hq : thX σ sg mi du = 1) (hd : decode cc pc = .ok (.invokestatic 79, 3)) (hsz : ls.size = nL) (hW9 : (rest.map fun v => v.category).sum ≤ 8) (hR : 9 + 1 ≤ R.frames ∧ 8 + (6 + 11) + 169 ≤ R.locals) (hf : cells + 4 ≤ R.cells ∧ slots + 6 * 4 ≤ R.slots)
    (kk : ∀ (H1 : Heap) (locs1 : List Loc), zB 32 h D (gC c h σ κ ω) H1 → va_S A s.heap H1 locs1 → W p l e R s m args below meth cd H1 locs1 (cells + 4) (slots + 6 * 4) Q (F0 m (pc + 3) ls (.int (iz (-71)) :: rest))) :
    W p l e R s m args below meth cd H locs cells slots Q (F0 m pc ls (.int (iz du) :: .int (iz mi) :: .int (iz sg) :: .int (iz 9) :: .ref (h 0) :: rest)) := by
  refine hg_act9 hst hC hP hS hG hsg hmi hdu hlen hwt hd hsz hW9 hR hf (fun k u H locs hp hP hS => ?_)
  have hh : k = -71 ∧ u = (σ, κ, ω) := by
    rcases hp with ⟨z, _, q1, _⟩ | ⟨hu, hk⟩
    · exfalso; omega
    · exact ⟨by omega, hu⟩
  obtain ⟨rfl, rfl⟩ := hh
  exact kk H locs hP hS
theorem hx_act9_2 (hst : l.stackTraces = false) (hC : CX p m cd cc nL s args h D c A) (hP : zB 32 h D (gC c h σ κ ω) H) (hS : va_S A s.heap H locs) (hG : GI σ) {sg mi du : Int} (hsg : -2147483648 ≤ sg ∧ sg ≤ 2147483647) (hmi : -2147483648 ≤ mi ∧ mi ≤ 2147483647) (hdu : -2147483648 ≤ du ∧ du ≤ 2147483647) (hlen : ∀ k, k < 16 → σ 14 k ≠ 0 → 1 ≤ σ 9 k) (hwt : ∀ k, k < 16 → σ 15 k = 0) (hq : thX σ sg mi du = 2) (hd : decode cc pc = .ok (.invokestatic 79, 3)) (hsz : ls.size = nL) (hW9 : (rest.map fun v => v.category).sum ≤ 8) (hR : 9 + 1 ≤ R.frames ∧ 8 + (6 + 11) + 169 ≤ R.locals) (hf : cells + 4 ≤ R.cells ∧ slots + 6 * 4 ≤ R.slots)
    (kk : ∀ (H1 : Heap) (locs1 : List Loc), zB 32 h D (gC c h σ κ ω) H1 → va_S A s.heap H1 locs1 → W p l e R s m args below meth cd H1 locs1 (cells + 4) (slots + 6 * 4) Q (F0 m (pc + 3) ls (.int (iz (-72)) :: rest))) :
    W p l e R s m args below meth cd H locs cells slots Q (F0 m pc ls (.int (iz du) :: .int (iz mi) :: .int (iz sg) :: .int (iz 9) :: .ref (h 0) :: rest)) := by
  refine hg_act9 hst hC hP hS hG hsg hmi hdu hlen hwt hd hsz hW9 hR hf (fun k u H locs hp hP hS => ?_)
  have hh : k = -72 ∧ u = (σ, κ, ω) := by
    rcases hp with ⟨z, _, q1, _⟩ | ⟨hu, hk⟩
    · exfalso; omega
    · exact ⟨by omega, hu⟩
  obtain ⟨rfl, rfl⟩ := hh
  exact kk H locs hP hS
theorem hx_act9_3 (hst : l.stackTraces = false) (hC : CX p m cd cc nL s args h D c A) (hP : zB 32 h D (gC c h σ κ ω) H) (hS : va_S A s.heap H locs) (hG : GI σ) {sg mi du : Int} (hsg : -2147483648 ≤ sg ∧ sg ≤ 2147483647) (hmi : -2147483648 ≤ mi ∧ mi ≤ 2147483647) (hdu : -2147483648 ≤ du ∧ du ≤ 2147483647) (hlen : ∀ k, k < 16 → σ 14 k ≠ 0 → 1 ≤ σ 9 k) (hwt : ∀ k, k < 16 → σ 15 k = 0) (hq : thX σ sg mi du = 3) (hd : decode cc pc = .ok (.invokestatic 79, 3)) (hsz : ls.size = nL) (hW9 : (rest.map fun v => v.category).sum ≤ 8) (hR : 9 + 1 ≤ R.frames ∧ 8 + (6 + 11) + 169 ≤ R.locals) (hf : cells + 4 ≤ R.cells ∧ slots + 6 * 4 ≤ R.slots)
    (kk : ∀ (H1 : Heap) (locs1 : List Loc), zB 32 h D (gC c h σ κ ω) H1 → va_S A s.heap H1 locs1 → W p l e R s m args below meth cd H1 locs1 (cells + 4) (slots + 6 * 4) Q (F0 m (pc + 3) ls (.int (iz (-73)) :: rest))) :
    W p l e R s m args below meth cd H locs cells slots Q (F0 m pc ls (.int (iz du) :: .int (iz mi) :: .int (iz sg) :: .int (iz 9) :: .ref (h 0) :: rest)) := by
  refine hg_act9 hst hC hP hS hG hsg hmi hdu hlen hwt hd hsz hW9 hR hf (fun k u H locs hp hP hS => ?_)
  have hh : k = -73 ∧ u = (σ, κ, ω) := by
    rcases hp with ⟨z, _, q1, _⟩ | ⟨hu, hk⟩
    · exfalso; omega
    · exact ⟨by omega, hu⟩
  obtain ⟨rfl, rfl⟩ := hh
  exact kk H locs hP hS
theorem hg_act10 (hst : l.stackTraces = false) (hC : CX p m cd cc nL s args h D c A) (hP : zB 32 h D (gC c h σ κ ω) H) (hS : va_S A s.heap H locs) (hG : GI σ) {mi ph x0 : Int} (hmi : -2147483648 ≤ mi ∧ mi ≤ 2147483647) (hph : -2147483648 ≤ ph ∧ ph ≤ 2147483647) (hd : decode cc pc = .ok (.invokestatic 79, 3)) (hsz : ls.size = nL) (hW9 : (rest.map fun v => v.category).sum ≤ 8) (hR : 9 + 1 ≤ R.frames ∧ 8 + (6 + 11) + 146 ≤ R.locals) (hf : cells + 2 ≤ R.cells ∧ slots + 6 * 2 ≤ R.slots)
    (kk : ∀ (k : Int) (u : S3) (H1 : Heap) (locs1 : List Loc), (fun (k : Int) (u : S3) => (∃ z : Int, k = z ∧ thP ph mi = 0 ∧ z = ldS σ mi ph.toNat 16 ∧ u.1 = σ ∧ u.2.2 = ω) ∨ (u = (σ, κ, ω) ∧ ((k = -71 ∧ thP ph mi = 1) ∨ (k = -72 ∧ thP ph mi = 2)))) k u → zB 32 h D (gS c h u) H1 → va_S A s.heap H1 locs1 → W p l e R s m args below meth cd H1 locs1 (cells + 2) (slots + 6 * 2) Q (F0 m (pc + 3) ls (.int (iz k) :: rest))) :
    W p l e R s m args below meth cd H locs cells slots Q (F0 m pc ls (.int (iz x0) :: .int (iz ph) :: .int (iz mi) :: .int (iz 10) :: .ref (h 0) :: rest)) :=
  z_ciK (mc := 2) (ms := 6 * 2) (S := S3) (w := gS c h) (P := (fun (k : Int) (u : S3) => (∃ z : Int, k = z ∧ thP ph mi = 0 ∧ z = ldS σ mi ph.toNat 16 ∧ u.1 = σ ∧ u.2.2 = ω) ∨ (u = (σ, κ, ω) ∧ ((k = -71 ∧ thP ph mi = 1) ∨ (k = -72 ∧ thP ph mi = 2))))) (z_lrunH (na := 5) (rm := { frames := 9, cells := 2, slots := 6 * 2, locals := 146 }) hC.1 hC.2.1 hC.2.2.1 hC.2.2.2.1 hC.2.2.2.2.1 hC.2.2.2.2.2 hP hS (c_L_act10 l h D c σ κ ω hC.2.2.2.2.1.1 hG mi hmi ph hph x0 hst _) mp_23 mp_24 mp_25 mp_26 rfl rfl ⟨by decide, by decide, rfl⟩ hR (As := [.ref (h 0), .int (iz 10), .int (iz mi), .int (iz ph), .int (iz x0)]) (rest := rest) rfl hsz rfl hW9 hd hf) hC.2.2.2.2.1 hC.2.2.2.2.2 hS (fun k u H locs hp hP hS => kk k u H locs hp hP hS)
theorem hx_act10_1 (hst : l.stackTraces = false) (hC : CX p m cd cc nL s args h D c A) (hP : zB 32 h D (gC c h σ κ ω) H) (hS : va_S A s.heap H locs) (hG : GI σ) {mi ph x0 : Int} (hmi : -2147483648 ≤ mi ∧ mi ≤ 2147483647) (hph : -2147483648 ≤ ph ∧ ph ≤ 2147483647) (hq : thP ph mi = 1) (hd : decode cc pc = .ok (.invokestatic 79, 3)) (hsz : ls.size = nL) (hW9 : (rest.map fun v => v.category).sum ≤ 8) (hR : 9 + 1 ≤ R.frames ∧ 8 + (6 + 11) + 146 ≤ R.locals) (hf : cells + 2 ≤ R.cells ∧ slots + 6 * 2 ≤ R.slots)
    (kk : ∀ (H1 : Heap) (locs1 : List Loc), zB 32 h D (gC c h σ κ ω) H1 → va_S A s.heap H1 locs1 → W p l e R s m args below meth cd H1 locs1 (cells + 2) (slots + 6 * 2) Q (F0 m (pc + 3) ls (.int (iz (-71)) :: rest))) :
    W p l e R s m args below meth cd H locs cells slots Q (F0 m pc ls (.int (iz x0) :: .int (iz ph) :: .int (iz mi) :: .int (iz 10) :: .ref (h 0) :: rest)) := by
  refine hg_act10 hst hC hP hS hG hmi hph hd hsz hW9 hR hf (fun k u H locs hp hP hS => ?_)
  have hh : k = -71 ∧ u = (σ, κ, ω) := by
    rcases hp with ⟨z, _, q1, _⟩ | ⟨hu, hk⟩
    · exfalso; omega
    · exact ⟨by omega, hu⟩
  obtain ⟨rfl, rfl⟩ := hh
  exact kk H locs hP hS
theorem hx_act10_2 (hst : l.stackTraces = false) (hC : CX p m cd cc nL s args h D c A) (hP : zB 32 h D (gC c h σ κ ω) H) (hS : va_S A s.heap H locs) (hG : GI σ) {mi ph x0 : Int} (hmi : -2147483648 ≤ mi ∧ mi ≤ 2147483647) (hph : -2147483648 ≤ ph ∧ ph ≤ 2147483647) (hq : thP ph mi = 2) (hd : decode cc pc = .ok (.invokestatic 79, 3)) (hsz : ls.size = nL) (hW9 : (rest.map fun v => v.category).sum ≤ 8) (hR : 9 + 1 ≤ R.frames ∧ 8 + (6 + 11) + 146 ≤ R.locals) (hf : cells + 2 ≤ R.cells ∧ slots + 6 * 2 ≤ R.slots)
    (kk : ∀ (H1 : Heap) (locs1 : List Loc), zB 32 h D (gC c h σ κ ω) H1 → va_S A s.heap H1 locs1 → W p l e R s m args below meth cd H1 locs1 (cells + 2) (slots + 6 * 2) Q (F0 m (pc + 3) ls (.int (iz (-72)) :: rest))) :
    W p l e R s m args below meth cd H locs cells slots Q (F0 m pc ls (.int (iz x0) :: .int (iz ph) :: .int (iz mi) :: .int (iz 10) :: .ref (h 0) :: rest)) := by
  refine hg_act10 hst hC hP hS hG hmi hph hd hsz hW9 hR hf (fun k u H locs hp hP hS => ?_)
  have hh : k = -72 ∧ u = (σ, κ, ω) := by
    rcases hp with ⟨z, _, q1, _⟩ | ⟨hu, hk⟩
    · exfalso; omega
    · exact ⟨by omega, hu⟩
  obtain ⟨rfl, rfl⟩ := hh
  exact kk H locs hP hS
theorem hg_act11 (hst : l.stackTraces = false) (hC : CX p m cd cc nL s args h D c A) (hP : zB 32 h D (gC c h σ κ ω) H) (hS : va_S A s.heap H locs) (hG : GI σ) {mi hs x0 : Int} (hmi : -2147483648 ≤ mi ∧ mi ≤ 2147483647) (hhs : -2147483648 ≤ hs ∧ hs ≤ 2147483647) (hd : decode cc pc = .ok (.invokestatic 79, 3)) (hsz : ls.size = nL) (hW9 : (rest.map fun v => v.category).sum ≤ 8) (hR : 9 + 1 ≤ R.frames ∧ 8 + (6 + 11) + 146 ≤ R.locals) (hf : cells + 2 ≤ R.cells ∧ slots + 6 * 2 ≤ R.slots)
    (kk : ∀ (k : Int) (u : S3) (H1 : Heap) (locs1 : List Loc), (fun (k : Int) (u : S3) => (∃ z : Int, k = z ∧ thP hs mi = 0 ∧ z = nsS σ mi (wd σ mi) hs.toNat 16 ∧ u.1 = σ ∧ u.2.2 = ω) ∨ (u = (σ, κ, ω) ∧ ((k = -71 ∧ thP hs mi = 1) ∨ (k = -72 ∧ thP hs mi = 2)))) k u → zB 32 h D (gS c h u) H1 → va_S A s.heap H1 locs1 → W p l e R s m args below meth cd H1 locs1 (cells + 2) (slots + 6 * 2) Q (F0 m (pc + 3) ls (.int (iz k) :: rest))) :
    W p l e R s m args below meth cd H locs cells slots Q (F0 m pc ls (.int (iz x0) :: .int (iz hs) :: .int (iz mi) :: .int (iz 11) :: .ref (h 0) :: rest)) :=
  z_ciK (mc := 2) (ms := 6 * 2) (S := S3) (w := gS c h) (P := (fun (k : Int) (u : S3) => (∃ z : Int, k = z ∧ thP hs mi = 0 ∧ z = nsS σ mi (wd σ mi) hs.toNat 16 ∧ u.1 = σ ∧ u.2.2 = ω) ∨ (u = (σ, κ, ω) ∧ ((k = -71 ∧ thP hs mi = 1) ∨ (k = -72 ∧ thP hs mi = 2))))) (z_lrunH (na := 5) (rm := { frames := 9, cells := 2, slots := 6 * 2, locals := 146 }) hC.1 hC.2.1 hC.2.2.1 hC.2.2.2.1 hC.2.2.2.2.1 hC.2.2.2.2.2 hP hS (c_L_act11 l h D c σ κ ω hC.2.2.2.2.1.1 hG mi hmi hs hhs x0 hst _) mp_23 mp_24 mp_25 mp_26 rfl rfl ⟨by decide, by decide, rfl⟩ hR (As := [.ref (h 0), .int (iz 11), .int (iz mi), .int (iz hs), .int (iz x0)]) (rest := rest) rfl hsz rfl hW9 hd hf) hC.2.2.2.2.1 hC.2.2.2.2.2 hS (fun k u H locs hp hP hS => kk k u H locs hp hP hS)
theorem hx_act11_1 (hst : l.stackTraces = false) (hC : CX p m cd cc nL s args h D c A) (hP : zB 32 h D (gC c h σ κ ω) H) (hS : va_S A s.heap H locs) (hG : GI σ) {mi hs x0 : Int} (hmi : -2147483648 ≤ mi ∧ mi ≤ 2147483647) (hhs : -2147483648 ≤ hs ∧ hs ≤ 2147483647) (hq : thP hs mi = 1) (hd : decode cc pc = .ok (.invokestatic 79, 3)) (hsz : ls.size = nL) (hW9 : (rest.map fun v => v.category).sum ≤ 8) (hR : 9 + 1 ≤ R.frames ∧ 8 + (6 + 11) + 146 ≤ R.locals) (hf : cells + 2 ≤ R.cells ∧ slots + 6 * 2 ≤ R.slots)
    (kk : ∀ (H1 : Heap) (locs1 : List Loc), zB 32 h D (gC c h σ κ ω) H1 → va_S A s.heap H1 locs1 → W p l e R s m args below meth cd H1 locs1 (cells + 2) (slots + 6 * 2) Q (F0 m (pc + 3) ls (.int (iz (-71)) :: rest))) :
    W p l e R s m args below meth cd H locs cells slots Q (F0 m pc ls (.int (iz x0) :: .int (iz hs) :: .int (iz mi) :: .int (iz 11) :: .ref (h 0) :: rest)) := by
  refine hg_act11 hst hC hP hS hG hmi hhs hd hsz hW9 hR hf (fun k u H locs hp hP hS => ?_)
  have hh : k = -71 ∧ u = (σ, κ, ω) := by
    rcases hp with ⟨z, _, q1, _⟩ | ⟨hu, hk⟩
    · exfalso; omega
    · exact ⟨by omega, hu⟩
  obtain ⟨rfl, rfl⟩ := hh
  exact kk H locs hP hS
theorem hx_act11_2 (hst : l.stackTraces = false) (hC : CX p m cd cc nL s args h D c A) (hP : zB 32 h D (gC c h σ κ ω) H) (hS : va_S A s.heap H locs) (hG : GI σ) {mi hs x0 : Int} (hmi : -2147483648 ≤ mi ∧ mi ≤ 2147483647) (hhs : -2147483648 ≤ hs ∧ hs ≤ 2147483647) (hq : thP hs mi = 2) (hd : decode cc pc = .ok (.invokestatic 79, 3)) (hsz : ls.size = nL) (hW9 : (rest.map fun v => v.category).sum ≤ 8) (hR : 9 + 1 ≤ R.frames ∧ 8 + (6 + 11) + 146 ≤ R.locals) (hf : cells + 2 ≤ R.cells ∧ slots + 6 * 2 ≤ R.slots)
    (kk : ∀ (H1 : Heap) (locs1 : List Loc), zB 32 h D (gC c h σ κ ω) H1 → va_S A s.heap H1 locs1 → W p l e R s m args below meth cd H1 locs1 (cells + 2) (slots + 6 * 2) Q (F0 m (pc + 3) ls (.int (iz (-72)) :: rest))) :
    W p l e R s m args below meth cd H locs cells slots Q (F0 m pc ls (.int (iz x0) :: .int (iz hs) :: .int (iz mi) :: .int (iz 11) :: .ref (h 0) :: rest)) := by
  refine hg_act11 hst hC hP hS hG hmi hhs hd hsz hW9 hR hf (fun k u H locs hp hP hS => ?_)
  have hh : k = -72 ∧ u = (σ, κ, ω) := by
    rcases hp with ⟨z, _, q1, _⟩ | ⟨hu, hk⟩
    · exfalso; omega
    · exact ⟨by omega, hu⟩
  obtain ⟨rfl, rfl⟩ := hh
  exact kk H locs hP hS
theorem hg_act12 (hst : l.stackTraces = false) (hC : CX p m cd cc nL s args h D c A) (hP : zB 32 h D (gC c h σ κ ω) H) (hS : va_S A s.heap H locs) (hG : GI σ) {mi x0 x1 : Int} (hmi : -2147483648 ≤ mi ∧ mi ≤ 2147483647) (hd : decode cc pc = .ok (.invokestatic 79, 3)) (hsz : ls.size = nL) (hW9 : (rest.map fun v => v.category).sum ≤ 8) (hR : 9 + 1 ≤ R.frames ∧ 8 + (6 + 11) + 145 ≤ R.locals) (hf : cells + 1 ≤ R.cells ∧ slots + 6 * 1 ≤ R.slots)
    (kk : ∀ (k : Int) (u : S3) (H1 : Heap) (locs1 : List Loc), (fun (k : Int) (u : S3) => (∃ z : Int, k = z ∧ thK mi = 0 ∧ z = chS σ mi 16 ∧ u.1 = σ ∧ u.2.2 = ω) ∨ (u = (σ, κ, ω) ∧ ((k = -72 ∧ thK mi = 1)))) k u → zB 32 h D (gS c h u) H1 → va_S A s.heap H1 locs1 → W p l e R s m args below meth cd H1 locs1 (cells + 1) (slots + 6 * 1) Q (F0 m (pc + 3) ls (.int (iz k) :: rest))) :
    W p l e R s m args below meth cd H locs cells slots Q (F0 m pc ls (.int (iz x1) :: .int (iz x0) :: .int (iz mi) :: .int (iz 12) :: .ref (h 0) :: rest)) :=
  z_ciK (mc := 1) (ms := 6 * 1) (S := S3) (w := gS c h) (P := (fun (k : Int) (u : S3) => (∃ z : Int, k = z ∧ thK mi = 0 ∧ z = chS σ mi 16 ∧ u.1 = σ ∧ u.2.2 = ω) ∨ (u = (σ, κ, ω) ∧ ((k = -72 ∧ thK mi = 1))))) (z_lrunH (na := 5) (rm := { frames := 9, cells := 1, slots := 6 * 1, locals := 145 }) hC.1 hC.2.1 hC.2.2.1 hC.2.2.2.1 hC.2.2.2.2.1 hC.2.2.2.2.2 hP hS (c_L_act12 l h D c σ κ ω hC.2.2.2.2.1.1 hG mi hmi x0 x1 hst _) mp_23 mp_24 mp_25 mp_26 rfl rfl ⟨by decide, by decide, rfl⟩ hR (As := [.ref (h 0), .int (iz 12), .int (iz mi), .int (iz x0), .int (iz x1)]) (rest := rest) rfl hsz rfl hW9 hd hf) hC.2.2.2.2.1 hC.2.2.2.2.2 hS (fun k u H locs hp hP hS => kk k u H locs hp hP hS)
theorem hx_act12_1 (hst : l.stackTraces = false) (hC : CX p m cd cc nL s args h D c A) (hP : zB 32 h D (gC c h σ κ ω) H) (hS : va_S A s.heap H locs) (hG : GI σ) {mi x0 x1 : Int} (hmi : -2147483648 ≤ mi ∧ mi ≤ 2147483647) (hq : thK mi = 1) (hd : decode cc pc = .ok (.invokestatic 79, 3)) (hsz : ls.size = nL) (hW9 : (rest.map fun v => v.category).sum ≤ 8) (hR : 9 + 1 ≤ R.frames ∧ 8 + (6 + 11) + 145 ≤ R.locals) (hf : cells + 1 ≤ R.cells ∧ slots + 6 * 1 ≤ R.slots)
    (kk : ∀ (H1 : Heap) (locs1 : List Loc), zB 32 h D (gC c h σ κ ω) H1 → va_S A s.heap H1 locs1 → W p l e R s m args below meth cd H1 locs1 (cells + 1) (slots + 6 * 1) Q (F0 m (pc + 3) ls (.int (iz (-72)) :: rest))) :
    W p l e R s m args below meth cd H locs cells slots Q (F0 m pc ls (.int (iz x1) :: .int (iz x0) :: .int (iz mi) :: .int (iz 12) :: .ref (h 0) :: rest)) := by
  refine hg_act12 hst hC hP hS hG hmi hd hsz hW9 hR hf (fun k u H locs hp hP hS => ?_)
  have hh : k = -72 ∧ u = (σ, κ, ω) := by
    rcases hp with ⟨z, _, q1, _⟩ | ⟨hu, hk⟩
    · exfalso; omega
    · exact ⟨by omega, hu⟩
  obtain ⟨rfl, rfl⟩ := hh
  exact kk H locs hP hS
set_option maxHeartbeats 1000000 in
theorem d_startSet (hst : l.stackTraces = false) (hC : CX p m cd cc nL s args h D c A) (hW : WS D c h A s σ κ ω d L H locs) {mi : Int} (hmi : -2147483648 ≤ mi ∧ mi ≤ 2147483647) (h0 : tS d mi = 0) {v : Int} (hv : vS d mi = v) (hn9 : dS d mi = d') (hd : decode cc pc = .ok (.invokevirtual 30, 3)) (hsz : ls.size = nL) (hW9 : (rest.map fun v => v.category).sum ≤ 8) (hR : 8 + 1 ≤ R.frames ∧ 8 + (3 + 11) + 124 ≤ R.locals) (hf : cells + 2 ≤ R.cells ∧ slots + 6 * 2 ≤ R.slots)
    (kk : ∀ (σ κ : Nat → Nat → Int) (ω : Nat × (Nat → Int32) × Int32) (H : Heap) (locs : List Loc), WS D c h A s σ κ ω d' L H locs → W p l e R s m args below meth cd H locs (cells + 2) (slots + 6 * 2) Q (F0 m (pc + 3) ls (.int (iz v) :: rest))) :
    W p l e R s m args below meth cd H locs cells slots Q (F0 m pc ls (.int (iz mi) :: .ref (h 0) :: rest)) := by
  obtain ⟨hP, hS, hE, hL⟩ := hW
  rw [← tS_ev hE] at h0
  refine z_hci (k := 2) (S := (Nat → Nat → Int)) (w := (fun σ9 => gC c h σ9 κ ω)) (P := (fun z σ9 => MSet σ mi z σ9 0)) (PX := fun E9 => (E9 = E206 ∧ thS σ mi = 1) ∨ (E9 = E67 ∧ thS σ mi = 2)) (g := gC c h σ κ ω) (z_xrunV (rm := { frames := 8, cells := 2, slots := 6 * 2, locals := 124 }) hC.1 hC.2.1 hC.2.2.1 hC.2.2.2.2.1 hC.2.2.2.2.2 hP hS (c_X3_startSet l h D c σ κ ω hC.2.2.2.2.1.1 hE.1 mi hmi hst _) (gIn_V mp_7 mw_629 mw_630 mw_86 mw_87) rfl rfl ⟨rfl, by decide, by decide, rfl⟩ hR (k := 0) (T := TX3) (N := 14) (by decide) rfl rfl rfl (As := [.int (iz mi)]) (rest := rest) rfl hsz rfl hW9 hd hf) hC.2.2.2.2.1 hC.2.2.2.2.2 hS (fun E9 ce q9 H locs hpx hP hS hce hcv hcl => ?_) (fun z w9 H locs hp hP hS => ?_)
  · skip
    exfalso
    omega
  · skip
    obtain ⟨rfl, hE1⟩ := ev_startSet hE hp
    rw [hn9] at hE1
    rw [hv]
    exact kk w9 κ ω H locs ⟨hP, hS, hE1, hL⟩
set_option maxHeartbeats 1000000 in
theorem d_setChange (hst : l.stackTraces = false) (hC : CX p m cd cc nL s args h D c A) (hW : WS D c h A s σ κ ω d L H locs) {sg mi : Int} (hsg : -2147483648 ≤ sg ∧ sg ≤ 2147483647) (hmi : -2147483648 ≤ mi ∧ mi ≤ 2147483647) (h0 : thC sg mi = 0) {v : Int} (hv : (if pC (dC d sg.toNat mi) sg = true then (1 : Int) else 0) = v) (hn9 : (if pC (dC d sg.toNat mi) sg = true then dC d sg.toNat mi else d) = d') (hd : decode cc pc = .ok (.invokevirtual 34, 3)) (hsz : ls.size = nL) (hW9 : (rest.map fun v => v.category).sum ≤ 8) (hR : 7 + 1 ≤ R.frames ∧ 8 + (4 + 11) + 104 ≤ R.locals) (hf : cells + 2 ≤ R.cells ∧ slots + 6 * 2 ≤ R.slots)
    (kk : ∀ (σ κ : Nat → Nat → Int) (ω : Nat × (Nat → Int32) × Int32) (H : Heap) (locs : List Loc), WS D c h A s σ κ ω d' L H locs → W p l e R s m args below meth cd H locs (cells + 2) (slots + 6 * 2) Q (F0 m (pc + 3) ls (.int (iz v) :: rest))) :
    W p l e R s m args below meth cd H locs cells slots Q (F0 m pc ls (.int (iz mi) :: .int (iz sg) :: .ref (h 0) :: rest)) := by
  obtain ⟨hP, hS, hE, hL⟩ := hW
  refine z_hci (k := 2) (S := ((Nat → Nat → Int) × (Nat → Nat → Int))) (w := (fun u9 => gC c h u9.1 u9.2 ω)) (P := (fun z u9 => thC sg mi = 0 ∧ CS σ (u2 σ 2 sg.toNat mi) (stFine (u2 σ 2 sg.toNat mi) sg) z u9.1 ∧ GI u9.1)) (PX := fun E9 => (E9 = E98 ∧ thC sg mi = 1) ∨ (E9 = E206 ∧ thC sg mi = 2)) (g := gC c h σ κ ω) (z_xrunV (rm := { frames := 7, cells := 2, slots := 6 * 2, locals := 104 }) hC.1 hC.2.1 hC.2.2.1 hC.2.2.2.2.1 hC.2.2.2.2.2 hP hS (c_X3_setChange l h D c σ κ ω hC.2.2.2.2.1.1 hE.1 sg hsg mi hmi hst _) (gIn_V mp_8 mw_633 mw_634 mw_86 mw_113) rfl rfl ⟨rfl, by decide, by decide, rfl⟩ hR (k := 0) (T := TX3) (N := 14) (by decide) rfl rfl rfl (As := [.int (iz sg), .int (iz mi)]) (rest := rest) rfl hsz rfl hW9 hd hf) hC.2.2.2.2.1 hC.2.2.2.2.2 hS (fun E9 ce q9 H locs hpx hP hS hce hcv hcl => ?_) (fun z w9 H locs hp hP hS => ?_)
  · skip
    exfalso
    omega
  · skip
    obtain ⟨rfl, hE1⟩ := ev_setChange hE hp.1 hp.2.1
    rw [hn9] at hE1
    rw [hv]
    exact kk w9.1 w9.2 ω H locs ⟨hP, hS, hE1, hL⟩
set_option maxHeartbeats 1000000 in
theorem d_setBound (hst : l.stackTraces = false) (hC : CX p m cd cc nL s args h D c A) (hW : WS D c h A s σ κ ω d L H locs) {hs bd : Int} (hhs : -2147483648 ≤ hs ∧ hs ≤ 2147483647) (hbd : -2147483648 ≤ bd ∧ bd ≤ 2147483647) (h0 : thB hs bd = 0) {v : Int} (hv : (if (bwF (dB d hs.toNat bd) 0 1000 == 0) = true then (1 : Int) else 0) = v) (hn9 : (if (bwF (dB d hs.toNat bd) 0 1000 == 0) = true then dB d hs.toNat bd else d) = d') (hd : decode cc pc = .ok (.invokevirtual 38, 3)) (hsz : ls.size = nL) (hW9 : (rest.map fun v => v.category).sum ≤ 8) (hR : 7 + 1 ≤ R.frames ∧ 8 + (4 + 11) + 122 ≤ R.locals) (hf : cells + 2 ≤ R.cells ∧ slots + 6 * 2 ≤ R.slots)
    (kk : ∀ (σ κ : Nat → Nat → Int) (ω : Nat × (Nat → Int32) × Int32) (H : Heap) (locs : List Loc), WS D c h A s σ κ ω d' L H locs → W p l e R s m args below meth cd H locs (cells + 2) (slots + 6 * 2) Q (F0 m (pc + 3) ls (.int (iz v) :: rest))) :
    W p l e R s m args below meth cd H locs cells slots Q (F0 m pc ls (.int (iz bd) :: .int (iz hs) :: .ref (h 0) :: rest)) := by
  obtain ⟨hP, hS, hE, hL⟩ := hW
  refine z_hci (k := 2) (S := ((Nat → Nat → Int) × (Nat → Nat → Int))) (w := (fun u9 => gC c h u9.1 u9.2 ω)) (P := (fun z u9 => thB hs bd = 0 ∧ CS σ (u2 σ 3 hs.toNat bd) (bw (u2 σ 3 hs.toNat bd) 0 1000 = 0) z u9.1 ∧ GI u9.1)) (PX := fun E9 => (E9 = E98 ∧ thB hs bd = 1) ∨ (E9 = E206 ∧ thB hs bd = 2)) (g := gC c h σ κ ω) (z_xrunV (rm := { frames := 7, cells := 2, slots := 6 * 2, locals := 122 }) hC.1 hC.2.1 hC.2.2.1 hC.2.2.2.2.1 hC.2.2.2.2.2 hP hS (c_X3_setBound l h D c σ κ ω hC.2.2.2.2.1.1 hE.1 hs hhs bd hbd hst _) (gIn_V mp_9 mw_636 mw_637 mw_86 mw_158) rfl rfl ⟨rfl, by decide, by decide, rfl⟩ hR (k := 0) (T := TX3) (N := 14) (by decide) rfl rfl rfl (As := [.int (iz hs), .int (iz bd)]) (rest := rest) rfl hsz rfl hW9 hd hf) hC.2.2.2.2.1 hC.2.2.2.2.2 hS (fun E9 ce q9 H locs hpx hP hS hce hcv hcl => ?_) (fun z w9 H locs hp hP hS => ?_)
  · skip
    exfalso
    omega
  · skip
    obtain ⟨rfl, hE1⟩ := ev_setBound hE hp.1 hp.2.1
    rw [hn9] at hE1
    rw [hv]
    exact kk w9.1 w9.2 ω H locs ⟨hP, hS, hE1, hL⟩
set_option maxHeartbeats 1000000 in
theorem d_setWind (hst : l.stackTraces = false) (hC : CX p m cd cc nL s args h D c A) (hW : WS D c h A s σ κ ω d L H locs) {hr9 wn : Int} (hhr9 : -2147483648 ≤ hr9 ∧ hr9 ≤ 2147483647) (hwn : -2147483648 ≤ wn ∧ wn ≤ 2147483647) (h0 : thW hr9 wn = 0) {v : Int} (hv : (if (bwF (dW d hr9.toNat wn) (hr9 * 60) (min (hr9 * 60 + 60) 1000 - hr9 * 60).toNat == 0) = true then (1 : Int) else 0) = v) (hn9 : (if (bwF (dW d hr9.toNat wn) (hr9 * 60) (min (hr9 * 60 + 60) 1000 - hr9 * 60).toNat == 0) = true then dW d hr9.toNat wn else d) = d') (hd : decode cc pc = .ok (.invokevirtual 41, 3)) (hsz : ls.size = nL) (hW9 : (rest.map fun v => v.category).sum ≤ 8) (hR : 7 + 1 ≤ R.frames ∧ 8 + (4 + 11) + 122 ≤ R.locals) (hf : cells + 1 ≤ R.cells ∧ slots + 6 * 1 ≤ R.slots)
    (kk : ∀ (σ κ : Nat → Nat → Int) (ω : Nat × (Nat → Int32) × Int32) (H : Heap) (locs : List Loc), WS D c h A s σ κ ω d' L H locs → W p l e R s m args below meth cd H locs (cells + 1) (slots + 6 * 1) Q (F0 m (pc + 3) ls (.int (iz v) :: rest))) :
    W p l e R s m args below meth cd H locs cells slots Q (F0 m pc ls (.int (iz wn) :: .int (iz hr9) :: .ref (h 0) :: rest)) := by
  obtain ⟨hP, hS, hE, hL⟩ := hW
  refine z_hci (k := 1) (S := ((Nat → Nat → Int) × (Nat → Nat → Int))) (w := (fun u9 => gC c h u9.1 u9.2 ω)) (P := (fun z u9 => thW hr9 wn = 0 ∧ CS σ (u2 σ 4 hr9.toNat wn) (bw (u2 σ 4 hr9.toNat wn) (hr9 * 60) (min (hr9 * 60 + 60) 1000) = 0) z u9.1 ∧ GI u9.1)) (PX := fun E9 => (E9 = E98 ∧ thW hr9 wn = 1) ∨ (E9 = E206 ∧ thW hr9 wn = 2)) (g := gC c h σ κ ω) (z_xrunV (rm := { frames := 7, cells := 1, slots := 6 * 1, locals := 122 }) hC.1 hC.2.1 hC.2.2.1 hC.2.2.2.2.1 hC.2.2.2.2.2 hP hS (c_X3_setWind l h D c σ κ ω hC.2.2.2.2.1.1 hE.1 hr9 hhr9 wn hwn hst _) (gIn_V mp_10 mw_639 mw_640 mw_86 mw_160) rfl rfl ⟨rfl, by decide, by decide, rfl⟩ hR (k := 0) (T := TX3) (N := 14) (by decide) rfl rfl rfl (As := [.int (iz hr9), .int (iz wn)]) (rest := rest) rfl hsz rfl hW9 hd hf) hC.2.2.2.2.1 hC.2.2.2.2.2 hS (fun E9 ce q9 H locs hpx hP hS hce hcv hcl => ?_) (fun z w9 H locs hp hP hS => ?_)
  · skip
    exfalso
    omega
  · skip
    obtain ⟨rfl, hE1⟩ := ev_setWind hE hp.1 hp.2.1
    rw [hn9] at hE1
    rw [hv]
    exact kk w9.1 w9.2 ω H locs ⟨hP, hS, hE1, hL⟩
set_option maxHeartbeats 1000000 in
theorem d_plan (hst : l.stackTraces = false) (hC : CX p m cd cc nL s args h D c A) (hW : WS D c h A s σ κ ω d L H locs) {sg sa ln ph dr lo ch : Int} (hsg : -2147483648 ≤ sg ∧ sg ≤ 2147483647) (hsa : -2147483648 ≤ sa ∧ sa ≤ 2147483647) (hln : -2147483648 ≤ ln ∧ ln ≤ 2147483647) (hph : -2147483648 ≤ ph ∧ ph ≤ 2147483647) (hdr : -2147483648 ≤ dr ∧ dr ≤ 2147483647) (hlo : -2147483648 ≤ lo ∧ lo ≤ 2147483647) (hch : -2147483648 ≤ ch ∧ ch ≤ 2147483647) (h0 : tL d sg sa ln ph dr lo ch = 0) {v : Int} (hv : (if bbF (dL d d.2.2.2.2.2.1.toNat sg sa ln ph dr lo ch 1) d.2.2.2.2.2.1.toNat = 0 then d.2.2.2.2.2.1 else -1) = v) (hn9 : (if bbF (dL d d.2.2.2.2.2.1.toNat sg sa ln ph dr lo ch 1) d.2.2.2.2.2.1.toNat = 0 then stN' (dL d d.2.2.2.2.2.1.toNat sg sa ln ph dr lo ch 1) (d.2.2.2.2.2.1 + 1) else dL d d.2.2.2.2.2.1.toNat sg sa ln ph dr lo ch 0) = d') (hd : decode cc pc = .ok (.invokevirtual 13, 3)) (hsz : ls.size = nL) (hW9 : (rest.map fun v => v.category).sum ≤ 8) (hR : 9 + 1 ≤ R.frames ∧ 8 + (9 + 11) + 152 ≤ R.locals) (hf : cells + 8 ≤ R.cells ∧ slots + 6 * 8 ≤ R.slots)
    (kk : ∀ (σ κ : Nat → Nat → Int) (ω : Nat × (Nat → Int32) × Int32) (H : Heap) (locs : List Loc), WS D c h A s σ κ ω d' L H locs → W p l e R s m args below meth cd H locs (cells + 8) (slots + 6 * 8) Q (F0 m (pc + 3) ls (.int (iz v) :: rest))) :
    W p l e R s m args below meth cd H locs cells slots Q (F0 m pc ls (.int (iz ch) :: .int (iz lo) :: .int (iz dr) :: .int (iz ph) :: .int (iz ln) :: .int (iz sa) :: .int (iz sg) :: .ref (h 0) :: rest)) := by
  obtain ⟨hP, hS, hE, hL⟩ := hW
  rw [← tL_ev hE] at h0
  refine z_hci (k := 8) (S := ((Nat → Nat → Int) × (Nat → Nat → Int))) (w := (fun u9 => gC c h u9.1 u9.2 ω)) (P := (fun z u9 => thL σ sg sa ln ph dr lo ch = 0 ∧ ((bby (lay σ (σ 0 1).toNat sg sa ln ph dr lo ch) ((σ 0 1).toNat) ≠ 0 ∧ z = -1 ∧ u9.1 = u2 (lay σ (σ 0 1).toNat sg sa ln ph dr lo ch) 14 (σ 0 1).toNat 0) ∨ (bby (lay σ (σ 0 1).toNat sg sa ln ph dr lo ch) ((σ 0 1).toNat) = 0 ∧ z = σ 0 1 ∧ u9.1 = u2 (lay σ (σ 0 1).toNat sg sa ln ph dr lo ch) 0 1 (σ 0 1 + 1))) ∧ GI u9.1)) (PX := fun E9 => (E9 = E98 ∧ thL σ sg sa ln ph dr lo ch = 1) ∨ (E9 = E206 ∧ thL σ sg sa ln ph dr lo ch = 2) ∨ (E9 = E67 ∧ thL σ sg sa ln ph dr lo ch = 3)) (g := gC c h σ κ ω) (z_xrunV (rm := { frames := 9, cells := 8, slots := 6 * 8, locals := 152 }) hC.1 hC.2.1 hC.2.2.1 hC.2.2.2.2.1 hC.2.2.2.2.2 hP hS (c_X3_plan l h D c σ κ ω hC.2.2.2.2.1.1 hE.1 sg hsg sa hsa ln hln ph hph dr hdr lo hlo ch hch hst _) (gIn_V mp_4 mw_642 mw_643 mw_86 mw_173) rfl rfl ⟨rfl, by decide, by decide, rfl⟩ hR (k := 0) (T := TX3) (N := 14) (by decide) rfl rfl rfl (As := [.int (iz sg), .int (iz sa), .int (iz ln), .int (iz ph), .int (iz dr), .int (iz lo), .int (iz ch)]) (rest := rest) rfl hsz rfl hW9 hd hf) hC.2.2.2.2.1 hC.2.2.2.2.2 hS (fun E9 ce q9 H locs hpx hP hS hce hcv hcl => ?_) (fun z w9 H locs hp hP hS => ?_)
  · skip
    exfalso
    omega
  · skip
    obtain ⟨rfl, hE1⟩ := ev_plan hE hp.1 hp.2.1
    rw [hn9] at hE1
    rw [hv]
    exact kk w9.1 w9.2 ω H locs ⟨hP, hS, hE1, hL⟩
set_option maxHeartbeats 1000000 in
theorem d_reason (hst : l.stackTraces = false) (hC : CX p m cd cc nL s args h D c A) (hW : WS D c h A s σ κ ω d L H locs) {sg sa ln ph dr lo ch : Int} (hsg : -2147483648 ≤ sg ∧ sg ≤ 2147483647) (hsa : -2147483648 ≤ sa ∧ sa ≤ 2147483647) (hln : -2147483648 ≤ ln ∧ ln ≤ 2147483647) (hph : -2147483648 ≤ ph ∧ ph ≤ 2147483647) (hdr : -2147483648 ≤ dr ∧ dr ≤ 2147483647) (hlo : -2147483648 ≤ lo ∧ lo ≤ 2147483647) (hch : -2147483648 ≤ ch ∧ ch ≤ 2147483647) (h0 : tL d sg sa ln ph dr lo ch = 0) {v : Int} (hv : bbF (dL d d.2.2.2.2.2.1.toNat sg sa ln ph dr lo ch 1) d.2.2.2.2.2.1.toNat = v) (hn9 : dL d d.2.2.2.2.2.1.toNat sg sa ln ph dr lo ch 0 = d') (hd : decode cc pc = .ok (.invokevirtual 7, 3)) (hsz : ls.size = nL) (hW9 : (rest.map fun v => v.category).sum ≤ 8) (hR : 9 + 1 ≤ R.frames ∧ 8 + (10 + 11) + 152 ≤ R.locals) (hf : cells + 8 ≤ R.cells ∧ slots + 6 * 8 ≤ R.slots)
    (kk : ∀ (σ κ : Nat → Nat → Int) (ω : Nat × (Nat → Int32) × Int32) (H : Heap) (locs : List Loc), WS D c h A s σ κ ω d' L H locs → W p l e R s m args below meth cd H locs (cells + 8) (slots + 6 * 8) Q (F0 m (pc + 3) ls (.int (iz v) :: rest))) :
    W p l e R s m args below meth cd H locs cells slots Q (F0 m pc ls (.int (iz ch) :: .int (iz lo) :: .int (iz dr) :: .int (iz ph) :: .int (iz ln) :: .int (iz sa) :: .int (iz sg) :: .ref (h 0) :: rest)) := by
  obtain ⟨hP, hS, hE, hL⟩ := hW
  rw [← tL_ev hE] at h0
  refine z_hci (k := 8) (S := ((Nat → Nat → Int) × (Nat → Nat → Int))) (w := (fun u9 => gC c h u9.1 u9.2 ω)) (P := (fun z u9 => thL σ sg sa ln ph dr lo ch = 0 ∧ z = bby (lay σ (σ 0 1).toNat sg sa ln ph dr lo ch) ((σ 0 1).toNat) ∧ u9.1 = u2 (lay σ (σ 0 1).toNat sg sa ln ph dr lo ch) 14 (σ 0 1).toNat 0 ∧ GI u9.1)) (PX := fun E9 => (E9 = E98 ∧ thL σ sg sa ln ph dr lo ch = 1) ∨ (E9 = E206 ∧ thL σ sg sa ln ph dr lo ch = 2) ∨ (E9 = E67 ∧ thL σ sg sa ln ph dr lo ch = 3)) (g := gC c h σ κ ω) (z_xrunV (rm := { frames := 9, cells := 8, slots := 6 * 8, locals := 152 }) hC.1 hC.2.1 hC.2.2.1 hC.2.2.2.2.1 hC.2.2.2.2.2 hP hS (c_X3_reason l h D c σ κ ω hC.2.2.2.2.1.1 hE.1 sg hsg sa hsa ln hln ph hph dr hdr lo hlo ch hch hst _) (gIn_V mp_3 mw_645 mw_646 mw_86 mw_174) rfl rfl ⟨rfl, by decide, by decide, rfl⟩ hR (k := 0) (T := TX3) (N := 14) (by decide) rfl rfl rfl (As := [.int (iz sg), .int (iz sa), .int (iz ln), .int (iz ph), .int (iz dr), .int (iz lo), .int (iz ch)]) (rest := rest) rfl hsz rfl hW9 hd hf) hC.2.2.2.2.1 hC.2.2.2.2.2 hS (fun E9 ce q9 H locs hpx hP hS hce hcv hcl => ?_) (fun z w9 H locs hp hP hS => ?_)
  · skip
    exfalso
    omega
  · skip
    obtain ⟨rfl, hE1⟩ := ev_reason hE hp.1 hp.2.1 hp.2.2.1
    rw [hn9] at hE1
    rw [hv]
    exact kk w9.1 w9.2 ω H locs ⟨hP, hS, hE1, hL⟩
set_option maxHeartbeats 1000000 in
theorem d_move (hst : l.stackTraces = false) (hC : CX p m cd cc nL s args h D c A) (hW : WS D c h A s σ κ ω d L H locs) {a mi : Int} (ha : -2147483648 ≤ a ∧ a ≤ 2147483647) (hmi : -2147483648 ≤ mi ∧ mi ≤ 2147483647) (h0 : tM d a mi = 0) {v : Int} (hv : (if (bbF (dM d a.toNat mi) a.toNat == 0) = true then (1 : Int) else 0) = v) (hn9 : (if (bbF (dM d a.toNat mi) a.toNat == 0) = true then dM d a.toNat mi else d) = d') (hd : decode cc pc = .ok (.invokevirtual 44, 3)) (hsz : ls.size = nL) (hW9 : (rest.map fun v => v.category).sum ≤ 8) (hR : 8 + 1 ≤ R.frames ∧ 8 + (5 + 11) + 143 ≤ R.locals) (hf : cells + 3 ≤ R.cells ∧ slots + 6 * 3 ≤ R.slots)
    (kk : ∀ (σ κ : Nat → Nat → Int) (ω : Nat × (Nat → Int32) × Int32) (H : Heap) (locs : List Loc), WS D c h A s σ κ ω d' L H locs → W p l e R s m args below meth cd H locs (cells + 3) (slots + 6 * 3) Q (F0 m (pc + 3) ls (.int (iz v) :: rest))) :
    W p l e R s m args below meth cd H locs cells slots Q (F0 m pc ls (.int (iz mi) :: .int (iz a) :: .ref (h 0) :: rest)) := by
  obtain ⟨hP, hS, hE, hL⟩ := hW
  rw [← tM_ev hE] at h0
  refine z_hci (k := 3) (S := ((Nat → Nat → Int) × (Nat → Nat → Int))) (w := (fun u9 => gC c h u9.1 u9.2 ω)) (P := (fun z u9 => thM σ a mi = 0 ∧ CS σ (u2 σ 8 a.toNat mi) (bby (u2 σ 8 a.toNat mi) a.toNat = 0) z u9.1 ∧ GI u9.1)) (PX := fun E9 => (E9 = E98 ∧ thM σ a mi = 1) ∨ (E9 = E206 ∧ thM σ a mi = 2) ∨ (E9 = E67 ∧ thM σ a mi = 3)) (g := gC c h σ κ ω) (z_xrunV (rm := { frames := 8, cells := 3, slots := 6 * 3, locals := 143 }) hC.1 hC.2.1 hC.2.2.1 hC.2.2.2.2.1 hC.2.2.2.2.2 hP hS (c_X3_move l h D c σ κ ω hC.2.2.2.2.1.1 hE.1 a ha mi hmi hst _) (gIn_V mp_11 mw_648 mw_649 mw_86 mw_183) rfl rfl ⟨rfl, by decide, by decide, rfl⟩ hR (k := 0) (T := TX3) (N := 14) (by decide) rfl rfl rfl (As := [.int (iz a), .int (iz mi)]) (rest := rest) rfl hsz rfl hW9 hd hf) hC.2.2.2.2.1 hC.2.2.2.2.2 hS (fun E9 ce q9 H locs hpx hP hS hce hcv hcl => ?_) (fun z w9 H locs hp hP hS => ?_)
  · skip
    exfalso
    omega
  · skip
    obtain ⟨rfl, hE1⟩ := ev_move hE hp.1 hp.2.1
    rw [hn9] at hE1
    rw [hv]
    exact kk w9.1 w9.2 ω H locs ⟨hP, hS, hE1, hL⟩
set_option maxHeartbeats 1000000 in
theorem d_drop (hst : l.stackTraces = false) (hC : CX p m cd cc nL s args h D c A) (hW : WS D c h A s σ κ ω d L H locs) {a : Int} (ha : -2147483648 ≤ a ∧ a ≤ 2147483647) (h0 : tD d a = 0) (hn9 : dO d a.toNat = d') (hd : decode cc pc = .ok (.invokevirtual 22, 3)) (hsz : ls.size = nL) (hW9 : (rest.map fun v => v.category).sum ≤ 8) (hR : 7 + 1 ≤ R.frames ∧ 8 + (2 + 11) + 103 ≤ R.locals) (hf : cells + 2 ≤ R.cells ∧ slots + 6 * 2 ≤ R.slots)
    (kk : ∀ (σ κ : Nat → Nat → Int) (ω : Nat × (Nat → Int32) × Int32) (H : Heap) (locs : List Loc), WS D c h A s σ κ ω d' L H locs → W p l e R s m args below meth cd H locs (cells + 2) (slots + 6 * 2) Q (F0 m (pc + 3) ls (rest))) :
    W p l e R s m args below meth cd H locs cells slots Q (F0 m pc ls (.int (iz a) :: .ref (h 0) :: rest)) := by
  obtain ⟨hP, hS, hE, hL⟩ := hW
  rw [← tD_ev hE] at h0
  refine z_hcv (k := 2) (S := (Nat → Nat → Int)) (w := (fun σ9 => gC c h σ9 κ ω)) (P := (fun σ9 => thD σ a = 0 ∧ σ9 = u2 σ 14 a.toNat 0 ∧ GI σ9)) (PX := fun E9 => (E9 = E98 ∧ thD σ a = 1) ∨ (E9 = E67 ∧ thD σ a = 2)) (g := gC c h σ κ ω) (z_xrunV (rm := { frames := 7, cells := 2, slots := 6 * 2, locals := 103 }) hC.1 hC.2.1 hC.2.2.1 hC.2.2.2.2.1 hC.2.2.2.2.2 hP hS (c_X3_drop l h D c σ κ ω hC.2.2.2.2.1.1 hE.1 a ha hst _) (gIn_V mp_5 mw_651 mw_652 mw_86 mw_184) rfl rfl ⟨rfl, by decide, by decide, rfl⟩ hR (k := 0) (T := TX3) (N := 14) (by decide) rfl rfl rfl (As := [.int (iz a)]) (rest := rest) rfl hsz rfl hW9 hd hf) hC.2.2.2.2.1 hC.2.2.2.2.2 hS (fun E9 ce q9 H locs hpx hP hS hce hcv hcl => ?_) (fun w9 H locs hp hP hS => ?_)
  · skip
    exfalso
    omega
  · skip
    have hE1 := ev_drop hE hp.1 hp.2.1
    rw [hn9] at hE1
    exact kk w9 κ ω H locs ⟨hP, hS, hE1, hL⟩
set_option maxHeartbeats 1000000 in
theorem d_start (hst : l.stackTraces = false) (hC : CX p m cd cc nL s args h D c A) (hW : WS D c h A s σ κ ω d L H locs) {a : Int} (ha : -2147483648 ≤ a ∧ a ≤ 2147483647) (h0 : t1 d a = 0) {v : Int} (hv : (if aOn (ga d.2.2.2.2.1 a.toNat) = 0 then -1 else (ga d.2.2.2.2.1 a.toNat).2.1) = v) (hd : decode cc pc = .ok (.invokevirtual 47, 3)) (hsz : ls.size = nL) (hW9 : (rest.map fun v => v.category).sum ≤ 8) (hR : 7 + 1 ≤ R.frames ∧ 8 + (2 + 11) + 103 ≤ R.locals) (hf : cells + 1 ≤ R.cells ∧ slots + 6 * 1 ≤ R.slots)
    (kk : ∀ (σ κ : Nat → Nat → Int) (ω : Nat × (Nat → Int32) × Int32) (H : Heap) (locs : List Loc), WS D c h A s σ κ ω d L H locs → W p l e R s m args below meth cd H locs (cells + 1) (slots + 6 * 1) Q (F0 m (pc + 3) ls (.int (iz v) :: rest))) :
    W p l e R s m args below meth cd H locs cells slots Q (F0 m pc ls (.int (iz a) :: .ref (h 0) :: rest)) := by
  obtain ⟨hP, hS, hE, hL⟩ := hW
  rw [← t1_ev hE] at h0
  refine z_hci (k := 1) (S := Unit) (w := (fun _ => gC c h σ κ ω)) (P := (fun z _ => th1 σ a = 0 ∧ z = if σ 14 a.toNat = 0 then -1 else σ 8 a.toNat)) (PX := fun E9 => (E9 = E98 ∧ th1 σ a = 1)) (g := gC c h σ κ ω) (z_xrunV (rm := { frames := 7, cells := 1, slots := 6 * 1, locals := 103 }) hC.1 hC.2.1 hC.2.2.1 hC.2.2.2.2.1 hC.2.2.2.2.2 hP hS (c_X3_start l h D c σ κ ω hC.2.2.2.2.1.1 hE.1 a ha hst _) (gIn_V mp_12 mw_654 mw_655 mw_86 mw_185) rfl rfl ⟨rfl, by decide, by decide, rfl⟩ hR (k := 0) (T := TX3) (N := 14) (by decide) rfl rfl rfl (As := [.int (iz a)]) (rest := rest) rfl hsz rfl hW9 hd hf) hC.2.2.2.2.1 hC.2.2.2.2.2 hS (fun E9 ce q9 H locs hpx hP hS hce hcv hcl => ?_) (fun z w9 H locs hp hP hS => ?_)
  · skip
    exfalso
    omega
  · skip
    have g1 := GI_01 hE.1
    have ha9 : 0 ≤ a ∧ a < 16 := by unfold th1 at h0; split at h0 <;> omega
    obtain rfl := ev_start hE ha9 hp.2
    rw [hv]
    exact kk σ κ ω H locs ⟨hP, hS, hE, hL⟩
set_option maxHeartbeats 1000000 in
theorem d_firstStart (hst : l.stackTraces = false) (hC : CX p m cd cc nL s args h D c A) (hW : WS D c h A s σ κ ω d L H locs) {a mi : Int} (ha : -2147483648 ≤ a ∧ a ≤ 2147483647) (hmi : -2147483648 ≤ mi ∧ mi ≤ 2147483647) (hlB : lnB d = true) (h0 : tM d a mi = 0) {v : Int} (hv : ffF d a.toNat 1001 mi = v) (hd : decode cc pc = .ok (.invokevirtual 50, 3)) (hsz : ls.size = nL) (hW9 : (rest.map fun v => v.category).sum ≤ 8) (hR : 8 + 1 ≤ R.frames ∧ 8 + (6 + 11) + 124 ≤ R.locals) (hf : cells + 3 ≤ R.cells ∧ slots + 6 * 3 ≤ R.slots)
    (kk : ∀ (σ κ : Nat → Nat → Int) (ω : Nat × (Nat → Int32) × Int32) (H : Heap) (locs : List Loc), WS D c h A s σ κ ω d L H locs → W p l e R s m args below meth cd H locs (cells + 3) (slots + 6 * 3) Q (F0 m (pc + 3) ls (.int (iz v) :: rest))) :
    W p l e R s m args below meth cd H locs cells slots Q (F0 m pc ls (.int (iz mi) :: .int (iz a) :: .ref (h 0) :: rest)) := by
  obtain ⟨hP, hS, hE, hL⟩ := hW
  rw [← tM_ev hE] at h0
  refine z_hci (k := 3) (S := (Nat → Nat → Int)) (w := (fun κ9 => gC c h σ κ9 ω)) (P := (fun z κ9 => thM σ a mi = 0 ∧ ∃ σ9, FFS σ a.toNat mi z σ9)) (PX := fun E9 => (E9 = E98 ∧ thM σ a mi = 1) ∨ (E9 = E206 ∧ thM σ a mi = 2) ∨ (E9 = E67 ∧ thM σ a mi = 3)) (g := gC c h σ κ ω) (z_xrunV (rm := { frames := 8, cells := 3, slots := 6 * 3, locals := 124 }) hC.1 hC.2.1 hC.2.2.1 hC.2.2.2.2.1 hC.2.2.2.2.2 hP hS (c_X3_firstStart l h D c σ κ ω hC.2.2.2.2.1.1 hE.1 a ha mi hmi (ln_ev hE hlB) hst _) (gIn_V mp_13 mw_657 mw_658 mw_86 mw_190) rfl rfl ⟨rfl, by decide, by decide, rfl⟩ hR (k := 0) (T := TX3) (N := 14) (by decide) rfl rfl rfl (As := [.int (iz a), .int (iz mi)]) (rest := rest) rfl hsz rfl hW9 hd hf) hC.2.2.2.2.1 hC.2.2.2.2.2 hS (fun E9 ce q9 H locs hpx hP hS hce hcv hcl => ?_) (fun z w9 H locs hp hP hS => ?_)
  · skip
    exfalso
    omega
  · skip
    have hb9 := thM_b hE h0
    obtain ⟨σ9, hf9⟩ := hp.2
    have hl9 := ln_all hlB a.toNat hb9.2.1
    have hz9 := ff_ev hE hb9.2.1 hb9.2.2.2 (by rcases hl9 with q | q; exact q; exact absurd q.1 hb9.2.2.2) (by omega) hf9
    rw [hz9, hv]
    exact kk σ w9 ω H locs ⟨hP, hS, hE, hL⟩
set_option maxHeartbeats 1000000 in
theorem d_type (hst : l.stackTraces = false) (hC : CX p m cd cc nL s args h D c A) (hW : WS D c h A s σ κ ω d L H locs) {ch : Int} (hch : -2147483648 ≤ ch ∧ ch ≤ 2147483647) (h0 : (97 ≤ ch ∧ ch ≤ 122) ∧ L.length < 6) {v : Int} (hv : ((L.length : Int) + 1) = v) (hd : decode cc pc = .ok (.invokevirtual 26, 3)) (hsz : ls.size = nL) (hW9 : (rest.map fun v => v.category).sum ≤ 8) (hR : 7 + 1 ≤ R.frames ∧ 8 + (2 + 11) + 104 ≤ R.locals) (hf : cells + 2 ≤ R.cells ∧ slots + 6 * 2 ≤ R.slots)
    (kk : ∀ (σ κ : Nat → Nat → Int) (ω : Nat × (Nat → Int32) × Int32) (H : Heap) (locs : List Loc), WS D c h A s σ κ ω d (L ++ [ch]) H locs → W p l e R s m args below meth cd H locs (cells + 2) (slots + 6 * 2) Q (F0 m (pc + 3) ls (.int (iz v) :: rest))) :
    W p l e R s m args below meth cd H locs cells slots Q (F0 m pc ls (.int (iz ch) :: .ref (h 0) :: rest)) := by
  obtain ⟨hP, hS, hE, hL⟩ := hW
  refine z_hci (k := 2) (S := Unit) (w := (fun _ => gC c h σ κ (ω.1 + 1, upd ω.2.1 ω.1 (iz ch), ω.2.2))) (P := (fun z _ => (97 ≤ ch ∧ ch ≤ 122) ∧ ω.1 < 6 ∧ z = (ω.1 : Int) + 1)) (PX := fun E9 => (E9 = E206 ∧ ¬ (97 ≤ ch ∧ ch ≤ 122)) ∨ (E9 = E67 ∧ (97 ≤ ch ∧ ch ≤ 122) ∧ ω.1 = 6)) (g := gC c h σ κ ω) (z_xrunV (rm := { frames := 7, cells := 2, slots := 6 * 2, locals := 104 }) hC.1 hC.2.1 hC.2.2.1 hC.2.2.2.2.1 hC.2.2.2.2.2 hP hS (c_X3_type l h D c σ κ ω hC.2.2.2.2.1.1 hE.1 ch hch (WL_6 hL) hst _) (gIn_V mp_6 mw_660 mw_661 mw_86 mw_296) rfl rfl ⟨rfl, by decide, by decide, rfl⟩ hR (k := 0) (T := TX3) (N := 14) (by decide) rfl rfl rfl (As := [.int (iz ch)]) (rest := rest) rfl hsz rfl hW9 hd hf) hC.2.2.2.2.1 hC.2.2.2.2.2 hS (fun E9 ce q9 H locs hpx hP hS hce hcv hcl => ?_) (fun z w9 H locs hp hP hS => ?_)
  · skip
    exfalso
    have := WL_n hL
    omega
  · skip
    obtain ⟨_, _, rfl⟩ := hp
    rw [WL_n hL, hv]
    exact kk σ κ (ω.1 + 1, upd ω.2.1 ω.1 (iz ch), ω.2.2) H locs ⟨hP, hS, hE, WL_app hL h0.1 h0.2⟩
set_option maxHeartbeats 1000000 in
theorem d_grant (hst : l.stackTraces = false) (hC : CX p m cd cc nL s args h D c A) (hW : WS D c h A s σ κ ω d L H locs) {a : Int} (ha : -2147483648 ≤ a ∧ a ≤ 2147483647) (h0 : 0 ≤ wishOf (spell L.reverse) ∧ (0 ≤ a ∧ a ≤ d.2.2.2.2.2.1 - 1) ∧ aOn (ga d.2.2.2.2.1 a.toNat) ≠ 0) {v : Int} (hv : (if (bbF (dG d a.toNat (wishOf (spell L.reverse))) a.toNat == 0) = true then (1 : Int) else 0) = v) (hn9 : (if (bbF (dG d a.toNat (wishOf (spell L.reverse))) a.toNat == 0) = true then dG d a.toNat (wishOf (spell L.reverse)) else d) = d') (hd : decode cc pc = .ok (.invokevirtual 54, 3)) (hsz : ls.size = nL) (hW9 : (rest.map fun v => v.category).sum ≤ 8) (hR : 8 + 1 ≤ R.frames ∧ 8 + (7 + 11) + 176 ≤ R.locals) (hf : cells + 5 ≤ R.cells ∧ slots + 6 * 5 ≤ R.slots)
    (kk : ∀ (σ κ : Nat → Nat → Int) (ω : Nat × (Nat → Int32) × Int32) (H : Heap) (locs : List Loc), WS D c h A s σ κ ω d' L H locs → W p l e R s m args below meth cd H locs (cells + 5) (slots + 6 * 5) Q (F0 m (pc + 3) ls (.int (iz v) :: rest))) :
    W p l e R s m args below meth cd H locs cells slots Q (F0 m pc ls (.int (iz a) :: .ref (h 0) :: rest)) := by
  obtain ⟨hP, hS, hE, hL⟩ := hW
  refine z_hci (k := 5) (S := ((Nat → Nat → Int) × (Nat → Nat → Int))) (w := (fun u9 => gC c h u9.1 u9.2 ω)) (P := (fun z (u9 : (Nat → Nat → Int) × (Nat → Nat → Int)) => ∃ i : Int, TW ω i ∧ 0 ≤ i ∧ (0 ≤ a ∧ a ≤ σ 0 1 - 1) ∧ σ 14 a.toNat ≠ 0 ∧ CS σ (grT σ a.toNat i) (bby (grT σ a.toNat i) a.toNat = 0) z u9.1 ∧ GI u9.1)) (PX := fun E9 => (E9 = E98 ∧ ¬ (0 ≤ a ∧ a ≤ σ 0 1 - 1)) ∨ (E9 = E67 ∧ (0 ≤ a ∧ a ≤ σ 0 1 - 1) ∧ (σ 14 a.toNat = 0 ∨ TW ω (-1)))) (g := gC c h σ κ ω) (z_xrunV (rm := { frames := 8, cells := 5, slots := 6 * 5, locals := 176 }) hC.1 hC.2.1 hC.2.2.1 hC.2.2.2.2.1 hC.2.2.2.2.2 hP hS (c_X3_grant l h D c σ κ ω hC.2.2.2.2.1.1 hE.1 a ha (WL_6 hL) (WL_by hL) hst _) (gIn_V mp_14 mw_663 mw_664 mw_86 mw_390) rfl rfl ⟨rfl, by decide, by decide, rfl⟩ hR (k := 0) (T := TX3) (N := 14) (by decide) rfl rfl rfl (As := [.int (iz a)]) (rest := rest) rfl hsz rfl hW9 hd hf) hC.2.2.2.2.1 hC.2.2.2.2.2 hS (fun E9 ce q9 H locs hpx hP hS hce hcv hcl => ?_) (fun z w9 H locs hp hP hS => ?_)
  · skip
    exfalso
    have g1 := GI_01 hE.1
    have e1 := ES_na0 hE
    rcases hpx with ⟨_, q⟩ | ⟨_, q1, q2⟩
    · exact q (by omega)
    · rcases q2 with q2 | q2
      · rw [(ES_ac hE (k := a.toNat) (by omega)).2.2.2.2.2.2.2.1] at q2
        exact h0.2.2 q2
      · have := TW_is hL q2
        omega
  · skip
    obtain ⟨i, q0, q1, q2, q3, q4, _⟩ := hp
    rw [TW_is hL q0] at q4
    obtain ⟨rfl, hE1⟩ := ev_grant hE q2 q3 q4
    rw [hn9] at hE1
    rw [hv]
    exact kk w9.1 w9.2 ω H locs ⟨hP, hS, hE1, hL⟩
set_option maxHeartbeats 1000000 in
theorem d_ofAct (hst : l.stackTraces = false) (hC : CX p m cd cc nL s args h D c A) (hW : WS D c h A s σ κ ω d L H locs) {a wh : Int} (ha : -2147483648 ≤ a ∧ a ≤ 2147483647) (hwh : -2147483648 ≤ wh ∧ wh ≤ 2147483647) (h0 : tO d a wh = 0) {v : Int} (hv : (if wh = 0 then (ga d.2.2.2.2.1 a.toNat).2.2.2.2.1 else if wh = 1 then (ga d.2.2.2.2.1 a.toNat).2.2.2.2.2.1 else (ga d.2.2.2.2.1 a.toNat).2.2.2.2.2.2.1) = v) (hd : decode cc pc = .ok (.invokevirtual 58, 3)) (hsz : ls.size = nL) (hW9 : (rest.map fun v => v.category).sum ≤ 8) (hR : 7 + 1 ≤ R.frames ∧ 8 + (3 + 11) + 103 ≤ R.locals) (hf : cells + 2 ≤ R.cells ∧ slots + 6 * 2 ≤ R.slots)
    (kk : ∀ (σ κ : Nat → Nat → Int) (ω : Nat × (Nat → Int32) × Int32) (H : Heap) (locs : List Loc), WS D c h A s σ κ ω d L H locs → W p l e R s m args below meth cd H locs (cells + 2) (slots + 6 * 2) Q (F0 m (pc + 3) ls (.int (iz v) :: rest))) :
    W p l e R s m args below meth cd H locs cells slots Q (F0 m pc ls (.int (iz wh) :: .int (iz a) :: .ref (h 0) :: rest)) := by
  obtain ⟨hP, hS, hE, hL⟩ := hW
  rw [← tO_ev hE] at h0
  refine z_hci (k := 2) (S := Unit) (w := (fun _ => gC c h σ κ ω)) (P := (fun z _ => thO σ a wh = 0 ∧ z = if wh = 0 then σ 11 a.toNat else if wh = 1 then σ 12 a.toNat else σ 13 a.toNat)) (PX := fun E9 => (E9 = E98 ∧ thO σ a wh = 1)) (g := gC c h σ κ ω) (z_xrunV (rm := { frames := 7, cells := 2, slots := 6 * 2, locals := 103 }) hC.1 hC.2.1 hC.2.2.1 hC.2.2.2.2.1 hC.2.2.2.2.2 hP hS (c_X3_ofAct l h D c σ κ ω hC.2.2.2.2.1.1 hE.1 a ha wh hwh hst _) (gIn_V mp_15 mw_666 mw_667 mw_86 mw_391) rfl rfl ⟨rfl, by decide, by decide, rfl⟩ hR (k := 0) (T := TX3) (N := 14) (by decide) rfl rfl rfl (As := [.int (iz a), .int (iz wh)]) (rest := rest) rfl hsz rfl hW9 hd hf) hC.2.2.2.2.1 hC.2.2.2.2.2 hS (fun E9 ce q9 H locs hpx hP hS hce hcv hcl => ?_) (fun z w9 H locs hp hP hS => ?_)
  · skip
    exfalso
    omega
  · skip
    have g1 := GI_01 hE.1
    have ha9 : 0 ≤ a ∧ a < 16 := by unfold thO at h0; split at h0 <;> omega
    obtain rfl := ev_ofAct hE ha9 hp.2
    rw [hv]
    exact kk σ κ ω H locs ⟨hP, hS, hE, hL⟩
set_option maxHeartbeats 1000000 in
theorem d_storm (hst : l.stackTraces = false) (hC : CX p m cd cc nL s args h D c A) (hW : WS D c h A s σ κ ω d L H locs) {sg mi du : Int} (hsg : -2147483648 ≤ sg ∧ sg ≤ 2147483647) (hmi : -2147483648 ≤ mi ∧ mi ≤ 2147483647) (hdu : -2147483648 ≤ du ∧ du ≤ 2147483647) (hlB : lnB d = true) (hnB : nwB d = true) (h0 : tX d sg mi du = 0) {v : Int} (hv : (stF d sg mi du).1 = v) (hn9 : (stF d sg mi du).2 = d') (hd : decode cc pc = .ok (.invokevirtual 61, 3)) (hsz : ls.size = nL) (hW9 : (rest.map fun v => v.category).sum ≤ 8) (hR : 8 + 1 ≤ R.frames ∧ 8 + (5 + 11) + 145 ≤ R.locals) (hf : cells + 4 ≤ R.cells ∧ slots + 6 * 4 ≤ R.slots)
    (kk : ∀ (σ κ : Nat → Nat → Int) (ω : Nat × (Nat → Int32) × Int32) (H : Heap) (locs : List Loc), WS D c h A s σ κ ω d' L H locs → W p l e R s m args below meth cd H locs (cells + 4) (slots + 6 * 4) Q (F0 m (pc + 3) ls (.int (iz v) :: rest))) :
    W p l e R s m args below meth cd H locs cells slots Q (F0 m pc ls (.int (iz du) :: .int (iz mi) :: .int (iz sg) :: .ref (h 0) :: rest)) := by
  obtain ⟨hP, hS, hE, hL⟩ := hW
  rw [← tX_ev hE] at h0
  refine z_hci (k := 4) (S := ((Nat → Nat → Int) × (Nat → Nat → Int))) (w := (fun u9 => gC c h u9.1 u9.2 ω)) (P := (fun z u9 => thX σ sg mi du = 0 ∧ (∃ σ1, COF (stC σ sg mi (min (mi + du) 1000)) (σ 0 2).toNat σ1 ∧ GI σ1 ∧ RPn (min (mi + du) 1000) 16 σ1 0 u9.1 z) ∧ GI u9.1)) (PX := fun E9 => (E9 = E98 ∧ thX σ sg mi du = 1) ∨ (E9 = E206 ∧ thX σ sg mi du = 2) ∨ (E9 = E67 ∧ thX σ sg mi du = 3)) (g := gC c h σ κ ω) (z_xrunV (rm := { frames := 8, cells := 4, slots := 6 * 4, locals := 145 }) hC.1 hC.2.1 hC.2.2.1 hC.2.2.2.2.1 hC.2.2.2.2.2 hP hS (c_X3_storm l h D c σ κ ω hC.2.2.2.2.1.1 hE.1 sg hsg mi hmi du hdu (ln_ev hE hlB) (nw_ev hE hnB) hst _) (gIn_V mp_16 mw_669 mw_670 mw_86 mw_405) rfl rfl ⟨rfl, by decide, by decide, rfl⟩ hR (k := 0) (T := TX3) (N := 14) (by decide) rfl rfl rfl (As := [.int (iz sg), .int (iz mi), .int (iz du)]) (rest := rest) rfl hsz rfl hW9 hd hf) hC.2.2.2.2.1 hC.2.2.2.2.2 hS (fun E9 ce q9 H locs hpx hP hS hce hcv hcl => ?_) (fun z w9 H locs hp hP hS => ?_)
  · skip
    exfalso
    omega
  · skip
    obtain ⟨rfl, hE1⟩ := ev_storm hE (ln_all hlB) hp.1 hp.2.1
    rw [hn9] at hE1
    rw [hv]
    exact kk w9.1 w9.2 ω H locs ⟨hP, hS, hE1, hL⟩
set_option maxHeartbeats 1000000 in
theorem d_load (hst : l.stackTraces = false) (hC : CX p m cd cc nL s args h D c A) (hW : WS D c h A s σ κ ω d L H locs) {mi ph : Int} (hmi : -2147483648 ≤ mi ∧ mi ≤ 2147483647) (hph : -2147483648 ≤ ph ∧ ph ≤ 2147483647) (h0 : thP ph mi = 0) {v : Int} (hv : ldL (d.2.2.2.2.1.filter (plA mi)) ph = v) (hd : decode cc pc = .ok (.invokevirtual 65, 3)) (hsz : ls.size = nL) (hW9 : (rest.map fun v => v.category).sum ≤ 8) (hR : 8 + 1 ≤ R.frames ∧ 8 + (3 + 11) + 124 ≤ R.locals) (hf : cells + 2 ≤ R.cells ∧ slots + 6 * 2 ≤ R.slots)
    (kk : ∀ (σ κ : Nat → Nat → Int) (ω : Nat × (Nat → Int32) × Int32) (H : Heap) (locs : List Loc), WS D c h A s σ κ ω d L H locs → W p l e R s m args below meth cd H locs (cells + 2) (slots + 6 * 2) Q (F0 m (pc + 3) ls (.int (iz v) :: rest))) :
    W p l e R s m args below meth cd H locs cells slots Q (F0 m pc ls (.int (iz ph) :: .int (iz mi) :: .ref (h 0) :: rest)) := by
  obtain ⟨hP, hS, hE, hL⟩ := hW
  refine z_hci (k := 2) (S := (Nat → Nat → Int)) (w := (fun κ9 => gC c h σ κ9 ω)) (P := (fun z _ => thP ph mi = 0 ∧ z = ldS σ mi ph.toNat 16)) (PX := fun E9 => (E9 = E98 ∧ thP ph mi = 1) ∨ (E9 = E206 ∧ thP ph mi = 2)) (g := gC c h σ κ ω) (z_xrunV (rm := { frames := 8, cells := 2, slots := 6 * 2, locals := 124 }) hC.1 hC.2.1 hC.2.2.1 hC.2.2.2.2.1 hC.2.2.2.2.2 hP hS (c_X3_load l h D c σ κ ω hC.2.2.2.2.1.1 hE.1 mi hmi ph hph hst _) (gIn_V mp_17 mw_672 mw_673 mw_86 mw_406) rfl rfl ⟨rfl, by decide, by decide, rfl⟩ hR (k := 0) (T := TX3) (N := 14) (by decide) rfl rfl rfl (As := [.int (iz mi), .int (iz ph)]) (rest := rest) rfl hsz rfl hW9 hd hf) hC.2.2.2.2.1 hC.2.2.2.2.2 hS (fun E9 ce q9 H locs hpx hP hS hce hcv hcl => ?_) (fun z w9 H locs hp hP hS => ?_)
  · skip
    exfalso
    omega
  · skip
    have hb9 : 0 ≤ ph ∧ 0 ≤ mi ∧ mi ≤ 999 := by unfold thP at h0; split at h0 <;> (try split at h0) <;> omega
    obtain rfl := ev_load hE hb9.1 hp.2
    rw [hv]
    exact kk σ w9 ω H locs ⟨hP, hS, hE, hL⟩
set_option maxHeartbeats 1000000 in
theorem d_noise (hst : l.stackTraces = false) (hC : CX p m cd cc nL s args h D c A) (hW : WS D c h A s σ κ ω d L H locs) {mi hs : Int} (hmi : -2147483648 ≤ mi ∧ mi ≤ 2147483647) (hhs : -2147483648 ≤ hs ∧ hs ≤ 2147483647) (h0 : thP hs mi = 0) {v : Int} (hv : nsL (d.2.2.2.2.1.filter (plA mi)) hs (gt d.2.2.2.1 (mi / 60).toNat) = v) (hd : decode cc pc = .ok (.invokevirtual 68, 3)) (hsz : ls.size = nL) (hW9 : (rest.map fun v => v.category).sum ≤ 8) (hR : 8 + 1 ≤ R.frames ∧ 8 + (3 + 11) + 124 ≤ R.locals) (hf : cells + 2 ≤ R.cells ∧ slots + 6 * 2 ≤ R.slots)
    (kk : ∀ (σ κ : Nat → Nat → Int) (ω : Nat × (Nat → Int32) × Int32) (H : Heap) (locs : List Loc), WS D c h A s σ κ ω d L H locs → W p l e R s m args below meth cd H locs (cells + 2) (slots + 6 * 2) Q (F0 m (pc + 3) ls (.int (iz v) :: rest))) :
    W p l e R s m args below meth cd H locs cells slots Q (F0 m pc ls (.int (iz hs) :: .int (iz mi) :: .ref (h 0) :: rest)) := by
  obtain ⟨hP, hS, hE, hL⟩ := hW
  refine z_hci (k := 2) (S := (Nat → Nat → Int)) (w := (fun κ9 => gC c h σ κ9 ω)) (P := (fun z _ => thP hs mi = 0 ∧ z = nsS σ mi (wd σ mi) hs.toNat 16)) (PX := fun E9 => (E9 = E98 ∧ thP hs mi = 1) ∨ (E9 = E206 ∧ thP hs mi = 2)) (g := gC c h σ κ ω) (z_xrunV (rm := { frames := 8, cells := 2, slots := 6 * 2, locals := 124 }) hC.1 hC.2.1 hC.2.2.1 hC.2.2.2.2.1 hC.2.2.2.2.2 hP hS (c_X3_noise l h D c σ κ ω hC.2.2.2.2.1.1 hE.1 mi hmi hs hhs hst _) (gIn_V mp_18 mw_675 mw_676 mw_86 mw_407) rfl rfl ⟨rfl, by decide, by decide, rfl⟩ hR (k := 0) (T := TX3) (N := 14) (by decide) rfl rfl rfl (As := [.int (iz mi), .int (iz hs)]) (rest := rest) rfl hsz rfl hW9 hd hf) hC.2.2.2.2.1 hC.2.2.2.2.2 hS (fun E9 ce q9 H locs hpx hP hS hce hcv hcl => ?_) (fun z w9 H locs hp hP hS => ?_)
  · skip
    exfalso
    omega
  · skip
    have hb9 : 0 ≤ hs ∧ 0 ≤ mi ∧ mi ≤ 999 := by unfold thP at h0; split at h0 <;> (try split at h0) <;> omega
    obtain rfl := ev_noise hE hb9.2 hb9.1 hp.2
    rw [hv]
    exact kk σ w9 ω H locs ⟨hP, hS, hE, hL⟩
set_option maxHeartbeats 1000000 in
theorem d_channels (hst : l.stackTraces = false) (hC : CX p m cd cc nL s args h D c A) (hW : WS D c h A s σ κ ω d L H locs) {mi : Int} (hmi : -2147483648 ≤ mi ∧ mi ≤ 2147483647) (h0 : thK mi = 0) {v : Int} (hv : chF d mi = v) (hd : decode cc pc = .ok (.invokevirtual 71, 3)) (hsz : ls.size = nL) (hW9 : (rest.map fun v => v.category).sum ≤ 8) (hR : 8 + 1 ≤ R.frames ∧ 8 + (2 + 11) + 124 ≤ R.locals) (hf : cells + 1 ≤ R.cells ∧ slots + 6 * 1 ≤ R.slots)
    (kk : ∀ (σ κ : Nat → Nat → Int) (ω : Nat × (Nat → Int32) × Int32) (H : Heap) (locs : List Loc), WS D c h A s σ κ ω d L H locs → W p l e R s m args below meth cd H locs (cells + 1) (slots + 6 * 1) Q (F0 m (pc + 3) ls (.int (iz v) :: rest))) :
    W p l e R s m args below meth cd H locs cells slots Q (F0 m pc ls (.int (iz mi) :: .ref (h 0) :: rest)) := by
  obtain ⟨hP, hS, hE, hL⟩ := hW
  refine z_hci (k := 1) (S := (Nat → Nat → Int)) (w := (fun κ9 => gC c h σ κ9 ω)) (P := (fun z _ => thK mi = 0 ∧ z = chS σ mi 16)) (PX := fun E9 => (E9 = E206 ∧ thK mi = 1)) (g := gC c h σ κ ω) (z_xrunV (rm := { frames := 8, cells := 1, slots := 6 * 1, locals := 124 }) hC.1 hC.2.1 hC.2.2.1 hC.2.2.2.2.1 hC.2.2.2.2.2 hP hS (c_X3_channels l h D c σ κ ω hC.2.2.2.2.1.1 hE.1 mi hmi hst _) (gIn_V mp_19 mw_678 mw_679 mw_86 mw_408) rfl rfl ⟨rfl, by decide, by decide, rfl⟩ hR (k := 0) (T := TX3) (N := 14) (by decide) rfl rfl rfl (As := [.int (iz mi)]) (rest := rest) rfl hsz rfl hW9 hd hf) hC.2.2.2.2.1 hC.2.2.2.2.2 hS (fun E9 ce q9 H locs hpx hP hS hce hcv hcl => ?_) (fun z w9 H locs hp hP hS => ?_)
  · skip
    exfalso
    omega
  · skip
    obtain rfl := ev_channels hE hp.2
    rw [hv]
    exact kk σ w9 ω H locs ⟨hP, hS, hE, hL⟩
theorem d_fine0 (hC : CX p m cd cc nL s args h D c A) (hP : zB 32 h D (gC c h σ κ ω) H) (hS : va_S A s.heap H locs) (hG : GI σ) (hd : decode cc pc = .ok (.invokevirtual 74, 3)) (hsz : ls.size = nL) (hW9 : (rest.map fun v => v.category).sum ≤ 8) (hR : 4 + 1 ≤ R.frames ∧ 8 + (5 + 11) + 97 ≤ R.locals) (hf : cells + 0 ≤ R.cells ∧ slots + 6 * 0 ≤ R.slots)
    (kk : ∀ (κ : Nat → Nat → Int) (H : Heap) (locs : List Loc), zB 32 h D (gC c h σ κ ω) H → va_S A s.heap H locs → W p l e R s m args below meth cd H locs (cells + 0) (slots + 0) Q (F0 m (pc + 3) ls (.int (iz (b2i (fineM σ))) :: rest))) :
    W p l e R s m args below meth cd H locs cells slots Q (F0 m pc ls (.ref (h 0) :: rest)) := by
  refine z_ciK (mc := 0) (ms := 0) (S := Nat → Nat → Int) (w := (fun κ9 => gC c h σ κ9 ω)) (P := (fun z _ => z = b2i (fineM σ))) (z_runV (na := 0) (rm := { frames := 4, cells := 0, slots := 0, locals := 97 }) hC.1 hC.2.1 hP (c_X3_isFineByMinutes l h D c σ κ ω hC.2.2.2.2.1.1 hG _) (gIn_V mp_22 mw_802 mw_803 mw_86 mw_421) rfl rfl ⟨rfl, by decide, by decide, rfl⟩ hR (k := 0) (T := TX3) (N := 14) (by decide) rfl rfl rfl (As := []) (rest := rest) rfl hsz rfl hW9 hd ⟨by omega, by omega⟩) hC.2.2.2.2.1 hC.2.2.2.2.2 hS (fun z w9 H locs hp hP hS => ?_)
  obtain rfl : z = b2i (fineM σ) := hp
  exact kk w9 H locs hP hS
theorem d_fine (hC : CX p m cd cc nL s args h D c A) (hW : WS D c h A s σ κ ω d L H locs) (h1 : aFit d = true) (h2 : bwF d 0 1000 = 0) (hd : decode cc pc = .ok (.invokevirtual 74, 3)) (hsz : ls.size = nL) (hW9 : (rest.map fun v => v.category).sum ≤ 8) (hR : 4 + 1 ≤ R.frames ∧ 8 + (5 + 11) + 97 ≤ R.locals) (hf : cells + 0 ≤ R.cells ∧ slots + 6 * 0 ≤ R.slots)
    (kk : ∀ (σ κ : Nat → Nat → Int) (ω : Nat × (Nat → Int32) × Int32) (H : Heap) (locs : List Loc), WS D c h A s σ κ ω d L H locs → W p l e R s m args below meth cd H locs (cells + 0) (slots + 6 * 0) Q (F0 m (pc + 3) ls (.int (iz 1) :: rest))) :
    W p l e R s m args below meth cd H locs cells slots Q (F0 m pc ls (.ref (h 0) :: rest)) := by
  obtain ⟨hP, hS, hE, hL⟩ := hW
  refine d_fine0 hC hP hS hE.1 hd hsz hW9 hR hf (fun κ H locs hP hS => ?_)
  rw [ev_isFine hE h1 h2 rfl]
  exact kk σ κ ω H locs ⟨hP, hS, hE, hL⟩
theorem d_wipe (hC : CX p m cd cc nL s args h D c A) (hW : WS D c h A s σ κ ω d L H locs) {v : Int} (hv : (L.length : Int) = v) (hd : decode cc pc = .ok (.invokevirtual 95, 3)) (hsz : ls.size = nL) (hW9 : (rest.map fun v => v.category).sum ≤ 8) (hR : 3 + 1 ≤ R.frames ∧ 8 + (2 + 11) + 64 ≤ R.locals) (hf : cells + 0 ≤ R.cells ∧ slots + 6 * 0 ≤ R.slots)
    (kk : ∀ (σ κ : Nat → Nat → Int) (ω : Nat × (Nat → Int32) × Int32) (H : Heap) (locs : List Loc), WS D c h A s σ κ ω d [] H locs → W p l e R s m args below meth cd H locs (cells + 0) (slots + 6 * 0) Q (F0 m (pc + 3) ls (.int (iz v) :: rest))) :
    W p l e R s m args below meth cd H locs cells slots Q (F0 m pc ls (.ref (h 0) :: rest)) := by
  obtain ⟨hP, hS, hE, hL⟩ := hW
  refine z_ciK (mc := 0) (ms := 6 * 0) (S := Int32) (w := (fun f => gC c h σ κ (0, ω.2.1, f))) (P := (fun z _ => z = (ω.1 : Int))) (z_srunV (na := 0) (rm := { frames := 3, cells := 0, slots := 6 * 0, locals := 64 }) hC.1 hC.2.1 hC.2.2.1 hC.2.2.2.2.1 hC.2.2.2.2.2 hP hS (c_X3_wipe l h D c σ κ ω hC.2.2.2.2.1.1 (WL_6 hL) _) (gIn_V mp_37 mw_760 mw_761 mw_86 mw_326) rfl rfl ⟨rfl, by decide, by decide, rfl⟩ hR (k := 0) (T := TX3) (N := 14) (by decide) rfl rfl rfl (As := []) (rest := rest) rfl hsz rfl hW9 hd hf) hC.2.2.2.2.1 hC.2.2.2.2.2 hS (fun z f9 H locs hp hP hS => ?_)
  obtain rfl : z = (ω.1 : Int) := hp
  rw [WL_n hL, hv]
  exact kk σ κ (0, ω.2.1, f9) H locs ⟨hP, hS, hE, WL_nil⟩
end DR
