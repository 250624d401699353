/-! both sides of one call beside one another -/
theorem ML_thr {τ τ1 τ' : Nat → Nat → Int} {thr z t : Int} (hm : ML τ thr τ1 z τ' t) (h : 0 < thr) : t = thr ∧ τ' = τ := by
  obtain ⟨m1, m2, _⟩ := hm
  rcases m2 with m2 | m2
  · exact ⟨m1, m2.2.2⟩
  · have := m2.1; omega
theorem MPl_thr {τ τ1 τ' : Nat → Nat → Int} {thr z t : Int} (hm : MPl τ thr τ1 z τ' t) (h : 0 < thr) : t = thr ∧ τ' = τ := by
  obtain ⟨m1, m2, _⟩ := hm
  rcases m2 with m2 | m2
  · exact ⟨m1, m2.2.2⟩
  · have := m2.1; omega
theorem MSt_thr {τ τ' : Nat → Nat → Int} {sg mi du z t : Int} (hm : MSt τ sg mi du z τ' t) (h : 0 < thX τ sg mi du) : t = thX τ sg mi du ∧ τ' = τ := by
  obtain ⟨m1, m2, _⟩ := hm
  rcases m2 with m2 | m2
  · exact ⟨m1, m2.2.2⟩
  · have := m2.1; omega
theorem MSet_thr {τ τ' : Nat → Nat → Int} {mi z t : Int} (hm : MSet τ mi z τ' t) (h : 0 < thS τ mi) : t = thS τ mi ∧ τ' = τ := by
  obtain ⟨m1, m2, _⟩ := hm
  rcases m2 with m2 | m2
  · exact ⟨m1, m2.2.2⟩
  · have := m2.1; omega
theorem thS_rel {σ τ : Nat → Nat → Int} {mi : Int} (h : Rel σ τ) : thS τ mi = thS σ mi := by unfold thS; rw [R_00 h]
theorem Wd_3 {ω : Nat × (Nat → Int32) × Int32} {τ : Nat → Nat → Int} (h : Wd ω τ) : τ 0 3 = (ω.1 : Int) := by
  obtain ⟨w, a, b, c, d, e, f⟩ := h
  rw [e, c]
theorem Wd_6 {ω : Nat × (Nat → Int32) × Int32} {τ : Nat → Nat → Int} (h : Wd ω τ) : ω.1 ≤ 6 := by
  obtain ⟨w, a, b, c, d, e, f⟩ := h
  omega
theorem Wd_by {ω : Nat × (Nat → Int32) × Int32} {τ : Nat → Nat → Int} (h : Wd ω τ) : ∀ j, j < ω.1 → ∃ x : Int, (97 ≤ x ∧ x ≤ 122) ∧ ω.2.1 j = iz x := by
  obtain ⟨w, a, b, c, d, e, f⟩ := h
  intro j hj
  have hr : j < w.reverse.length := by rw [List.length_reverse]; omega
  refine ⟨w.reverse.getD j 0, ?_, d j (by omega)⟩
  rw [List.getD_eq_getElem?_getD, List.getElem?_eq_getElem hr]
  exact b _ (List.mem_reverse.mp (List.getElem_mem hr))
theorem j_startSet {σ κ τ : Nat → Nat → Int} {ω : Nat × (Nat → Int32) × Int32} {o : Int64} {mi : Int} {k z' : Int} {u : SS} {u9 : ((Nat → Nat → Int) × (Nat → Nat → Int))} (h : INV σ ω τ) (hc : (fun (k : Int) (u : SS) => (k = 0 ∧ ∃ z : Int, u.2.2.2 = cvI z ∧ MSet σ mi z u.1 0 ∧ u.2.2.1 = ω) ∨ (u = (σ, κ, ω, o) ∧ ((k = 1 ∧ thS σ mi = 1) ∨ (k = 2 ∧ thS σ mi = 2)))) k u) (hm : (fun z u9 => MSet τ mi z u9.1 (u9.2 1 0)) z' u9) :
    (0 ≤ k ∧ k ≤ 3) ∧ u9.2 1 0 = k ∧ (k = 0 → u.2.2.2 = cvI z') ∧ INV u.1 u.2.2.1 u9.1 := by
  rcases hc with ⟨rfl, z, ho, post, hω⟩ | ⟨rfl, hk⟩
  · obtain ⟨e1, e2, e3⟩ := e_startSet h post hm
    exact ⟨by decide, e1, fun _ => by rw [ho, e2], by rw [hω]; exact e3⟩
  · have hk3 : 0 ≤ k ∧ k ≤ 3 := by rcases hk with ⟨rfl, _⟩ | ⟨rfl, _⟩ <;> decide
    have hk2 : thS σ mi = k ∧ 0 < k := by omega
    obtain ⟨e1, e2⟩ := MSet_thr hm (by rw [thS_rel h.1]; omega)
    have e4 := thS_rel (mi := mi) h.1
    exact ⟨hk3, by omega, (fun q => absurd q (by omega)), by rw [e2]; exact h⟩
theorem j_setChange {σ κ τ : Nat → Nat → Int} {ω : Nat × (Nat → Int32) × Int32} {o : Int64} {sg mi : Int} {k z' : Int} {u : SS} {u9 : ((Nat → Nat → Int) × (Nat → Nat → Int))} (h : INV σ ω τ) (hc : (fun (k : Int) (u : SS) => (k = 0 ∧ ∃ z : Int, u.2.2.2 = cvB z ∧ thC sg mi = 0 ∧ CS σ (u2 σ 2 sg.toNat mi) (stFine (u2 σ 2 sg.toNat mi) sg) z u.1 ∧ GI u.1 ∧ u.2.2.1 = ω) ∨ (u = (σ, κ, ω, o) ∧ ((k = 1 ∧ thC sg mi = 1) ∨ (k = 2 ∧ thC sg mi = 2)))) k u) (hm : (fun z u9 => MS τ (thC sg mi) (u2 τ 2 (sg).toNat mi) z u9.1 (u9.2 1 0)) z' u9) :
    (0 ≤ k ∧ k ≤ 3) ∧ u9.2 1 0 = k ∧ (k = 0 → u.2.2.2 = cvB z') ∧ INV u.1 u.2.2.1 u9.1 := by
  rcases hc with ⟨rfl, z, ho, p1, p2, p3, hω⟩ | ⟨rfl, hk⟩
  · obtain ⟨e1, e2, e3⟩ := e_setChange h p1 p2 hm
    exact ⟨by decide, e1, fun _ => by rw [ho, e2], by rw [hω]; exact e3⟩
  · have hk3 : 0 ≤ k ∧ k ≤ 3 := by rcases hk with ⟨rfl, _⟩ | ⟨rfl, _⟩ <;> decide
    have hk2 : thC sg mi = k ∧ 0 < k := by omega
    obtain ⟨e1, e2⟩ := MS_thr hm (by omega)
    skip
    exact ⟨hk3, by omega, (fun q => absurd q (by omega)), by rw [e2]; exact h⟩
theorem j_setBound {σ κ τ : Nat → Nat → Int} {ω : Nat × (Nat → Int32) × Int32} {o : Int64} {hs bd : Int} {k z' : Int} {u : SS} {u9 : ((Nat → Nat → Int) × (Nat → Nat → Int))} (h : INV σ ω τ) (hc : (fun (k : Int) (u : SS) => (k = 0 ∧ ∃ z : Int, u.2.2.2 = cvB z ∧ thB hs bd = 0 ∧ CS σ (u2 σ 3 hs.toNat bd) (bw (u2 σ 3 hs.toNat bd) 0 1000 = 0) z u.1 ∧ GI u.1 ∧ u.2.2.1 = ω) ∨ (u = (σ, κ, ω, o) ∧ ((k = 1 ∧ thB hs bd = 1) ∨ (k = 2 ∧ thB hs bd = 2)))) k u) (hm : (fun z u9 => MS τ (thB hs bd) (u2 τ 3 (hs).toNat bd) z u9.1 (u9.2 1 0)) z' u9) :
    (0 ≤ k ∧ k ≤ 3) ∧ u9.2 1 0 = k ∧ (k = 0 → u.2.2.2 = cvB z') ∧ INV u.1 u.2.2.1 u9.1 := by
  rcases hc with ⟨rfl, z, ho, p1, p2, p3, hω⟩ | ⟨rfl, hk⟩
  · obtain ⟨e1, e2, e3⟩ := e_setBound h p1 p2 hm
    exact ⟨by decide, e1, fun _ => by rw [ho, e2], by rw [hω]; exact e3⟩
  · have hk3 : 0 ≤ k ∧ k ≤ 3 := by rcases hk with ⟨rfl, _⟩ | ⟨rfl, _⟩ <;> decide
    have hk2 : thB hs bd = k ∧ 0 < k := by omega
    obtain ⟨e1, e2⟩ := MS_thr hm (by omega)
    skip
    exact ⟨hk3, by omega, (fun q => absurd q (by omega)), by rw [e2]; exact h⟩
theorem j_setWind {σ κ τ : Nat → Nat → Int} {ω : Nat × (Nat → Int32) × Int32} {o : Int64} {hr9 wn : Int} {k z' : Int} {u : SS} {u9 : ((Nat → Nat → Int) × (Nat → Nat → Int))} (h : INV σ ω τ) (hc : (fun (k : Int) (u : SS) => (k = 0 ∧ ∃ z : Int, u.2.2.2 = cvB z ∧ thW hr9 wn = 0 ∧ CS σ (u2 σ 4 hr9.toNat wn) (bw (u2 σ 4 hr9.toNat wn) (hr9 * 60) (min (hr9 * 60 + 60) 1000) = 0) z u.1 ∧ GI u.1 ∧ u.2.2.1 = ω) ∨ (u = (σ, κ, ω, o) ∧ ((k = 1 ∧ thW hr9 wn = 1) ∨ (k = 2 ∧ thW hr9 wn = 2)))) k u) (hm : (fun z u9 => MS τ (thW hr9 wn) (u2 τ 4 (hr9).toNat wn) z u9.1 (u9.2 1 0)) z' u9) :
    (0 ≤ k ∧ k ≤ 3) ∧ u9.2 1 0 = k ∧ (k = 0 → u.2.2.2 = cvB z') ∧ INV u.1 u.2.2.1 u9.1 := by
  rcases hc with ⟨rfl, z, ho, p1, p2, p3, hω⟩ | ⟨rfl, hk⟩
  · obtain ⟨e1, e2, e3⟩ := e_setWind h p1 p2 hm
    exact ⟨by decide, e1, fun _ => by rw [ho, e2], by rw [hω]; exact e3⟩
  · have hk3 : 0 ≤ k ∧ k ≤ 3 := by rcases hk with ⟨rfl, _⟩ | ⟨rfl, _⟩ <;> decide
    have hk2 : thW hr9 wn = k ∧ 0 < k := by omega
    obtain ⟨e1, e2⟩ := MS_thr hm (by omega)
    skip
    exact ⟨hk3, by omega, (fun q => absurd q (by omega)), by rw [e2]; exact h⟩
theorem j_plan {σ κ τ : Nat → Nat → Int} {ω : Nat × (Nat → Int32) × Int32} {o : Int64} {sg sa ln ph dr lo ch : Int} {k z' : Int} {u : SS} {u9 : ((Nat → Nat → Int) × (Nat → Nat → Int))} (h : INV σ ω τ) (hc : (fun (k : Int) (u : SS) => (k = 0 ∧ ∃ z : Int, u.2.2.2 = cvI z ∧ thL σ sg sa ln ph dr lo ch = 0 ∧ ((bby (lay σ (σ 0 1).toNat sg sa ln ph dr lo ch) ((σ 0 1).toNat) ≠ 0 ∧ z = -1 ∧ u.1 = u2 (lay σ (σ 0 1).toNat sg sa ln ph dr lo ch) 14 (σ 0 1).toNat 0) ∨ (bby (lay σ (σ 0 1).toNat sg sa ln ph dr lo ch) ((σ 0 1).toNat) = 0 ∧ z = σ 0 1 ∧ u.1 = u2 (lay σ (σ 0 1).toNat sg sa ln ph dr lo ch) 0 1 (σ 0 1 + 1))) ∧ GI u.1 ∧ u.2.2.1 = ω) ∨ (u = (σ, κ, ω, o) ∧ ((k = 1 ∧ thL σ sg sa ln ph dr lo ch = 1) ∨ (k = 2 ∧ thL σ sg sa ln ph dr lo ch = 2) ∨ (k = 3 ∧ thL σ sg sa ln ph dr lo ch = 3)))) k u) (hm : (fun z u9 => MPl τ (thL τ sg sa ln ph dr lo ch) (lay τ (τ 0 1).toNat sg sa ln ph dr lo ch) z u9.1 (u9.2 1 0)) z' u9) :
    (0 ≤ k ∧ k ≤ 3) ∧ u9.2 1 0 = k ∧ (k = 0 → u.2.2.2 = cvI z') ∧ INV u.1 u.2.2.1 u9.1 := by
  rcases hc with ⟨rfl, z, ho, p1, p2, p3, hω⟩ | ⟨rfl, hk⟩
  · obtain ⟨e1, e2, e3⟩ := e_plan h p1 p3 p2 hm
    exact ⟨by decide, e1, fun _ => by rw [ho, e2], by rw [hω]; exact e3⟩
  · have hk3 : 0 ≤ k ∧ k ≤ 3 := by rcases hk with ⟨rfl, _⟩ | ⟨rfl, _⟩ | ⟨rfl, _⟩ <;> decide
    have hk2 : thL σ sg sa ln ph dr lo ch = k ∧ 0 < k := by omega
    obtain ⟨e1, e2⟩ := MPl_thr hm (by rw [thL_rel h]; omega)
    have e4 := thL_rel (sg := sg) (sa := sa) (ln := ln) (ph := ph) (dr := dr) (lo := lo) (ch := ch) h
    exact ⟨hk3, by omega, (fun q => absurd q (by omega)), by rw [e2]; exact h⟩
theorem j_reason {σ κ τ : Nat → Nat → Int} {ω : Nat × (Nat → Int32) × Int32} {o : Int64} {sg sa ln ph dr lo ch : Int} {k z' : Int} {u : SS} {u9 : ((Nat → Nat → Int) × (Nat → Nat → Int))} (h : INV σ ω τ) (hc : (fun (k : Int) (u : SS) => (k = 0 ∧ ∃ z : Int, u.2.2.2 = cvI z ∧ thL σ sg sa ln ph dr lo ch = 0 ∧ z = bby (lay σ (σ 0 1).toNat sg sa ln ph dr lo ch) ((σ 0 1).toNat) ∧ u.1 = u2 (lay σ (σ 0 1).toNat sg sa ln ph dr lo ch) 14 (σ 0 1).toNat 0 ∧ GI u.1 ∧ u.2.2.1 = ω) ∨ (u = (σ, κ, ω, o) ∧ ((k = 1 ∧ thL σ sg sa ln ph dr lo ch = 1) ∨ (k = 2 ∧ thL σ sg sa ln ph dr lo ch = 2) ∨ (k = 3 ∧ thL σ sg sa ln ph dr lo ch = 3)))) k u) (hm : (fun z u9 => ML τ (thL τ sg sa ln ph dr lo ch) (lay τ (τ 0 1).toNat sg sa ln ph dr lo ch) z u9.1 (u9.2 1 0)) z' u9) :
    (0 ≤ k ∧ k ≤ 3) ∧ u9.2 1 0 = k ∧ (k = 0 → u.2.2.2 = cvI z') ∧ INV u.1 u.2.2.1 u9.1 := by
  rcases hc with ⟨rfl, z, ho, p1, p2, p3, p4, hω⟩ | ⟨rfl, hk⟩
  · obtain ⟨e1, e2, e3⟩ := e_reason h p1 ⟨p2, p3⟩ hm
    exact ⟨by decide, e1, fun _ => by rw [ho, e2], by rw [hω]; exact e3⟩
  · have hk3 : 0 ≤ k ∧ k ≤ 3 := by rcases hk with ⟨rfl, _⟩ | ⟨rfl, _⟩ | ⟨rfl, _⟩ <;> decide
    have hk2 : thL σ sg sa ln ph dr lo ch = k ∧ 0 < k := by omega
    obtain ⟨e1, e2⟩ := ML_thr hm (by rw [thL_rel h]; omega)
    have e4 := thL_rel (sg := sg) (sa := sa) (ln := ln) (ph := ph) (dr := dr) (lo := lo) (ch := ch) h
    exact ⟨hk3, by omega, (fun q => absurd q (by omega)), by rw [e2]; exact h⟩
theorem j_move {σ κ τ : Nat → Nat → Int} {ω : Nat × (Nat → Int32) × Int32} {o : Int64} {a mi : Int} {k z' : Int} {u : SS} {u9 : ((Nat → Nat → Int) × (Nat → Nat → Int))} (h : INV σ ω τ) (hc : (fun (k : Int) (u : SS) => (k = 0 ∧ ∃ z : Int, u.2.2.2 = cvB z ∧ thM σ a mi = 0 ∧ CS σ (u2 σ 8 a.toNat mi) (bby (u2 σ 8 a.toNat mi) a.toNat = 0) z u.1 ∧ GI u.1 ∧ u.2.2.1 = ω) ∨ (u = (σ, κ, ω, o) ∧ ((k = 1 ∧ thM σ a mi = 1) ∨ (k = 2 ∧ thM σ a mi = 2) ∨ (k = 3 ∧ thM σ a mi = 3)))) k u) (hm : (fun z u9 => MS τ (thM τ a mi) (u2 τ 8 a.toNat mi) z u9.1 (u9.2 1 0)) z' u9) :
    (0 ≤ k ∧ k ≤ 3) ∧ u9.2 1 0 = k ∧ (k = 0 → u.2.2.2 = cvB z') ∧ INV u.1 u.2.2.1 u9.1 := by
  rcases hc with ⟨rfl, z, ho, p1, p2, p3, hω⟩ | ⟨rfl, hk⟩
  · obtain ⟨e1, e2, e3⟩ := e_move h p1 p2 hm
    exact ⟨by decide, e1, fun _ => by rw [ho, e2], by rw [hω]; exact e3⟩
  · have hk3 : 0 ≤ k ∧ k ≤ 3 := by rcases hk with ⟨rfl, _⟩ | ⟨rfl, _⟩ | ⟨rfl, _⟩ <;> decide
    have hk2 : thM σ a mi = k ∧ 0 < k := by omega
    obtain ⟨e1, e2⟩ := MS_thr hm (by rw [thM_rel h]; omega)
    have e4 := thM_rel (a := a) (mi := mi) h
    exact ⟨hk3, by omega, (fun q => absurd q (by omega)), by rw [e2]; exact h⟩
theorem j_drop {σ κ τ : Nat → Nat → Int} {ω : Nat × (Nat → Int32) × Int32} {o : Int64} {a : Int} {k : Int} {u : SS} {u9 : ((Nat → Nat → Int) × (Nat → Nat → Int))} (h : INV σ ω τ) (hc : (fun (k : Int) (u : SS) => (k = 0 ∧ thD σ a = 0 ∧ u.1 = u2 σ 14 a.toNat 0 ∧ GI u.1 ∧ u.2.2.1 = ω) ∨ (u = (σ, κ, ω, o) ∧ ((k = 1 ∧ thD σ a = 1) ∨ (k = 2 ∧ thD σ a = 2)))) k u) (hm : (fun u9 => u9.2 1 0 = thD τ a ∧ u9.1 = (if thD τ a = 0 then u2 τ 14 a.toNat 0 else τ) ∧ GI u9.1) u9) :
    (0 ≤ k ∧ k ≤ 3) ∧ u9.2 1 0 = k ∧ INV u.1 u.2.2.1 u9.1 := by
  rcases hc with ⟨rfl, p1, p2, p3, hω⟩ | ⟨rfl, hk⟩
  · obtain ⟨e1, e3⟩ := e_drop h p1 p2 hm
    exact ⟨by decide, e1, by rw [hω]; exact e3⟩
  · have hk3 : 0 ≤ k ∧ k ≤ 3 := by rcases hk with ⟨rfl, _⟩ | ⟨rfl, _⟩ <;> decide
    have hk2 : thD σ a = k ∧ 0 < k := by omega
    obtain ⟨e1, e2, _⟩ := hm
    have e4 := thD_rel (a := a) h
    rw [if_neg (by omega)] at e2
    exact ⟨hk3, by omega, by rw [e2]; exact h⟩
theorem j_start {σ κ τ : Nat → Nat → Int} {ω : Nat × (Nat → Int32) × Int32} {o : Int64} {a : Int} {k z' : Int} {u : SS} {u9 : (Nat → Nat → Int)} (h : INV σ ω τ) (hc : (fun (k : Int) (u : SS) => (k = 0 ∧ ∃ z : Int, u.2.2.2 = cvI z ∧ th1 σ a = 0 ∧ (z = if σ 14 a.toNat = 0 then -1 else σ 8 a.toNat) ∧ u.1 = σ ∧ u.2.2.1 = ω) ∨ (u = (σ, κ, ω, o) ∧ ((k = 1 ∧ th1 σ a = 1)))) k u) (hm : (fun z κ9 => κ9 1 0 = th1 τ a ∧ (th1 τ a = 0 → z = if τ 14 a.toNat = 0 then -1 else τ 8 a.toNat)) z' u9) :
    (0 ≤ k ∧ k ≤ 3) ∧ u9 1 0 = k ∧ (k = 0 → u.2.2.2 = cvI z') ∧ INV u.1 u.2.2.1 τ := by
  rcases hc with ⟨rfl, z, ho, p1, p2, hσ, hω⟩ | ⟨rfl, hk⟩
  · obtain ⟨e1, e2⟩ := e_start h p1 p2 hm
    exact ⟨by decide, e1, fun _ => by rw [ho, e2], by rw [hω, hσ]; exact h⟩
  · have hk3 : 0 ≤ k ∧ k ≤ 3 := by obtain ⟨rfl, _⟩ := hk; decide
    have hk2 : th1 σ a = k ∧ 0 < k := by omega
    obtain ⟨e1, _⟩ := hm
    have e4 := th1_rel (a := a) h
    exact ⟨hk3, by omega, (fun q => absurd q (by omega)), h⟩
theorem j_firstStart {σ κ τ : Nat → Nat → Int} {ω : Nat × (Nat → Int32) × Int32} {o : Int64} {a mi : Int} {k z' : Int} {u : SS} {u9 : (Nat → Nat → Int)} (h : INV σ ω τ) (hc : (fun (k : Int) (u : SS) => (k = 0 ∧ ∃ z : Int, u.2.2.2 = cvI z ∧ thM σ a mi = 0 ∧ (∃ σ9, FFS σ a.toNat mi z σ9) ∧ u.1 = σ ∧ u.2.2.1 = ω) ∨ (u = (σ, κ, ω, o) ∧ ((k = 1 ∧ thM σ a mi = 1) ∨ (k = 2 ∧ thM σ a mi = 2) ∨ (k = 3 ∧ thM σ a mi = 3)))) k u) (hm : (fun z κ9 => κ9 1 0 = thM τ a mi ∧ (thM τ a mi = 0 → MF τ a.toNat mi z)) z' u9) :
    (0 ≤ k ∧ k ≤ 3) ∧ u9 1 0 = k ∧ (k = 0 → u.2.2.2 = cvI z') ∧ INV u.1 u.2.2.1 τ := by
  rcases hc with ⟨rfl, z, ho, p1, ⟨σ9, p2⟩, hσ, hω⟩ | ⟨rfl, hk⟩
  · obtain ⟨e1, e2⟩ := e_firstStart h p1 p2 hm
    exact ⟨by decide, e1, fun _ => by rw [ho, e2], by rw [hω, hσ]; exact h⟩
  · have hk3 : 0 ≤ k ∧ k ≤ 3 := by rcases hk with ⟨rfl, _⟩ | ⟨rfl, _⟩ | ⟨rfl, _⟩ <;> decide
    have hk2 : thM σ a mi = k ∧ 0 < k := by omega
    obtain ⟨e1, _⟩ := hm
    have e4 := thM_rel (a := a) (mi := mi) h
    exact ⟨hk3, by omega, (fun q => absurd q (by omega)), h⟩
theorem j_type {σ κ τ : Nat → Nat → Int} {ω : Nat × (Nat → Int32) × Int32} {o : Int64} {ch : Int} {k z' : Int} {u : SS} {u9 : ((Nat → Nat → Int) × (Nat → Nat → Int))} (h : INV σ ω τ) (hc : (fun (k : Int) (u : SS) => (k = 0 ∧ ∃ z : Int, u.2.2.2 = cvI z ∧ (97 ≤ ch ∧ ch ≤ 122) ∧ ω.1 < 6 ∧ z = (ω.1 : Int) + 1 ∧ u.1 = σ ∧ u.2.2.1 = (ω.1 + 1, upd ω.2.1 ω.1 (iz ch), ω.2.2)) ∨ (u = (σ, κ, ω, o) ∧ ((k = 1 ∧ ¬ (97 ≤ ch ∧ ch ≤ 122)) ∨ (k = 2 ∧ (97 ≤ ch ∧ ch ≤ 122) ∧ ω.1 = 6)))) k u) (hm : (fun z u9 => u9.2 1 0 = thT τ ch ∧ ((0 < thT τ ch ∧ z = 0 ∧ u9.1 = τ) ∨ (thT τ ch = 0 ∧ z = τ 0 3 + 1 ∧ u9.1 = u2 (u2 τ 0 4 (27 * τ 0 4 + ch - 97 + 1)) 0 3 (τ 0 3 + 1))) ∧ GI u9.1) z' u9) :
    (0 ≤ k ∧ k ≤ 3) ∧ u9.2 1 0 = k ∧ (k = 0 → u.2.2.2 = cvI z') ∧ INV u.1 u.2.2.1 u9.1 := by
  rcases hc with ⟨rfl, z, ho, p1, p2, p3, hσ, hω⟩ | ⟨rfl, hk⟩
  · obtain ⟨e1, e2, e3⟩ := e_type (ω' := (ω.1 + 1, upd ω.2.1 ω.1 (iz ch), ω.2.2)) h p1 p2 rfl rfl p3 hm
    exact ⟨by decide, e1, fun _ => by rw [ho, e2], by rw [hω, hσ]; exact e3⟩
  · have hk3 : 0 ≤ k ∧ k ≤ 3 := by rcases hk with ⟨rfl, _⟩ | ⟨rfl, _⟩ <;> decide
    have h3 := Wd_3 h.2.2.2.2.2.2.2
    obtain ⟨e1, e2, _⟩ := hm
    have hk2 : thT τ ch = k ∧ 0 < k := by
      unfold thT
      rcases hk with ⟨rfl, q⟩ | ⟨rfl, q1, q2⟩
      · rw [if_neg q]; exact ⟨rfl, by decide⟩
      · rw [if_pos q1, if_pos (by omega)]; exact ⟨rfl, by decide⟩
    rcases e2 with ⟨_, _, e2⟩ | ⟨e2, _⟩
    · exact ⟨hk3, by omega, (fun q => absurd q (by omega)), by rw [e2]; exact h⟩
    · omega
theorem j_grant {σ κ τ : Nat → Nat → Int} {ω : Nat × (Nat → Int32) × Int32} {o : Int64} {a : Int} {k z' : Int} {u : SS} {u9 : ((Nat → Nat → Int) × (Nat → Nat → Int))} (h : INV σ ω τ) (hc : (fun (k : Int) (u : SS) => (k = 0 ∧ ∃ z : Int, u.2.2.2 = cvB z ∧ (∃ i : Int, TW ω i ∧ 0 ≤ i ∧ (0 ≤ a ∧ a ≤ σ 0 1 - 1) ∧ σ 14 a.toNat ≠ 0 ∧ CS σ (grT σ a.toNat i) (bby (grT σ a.toNat i) a.toNat = 0) z u.1 ∧ GI u.1) ∧ u.2.2.1 = ω) ∨ (u = (σ, κ, ω, o) ∧ ((k = 1 ∧ ¬ (0 ≤ a ∧ a ≤ σ 0 1 - 1)) ∨ (k = 2 ∧ (0 ≤ a ∧ a ≤ σ 0 1 - 1) ∧ (σ 14 a.toNat = 0 ∨ TW ω (-1)))))) k u) (hm : (fun z u9 => MS τ (thG τ a) (grT τ a.toNat (wishOf (τ 0 4))) z u9.1 (u9.2 1 0)) z' u9) :
    (0 ≤ k ∧ k ≤ 3) ∧ u9.2 1 0 = k ∧ (k = 0 → u.2.2.2 = cvB z') ∧ INV u.1 u.2.2.1 u9.1 := by
  rcases hc with ⟨rfl, z, ho, ⟨i, p1, p2, p3, p4, p5, p6⟩, hω⟩ | ⟨rfl, hk⟩
  · obtain ⟨e1, e2, e3⟩ := e_grant h p1 p2 p3 p4 p5 hm
    exact ⟨by decide, e1, fun _ => by rw [ho, e2], by rw [hω]; exact e3⟩
  · have hk3 : 0 ≤ k ∧ k ≤ 3 := by rcases hk with ⟨rfl, _⟩ | ⟨rfl, _⟩ <;> decide
    have g := GI_01 h.2.1
    have e01 := R_01 h.1
    have hk2 : thG τ a = k ∧ 0 < k := by
      unfold thG
      rw [← e01]
      rcases hk with ⟨rfl, q⟩ | ⟨rfl, q1, q2⟩
      · rw [if_neg q]; exact ⟨rfl, by decide⟩
      · rw [if_pos q1, ← R_14 h.1 (by omega)]
        rcases q2 with q2 | q2
        · rw [if_pos q2]; exact ⟨rfl, by decide⟩
        · have := tw_eq h.2.2.2.2.2.2.2 q2
          split
          · exact ⟨rfl, by decide⟩
          · rw [if_pos (by omega)]; exact ⟨rfl, by decide⟩
    obtain ⟨e1, e2⟩ := MS_thr hm (by omega)
    exact ⟨hk3, by omega, (fun q => absurd q (by omega)), by rw [e2]; exact h⟩
theorem j_ofAct {σ κ τ : Nat → Nat → Int} {ω : Nat × (Nat → Int32) × Int32} {o : Int64} {a wh : Int} {k z' : Int} {u : SS} {u9 : (Nat → Nat → Int)} (h : INV σ ω τ) (hc : (fun (k : Int) (u : SS) => (k = 0 ∧ ∃ z : Int, u.2.2.2 = cvI z ∧ thO σ a wh = 0 ∧ (z = if wh = 0 then σ 11 a.toNat else if wh = 1 then σ 12 a.toNat else σ 13 a.toNat) ∧ u.1 = σ ∧ u.2.2.1 = ω) ∨ (u = (σ, κ, ω, o) ∧ ((k = 1 ∧ thO σ a wh = 1)))) k u) (hm : (fun z κ9 => κ9 1 0 = thO τ a wh ∧ (thO τ a wh = 0 → z = if wh = 0 then τ 11 a.toNat else if wh = 1 then τ 12 a.toNat else τ 13 a.toNat)) z' u9) :
    (0 ≤ k ∧ k ≤ 3) ∧ u9 1 0 = k ∧ (k = 0 → u.2.2.2 = cvI z') ∧ INV u.1 u.2.2.1 τ := by
  rcases hc with ⟨rfl, z, ho, p1, p2, hσ, hω⟩ | ⟨rfl, hk⟩
  · obtain ⟨e1, e2⟩ := e_ofAct h p1 p2 hm
    exact ⟨by decide, e1, fun _ => by rw [ho, e2], by rw [hω, hσ]; exact h⟩
  · have hk3 : 0 ≤ k ∧ k ≤ 3 := by obtain ⟨rfl, _⟩ := hk; decide
    have hk2 : thO σ a wh = k ∧ 0 < k := by omega
    obtain ⟨e1, _⟩ := hm
    have e4 := thO_rel (a := a) (wh := wh) h
    exact ⟨hk3, by omega, (fun q => absurd q (by omega)), h⟩
theorem j_storm {σ κ τ : Nat → Nat → Int} {ω : Nat × (Nat → Int32) × Int32} {o : Int64} {sg mi du : Int} {k z' : Int} {u : SS} {u9 : ((Nat → Nat → Int) × (Nat → Nat → Int))} (h : INV σ ω τ) (hc : (fun (k : Int) (u : SS) => (k = 0 ∧ ∃ z : Int, u.2.2.2 = cvI z ∧ thX σ sg mi du = 0 ∧ (∃ σ1, COF (stC σ sg mi (min (mi + du) 1000)) (σ 0 2).toNat σ1 ∧ GI σ1 ∧ RPn (min (mi + du) 1000) 16 σ1 0 u.1 z) ∧ GI u.1 ∧ u.2.2.1 = ω) ∨ (u = (σ, κ, ω, o) ∧ ((k = 1 ∧ thX σ sg mi du = 1) ∨ (k = 2 ∧ thX σ sg mi du = 2) ∨ (k = 3 ∧ thX σ sg mi du = 3)))) k u) (hm : (fun z u9 => MSt τ sg mi du z u9.1 (u9.2 1 0)) z' u9) :
    (0 ≤ k ∧ k ≤ 3) ∧ u9.2 1 0 = k ∧ (k = 0 → u.2.2.2 = cvI z') ∧ INV u.1 u.2.2.1 u9.1 := by
  rcases hc with ⟨rfl, z, ho, p1, ⟨σ1, p2, p3, p4⟩, p5, hω⟩ | ⟨rfl, hk⟩
  · obtain ⟨e1, e2, e3⟩ := e_storm h p1 p2 p3 p4 p5 hm
    exact ⟨by decide, e1, fun _ => by rw [ho, e2], by rw [hω]; exact e3⟩
  · have hk3 : 0 ≤ k ∧ k ≤ 3 := by rcases hk with ⟨rfl, _⟩ | ⟨rfl, _⟩ | ⟨rfl, _⟩ <;> decide
    have hk2 : thX σ sg mi du = k ∧ 0 < k := by omega
    obtain ⟨e1, e2⟩ := MSt_thr hm (by rw [thX_rel h]; omega)
    have e4 := thX_rel (sg := sg) (mi := mi) (du := du) h
    exact ⟨hk3, by omega, (fun q => absurd q (by omega)), by rw [e2]; exact h⟩
theorem j_load {σ κ τ : Nat → Nat → Int} {ω : Nat × (Nat → Int32) × Int32} {o : Int64} {mi ph : Int} {k z' : Int} {u : SS} {u9 : (Nat → Nat → Int)} (h : INV σ ω τ) (hc : (fun (k : Int) (u : SS) => (k = 0 ∧ ∃ z : Int, u.2.2.2 = cvI z ∧ thP ph mi = 0 ∧ z = ldS σ mi ph.toNat 16 ∧ u.1 = σ ∧ u.2.2.1 = ω) ∨ (u = (σ, κ, ω, o) ∧ ((k = 1 ∧ thP ph mi = 1) ∨ (k = 2 ∧ thP ph mi = 2)))) k u) (hm : (fun z κ9 => κ9 1 0 = thP ph mi ∧ (thP ph mi = 0 → z = ldS τ mi ph.toNat 17)) z' u9) :
    (0 ≤ k ∧ k ≤ 3) ∧ u9 1 0 = k ∧ (k = 0 → u.2.2.2 = cvI z') ∧ INV u.1 u.2.2.1 τ := by
  rcases hc with ⟨rfl, z, ho, p1, p2, hσ, hω⟩ | ⟨rfl, hk⟩
  · obtain ⟨e1, e2⟩ := e_load h p1 p2 hm
    exact ⟨by decide, e1, fun _ => by rw [ho, e2], by rw [hω, hσ]; exact h⟩
  · have hk3 : 0 ≤ k ∧ k ≤ 3 := by rcases hk with ⟨rfl, _⟩ | ⟨rfl, _⟩ <;> decide
    have hk2 : thP ph mi = k ∧ 0 < k := by omega
    obtain ⟨e1, _⟩ := hm
    skip
    exact ⟨hk3, by omega, (fun q => absurd q (by omega)), h⟩
theorem j_noise {σ κ τ : Nat → Nat → Int} {ω : Nat × (Nat → Int32) × Int32} {o : Int64} {mi hs : Int} {k z' : Int} {u : SS} {u9 : (Nat → Nat → Int)} (h : INV σ ω τ) (hc : (fun (k : Int) (u : SS) => (k = 0 ∧ ∃ z : Int, u.2.2.2 = cvI z ∧ thP hs mi = 0 ∧ z = nsS σ mi (wd σ mi) hs.toNat 16 ∧ u.1 = σ ∧ u.2.2.1 = ω) ∨ (u = (σ, κ, ω, o) ∧ ((k = 1 ∧ thP hs mi = 1) ∨ (k = 2 ∧ thP hs mi = 2)))) k u) (hm : (fun z κ9 => κ9 1 0 = thP hs mi ∧ (thP hs mi = 0 → z = nsS τ mi (wd τ mi) hs.toNat 17)) z' u9) :
    (0 ≤ k ∧ k ≤ 3) ∧ u9 1 0 = k ∧ (k = 0 → u.2.2.2 = cvI z') ∧ INV u.1 u.2.2.1 τ := by
  rcases hc with ⟨rfl, z, ho, p1, p2, hσ, hω⟩ | ⟨rfl, hk⟩
  · obtain ⟨e1, e2⟩ := e_noise h p1 p2 hm
    exact ⟨by decide, e1, fun _ => by rw [ho, e2], by rw [hω, hσ]; exact h⟩
  · have hk3 : 0 ≤ k ∧ k ≤ 3 := by rcases hk with ⟨rfl, _⟩ | ⟨rfl, _⟩ <;> decide
    have hk2 : thP hs mi = k ∧ 0 < k := by omega
    obtain ⟨e1, _⟩ := hm
    skip
    exact ⟨hk3, by omega, (fun q => absurd q (by omega)), h⟩
theorem j_channels {σ κ τ : Nat → Nat → Int} {ω : Nat × (Nat → Int32) × Int32} {o : Int64} {mi : Int} {k z' : Int} {u : SS} {u9 : (Nat → Nat → Int)} (h : INV σ ω τ) (hc : (fun (k : Int) (u : SS) => (k = 0 ∧ ∃ z : Int, u.2.2.2 = cvI z ∧ thK mi = 0 ∧ z = chS σ mi 16 ∧ u.1 = σ ∧ u.2.2.1 = ω) ∨ (u = (σ, κ, ω, o) ∧ ((k = 1 ∧ thK mi = 1)))) k u) (hm : (fun z κ9 => κ9 1 0 = thK mi ∧ (thK mi = 0 → z = chM τ mi 17)) z' u9) :
    (0 ≤ k ∧ k ≤ 3) ∧ u9 1 0 = k ∧ (k = 0 → u.2.2.2 = cvI z') ∧ INV u.1 u.2.2.1 τ := by
  rcases hc with ⟨rfl, z, ho, p1, p2, hσ, hω⟩ | ⟨rfl, hk⟩
  · obtain ⟨e1, e2⟩ := e_channels h p1 p2 hm
    exact ⟨by decide, e1, fun _ => by rw [ho, e2], by rw [hω, hσ]; exact h⟩
  · have hk3 : 0 ≤ k ∧ k ≤ 3 := by obtain ⟨rfl, _⟩ := hk; decide
    have hk2 : thK mi = k ∧ 0 < k := by omega
    obtain ⟨e1, _⟩ := hm
    skip
    exact ⟨hk3, by omega, (fun q => absurd q (by omega)), h⟩
