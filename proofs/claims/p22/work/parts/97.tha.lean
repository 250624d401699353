/-! which calls are refused, by the data; the typed word -/
section TH
variable {σ : Nat → Nat → Int} {d : Da}
def tS (d : Da) (mi : Int) : Int := if 0 ≤ mi ∧ mi ≤ 999 then (if d.1.length = 6 then 2 else 0) else 1
def tM (d : Da) (a mi : Int) : Int := if 0 ≤ a ∧ a ≤ d.2.2.2.2.2.1 - 1 then (if 0 ≤ mi ∧ mi ≤ 999 then (if aOn (ga d.2.2.2.2.1 a.toNat) = 0 then 3 else 0) else 2) else 1
def tD (d : Da) (a : Int) : Int := if 0 ≤ a ∧ a ≤ d.2.2.2.2.2.1 - 1 then (if aOn (ga d.2.2.2.2.1 a.toNat) = 0 then 2 else 0) else 1
def t1 (d : Da) (a : Int) : Int := if 0 ≤ a ∧ a ≤ d.2.2.2.2.2.1 - 1 then 0 else 1
def tL (d : Da) (sg sa ln ph dr lo ch : Int) : Int := if (0 ≤ sg ∧ sg ≤ 2) ∧ (0 ≤ ph ∧ ph ≤ 2) then (if (0 ≤ sa ∧ sa ≤ 999) ∧ (1 ≤ ln ∧ ln ≤ 200) ∧ (0 ≤ dr ∧ dr ≤ 200) ∧ (0 ≤ lo ∧ lo ≤ 200) ∧ (-1 ≤ ch ∧ ch ≤ 31) then (if d.2.2.2.2.2.1 = 16 then 3 else 0) else 2) else 1
def tX (d : Da) (sg mi du : Int) : Int := if 0 ≤ sg ∧ sg ≤ 2 then (if (0 ≤ mi ∧ mi ≤ 999) ∧ (1 ≤ du ∧ du ≤ 200) then (if d.2.2.2.2.2.2.length = 5 then 3 else 0) else 2) else 1
def tO (d : Da) (a wh : Int) : Int := if (0 ≤ a ∧ a ≤ d.2.2.2.2.2.1 - 1) ∧ (0 ≤ wh ∧ wh ≤ 2) then 0 else 1
theorem ES_na0 (h : ES σ d) : σ 0 1 = d.2.2.2.2.2.1 := h.2.2.2.2.2.2.1.1
theorem tS_ev (h : ES σ d) {mi : Int} : thS σ mi = tS d mi := by
  unfold thS tS
  have e := h.2.2.1.1
  split
  · split
    · rw [if_pos (by omega)]
    · rw [if_neg (by omega)]
  · rfl
theorem tM_ev (h : ES σ d) {a mi : Int} : thM σ a mi = tM d a mi := by
  have g := GI_01 h.1
  have e := ES_na0 h
  unfold thM tM
  rw [e]
  split
  · have := (ES_ac h (k := a.toNat) (by omega)).2.2.2.2.2.2.2.1
    rw [this]
  · rfl
theorem tD_ev (h : ES σ d) {a : Int} : thD σ a = tD d a := by
  have g := GI_01 h.1
  have e := ES_na0 h
  unfold thD tD
  rw [e]
  split
  · have := (ES_ac h (k := a.toNat) (by omega)).2.2.2.2.2.2.2.1
    rw [this]
  · rfl
theorem t1_ev (h : ES σ d) {a : Int} : th1 σ a = t1 d a := by unfold th1 t1; rw [ES_na0 h]
theorem tL_ev (h : ES σ d) {sg sa ln ph dr lo ch : Int} : thL σ sg sa ln ph dr lo ch = tL d sg sa ln ph dr lo ch := by unfold thL tL; rw [ES_na0 h]
theorem tX_ev (h : ES σ d) {sg mi du : Int} : thX σ sg mi du = tX d sg mi du := by
  unfold thX tX
  have e := h.2.2.2.2.2.2.2.1
  split
  · split
    · split
      · rw [if_pos (by omega)]
      · rw [if_neg (by omega)]
    · rfl
  · rfl
theorem tO_ev (h : ES σ d) {a wh : Int} : thO σ a wh = tO d a wh := by unfold thO tO; rw [ES_na0 h]
/-- lengths, and that none waits, as the calls want them -/
def lnB (d : Da) : Bool := (List.range 16).all fun j => decide (1 ≤ (ga d.2.2.2.2.1 j).2.2.1) || ((ga d.2.2.2.2.1 j).2.2.2.2.2.2.2.1 == 0 && (ga d.2.2.2.2.1 j).2.2.2.2.2.2.2.2 == 0)
def nwB (d : Da) : Bool := (List.range 16).all fun j => (ga d.2.2.2.2.1 j).2.2.2.2.2.2.2.2 == 0
theorem ln_all {d : Da} (h : lnB d = true) : ∀ j, j < 16 → 1 ≤ (ga d.2.2.2.2.1 j).2.2.1 ∨ (aOn (ga d.2.2.2.2.1 j) = 0 ∧ (ga d.2.2.2.2.1 j).2.2.2.2.2.2.2.2 = 0) := by
  intro j hj
  have := List.all_eq_true.mp h j (List.mem_range.mpr hj)
  simp only [Bool.or_eq_true, Bool.and_eq_true, decide_eq_true_eq, beq_iff_eq] at this
  exact this
theorem ln_ev (h : ES σ d) (hl : lnB d = true) : ∀ k, k < 16 → σ 14 k ≠ 0 → 1 ≤ σ 9 k := by
  intro k hk ho
  have e := ES_ac h hk
  rw [e.2.2.1]
  rw [e.2.2.2.2.2.2.2.1] at ho
  rcases ln_all hl k hk with z | z
  · exact z
  · exact absurd z.1 ho
theorem nw_ev (h : ES σ d) (hl : nwB d = true) : ∀ k, k < 16 → σ 15 k = 0 := by
  intro k hk
  have e := ES_ac h hk
  rw [e.2.2.2.2.2.2.2.2]
  have := List.all_eq_true.mp hl k (List.mem_range.mpr hk)
  simpa using this
end TH
/-- what is typed -/
def WL (ω : Nat × (Nat → Int32) × Int32) (L : List Int) : Prop := eqw ω L ∧ L.length ≤ 6 ∧ ∀ c ∈ L, 97 ≤ c ∧ c ≤ 122
section WO
variable {ω : Nat × (Nat → Int32) × Int32} {L : List Int}
theorem WL_n (h : WL ω L) : ω.1 = L.length := h.1.1
theorem WL_6 (h : WL ω L) : ω.1 ≤ 6 := by rw [WL_n h]; exact h.2.1
theorem WL_by (h : WL ω L) : ∀ j, j < ω.1 → ∃ x : Int, (97 ≤ x ∧ x ≤ 122) ∧ ω.2.1 j = iz x := by
  intro j hj
  rw [WL_n h] at hj
  refine ⟨L.getD j 0, ?_, h.1.2 j hj⟩
  rw [List.getD_eq_getElem?_getD, List.getElem?_eq_getElem hj]
  exact h.2.2 _ (List.getElem_mem hj)
theorem WL_nil {b : Nat → Int32} {f : Int32} : WL (0, b, f) [] := ⟨⟨rfl, fun j hj => absurd hj (Nat.not_lt_zero _)⟩, by decide, fun c hc => absurd hc List.not_mem_nil⟩
theorem WL_app (h : WL ω L) {ch : Int} (hc : 97 ≤ ch ∧ ch ≤ 122) (h6 : L.length < 6) {f : Int32} : WL (ω.1 + 1, upd ω.2.1 ω.1 (iz ch), f) (L ++ [ch]) := by
  refine ⟨⟨by rw [List.length_append]; show ω.1 + 1 = _; rw [WL_n h]; rfl, fun j hj => ?_⟩, by rw [List.length_append]; simp; omega, fun c hc2 => ?_⟩
  · rw [List.length_append] at hj
    simp at hj
    show upd ω.2.1 ω.1 (iz ch) j = _
    rw [WL_n h, List.getD_eq_getElem?_getD]
    unfold upd
    by_cases q : j = L.length
    · rw [if_pos q, List.getElem?_append_right (by omega), q, Nat.sub_self]; rfl
    · rw [if_neg q, List.getElem?_append_left (by omega), h.1.2 j (by omega), List.getD_eq_getElem?_getD]
  · rcases List.mem_append.mp hc2 with q | q
    · exact h.2.2 c q
    · rw [List.mem_singleton.mp q]; exact hc
theorem TW_is (h : WL ω L) {i : Int} (hi : TW ω i) : i = wishOf (spell L.reverse) := by
  have hW : Wd ω (u2 (u2 (fun _ _ => 0) 0 3 (L.length : Int)) 0 4 (spell L.reverse)) := by
    refine ⟨L.reverse, by rw [List.length_reverse]; exact h.2.1, fun c hc => h.2.2 c (List.mem_reverse.mp hc), by rw [List.length_reverse]; exact WL_n h, fun j hj => ?_, ?_, by rw [u2_at]⟩
    · rw [List.length_reverse] at hj
      rw [List.reverse_reverse]
      exact h.1.2 j hj
    · rw [u2_ne (by decide), u2_at, List.length_reverse]
  have := tw_eq hW hi
  rw [u2_at] at this
  exact this
end WO
