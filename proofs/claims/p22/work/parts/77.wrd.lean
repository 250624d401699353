/-! the typed word: letters, wishes -/
/-- the five wishes' letters -/
def wtx : List (List Int) := [[108, 105, 103, 104, 116], [100, 97, 114, 107], [108, 111, 117, 100], [115, 111, 102, 116], [97, 105, 114]]
/-- what is typed is this word -/
def eqw (ω : Nat × (Nat → Int32) × Int32) (L : List Int) : Prop := ω.1 = L.length ∧ ∀ j, j < L.length → ω.2.1 j = iz (L.getD j 0)
/-- which wish is typed -/
def TW (ω : Nat × (Nat → Int32) × Int32) (i : Int) : Prop := (i = -1 ∧ ∀ j, j < 5 → ¬ eqw ω (wtx.getD j [])) ∨ ∃ n : Nat, i = (n : Int) ∧ n < 5 ∧ eqw ω (wtx.getD n [])
theorem spell_rg : ∀ w : List Int, (∀ c ∈ w, 97 ≤ c ∧ c ≤ 122) → 0 ≤ spell w ∧ (w ≠ [] → 1 ≤ spell w) := by
  intro w
  induction w with
  | nil => intro _; exact ⟨by simp [spell], fun h => absurd rfl h⟩
  | cons c w ih =>
    intro h
    have h1 := ih (fun x hx => h x (List.mem_cons_of_mem _ hx))
    have h2 := h c List.mem_cons_self
    simp only [spell]
    exact ⟨by omega, fun _ => by omega⟩
theorem spell_inj : ∀ w w' : List Int, (∀ c ∈ w, 97 ≤ c ∧ c ≤ 122) → (∀ c ∈ w', 97 ≤ c ∧ c ≤ 122) → spell w = spell w' → w = w' := by
  intro w
  induction w with
  | nil =>
    intro w' _ h' e
    cases w' with
    | nil => rfl
    | cons c w' =>
      have := (spell_rg _ h').2 (by simp)
      simp only [spell] at e this
      omega
  | cons c w ih =>
    intro w' h h' e
    cases w' with
    | nil =>
      have := (spell_rg _ h).2 (by simp)
      simp only [spell] at e this
      omega
    | cons c' w' =>
      have h1 := h c List.mem_cons_self
      have h2 := h' c' List.mem_cons_self
      simp only [spell] at e
      have e1 : c = c' := by omega
      have e2 : spell w = spell w' := by omega
      rw [e1, ih w' (fun x hx => h x (List.mem_cons_of_mem _ hx)) (fun x hx => h' x (List.mem_cons_of_mem _ hx)) e2]
theorem spell_le : ∀ (w : List Int) (n : Nat), (∀ c ∈ w, 97 ≤ c ∧ c ≤ 122) → w.length ≤ n → spell w < 27 ^ n := by
  intro w
  induction w with
  | nil => intro n _ _; simp only [spell]; exact Int.pow_pos (by decide)
  | cons c w ih =>
    intro n h hn
    cases n with
    | zero => simp at hn
    | succ n =>
      have h1 := ih n (fun x hx => h x (List.mem_cons_of_mem _ hx)) (by simp at hn; omega)
      have h2 := h c List.mem_cons_self
      simp only [spell]
      have e : (27 : Int) ^ (n + 1) = 27 ^ n * 27 := Int.pow_succ 27 n
      generalize (27 : Int) ^ n = x at h1 e
      omega
section V
variable {σ τ σ' τ' : Nat → Nat → Int} {ω ω' : Nat × (Nat → Int32) × Int32} {z z' t : Int}
theorem Wd_rg (h : Wd ω τ) : (0 ≤ τ 0 3 ∧ τ 0 3 ≤ 6) ∧ (0 ≤ τ 0 4 ∧ τ 0 4 < 387420489) := by
  obtain ⟨w, a, b, c, d, e, f⟩ := h
  have h1 := spell_le w 6 b a
  have h2 := spell_rg w b
  have e6 : (27 : Int) ^ 6 = 387420489 := by decide
  rw [e6] at h1
  exact ⟨by omega, by omega⟩
theorem eqw_iff {w L : List Int} (hb : ∀ c ∈ w, 97 ≤ c ∧ c ≤ 122) (hL : ∀ c ∈ L, 97 ≤ c ∧ c ≤ 122) (h1 : ω.1 = w.length) (h2 : ∀ j, j < w.length → ω.2.1 j = iz (w.reverse.getD j 0)) : eqw ω L ↔ w = L.reverse := by
  constructor
  · rintro ⟨e1, e2⟩
    have el : w.length = L.length := by omega
    rw [← List.reverse_reverse w]
    congr 1
    apply List.ext_getElem?
    intro j
    rcases Nat.lt_or_ge j w.length with q | q
    · have hj : j < L.length := by omega
      have hr : j < w.reverse.length := by rw [List.length_reverse]; exact q
      have a := h2 j q
      rw [e2 j hj] at a
      rw [List.getD_eq_getElem?_getD, List.getD_eq_getElem?_getD, List.getElem?_eq_getElem hj, List.getElem?_eq_getElem hr] at a
      have m1 := hL _ (List.getElem_mem hj)
      have m2 := hb _ (List.mem_reverse.mp (List.getElem_mem hr))
      have := (iz_eq (a := L[j]) (b := w.reverse[j]) (by omega) (by omega)).mp a
      rw [List.getElem?_eq_getElem hj, List.getElem?_eq_getElem hr, this]
    · rw [List.getElem?_eq_none (by rw [List.length_reverse]; exact q), List.getElem?_eq_none (by omega)]
  · intro e
    subst e
    refine ⟨by rw [h1, List.length_reverse], fun j hj => ?_⟩
    rw [h2 j (by rw [List.length_reverse]; exact hj), List.reverse_reverse]
theorem tw_eq (h : Wd ω τ) {i : Int} (hi : TW ω i) : i = wishOf (τ 0 4) := by
  obtain ⟨w, a, b, c, d, e, f⟩ := h
  have hL : ∀ n, n < 5 → ∀ x ∈ wtx.getD n [], 97 ≤ x ∧ x ≤ 122 := by decide
  have key : ∀ n, n < 5 → (eqw ω (wtx.getD n []) ↔ spell w = spell (wtx.getD n []).reverse) := fun n hn => by
    rw [eqw_iff b (hL n hn) c d]
    exact ⟨fun q => by rw [q], fun q => spell_inj _ _ b (fun x hx => hL n hn x (List.mem_reverse.mp hx)) q⟩
  have k0 := key 0 (by decide)
  have k1 := key 1 (by decide)
  have k2 := key 2 (by decide)
  have k3 := key 3 (by decide)
  have k4 := key 4 (by decide)
  rw [show spell (wtx.getD 0 []).reverse = 6559778 from by decide] at k0
  rw [show spell (wtx.getD 1 []).reverse = 79958 from by decide] at k1
  rw [show spell (wtx.getD 2 []).reverse = 247702 from by decide] at k2
  rw [show spell (wtx.getD 3 []).reverse = 385094 from by decide] at k3
  rw [show spell (wtx.getD 4 []).reverse = 990 from by decide] at k4
  unfold wishOf
  rw [f]
  rcases hi with ⟨rfl, hn⟩ | ⟨n, rfl, hn, hq⟩
  · have n0 := fun q => hn 0 (by decide) (k0.mpr q)
    have n1 := fun q => hn 1 (by decide) (k1.mpr q)
    have n2 := fun q => hn 2 (by decide) (k2.mpr q)
    have n3 := fun q => hn 3 (by decide) (k3.mpr q)
    have n4 := fun q => hn 4 (by decide) (k4.mpr q)
    rw [if_neg n0, if_neg n1, if_neg n2, if_neg n3, if_neg n4]
  · rcases (show n = 0 ∨ n = 1 ∨ n = 2 ∨ n = 3 ∨ n = 4 by omega) with rfl | rfl | rfl | rfl | rfl
    · rw [k0.mp hq]; decide
    · rw [k1.mp hq]; decide
    · rw [k2.mp hq]; decide
    · rw [k3.mp hq]; decide
    · rw [k4.mp hq]; decide
theorem e_type {ch : Int} (h : INV σ ω τ) (hch : 97 ≤ ch ∧ ch ≤ 122) (h6 : ω.1 < 6) (h1 : ω'.1 = ω.1 + 1) (h2 : ω'.2.1 = upd ω.2.1 ω.1 (iz ch)) (hz : z = (ω.1 : Int) + 1)
    (hm : t = thT τ ch ∧ ((0 < thT τ ch ∧ z' = 0 ∧ τ' = τ) ∨ (thT τ ch = 0 ∧ z' = τ 0 3 + 1 ∧ τ' = u2 (u2 τ 0 4 (27 * τ 0 4 + ch - 97 + 1)) 0 3 (τ 0 3 + 1))) ∧ GI τ') : t = 0 ∧ z = z' ∧ INV σ ω' τ' := by
  obtain ⟨hR, hG, hGt, hF, hL, hO, hw, w, a, b, c, d, e, f⟩ := h
  have h0 : thT τ ch = 0 := by
    unfold thT
    rw [if_pos hch, if_neg (by omega)]
  rw [h0] at hm
  obtain ⟨m1, m2, m3⟩ := hm
  rcases m2 with m2 | ⟨_, rfl, rfl⟩
  · have := m2.1; omega
  refine ⟨m1, by omega, rel_0w (rel_0w hR (by decide)) (by decide), hG, m3, hF, hL, hO, hw, ch :: w, by simp; omega, ?_, by rw [h1, c]; rfl, fun j hj => ?_, ?_, ?_⟩
  · intro x hx
    rcases List.mem_cons.mp hx with rfl | hx
    · exact hch
    · exact b x hx
  · rw [h2, List.reverse_cons, List.getD_eq_getElem?_getD]
    rw [List.length_cons] at hj
    unfold upd
    split
    · rename_i q
      rw [List.getElem?_append_right (by rw [List.length_reverse]; omega), q, c, List.length_reverse, Nat.sub_self]
      rfl
    · rename_i q
      rw [List.getElem?_append_left (by rw [List.length_reverse]; omega), d j (by omega), List.getD_eq_getElem?_getD]
  · rw [u2_at, e, List.length_cons]; omega
  · rw [u2_ne (by decide), u2_at, f]
    simp only [spell]
    omega
theorem e_wipe (h : INV σ ω τ) (h1 : ω'.1 = 0) (hz : z = (ω.1 : Int)) (hm : t = 0 ∧ z' = τ 0 3 ∧ τ' = u2 (u2 τ 0 4 0) 0 3 0 ∧ GI τ') : t = 0 ∧ z = z' ∧ INV σ ω' τ' := by
  obtain ⟨hR, hG, hGt, hF, hL, hO, hw, w, a, b, c, d, e, f⟩ := h
  obtain ⟨rfl, rfl, rfl, m3⟩ := hm
  refine ⟨rfl, by omega, rel_0w (rel_0w hR (by decide)) (by decide), hG, m3, hF, hL, hO, hw, [], by simp, fun x hx => absurd hx List.not_mem_nil, by rw [h1]; rfl, fun j hj => absurd hj (Nat.not_lt_zero _), by rw [u2_at]; rfl, by rw [u2_ne (by decide), u2_at]; rfl⟩
theorem e_grant {a i : Int} (h : INV σ ω τ) (hi : TW ω i) (hi0 : 0 ≤ i) (ha : 0 ≤ a ∧ a ≤ σ 0 1 - 1) (ho : σ 14 a.toNat ≠ 0) (hc : CS σ (grT σ a.toNat i) (bby (grT σ a.toNat i) a.toNat = 0) z σ')
    (hm : MS τ (thG τ a) (grT τ a.toNat (wishOf (τ 0 4))) z' τ' t) : t = 0 ∧ z = z' ∧ INV σ' ω τ' := by
  obtain ⟨hR, hG, hGt, hF, hL, hO, hw, hW⟩ := id h
  have g := GI_01 hG
  have ei := tw_eq hW hi
  have h0 : thG τ a = 0 := by
    unfold thG
    rw [← R_01 hR, if_pos ha, ← R_14 hR (by omega), if_neg ho, if_neg (by omega)]
  rw [h0, ← ei] at hm
  have hk : a.toNat < 16 := by omega
  generalize a.toNat = k at hk ho hc hm
  have er : ∀ r, r ≠ 11 → r ≠ 12 → r ≠ 13 → ∀ {x : Nat → Nat → Int}, grT x k i r = x r := fun r q1 q2 q3 {x} => by unfold grT; rw [u2_row q3, u2_row q2, u2_row q1]
  have hR1 : Rel (grT σ k i) (grT τ k i) := by
    unfold grT
    rw [R_11 hR, R_12 hR, R_13 hR]
    exact rel_row (rel_row (rel_row hR (by omega)) (by omega)) (by omega)
  have hG1 : GI (grT σ k i) := by
    unfold grT
    refine GI_u13 (GI_u12 (GI_u11 hG (by omega)) (by omega)) ?_
    have := GI_13 hG k
    unfold wC
    split
    · exact this
    · split <;> omega
  have hO1 : Oth σ (grT σ k i) k := by
    unfold grT
    exact ((Oth.refl.up (by decide)).up (by decide)).up (by decide)
  refine e_try h hR1 hG1 (fun j hj q => ?_) (fun j hj q => ?_) (fun j hj => ?_) (hW.keep ?_ ?_) ?_ hc hm
  · rw [er 9 (by decide) (by decide) (by decide)]
    rw [er 14 (by decide) (by decide) (by decide)] at q
    exact hL j hj q
  · rw [er 0 (by decide) (by decide) (by decide)] at q
    rw [er 14 (by decide) (by decide) (by decide)]
    exact hO j hj q
  · rw [er 15 (by decide) (by decide) (by decide)]; exact hw j hj
  · rw [er 0 (by decide) (by decide) (by decide)]
  · rw [er 0 (by decide) (by decide) (by decide)]
  · rw [bby_oth hO1 hk hG hG1 (by rw [er 14 (by decide) (by decide) (by decide)]; exact ho) hF]
end V
