/-! .. storms -/
section ED
variable {σ σ' : Nat → Nat → Int} {d : Da}
def dT (d : Da) (s : Int × Int × Int) : Da := (d.1, d.2.1, d.2.2.1, d.2.2.2.1, d.2.2.2.2.1, d.2.2.2.2.2.1, d.2.2.2.2.2.2 ++ [s])
def hitA (s : Int × Int × Int) (a : Ac) : Ac := if ((a.2.2.2.2.2.2.2.1 != 0) && hitF s a) = true then (a.1, a.2.1, a.2.2.1, a.2.2.2.1, a.2.2.2.2.1, a.2.2.2.2.2.1, a.2.2.2.2.2.2.1, 0, 1) else a
def dH (d : Da) (s : Int × Int × Int) : Da := (d.1, d.2.1, d.2.2.1, d.2.2.2.1, d.2.2.2.2.1.map (hitA s), d.2.2.2.2.2.1, d.2.2.2.2.2.2)
theorem ga_map : ∀ (L : List Ac) (f : Ac → Ac) (k : Nat), k < L.length → ga (L.map f) k = f (ga L k) := by
  intro L f
  induction L with
  | nil => intro k h; exact absurd h (Nat.not_lt_zero _)
  | cons a L ih =>
    intro k h
    cases k with
    | zero => rfl
    | succ k => exact ih k (by simpa using h)
theorem ES_dT (h : ES σ d) {sg mi en : Int} (hn : d.2.2.2.2.2.2.length < 5) (b1 : 0 ≤ sg ∧ sg ≤ 2) (b2 : 0 ≤ mi ∧ mi ≤ 999) (b3 : 0 ≤ en ∧ en ≤ 1000) : ES (stC σ sg mi en) (dT d (sg, mi, en)) := by
  have hs := ES_shp h
  obtain ⟨hG, -, hS, hC, hB, hW, hA, hT⟩ := h
  have hN : (σ 0 2).toNat = d.2.2.2.2.2.2.length := by rw [hT.1]; rfl
  have e : ∀ r, 0 < r → r ≠ 16 → r ≠ 17 → r ≠ 18 → stC σ sg mi en r = σ r := fun r a b c g => by
    unfold stC
    rw [u2_row g, u2_row c, u2_row b, u2_row (by omega)]
  have e0 : ∀ i, i ≠ 2 → stC σ sg mi en 0 i = σ 0 i := fun i hi => by
    unfold stC
    rw [u2_row (by decide), u2_row (by decide), u2_row (by decide), u2_ne hi]
  have e02 : stC σ sg mi en 0 2 = σ 0 2 + 1 := by
    unfold stC
    rw [u2_row (by decide), u2_row (by decide), u2_row (by decide), u2_at]
  have e16 : ∀ i, stC σ sg mi en 16 i = if i = d.2.2.2.2.2.2.length then sg else σ 16 i := fun i => by
    unfold stC
    rw [u2_row (by decide), u2_row (by decide), hN]
    by_cases q : i = d.2.2.2.2.2.2.length
    · rw [if_pos q, q, u2_at]
    · rw [if_neg q, u2_ne q, u2_row (by decide)]
  have e17 : ∀ i, stC σ sg mi en 17 i = if i = d.2.2.2.2.2.2.length then mi else σ 17 i := fun i => by
    unfold stC
    rw [u2_row (by decide), hN]
    by_cases q : i = d.2.2.2.2.2.2.length
    · rw [if_pos q, q, u2_at]
    · rw [if_neg q, u2_ne q, u2_row (by decide), u2_row (by decide)]
  have e18 : ∀ i, stC σ sg mi en 18 i = if i = d.2.2.2.2.2.2.length then en else σ 18 i := fun i => by
    unfold stC
    rw [hN]
    by_cases q : i = d.2.2.2.2.2.2.length
    · rw [if_pos q, q, u2_at]
    · rw [if_neg q, u2_ne q, u2_row (by decide), u2_row (by decide), u2_row (by decide)]
  have g2 := GI_02 hG
  refine ⟨?_, shp_of ⟨hs.1, hs.2.1, hs.2.2.1, hs.2.2.2.1, hs.2.2.2.2.1, by show (d.2.2.2.2.2.2 ++ [(sg, mi, en)]).length ≤ 5; rw [List.length_append]; simp; omega⟩, ?_, ?_, ?_, ?_, ⟨?_, fun j hj => ?_⟩, ?_, fun s hl => ?_, fun s h5 hl => ?_⟩
  · unfold stC
    exact GI_u18 (GI_u17 (GI_u16 (GI_u02 hG (by omega)) (by omega)) b2) b3
  · rw [e0 0 (by decide), e 1 (by decide) (by decide) (by decide) (by decide)]; exact hS
  · rw [e 2 (by decide) (by decide) (by decide) (by decide)]; exact hC
  · rw [e 3 (by decide) (by decide) (by decide) (by decide)]; exact hB
  · rw [e 4 (by decide) (by decide) (by decide) (by decide)]; exact hW
  · rw [e0 1 (by decide)]; exact hA.1
  · have := hA.2 j hj
    unfold Ek at this ⊢
    rw [e 7 (by decide) (by decide) (by decide) (by decide), e 8 (by decide) (by decide) (by decide) (by decide), e 9 (by decide) (by decide) (by decide) (by decide), e 10 (by decide) (by decide) (by decide) (by decide), e 11 (by decide) (by decide) (by decide) (by decide), e 12 (by decide) (by decide) (by decide) (by decide), e 13 (by decide) (by decide) (by decide) (by decide), e 14 (by decide) (by decide) (by decide) (by decide), e 15 (by decide) (by decide) (by decide) (by decide)]
    exact this
  · rw [e02, hT.1]; show _ = ((d.2.2.2.2.2.2 ++ [(sg, mi, en)]).length : Int); rw [List.length_append]; simp
  · have hl : s < (d.2.2.2.2.2.2 ++ [(sg, mi, en)]).length := hl
    rw [List.length_append] at hl
    simp at hl
    show stC σ sg mi en 16 s = (g3 (d.2.2.2.2.2.2 ++ [(sg, mi, en)]) s).1 ∧ stC σ sg mi en 17 s = (g3 (d.2.2.2.2.2.2 ++ [(sg, mi, en)]) s).2.1 ∧ stC σ sg mi en 18 s = (g3 (d.2.2.2.2.2.2 ++ [(sg, mi, en)]) s).2.2
    rw [e16, e17, e18, g3_app]
    by_cases q : s = d.2.2.2.2.2.2.length
    · rw [if_pos q, if_pos q, if_pos q, if_neg (by omega), if_pos q]; exact ⟨rfl, rfl, rfl⟩
    · simp only [if_neg q]
      rw [if_pos (show s < d.2.2.2.2.2.2.length by omega)]
      exact hT.2.1 s (by omega)
  · have hl : (d.2.2.2.2.2.2 ++ [(sg, mi, en)]).length ≤ s := hl
    rw [List.length_append] at hl
    simp at hl
    rw [e16, if_neg (by omega)]
    exact hT.2.2 s h5 (by omega)
/-- the acts that the newest storm hits are off, and wait -/
theorem ES_dH (h : ES σ d) {σ1 : Nat → Nat → Int} {s : Int × Int × Int} {n : Nat} (hn : n < d.2.2.2.2.2.2.length) (hs : g3 d.2.2.2.2.2.2 n = s) (hG : GI σ1) (hc : COF σ n σ1) : ES σ1 (dH d s) := by
  have hsh := ES_shp h
  obtain ⟨f1, f2, f3⟩ := h.2.2.2.2.2.2.2.2.1 n hn
  rw [hs] at f1 f2 f3
  have hA := h.2.2.2.2.2.2.1
  have hT := h.2.2.2.2.2.2.2
  obtain ⟨c1, c2⟩ := hc
  refine ⟨hG, shp_of ⟨hsh.1, hsh.2.1, hsh.2.2.1, hsh.2.2.2.1, by show (d.2.2.2.2.1.map (hitA s)).length = 16; rw [List.length_map]; exact hsh.2.2.2.2.1, hsh.2.2.2.2.2⟩, ?_, ?_, ?_, ?_, ⟨?_, fun j hj => ?_⟩, ?_⟩
  · rw [c1 0 (by decide) (by decide), c1 1 (by decide) (by decide)]; exact h.2.2.1
  · rw [c1 2 (by decide) (by decide)]; exact h.2.2.2.1
  · rw [c1 3 (by decide) (by decide)]; exact h.2.2.2.2.1
  · rw [c1 4 (by decide) (by decide)]; exact h.2.2.2.2.2.1
  · rw [c1 0 (by decide) (by decide)]; exact hA.1
  · show Ek σ1 j (ga (d.2.2.2.2.1.map (hitA s)) j)
    rw [ga_map _ _ _ (by omega)]
    obtain ⟨e7, e8, e9, e10, e11, e12, e13, e14, e15⟩ := hA.2 j hj
    obtain ⟨k14, k15⟩ := c2 j hj
    have hh : (σ 14 j ≠ 0 ∧ hit σ n j) ↔ ((ga d.2.2.2.2.1 j).2.2.2.2.2.2.2.1 != 0 && hitF s (ga d.2.2.2.2.1 j)) = true := by
      unfold hit hitF
      simp only [Bool.and_eq_true, bne_iff_ne, decide_eq_true_eq]
      rw [e14, e7, e9, f1, f2, f3]
      constructor
      · rintro ⟨a, b⟩
        rw [e8 (Or.inl a)] at b
        exact ⟨a, b⟩
      · rintro ⟨a, b⟩
        rw [e8 (Or.inl a)]
        exact ⟨a, b⟩
    unfold hitA
    by_cases q : ((ga d.2.2.2.2.1 j).2.2.2.2.2.2.2.1 != 0 && hitF s (ga d.2.2.2.2.1 j)) = true
    · have q' := hh.mpr q
      rw [if_pos q]
      rw [ie_t q'] at k14 k15
      unfold Ek
      rw [c1 7 (by decide) (by decide), c1 8 (by decide) (by decide), c1 9 (by decide) (by decide), c1 10 (by decide) (by decide), c1 11 (by decide) (by decide), c1 12 (by decide) (by decide), c1 13 (by decide) (by decide)]
      exact ⟨e7, fun _ => e8 (Or.inl (by rw [← e14]; exact q'.1)), e9, e10, e11, e12, e13, k14, k15⟩
    · have q' : ¬ (σ 14 j ≠ 0 ∧ hit σ n j) := fun z => q (hh.mp z)
      rw [if_neg q]
      rw [ie_f q'] at k14 k15
      unfold Ek
      rw [c1 7 (by decide) (by decide), c1 8 (by decide) (by decide), c1 9 (by decide) (by decide), c1 10 (by decide) (by decide), c1 11 (by decide) (by decide), c1 12 (by decide) (by decide), c1 13 (by decide) (by decide), k14, k15]
      exact ⟨e7, e8, e9, e10, e11, e12, e13, e14, e15⟩
  · rw [c1 0 (by decide) (by decide), c1 16 (by decide) (by decide), c1 17 (by decide) (by decide), c1 18 (by decide) (by decide)]; exact hT
def ewB (d : Da) (k : Nat) : Bool := ((ga d.2.2.2.2.1 k).2.2.2.2.2.2.2.2 != 0) && (List.range 16).all fun j => (ga d.2.2.2.2.1 j).2.2.2.2.2.2.2.2 == 0 || (decide ((ga d.2.2.2.2.1 k).2.1 ≤ (ga d.2.2.2.2.1 j).2.1) && (decide (k ≤ j) || decide ((ga d.2.2.2.2.1 k).2.1 < (ga d.2.2.2.2.1 j).2.1)))
theorem ew_ev (h : ES σ d) {k : Nat} (hk : k < 16) : EWs σ k ↔ ewB d k = true := by
  have e := ES_ac h hk
  unfold EWs ewB
  simp only [Bool.and_eq_true, bne_iff_ne, List.all_eq_true, List.mem_range, Bool.or_eq_true, beq_iff_eq, decide_eq_true_eq]
  rw [e.2.2.2.2.2.2.2.2]
  constructor
  · rintro ⟨_, a, b, c⟩
    refine ⟨a, fun j hj => ?_⟩
    have f := ES_ac h hj
    by_cases q : (ga d.2.2.2.2.1 j).2.2.2.2.2.2.2.2 = 0
    · exact Or.inl q
    · have b1 := b j hj (by rw [f.2.2.2.2.2.2.2.2]; exact q)
      rw [e.2.1 (Or.inr a), f.2.1 (Or.inr q)] at b1
      refine Or.inr ⟨b1, ?_⟩
      rcases Nat.lt_or_ge j k with z | z
      · have c1 := c j z (by rw [f.2.2.2.2.2.2.2.2]; exact q)
        rw [e.2.1 (Or.inr a), f.2.1 (Or.inr q)] at c1
        exact Or.inr c1
      · exact Or.inl z
  · rintro ⟨a, b⟩
    refine ⟨hk, a, fun j hj q => ?_, fun j hj q => ?_⟩
    · have f := ES_ac h hj
      rw [f.2.2.2.2.2.2.2.2] at q
      rw [e.2.1 (Or.inr a), f.2.1 (Or.inr q)]
      rcases b j hj with z | z
      · exact absurd z q
      · exact z.1
    · have f := ES_ac h (k := j) (by omega)
      rw [f.2.2.2.2.2.2.2.2] at q
      rw [e.2.1 (Or.inr a), f.2.1 (Or.inr q)]
      rcases b j (by omega) with z | z
      · exact absurd z q
      · rcases z.2 with y | y
        · omega
        · exact y
theorem EWs_uniq {k j : Nat} (h1 : EWs σ k) (h2 : EWs σ j) : k = j := by
  obtain ⟨a1, a2, a3, a4⟩ := h1
  obtain ⟨b1, b2, b3, b4⟩ := h2
  rcases Nat.lt_trichotomy k j with q | q | q
  · have := b4 k q a2
    have := a3 j b1 b2
    omega
  · exact q
  · have := a4 j q b2
    have := b3 k a1 a2
    omega
/-- act k is planned again, it waits no more -/
def dN (d : Da) (k : Nat) : Da := stA d k ((ga d.2.2.2.2.1 k).1, (ga d.2.2.2.2.1 k).2.1, (ga d.2.2.2.2.1 k).2.2.1, (ga d.2.2.2.2.1 k).2.2.2.1, (ga d.2.2.2.2.1 k).2.2.2.2.1, (ga d.2.2.2.2.1 k).2.2.2.2.2.1, (ga d.2.2.2.2.1 k).2.2.2.2.2.2.1, 1, 0)
def rpF (fr : Int) : Nat → Da → Int → Int × Da
  | 0, d, c => (c, d)
  | n + 1, d, c => match (List.range 16).find? (ewB d) with
    | none => (c, d)
    | some k => if ffF (dN d k) k 1001 fr = -1 then rpF fr n (dO (dN d k) k) (c + 1) else rpF fr n (dM (dN d k) k (ffF (dN d k) k 1001 fr)) c
theorem ln_stA (hs : shp d = true) {k : Nat} (hk : k < 16) {a : Ac} (h : ∀ j, j < 16 → (ga d.2.2.2.2.1 j).2.2.2.2.2.2.2.2 ≠ 0 → 1 ≤ (ga d.2.2.2.2.1 j).2.2.1) (ha : a.2.2.2.2.2.2.2.2 ≠ 0 → 1 ≤ a.2.2.1) : ∀ j, j < 16 → (ga (stA d k a).2.2.2.2.1 j).2.2.2.2.2.2.2.2 ≠ 0 → 1 ≤ (ga (stA d k a).2.2.2.2.1 j).2.2.1 := by
  intro j hj
  have hl : d.2.2.2.2.1.length = 16 := by
    unfold shp at hs
    simp only [Bool.and_eq_true, decide_eq_true_eq] at hs
    exact hs.1.2
  show (ga (d.2.2.2.2.1.set k a) j).2.2.2.2.2.2.2.2 ≠ 0 → 1 ≤ (ga (d.2.2.2.2.1.set k a) j).2.2.1
  rw [ga_set _ _ _ _ (by omega)]
  by_cases q : j = k
  · rw [if_pos q]; exact ha
  · rw [if_neg q]; exact h j hj
theorem rp_ev {fr : Int} (hfr : 0 ≤ fr ∧ fr ≤ 1000) : ∀ (n : Nat) (σ σ' : Nat → Nat → Int) (d : Da) (c z : Int), ES σ d → (∀ j, j < 16 → (ga d.2.2.2.2.1 j).2.2.2.2.2.2.2.2 ≠ 0 → 1 ≤ (ga d.2.2.2.2.1 j).2.2.1) → RPn fr n σ c σ' z → z = (rpF fr n d c).1 ∧ ES σ' (rpF fr n d c).2 := by
  intro n
  induction n with
  | zero =>
    rintro σ σ' d c z h _ ⟨_, rfl, rfl⟩
    exact ⟨rfl, h⟩
  | succ n ih =>
    intro σ σ' d c z h hln hr
    rcases hr with ⟨q, rfl, rfl⟩ | ⟨k, z1, σ1, hw, hf, hr⟩
    · have hn : (List.range 16).find? (ewB d) = none := by
        rw [List.find?_eq_none]
        intro j hj b
        have hj := List.mem_range.mp hj
        exact ((ew_ev h hj).mpr b).2.1 (q j hj)
      simp only [rpF, hn]
      exact ⟨trivial, h⟩
    · have hk := hw.1
      have e := ES_ac h hk
      have wk : (ga d.2.2.2.2.1 k).2.2.2.2.2.2.2.2 ≠ 0 := by rw [← e.2.2.2.2.2.2.2.2]; exact hw.2.1
      have hlk := hln k hk wk
      have hn : (List.range 16).find? (ewB d) = some k := by
        cases hq : (List.range 16).find? (ewB d) with
        | none =>
          rw [List.find?_eq_none] at hq
          exact absurd ((ew_ev h hk).mp hw) (hq k (List.mem_range.mpr hk))
        | some j =>
          have h1 := List.find?_some hq
          have h2 := List.mem_range.mp (List.mem_of_find?_eq_some hq)
          rw [EWs_uniq ((ew_ev h h2).mpr h1) hw]
      have h2 : ES (u2 (u2 σ 15 k 0) 14 k 1) (dN d k) := by
        refine ES_act h hk (GI_u14 (GI_u15 h.1 (by decide)) (by decide)) (fun r hr => by rw [u2_row (by omega), u2_row (by omega)]) (fun j hj r _ _ => by rw [u2_ne hj, u2_ne hj]) ?_
        obtain ⟨e7, e8, e9, e10, e11, e12, e13, e14, e15⟩ := e
        unfold Ek
        refine ⟨?_, fun _ => ?_, ?_, ?_, ?_, ?_, ?_, ?_, ?_⟩
        · rw [u2_row (by decide), u2_row (by decide)]; exact e7
        · rw [u2_row (by decide), u2_row (by decide)]; exact e8 (Or.inr wk)
        · rw [u2_row (by decide), u2_row (by decide)]; exact e9
        · rw [u2_row (by decide), u2_row (by decide)]; exact e10
        · rw [u2_row (by decide), u2_row (by decide)]; exact e11
        · rw [u2_row (by decide), u2_row (by decide)]; exact e12
        · rw [u2_row (by decide), u2_row (by decide)]; exact e13
        · rw [u2_at]
        · rw [u2_row (by decide), u2_at]
      have ea : ga (dN d k).2.2.2.2.1 k = ((ga d.2.2.2.2.1 k).1, (ga d.2.2.2.2.1 k).2.1, (ga d.2.2.2.2.1 k).2.2.1, (ga d.2.2.2.2.1 k).2.2.2.1, (ga d.2.2.2.2.1 k).2.2.2.2.1, (ga d.2.2.2.2.1 k).2.2.2.2.2.1, (ga d.2.2.2.2.1 k).2.2.2.2.2.2.1, 1, 0) := ga_stA h.2.1 hk
      have ho : aOn (ga (dN d k).2.2.2.2.1 k) ≠ 0 := by rw [ea]; show (1 : Int) ≠ 0; decide
      have hl2 : 1 ≤ (ga (dN d k).2.2.2.2.1 k).2.2.1 := by rw [ea]; exact hlk
      have hz := ff_ev h2 hk ho hl2 hfr hf
      have hln2 : ∀ j, j < 16 → (ga (dN d k).2.2.2.2.1 j).2.2.2.2.2.2.2.2 ≠ 0 → 1 ≤ (ga (dN d k).2.2.2.2.1 j).2.2.1 := ln_stA h.2.1 hk hln (fun q => absurd rfl q)
      have g9 := GI_9 h2.1 k
      simp only [rpF, hn]
      rw [← hz]
      rcases hr with ⟨rfl, hr⟩ | ⟨hne, hr⟩
      · rw [if_pos rfl]
        obtain ⟨⟨x, x0, x1, rfl⟩, _⟩ := hf
        refine ih _ _ _ _ _ ?_ ?_ hr
        · refine ES_act h2 hk (GI_u14 (GI_u8 h2.1 ⟨x0, x1⟩) (by decide)) (fun r hr => by rw [u2_row (by omega), u2_row (by omega)]) (fun j hj r _ _ => by rw [u2_ne hj, u2_ne hj]) ?_
          obtain ⟨e7, e8, e9, e10, e11, e12, e13, e14, e15⟩ := ES_ac h2 hk
          rw [ea] at e7 e9 e10 e11 e12 e13 e15 ⊢
          unfold Ek
          refine ⟨?_, fun q => ?_, ?_, ?_, ?_, ?_, ?_, ?_, ?_⟩
          · rw [u2_row (by decide), u2_row (by decide)]; exact e7
          · rcases q with q | q <;> exact absurd rfl q
          · rw [u2_row (by decide), u2_row (by decide)]; exact e9
          · rw [u2_row (by decide), u2_row (by decide)]; exact e10
          · rw [u2_row (by decide), u2_row (by decide)]; exact e11
          · rw [u2_row (by decide), u2_row (by decide)]; exact e12
          · rw [u2_row (by decide), u2_row (by decide)]; exact e13
          · rw [u2_at]
          · rw [u2_row (by decide), u2_row (by decide)]; exact e15
        · refine ln_stA h2.2.1 hk hln2 (fun q => absurd ?_ q)
          rw [ea]
      · rw [if_neg hne]
        obtain ⟨_, hf⟩ := hf
        rcases hf with ⟨q, _⟩ | ⟨q1, q2, q3, rfl, _⟩
        · exact absurd q hne
        · have e9 := (ES_ac h2 hk).2.2.1
          refine ih _ _ _ _ _ (ES_start h2 hk (by omega)) ?_ hr
          exact ln_stA h2.2.1 hk hln2 (fun q => absurd (show (ga (dN d k).2.2.2.2.1 k).2.2.2.2.2.2.2.2 = 0 by rw [ea]) q)
def stF (d : Da) (sg mi du : Int) : Int × Da := rpF (min (mi + du) 1000) 16 (dH (dT d (sg, mi, min (mi + du) 1000)) (sg, mi, min (mi + du) 1000)) 0
theorem ev_storm (h : ES σ d) (hln : ∀ j, j < 16 → 1 ≤ (ga d.2.2.2.2.1 j).2.2.1 ∨ (aOn (ga d.2.2.2.2.1 j) = 0 ∧ (ga d.2.2.2.2.1 j).2.2.2.2.2.2.2.2 = 0)) {sg mi du z : Int} (h0 : thX σ sg mi du = 0) (hp : ∃ σ1, COF (stC σ sg mi (min (mi + du) 1000)) (σ 0 2).toNat σ1 ∧ GI σ1 ∧ RPn (min (mi + du) 1000) 16 σ1 0 σ' z) : z = (stF d sg mi du).1 ∧ ES σ' (stF d sg mi du).2 := by
  have hb : (0 ≤ sg ∧ sg ≤ 2) ∧ (0 ≤ mi ∧ mi ≤ 999) ∧ (1 ≤ du ∧ du ≤ 200) ∧ σ 0 2 ≠ 5 := by
    unfold thX at h0
    split at h0
    · split at h0
      · split at h0
        · omega
        · rename_i q1 q2 q3; exact ⟨q1, q2.1, q2.2, q3⟩
      · omega
    · omega
  have hT := h.2.2.2.2.2.2.2
  have g2 := GI_02 h.1
  have hN : (σ 0 2).toNat = d.2.2.2.2.2.2.length := by rw [hT.1]; rfl
  have hlt : d.2.2.2.2.2.2.length < 5 := by omega
  obtain ⟨σ1, c1, c2, c3⟩ := hp
  rw [hN] at c1
  have h1 := ES_dT h hlt hb.1 hb.2.1 (en := min (mi + du) 1000) (by omega)
  have h2 := ES_dH h1 (s := (sg, mi, min (mi + du) 1000)) (n := d.2.2.2.2.2.2.length) (by show _ < (d.2.2.2.2.2.2 ++ [_]).length; rw [List.length_append]; simp) (by show g3 (d.2.2.2.2.2.2 ++ [_]) _ = _; rw [g3_app, if_neg (by omega), if_pos rfl]) c2 c1
  refine rp_ev (by omega) 16 _ _ _ _ _ h2 (fun j hj q => ?_) c3
  have hl := (ES_shp h).2.2.2.2.1
  have q : (ga (d.2.2.2.2.1.map (hitA (sg, mi, min (mi + du) 1000))) j).2.2.2.2.2.2.2.2 ≠ 0 := q
  show 1 ≤ (ga (d.2.2.2.2.1.map (hitA (sg, mi, min (mi + du) 1000))) j).2.2.1
  rw [ga_map _ _ _ (by omega)] at q ⊢
  unfold hitA at q ⊢
  have hj2 := hln j hj
  by_cases q9 : ((ga d.2.2.2.2.1 j).2.2.2.2.2.2.2.1 != 0 && hitF (sg, mi, min (mi + du) 1000) (ga d.2.2.2.2.1 j)) = true
  · rw [if_pos q9]
    rcases hj2 with z | z
    · exact z
    · simp only [Bool.and_eq_true, bne_iff_ne] at q9
      exact absurd z.1 q9.1
  · rw [if_neg q9] at q ⊢
    rcases hj2 with z | z
    · exact z
    · exact absurd z.2 q
end ED
