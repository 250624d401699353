/-! a state as data: what a plan is worth, by counting -/
abbrev Ac : Type := Int × Int × Int × Int × Int × Int × Int × Int × Int
/-- sets, changes, bounds, winds, acts (stage, start, length, phase, draw, loud, channel, planned, waits), how many acts, storms -/
abbrev Da : Type := List Int × List Int × List Int × List Int × List Ac × Int × List (Int × Int × Int)
def gt : List Int → Nat → Int
  | [], _ => 0
  | a :: _, 0 => a
  | _ :: l, n + 1 => gt l n
def ac0 : Ac := (0, 0, 0, 0, 0, 0, 0, 0, 0)
def ga : List Ac → Nat → Ac
  | [], _ => ac0
  | a :: _, 0 => a
  | _ :: l, n + 1 => ga l n
def g3 : List (Int × Int × Int) → Nat → Int × Int × Int
  | [], _ => (0, 0, 0)
  | a :: _, 0 => a
  | _ :: l, n + 1 => g3 l n
theorem gt_get : ∀ (l : List Int) (i : Nat) (h : i < l.length), gt l i = l[i] := by
  intro l
  induction l with
  | nil => intro i h; exact absurd h (Nat.not_lt_zero _)
  | cons a l ih =>
    intro i h
    cases i with
    | zero => rfl
    | succ i => exact ih i (by simpa using h)
theorem ga_get : ∀ (l : List Ac) (i : Nat) (h : i < l.length), ga l i = l[i] := by
  intro l
  induction l with
  | nil => intro i h; exact absurd h (Nat.not_lt_zero _)
  | cons a l ih =>
    intro i h
    cases i with
    | zero => rfl
    | succ i => exact ih i (by simpa using h)
theorem g3_get : ∀ (l : List (Int × Int × Int)) (i : Nat) (h : i < l.length), g3 l i = l[i] := by
  intro l
  induction l with
  | nil => intro i h; exact absurd h (Nat.not_lt_zero _)
  | cons a l ih =>
    intro i h
    cases i with
    | zero => rfl
    | succ i => exact ih i (by simpa using h)
def Ek (σ : Nat → Nat → Int) (k : Nat) (a : Ac) : Prop := σ 7 k = a.1 ∧ (a.2.2.2.2.2.2.2.1 ≠ 0 ∨ a.2.2.2.2.2.2.2.2 ≠ 0 → σ 8 k = a.2.1) ∧ σ 9 k = a.2.2.1 ∧ σ 10 k = a.2.2.2.1 ∧ σ 11 k = a.2.2.2.2.1 ∧ σ 12 k = a.2.2.2.2.2.1 ∧ σ 13 k = a.2.2.2.2.2.2.1 ∧ σ 14 k = a.2.2.2.2.2.2.2.1 ∧ σ 15 k = a.2.2.2.2.2.2.2.2
/-- the data has its shape -/
def shp (d : Da) : Bool := decide (d.1.length ≤ 6) && decide (d.2.1.length = 3) && decide (d.2.2.1.length = 3) && decide (d.2.2.2.1.length = 17) && decide (d.2.2.2.2.1.length = 16) && decide (d.2.2.2.2.2.2.length ≤ 5)
def ES (σ : Nat → Nat → Int) (d : Da) : Prop :=
  GI σ ∧ shp d = true ∧ (σ 0 0 = (d.1.length : Int) ∧ ∀ i, i < d.1.length → σ 1 i = gt d.1 i) ∧ (∀ i, i < 3 → σ 2 i = gt d.2.1 i) ∧ (∀ i, i < 3 → σ 3 i = gt d.2.2.1 i) ∧ (∀ i, i < 17 → σ 4 i = gt d.2.2.2.1 i) ∧
  (σ 0 1 = d.2.2.2.2.2.1 ∧ ∀ k, k < 16 → Ek σ k (ga d.2.2.2.2.1 k)) ∧ (σ 0 2 = (d.2.2.2.2.2.2.length : Int) ∧ (∀ s, s < d.2.2.2.2.2.2.length → σ 16 s = (g3 d.2.2.2.2.2.2 s).1 ∧ σ 17 s = (g3 d.2.2.2.2.2.2 s).2.1 ∧ σ 18 s = (g3 d.2.2.2.2.2.2 s).2.2) ∧ ∀ s, s < 5 → d.2.2.2.2.2.2.length ≤ s → σ 16 s = -1)
section EV
variable {σ : Nat → Nat → Int} {d : Da}
theorem ES_shp (h : ES σ d) : d.1.length ≤ 6 ∧ d.2.1.length = 3 ∧ d.2.2.1.length = 3 ∧ d.2.2.2.1.length = 17 ∧ d.2.2.2.2.1.length = 16 ∧ d.2.2.2.2.2.2.length ≤ 5 := by
  have := h.2.1
  unfold shp at this
  simp only [Bool.and_eq_true, decide_eq_true_eq] at this
  exact ⟨this.1.1.1.1.1, this.1.1.1.1.2, this.1.1.1.2, this.1.1.2, this.1.2, this.2⟩
theorem ES_ac (h : ES σ d) {k : Nat} (hk : k < 16) : Ek σ k (ga d.2.2.2.2.1 k) := h.2.2.2.2.2.2.1.2 k hk
/-- a count that goes up by places is a fold over the list -/
theorem fold_ac {β : Type} (F : Nat → β) (f : β → Ac → β) (L : List Ac) (hs : ∀ i, i < L.length → F (i + 1) = f (F i) (ga L i)) : F L.length = L.foldl f (F 0) := by
  have key : ∀ n j : Nat, j + n = L.length → F L.length = (L.drop j).foldl f (F j) := by
    intro n
    induction n with
    | zero => intro j hj; rw [List.drop_eq_nil_of_le (by omega)]; rw [← hj]; rfl
    | succ n ih =>
      intro j hj
      have hlt : j < L.length := by omega
      rw [List.drop_eq_getElem_cons hlt, List.foldl_cons, ← ga_get L j hlt, ← hs j hlt]
      exact ih (j + 1) (by omega)
  exact key L.length 0 (by omega)
theorem fold_in (F : Nat → Int) (f : Int → Int → Int) (L : List Int) (hs : ∀ i, i < L.length → F (i + 1) = f (F i) (gt L i)) : F L.length = L.foldl f (F 0) := by
  have key : ∀ n j : Nat, j + n = L.length → F L.length = (L.drop j).foldl f (F j) := by
    intro n
    induction n with
    | zero => intro j hj; rw [List.drop_eq_nil_of_le (by omega)]; rw [← hj]; rfl
    | succ n ih =>
      intro j hj
      have hlt : j < L.length := by omega
      rw [List.drop_eq_getElem_cons hlt, List.foldl_cons, ← gt_get L j hlt, ← hs j hlt]
      exact ih (j + 1) (by omega)
  exact key L.length 0 (by omega)
theorem fold_fil {β : Type} (q : Ac → Bool) (f : β → Ac → β) : ∀ (L : List Ac) (x : β), (L.filter q).foldl f x = L.foldl (fun s a => if q a = true then f s a else s) x := by
  intro L
  induction L with
  | nil => intro x; rfl
  | cons a L ih =>
    intro x
    rw [List.filter_cons]
    by_cases h : q a = true
    · rw [if_pos h, List.foldl_cons, List.foldl_cons, if_pos h]; exact ih _
    · rw [if_neg h, List.foldl_cons, if_neg h]; exact ih _
def plA (m : Int) (a : Ac) : Bool := (a.2.2.2.2.2.2.2.1 != 0) && (decide (a.2.1 ≤ m) && decide (m < a.2.1 + a.2.2.1))
theorem pl_ev {k : Nat} {a : Ac} {m : Int} (h : Ek σ k a) : pl σ k m ↔ plA m a = true := by
  obtain ⟨h7, h8, h9, -, -, -, -, h14, -⟩ := h
  unfold pl plA
  simp only [Bool.and_eq_true, bne_iff_ne, decide_eq_true_eq]
  rw [h14, h9]
  constructor
  · rintro ⟨a1, a2, a3⟩
    rw [h8 (Or.inl a1)] at a2 a3
    exact ⟨a1, a2, a3⟩
  · rintro ⟨a1, a2, a3⟩
    rw [h8 (Or.inl a1)]
    exact ⟨a1, a2, a3⟩
def ldL (P : List Ac) (p : Int) : Int := P.foldl (fun s a => if a.2.2.2.1 = p then s + a.2.2.2.2.1 else s) 0
def nzA (hs w : Int) (a : Ac) : Int := max 0 (a.2.2.2.2.2.1 - (10 + 10 * max (a.1 - hs) (-(a.1 - hs)) + w))
def nsL (P : List Ac) (hs w : Int) : Int := P.foldl (fun s a => s + nzA hs w a) 0
def stL (l : List Int) (m : Int) : Int := l.foldl (fun s x => if x ≤ m then s + 1 else s) 0
theorem ld_ev (h : ES σ d) (m : Int) (p : Nat) : ldS σ m p 16 = ldL (d.2.2.2.2.1.filter (plA m)) p := by
  have hl := (ES_shp h).2.2.2.2.1
  unfold ldL
  rw [fold_fil, ← show d.2.2.2.2.1.length = 16 from hl]
  refine fold_ac (fun i => ldS σ m p i) _ d.2.2.2.2.1 (fun i hi => ?_)
  have hk := ES_ac h (k := i) (by omega)
  simp only [ldS]
  by_cases q : plA m (ga d.2.2.2.2.1 i) = true
  · rw [if_pos q]
    by_cases q2 : (ga d.2.2.2.2.1 i).2.2.2.1 = (p : Int)
    · rw [if_pos q2, ic_t ⟨(pl_ev hk).mpr q, by rw [hk.2.2.2.1]; exact q2⟩, hk.2.2.2.2.1]
    · rw [if_neg q2, ic_f (fun z => q2 (by rw [← hk.2.2.2.1]; exact z.2)), Int.add_zero]
  · rw [if_neg q, ic_f (fun z => q ((pl_ev hk).mp z.1)), Int.add_zero]
theorem ns_ev (h : ES σ d) (m w : Int) (hs : Nat) : nsS σ m w hs 16 = nsL (d.2.2.2.2.1.filter (plA m)) hs w := by
  have hl := (ES_shp h).2.2.2.2.1
  unfold nsL
  rw [fold_fil, ← show d.2.2.2.2.1.length = 16 from hl]
  refine fold_ac (fun i => nsS σ m w hs i) _ d.2.2.2.2.1 (fun i hi => ?_)
  have hk := ES_ac h (k := i) (by omega)
  simp only [nsS]
  by_cases q : plA m (ga d.2.2.2.2.1 i) = true
  · rw [if_pos q, ic_t ((pl_ev hk).mpr q)]
    unfold nz nzA
    rw [hk.1, hk.2.2.2.2.2.1]
  · rw [if_neg q, ic_f (fun z => q ((pl_ev hk).mp z)), Int.add_zero]
theorem st_ev (h : ES σ d) (m : Int) : stN σ m (σ 0 0).toNat = stL d.1 m := by
  obtain ⟨e0, e1⟩ := h.2.2.1
  rw [show (σ 0 0).toNat = d.1.length by rw [e0]; rfl]
  refine fold_in (fun i => stN σ m i) _ d.1 (fun i hi => ?_)
  simp only [stN]
  rw [e1 i hi]
  split
  · rfl
  · exact Int.add_zero _
theorem ch_ev (h : ES σ d) (m : Int) : chS σ m 16 = (d.2.2.2.2.1.filter (plA m)).foldl (fun s a => if a.2.2.2.2.2.2.1 = -1 then s else ior s (ish 1 a.2.2.2.2.2.2.1)) 0 := by
  have hl := (ES_shp h).2.2.2.2.1
  rw [fold_fil, ← show d.2.2.2.2.1.length = 16 from hl]
  refine fold_ac (fun i => chS σ m i) _ d.2.2.2.2.1 (fun i hi => ?_)
  have hk := ES_ac h (k := i) (by omega)
  simp only [chS]
  by_cases q : plA m (ga d.2.2.2.2.1 i) = true
  · rw [if_pos q]
    by_cases q2 : (ga d.2.2.2.2.1 i).2.2.2.2.2.2.1 = -1
    · rw [if_pos q2, ie_f (fun z => z.2 (by rw [hk.2.2.2.2.2.2.1]; exact q2))]
    · rw [if_neg q2, ie_t ⟨(pl_ev hk).mpr q, by rw [hk.2.2.2.2.2.2.1]; exact q2⟩, hk.2.2.2.2.2.2.1]
  · rw [if_neg q, ie_f (fun z => q ((pl_ev hk).mp z.1))]
def spK (L : List Ac) (m : Int) : List Nat := (List.range 16).filter (fun k => plA m (ga L k) && ((ga L k).2.2.2.2.2.2.1 != -1))
def b3L (L : List Ac) (m : Int) : Bool :=
  (spK L m).any (fun j => (spK L m).any fun k => j != k && (decide (-1 ≤ (ga L j).2.2.2.2.2.2.1 - (ga L k).2.2.2.2.2.2.1) && decide ((ga L j).2.2.2.2.2.2.1 - (ga L k).2.2.2.2.2.2.1 ≤ 1))) ||
  (spK L m).any fun a => (spK L m).any fun b => decide ((ga L b).2.2.2.2.2.2.1 < (ga L a).2.2.2.2.2.2.1) && (spK L m).any fun e => decide ((ga L b).2.2.2.2.2.2.1 + (ga L e).2.2.2.2.2.2.1 = 2 * (ga L a).2.2.2.2.2.2.1)
theorem spK_mem (h : ES σ d) {m : Int} {k : Nat} : k ∈ spK d.2.2.2.2.1 m ↔ k < 16 ∧ sp σ m k := by
  unfold spK sp
  rw [List.mem_filter, List.mem_range]
  constructor
  · rintro ⟨hk, q⟩
    simp only [Bool.and_eq_true, bne_iff_ne] at q
    have e := ES_ac h hk
    exact ⟨hk, (pl_ev e).mpr q.1, by rw [e.2.2.2.2.2.2.1]; exact q.2⟩
  · rintro ⟨hk, q1, q2⟩
    have e := ES_ac h hk
    simp only [Bool.and_eq_true, bne_iff_ne]
    exact ⟨hk, (pl_ev e).mp q1, by rw [← e.2.2.2.2.2.2.1]; exact q2⟩
theorem b3_ev (h : ES σ d) {m : Int} : bad3 σ m ↔ b3L d.2.2.2.2.1 m = true := by
  rw [bad3_iff h.1]
  unfold b3L Near Midw
  simp only [Bool.or_eq_true, List.any_eq_true, Bool.and_eq_true, bne_iff_ne, decide_eq_true_eq]
  have e : ∀ k, k ∈ spK d.2.2.2.2.1 m → σ 13 k = (ga d.2.2.2.2.1 k).2.2.2.2.2.2.1 := fun k hk => (ES_ac h ((spK_mem h).mp hk).1).2.2.2.2.2.2.1
  constructor
  · rintro (⟨j, k, hj, hk, q1, q2, q3⟩ | ⟨a, b, c, ha, hb, hc, q1, q2⟩)
    · have hj := (spK_mem h).mpr hj
      have hk := (spK_mem h).mpr hk
      rw [e j hj, e k hk] at q2 q3
      exact Or.inl ⟨j, hj, k, hk, q1, q2, q3⟩
    · have ha := (spK_mem h).mpr ha
      have hb := (spK_mem h).mpr hb
      have hc := (spK_mem h).mpr hc
      rw [e b hb, e a ha] at q1
      rw [e b hb, e a ha, e c hc] at q2
      exact Or.inr ⟨a, ha, b, hb, q1, c, hc, q2⟩
  · rintro (⟨j, hj, k, hk, q1, q2, q3⟩ | ⟨a, ha, b, hb, q1, c, hc, q2⟩)
    · exact Or.inl ⟨j, k, (spK_mem h).mp hj, (spK_mem h).mp hk, q1, by rw [e j hj, e k hk]; exact q2, by rw [e j hj, e k hk]; exact q3⟩
    · exact Or.inr ⟨a, b, c, (spK_mem h).mp ha, (spK_mem h).mp hb, (spK_mem h).mp hc, by rw [e b hb, e a ha]; exact q1, by rw [e b hb, e a ha, e c hc]; exact q2⟩
def ptF (d : Da) (m : Int) : Int :=
  if (d.2.2.2.2.1.filter (plA m)).isEmpty = true then 0
  else if 100 * stL d.1 m < ldL (d.2.2.2.2.1.filter (plA m)) 0 ∨ 100 * stL d.1 m < ldL (d.2.2.2.2.1.filter (plA m)) 1 ∨ 100 * stL d.1 m < ldL (d.2.2.2.2.1.filter (plA m)) 2 then 2
  else if b3L d.2.2.2.2.1 m = true then 3
  else if gt d.2.2.1 0 - ev m < nsL (d.2.2.2.2.1.filter (plA m)) 0 (gt d.2.2.2.1 (m / 60).toNat) ∨ gt d.2.2.1 1 - ev m < nsL (d.2.2.2.2.1.filter (plA m)) 1 (gt d.2.2.2.1 (m / 60).toNat) ∨ gt d.2.2.1 2 - ev m < nsL (d.2.2.2.2.1.filter (plA m)) 2 (gt d.2.2.2.1 (m / 60).toNat) then 4
  else 0
theorem pt_ev (h : ES σ d) {m : Int} (hm : 0 ≤ m ∧ m < 1000) : pt σ m = ptF d m := by
  have hw : wd σ m = gt d.2.2.2.1 (m / 60).toNat := h.2.2.2.2.2.1 _ (by omega)
  have hb2 : bad2 σ m ↔ (100 * stL d.1 m < ldL (d.2.2.2.2.1.filter (plA m)) 0 ∨ 100 * stL d.1 m < ldL (d.2.2.2.2.1.filter (plA m)) 1 ∨ 100 * stL d.1 m < ldL (d.2.2.2.2.1.filter (plA m)) 2) := by
    unfold bad2
    rw [st_ev h]
    constructor
    · rintro ⟨p, hp, q⟩
      rw [ld_ev h] at q
      rcases (show p = 0 ∨ p = 1 ∨ p = 2 by omega) with rfl | rfl | rfl
      · exact Or.inl q
      · exact Or.inr (Or.inl q)
      · exact Or.inr (Or.inr q)
    · rintro (q | q | q)
      · exact ⟨0, by decide, by rw [ld_ev h]; exact q⟩
      · exact ⟨1, by decide, by rw [ld_ev h]; exact q⟩
      · exact ⟨2, by decide, by rw [ld_ev h]; exact q⟩
  have hb4 : bad4 σ m ↔ (gt d.2.2.1 0 - ev m < nsL (d.2.2.2.2.1.filter (plA m)) 0 (gt d.2.2.2.1 (m / 60).toNat) ∨ gt d.2.2.1 1 - ev m < nsL (d.2.2.2.2.1.filter (plA m)) 1 (gt d.2.2.2.1 (m / 60).toNat) ∨ gt d.2.2.1 2 - ev m < nsL (d.2.2.2.2.1.filter (plA m)) 2 (gt d.2.2.2.1 (m / 60).toNat)) := by
    unfold bad4
    rw [hw]
    constructor
    · rintro ⟨p, hp, q⟩
      rw [ns_ev h, h.2.2.2.2.1 p hp] at q
      rcases (show p = 0 ∨ p = 1 ∨ p = 2 by omega) with rfl | rfl | rfl
      · exact Or.inl q
      · exact Or.inr (Or.inl q)
      · exact Or.inr (Or.inr q)
    · rintro (q | q | q)
      · exact ⟨0, by decide, by rw [ns_ev h, h.2.2.2.2.1 0 (by decide)]; exact q⟩
      · exact ⟨1, by decide, by rw [ns_ev h, h.2.2.2.2.1 1 (by decide)]; exact q⟩
      · exact ⟨2, by decide, by rw [ns_ev h, h.2.2.2.2.1 2 (by decide)]; exact q⟩
  unfold ptF
  split
  · rename_i he
    have e0 := List.isEmpty_iff.mp he
    refine pt_0 (fun q => ?_) (fun q => ?_) (fun q => ?_)
    · have s0 := (stN_rg (σ := σ) (mi := m) (σ 0 0).toNat).1
      rw [st_ev h] at s0
      have := hb2.mp q
      rw [e0] at this
      have z : ∀ p, ldL [] p = 0 := fun p => rfl
      rw [z, z, z] at this
      omega
    · have := (b3_ev h).mp q
      unfold b3L at this
      have en : spK d.2.2.2.2.1 m = [] := by
        apply List.eq_nil_iff_forall_not_mem.mpr
        intro k hk
        obtain ⟨hk1, hk2⟩ := (spK_mem h).mp hk
        have hlen := (ES_shp h).2.2.2.2.1
        have hp := (pl_ev (ES_ac h hk1)).mp hk2.1
        have : ga d.2.2.2.2.1 k ∈ d.2.2.2.2.1.filter (plA m) := List.mem_filter.mpr ⟨by rw [ga_get _ _ (by omega)]; exact List.getElem_mem _, hp⟩
        rw [e0] at this
        exact absurd this List.not_mem_nil
      rw [en] at this
      simp at this
    · have := hb4.mp q
      rw [e0] at this
      have z : ∀ p w, nsL [] p w = 0 := fun p w => rfl
      rw [z, z, z] at this
      have b0 := GI_3 h.1 0
      have b1 := GI_3 h.1 1
      have b2 := GI_3 h.1 2
      rw [h.2.2.2.2.1 0 (by decide)] at b0
      rw [h.2.2.2.2.1 1 (by decide)] at b1
      rw [h.2.2.2.2.1 2 (by decide)] at b2
      have : ev m ≤ 10 := by unfold ev; split <;> omega
      omega
  · split
    · rename_i q; exact pt_2 (hb2.mpr q)
    · rename_i q2
      split
      · rename_i q; exact pt_3 (fun z => q2 (hb2.mp z)) ((b3_ev h).mpr q)
      · rename_i q3
        split
        · rename_i q; exact pt_4 (fun z => q2 (hb2.mp z)) (fun z => q3 ((b3_ev h).mp z)) (hb4.mpr q)
        · rename_i q4; exact pt_0 (fun z => q2 (hb2.mp z)) (fun z => q3 ((b3_ev h).mp z)) (fun z => q4 (hb4.mp z))
/-- the first point that is broken within n minutes from a -/
def bwF (d : Da) (a : Int) : Nat → Int
  | 0 => 0
  | n + 1 => if ptF d (a + n) = 0 then bwF d a n else if bwF d a n = 0 then ptF d (a + n) else min (ptF d (a + n)) (bwF d a n)
theorem pt_va {m : Int} : pt σ m = 0 ∨ pt σ m = 2 ∨ pt σ m = 3 ∨ pt σ m = 4 := by
  have h1 := @pt_rg σ m
  have h2 := @pt_1 σ m
  omega
theorem bw_step {a : Int} {n : Nat} : bw σ a (a + (n + 1 : Nat)) = if pt σ (a + n) = 0 then bw σ a (a + n) else if bw σ a (a + n) = 0 then pt σ (a + n) else min (pt σ (a + n)) (bw σ a (a + n)) := by
  have ex : ∀ v, (∃ m, a ≤ m ∧ m < a + (n + 1 : Nat) ∧ pt σ m = v) ↔ ((∃ m, a ≤ m ∧ m < a + n ∧ pt σ m = v) ∨ pt σ (a + n) = v) := fun v => by
    constructor
    · rintro ⟨m, h1, h2, h3⟩
      rcases Classical.em (m = a + n) with q | q
      · exact Or.inr (by rw [← q]; exact h3)
      · exact Or.inl ⟨m, h1, by omega, h3⟩
    · rintro (⟨m, h1, h2, h3⟩ | q)
      · exact ⟨m, h1, by omega, h3⟩
      · exact ⟨a + n, by omega, by omega, q⟩
  have hv := @pt_va σ (a + n)
  unfold bw
  rw [propext (ex 2), propext (ex 3), propext (ex 4)]
  rcases Classical.em (∃ m, a ≤ m ∧ m < a + (n : Int) ∧ pt σ m = 2) with e2 | e2
  · rw [ie_t (Or.inl e2), ie_t e2]
    split
    · rfl
    · rw [if_neg (by decide)]; omega
  · rw [ie_f e2]
    rcases Classical.em (∃ m, a ≤ m ∧ m < a + (n : Int) ∧ pt σ m = 3) with e3 | e3
    · rw [ie_t e3]
      rcases hv with v | v | v | v
      · rw [v, ie_f (by rintro (z | z); exact e2 z; omega), ie_t (Or.inl e3), if_pos rfl]
      · rw [v, ie_t (Or.inr rfl), if_neg (by decide), if_neg (by decide)]; rfl
      · rw [v, ie_f (by rintro (z | z); exact e2 z; omega), ie_t (Or.inl e3), if_neg (by decide), if_neg (by decide)]; rfl
      · rw [v, ie_f (by rintro (z | z); exact e2 z; omega), ie_t (Or.inl e3), if_neg (by decide), if_neg (by decide)]; rfl
    · rw [ie_f e3]
      rcases Classical.em (∃ m, a ≤ m ∧ m < a + (n : Int) ∧ pt σ m = 4) with e4 | e4
      · rw [ie_t e4]
        rcases hv with v | v | v | v
        · rw [v, ie_f (by rintro (z | z); exact e2 z; omega), ie_f (by rintro (z | z); exact e3 z; omega), ie_t (Or.inl e4), if_pos rfl]
        · rw [v, ie_t (Or.inr rfl), if_neg (by decide), if_neg (by decide)]; rfl
        · rw [v, ie_f (by rintro (z | z); exact e2 z; omega), ie_t (Or.inr rfl), if_neg (by decide), if_neg (by decide)]; rfl
        · rw [v, ie_f (by rintro (z | z); exact e2 z; omega), ie_f (by rintro (z | z); exact e3 z; omega), ie_t (Or.inl e4), if_neg (by decide), if_neg (by decide)]; rfl
      · rw [ie_f e4, if_pos rfl]
        rcases hv with v | v | v | v
        · rw [v, ie_f (by rintro (z | z); exact e2 z; omega), ie_f (by rintro (z | z); exact e3 z; omega), ie_f (by rintro (z | z); exact e4 z; omega), if_pos rfl]
        · rw [v, ie_t (Or.inr rfl), if_neg (by decide)]
        · rw [v, ie_f (by rintro (z | z); exact e2 z; omega), ie_t (Or.inr rfl), if_neg (by decide)]
        · rw [v, ie_f (by rintro (z | z); exact e2 z; omega), ie_f (by rintro (z | z); exact e3 z; omega), ie_t (Or.inr rfl), if_neg (by decide)]
theorem bw_ev (h : ES σ d) {a : Int} (ha : 0 ≤ a) : ∀ n : Nat, a + n ≤ 1000 → bw σ a (a + n) = bwF d a n := by
  intro n
  induction n with
  | zero =>
    intro _
    exact bw_0.mpr (fun m h1 h2 => by simp at h2; omega)
  | succ n ih =>
    intro hn
    rw [bw_step, ih (by omega), pt_ev h ⟨by omega, by omega⟩]
    rfl
def hitF (s : Int × Int × Int) (a : Ac) : Bool := decide (s.1 = a.1) && (decide (a.2.1 < s.2.2) && decide (s.2.1 < a.2.1 + a.2.2.1))
def nrF (a b : Ac) (ch : Int) : Bool := decide (a.2.1 < b.2.1 + b.2.2.1 + ch) && decide (b.2.1 < a.2.1 + a.2.2.1 + ch)
def fitF (d : Da) (k : Nat) : Bool :=
  decide ((ga d.2.2.2.2.1 k).2.1 + (ga d.2.2.2.2.1 k).2.2.1 ≤ 1000) && (d.2.2.2.2.2.2.all (fun s => !hitF s (ga d.2.2.2.2.1 k)) &&
  (List.range 16).all fun j => j == k || ((ga d.2.2.2.2.1 j).2.2.2.2.2.2.2.1 == 0 || ((ga d.2.2.2.2.1 j).1 != (ga d.2.2.2.2.1 k).1 || !nrF (ga d.2.2.2.2.1 k) (ga d.2.2.2.2.1 j) (gt d.2.1 (ga d.2.2.2.2.1 k).1.toNat))))
theorem fit_ev (h : ES σ d) {k : Nat} (hk : k < 16) (ho : (ga d.2.2.2.2.1 k).2.2.2.2.2.2.2.1 ≠ 0) : fits' σ k ↔ fitF d k = true := by
  obtain ⟨e7, e8, e9, -, -, -, -, e14, -⟩ := ES_ac h hk
  have e8 := e8 (Or.inl ho)
  have g7 := GI_7 h.1 k
  unfold fits' fitF
  simp only [Bool.and_eq_true, List.all_eq_true, Bool.not_eq_true', Bool.or_eq_true, beq_iff_eq, bne_iff_ne, decide_eq_true_eq, List.mem_range]
  rw [e8, e9]
  refine ⟨fun ⟨a1, a2, a3⟩ => ⟨a1, fun s hs => ?_, fun j hj => ?_⟩, fun ⟨a1, a2, a3⟩ => ⟨a1, fun s hs q => ?_, fun j hj q => ?_⟩⟩
  · obtain ⟨i, hi, rfl⟩ := List.mem_iff_getElem.mp hs
    have h5 := (ES_shp h).2.2.2.2.2
    obtain ⟨f1, f2, f3⟩ := h.2.2.2.2.2.2.2.2.1 i hi
    rw [g3_get _ _ hi] at f1 f2 f3
    have := a2 i (by omega)
    apply Bool.eq_false_iff.mpr
    intro q
    unfold hitF at q
    simp only [Bool.and_eq_true, decide_eq_true_eq] at q
    exact this ⟨by rw [f1, e7]; exact q.1, by rw [e8, f3]; exact q.2.1, by rw [e8, e9, f2]; exact q.2.2⟩
  · obtain ⟨j7, j8, j9, -, -, -, -, j14, -⟩ := ES_ac h hj
    by_cases q1 : j = k
    · exact Or.inl q1
    by_cases q2 : (ga d.2.2.2.2.1 j).2.2.2.2.2.2.2.1 = 0
    · exact Or.inr (Or.inl q2)
    by_cases q3 : (ga d.2.2.2.2.1 j).1 = (ga d.2.2.2.2.1 k).1
    · refine Or.inr (Or.inr (Or.inr (Bool.eq_false_iff.mpr fun q => ?_)))
      unfold nrF at q
      simp only [Bool.and_eq_true, decide_eq_true_eq] at q
      refine a3 j hj ⟨q1, by rw [j14]; exact q2, by rw [j7, e7]; exact q3, ?_⟩
      unfold nr
      rw [e8, e9, j8 (Or.inl q2), j9, e7, h.2.2.2.1 _ (by omega)]
      exact q
    · exact Or.inr (Or.inr (Or.inl q3))
  · obtain ⟨q1, q2, q3⟩ := q
    rcases Nat.lt_or_ge s d.2.2.2.2.2.2.length with hl | hl
    · obtain ⟨f1, f2, f3⟩ := h.2.2.2.2.2.2.2.2.1 s hl
      rw [g3_get _ _ hl] at f1 f2 f3
      have := a2 _ (List.getElem_mem hl)
      have hf := Bool.eq_false_iff.mp this
      apply hf
      unfold hitF
      simp only [Bool.and_eq_true, decide_eq_true_eq]
      exact ⟨by rw [← f1, ← e7]; exact q1, by rw [← e8, ← f3]; exact q2, by rw [← e8, ← e9, ← f2]; exact q3⟩
    · have := h.2.2.2.2.2.2.2.2.2 s hs hl
      omega
  · obtain ⟨q1, q2, q3, q4⟩ := q
    obtain ⟨j7, j8, j9, -, -, -, -, j14, -⟩ := ES_ac h hj
    rw [j14] at q2
    rw [j7, e7] at q3
    rcases a3 j hj with z | z | z | z
    · exact q1 z
    · exact q2 z
    · exact z q3
    · have hf := Bool.eq_false_iff.mp z
      apply hf
      unfold nr at q4
      rw [e8, e9, j8 (Or.inl q2), j9, e7, h.2.2.2.1 _ (by omega)] at q4
      unfold nrF
      simp only [Bool.and_eq_true, decide_eq_true_eq]
      exact q4
def bbF (d : Da) (k : Nat) : Int := if fitF d k = true then bwF d (ga d.2.2.2.2.1 k).2.1 (ga d.2.2.2.2.1 k).2.2.1.toNat else 1
theorem bb_ev (h : ES σ d) {k : Nat} (hk : k < 16) (ho : (ga d.2.2.2.2.1 k).2.2.2.2.2.2.2.1 ≠ 0) : bby σ k = bbF d k := by
  have hf := fit_ev h hk ho
  have e := ES_ac h hk
  have g8 := GI_8 h.1 k
  have g9 := GI_9 h.1 k
  unfold bby bbF
  split
  · rename_i q
    have hq := hf.mpr q
    have h1 := hq.1
    rw [ie_t hq, e.2.1 (Or.inl ho), e.2.2.1]
    rw [e.2.1 (Or.inl ho), e.2.2.1] at h1
    rw [e.2.1 (Or.inl ho)] at g8
    rw [e.2.2.1] at g9
    have := bw_ev h (a := (ga d.2.2.2.2.1 k).2.1) g8.1 (ga d.2.2.2.2.1 k).2.2.1.toNat (by omega)
    rw [← this]
    congr 1
    omega
  · rename_i q
    exact ie_f (fun z => q (hf.mp z))
end EV
