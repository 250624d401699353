/-! what each call answers, and what it leaves, by counting -/
def noW (d : Da) : Bool := d.2.2.2.2.1.all (fun a => a.2.2.2.2.2.2.2.2 == 0)
/-- act k is another one -/
def stA (d : Da) (k : Nat) (a : Ac) : Da := (d.1, d.2.1, d.2.2.1, d.2.2.2.1, d.2.2.2.2.1.set k a, d.2.2.2.2.2.1, d.2.2.2.2.2.2)
def stN' (d : Da) (v : Int) : Da := (d.1, d.2.1, d.2.2.1, d.2.2.2.1, d.2.2.2.2.1, v, d.2.2.2.2.2.2)
theorem ga_set : ∀ (L : List Ac) (k j : Nat) (a : Ac), k < L.length → ga (L.set k a) j = if j = k then a else ga L j := by
  intro L
  induction L with
  | nil => intro k j a h; exact absurd h (Nat.not_lt_zero _)
  | cons b L ih =>
    intro k j a h
    cases k with
    | zero =>
      cases j with
      | zero => rfl
      | succ j => rfl
    | succ k =>
      cases j with
      | zero => rfl
      | succ j =>
        show ga (L.set k a) j = _
        rw [ih k j a (by simpa using h)]
        by_cases e : j = k
        · rw [if_pos e, if_pos (by omega)]
        · rw [if_neg e, if_neg (by omega)]; rfl
theorem gt_set : ∀ (L : List Int) (k j : Nat) (a : Int), k < L.length → gt (L.set k a) j = if j = k then a else gt L j := by
  intro L
  induction L with
  | nil => intro k j a h; exact absurd h (Nat.not_lt_zero _)
  | cons b L ih =>
    intro k j a h
    cases k with
    | zero =>
      cases j with
      | zero => rfl
      | succ j => rfl
    | succ k =>
      cases j with
      | zero => rfl
      | succ j =>
        show gt (L.set k a) j = _
        rw [ih k j a (by simpa using h)]
        by_cases e : j = k
        · rw [if_pos e, if_pos (by omega)]
        · rw [if_neg e, if_neg (by omega)]; rfl
theorem gt_app : ∀ (L : List Int) (j : Nat) (a : Int), gt (L ++ [a]) j = if j < L.length then gt L j else if j = L.length then a else 0 := by
  intro L
  induction L with
  | nil =>
    intro j a
    cases j with
    | zero => rfl
    | succ j => rfl
  | cons b L ih =>
    intro j a
    cases j with
    | zero => rfl
    | succ j =>
      show gt (L ++ [a]) j = _
      rw [ih]
      simp only [List.length_cons]
      by_cases e : j < L.length
      · rw [if_pos e, if_pos (by omega)]; rfl
      · rw [if_neg e, if_neg (show ¬ j + 1 < L.length + 1 by omega)]
        by_cases e2 : j = L.length
        · rw [if_pos e2, if_pos (by omega)]
        · rw [if_neg e2, if_neg (by omega)]
theorem g3_app : ∀ (L : List (Int × Int × Int)) (j : Nat) (a : Int × Int × Int), g3 (L ++ [a]) j = if j < L.length then g3 L j else if j = L.length then a else (0, 0, 0) := by
  intro L
  induction L with
  | nil =>
    intro j a
    cases j with
    | zero => rfl
    | succ j => rfl
  | cons b L ih =>
    intro j a
    cases j with
    | zero => rfl
    | succ j =>
      show g3 (L ++ [a]) j = _
      rw [ih]
      simp only [List.length_cons]
      by_cases e : j < L.length
      · rw [if_pos e, if_pos (by omega)]; rfl
      · rw [if_neg e, if_neg (show ¬ j + 1 < L.length + 1 by omega)]
        by_cases e2 : j = L.length
        · rw [if_pos e2, if_pos (by omega)]
        · rw [if_neg e2, if_neg (by omega)]
section EB
variable {σ σ' : Nat → Nat → Int} {d : Da}
theorem shp_of {d : Da} (h : d.1.length ≤ 6 ∧ d.2.1.length = 3 ∧ d.2.2.1.length = 3 ∧ d.2.2.2.1.length = 17 ∧ d.2.2.2.2.1.length = 16 ∧ d.2.2.2.2.2.2.length ≤ 5) : shp d = true := by
  unfold shp
  simp only [Bool.and_eq_true, decide_eq_true_eq]
  exact ⟨⟨⟨⟨⟨h.1, h.2.1⟩, h.2.2.1⟩, h.2.2.2.1⟩, h.2.2.2.2.1⟩, h.2.2.2.2.2⟩
/-- one act is another one, all else stays -/
theorem ES_act (h : ES σ d) {k : Nat} (hk : k < 16) (hG : GI σ') {a : Ac} (h1 : ∀ r, r < 7 ∨ 15 < r → σ' r = σ r) (h2 : ∀ j, j ≠ k → ∀ r, 7 ≤ r → r ≤ 15 → σ' r j = σ r j) (h3 : Ek σ' k a) : ES σ' (stA d k a) := by
  have hs := ES_shp h
  obtain ⟨-, -, hS, hC, hB, hW, hA, hT⟩ := h
  refine ⟨hG, shp_of ⟨hs.1, hs.2.1, hs.2.2.1, hs.2.2.2.1, by show (d.2.2.2.2.1.set k a).length = 16; rw [List.length_set]; exact hs.2.2.2.2.1, hs.2.2.2.2.2⟩, ?_, ?_, ?_, ?_, ⟨?_, fun j hj => ?_⟩, ?_⟩
  · rw [h1 0 (by omega), h1 1 (by omega)]; exact hS
  · rw [h1 2 (by omega)]; exact hC
  · rw [h1 3 (by omega)]; exact hB
  · rw [h1 4 (by omega)]; exact hW
  · rw [h1 0 (by omega)]; exact hA.1
  · show Ek σ' j (ga (d.2.2.2.2.1.set k a) j)
    rw [ga_set _ _ _ _ (by omega)]
    by_cases e : j = k
    · rw [if_pos e, e]; exact h3
    · rw [if_neg e]
      have := hA.2 j hj
      unfold Ek at this ⊢
      rw [h2 j e 7 (by decide) (by decide), h2 j e 8 (by decide) (by decide), h2 j e 9 (by decide) (by decide), h2 j e 10 (by decide) (by decide), h2 j e 11 (by decide) (by decide), h2 j e 12 (by decide) (by decide), h2 j e 13 (by decide) (by decide), h2 j e 14 (by decide) (by decide), h2 j e 15 (by decide) (by decide)]
      exact this
  · rw [h1 0 (by omega), h1 16 (by omega), h1 17 (by omega), h1 18 (by omega)]; exact hT
/-- one number of act k -/
theorem u2_off {r k : Nat} {v : Int} (hr : 7 ≤ r ∧ r ≤ 15) : (∀ r', r' < 7 ∨ 15 < r' → u2 σ r k v r' = σ r') ∧ ∀ j, j ≠ k → ∀ r', 7 ≤ r' → r' ≤ 15 → u2 σ r k v r' j = σ r' j :=
  ⟨fun r' q => u2_row (by omega), fun j hj r' _ _ => u2_ne hj⟩
theorem ES_start (h : ES σ d) {k : Nat} (hk : k < 16) {m : Int} (hm : 0 ≤ m ∧ m ≤ 999) : ES (u2 σ 8 k m) (stA d k ((ga d.2.2.2.2.1 k).1, m, (ga d.2.2.2.2.1 k).2.2)) := by
  have e := ES_ac h hk
  have o := u2_off (σ := σ) (r := 8) (k := k) (v := m) ⟨by decide, by decide⟩
  refine ES_act h hk (GI_u8 h.1 hm) o.1 o.2 ?_
  unfold Ek at e ⊢
  rw [u2_row (by decide), u2_at, u2_row (by decide), u2_row (by decide), u2_row (by decide), u2_row (by decide), u2_row (by decide), u2_row (by decide), u2_row (by decide)]
  exact ⟨e.1, fun _ => rfl, e.2.2⟩
/-- the act is planned or not, it waits or not: its start as it was -/
theorem ES_off (h : ES σ d) {k : Nat} (hk : k < 16) : ES (u2 σ 14 k 0) (stA d k ((ga d.2.2.2.2.1 k).1, (ga d.2.2.2.2.1 k).2.1, (ga d.2.2.2.2.1 k).2.2.1, (ga d.2.2.2.2.1 k).2.2.2.1, (ga d.2.2.2.2.1 k).2.2.2.2.1, (ga d.2.2.2.2.1 k).2.2.2.2.2.1, (ga d.2.2.2.2.1 k).2.2.2.2.2.2.1, 0, (ga d.2.2.2.2.1 k).2.2.2.2.2.2.2.2)) := by
  have e := ES_ac h hk
  have o := u2_off (σ := σ) (r := 14) (k := k) (v := 0) ⟨by decide, by decide⟩
  refine ES_act h hk (GI_u14 h.1 (by decide)) o.1 o.2 ?_
  obtain ⟨e7, e8, e9, e10, e11, e12, e13, e14, e15⟩ := e
  unfold Ek
  rw [u2_row (by decide), u2_row (by decide), u2_row (by decide), u2_row (by decide), u2_row (by decide), u2_row (by decide), u2_row (by decide), u2_at, u2_row (by decide)]
  exact ⟨e7, fun q => e8 (Or.inr (by rcases q with q | q; exact absurd rfl q; exact q)), e9, e10, e11, e12, e13, rfl, e15⟩
theorem ES_na (h : ES σ d) {v : Int} (hv : 0 ≤ v ∧ v ≤ 16) : ES (u2 σ 0 1 v) (stN' d v) := by
  have hs := ES_shp h
  obtain ⟨hG, -, hS, hC, hB, hW, hA, hT⟩ := h
  have e : ∀ r, 0 < r → u2 σ 0 1 v r = σ r := fun r q => u2_row (by omega)
  refine ⟨GI_u01 hG hv, shp_of hs, ?_, ?_, ?_, ?_, ⟨u2_at, fun j hj => ?_⟩, ?_⟩
  · rw [u2_ne (by decide), e 1 (by decide)]; exact hS
  · rw [e 2 (by decide)]; exact hC
  · rw [e 3 (by decide)]; exact hB
  · rw [e 4 (by decide)]; exact hW
  · have := hA.2 j hj
    unfold Ek at this ⊢
    rw [e 7 (by decide), e 8 (by decide), e 9 (by decide), e 10 (by decide), e 11 (by decide), e 12 (by decide), e 13 (by decide), e 14 (by decide), e 15 (by decide)]
    exact this
  · rw [u2_ne (by decide), e 16 (by decide), e 17 (by decide), e 18 (by decide)]; exact hT
/-- startSet -/
def vS (d : Da) (mi : Int) : Int := if d.1.any (fun x => decide (-9 ≤ mi - x) && decide (mi - x ≤ 9)) = true then -1 else d.1.length + 1
def dS (d : Da) (mi : Int) : Da := if d.1.any (fun x => decide (-9 ≤ mi - x) && decide (mi - x ≤ 9)) = true then d else (d.1 ++ [mi], d.2)
theorem ev_startSet (h : ES σ d) {mi z : Int} (hp : MSet σ mi z σ' 0) : z = vS d mi ∧ ES σ' (dS d mi) := by
  have hs := ES_shp h
  obtain ⟨p1, p2, p3⟩ := hp
  have e0 := h.2.2.1.1
  have e1 := h.2.2.1.2
  have hn : (σ 0 0).toNat = d.1.length := by rw [e0]; rfl
  have hlt : d.1.length < 6 := by
    have : σ 0 0 ≠ 6 := by
      unfold thS at p1
      split at p1
      · split at p1
        · omega
        · rename_i q; exact q
      · omega
    omega
  rcases p2 with p2 | ⟨_, p2⟩
  · have := p2.1; omega
  have hany : d.1.any (fun x => decide (-9 ≤ mi - x) && decide (mi - x ≤ 9)) = true ↔ ∃ k, k < (σ 0 0).toNat ∧ -9 ≤ mi - σ 1 k ∧ mi - σ 1 k ≤ 9 := by
    rw [List.any_eq_true, hn]
    constructor
    · rintro ⟨x, hx, q⟩
      obtain ⟨i, hi, rfl⟩ := List.mem_iff_getElem.mp hx
      simp only [Bool.and_eq_true, decide_eq_true_eq] at q
      exact ⟨i, hi, by rw [e1 i hi, gt_get _ _ hi]; exact q⟩
    · rintro ⟨k, hk, q⟩
      refine ⟨d.1[k], List.getElem_mem hk, ?_⟩
      rw [e1 k hk, gt_get _ _ hk] at q
      simp only [Bool.and_eq_true, decide_eq_true_eq]
      exact q
  unfold vS dS
  rcases p2 with ⟨q, rfl, rfl⟩ | ⟨q, rfl, rfl⟩
  · rw [if_pos (hany.mpr q), if_pos (hany.mpr q)]
    exact ⟨rfl, h⟩
  · have hn9 : ¬ d.1.any (fun x => decide (-9 ≤ mi - x) && decide (mi - x ≤ 9)) = true := fun z => by
      obtain ⟨k, hk, q2⟩ := hany.mp z
      exact q k hk q2
    rw [if_neg hn9, if_neg hn9]
    refine ⟨by rw [e0], p3, shp_of ⟨by show (d.1 ++ [mi]).length ≤ 6; rw [List.length_append]; simp; omega, hs.2⟩, ⟨?_, fun i hi => ?_⟩, ?_, ?_, ?_, ⟨?_, fun j hj => ?_⟩, ?_⟩
    · rw [u2_at, e0]; show _ = ((d.1 ++ [mi]).length : Int); rw [List.length_append]; simp
    · have hi : i < (d.1 ++ [mi]).length := hi
      rw [List.length_append] at hi
      simp at hi
      show u2 (u2 σ 1 (σ 0 0).toNat mi) 0 0 (σ 0 0 + 1) 1 i = gt (d.1 ++ [mi]) i
      rw [u2_row (by decide), hn, gt_app]
      by_cases q2 : i < d.1.length
      · rw [if_pos q2, u2_ne (by omega)]; exact e1 i q2
      · have : i = d.1.length := by omega
        rw [if_neg q2, if_pos this, this, u2_at]
    · rw [u2_row (by decide), u2_row (by decide)]; exact h.2.2.2.1
    · rw [u2_row (by decide), u2_row (by decide)]; exact h.2.2.2.2.1
    · rw [u2_row (by decide), u2_row (by decide)]; exact h.2.2.2.2.2.1
    · rw [u2_ne (by decide), u2_row (by decide)]; exact h.2.2.2.2.2.2.1.1
    · have := ES_ac h hj
      unfold Ek at this ⊢
      simp only [u2_row (show (7 : Nat) ≠ 0 by decide), u2_row (show (8 : Nat) ≠ 0 by decide), u2_row (show (9 : Nat) ≠ 0 by decide), u2_row (show (10 : Nat) ≠ 0 by decide), u2_row (show (11 : Nat) ≠ 0 by decide), u2_row (show (12 : Nat) ≠ 0 by decide), u2_row (show (13 : Nat) ≠ 0 by decide), u2_row (show (14 : Nat) ≠ 0 by decide), u2_row (show (15 : Nat) ≠ 0 by decide), u2_row (show (7 : Nat) ≠ 1 by decide), u2_row (show (8 : Nat) ≠ 1 by decide), u2_row (show (9 : Nat) ≠ 1 by decide), u2_row (show (10 : Nat) ≠ 1 by decide), u2_row (show (11 : Nat) ≠ 1 by decide), u2_row (show (12 : Nat) ≠ 1 by decide), u2_row (show (13 : Nat) ≠ 1 by decide), u2_row (show (14 : Nat) ≠ 1 by decide), u2_row (show (15 : Nat) ≠ 1 by decide)]
      exact this
    · rw [u2_ne (by decide), u2_row (by decide), u2_row (by decide), u2_row (by decide), u2_row (by decide), u2_row (by decide), u2_row (by decide), u2_row (by decide)]; exact h.2.2.2.2.2.2.2
/-- a change that is tried -/
theorem ev_CS (h : ES σ d) {σ1 : Nat → Nat → Int} {P : Prop} {z : Int} {d1 : Da} {pB : Bool} (h1 : ES σ1 d1) (hP : P ↔ pB = true) (hc : CS σ σ1 P z σ') : z = (if pB = true then 1 else 0) ∧ ES σ' (if pB = true then d1 else d) := by
  rcases hc with ⟨p, rfl, rfl⟩ | ⟨p, rfl, rfl⟩
  · rw [if_pos (hP.mp p), if_pos (hP.mp p)]; exact ⟨rfl, h1⟩
  · rw [if_neg (fun q => p (hP.mpr q)), if_neg (fun q => p (hP.mpr q))]; exact ⟨rfl, h⟩
/-- a place of one of the rows 2 to 4 -/
theorem ES_up (h : ES σ d) {r k : Nat} {v : Int} {d1 : Da} (hr : 2 ≤ r ∧ r ≤ 4) (hG : GI (u2 σ r k v)) (hs : shp d1 = true) (e1 : d1.1 = d.1) (e2 : ∀ i, i < 3 → (if r = 2 ∧ i = k then v else gt d.2.1 i) = gt d1.2.1 i) (e3 : ∀ i, i < 3 → (if r = 3 ∧ i = k then v else gt d.2.2.1 i) = gt d1.2.2.1 i) (e4 : ∀ i, i < 17 → (if r = 4 ∧ i = k then v else gt d.2.2.2.1 i) = gt d1.2.2.2.1 i) (e5 : d1.2.2.2.2 = d.2.2.2.2) : ES (u2 σ r k v) d1 := by
  obtain ⟨-, -, hS, hC, hB, hW, hA, hT⟩ := h
  have e : ∀ r', r' < 2 ∨ 4 < r' → u2 σ r k v r' = σ r' := fun r' q => u2_row (by omega)
  refine ⟨hG, hs, ?_, fun i hi => ?_, fun i hi => ?_, fun i hi => ?_, ⟨?_, fun j hj => ?_⟩, ?_⟩
  · rw [e 0 (by omega), e 1 (by omega), e1]; exact hS
  · rw [← e2 i hi]
    by_cases q : r = 2
    · subst q
      by_cases q2 : i = k
      · rw [if_pos ⟨rfl, q2⟩, q2, u2_at]
      · rw [if_neg (fun z => q2 z.2), u2_ne q2]; exact hC i hi
    · rw [if_neg (fun z => q z.1), u2_row (Ne.symm q)]; exact hC i hi
  · rw [← e3 i hi]
    by_cases q : r = 3
    · subst q
      by_cases q2 : i = k
      · rw [if_pos ⟨rfl, q2⟩, q2, u2_at]
      · rw [if_neg (fun z => q2 z.2), u2_ne q2]; exact hB i hi
    · rw [if_neg (fun z => q z.1), u2_row (Ne.symm q)]; exact hB i hi
  · rw [← e4 i hi]
    by_cases q : r = 4
    · subst q
      by_cases q2 : i = k
      · rw [if_pos ⟨rfl, q2⟩, q2, u2_at]
      · rw [if_neg (fun z => q2 z.2), u2_ne q2]; exact hW i hi
    · rw [if_neg (fun z => q z.1), u2_row (Ne.symm q)]; exact hW i hi
  · rw [e 0 (by omega), e5]; exact hA.1
  · have := hA.2 j hj
    rw [e5]
    unfold Ek at this ⊢
    rw [e 7 (by omega), e 8 (by omega), e 9 (by omega), e 10 (by omega), e 11 (by omega), e 12 (by omega), e 13 (by omega), e 14 (by omega), e 15 (by omega)]
    exact this
  · rw [e 0 (by omega), e 16 (by omega), e 17 (by omega), e 18 (by omega), e5]; exact hT
def dC (d : Da) (k : Nat) (v : Int) : Da := (d.1, d.2.1.set k v, d.2.2)
def dB (d : Da) (k : Nat) (v : Int) : Da := (d.1, d.2.1, d.2.2.1.set k v, d.2.2.2)
def dW (d : Da) (k : Nat) (v : Int) : Da := (d.1, d.2.1, d.2.2.1, d.2.2.2.1.set k v, d.2.2.2.2)
theorem ES_dC (h : ES σ d) {k : Nat} {v : Int} (hk : k < 3) (hv : 0 ≤ v ∧ v ≤ 60) : ES (u2 σ 2 k v) (dC d k v) := by
  have hs := ES_shp h
  refine ES_up h ⟨by decide, by decide⟩ (GI_u2 h.1 hv) (shp_of ⟨hs.1, by show (d.2.1.set k v).length = 3; rw [List.length_set]; exact hs.2.1, hs.2.2⟩) rfl (fun i hi => ?_) (fun i hi => ?_) (fun i hi => ?_) rfl
  · show _ = gt (d.2.1.set k v) i
    rw [gt_set _ _ _ _ (by omega)]
    by_cases q : i = k
    · rw [if_pos ⟨rfl, q⟩, if_pos q]
    · rw [if_neg (fun z => q z.2), if_neg q]
  · rw [if_neg (fun z => absurd z.1 (by decide))]; rfl
  · rw [if_neg (fun z => absurd z.1 (by decide))]; rfl
theorem ES_dB (h : ES σ d) {k : Nat} {v : Int} (hk : k < 3) (hv : 10 ≤ v ∧ v ≤ 300) : ES (u2 σ 3 k v) (dB d k v) := by
  have hs := ES_shp h
  refine ES_up h ⟨by decide, by decide⟩ (GI_u3 h.1 hv) (shp_of ⟨hs.1, hs.2.1, by show (d.2.2.1.set k v).length = 3; rw [List.length_set]; exact hs.2.2.1, hs.2.2.2⟩) rfl (fun i hi => ?_) (fun i hi => ?_) (fun i hi => ?_) rfl
  · rw [if_neg (fun z => absurd z.1 (by decide))]; rfl
  · show _ = gt (d.2.2.1.set k v) i
    rw [gt_set _ _ _ _ (by omega)]
    by_cases q : i = k
    · rw [if_pos ⟨rfl, q⟩, if_pos q]
    · rw [if_neg (fun z => q z.2), if_neg q]
  · rw [if_neg (fun z => absurd z.1 (by decide))]; rfl
theorem ES_dW (h : ES σ d) {k : Nat} {v : Int} (hk : k < 17) (hv : -10 ≤ v ∧ v ≤ 10) : ES (u2 σ 4 k v) (dW d k v) := by
  have hs := ES_shp h
  refine ES_up h ⟨by decide, by decide⟩ (GI_u4 h.1 hv) (shp_of ⟨hs.1, hs.2.1, hs.2.2.1, by show (d.2.2.2.1.set k v).length = 17; rw [List.length_set]; exact hs.2.2.2.1, hs.2.2.2.2⟩) rfl (fun i hi => ?_) (fun i hi => ?_) (fun i hi => ?_) rfl
  · rw [if_neg (fun z => absurd z.1 (by decide))]; rfl
  · rw [if_neg (fun z => absurd z.1 (by decide))]; rfl
  · show _ = gt (d.2.2.2.1.set k v) i
    rw [gt_set _ _ _ _ (by omega)]
    by_cases q : i = k
    · rw [if_pos ⟨rfl, q⟩, if_pos q]
    · rw [if_neg (fun z => q z.2), if_neg q]
def pC (d : Da) (sg : Int) : Bool := (List.range 16).all fun k => (ga d.2.2.2.2.1 k).2.2.2.2.2.2.2.1 == 0 || ((ga d.2.2.2.2.1 k).1 != sg || fitF d k)
theorem stFine_ev (h : ES σ d) {sg : Int} : stFine σ sg ↔ pC d sg = true := by
  unfold stFine pC
  simp only [List.all_eq_true, List.mem_range, Bool.or_eq_true, beq_iff_eq, bne_iff_ne]
  constructor
  · intro hq k hk
    have e := ES_ac h hk
    by_cases q1 : (ga d.2.2.2.2.1 k).2.2.2.2.2.2.2.1 = 0
    · exact Or.inl q1
    by_cases q2 : (ga d.2.2.2.2.1 k).1 = sg
    · exact Or.inr (Or.inr ((fit_ev h hk q1).mp (hq k hk (by rw [e.2.2.2.2.2.2.2.1]; exact q1) (by rw [e.1]; exact q2))))
    · exact Or.inr (Or.inl q2)
  · intro hq k hk q1 q2
    have e := ES_ac h hk
    rw [e.2.2.2.2.2.2.2.1] at q1
    rw [e.1] at q2
    rcases hq k hk with z | z | z
    · exact absurd z q1
    · exact absurd q2 z
    · exact (fit_ev h hk q1).mpr z
theorem ev_setChange (h : ES σ d) {sg mi z : Int} (h0 : thC sg mi = 0) (hc : CS σ (u2 σ 2 sg.toNat mi) (stFine (u2 σ 2 sg.toNat mi) sg) z σ') : z = (if pC (dC d sg.toNat mi) sg = true then 1 else 0) ∧ ES σ' (if pC (dC d sg.toNat mi) sg = true then dC d sg.toNat mi else d) := by
  have hb : (0 ≤ sg ∧ sg ≤ 2) ∧ 0 ≤ mi ∧ mi ≤ 60 := by unfold thC at h0; split at h0 <;> (try split at h0) <;> omega
  have h1 := ES_dC h (k := sg.toNat) (v := mi) (by omega) hb.2
  exact ev_CS h h1 (stFine_ev h1) hc
theorem ev_setBound (h : ES σ d) {hs bd z : Int} (h0 : thB hs bd = 0) (hc : CS σ (u2 σ 3 hs.toNat bd) (bw (u2 σ 3 hs.toNat bd) 0 1000 = 0) z σ') : z = (if (bwF (dB d hs.toNat bd) 0 1000 == 0) = true then 1 else 0) ∧ ES σ' (if (bwF (dB d hs.toNat bd) 0 1000 == 0) = true then dB d hs.toNat bd else d) := by
  have hb : (0 ≤ hs ∧ hs ≤ 2) ∧ 10 ≤ bd ∧ bd ≤ 300 := by unfold thB at h0; split at h0 <;> (try split at h0) <;> omega
  have h1 := ES_dB h (k := hs.toNat) (v := bd) (by omega) hb.2
  have e := bw_ev h1 (a := 0) (by decide) 1000 (by decide)
  refine ev_CS h h1 ?_ hc
  rw [beq_iff_eq, ← e]
  rfl
theorem ev_setWind (h : ES σ d) {hr wn z : Int} (h0 : thW hr wn = 0) (hc : CS σ (u2 σ 4 hr.toNat wn) (bw (u2 σ 4 hr.toNat wn) (hr * 60) (min (hr * 60 + 60) 1000) = 0) z σ') : z = (if (bwF (dW d hr.toNat wn) (hr * 60) (min (hr * 60 + 60) 1000 - hr * 60).toNat == 0) = true then 1 else 0) ∧ ES σ' (if (bwF (dW d hr.toNat wn) (hr * 60) (min (hr * 60 + 60) 1000 - hr * 60).toNat == 0) = true then dW d hr.toNat wn else d) := by
  have hb : (0 ≤ hr ∧ hr ≤ 16) ∧ -10 ≤ wn ∧ wn ≤ 10 := by unfold thW at h0; split at h0 <;> (try split at h0) <;> omega
  have h1 := ES_dW h (k := hr.toNat) (v := wn) (by omega) hb.2
  have e := bw_ev h1 (a := hr * 60) (by omega) (min (hr * 60 + 60) 1000 - hr * 60).toNat (by omega)
  refine ev_CS h h1 ?_ hc
  rw [beq_iff_eq, ← e, show hr * 60 + ((min (hr * 60 + 60) 1000 - hr * 60).toNat : Int) = min (hr * 60 + 60) 1000 by omega]
end EB
