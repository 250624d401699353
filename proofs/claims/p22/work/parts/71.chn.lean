/-! channels: bits against acts -/
def sp (σ : Nat → Nat → Int) (mi : Int) (k : Nat) : Prop := pl σ k mi ∧ σ 13 k ≠ -1
def Near (S : Nat → Prop) (ch : Nat → Int) : Prop := ∃ j k, S j ∧ S k ∧ j ≠ k ∧ -1 ≤ ch j - ch k ∧ ch j - ch k ≤ 1
def Midw (S : Nat → Prop) (ch : Nat → Int) : Prop := ∃ a b c, S a ∧ S b ∧ S c ∧ ch b < ch a ∧ ch b + ch c = 2 * ch a
section C
variable {σ τ : Nat → Nat → Int} {mi : Int}
theorem chS_bt (hG : GI σ) : ∀ n c, c < 32 → (bt (chS σ mi n) c ↔ ∃ k, k < n ∧ sp σ mi k ∧ σ 13 k = (c : Int)) := by
  intro n
  induction n with
  | zero =>
    intro c _
    refine ⟨fun q => absurd q bt_0, ?_⟩
    rintro ⟨k, hk, _⟩
    omega
  | succ n ih =>
    intro c hc
    simp only [chS]
    rcases Classical.em (pl σ n mi ∧ σ 13 n ≠ -1) with z | z
    · rw [ie_t z]
      have g := GI_13 hG n
      have z2 := z.2
      obtain ⟨i, hi⟩ := Int.eq_ofNat_of_zero_le (show 0 ≤ σ 13 n by omega)
      rw [hi, bt_or_one (by omega) hc, ih c hc]
      constructor
      · rintro (⟨k, hk, q⟩ | q)
        · exact ⟨k, by omega, q⟩
        · exact ⟨n, by omega, z, by rw [hi, q]⟩
      · rintro ⟨k, hk, q1, q2⟩
        rcases Nat.lt_or_ge k n with y | y
        · exact Or.inl ⟨k, y, q1, q2⟩
        · rw [show k = n by omega, hi] at q2
          exact Or.inr (by omega)
    · rw [ie_f z, ih c hc]
      constructor
      · rintro ⟨k, hk, q⟩
        exact ⟨k, by omega, q⟩
      · rintro ⟨k, hk, q1, q2⟩
        rcases Nat.lt_or_ge k n with y | y
        · exact ⟨k, y, q1, q2⟩
        · rw [show k = n by omega] at q1
          exact absurd q1 z
theorem hc_iff (hG : GI σ) {n : Nat} {cz : Int} : hc (chS σ mi n) cz ↔ ∃ k, k < n ∧ sp σ mi k ∧ σ 13 k = cz := by
  unfold hc
  constructor
  · rintro ⟨a, b, q⟩
    obtain ⟨k, h1, h2, h3⟩ := (chS_bt hG n cz.toNat (by omega)).mp q
    exact ⟨k, h1, h2, by omega⟩
  · rintro ⟨k, h1, h2, h3⟩
    have g := GI_13 hG k
    have h4 := h2.2
    refine ⟨by omega, by omega, (chS_bt hG n cz.toNat (by omega)).mpr ⟨k, h1, h2, by omega⟩⟩
theorem tc_iff (hG : GI σ) : ∀ n, (tcS σ mi n ≠ 0 ↔ ∃ j k, j < k ∧ k < n ∧ sp σ mi j ∧ sp σ mi k ∧ -1 ≤ σ 13 j - σ 13 k ∧ σ 13 j - σ 13 k ≤ 1) := by
  intro n
  induction n with
  | zero =>
    refine ⟨fun q => absurd rfl q, ?_⟩
    rintro ⟨j, k, _, hk, _⟩
    omega
  | succ n ih =>
    simp only [tcS]
    rcases Classical.em (pl σ n mi ∧ σ 13 n ≠ -1) with z | z
    · rw [ie_t z, b2i_1, ih, hc_iff hG, hc_iff hG, hc_iff hG]
      constructor
      · rintro (⟨j, k, h1, h2, q⟩ | ⟨j, h1, h2, h3⟩ | ⟨j, h1, h2, h3⟩ | ⟨j, h1, h2, h3⟩)
        · exact ⟨j, k, h1, by omega, q⟩
        · exact ⟨j, n, h1, by omega, h2, z, by omega, by omega⟩
        · exact ⟨j, n, h1, by omega, h2, z, by omega, by omega⟩
        · exact ⟨j, n, h1, by omega, h2, z, by omega, by omega⟩
      · rintro ⟨j, k, h1, h2, q1, q2, q3, q4⟩
        rcases Nat.lt_or_ge k n with y | y
        · exact Or.inl ⟨j, k, h1, y, q1, q2, q3, q4⟩
        · have e : k = n := by omega
          subst e
          refine Or.inr ?_
          rcases (show σ 13 j = σ 13 k - 1 ∨ σ 13 j = σ 13 k ∨ σ 13 j = σ 13 k + 1 by omega) with e | e | e
          · exact Or.inl ⟨j, h1, q1, e⟩
          · exact Or.inr (Or.inl ⟨j, h1, q1, e⟩)
          · exact Or.inr (Or.inr ⟨j, h1, q1, e⟩)
    · rw [ie_f z, ih]
      constructor
      · rintro ⟨j, k, h1, h2, q⟩
        exact ⟨j, k, h1, by omega, q⟩
      · rintro ⟨j, k, h1, h2, q1, q2, q⟩
        rcases Nat.lt_or_ge k n with y | y
        · exact ⟨j, k, h1, y, q1, q2, q⟩
        · rw [show k = n by omega] at q2
          exact absurd q2 z
theorem bad3_iff (hG : GI σ) : bad3 σ mi ↔ Near (fun k => k < 16 ∧ sp σ mi k) (σ 13) ∨ Midw (fun k => k < 16 ∧ sp σ mi k) (σ 13) := by
  unfold bad3
  rw [tc_iff hG]
  have g := fun k => GI_13 hG k
  constructor
  · rintro (⟨j, k, h1, h2, q1, q2, q3, q4⟩ | ⟨b, h1, h2, h3, a, h4, h5, h6⟩)
    · exact Or.inl ⟨j, k, ⟨by omega, q1⟩, ⟨h2, q2⟩, by omega, q3, q4⟩
    · obtain ⟨k1, e1, e2, e3⟩ := (hc_iff hG).mp h3
      obtain ⟨k2, f1, f2, f3⟩ := (hc_iff hG).mp h5
      obtain ⟨k3, d1, d2, d3⟩ := (hc_iff hG).mp h6
      exact Or.inr ⟨k1, k2, k3, ⟨e1, e2⟩, ⟨f1, f2⟩, ⟨d1, d2⟩, by omega, by omega⟩
  · rintro (⟨j, k, q1, q2, q3, q4, q5⟩ | ⟨k1, k2, k3, q1, q2, q3, q4, q5⟩)
    · rcases Nat.lt_or_gt_of_ne q3 with y | y
      · exact Or.inl ⟨j, k, y, q2.1, q1.2, q2.2, q4, q5⟩
      · exact Or.inl ⟨k, j, y, q1.1, q2.2, q1.2, by omega, by omega⟩
    · have g1 := g k1
      have g2 := g k2
      have g3 := g k3
      have n2 := q2.2.2
      obtain ⟨b, hb⟩ := Int.eq_ofNat_of_zero_le (show 0 ≤ σ 13 k1 by omega)
      obtain ⟨a, ha⟩ := Int.eq_ofNat_of_zero_le (show 0 ≤ σ 13 k1 - σ 13 k2 by omega)
      refine Or.inr ⟨b, by omega, by omega, (hc_iff hG).mpr ⟨k1, q1.1, q1.2, hb⟩, a, by omega, (hc_iff hG).mpr ⟨k2, q2.1, q2.2, by omega⟩, (hc_iff hG).mpr ⟨k3, q3.1, q3.2, by omega⟩⟩
theorem spL_mem {k : Nat} : ∀ n, (k ∈ spL τ mi n ↔ k < n ∧ spk τ mi k) := by
  intro n
  induction n with
  | zero => simp [spL]
  | succ n ih =>
    rcases Classical.em (spk τ mi n) with z | z
    · rw [spL_t z, List.mem_append, ih, List.mem_singleton]
      constructor
      · rintro (⟨h1, h2⟩ | rfl)
        · exact ⟨by omega, h2⟩
        · exact ⟨by omega, z⟩
      · rintro ⟨h1, h2⟩
        rcases Nat.lt_or_ge k n with y | y
        · exact Or.inl ⟨y, h2⟩
        · exact Or.inr (by omega)
    · rw [spL_f z, ih]
      constructor
      · rintro ⟨h1, h2⟩
        exact ⟨by omega, h2⟩
      · rintro ⟨h1, h2⟩
        rcases Nat.lt_or_ge k n with y | y
        · exact ⟨y, h2⟩
        · rw [show k = n by omega] at h2
          exact absurd h2 z
theorem spL_pw : ∀ n, (spL τ mi n).Pairwise (fun a b => a ≠ b) := by
  intro n
  induction n with
  | zero => simp [spL]
  | succ n ih =>
    rcases Classical.em (spk τ mi n) with z | z
    · rw [spL_t z, List.pairwise_append]
      refine ⟨ih, List.pairwise_singleton _ _, fun a ha b hb => ?_⟩
      have h1 := ((spL_mem n).mp ha).1
      have h2 := List.mem_singleton.mp hb
      omega
    · rw [spL_f z]; exact ih
theorem spL_getD {n j : Nat} (hj : j < (spL τ mi n).length) : (spL τ mi n).getD j 0 = (spL τ mi n)[j] := by
  rw [List.getD_eq_getElem?_getD, List.getElem?_eq_getElem hj]; rfl
theorem spL_is {j : Nat} (hj : j < spn τ mi) : (spL τ mi 17).getD j 0 < 17 ∧ spk τ mi ((spL τ mi 17).getD j 0) := by
  rw [spL_getD hj]
  exact (spL_mem 17).mp (List.getElem_mem hj)
theorem spL_ne {i j : Nat} (hi : i < spn τ mi) (hj : j < spn τ mi) (hn : i ≠ j) : (spL τ mi 17).getD i 0 ≠ (spL τ mi 17).getD j 0 := by
  rw [spL_getD hi, spL_getD hj]
  have q := List.pairwise_iff_getElem.mp (spL_pw (τ := τ) (mi := mi) 17)
  rcases Nat.lt_or_gt_of_ne hn with y | y
  · exact q i j hi hj y
  · exact fun e => q j i hj hi y e.symm
theorem spL_pos {k : Nat} (hk : k < 17) (hs : spk τ mi k) : ∃ j, j < spn τ mi ∧ (spL τ mi 17).getD j 0 = k := by
  obtain ⟨j, hj, e⟩ := List.getElem_of_mem ((spL_mem 17).mpr ⟨hk, hs⟩)
  exact ⟨j, hj, by rw [spL_getD hj, e]⟩
theorem clr_pairs : clr τ mi ↔ ∀ a b, a < spn τ mi → b < spn τ mi → cE1 (spH τ mi) a b ∧ ∀ c, c < spn τ mi → cE2 (spH τ mi) a b c := by
  unfold clr clear
  generalize spn τ mi = n
  constructor
  · intro q a b ha hb
    have h0 : 0 < n := by omega
    have h1 : (a + 1) * n ≤ n * n := Nat.mul_le_mul_right n ha
    have h2 : (a + 1) * n = a * n + n := Nat.succ_mul a n
    have := q (b + a * n) (by omega)
    rw [Nat.add_mul_div_right _ _ h0, Nat.add_mul_mod_self_right, Nat.div_eq_of_lt hb, Nat.mod_eq_of_lt hb, Nat.zero_add] at this
    exact this
  · intro q x hx
    have h0 : 0 < n := by
      rcases Nat.eq_zero_or_pos n with e | e
      · rw [e] at hx; omega
      · exact e
    exact q (x / n) (x % n) (Nat.div_lt_of_lt_mul hx) (Nat.mod_lt _ h0)
theorem clr_iff : clr τ mi ↔ ¬ (Near (fun k => k < 17 ∧ spk τ mi k) (τ 13) ∨ Midw (fun k => k < 17 ∧ spk τ mi k) (τ 13)) := by
  rw [clr_pairs]
  constructor
  · rintro q (⟨j, k, ⟨h1, h2⟩, ⟨h3, h4⟩, h5, h6, h7⟩ | ⟨a, b, c, ⟨h1, h2⟩, ⟨h3, h4⟩, ⟨h5, h6⟩, h7, h8⟩)
    · obtain ⟨j', p1, p2⟩ := spL_pos h1 h2
      obtain ⟨k', p3, p4⟩ := spL_pos h3 h4
      rcases (q j' k' p1 p3).1 with e | e
      · rw [e, p4] at p2; exact h5 p2.symm
      · apply e
        unfold spH
        rw [p2, p4]
        exact ⟨h6, h7⟩
    · obtain ⟨a', p1, p2⟩ := spL_pos h1 h2
      obtain ⟨b', p3, p4⟩ := spL_pos h3 h4
      obtain ⟨c', p5, p6⟩ := spL_pos h5 h6
      rcases (q a' b' p1 p3).2 c' p5 with e | e | e | e
      · rw [e, p4] at p2; subst p2; omega
      · rw [e, p2] at p6; subst p6; omega
      · rw [e, p4] at p6; subst p6; omega
      · apply e
        unfold spH
        rw [p2, p4, p6]
        omega
  · intro q a b ha hb
    refine ⟨?_, fun c hc => ?_⟩
    · rcases Classical.em (a = b) with e | e
      · exact Or.inl e
      · refine Or.inr fun z => q (Or.inl ⟨_, _, spL_is ha, spL_is hb, spL_ne ha hb e, z⟩)
    · rcases Classical.em (a = b) with e1 | e1
      · exact Or.inl e1
      · rcases Classical.em (c = a) with e2 | e2
        · exact Or.inr (Or.inl e2)
        · rcases Classical.em (c = b) with e3 | e3
          · exact Or.inr (Or.inr (Or.inl e3))
          · refine Or.inr (Or.inr (Or.inr fun z => ?_))
            unfold spH at z
            rcases Int.lt_trichotomy (τ 13 ((spL τ mi 17).getD b 0)) (τ 13 ((spL τ mi 17).getD a 0)) with y | y | y
            · exact q (Or.inr ⟨_, _, _, spL_is ha, spL_is hb, spL_is hc, y, by omega⟩)
            · exact q (Or.inl ⟨_, _, spL_is ha, spL_is hb, spL_ne ha hb e1, by omega, by omega⟩)
            · exact q (Or.inr ⟨_, _, _, spL_is ha, spL_is hc, spL_is hb, by omega, by omega⟩)
theorem clr_rel (h : Rel σ τ) (hG : GI σ) : clr τ mi ↔ ¬ bad3 σ mi := by
  have e : (fun k => k < 16 ∧ sp σ mi k) = fun k => k < 17 ∧ spk τ mi k := by
    funext k
    refine propext ⟨fun ⟨a, b⟩ => ⟨by omega, (pl_rel h a).mp b.1, ?_⟩, fun ⟨a, b⟩ => ?_⟩
    · have g := GI_13 hG k
      have n := b.2
      rw [← R_13 h]
      omega
    · rcases Nat.lt_or_ge k 16 with y | y
      · refine ⟨y, (pl_rel h y).mpr b.1, ?_⟩
        have := b.2
        rw [← R_13 h] at this
        omega
      · rw [show k = 16 by omega] at b
        exact absurd b.1 (pl_16 h)
  rw [clr_iff, bad3_iff hG, e, R_13 h]
end C
