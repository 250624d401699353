/-! what is wrong, said of all minutes: the reference's walk over hours and starts finds the same -/
section E
variable {σ τ σ' : Nat → Nat → Int} {mi m e : Int}
theorem mx {P : Nat → Prop} {f : Nat → Int} : ∀ n i0, i0 < n → P i0 → ∃ i, i < n ∧ P i ∧ ∀ j, j < n → P j → f j ≤ f i := by
  intro n
  induction n with
  | zero => intro i0 h; omega
  | succ n ih =>
    intro i0 hi hp
    rcases Classical.em (∃ i, i < n ∧ P i) with ⟨i1, q1, q2⟩ | z
    · obtain ⟨i, h1, h2, h3⟩ := ih i1 q1 q2
      rcases Classical.em (P n ∧ f i < f n) with ⟨y1, y2⟩ | y
      · refine ⟨n, by omega, y1, fun j hj hpj => ?_⟩
        rcases Nat.lt_or_ge j n with w | w
        · have := h3 j w hpj; omega
        · rw [show j = n by omega]; omega
      · refine ⟨i, by omega, h2, fun j hj hpj => ?_⟩
        rcases Nat.lt_or_ge j n with w | w
        · exact h3 j w hpj
        · have e : j = n := by omega
          subst e
          exact Int.not_lt.mp fun q => y ⟨hpj, q⟩
    · have e : i0 = n := by
        rcases Nat.lt_or_ge i0 n with w | w
        · exact absurd ⟨i0, w, hp⟩ z
        · omega
      subst e
      refine ⟨i0, by omega, hp, fun j hj hpj => ?_⟩
      rcases Nat.lt_or_ge j i0 with w | w
      · exact absurd ⟨j, w, hpj⟩ z
      · rw [show j = i0 by omega]; omega
/-- who plays at m in the one plan plays at e in the other, with what counts alike -/
def Mo (σ : Nat → Nat → Int) (m : Int) (σ' : Nat → Nat → Int) (e : Int) : Prop := ∀ k, k < 16 → pl σ k m → pl σ' k e ∧ σ' 7 k = σ 7 k ∧ σ' 10 k = σ 10 k ∧ σ' 11 k = σ 11 k ∧ σ' 12 k = σ 12 k ∧ σ' 13 k = σ 13 k
theorem ld_mono (h : Mo σ m σ' e) (hG : GI σ') {p : Nat} : ∀ n, n ≤ 16 → ldS σ m p n ≤ ldS σ' e p n := by
  intro n
  induction n with
  | zero => intro _; exact Int.le_refl _
  | succ n ih =>
    intro hn
    have i1 := ih (by omega)
    have g := GI_11 hG n
    simp only [ldS]
    rcases Classical.em (pl σ n m ∧ σ 10 n = p) with z | z
    · obtain ⟨a, _, b, d, _⟩ := h n (by omega) z.1
      rw [ic_t z, ic_t ⟨a, b.trans z.2⟩, d]
      omega
    · rw [ic_f z]
      rcases Classical.em (pl σ' n e ∧ σ' 10 n = p) with y | y
      · rw [ic_t y]; omega
      · rw [ic_f y]; omega
theorem ns_mono (h : Mo σ m σ' e) (hG : GI σ') {w : Int} {hs : Nat} : ∀ n, n ≤ 16 → nsS σ m w hs n ≤ nsS σ' e w hs n := by
  intro n
  induction n with
  | zero => intro _; exact Int.le_refl _
  | succ n ih =>
    intro hn
    have i1 := ih (by omega)
    have g : 0 ≤ nz σ' n hs w := by unfold nz; omega
    simp only [nsS]
    rcases Classical.em (pl σ n m) with z | z
    · obtain ⟨a, b, _, _, d, _⟩ := h n (by omega) z
      have e1 : nz σ' n hs w = nz σ n hs w := by unfold nz; rw [b, d]
      rw [ic_t z, ic_t a, e1]
      omega
    · rw [ic_f z]
      rcases Classical.em (pl σ' n e) with y | y
      · rw [ic_t y]; omega
      · rw [ic_f y]; omega
theorem bad2_mono (h : Mo σ m σ' e) (hG : GI σ') (hs : stN σ' e (σ' 0 0).toNat ≤ stN σ m (σ 0 0).toNat) (hb : bad2 σ m) : bad2 σ' e := by
  obtain ⟨p, hp, q⟩ := hb
  have := ld_mono h hG (p := p) 16 (Nat.le_refl _)
  exact ⟨p, hp, by omega⟩
theorem bad3_mono (h : Mo σ m σ' e) (hG : GI σ) (hG' : GI σ') (hb : bad3 σ m) : bad3 σ' e := by
  have e1 : ∀ k, (k < 16 ∧ sp σ m k) → (k < 16 ∧ sp σ' e k) ∧ σ' 13 k = σ 13 k := fun k q => by
    obtain ⟨a, _, _, _, _, d⟩ := h k q.1 q.2.1
    exact ⟨⟨q.1, a, by rw [d]; exact q.2.2⟩, d⟩
  rw [bad3_iff hG] at hb
  rw [bad3_iff hG']
  rcases hb with ⟨j, k, q1, q2, q3, q4, q5⟩ | ⟨a, b, c, q1, q2, q3, q4, q5⟩
  · obtain ⟨f1, d1⟩ := e1 j q1
    obtain ⟨f2, d2⟩ := e1 k q2
    exact Or.inl ⟨j, k, f1, f2, q3, by omega, by omega⟩
  · obtain ⟨f1, d1⟩ := e1 a q1
    obtain ⟨f2, d2⟩ := e1 b q2
    obtain ⟨f3, d3⟩ := e1 c q3
    exact Or.inr ⟨a, b, c, f1, f2, f3, by omega, by omega⟩
theorem bad4_mono (h : Mo σ m σ' e) (hG : GI σ') (hw : wd σ' e = wd σ m) (hb3 : ∀ hs, hs < 3 → σ' 3 hs - ev e ≤ σ 3 hs - ev m) (hb : bad4 σ m) : bad4 σ' e := by
  obtain ⟨hs, hp, q⟩ := hb
  have := ns_mono h hG (w := wd σ m) (hs := hs) 16 (Nat.le_refl _)
  have := hb3 hs hp
  exact ⟨hs, hp, by rw [hw]; omega⟩
theorem stN_mono {a b : Int} (h : a ≤ b) : ∀ n, stN σ a n ≤ stN σ b n := by
  intro n
  induction n with
  | zero => exact Int.le_refl _
  | succ n ih =>
    simp only [stN]
    have : (if σ 1 n ≤ a then (1 : Int) else 0) ≤ if σ 1 n ≤ b then 1 else 0 := by
      split <;> split <;> omega
    omega
theorem pt2_iff : pt σ m = 2 ↔ bad2 σ m := by
  unfold pt
  rcases Classical.em (bad2 σ m) with h | h
  · rw [ie_t h]; exact ⟨fun _ => h, fun _ => rfl⟩
  · rw [ie_f h]
    refine ⟨fun q => ?_, fun q => absurd q h⟩
    rcases Classical.em (bad3 σ m) with h3 | h3
    · rw [ie_t h3] at q; omega
    · rw [ie_f h3] at q
      rcases Classical.em (bad4 σ m) with h4 | h4
      · rw [ie_t h4] at q; omega
      · rw [ie_f h4] at q; omega
theorem pt3_iff : pt σ m = 3 ↔ ¬ bad2 σ m ∧ bad3 σ m := by
  unfold pt
  rcases Classical.em (bad2 σ m) with h | h
  · rw [ie_t h]; exact ⟨fun q => by omega, fun q => absurd h q.1⟩
  · rw [ie_f h]
    rcases Classical.em (bad3 σ m) with h3 | h3
    · rw [ie_t h3]; exact ⟨fun _ => ⟨h, h3⟩, fun _ => rfl⟩
    · rw [ie_f h3]
      refine ⟨fun q => ?_, fun q => absurd q.2 h3⟩
      rcases Classical.em (bad4 σ m) with h4 | h4
      · rw [ie_t h4] at q; omega
      · rw [ie_f h4] at q; omega
theorem pt0_iff : pt σ m = 0 ↔ ¬ bad2 σ m ∧ ¬ bad3 σ m ∧ ¬ bad4 σ m := by
  unfold pt
  rcases Classical.em (bad2 σ m) with h | h
  · rw [ie_t h]; exact ⟨fun q => by omega, fun q => absurd h q.1⟩
  · rw [ie_f h]
    rcases Classical.em (bad3 σ m) with h3 | h3
    · rw [ie_t h3]; exact ⟨fun q => by omega, fun q => absurd h3 q.2.1⟩
    · rw [ie_f h3]
      rcases Classical.em (bad4 σ m) with h4 | h4
      · rw [ie_t h4]; exact ⟨fun q => by omega, fun q => absurd h4 q.2.2⟩
      · rw [ie_f h4]; exact ⟨fun _ => ⟨h, h3, h4⟩, fun _ => rfl⟩
theorem pt4_iff : pt σ m = 4 ↔ ¬ bad2 σ m ∧ ¬ bad3 σ m ∧ bad4 σ m := by
  have h2 := @pt2_iff σ m
  have h3 := @pt3_iff σ m
  have h0 := @pt0_iff σ m
  have hr := @pt_rg σ m
  have h1 := @pt_1 σ m
  constructor
  · intro q
    have a : ¬ bad2 σ m := fun z => by have := h2.mpr z; omega
    have b : ¬ bad3 σ m := fun z => by have := h3.mpr ⟨a, z⟩; omega
    refine ⟨a, b, Classical.byContradiction fun z => ?_⟩
    have := h0.mpr ⟨a, b, z⟩
    omega
  · rintro ⟨a, b, d⟩
    have n2 : pt σ m ≠ 2 := fun z => a (h2.mp z)
    have n3 : pt σ m ≠ 3 := fun z => b (h3.mp z).2
    have n0 : pt σ m ≠ 0 := fun z => (h0.mp z).2.2 d
    omega
/-- nothing is broken at e in the larger plan: nothing is broken at m in the smaller one -/
theorem pt_mono0 (h : Mo σ m σ' e) (hG : GI σ) (hG' : GI σ') (hs : stN σ' e (σ' 0 0).toNat ≤ stN σ m (σ 0 0).toNat) (hw : wd σ' e = wd σ m) (hb3 : ∀ hs, hs < 3 → σ' 3 hs - ev e ≤ σ 3 hs - ev m) (h0 : pt σ' e = 0) : pt σ m = 0 := by
  obtain ⟨a, b, d⟩ := pt0_iff.mp h0
  exact pt0_iff.mpr ⟨fun q => a (bad2_mono h hG' hs q), fun q => b (bad3_mono h hG hG' q), fun q => d (bad4_mono h hG' hw hb3 q)⟩
theorem st_le {f : Int} (hf : 2 ≤ f ∧ f ≤ 5) : (s3 τ mi (s2 τ mi (s1 τ mi f)) ≤ 2 ↔ f ≤ 2 ∨ ¬ fed τ mi) ∧ (s3 τ mi (s2 τ mi (s1 τ mi f)) ≤ 3 ↔ f ≤ 3 ∨ ¬ fed τ mi ∨ ¬ clr τ mi) ∧ (s3 τ mi (s2 τ mi (s1 τ mi f)) ≤ 4 ↔ f ≤ 4 ∨ ¬ fed τ mi ∨ ¬ clr τ mi ∨ ¬ quiet τ mi) := by
  rcases (show f = 2 ∨ f = 3 ∨ f = 4 ∨ f = 5 by omega) with rfl | rfl | rfl | rfl <;>
  rcases Classical.em (fed τ mi) with h1 | h1 <;> rcases Classical.em (clr τ mi) with h2 | h2 <;> rcases Classical.em (quiet τ mi) with h3 | h3 <;>
  simp [s1, s2, s3, ie, h1, h2, h3]
theorem wF_le : ∀ n, (wF τ n ≤ 2 ↔ ∃ i, i < n ∧ vld τ i ∧ ¬ fed τ (mb τ i)) ∧ (wF τ n ≤ 3 ↔ ∃ i, i < n ∧ vld τ i ∧ (¬ fed τ (mb τ i) ∨ ¬ clr τ (mb τ i))) ∧ (wF τ n ≤ 4 ↔ ∃ i, i < n ∧ vld τ i ∧ (¬ fed τ (mb τ i) ∨ ¬ clr τ (mb τ i) ∨ ¬ quiet τ (mb τ i))) := by
  have key : ∀ {n : Nat} {P : Nat → Prop} {x y b : Int}, (x ≤ b ↔ ∃ i, i < n ∧ P i) → (y ≤ b ↔ x ≤ b ∨ P n) → (y ≤ b ↔ ∃ i, i < n + 1 ∧ P i) := by
    intro n P x y b h1 h2
    rw [h2, h1]
    constructor
    · rintro (⟨i, a, q⟩ | q)
      · exact ⟨i, by omega, q⟩
      · exact ⟨n, by omega, q⟩
    · rintro ⟨i, a, q⟩
      rcases Nat.lt_or_ge i n with w | w
      · exact Or.inl ⟨i, w, q⟩
      · rw [show i = n by omega] at q; exact Or.inr q
  intro n
  induction n with
  | zero =>
    refine ⟨⟨fun q => ?_, ?_⟩, ⟨fun q => ?_, ?_⟩, ⟨fun q => ?_, ?_⟩⟩ <;> simp [wF] at *
  | succ n ih =>
    obtain ⟨i2, i3, i4⟩ := ih
    simp only [wF]
    rcases Classical.em (vld τ n) with z | z
    · rw [ie_t z]
      obtain ⟨t2, t3, t4⟩ := st_le (τ := τ) (mi := mb τ n) (f := wF τ n) (wF_rg n)
      refine ⟨key i2 ?_, key i3 ?_, key i4 ?_⟩
      · rw [t2]; exact or_congr Iff.rfl ⟨fun q => ⟨z, q⟩, fun q => q.2⟩
      · rw [t3]; exact or_congr Iff.rfl ⟨fun q => ⟨z, q⟩, fun q => q.2⟩
      · rw [t4]; exact or_congr Iff.rfl ⟨fun q => ⟨z, q⟩, fun q => q.2⟩
    · rw [ie_f z]
      refine ⟨key i2 ?_, key i3 ?_, key i4 ?_⟩ <;> exact ⟨Or.inl, fun q => q.elim id fun y => absurd y.1 z⟩
/-- a minute's trouble shows at an hour or at a start -/
theorem ev_ex (h : Rel σ τ) (hm : 0 ≤ m ∧ m < 1000) : ∃ i, i < 34 ∧ vld τ i ∧ 0 ≤ mb τ i ∧ mb τ i ≤ m ∧ mb τ i / 60 = m / 60 ∧ ∀ k, k < 16 → pl σ k m → pl σ k (mb τ i) := by
  have e0 : mb τ (m / 60).toNat = 60 * (m / 60) := by
    unfold mb
    rw [if_pos (by omega)]
    omega
  obtain ⟨i, h1, ⟨h2, h3⟩, h4⟩ := mx (P := fun i => vld τ i ∧ mb τ i ≤ m) (f := mb τ) 34 (m / 60).toNat (by omega) ⟨Or.inl (by omega), by omega⟩
  have h5 := h4 (m / 60).toNat (by omega) ⟨Or.inl (by omega), by omega⟩
  refine ⟨i, h1, h2, by omega, h3, by omega, fun k hk hp => ?_⟩
  obtain ⟨a, b, d⟩ := (pl_rel h hk).mp hp
  have e1 : mb τ (k + 17) = τ 8 k := by
    unfold mb
    rw [if_neg (by omega)]
    rfl
  have h6 := h4 (k + 17) (by omega) ⟨Or.inr (by show τ 14 (k + 17 - 17) ≠ 0; exact a), by omega⟩
  exact (pl_rel h hk).mpr ⟨a, by omega, by omega⟩
theorem mb_rg (h : Rel σ τ) (hG : GI σ) {i : Nat} (hi : i < 34) (hv : vld τ i) : 0 ≤ mb τ i ∧ mb τ i < 1000 := by
  unfold mb
  split
  · omega
  · rename_i q
    rcases hv with hv | hv
    · omega
    · have hk : i - 17 < 16 := by
        rcases Nat.lt_or_ge (i - 17) 16 with w | w
        · exact w
        · rw [show i - 17 = 16 by omega] at hv; exact absurd (R_off h) hv
      rw [← R_8 h hk (by rw [R_14 h hk]; exact hv)]
      have := GI_8 hG (i - 17)
      omega
/-- the class's word for what is wrong with a plan -/
noncomputable def wS (σ : Nat → Nat → Int) : Int := ie (allfit σ) (bw σ 0 1000) 1
theorem wrg_rel (h : Rel σ τ) (hG : GI σ) (hL : Len σ) : wrg τ = wS σ := by
  unfold wrg wS
  rcases Classical.em (allfit σ) with z | z
  · rw [ie_t z, ie_t ((placed_rel h hG hL).mpr z)]
    obtain ⟨w2, w3, w4⟩ := wF_le (τ := τ) 34
    have wr := wF_rg (τ := τ) 34
    have lift : ∀ {m : Int}, 0 ≤ m → m < 1000 → ∃ i, i < 34 ∧ vld τ i ∧ (bad2 σ m → ¬ fed τ (mb τ i)) ∧ (bad3 σ m → ¬ clr τ (mb τ i)) ∧ (bad4 σ m → ¬ quiet τ (mb τ i)) := by
      intro m hm0 hm1
      obtain ⟨i, h1, h2, h3, h4, h5, h6⟩ := ev_ex h ⟨hm0, hm1⟩
      have hM : Mo σ m σ (mb τ i) := fun k hk hp => ⟨h6 k hk hp, rfl, rfl, rfl, rfl, rfl⟩
      refine ⟨i, h1, h2, fun q y => ?_, fun q y => ?_, fun q y => ?_⟩
      · exact (fed_rel h).mp y (bad2_mono hM hG (stN_mono h4 _) q)
      · exact (clr_rel h hG).mp y (bad3_mono hM hG hG q)
      · refine (quiet_rel h).mp y (bad4_mono hM hG ?_ (fun hs _ => ?_) q)
        · unfold wd; rw [h5]
        · unfold ev; split <;> split <;> omega
    have back : ∀ {i : Nat}, i < 34 → vld τ i → (¬ fed τ (mb τ i) → bad2 σ (mb τ i)) ∧ (¬ clr τ (mb τ i) → bad3 σ (mb τ i)) ∧ (¬ quiet τ (mb τ i) → bad4 σ (mb τ i)) := by
      intro i _ _
      exact ⟨fun q => Classical.byContradiction fun y => q ((fed_rel h).mpr y), fun q => Classical.byContradiction fun y => q ((clr_rel h hG).mpr y), fun q => Classical.byContradiction fun y => q ((quiet_rel h).mpr y)⟩
    unfold bw
    rcases Classical.em (∃ m, 0 ≤ m ∧ m < 1000 ∧ pt σ m = 2) with x2 | x2
    · rw [ie_t x2]
      obtain ⟨m, a, b, c⟩ := x2
      obtain ⟨i, h1, h2, h3, _⟩ := lift a b
      have := w2.mpr ⟨i, h1, h2, h3 (pt2_iff.mp c)⟩
      omega
    · rw [ie_f x2]
      have n2 : ¬ wF τ 34 ≤ 2 := fun q => by
        obtain ⟨i, h1, h2, h3⟩ := w2.mp q
        have := mb_rg h hG h1 h2
        exact x2 ⟨mb τ i, this.1, this.2, pt2_iff.mpr ((back h1 h2).1 h3)⟩
      rcases Classical.em (∃ m, 0 ≤ m ∧ m < 1000 ∧ pt σ m = 3) with x3 | x3
      · rw [ie_t x3]
        obtain ⟨m, a, b, c⟩ := x3
        obtain ⟨i, h1, h2, _, h3, _⟩ := lift a b
        have := w3.mpr ⟨i, h1, h2, Or.inr (h3 (pt3_iff.mp c).2)⟩
        omega
      · rw [ie_f x3]
        have nb2 : ∀ m, 0 ≤ m → m < 1000 → ¬ bad2 σ m := fun m a b q => x2 ⟨m, a, b, pt2_iff.mpr q⟩
        have nb3 : ∀ m, 0 ≤ m → m < 1000 → ¬ bad3 σ m := fun m a b q => x3 ⟨m, a, b, pt3_iff.mpr ⟨nb2 m a b, q⟩⟩
        have n3 : ¬ wF τ 34 ≤ 3 := fun q => by
          obtain ⟨i, h1, h2, h3⟩ := w3.mp q
          have r := mb_rg h hG h1 h2
          rcases h3 with h3 | h3
          · exact nb2 _ r.1 r.2 ((back h1 h2).1 h3)
          · exact nb3 _ r.1 r.2 ((back h1 h2).2.1 h3)
        rcases Classical.em (∃ m, 0 ≤ m ∧ m < 1000 ∧ pt σ m = 4) with x4 | x4
        · rw [ie_t x4]
          obtain ⟨m, a, b, c⟩ := x4
          obtain ⟨i, h1, h2, _, _, h3⟩ := lift a b
          have := w4.mpr ⟨i, h1, h2, Or.inr (Or.inr (h3 (pt4_iff.mp c).2.2))⟩
          omega
        · rw [ie_f x4]
          have n4 : ¬ wF τ 34 ≤ 4 := fun q => by
            obtain ⟨i, h1, h2, h3⟩ := w4.mp q
            have r := mb_rg h hG h1 h2
            rcases h3 with h3 | h3 | h3
            · exact nb2 _ r.1 r.2 ((back h1 h2).1 h3)
            · exact nb3 _ r.1 r.2 ((back h1 h2).2.1 h3)
            · exact x4 ⟨_, r.1, r.2, pt4_iff.mpr ⟨nb2 _ r.1 r.2, nb3 _ r.1 r.2, (back h1 h2).2.2 h3⟩⟩
          omega
  · rw [ie_f z, ie_f (fun q => z ((placed_rel h hG hL).mp q))]
end E
