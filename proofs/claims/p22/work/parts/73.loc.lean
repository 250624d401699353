/-! what a change of one act, one bound, one wind can break -/
def Fine (σ : Nat → Nat → Int) : Prop := allfit σ ∧ ∀ m, 0 ≤ m → m < 1000 → pt σ m = 0
/-- but for the act k the two plans are alike -/
def Oth (σ σ1 : Nat → Nat → Int) (k : Nat) : Prop := (∀ r, 1 ≤ r → r ≤ 4 → σ1 r = σ r) ∧ σ1 0 0 = σ 0 0 ∧ (∀ r, 16 ≤ r → r ≤ 18 → σ1 r = σ r) ∧ ∀ j, j < 16 → j ≠ k → ∀ r, 7 ≤ r → r ≤ 14 → σ1 r j = σ r j
section L
variable {σ σ1 τ β : Nat → Nat → Int} {m : Int} {k : Nat}
theorem bw_0 {a b : Int} : bw σ a b = 0 ↔ ∀ m, a ≤ m → m < b → pt σ m = 0 := by
  unfold bw
  rcases Classical.em (∃ m, a ≤ m ∧ m < b ∧ pt σ m = 2) with x2 | x2
  · rw [ie_t x2]
    obtain ⟨m, q1, q2, q3⟩ := x2
    exact ⟨fun q => by omega, fun q => by have := q m q1 q2; omega⟩
  · rw [ie_f x2]
    rcases Classical.em (∃ m, a ≤ m ∧ m < b ∧ pt σ m = 3) with x3 | x3
    · rw [ie_t x3]
      obtain ⟨m, q1, q2, q3⟩ := x3
      exact ⟨fun q => by omega, fun q => by have := q m q1 q2; omega⟩
    · rw [ie_f x3]
      rcases Classical.em (∃ m, a ≤ m ∧ m < b ∧ pt σ m = 4) with x4 | x4
      · rw [ie_t x4]
        obtain ⟨m, q1, q2, q3⟩ := x4
        exact ⟨fun q => by omega, fun q => by have := q m q1 q2; omega⟩
      · rw [ie_f x4]
        refine ⟨fun _ m q1 q2 => ?_, fun _ => rfl⟩
        have h2 : pt σ m ≠ 2 := fun z => x2 ⟨m, q1, q2, z⟩
        have h3 : pt σ m ≠ 3 := fun z => x3 ⟨m, q1, q2, z⟩
        have h4 : pt σ m ≠ 4 := fun z => x4 ⟨m, q1, q2, z⟩
        have h1 := @pt_1 σ m
        have hr := @pt_rg σ m
        omega
theorem bw_sub {a b a' b' : Int} (h : ∀ m, a ≤ m → m < b → ¬ (a' ≤ m ∧ m < b') → pt σ m = 0) (ha : a ≤ a') (hb : b' ≤ b) : bw σ a b = bw σ a' b' := by
  have e : ∀ v : Int, v ≠ 0 → ((∃ m, a ≤ m ∧ m < b ∧ pt σ m = v) ↔ ∃ m, a' ≤ m ∧ m < b' ∧ pt σ m = v) := by
    intro v hv
    constructor
    · rintro ⟨m, q1, q2, q3⟩
      rcases Classical.em (a' ≤ m ∧ m < b') with y | y
      · exact ⟨m, y.1, y.2, q3⟩
      · exact absurd (h m q1 q2 y) (by omega)
    · rintro ⟨m, q1, q2, q3⟩
      exact ⟨m, by omega, by omega, q3⟩
  unfold bw
  rw [ie_iff (e 2 (by decide)), ie_iff (e 3 (by decide)), ie_iff (e 4 (by decide))]
theorem wS_0 : wS σ = 0 ↔ Fine σ := by
  unfold wS Fine
  rcases Classical.em (allfit σ) with z | z
  · rw [ie_t z, bw_0]
    exact ⟨fun q => ⟨z, q⟩, fun q => q.2⟩
  · rw [ie_f z]
    exact ⟨fun q => by omega, fun q => absurd q.1 z⟩
theorem fits_congr {k : Nat} (h2 : σ1 2 = σ 2) (h7 : σ1 7 = σ 7) (h8 : σ1 8 = σ 8) (h9 : σ1 9 = σ 9) (h14 : σ1 14 = σ 14) (h16 : σ1 16 = σ 16) (h17 : σ1 17 = σ 17) (h18 : σ1 18 = σ 18) : fits' σ1 k ↔ fits' σ k := by
  unfold fits' hit nr
  rw [h2, h7, h8, h9, h14, h16, h17, h18]
theorem allfit_congr (h2 : σ1 2 = σ 2) (h7 : σ1 7 = σ 7) (h8 : σ1 8 = σ 8) (h9 : σ1 9 = σ 9) (h14 : σ1 14 = σ 14) (h16 : σ1 16 = σ 16) (h17 : σ1 17 = σ 17) (h18 : σ1 18 = σ 18) : allfit σ1 ↔ allfit σ := by
  unfold allfit
  simp only [fits_congr h2 h7 h8 h9 h14 h16 h17 h18, h14]
theorem fits_oth (hO : Oth σ σ1 k) (hk : k < 16) (hF : allfit σ) (hf : fits' σ1 k) : allfit σ1 := by
  obtain ⟨o1, o2, o3, o4⟩ := hO
  intro j hj ho
  rcases Classical.em (j = k) with e | e
  · rw [e]; exact hf
  · have r := o4 j hj e
    obtain ⟨f1, f2, f3⟩ := hF j hj (by rw [← r 14 (by decide) (by decide)]; exact ho)
    refine ⟨?_, ?_, ?_⟩
    · rw [r 8 (by decide) (by decide), r 9 (by decide) (by decide)]; exact f1
    · intro s hs hh
      apply f2 s hs
      unfold hit at hh ⊢
      rw [o3 16 (by decide) (by decide), o3 17 (by decide) (by decide), o3 18 (by decide) (by decide), r 8 (by decide) (by decide), r 9 (by decide) (by decide), r 7 (by decide) (by decide)] at hh
      exact hh
    · rintro i hi ⟨g1, g2, g3, g4⟩
      rcases Classical.em (i = k) with e2 | e2
      · subst e2
        apply hf.2.2 j hj
        exact ⟨e, ho, g3.symm, by rw [g3]; exact nr_symm.mp g4⟩
      · have r2 := o4 i hi e2
        apply f3 i hi
        unfold nr at g4 ⊢
        rw [o1 2 (by decide) (by decide), r 8 (by decide) (by decide), r 9 (by decide) (by decide), r 7 (by decide) (by decide), r2 8 (by decide) (by decide), r2 9 (by decide) (by decide)] at g4
        rw [r2 7 (by decide) (by decide), r 7 (by decide) (by decide)] at g3
        rw [r2 14 (by decide) (by decide)] at g2
        exact ⟨g1, g2, g3, g4⟩
theorem ev_le : ev m ≤ ev m := Int.le_refl _
/-- where the act doesn't play, nothing is broken -/
theorem pt_oth (hO : Oth σ σ1 k) (hG : GI σ) (hG1 : GI σ1) (hn : ¬ pl σ1 k m) (h0 : pt σ m = 0) : pt σ1 m = 0 := by
  obtain ⟨o1, o2, o3, o4⟩ := hO
  refine pt_mono0 (σ := σ1) (σ' := σ) (m := m) (e := m) (fun j hj hp => ?_) hG1 hG ?_ ?_ (fun hs _ => ?_) h0
  · have e : j ≠ k := fun z => hn (z ▸ hp)
    have r := o4 j hj e
    refine ⟨?_, (r 7 (by decide) (by decide)).symm, (r 10 (by decide) (by decide)).symm, (r 11 (by decide) (by decide)).symm, (r 12 (by decide) (by decide)).symm, (r 13 (by decide) (by decide)).symm⟩
    unfold pl at hp ⊢
    rw [r 14 (by decide) (by decide), r 8 (by decide) (by decide), r 9 (by decide) (by decide)] at hp
    exact hp
  · have : ∀ n, stN σ1 m n = stN σ m n := fun n => by
      induction n with
      | zero => rfl
      | succ n ih => simp only [stN]; rw [ih, o1 1 (by decide) (by decide)]
    rw [this, o2]
    exact Int.le_refl _
  · unfold wd; rw [o1 4 (by decide) (by decide)]
  · rw [o1 3 (by decide) (by decide)]
    exact Int.le_refl _
theorem bby_oth (hO : Oth σ σ1 k) (hk : k < 16) (hG : GI σ) (hG1 : GI σ1) (ho : σ1 14 k ≠ 0) (hF : Fine σ) : wS σ1 = bby σ1 k := by
  unfold wS bby
  rcases Classical.em (fits' σ1 k) with z | z
  · rw [ie_t z, ie_t (fits_oth hO hk hF.1 z)]
    have g := GI_8 hG1 k
    refine bw_sub (fun m h1 h2 h3 => pt_oth hO hG hG1 (fun q => h3 ⟨q.2.1, q.2.2⟩) (hF.2 m h1 h2)) (by omega) z.1
  · rw [ie_f z, ie_f (fun q => z (q k hk ho))]
theorem Oth.refl {k : Nat} : Oth σ σ k := ⟨fun _ _ _ => rfl, rfl, fun _ _ _ => rfl, fun _ _ _ _ _ _ => rfl⟩
theorem Oth.up {k r : Nat} {v : Int} (h : Oth σ σ1 k) (hr : 7 ≤ r ∧ r ≤ 15) : Oth σ (u2 σ1 r k v) k :=
  ⟨fun r' a b => by rw [u2_row (by omega)]; exact h.1 r' a b, by rw [u2_row (by omega)]; exact h.2.1, fun r' a b => by rw [u2_row (by omega)]; exact h.2.2.1 r' a b, fun j hj hn r' a b => by
    rcases Classical.em (r' = r) with e | e
    · rw [e, u2_ne hn]; rw [e] at a b; exact h.2.2.2 j hj hn r a b
    · rw [u2_row e]; exact h.2.2.2 j hj hn r' a b⟩
/-- the change-over of a stage -/
theorem sc_rel {sg mi : Int} (hF : Fine σ) (hG : GI σ) (hsg : 0 ≤ sg ∧ sg ≤ 2) (hmi : 0 ≤ mi ∧ mi ≤ 60) : wS (u2 σ 2 sg.toNat mi) = 0 ↔ stFine (u2 σ 2 sg.toNat mi) sg := by
  have e : ∀ r, r ≠ 2 → u2 σ 2 sg.toNat mi r = σ r := fun r h => u2_row h
  have hG1 : GI (u2 σ 2 sg.toNat mi) := GI_u2 hG hmi
  rw [wS_0]
  constructor
  · intro q k hk ho _
    exact q.1 k hk ho
  · intro q
    refine ⟨fun k hk ho => ?_, fun m h1 h2 => ?_⟩
    · rcases Classical.em (u2 σ 2 sg.toNat mi 7 k = sg) with y | y
      · exact q k hk ho y
      · rw [e 14 (by decide)] at ho
        rw [e 7 (by decide)] at y
        obtain ⟨f1, f2, f3⟩ := hF.1 k hk ho
        have g := GI_7 hG k
        refine ⟨by rw [e 8 (by decide), e 9 (by decide)]; exact f1, fun s hs hh => f2 s hs ?_, fun j hj hh => f3 j hj ?_⟩
        · unfold hit at hh ⊢
          rw [e 16 (by decide), e 7 (by decide), e 8 (by decide), e 18 (by decide), e 17 (by decide), e 9 (by decide)] at hh
          exact hh
        · unfold nr at hh ⊢
          rw [e 14 (by decide), e 7 (by decide), e 8 (by decide), e 9 (by decide), u2_ne (by omega)] at hh
          exact hh
    · refine pt_mono0 (σ' := σ) (e := m) (fun j hj hp => ?_) hG1 hG ?_ ?_ (fun hs _ => ?_) (hF.2 m h1 h2)
      · rw [e 7 (by decide), e 10 (by decide), e 11 (by decide), e 12 (by decide), e 13 (by decide)]
        unfold pl at hp ⊢
        rw [e 14 (by decide), e 8 (by decide), e 9 (by decide)] at hp
        exact ⟨hp, rfl, rfl, rfl, rfl, rfl⟩
      · have : ∀ n, stN (u2 σ 2 sg.toNat mi) m n = stN σ m n := fun n => by
          induction n with
          | zero => rfl
          | succ n ih => simp only [stN]; rw [ih, e 1 (by decide)]
        rw [this, e 0 (by decide)]
        exact Int.le_refl _
      · unfold wd; rw [e 4 (by decide)]
      · rw [e 3 (by decide)]; exact Int.le_refl _
/-- the bound of a house -/
theorem sb_rel {hs bd : Int} (hF : Fine σ) : wS (u2 σ 3 hs.toNat bd) = 0 ↔ bw (u2 σ 3 hs.toNat bd) 0 1000 = 0 := by
  have e : ∀ r, r ≠ 3 → u2 σ 3 hs.toNat bd r = σ r := fun r h => u2_row h
  have : allfit (u2 σ 3 hs.toNat bd) := (allfit_congr (e 2 (by decide)) (e 7 (by decide)) (e 8 (by decide)) (e 9 (by decide)) (e 14 (by decide)) (e 16 (by decide)) (e 17 (by decide)) (e 18 (by decide))).mpr hF.1
  unfold wS
  rw [ie_t this]
/-- the wind of an hour -/
theorem sw_rel {hr wn : Int} (hF : Fine σ) (hG : GI σ) (hhr : 0 ≤ hr ∧ hr ≤ 16) (hwn : -10 ≤ wn ∧ wn ≤ 10) : wS (u2 σ 4 hr.toNat wn) = 0 ↔ bw (u2 σ 4 hr.toNat wn) (hr * 60) (min (hr * 60 + 60) 1000) = 0 := by
  have e : ∀ r, r ≠ 4 → u2 σ 4 hr.toNat wn r = σ r := fun r h => u2_row h
  have hG1 : GI (u2 σ 4 hr.toNat wn) := GI_u4 hG hwn
  have : allfit (u2 σ 4 hr.toNat wn) := (allfit_congr (e 2 (by decide)) (e 7 (by decide)) (e 8 (by decide)) (e 9 (by decide)) (e 14 (by decide)) (e 16 (by decide)) (e 17 (by decide)) (e 18 (by decide))).mpr hF.1
  unfold wS
  rw [ie_t this, bw_sub (a' := hr * 60) (b' := min (hr * 60 + 60) 1000) (fun m h1 h2 h3 => ?_) (by omega) (by omega)]
  refine pt_mono0 (σ' := σ) (e := m) (fun j hj hp => ?_) hG1 hG ?_ ?_ (fun hs _ => ?_) (hF.2 m h1 h2)
  · rw [e 7 (by decide), e 10 (by decide), e 11 (by decide), e 12 (by decide), e 13 (by decide)]
    unfold pl at hp ⊢
    rw [e 14 (by decide), e 8 (by decide), e 9 (by decide)] at hp
    exact ⟨hp, rfl, rfl, rfl, rfl, rfl⟩
  · have : ∀ n, stN (u2 σ 4 hr.toNat wn) m n = stN σ m n := fun n => by
      induction n with
      | zero => rfl
      | succ n ih => simp only [stN]; rw [ih, e 1 (by decide)]
    rw [this, e 0 (by decide)]
    exact Int.le_refl _
  · unfold wd
    rw [u2_ne (by omega)]
  · rw [e 3 (by decide)]; exact Int.le_refl _
/-- one set more -/
theorem ss_fine {mi : Int} (hF : Fine σ) (hG : GI σ) (hG1 : GI (u2 (u2 σ 1 (σ 0 0).toNat mi) 0 0 (σ 0 0 + 1))) : Fine (u2 (u2 σ 1 (σ 0 0).toNat mi) 0 0 (σ 0 0 + 1)) := by
  have e : ∀ r, r ≠ 1 → r ≠ 0 → u2 (u2 σ 1 (σ 0 0).toNat mi) 0 0 (σ 0 0 + 1) r = σ r := fun r h h0 => by rw [u2_row h0, u2_row h]
  have g := GI_00 hG
  refine ⟨(allfit_congr (e 2 (by decide) (by decide)) (e 7 (by decide) (by decide)) (e 8 (by decide) (by decide)) (e 9 (by decide) (by decide)) (e 14 (by decide) (by decide)) (e 16 (by decide) (by decide)) (e 17 (by decide) (by decide)) (e 18 (by decide) (by decide))).mpr hF.1, fun m h1 h2 => ?_⟩
  have a1 : ∀ n, n ≤ (σ 0 0).toNat → stN (u2 (u2 σ 1 (σ 0 0).toNat mi) 0 0 (σ 0 0 + 1)) m n = stN σ m n := fun n => by
    induction n with
    | zero => intro _; rfl
    | succ n ih =>
      intro hn
      simp only [stN]
      rw [ih (by omega), u2_row (by decide), u2_ne (by omega)]
  refine pt_mono0 (σ' := σ) (e := m) (fun j hj hp => ?_) hG1 hG ?_ ?_ (fun hs _ => ?_) (hF.2 m h1 h2)
  · rw [e 7 (by decide) (by decide), e 10 (by decide) (by decide), e 11 (by decide) (by decide), e 12 (by decide) (by decide), e 13 (by decide) (by decide)]
    unfold pl at hp ⊢
    rw [e 14 (by decide) (by decide), e 8 (by decide) (by decide), e 9 (by decide) (by decide)] at hp
    exact ⟨hp, rfl, rfl, rfl, rfl, rfl⟩
  · rw [u2_at, show (σ 0 0 + 1).toNat = (σ 0 0).toNat + 1 by omega]
    simp only [stN]
    rw [a1 _ (Nat.le_refl _)]
    split <;> omega
  · unfold wd; rw [e 4 (by decide) (by decide)]
  · rw [e 3 (by decide) (by decide)]; exact Int.le_refl _
/-- an act less -/
theorem off_fine (hO : Oth σ σ1 k) (hF : Fine σ) (hG : GI σ) (hG1 : GI σ1) (h0 : σ1 14 k = 0) : Fine σ1 := by
  refine ⟨fun j hj ho => ?_, fun m h1 h2 => pt_oth hO hG hG1 (fun q => q.1 h0) (hF.2 m h1 h2)⟩
  obtain ⟨o1, o2, o3, o4⟩ := hO
  have y : j ≠ k := fun z => ho (z ▸ h0)
  have r := o4 j hj y
  obtain ⟨f1, f2, f3⟩ := hF.1 j hj (by rw [← r 14 (by decide) (by decide)]; exact ho)
  refine ⟨by rw [r 8 (by decide) (by decide), r 9 (by decide) (by decide)]; exact f1, fun s hs hh => f2 s hs ?_, fun i hi hh => f3 i hi ?_⟩
  · unfold hit at hh ⊢
    rw [o3 16 (by decide) (by decide), o3 17 (by decide) (by decide), o3 18 (by decide) (by decide), r 8 (by decide) (by decide), r 9 (by decide) (by decide), r 7 (by decide) (by decide)] at hh
    exact hh
  · obtain ⟨a, b, c, d⟩ := hh
    have w : i ≠ k := fun z => b (z ▸ h0)
    have r2 := o4 i hi w
    unfold nr at d ⊢
    rw [o1 2 (by decide) (by decide), r 8 (by decide) (by decide), r 9 (by decide) (by decide), r 7 (by decide) (by decide), r2 8 (by decide) (by decide), r2 9 (by decide) (by decide)] at d
    rw [r2 7 (by decide) (by decide), r 7 (by decide) (by decide)] at c
    rw [r2 14 (by decide) (by decide)] at b
    exact ⟨a, b, c, d⟩
theorem drop_fine (hF : Fine σ) (hG : GI σ) : Fine (u2 σ 14 k 0) := off_fine (Oth.refl.up (by decide)) hF hG (GI_u14 hG (by decide)) u2_at
/-- a plan that is fine is fine minute by minute -/
theorem fineM_of (hF : Fine σ) (hG : GI σ) : fineM σ := by
  refine ⟨fun k hk ho => (hF.1 k hk ho).1, fun m hm => ⟨fun k hk hp => ?_, hF.2 m (by omega) (by omega)⟩⟩
  obtain ⟨f1, f2, f3⟩ := hF.1 k hk hp.1
  obtain ⟨p1, p2, p3⟩ := hp
  have g2 := GI_2 hG (σ 7 k).toNat
  constructor
  · rintro ⟨s, h1, h2, h3, h4⟩
    exact f2 s h1 ⟨h2, by omega, by omega⟩
  · rintro ⟨j, h1, h2, h3, h4, h5, h6⟩
    exact f3 j h1 ⟨h2, h3, h4, by omega, by omega⟩
end L
