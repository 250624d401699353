/-! a storm on both sides -/
theorem u2_comm {σ : Nat → Nat → Int} {r i r' i' : Nat} {v v' : Int} (h : r ≠ r') : u2 (u2 σ r i v) r' i' v' = u2 (u2 σ r' i' v') r i v := by
  funext a b
  unfold u2
  by_cases h1 : a = r' <;> by_cases h2 : a = r <;> by_cases h3 : b = i' <;> by_cases h4 : b = i <;> simp_all
/-- what stands beside one another while the acts that were called off are planned again -/
def SR (σ τ : Nat → Nat → Int) (st la : Int) : Prop :=
  Rel σ τ ∧ GI σ ∧ Fine σ ∧ Len σ ∧ (∀ k, k < 16 → (σ 15 k ≠ 0 ↔ bt st k)) ∧
  (∀ k, k < 16 → σ 15 k ≠ 0 → σ 14 k = 0 ∧ σ 8 k = τ 8 k ∧ la < σ 8 k ∧ 1 ≤ σ 9 k ∧ (k : Int) < σ 0 1) ∧
  ∀ j k, j < 16 → k < 16 → σ 15 j ≠ 0 → σ 15 k ≠ 0 → j ≠ k → σ 8 j ≠ σ 8 k
def Off (σ : Nat → Nat → Int) : Prop := ∀ k : Nat, k < 16 → σ 0 1 ≤ (k : Int) → σ 14 k = 0
section T
variable {σ τ : Nat → Nat → Int}
theorem rp_eq {en : Int} (hen : 0 ≤ en) : ∀ (n : Nat) (σ τ : Nat → Nat → Int) (st la a : Int) (N : Nat) (z0 b b' : Int) (σ' τ' : Nat → Nat → Int), SR σ τ st la → Off σ → RPn en n σ a σ' b → MN τ st la z0 → MRz en N τ st la a z0 τ' b' →
    b = b' ∧ Rel σ' τ' ∧ Fine σ' ∧ Len σ' ∧ (∀ k, k < 16 → σ' 15 k = 0) ∧ Off σ' ∧ σ' 0 = σ 0 ∧ τ' 0 = τ 0 := by
  intro n
  induction n with
  | zero =>
    intro σ τ st la a N z0 b b' σ' τ' hS hOf hr hm hz
    obtain ⟨hR, hG, hF, hL, hw, hq, hd⟩ := hS
    obtain ⟨r1, rfl, rfl⟩ := hr
    have g1 := GI_01 hG
    have hz0 : z0 < 0 := by
      rcases hm with m | ⟨n', m1, m2, m3, _⟩
      · omega
      · rw [← R_01 hR] at m2
        exact absurd (r1 n' (by omega)) ((hw n' (by omega)).mpr m3.1)
    have he : τ' = τ ∧ b' = b := by
      cases N with
      | zero => exact hz.2
      | succ N =>
        rcases hz with z | ⟨n', to, z2, z1, _⟩
        · exact z.2
        · omega
    obtain ⟨rfl, rfl⟩ := he
    exact ⟨rfl, hR, hF, hL, r1, hOf, rfl, rfl⟩
  | succ n ih =>
    intro σ τ st la a N z0 b b' σ' τ' hS hOf hr hm hz
    obtain ⟨hR, hG, hF, hL, hw, hq, hd⟩ := hS
    have g1 := GI_01 hG
    rcases hr with ⟨r1, rfl, rfl⟩ | ⟨k, z, σ1, hk, hf, hr⟩
    · have hz0 : z0 < 0 := by
        rcases hm with m | ⟨n', m1, m2, m3, _⟩
        · omega
        · rw [← R_01 hR] at m2
          exact absurd (r1 n' (by omega)) ((hw n' (by omega)).mpr m3.1)
      have he : τ' = τ ∧ b' = b := by
        cases N with
        | zero => exact hz.2
        | succ N =>
          rcases hz with z | ⟨n', to, z2, z1, _⟩
          · exact z.2
          · omega
      obtain ⟨rfl, rfl⟩ := he
      exact ⟨rfl, hR, hF, hL, r1, hOf, rfl, rfl⟩
    · obtain ⟨hk16, hk15, hk8, hk8'⟩ := hk
      obtain ⟨q1, q2, q3, q4, q5⟩ := hq k hk16 hk15
      -- the reference takes the same act
      have hz0 : z0 = (k : Int) := by
        have hcan : can τ st la k := ⟨(hw k hk16).mp hk15, by rw [← q2]; exact q3⟩
        have e01 := R_01 hR
        rcases hm with ⟨m1, m2⟩ | ⟨n', m1, m2, m3, m4, m5⟩
        · exact absurd hcan (m2 k (by omega))
        · have hn16 : n' < 16 := by omega
          have hn15 := (hw n' hn16).mpr m3.1
          have h1 := m4 k (by omega) hcan
          have h2 := hk8 n' hn16 hn15
          have h3 := (hq n' hn16 hn15).2.1
          rcases Classical.em (n' = k) with e | e
          · rw [m1, e]
          · exact absurd (show σ 8 n' = σ 8 k by omega) (hd n' k hn16 hk16 hn15 hk15 e)
      cases N with
      | zero => have := hz.1; omega
      | succ N =>
        rcases hz with z9 | ⟨n', to, z2, z1, hM, hz⟩
        · have := z9.1; omega
        · have en' : n' = k := by omega
          subst en'
          have hRa : Rel (u2 (u2 σ 15 n' 0) 14 n' 1) (u2 τ 14 n' 1) := rel_14 (rel_15 hR) hk16 (fun _ => by rw [u2_row (by decide)]; exact q2)
          have hGa : GI (u2 (u2 σ 15 n' 0) 14 n' 1) := GI_u14 (GI_u15 hG (by decide)) (by decide)
          have hOa : Oth σ (u2 (u2 σ 15 n' 0) 14 n' 1) n' := (Oth.refl.up (by decide)).up (by decide)
          have hLa : Len (u2 (u2 σ 15 n' 0) 14 n' 1) := len_up (len_up hL (by decide) (fun q => absurd q (by decide))) (by decide) (fun _ _ _ => by rw [u2_row (by decide)]; exact q4)
          obtain ⟨ez, hp⟩ := first_eq hRa hOa hk16 hG hF hGa hLa (by rw [u2_at]; decide) hen hf hM
          obtain ⟨⟨x, hx0, hx9, hx⟩, _⟩ := hf
          -- who waits afterwards
          have hw' : ∀ (σb : Nat → Nat → Int), σb 15 = u2 σ 15 n' 0 15 → ∀ k, k < 16 → (σb 15 k ≠ 0 ↔ bt (cl st n') k) := by
            intro σb hb k hk
            rw [hb, bt_cl (by omega) (by omega)]
            rcases Classical.em (k = n') with e | e
            · rw [e, u2_at]; exact ⟨fun q => absurd rfl q, fun q => absurd rfl q.2⟩
            · rw [u2_ne e, hw k hk]; exact ⟨fun q => ⟨q, e⟩, fun q => q.1⟩
          have hq' : ∀ (σb τb : Nat → Nat → Int), σb 15 = u2 σ 15 n' 0 15 → (∀ j, j ≠ n' → σb 14 j = σ 14 j ∧ σb 8 j = σ 8 j ∧ τb 8 j = τ 8 j) → σb 9 = σ 9 → σb 0 = σ 0 →
              (∀ k, k < 16 → σb 15 k ≠ 0 → σb 14 k = 0 ∧ σb 8 k = τb 8 k ∧ τ 8 n' < σb 8 k ∧ 1 ≤ σb 9 k ∧ (k : Int) < σb 0 1) ∧ ∀ j k, j < 16 → k < 16 → σb 15 j ≠ 0 → σb 15 k ≠ 0 → j ≠ k → σb 8 j ≠ σb 8 k := by
            intro σb τb h15 h8 h9 h0
            have back : ∀ k, σb 15 k ≠ 0 → k ≠ n' ∧ σ 15 k ≠ 0 := by
              intro k q
              rw [h15] at q
              rcases Classical.em (k = n') with e | e
              · rw [e, u2_at] at q; exact absurd rfl q
              · rw [u2_ne e] at q; exact ⟨e, q⟩
            refine ⟨fun k hk q => ?_, fun j k hj hk qj qk hn => ?_⟩
            · obtain ⟨e, qs⟩ := back k q
              obtain ⟨p1, p2, p3, p4, p5⟩ := hq k hk qs
              obtain ⟨s1, s2, s3⟩ := h8 k e
              have y1 := hk8 k hk qs
              have y2 := hd k n' hk hk16 qs hk15 e
              rw [s1, s2, s3, h9, h0]
              exact ⟨p1, p2, by omega, p4, p5⟩
            · obtain ⟨ej, qsj⟩ := back j qj
              obtain ⟨ek, qsk⟩ := back k qk
              rw [(h8 j ej).2.1, (h8 k ek).2.1]
              exact hd j k hj hk qsj qsk hn
          rcases hr with ⟨hz1, hr⟩ | ⟨hz1, hr⟩
          · -- there is no start
            subst ez
            rcases hz with ⟨hz2, _⟩ | ⟨hz2, hm2, hz3⟩
            · omega
            · rw [hx] at hr
              have eτ : u2 (u2 τ 14 n' 0) 8 n' (τ 8 n') = u2 τ 14 n' 0 := by
                have := @u2_self (u2 τ 14 n' 0) 8 n'
                rw [show u2 τ 14 n' 0 8 n' = τ 8 n' by rw [u2_row (by decide)]] at this
                exact this
              have eσ : u2 (u2 (u2 (u2 σ 15 n' 0) 14 n' 1) 8 n' x) 14 n' 0 = u2 (u2 (u2 σ 15 n' 0) 14 n' 0) 8 n' x := by
                rw [u2_comm (by decide), u2_u2]
              rw [eτ] at hm2 hz3
              rw [eσ] at hr
              have hGb : GI (u2 (u2 (u2 σ 15 n' 0) 14 n' 0) 8 n' x) := GI_u8 (GI_u14 (GI_u15 hG (by decide)) (by decide)) ⟨hx0, hx9⟩
              have hOb : Oth σ (u2 (u2 (u2 σ 15 n' 0) 14 n' 0) 8 n' x) n' := ((Oth.refl.up (by decide)).up (by decide)).up (by decide)
              obtain ⟨a1, a2⟩ := hq' (u2 (u2 (u2 σ 15 n' 0) 14 n' 0) 8 n' x) (u2 τ 14 n' 0) (by rw [u2_row (by decide), u2_row (by decide)]) (fun j hj => ⟨by rw [u2_row (by decide), u2_ne hj, u2_row (by decide)], by rw [u2_ne hj, u2_row (by decide), u2_row (by decide)], by rw [u2_row (by decide)]⟩) (by rw [u2_row (by decide), u2_row (by decide), u2_row (by decide)]) (by rw [u2_row (by decide), u2_row (by decide), u2_row (by decide)])
              have hS' : SR (u2 (u2 (u2 σ 15 n' 0) 14 n' 0) 8 n' x) (u2 τ 14 n' 0) (cl st n') (τ 8 n') :=
                ⟨rel_8c (rel_14 (rel_15 hR) hk16 (fun q => absurd rfl q)) (fun _ => u2_at), hGb, off_fine hOb hF hG hGb (by rw [u2_row (by decide), u2_at]), len_up (len_up (len_up hL (by decide) (fun q => absurd q (by decide))) (by decide) (fun _ q => absurd rfl q)) (by decide) (fun q => absurd q (by decide)), hw' _ (by rw [u2_row (by decide), u2_row (by decide)]), a1, a2⟩
              have hOf' : Off (u2 (u2 (u2 σ 15 n' 0) 14 n' 0) 8 n' x) := by
                intro j hj h0
                rw [u2_row (by decide), u2_row (by decide), u2_row (by decide)] at h0
                rw [u2_row (by decide)]
                rcases Classical.em (j = n') with e | e
                · rw [e, u2_at]
                · rw [u2_ne e, u2_row (by decide)]; exact hOf j hj h0
              obtain ⟨c1, c2, c3, c4, c5, c6, c7, c8⟩ := ih _ _ _ _ _ _ _ _ _ _ _ hS' hOf' hr hm2 hz3
              exact ⟨c1, c2, c3, c4, c5, c6, by rw [c7, u2_row (by decide), u2_row (by decide), u2_row (by decide)], by rw [c8, u2_row (by decide)]⟩
          · obtain ⟨p1, p2, p3, p4⟩ := hp hz1
            subst ez
            rcases hz with ⟨hz2, hm2, hz3⟩ | ⟨hz2, _⟩
            · rw [p3] at hr
              have e9 : u2 (u2 σ 15 n' 0) 14 n' 1 9 n' = σ 9 n' := by rw [u2_row (by decide), u2_row (by decide)]
              rw [e9] at p2
              have hGb : GI (u2 (u2 (u2 σ 15 n' 0) 14 n' 1) 8 n' z) := GI_u8 hGa ⟨p1, by omega⟩
              obtain ⟨a1, a2⟩ := hq' (u2 (u2 (u2 σ 15 n' 0) 14 n' 1) 8 n' z) (u2 (u2 τ 14 n' 1) 8 n' z) (by rw [u2_row (by decide), u2_row (by decide)]) (fun j hj => ⟨by rw [u2_row (by decide), u2_ne hj, u2_row (by decide)], by rw [u2_ne hj, u2_row (by decide), u2_row (by decide)], by rw [u2_ne hj, u2_row (by decide)]⟩) (by rw [u2_row (by decide), u2_row (by decide), u2_row (by decide)]) (by rw [u2_row (by decide), u2_row (by decide), u2_row (by decide)])
              have hS' : SR (u2 (u2 (u2 σ 15 n' 0) 14 n' 1) 8 n' z) (u2 (u2 τ 14 n' 1) 8 n' z) (cl st n') (τ 8 n') :=
                ⟨rel_8 hRa, hGb, p4, len_up hLa (by decide) (fun q => absurd q (by decide)), hw' _ (by rw [u2_row (by decide), u2_row (by decide)]), a1, a2⟩
              have hOf' : Off (u2 (u2 (u2 σ 15 n' 0) 14 n' 1) 8 n' z) := by
                intro j hj h0
                rw [u2_row (by decide), u2_row (by decide), u2_row (by decide)] at h0
                rw [u2_row (by decide)]
                rcases Classical.em (j = n') with e | e
                · rw [e] at h0; omega
                · rw [u2_ne e, u2_row (by decide)]; exact hOf j hj h0
              obtain ⟨c1, c2, c3, c4, c5, c6, c7, c8⟩ := ih _ _ _ _ _ _ _ _ _ _ _ hS' hOf' hr hm2 hz3
              exact ⟨c1, c2, c3, c4, c5, c6, by rw [c7, u2_row (by decide), u2_row (by decide), u2_row (by decide)], by rw [c8, u2_row (by decide), u2_row (by decide)]⟩
            · omega
/-- where the storm begins both sides call off the same acts -/
theorem storm_start {sg mi en st : Int} {σ1 τ1 : Nat → Nat → Int} (hR : Rel σ τ) (hG : GI σ) (hF : Fine σ) (hL : Len σ) (hOf : Off σ) (hwt : ∀ k, k < 16 → σ 15 k = 0) (h5 : σ 0 2 ≠ 5) (hsg : 0 ≤ sg ∧ sg ≤ 2)
    (hc : COF (stC σ sg mi en) (σ 0 2).toNat σ1) (hG1 : GI σ1) (m1 : ∀ r, r ≠ 14 → τ1 r = stT τ sg mi en r) (m2 : ∀ k, k < 17 → τ1 14 k = ie (hitM τ sg mi en k ∧ (k : Int) < τ 0 1) 0 (τ 14 k)) (m3 : ∀ k, k < 32 → (bt st k ↔ ((k : Int) < τ 0 1 ∧ hitM τ sg mi en k))) :
    SR σ1 τ1 st (-1) ∧ Off σ1 := by
  have g02 := GI_02 hG
  have e02 := R_02 hR
  have e01 := R_01 hR
  have hn : ((σ 0 2).toNat : Int) = σ 0 2 := by omega
  obtain ⟨c1, c2⟩ := hc
  -- the class's rows
  have s0 : ∀ r, r ≠ 0 → r ≠ 14 → r ≠ 15 → r ≠ 16 → r ≠ 17 → r ≠ 18 → σ1 r = σ r := fun r a0 a14 a15 a16 a17 a18 => by
    rw [c1 r a14 a15]; unfold stC; rw [u2_row a18, u2_row a17, u2_row a16, u2_row a0]
  have s00 : ∀ j, j ≠ 2 → σ1 0 j = σ 0 j := fun j hj => by
    rw [c1 0 (by decide) (by decide)]; unfold stC; rw [u2_row (by decide), u2_row (by decide), u2_row (by decide), u2_ne hj]
  have s02 : σ1 0 2 = σ 0 2 + 1 := by
    rw [c1 0 (by decide) (by decide)]; unfold stC; rw [u2_row (by decide), u2_row (by decide), u2_row (by decide), u2_at]
  have s16 : σ1 16 = u2 σ 16 (σ 0 2).toNat sg 16 := by
    rw [c1 16 (by decide) (by decide)]; unfold stC; rw [u2_row (by decide), u2_row (by decide)]; funext j
    rcases Classical.em (j = (σ 0 2).toNat) with e | e
    · rw [e, u2_at, u2_at]
    · rw [u2_ne e, u2_ne e, u2_row (by decide)]
  have s17 : σ1 17 = u2 σ 17 (σ 0 2).toNat mi 17 := by
    rw [c1 17 (by decide) (by decide)]; unfold stC; rw [u2_row (by decide)]; funext j
    rcases Classical.em (j = (σ 0 2).toNat) with e | e
    · rw [e, u2_at, u2_at]
    · rw [u2_ne e, u2_ne e, u2_ne e, u2_row (by decide)]
  have s18 : σ1 18 = u2 σ 18 (σ 0 2).toNat en 18 := by
    rw [c1 18 (by decide) (by decide)]; unfold stC; funext j
    rcases Classical.em (j = (σ 0 2).toNat) with e | e
    · rw [e, u2_at, u2_at]
    · rw [u2_ne e, u2_ne e, u2_ne e, u2_ne e, u2_row (by decide)]
  -- the reference's rows
  have t0 : ∀ r, r ≠ 0 → r ≠ 14 → r ≠ 16 → r ≠ 17 → r ≠ 18 → τ1 r = τ r := fun r a0 a14 a16 a17 a18 => by
    rw [m1 r a14]; unfold stT; rw [u2_row a0, u2_row a18, u2_row a17, u2_row a16]
  have t00 : ∀ j, j ≠ 2 → τ1 0 j = τ 0 j := fun j hj => by
    rw [m1 0 (by decide)]; unfold stT; rw [u2_ne hj, u2_row (by decide), u2_row (by decide), u2_row (by decide)]
  have t02 : τ1 0 2 = τ 0 2 + 1 := by
    rw [m1 0 (by decide)]; unfold stT; rw [u2_at]
  have t16 : τ1 16 = u2 τ 16 (τ 0 2).toNat sg 16 := by
    rw [m1 16 (by decide)]; unfold stT; rw [u2_row (by decide), u2_row (by decide), u2_row (by decide)]
  have t17 : τ1 17 = u2 τ 17 (τ 0 2).toNat mi 17 := by
    rw [m1 17 (by decide)]; unfold stT; rw [u2_row (by decide), u2_row (by decide)]; funext j
    rcases Classical.em (j = (τ 0 2).toNat) with e | e
    · rw [e, u2_at, u2_at]
    · rw [u2_ne e, u2_ne e, u2_ne e]
  have t18 : τ1 18 = u2 τ 18 (τ 0 2).toNat en 18 := by
    rw [m1 18 (by decide)]; unfold stT; rw [u2_row (by decide)]; funext j
    rcases Classical.em (j = (τ 0 2).toNat) with e | e
    · rw [e, u2_at, u2_at]
    · rw [u2_ne e, u2_ne e, u2_ne e, u2_ne e]
  -- who is hit
  let P : Nat → Prop := fun k => σ 14 k ≠ 0 ∧ sg = σ 7 k ∧ σ 8 k < en ∧ mi < σ 8 k + σ 9 k
  have hP1 : ∀ k, (stC σ sg mi en 14 k ≠ 0 ∧ hit (stC σ sg mi en) (σ 0 2).toNat k) ↔ P k := by
    intro k
    have e : ∀ r, r ≠ 0 → r ≠ 16 → r ≠ 17 → r ≠ 18 → stC σ sg mi en r = σ r := fun r a0 a16 a17 a18 => by
      unfold stC; rw [u2_row a18, u2_row a17, u2_row a16, u2_row a0]
    have e16 : stC σ sg mi en 16 (σ 0 2).toNat = sg := by unfold stC; rw [u2_row (by decide), u2_row (by decide), u2_at]
    have e17 : stC σ sg mi en 17 (σ 0 2).toNat = mi := by unfold stC; rw [u2_row (by decide), u2_at]
    have e18 : stC σ sg mi en 18 (σ 0 2).toNat = en := by unfold stC; rw [u2_at]
    unfold hit
    rw [e 14 (by decide) (by decide) (by decide) (by decide), e 7 (by decide) (by decide) (by decide) (by decide), e 8 (by decide) (by decide) (by decide) (by decide), e 9 (by decide) (by decide) (by decide) (by decide), e16, e17, e18]
  have hP2 : ∀ k, k < 16 → ((hitM τ sg mi en k ∧ (k : Int) < τ 0 1) ↔ P k) := by
    intro k hk
    unfold hitM
    rw [← R_7 hR, ← R_9 hR, ← R_14 hR hk, ← e01]
    constructor
    · rintro ⟨⟨a, b, d, f⟩, _⟩
      rw [← R_8 hR hk a] at d f
      exact ⟨a, b.symm, d, f⟩
    · rintro ⟨a, b, d, f⟩
      rw [← R_8 hR hk a]
      refine ⟨⟨a, b.symm, d, f⟩, Int.not_le.mp fun q => a (hOf k hk q)⟩
  have e14 : ∀ k, k < 16 → σ1 14 k = ie (P k) 0 (σ 14 k) := fun k hk => by
    rw [(c2 k hk).1, ie_iff (hP1 k)]
    unfold stC; rw [u2_row (by decide), u2_row (by decide), u2_row (by decide), u2_row (by decide)]
  have e15 : ∀ k, k < 16 → (σ1 15 k ≠ 0 ↔ P k) := fun k hk => by
    rw [(c2 k hk).2, ie_iff (hP1 k)]
    unfold stC; rw [u2_row (by decide), u2_row (by decide), u2_row (by decide), u2_row (by decide), hwt k hk]
    rcases Classical.em (P k) with y | y
    · rw [ie_t y]; exact ⟨fun _ => y, fun _ => by decide⟩
    · rw [ie_f y]; exact ⟨fun q => absurd rfl q, fun q => absurd q y⟩
  have on1 : ∀ k, k < 16 → σ1 14 k ≠ 0 → σ 14 k ≠ 0 ∧ ¬ P k ∧ σ1 14 k = σ 14 k := fun k hk q => by
    rw [e14 k hk] at q ⊢
    rcases Classical.em (P k) with y | y
    · rw [ie_t y] at q; exact absurd rfl q
    · rw [ie_f y] at q ⊢; exact ⟨q, y, rfl⟩
  have r8 : σ1 8 = σ 8 := s0 8 (by decide) (by decide) (by decide) (by decide) (by decide) (by decide)
  have r9 : σ1 9 = σ 9 := s0 9 (by decide) (by decide) (by decide) (by decide) (by decide) (by decide)
  have r7 : σ1 7 = σ 7 := s0 7 (by decide) (by decide) (by decide) (by decide) (by decide) (by decide)
  have r2 : σ1 2 = σ 2 := s0 2 (by decide) (by decide) (by decide) (by decide) (by decide) (by decide)
  have u8 : τ1 8 = τ 8 := t0 8 (by decide) (by decide) (by decide) (by decide) (by decide)
  have hRel : Rel σ1 τ1 := by
    refine ⟨fun r hr => ?_, fun k hk => ?_, ?_, fun k hk q => ?_, ⟨?_, ?_, ?_⟩, fun s hs => ?_, fun s hs5 hs => ?_⟩
    · rw [s0 r (by omega) (by omega) (by omega) (by omega) (by omega) (by omega), t0 r (by omega) (by omega) (by omega) (by omega) (by omega)]
      exact hR.1 r hr
    · rw [e14 k hk, m2 k (by omega), ie_iff (hP2 k hk), R_14 hR hk]
    · rw [m2 16 (by decide), R_off hR]
      rcases Classical.em (hitM τ sg mi en 16 ∧ ((16 : Nat) : Int) < τ 0 1) with y | y
      · rw [ie_t y]
      · rw [ie_f y]
    · rw [r8, u8]; exact R_8 hR hk (on1 k hk q).1
    · rw [s00 0 (by decide), t00 0 (by decide)]; exact R_00 hR
    · rw [s00 1 (by decide), t00 1 (by decide)]; exact R_01 hR
    · rw [s02, t02, e02]
    · rw [s02] at hs
      rw [s16, s17, s18, t16, t17, t18, ← e02]
      rcases Classical.em (s = (σ 0 2).toNat) with e | e
      · rw [e, u2_at, u2_at, u2_at, u2_at, u2_at, u2_at]; exact ⟨rfl, rfl, rfl⟩
      · rw [u2_ne e, u2_ne e, u2_ne e, u2_ne e, u2_ne e, u2_ne e]
        exact R_st hR (by omega)
    · rw [s02] at hs
      rw [s16, u2_ne (by omega)]
      exact R_no hR hs5 (by omega)
  have hFine : Fine σ1 := by
    refine ⟨fun k hk q => ?_, fun m h1 h2 => ?_⟩
    · obtain ⟨o1, o2, _⟩ := on1 k hk q
      obtain ⟨f1, f2, f3⟩ := hF.1 k hk o1
      refine ⟨by rw [r8, r9]; exact f1, fun s hs hh => ?_, fun j hj hh => ?_⟩
      · unfold hit at hh
        rw [r7, r8, r9, s16, s17, s18] at hh
        rcases Classical.em (s = (σ 0 2).toNat) with e | e
        · rw [e, u2_at, u2_at, u2_at] at hh
          exact o2 ⟨o1, hh.1, hh.2.1, hh.2.2⟩
        · rw [u2_ne e, u2_ne e, u2_ne e] at hh
          exact f2 s hs hh
      · unfold nr at hh
        rw [r7, r8, r9, r2] at hh
        exact f3 j hj ⟨hh.1, (on1 j hj hh.2.1).1, hh.2.2⟩
    · have r1 : σ1 1 = σ 1 := s0 1 (by decide) (by decide) (by decide) (by decide) (by decide) (by decide)
      refine pt_mono0 (σ' := σ) (e := m) (fun k hk q => ?_) hG1 hG ?_ ?_ (fun hs _ => ?_) (hF.2 m h1 h2)
      · obtain ⟨p1, p2, p3⟩ := q
        rw [r8] at p2 p3
        rw [r9] at p3
        exact ⟨⟨(on1 k hk p1).1, p2, p3⟩, by rw [r7], by rw [s0 10 (by decide) (by decide) (by decide) (by decide) (by decide) (by decide)], by rw [s0 11 (by decide) (by decide) (by decide) (by decide) (by decide) (by decide)], by rw [s0 12 (by decide) (by decide) (by decide) (by decide) (by decide) (by decide)], by rw [s0 13 (by decide) (by decide) (by decide) (by decide) (by decide) (by decide)]⟩
      · have : ∀ n, stN σ1 m n = stN σ m n := fun n => by
          induction n with
          | zero => rfl
          | succ n ih => simp only [stN]; rw [ih, r1]
        rw [this, s00 0 (by decide)]
        exact Int.le_refl _
      · unfold wd; rw [s0 4 (by decide) (by decide) (by decide) (by decide) (by decide) (by decide)]
      · rw [s0 3 (by decide) (by decide) (by decide) (by decide) (by decide) (by decide)]; exact Int.le_refl _
  refine ⟨⟨hRel, hG1, hFine, fun k hk q => ?_, fun k hk => ?_, fun k hk q => ?_, fun j k hj hk qj qk hjk => ?_⟩, fun k hk q => ?_⟩
  · rw [r9]; exact hL k hk (on1 k hk q).1
  · rw [e15 k hk, m3 k (by omega), ← hP2 k hk]
    exact and_comm
  · have y := (e15 k hk).mp q
    have y1 := y.1
    refine ⟨by rw [e14 k hk, ie_t y], by rw [r8, u8]; exact R_8 hR hk y1, ?_, by rw [r9]; exact hL k hk y1, ?_⟩
    · have := GI_8 hG k
      rw [r8]; omega
    · rw [s00 1 (by decide)]
      exact Int.not_le.mp fun q => y1 (hOf k hk q)
  · have yj := (e15 j hj).mp qj
    have yk := (e15 k hk).mp qk
    have lj := hL j hj yj.1
    have lk := hL k hk yk.1
    have g2 := GI_2 hG (σ 7 j).toNat
    rw [r8]
    intro e
    refine (hF.1 j hj yj.1).2.2 k hk ⟨fun z => hjk z.symm, yk.1, ?_, ?_, ?_⟩
    · rw [← yj.2.1, ← yk.2.1]
    · omega
    · omega
  · rw [s00 1 (by decide)] at q
    rw [e14 k hk, hOf k hk q]
    rcases Classical.em (P k) with y | y
    · rw [ie_t y]
    · rw [ie_f y]
end T
