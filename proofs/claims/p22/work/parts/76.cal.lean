/-! call by call: both sides answer alike, and what stands beside one another stays so -/
/-- the word as a number -/
def spell : List Int → Int
  | [] => 0
  | c :: w => 27 * spell w + (c - 96)
/-- the letters typed, the last one first, beside the class's bytes and the reference's two numbers -/
def Wd (ω : Nat × (Nat → Int32) × Int32) (τ : Nat → Nat → Int) : Prop :=
  ∃ w : List Int, w.length ≤ 6 ∧ (∀ c ∈ w, 97 ≤ c ∧ c ≤ 122) ∧ ω.1 = w.length ∧ (∀ j, j < w.length → ω.2.1 j = iz (w.reverse.getD j 0)) ∧ τ 0 3 = (w.length : Int) ∧ τ 0 4 = spell w
def INV (σ : Nat → Nat → Int) (ω : Nat × (Nat → Int32) × Int32) (τ : Nat → Nat → Int) : Prop :=
  Rel σ τ ∧ GI σ ∧ GI τ ∧ Fine σ ∧ Len σ ∧ Off σ ∧ (∀ k, k < 16 → σ 15 k = 0) ∧ Wd ω τ
section Q
variable {σ τ σ' τ' : Nat → Nat → Int} {ω : Nat × (Nat → Int32) × Int32} {z z' t : Int}
theorem Wd.keep (h : Wd ω τ) (h3 : τ' 0 3 = τ 0 3) (h4 : τ' 0 4 = τ 0 4) : Wd ω τ' := by
  obtain ⟨w, a, b, c, d, e, f⟩ := h
  exact ⟨w, a, b, c, d, by rw [h3]; exact e, by rw [h4]; exact f⟩
theorem Wd.row (h : Wd ω τ) {r i : Nat} {v : Int} (hr : r ≠ 0) : Wd ω (u2 τ r i v) := h.keep (by rw [u2_row (Ne.symm hr)]) (by rw [u2_row (Ne.symm hr)])
theorem Off.row (h : Off σ) {r i : Nat} {v : Int} (h0 : r ≠ 0) (h14 : r ≠ 14) : Off (u2 σ r i v) := fun k hk q => by
  rw [u2_row (Ne.symm h0)] at q
  rw [u2_row (Ne.symm h14)]
  exact h k hk q
theorem wait_row {r i : Nat} {v : Int} (h : ∀ k, k < 16 → σ 15 k = 0) (hr : r ≠ 15) : ∀ k, k < 16 → u2 σ r i v 15 k = 0 := fun k hk => by
  rw [u2_row (Ne.symm hr)]; exact h k hk
/-- a plan's minutes don't hang on the counts -/
theorem pt_rows {m : Int} (e : ∀ r, 1 ≤ r → σ' r = σ r) (e0 : σ' 0 0 = σ 0 0) (hG : GI σ) (hG1 : GI σ') (h0 : pt σ m = 0) : pt σ' m = 0 := by
  refine pt_mono0 (σ' := σ) (e := m) (fun k hk q => ?_) hG1 hG ?_ ?_ (fun hs _ => ?_) h0
  · unfold pl at q ⊢
    rw [e 14 (by decide), e 8 (by decide), e 9 (by decide)] at q
    rw [e 7 (by decide), e 10 (by decide), e 11 (by decide), e 12 (by decide), e 13 (by decide)]
    exact ⟨q, rfl, rfl, rfl, rfl, rfl⟩
  · have : ∀ n, stN σ' m n = stN σ m n := fun n => by
      induction n with
      | zero => rfl
      | succ n ih => simp only [stN]; rw [ih, e 1 (by decide)]
    rw [this, e0]
    exact Int.le_refl _
  · unfold wd; rw [e 4 (by decide)]
  · rw [e 3 (by decide)]; exact Int.le_refl _
/-- sets -/
theorem e_startSet {mi : Int} (h : INV σ ω τ) (hc : MSet σ mi z σ' 0) (hm : MSet τ mi z' τ' t) : t = 0 ∧ z = z' ∧ INV σ' ω τ' := by
  obtain ⟨hR, hG, hGt, hF, hL, hO, hw, hW⟩ := h
  have e0 := R_00 hR
  have et : thS τ mi = thS σ mi := by unfold thS; rw [e0]
  obtain ⟨c1, c2, c3⟩ := hc
  obtain ⟨m1, m2, m3⟩ := hm
  rw [et] at m1 m2
  have ez : thS σ mi = 0 := c1.symm
  rcases c2 with c2 | ⟨_, c2⟩
  · omega
  rcases m2 with m2 | ⟨_, m2⟩
  · omega
  rw [← e0, ← R_1 hR] at m2
  refine ⟨by omega, ?_⟩
  rcases c2 with ⟨⟨k, k1, k2, k3⟩, rfl, rfl⟩ | ⟨c2, rfl, rfl⟩
  · rcases m2 with ⟨_, rfl, rfl⟩ | ⟨m2, rfl, rfl⟩
    · exact ⟨rfl, hR, hG, hGt, hF, hL, hO, hw, hW⟩
    · exact absurd ⟨k2, k3⟩ (m2 k k1)
  · rcases m2 with ⟨⟨k, k1, k2, k3⟩, rfl, rfl⟩ | ⟨m2, rfl, rfl⟩
    · exact absurd ⟨k2, k3⟩ (c2 k k1)
    · have hR' : Rel (u2 (u2 σ 1 (σ 0 0).toNat mi) 0 0 (σ 0 0 + 1)) (u2 (u2 τ 1 (σ 0 0).toNat mi) 0 0 (σ 0 0 + 1)) := rel_00 (rel_row hR (by omega))
      refine ⟨rfl, hR', c3, m3, ss_fine hF hG c3, fun k hk ho => ?_, fun k hk q => ?_, fun k hk => ?_, hW.keep ?_ ?_⟩
      · rw [u2_row (by decide), u2_row (by decide)] at ho ⊢; exact hL k hk ho
      · rw [u2_ne (by decide), u2_row (by decide)] at q
        rw [u2_row (by decide), u2_row (by decide)]; exact hO k hk q
      · rw [u2_row (by decide), u2_row (by decide)]; exact hw k hk
      · rw [u2_ne (by decide), u2_row (by decide)]
      · rw [u2_ne (by decide), u2_row (by decide)]
/-- what the reference does where a call is refused -/
theorem MS_thr {thr : Int} {τ1 : Nat → Nat → Int} (hm : MS τ thr τ1 z τ' t) (h : 0 < thr) : t = thr ∧ τ' = τ := by
  obtain ⟨m1, m2, _⟩ := hm
  rcases m2 with m2 | m2
  · exact ⟨m1, m2.2.2⟩
  · have := m2.1; omega
/-- a change that is tried, on both sides -/
theorem e_try {σ1 τ1 : Nat → Nat → Int} {P : Prop} (h : INV σ ω τ) (hR1 : Rel σ1 τ1) (hG1 : GI σ1) (hL1 : Len σ1) (hO1 : Off σ1) (hw1 : ∀ k, k < 16 → σ1 15 k = 0) (hW1 : Wd ω τ1)
    (hP : wS σ1 = 0 ↔ P) (hc : CS σ σ1 P z σ') (hm : MS τ 0 τ1 z' τ' t) : t = 0 ∧ z = z' ∧ INV σ' ω τ' := by
  obtain ⟨m1, m2, m3⟩ := hm
  rcases m2 with m2 | ⟨_, m2⟩
  · have := m2.1; omega
  rw [wrg_rel hR1 hG1 hL1] at m2
  refine ⟨m1, ?_⟩
  rcases hc with ⟨p, rfl, rfl⟩ | ⟨p, rfl, rfl⟩
  · rcases m2 with ⟨q, rfl, rfl⟩ | ⟨q, rfl, rfl⟩
    · exact ⟨rfl, hR1, hG1, m3, wS_0.mp q, hL1, hO1, hw1, hW1⟩
    · exact absurd (hP.mpr p) q
  · rcases m2 with ⟨q, rfl, rfl⟩ | ⟨q, rfl, rfl⟩
    · exact absurd (hP.mp q) p
    · exact ⟨rfl, h⟩
theorem e_setChange {sg mi : Int} (h : INV σ ω τ) (h0 : thC sg mi = 0) (hc : CS σ (u2 σ 2 sg.toNat mi) (stFine (u2 σ 2 sg.toNat mi) sg) z σ') (hm : MS τ (thC sg mi) (u2 τ 2 sg.toNat mi) z' τ' t) : t = 0 ∧ z = z' ∧ INV σ' ω τ' := by
  rw [h0] at hm
  have hb : (0 ≤ sg ∧ sg ≤ 2) ∧ 0 ≤ mi ∧ mi ≤ 60 := by unfold thC at h0; split at h0 <;> (try split at h0) <;> omega
  obtain ⟨hR, hG, hGt, hF, hL, hO, hw, hW⟩ := id h
  exact e_try h (rel_row hR (by omega)) (GI_u2 hG hb.2) (len_up hL (by decide) (fun q => absurd q (by decide))) (hO.row (by decide) (by decide)) (wait_row hw (by decide)) (hW.row (by decide)) (sc_rel hF hG hb.1 hb.2) hc hm
theorem e_setBound {hs bd : Int} (h : INV σ ω τ) (h0 : thB hs bd = 0) (hc : CS σ (u2 σ 3 hs.toNat bd) (bw (u2 σ 3 hs.toNat bd) 0 1000 = 0) z σ') (hm : MS τ (thB hs bd) (u2 τ 3 hs.toNat bd) z' τ' t) : t = 0 ∧ z = z' ∧ INV σ' ω τ' := by
  rw [h0] at hm
  have hb : (0 ≤ hs ∧ hs ≤ 2) ∧ 10 ≤ bd ∧ bd ≤ 300 := by unfold thB at h0; split at h0 <;> (try split at h0) <;> omega
  obtain ⟨hR, hG, hGt, hF, hL, hO, hw, hW⟩ := id h
  exact e_try h (rel_row hR (by omega)) (GI_u3 hG hb.2) (len_up hL (by decide) (fun q => absurd q (by decide))) (hO.row (by decide) (by decide)) (wait_row hw (by decide)) (hW.row (by decide)) (sb_rel hF) hc hm
theorem e_setWind {hr wn : Int} (h : INV σ ω τ) (h0 : thW hr wn = 0) (hc : CS σ (u2 σ 4 hr.toNat wn) (bw (u2 σ 4 hr.toNat wn) (hr * 60) (min (hr * 60 + 60) 1000) = 0) z σ') (hm : MS τ (thW hr wn) (u2 τ 4 hr.toNat wn) z' τ' t) : t = 0 ∧ z = z' ∧ INV σ' ω τ' := by
  rw [h0] at hm
  have hb : (0 ≤ hr ∧ hr ≤ 16) ∧ -10 ≤ wn ∧ wn ≤ 10 := by unfold thW at h0; split at h0 <;> (try split at h0) <;> omega
  obtain ⟨hR, hG, hGt, hF, hL, hO, hw, hW⟩ := id h
  exact e_try h (rel_row hR (by omega)) (GI_u4 hG hb.2) (len_up hL (by decide) (fun q => absurd q (by decide))) (hO.row (by decide) (by decide)) (wait_row hw (by decide)) (hW.row (by decide)) (sw_rel hF hG hb.1 hb.2) hc hm
theorem thM_rel {a mi : Int} (h : INV σ ω τ) : thM τ a mi = thM σ a mi := by
  have g := GI_01 h.2.1
  unfold thM
  rw [← R_01 h.1]
  split
  · rw [← R_14 h.1 (by omega)]
  · rfl
theorem e_move {a mi : Int} (h : INV σ ω τ) (h0 : thM σ a mi = 0) (hc : CS σ (u2 σ 8 a.toNat mi) (bby (u2 σ 8 a.toNat mi) a.toNat = 0) z σ') (hm : MS τ (thM τ a mi) (u2 τ 8 a.toNat mi) z' τ' t) : t = 0 ∧ z = z' ∧ INV σ' ω τ' := by
  rw [thM_rel h, h0] at hm
  obtain ⟨hR, hG, hGt, hF, hL, hO, hw, hW⟩ := id h
  have g := GI_01 hG
  have hb : (0 ≤ a ∧ a ≤ σ 0 1 - 1) ∧ (0 ≤ mi ∧ mi ≤ 999) ∧ σ 14 a.toNat ≠ 0 := by
    unfold thM at h0
    split at h0
    · split at h0
      · split at h0
        · omega
        · rename_i q1 q2 q3; exact ⟨q1, q2, q3⟩
      · omega
    · omega
  have hO1 : Oth σ (u2 σ 8 a.toNat mi) a.toNat := Oth.refl.up (by decide)
  refine e_try h (rel_8 hR) (GI_u8 hG hb.2.1) (len_up hL (by decide) (fun q => absurd q (by decide))) (hO.row (by decide) (by decide)) (wait_row hw (by decide)) (hW.row (by decide)) ?_ hc hm
  rw [bby_oth hO1 (by omega) hG (GI_u8 hG hb.2.1) (by rw [u2_row (by decide)]; exact hb.2.2) hF]
theorem thD_rel {a : Int} (h : INV σ ω τ) : thD τ a = thD σ a := by
  have g := GI_01 h.2.1
  unfold thD
  rw [← R_01 h.1]
  split
  · rw [← R_14 h.1 (by omega)]
  · rfl
theorem e_drop {a : Int} (h : INV σ ω τ) (h0 : thD σ a = 0) (hc : σ' = u2 σ 14 a.toNat 0) (hm : t = thD τ a ∧ τ' = (if thD τ a = 0 then u2 τ 14 a.toNat 0 else τ) ∧ GI τ') : t = 0 ∧ INV σ' ω τ' := by
  rw [thD_rel h, h0, if_pos rfl] at hm
  obtain ⟨rfl, rfl, hGt'⟩ := hm
  subst hc
  obtain ⟨hR, hG, hGt, hF, hL, hO, hw, hW⟩ := id h
  have g := GI_01 hG
  have hb : 0 ≤ a ∧ a ≤ σ 0 1 - 1 := by unfold thD at h0; split at h0 <;> omega
  refine ⟨rfl, rel_14 hR (by omega) (fun q => absurd rfl q), GI_u14 hG (by decide), hGt', drop_fine hF hG, len_up hL (by decide) (fun _ q => absurd rfl q), fun k hk q => ?_, wait_row hw (by decide), hW.row (by decide)⟩
  rw [u2_row (by decide)] at q
  rcases Classical.em (k = a.toNat) with e | e
  · rw [e, u2_at]
  · rw [u2_ne e]; exact hO k hk q
theorem th1_rel {a : Int} (h : INV σ ω τ) : th1 τ a = th1 σ a := by unfold th1; rw [← R_01 h.1]
theorem e_start {a : Int} (h : INV σ ω τ) (h0 : th1 σ a = 0) (hc : z = if σ 14 a.toNat = 0 then -1 else σ 8 a.toNat) (hm : t = th1 τ a ∧ (th1 τ a = 0 → z' = if τ 14 a.toNat = 0 then -1 else τ 8 a.toNat)) : t = 0 ∧ z = z' := by
  rw [th1_rel h, h0] at hm
  obtain ⟨hR, hG, hGt, hF, hL, hO, hw, hW⟩ := id h
  have g := GI_01 hG
  have hb : 0 ≤ a ∧ a ≤ σ 0 1 - 1 := by unfold th1 at h0; split at h0 <;> omega
  refine ⟨hm.1, ?_⟩
  rw [hc, hm.2 rfl, ← R_14 hR (by omega)]
  split
  · rfl
  · rename_i q; exact R_8 hR (by omega) q
theorem e_firstStart {a mi : Int} {σ9 : Nat → Nat → Int} (h : INV σ ω τ) (h0 : thM σ a mi = 0) (hc : FFS σ a.toNat mi z σ9) (hm : t = thM τ a mi ∧ (thM τ a mi = 0 → MF τ a.toNat mi z')) : t = 0 ∧ z = z' := by
  rw [thM_rel h, h0] at hm
  obtain ⟨hR, hG, hGt, hF, hL, hO, hw, hW⟩ := id h
  have g := GI_01 hG
  have hb : (0 ≤ a ∧ a ≤ σ 0 1 - 1) ∧ (0 ≤ mi ∧ mi ≤ 999) ∧ σ 14 a.toNat ≠ 0 := by
    unfold thM at h0
    split at h0
    · split at h0
      · split at h0
        · omega
        · rename_i q1 q2 q3; exact ⟨q1, q2, q3⟩
      · omega
    · omega
  exact ⟨hm.1, (first_eq hR Oth.refl (by omega) hG hF hG hL hb.2.2 (by omega) hc (hm.2 rfl)).1⟩
theorem thL_rel {sg sa ln ph dr lo ch : Int} (h : INV σ ω τ) : thL τ sg sa ln ph dr lo ch = thL σ sg sa ln ph dr lo ch := by unfold thL; rw [← R_01 h.1]
/-- an act is laid on both sides -/
theorem lay_all {sg sa ln ph dr lo ch : Int} (h : INV σ ω τ) (h0 : thL σ sg sa ln ph dr lo ch = 0) :
    (σ 0 1).toNat < 16 ∧ Rel (lay σ (σ 0 1).toNat sg sa ln ph dr lo ch) (lay τ (σ 0 1).toNat sg sa ln ph dr lo ch) ∧ GI (lay σ (σ 0 1).toNat sg sa ln ph dr lo ch) ∧ Len (lay σ (σ 0 1).toNat sg sa ln ph dr lo ch) ∧ Oth σ (lay σ (σ 0 1).toNat sg sa ln ph dr lo ch) (σ 0 1).toNat ∧ wS (lay σ (σ 0 1).toNat sg sa ln ph dr lo ch) = bby (lay σ (σ 0 1).toNat sg sa ln ph dr lo ch) (σ 0 1).toNat := by
  obtain ⟨hR, hG, hGt, hF, hL, hO, hw, hW⟩ := id h
  have g := GI_01 hG
  have hb : ((0 ≤ sg ∧ sg ≤ 2) ∧ (0 ≤ ph ∧ ph ≤ 2)) ∧ ((0 ≤ sa ∧ sa ≤ 999) ∧ (1 ≤ ln ∧ ln ≤ 200) ∧ (0 ≤ dr ∧ dr ≤ 200) ∧ (0 ≤ lo ∧ lo ≤ 200) ∧ (-1 ≤ ch ∧ ch ≤ 31)) ∧ σ 0 1 ≠ 16 := by
    unfold thL at h0
    split at h0
    · split at h0
      · split at h0
        · omega
        · rename_i q1 q2 q3; exact ⟨q1, q2, q3⟩
      · omega
    · omega
  obtain ⟨⟨b1, b2⟩, ⟨b3, b4, b5, b6, b7⟩, b8⟩ := hb
  have hn : (σ 0 1).toNat < 16 := by omega
  generalize (σ 0 1).toNat = n at hn ⊢
  have hRl : Rel (lay σ n sg sa ln ph dr lo ch) (lay τ n sg sa ln ph dr lo ch) := by
    unfold lay
    refine rel_14 (rel_row (rel_row (rel_row (rel_row (rel_row (rel_8 (rel_row hR (by omega))) (by omega)) (by omega)) (by omega)) (by omega)) (by omega)) hn (fun _ => ?_)
    rw [u2_row (by decide), u2_row (by decide), u2_row (by decide), u2_row (by decide), u2_row (by decide), u2_at, u2_row (by decide), u2_row (by decide), u2_row (by decide), u2_row (by decide), u2_row (by decide), u2_at]
  have hGl : GI (lay σ n sg sa ln ph dr lo ch) := by
    unfold lay
    exact GI_u14 (GI_u13 (GI_u12 (GI_u11 (GI_u10 (GI_u9 (GI_u8 (GI_u7 hG b1) b3) (by omega)) b2) b5) b6) b7) (by decide)
  have hOl : Oth σ (lay σ n sg sa ln ph dr lo ch) n := by
    unfold lay
    exact (((((((Oth.refl.up (by decide)).up (by decide)).up (by decide)).up (by decide)).up (by decide)).up (by decide)).up (by decide)).up (by decide)
  have e14 : lay σ n sg sa ln ph dr lo ch 14 n = 1 := by unfold lay; rw [u2_at]
  have hLl : Len (lay σ n sg sa ln ph dr lo ch) := by
    intro k hk ho
    rcases Classical.em (k = n) with e | e
    · rw [e]
      unfold lay
      rw [u2_row (by decide), u2_row (by decide), u2_row (by decide), u2_row (by decide), u2_row (by decide), u2_at]
      exact b4.1
    · have r := hOl.2.2.2 k hk e
      rw [r 9 (by decide) (by decide)]
      rw [r 14 (by decide) (by decide)] at ho
      exact hL k hk ho
  exact ⟨hn, hRl, hGl, hLl, hOl, bby_oth hOl hn hG hGl (by rw [e14]; decide) hF⟩
/-- an act that was laid is taken off -/
theorem lay_off {sg sa ln ph dr lo ch : Int} (h : INV σ ω τ) (h0 : thL σ sg sa ln ph dr lo ch = 0) (hGt' : GI (u2 (lay τ (σ 0 1).toNat sg sa ln ph dr lo ch) 14 (σ 0 1).toNat 0)) :
    INV (u2 (lay σ (σ 0 1).toNat sg sa ln ph dr lo ch) 14 (σ 0 1).toNat 0) ω (u2 (lay τ (σ 0 1).toNat sg sa ln ph dr lo ch) 14 (σ 0 1).toNat 0) := by
  obtain ⟨hn, hRl, hGl, hLl, hOl, _⟩ := lay_all h h0
  obtain ⟨hR, hG, hGt, hF, hL, hO, hw, hW⟩ := id h
  have e0 : ∀ {x : Nat → Nat → Int}, u2 (lay x (σ 0 1).toNat sg sa ln ph dr lo ch) 14 (σ 0 1).toNat 0 0 = x 0 := by
    intro x
    unfold lay
    rw [u2_row (by decide), u2_row (by decide), u2_row (by decide), u2_row (by decide), u2_row (by decide), u2_row (by decide), u2_row (by decide), u2_row (by decide), u2_row (by decide)]
  have hGo : GI (u2 (lay σ (σ 0 1).toNat sg sa ln ph dr lo ch) 14 (σ 0 1).toNat 0) := GI_u14 hGl (by decide)
  refine ⟨rel_14 hRl hn (fun q => absurd rfl q), hGo, hGt', off_fine (hOl.up (by decide)) hF hG hGo u2_at, len_up hLl (by decide) (fun _ q => absurd rfl q), fun k hk q => ?_, fun k hk => ?_, hW.keep (by rw [e0]) (by rw [e0])⟩
  · rw [e0] at q
    rcases Classical.em (k = (σ 0 1).toNat) with e | e
    · rw [e, u2_at]
    · rw [u2_ne e, hOl.2.2.2 k hk e 14 (by decide) (by decide)]; exact hO k hk q
  · unfold lay
    rw [u2_row (by decide), u2_row (by decide), u2_row (by decide), u2_row (by decide), u2_row (by decide), u2_row (by decide), u2_row (by decide), u2_row (by decide), u2_row (by decide)]
    exact hw k hk
theorem e_reason {sg sa ln ph dr lo ch : Int} (h : INV σ ω τ) (h0 : thL σ sg sa ln ph dr lo ch = 0) (hc : z = bby (lay σ (σ 0 1).toNat sg sa ln ph dr lo ch) (σ 0 1).toNat ∧ σ' = u2 (lay σ (σ 0 1).toNat sg sa ln ph dr lo ch) 14 (σ 0 1).toNat 0)
    (hm : ML τ (thL τ sg sa ln ph dr lo ch) (lay τ (τ 0 1).toNat sg sa ln ph dr lo ch) z' τ' t) : t = 0 ∧ z = z' ∧ INV σ' ω τ' := by
  rw [thL_rel h, h0, ← R_01 h.1] at hm
  obtain ⟨hn, hRl, hGl, hLl, hOl, hb⟩ := lay_all h h0
  obtain ⟨m1, m2, m3⟩ := hm
  rcases m2 with m2 | ⟨_, m2, rfl⟩
  · have := m2.1; omega
  obtain ⟨rfl, rfl⟩ := hc
  rw [← R_01 h.1] at m3 ⊢
  exact ⟨m1, by rw [m2, wrg_rel hRl hGl hLl, hb], lay_off h h0 m3⟩
theorem e_plan {sg sa ln ph dr lo ch : Int} (h : INV σ ω τ) (h0 : thL σ sg sa ln ph dr lo ch = 0) (hGc : GI σ')
    (hc : (bby (lay σ (σ 0 1).toNat sg sa ln ph dr lo ch) (σ 0 1).toNat ≠ 0 ∧ z = -1 ∧ σ' = u2 (lay σ (σ 0 1).toNat sg sa ln ph dr lo ch) 14 (σ 0 1).toNat 0) ∨ (bby (lay σ (σ 0 1).toNat sg sa ln ph dr lo ch) (σ 0 1).toNat = 0 ∧ z = σ 0 1 ∧ σ' = u2 (lay σ (σ 0 1).toNat sg sa ln ph dr lo ch) 0 1 (σ 0 1 + 1)))
    (hm : MPl τ (thL τ sg sa ln ph dr lo ch) (lay τ (τ 0 1).toNat sg sa ln ph dr lo ch) z' τ' t) : t = 0 ∧ z = z' ∧ INV σ' ω τ' := by
  rw [thL_rel h, h0] at hm
  unfold MPl at hm
  rw [← R_01 h.1] at hm
  obtain ⟨hn, hRl, hGl, hLl, hOl, hb⟩ := lay_all h h0
  obtain ⟨m1, m2, m3⟩ := hm
  rcases m2 with m2 | ⟨_, m2⟩
  · have := m2.1; omega
  rw [wrg_rel hRl hGl hLl, hb] at m2
  refine ⟨m1, ?_⟩
  rcases hc with ⟨c1, rfl, rfl⟩ | ⟨c1, rfl, rfl⟩
  · rcases m2 with ⟨_, rfl, rfl⟩ | ⟨q, _⟩
    · exact ⟨rfl, lay_off h h0 m3⟩
    · exact absurd q c1
  · rcases m2 with ⟨q, _⟩ | ⟨_, rfl, rfl⟩
    · exact absurd c1 q
    · have el : u2 (lay τ (σ 0 1).toNat sg sa ln ph dr lo ch) 14 (σ 0 1).toNat 1 = lay τ (σ 0 1).toNat sg sa ln ph dr lo ch := by
        unfold lay; rw [u2_u2]
      rw [el] at m3 ⊢
      obtain ⟨hR, hG, hGt, hF, hL, hO, hw, hW⟩ := id h
      have g := GI_01 hG
      have hFl : Fine (lay σ (σ 0 1).toNat sg sa ln ph dr lo ch) := wS_0.mp (by rw [hb]; exact c1)
      have hR' := rel_01 (v := σ 0 1 + 1) hRl
      have ea : ∀ {x : Nat → Nat → Int} {i : Nat}, i ≠ 1 → u2 (lay x (σ 0 1).toNat sg sa ln ph dr lo ch) 0 1 (σ 0 1 + 1) 0 i = x 0 i := by
        intro x i hi
        rw [u2_ne hi]
        unfold lay
        rw [u2_row (by decide), u2_row (by decide), u2_row (by decide), u2_row (by decide), u2_row (by decide), u2_row (by decide), u2_row (by decide), u2_row (by decide)]
      refine ⟨rfl, hR', hGc, m3, ?_, len_up hLl (by decide) (fun q => absurd q (by decide)), fun k hk q => ?_, fun k hk => ?_, hW.keep (ea (by decide)) (ea (by decide))⟩
      · -- the count of the acts is no part of what is fine
        have er : ∀ r, r ≠ 0 → u2 (lay σ (σ 0 1).toNat sg sa ln ph dr lo ch) 0 1 (σ 0 1 + 1) r = lay σ (σ 0 1).toNat sg sa ln ph dr lo ch r := fun r q => u2_row q
        refine ⟨(allfit_congr (er 2 (by decide)) (er 7 (by decide)) (er 8 (by decide)) (er 9 (by decide)) (er 14 (by decide)) (er 16 (by decide)) (er 17 (by decide)) (er 18 (by decide))).mpr hFl.1, fun m h1 h2 => pt_rows (fun r a => er r (by omega)) (by rw [u2_ne (by decide)]) hGl hGc (hFl.2 m h1 h2)⟩
      · rw [u2_at] at q
        rw [u2_row (by decide), hOl.2.2.2 k hk (by omega) 14 (by decide) (by decide)]; exact hO k hk (by omega)
      · unfold lay
        rw [u2_row (by decide), u2_row (by decide), u2_row (by decide), u2_row (by decide), u2_row (by decide), u2_row (by decide), u2_row (by decide), u2_row (by decide), u2_row (by decide)]
        exact hw k hk
theorem thX_rel {sg mi du : Int} (h : INV σ ω τ) : thX τ sg mi du = thX σ sg mi du := by unfold thX; rw [← R_02 h.1]
theorem e_storm {sg mi du : Int} {σ1 : Nat → Nat → Int} (h : INV σ ω τ) (h0 : thX σ sg mi du = 0) (hco : COF (stC σ sg mi (min (mi + du) 1000)) (σ 0 2).toNat σ1) (hG1 : GI σ1) (hrp : RPn (min (mi + du) 1000) 16 σ1 0 σ' z) (hG' : GI σ')
    (hm : MSt τ sg mi du z' τ' t) : t = 0 ∧ z = z' ∧ INV σ' ω τ' := by
  unfold MSt at hm
  rw [thX_rel h, h0] at hm
  obtain ⟨hR, hG, hGt, hF, hL, hO, hw, hW⟩ := id h
  obtain ⟨m1, m2, m3⟩ := hm
  rcases m2 with m2 | ⟨_, st, z0, τ1, a1, a2, a3, a4, N, a5⟩
  · have := m2.1; omega
  have hb : (0 ≤ sg ∧ sg ≤ 2) ∧ (0 ≤ mi ∧ mi ≤ 999) ∧ (1 ≤ du ∧ du ≤ 200) ∧ σ 0 2 ≠ 5 := by
    unfold thX at h0
    split at h0
    · split at h0
      · split at h0
        · omega
        · rename_i q1 q2 q3; exact ⟨q1, q2.1, q2.2, q3⟩
      · omega
    · omega
  obtain ⟨hS, hOf⟩ := storm_start hR hG hF hL hO hw hb.2.2.2 hb.1 hco hG1 a1 a2 a3
  obtain ⟨c1, c2, c3, c4, c5, c6, c7, c8⟩ := rp_eq (by omega) 16 σ1 τ1 st (-1) 0 N z0 z z' σ' τ' hS hOf hrp a4 a5
  refine ⟨m1, c1, c2, hG', m3, c3, c4, c6, c5, hW.keep ?_ ?_⟩
  · rw [c8, a1 0 (by decide)]; unfold stT; rw [u2_ne (by decide), u2_row (by decide), u2_row (by decide), u2_row (by decide)]
  · rw [c8, a1 0 (by decide)]; unfold stT; rw [u2_ne (by decide), u2_row (by decide), u2_row (by decide), u2_row (by decide)]
theorem e_load {mi ph : Int} (h : INV σ ω τ) (h0 : thP ph mi = 0) (hc : z = ldS σ mi ph.toNat 16) (hm : t = thP ph mi ∧ (thP ph mi = 0 → z' = ldS τ mi ph.toNat 17)) : t = 0 ∧ z = z' := by
  rw [h0] at hm
  exact ⟨hm.1, by rw [hc, hm.2 rfl, ld_rel h.1]⟩
theorem e_noise {mi hs : Int} (h : INV σ ω τ) (h0 : thP hs mi = 0) (hc : z = nsS σ mi (wd σ mi) hs.toNat 16) (hm : t = thP hs mi ∧ (thP hs mi = 0 → z' = nsS τ mi (wd τ mi) hs.toNat 17)) : t = 0 ∧ z = z' := by
  rw [h0] at hm
  exact ⟨hm.1, by rw [hc, hm.2 rfl, ns_rel h.1, wd_rel h.1]⟩
theorem ior_0 {x : Int} (h : -2147483648 ≤ x ∧ x ≤ 2147483647) : ior x 0 = x := by
  unfold ior
  rw [show iz x ||| iz 0 = iz x from by rw [show iz 0 = (0 : Int32) from rfl]; simp]
  exact iz_toInt h
theorem ch_rel {mi : Int} (h : INV σ ω τ) : ∀ n, n ≤ 16 → chM τ mi n = chS σ mi n := by
  intro n
  induction n with
  | zero => intro _; rfl
  | succ n ih =>
    intro hn
    simp only [chM, chS]
    rw [ih (by omega)]
    have g := GI_13 h.2.1 n
    rcases Classical.em (pl σ n mi ∧ σ 13 n ≠ -1) with q | q
    · have q' : spk τ mi n := ⟨(pl_rel h.1 (by omega)).mp q.1, by rw [← R_13 h.1]; omega⟩
      rw [ie_t q, ic_t q', R_13 h.1]
    · have q' : ¬ spk τ mi n := fun y => q ⟨(pl_rel h.1 (by omega)).mpr y.1, by have := y.2; rw [← R_13 h.1] at this; omega⟩
      rw [ie_f q, ic_f q']
      exact ior_0 (chS_rg n)
theorem e_channels {mi : Int} (h : INV σ ω τ) (h0 : thK mi = 0) (hc : z = chS σ mi 16) (hm : t = thK mi ∧ (thK mi = 0 → z' = chM τ mi 17)) : t = 0 ∧ z = z' := by
  rw [h0] at hm
  refine ⟨hm.1, ?_⟩
  have e : chM τ mi 17 = ior (chM τ mi 16) (ic (spk τ mi 16) (ish 1 (τ 13 16))) := rfl
  rw [hc, hm.2 rfl, e, ic_f (fun q => pl_16 h.1 q.1), ch_rel h 16 (Nat.le_refl _), ior_0 (chS_rg 16)]
theorem e_isFine (h : INV σ ω τ) (hc : z = b2i (fineM σ)) (hm : t = 0 ∧ z' = b2i (wrg τ = 0)) : t = 0 ∧ z = z' := by
  refine ⟨hm.1, ?_⟩
  rw [hc, hm.2, b2i_t (fineM_of h.2.2.2.1 h.2.1), b2i_t (by rw [wrg_rel h.1 h.2.1 h.2.2.2.2.1]; exact wS_0.mpr h.2.2.2.1)]
theorem thO_rel {a wh : Int} (h : INV σ ω τ) : thO τ a wh = thO σ a wh := by unfold thO; rw [← R_01 h.1]
theorem e_ofAct {a wh : Int} (h : INV σ ω τ) (h0 : thO σ a wh = 0) (hc : z = if wh = 0 then σ 11 a.toNat else if wh = 1 then σ 12 a.toNat else σ 13 a.toNat)
    (hm : t = thO τ a wh ∧ (thO τ a wh = 0 → z' = if wh = 0 then τ 11 a.toNat else if wh = 1 then τ 12 a.toNat else τ 13 a.toNat)) : t = 0 ∧ z = z' := by
  rw [thO_rel h, h0] at hm
  exact ⟨hm.1, by rw [hc, hm.2 rfl, R_11 h.1, R_12 h.1, R_13 h.1]⟩
end Q
