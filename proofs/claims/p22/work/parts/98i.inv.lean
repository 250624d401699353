/-! the law's own loop: what stands at its head -/
def INS (σ : Nat → Nat → Int) : Prop := GI σ ∧ Fine σ ∧ Len σ ∧ Off σ ∧ ∀ k, k < 16 → σ 15 k = 0
section NS
variable {σ : Nat → Nat → Int} {sg sa ln ph dr lo ch : Int}
theorem lay_up {n : Nat} {v : Int} : lay (u2 (lay σ n sg sa ln ph dr lo ch) 14 n v) n sg sa ln ph dr lo ch = lay σ n sg sa ln ph dr lo ch := by
  funext r i
  unfold lay
  by_cases hi : i = n
  · subst hi
    by_cases h14 : r = 14
    · subst h14; rw [u2_at, u2_at]
    by_cases h13 : r = 13
    · subst h13; rw [u2_row (by decide), u2_at, u2_row (by decide), u2_at]
    by_cases h12 : r = 12
    · subst h12; rw [u2_row (by decide), u2_row (by decide), u2_at, u2_row (by decide), u2_row (by decide), u2_at]
    by_cases h11 : r = 11
    · subst h11; rw [u2_row (by decide), u2_row (by decide), u2_row (by decide), u2_at, u2_row (by decide), u2_row (by decide), u2_row (by decide), u2_at]
    by_cases h10 : r = 10
    · subst h10; rw [u2_row (by decide), u2_row (by decide), u2_row (by decide), u2_row (by decide), u2_at, u2_row (by decide), u2_row (by decide), u2_row (by decide), u2_row (by decide), u2_at]
    by_cases h9 : r = 9
    · subst h9; rw [u2_row (by decide), u2_row (by decide), u2_row (by decide), u2_row (by decide), u2_row (by decide), u2_at, u2_row (by decide), u2_row (by decide), u2_row (by decide), u2_row (by decide), u2_row (by decide), u2_at]
    by_cases h8 : r = 8
    · subst h8; rw [u2_row (by decide), u2_row (by decide), u2_row (by decide), u2_row (by decide), u2_row (by decide), u2_row (by decide), u2_at, u2_row (by decide), u2_row (by decide), u2_row (by decide), u2_row (by decide), u2_row (by decide), u2_row (by decide), u2_at]
    by_cases h7 : r = 7
    · subst h7; rw [u2_row (by decide), u2_row (by decide), u2_row (by decide), u2_row (by decide), u2_row (by decide), u2_row (by decide), u2_row (by decide), u2_at, u2_row (by decide), u2_row (by decide), u2_row (by decide), u2_row (by decide), u2_row (by decide), u2_row (by decide), u2_row (by decide), u2_at]
    rw [u2_row h14, u2_row h13, u2_row h12, u2_row h11, u2_row h10, u2_row h9, u2_row h8, u2_row h7, u2_row h14]
  · rw [u2_ne hi, u2_ne hi, u2_ne hi, u2_ne hi, u2_ne hi, u2_ne hi, u2_ne hi, u2_ne hi, u2_ne hi]
theorem lay_0 {n : Nat} : lay σ n sg sa ln ph dr lo ch 0 = σ 0 := by
  unfold lay
  rw [u2_row (by decide), u2_row (by decide), u2_row (by decide), u2_row (by decide), u2_row (by decide), u2_row (by decide), u2_row (by decide), u2_row (by decide)]
theorem lay_14 {n : Nat} : lay σ n sg sa ln ph dr lo ch 14 n = 1 := by unfold lay; rw [u2_at]
theorem lay_8 {n : Nat} : lay σ n sg sa ln ph dr lo ch 8 n = sa := by
  unfold lay
  rw [u2_row (by decide), u2_row (by decide), u2_row (by decide), u2_row (by decide), u2_row (by decide), u2_row (by decide), u2_at]
/-- an act is laid -/
theorem s_lay (h : INS σ) (h0 : thL σ sg sa ln ph dr lo ch = 0) :
    (σ 0 1).toNat < 16 ∧ GI (lay σ (σ 0 1).toNat sg sa ln ph dr lo ch) ∧ Len (lay σ (σ 0 1).toNat sg sa ln ph dr lo ch) ∧ Oth σ (lay σ (σ 0 1).toNat sg sa ln ph dr lo ch) (σ 0 1).toNat ∧ wS (lay σ (σ 0 1).toNat sg sa ln ph dr lo ch) = bby (lay σ (σ 0 1).toNat sg sa ln ph dr lo ch) (σ 0 1).toNat := by
  obtain ⟨hG, hF, hL, hO, hw⟩ := id h
  have g := GI_01 hG
  have hb : ((0 ≤ sg ∧ sg ≤ 2) ∧ (0 ≤ ph ∧ ph ≤ 2)) ∧ ((0 ≤ sa ∧ sa ≤ 999) ∧ (1 ≤ ln ∧ ln ≤ 200) ∧ (0 ≤ dr ∧ dr ≤ 200) ∧ (0 ≤ lo ∧ lo ≤ 200) ∧ (-1 ≤ ch ∧ ch ≤ 31)) ∧ σ 0 1 ≠ 16 := by
    unfold thL at h0
    split at h0
    · split at h0
      · split at h0
        · omega
        · rename_i q1 q2 q3; exact ⟨q1, q2, q3⟩
      · omega
    · omega
  obtain ⟨⟨b1, b2⟩, ⟨b3, b4, b5, b6, b7⟩, b8⟩ := hb
  have hn : (σ 0 1).toNat < 16 := by omega
  generalize (σ 0 1).toNat = n at hn ⊢
  have hGl : GI (lay σ n sg sa ln ph dr lo ch) := by
    unfold lay
    exact GI_u14 (GI_u13 (GI_u12 (GI_u11 (GI_u10 (GI_u9 (GI_u8 (GI_u7 hG b1) b3) (by omega)) b2) b5) b6) b7) (by decide)
  have hOl : Oth σ (lay σ n sg sa ln ph dr lo ch) n := by
    unfold lay
    exact (((((((Oth.refl.up (by decide)).up (by decide)).up (by decide)).up (by decide)).up (by decide)).up (by decide)).up (by decide)).up (by decide)
  have e14 : lay σ n sg sa ln ph dr lo ch 14 n = 1 := lay_14
  have hLl : Len (lay σ n sg sa ln ph dr lo ch) := by
    intro k hk ho
    rcases Classical.em (k = n) with e | e
    · rw [e]
      unfold lay
      rw [u2_row (by decide), u2_row (by decide), u2_row (by decide), u2_row (by decide), u2_row (by decide), u2_at]
      exact b4.1
    · have r := hOl.2.2.2 k hk e
      rw [r 9 (by decide) (by decide)]
      rw [r 14 (by decide) (by decide)] at ho
      exact hL k hk ho
  exact ⟨hn, hGl, hLl, hOl, bby_oth hOl hn hG hGl (by rw [e14]; decide) hF⟩
theorem lay_15 {n : Nat} : lay σ n sg sa ln ph dr lo ch 15 = σ 15 := by
  unfold lay
  rw [u2_row (by decide), u2_row (by decide), u2_row (by decide), u2_row (by decide), u2_row (by decide), u2_row (by decide), u2_row (by decide), u2_row (by decide)]
/-- an act that was laid is taken off -/
theorem s_off (h : INS σ) (h0 : thL σ sg sa ln ph dr lo ch = 0) : INS (u2 (lay σ (σ 0 1).toNat sg sa ln ph dr lo ch) 14 (σ 0 1).toNat 0) := by
  obtain ⟨hn, hGl, hLl, hOl, _⟩ := s_lay h h0
  obtain ⟨hG, hF, hL, hO, hw⟩ := id h
  have hGo : GI (u2 (lay σ (σ 0 1).toNat sg sa ln ph dr lo ch) 14 (σ 0 1).toNat 0) := GI_u14 hGl (by decide)
  refine ⟨hGo, off_fine (hOl.up (by decide)) hF hG hGo u2_at, len_up hLl (by decide) (fun _ q => absurd rfl q), fun k hk q => ?_, fun k hk => ?_⟩
  · rw [u2_row (by decide), lay_0] at q
    rcases Classical.em (k = (σ 0 1).toNat) with e | e
    · rw [e, u2_at]
    · rw [u2_ne e, hOl.2.2.2 k hk e 14 (by decide) (by decide)]; exact hO k hk q
  · rw [u2_row (by decide), lay_15]
    exact hw k hk
/-- an act that was laid stays -/
theorem s_on (h : INS σ) (h0 : thL σ sg sa ln ph dr lo ch = 0) (hb : bby (lay σ (σ 0 1).toNat sg sa ln ph dr lo ch) (σ 0 1).toNat = 0) : INS (u2 (lay σ (σ 0 1).toNat sg sa ln ph dr lo ch) 0 1 (σ 0 1 + 1)) := by
  obtain ⟨hn, hGl, hLl, hOl, hbw⟩ := s_lay h h0
  obtain ⟨hG, hF, hL, hO, hw⟩ := id h
  have g := GI_01 hG
  have hGc : GI (u2 (lay σ (σ 0 1).toNat sg sa ln ph dr lo ch) 0 1 (σ 0 1 + 1)) := GI_u01 hGl (by omega)
  have hFl : Fine (lay σ (σ 0 1).toNat sg sa ln ph dr lo ch) := wS_0.mp (by rw [hbw]; exact hb)
  have er : ∀ r, r ≠ 0 → u2 (lay σ (σ 0 1).toNat sg sa ln ph dr lo ch) 0 1 (σ 0 1 + 1) r = lay σ (σ 0 1).toNat sg sa ln ph dr lo ch r := fun r q => u2_row q
  refine ⟨hGc, ⟨(allfit_congr (er 2 (by decide)) (er 7 (by decide)) (er 8 (by decide)) (er 9 (by decide)) (er 14 (by decide)) (er 16 (by decide)) (er 17 (by decide)) (er 18 (by decide))).mpr hFl.1, fun m h1 h2 => pt_rows (fun r a => er r (by omega)) (by rw [u2_ne (by decide)]) hGl hGc (hFl.2 m h1 h2)⟩, len_up hLl (by decide) (fun q => absurd q (by decide)), fun k hk q => ?_, fun k hk => ?_⟩
  · rw [u2_at] at q
    rw [u2_row (by decide), hOl.2.2.2 k hk (by omega) 14 (by decide) (by decide)]; exact hO k hk (by omega)
  · rw [u2_row (by decide), lay_15]
    exact hw k hk
end NS
/-- at the loop's start -/
theorem INS_ev {σ : Nat → Nat → Int} {d : Da} (h : ES σ d) (h1 : aFit d = true) (h2 : bwF d 0 1000 = 0) (h3 : lnB d = true) (h4 : nwB d = true) (h5 : ((List.range 16).all fun j => aOn (ga d.2.2.2.2.1 j) == 0) = true) : INS σ := by
  refine ⟨h.1, ev_Fine h h1 h2, ln_ev h h3, fun k hk _ => ?_, nw_ev h h4⟩
  have e := (ES_ac h hk).2.2.2.2.2.2.2.1
  rw [e]
  have := List.all_eq_true.mp h5 k (List.mem_range.mpr hk)
  exact eq_of_beq this
/-- eight bits to the right, without a sign -/
theorem ush_rg (y : Int32) : ∃ x : Int, (0 ≤ x ∧ x ≤ 16777215) ∧ (y.toUInt32 >>> ((iz 8).toUInt32 &&& Int32.toUInt32 31)).toInt32 = iz x := by
  have e8 : ((iz 8).toUInt32 &&& Int32.toUInt32 31) = 8 := by decide
  rw [e8]
  have hlt : (y.toUInt32 >>> 8).toNat < 16777216 := by
    rw [UInt32.toNat_shiftRight]
    have := y.toUInt32.toNat_lt
    rw [show (8 : UInt32).toNat % 32 = 8 from rfl, Nat.shiftRight_eq_div_pow]
    omega
  generalize (y.toUInt32 >>> 8) = u at hlt ⊢
  refine ⟨(u.toNat : Int), by omega, ?_⟩
  apply Int32.toBitVec_inj.mp
  apply BitVec.eq_of_toNat_eq
  unfold iz
  rw [Int32.toBitVec_ofInt]
  simp only [BitVec.ofInt_natCast, BitVec.toNat_ofNat]
  show u.toNat = _
  omega
