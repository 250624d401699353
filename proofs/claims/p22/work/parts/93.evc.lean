/-! .. plan, reason, move, drop, starts, wishes, what an act is worth, load, noise, channels, whether all is fine -/
section EC
variable {σ σ' : Nat → Nat → Int} {d : Da}
abbrev aOn (a : Ac) : Int := a.2.2.2.2.2.2.2.1
def mkA (sg sa ln ph dr lo ch on w : Int) : Ac := (sg, sa, ln, ph, dr, lo, ch, on, w)
theorem ES_lay (h : ES σ d) {n : Nat} (hn : n < 16) {sg sa ln ph dr lo ch : Int} (b : (0 ≤ sg ∧ sg ≤ 2) ∧ (0 ≤ sa ∧ sa ≤ 999) ∧ (1 ≤ ln ∧ ln ≤ 200) ∧ (0 ≤ ph ∧ ph ≤ 2) ∧ (0 ≤ dr ∧ dr ≤ 200) ∧ (0 ≤ lo ∧ lo ≤ 200) ∧ (-1 ≤ ch ∧ ch ≤ 31)) : ES (lay σ n sg sa ln ph dr lo ch) (stA d n (mkA sg sa ln ph dr lo ch 1 (ga d.2.2.2.2.1 n).2.2.2.2.2.2.2.2)) := by
  have e := ES_ac h hn
  obtain ⟨b1, b2, b3, b4, b5, b6, b7⟩ := b
  refine ES_act h hn ?_ (fun r hr => ?_) (fun j hj r h1 h2 => ?_) ?_
  · unfold lay
    exact GI_u14 (GI_u13 (GI_u12 (GI_u11 (GI_u10 (GI_u9 (GI_u8 (GI_u7 h.1 b1) b2) (by omega)) b4) b5) b6) b7) (by decide)
  · unfold lay
    rw [u2_row (by omega), u2_row (by omega), u2_row (by omega), u2_row (by omega), u2_row (by omega), u2_row (by omega), u2_row (by omega), u2_row (by omega)]
  · unfold lay
    rw [u2_ne hj, u2_ne hj, u2_ne hj, u2_ne hj, u2_ne hj, u2_ne hj, u2_ne hj, u2_ne hj]
  · obtain ⟨e7, e8, e9, e10, e11, e12, e13, e14, e15⟩ := e
    unfold Ek lay mkA
    refine ⟨?_, fun _ => ?_, ?_, ?_, ?_, ?_, ?_, ?_, ?_⟩
    · rw [u2_row (by decide), u2_row (by decide), u2_row (by decide), u2_row (by decide), u2_row (by decide), u2_row (by decide), u2_row (by decide), u2_at]
    · rw [u2_row (by decide), u2_row (by decide), u2_row (by decide), u2_row (by decide), u2_row (by decide), u2_row (by decide), u2_at]
    · rw [u2_row (by decide), u2_row (by decide), u2_row (by decide), u2_row (by decide), u2_row (by decide), u2_at]
    · rw [u2_row (by decide), u2_row (by decide), u2_row (by decide), u2_row (by decide), u2_at]
    · rw [u2_row (by decide), u2_row (by decide), u2_row (by decide), u2_at]
    · rw [u2_row (by decide), u2_row (by decide), u2_at]
    · rw [u2_row (by decide), u2_at]
    · rw [u2_at]
    · rw [u2_row (by decide), u2_row (by decide), u2_row (by decide), u2_row (by decide), u2_row (by decide), u2_row (by decide), u2_row (by decide), u2_row (by decide)]; exact e15
def dL (d : Da) (n : Nat) (sg sa ln ph dr lo ch on : Int) : Da := stA d n (mkA sg sa ln ph dr lo ch on (ga d.2.2.2.2.1 n).2.2.2.2.2.2.2.2)
theorem stA_stA {k : Nat} {a b : Ac} : stA (stA d k a) k b = stA d k b := by
  unfold stA
  simp only [List.set_set]
theorem ga_stA (hs : shp d = true) {k : Nat} (hk : k < 16) {a : Ac} : ga (stA d k a).2.2.2.2.1 k = a := by
  have hl : d.2.2.2.2.1.length = 16 := by
    unfold shp at hs
    simp only [Bool.and_eq_true, decide_eq_true_eq] at hs
    exact hs.1.2
  show ga (d.2.2.2.2.1.set k a) k = a
  rw [ga_set _ _ _ _ (by omega), if_pos rfl]
theorem thL_b {sg sa ln ph dr lo ch : Int} (h0 : thL σ sg sa ln ph dr lo ch = 0) : ((0 ≤ sg ∧ sg ≤ 2) ∧ (0 ≤ sa ∧ sa ≤ 999) ∧ (1 ≤ ln ∧ ln ≤ 200) ∧ (0 ≤ ph ∧ ph ≤ 2) ∧ (0 ≤ dr ∧ dr ≤ 200) ∧ (0 ≤ lo ∧ lo ≤ 200) ∧ (-1 ≤ ch ∧ ch ≤ 31)) ∧ σ 0 1 ≠ 16 := by
  unfold thL at h0
  split at h0
  · split at h0
    · split at h0
      · omega
      · rename_i q1 q2 q3; exact ⟨⟨q1.1, q2.1, q2.2.1, q1.2, q2.2.2.1, q2.2.2.2.1, q2.2.2.2.2⟩, q3⟩
    · omega
  · omega
theorem lay_ev (h : ES σ d) {sg sa ln ph dr lo ch : Int} (h0 : thL σ sg sa ln ph dr lo ch = 0) : (σ 0 1).toNat = d.2.2.2.2.2.1.toNat ∧ d.2.2.2.2.2.1.toNat < 16 ∧ ES (lay σ d.2.2.2.2.2.1.toNat sg sa ln ph dr lo ch) (dL d d.2.2.2.2.2.1.toNat sg sa ln ph dr lo ch 1) ∧ bby (lay σ d.2.2.2.2.2.1.toNat sg sa ln ph dr lo ch) d.2.2.2.2.2.1.toNat = bbF (dL d d.2.2.2.2.2.1.toNat sg sa ln ph dr lo ch 1) d.2.2.2.2.2.1.toNat := by
  obtain ⟨b, hn⟩ := thL_b h0
  have g := GI_01 h.1
  have ea := h.2.2.2.2.2.2.1.1
  have hn : d.2.2.2.2.2.1.toNat < 16 := by omega
  have h1 := ES_lay h hn b
  refine ⟨by rw [ea], hn, h1, bb_ev h1 hn ?_⟩
  rw [ga_stA h.2.1 hn]
  show (1 : Int) ≠ 0
  decide
/-- an act that was laid is taken off -/
theorem layoff_ev (h : ES σ d) {n : Nat} (hn : n < 16) {sg sa ln ph dr lo ch : Int} (h1 : ES (lay σ n sg sa ln ph dr lo ch) (dL d n sg sa ln ph dr lo ch 1)) : ES (u2 (lay σ n sg sa ln ph dr lo ch) 14 n 0) (dL d n sg sa ln ph dr lo ch 0) := by
  have h2 := ES_off h1 hn
  have e : ga (dL d n sg sa ln ph dr lo ch 1).2.2.2.2.1 n = mkA sg sa ln ph dr lo ch 1 (ga d.2.2.2.2.1 n).2.2.2.2.2.2.2.2 := ga_stA h.2.1 hn
  rw [e] at h2
  have e2 : stA (dL d n sg sa ln ph dr lo ch 1) n (sg, sa, ln, ph, dr, lo, ch, 0, (ga d.2.2.2.2.1 n).2.2.2.2.2.2.2.2) = dL d n sg sa ln ph dr lo ch 0 := stA_stA
  rw [← e2]
  exact h2
theorem ev_reason (h : ES σ d) {sg sa ln ph dr lo ch z : Int} (h0 : thL σ sg sa ln ph dr lo ch = 0) (hz : z = bby (lay σ (σ 0 1).toNat sg sa ln ph dr lo ch) (σ 0 1).toNat) (hs : σ' = u2 (lay σ (σ 0 1).toNat sg sa ln ph dr lo ch) 14 (σ 0 1).toNat 0) :
    z = bbF (dL d d.2.2.2.2.2.1.toNat sg sa ln ph dr lo ch 1) d.2.2.2.2.2.1.toNat ∧ ES σ' (dL d d.2.2.2.2.2.1.toNat sg sa ln ph dr lo ch 0) := by
  obtain ⟨e, hn, h1, h2⟩ := lay_ev h h0
  rw [e] at hz hs
  subst hs
  exact ⟨by rw [hz, h2], layoff_ev h hn h1⟩
theorem ev_plan (h : ES σ d) {sg sa ln ph dr lo ch z : Int} (h0 : thL σ sg sa ln ph dr lo ch = 0)
    (hp : (bby (lay σ (σ 0 1).toNat sg sa ln ph dr lo ch) (σ 0 1).toNat ≠ 0 ∧ z = -1 ∧ σ' = u2 (lay σ (σ 0 1).toNat sg sa ln ph dr lo ch) 14 (σ 0 1).toNat 0) ∨ (bby (lay σ (σ 0 1).toNat sg sa ln ph dr lo ch) (σ 0 1).toNat = 0 ∧ z = σ 0 1 ∧ σ' = u2 (lay σ (σ 0 1).toNat sg sa ln ph dr lo ch) 0 1 (σ 0 1 + 1))) :
    z = (if bbF (dL d d.2.2.2.2.2.1.toNat sg sa ln ph dr lo ch 1) d.2.2.2.2.2.1.toNat = 0 then d.2.2.2.2.2.1 else -1) ∧ ES σ' (if bbF (dL d d.2.2.2.2.2.1.toNat sg sa ln ph dr lo ch 1) d.2.2.2.2.2.1.toNat = 0 then stN' (dL d d.2.2.2.2.2.1.toNat sg sa ln ph dr lo ch 1) (d.2.2.2.2.2.1 + 1) else dL d d.2.2.2.2.2.1.toNat sg sa ln ph dr lo ch 0) := by
  obtain ⟨e, hn, h1, h2⟩ := lay_ev h h0
  have ea := h.2.2.2.2.2.2.1.1
  have g := GI_01 h.1
  rw [e] at hp
  rcases hp with ⟨q, rfl, rfl⟩ | ⟨q, rfl, rfl⟩
  · rw [h2] at q
    rw [if_neg q, if_neg q]
    exact ⟨rfl, layoff_ev h hn h1⟩
  · rw [h2] at q
    rw [if_pos q, if_pos q, ea]
    exact ⟨rfl, ES_na h1 (by omega)⟩
theorem thM_b {a mi : Int} (h : ES σ d) (h0 : thM σ a mi = 0) : (0 ≤ a ∧ a ≤ d.2.2.2.2.2.1 - 1) ∧ a.toNat < 16 ∧ (0 ≤ mi ∧ mi ≤ 999) ∧ aOn (ga d.2.2.2.2.1 a.toNat) ≠ 0 := by
  have g := GI_01 h.1
  have ea := h.2.2.2.2.2.2.1.1
  unfold thM at h0
  split at h0
  · split at h0
    · split at h0
      · omega
      · rename_i q1 q2 q3
        have hk : a.toNat < 16 := by omega
        have e := ES_ac h hk
        exact ⟨by omega, hk, q2, by unfold aOn; rw [← e.2.2.2.2.2.2.2.1]; exact q3⟩
    · omega
  · omega
def dM (d : Da) (k : Nat) (m : Int) : Da := stA d k ((ga d.2.2.2.2.1 k).1, m, (ga d.2.2.2.2.1 k).2.2)
theorem ga_dM (hs : shp d = true) {k : Nat} (hk : k < 16) {m : Int} : ga (dM d k m).2.2.2.2.1 k = ((ga d.2.2.2.2.1 k).1, m, (ga d.2.2.2.2.1 k).2.2) := ga_stA hs hk
theorem ev_move (h : ES σ d) {a mi z : Int} (h0 : thM σ a mi = 0) (hc : CS σ (u2 σ 8 a.toNat mi) (bby (u2 σ 8 a.toNat mi) a.toNat = 0) z σ') : z = (if (bbF (dM d a.toNat mi) a.toNat == 0) = true then 1 else 0) ∧ ES σ' (if (bbF (dM d a.toNat mi) a.toNat == 0) = true then dM d a.toNat mi else d) := by
  obtain ⟨b1, b2, b3, b4⟩ := thM_b h h0
  have h1 : ES (u2 σ 8 a.toNat mi) (dM d a.toNat mi) := ES_start h b2 b3
  refine ev_CS h h1 ?_ hc
  rw [beq_iff_eq, bb_ev h1 b2 (by rw [ga_dM h.2.1 b2]; exact b4)]
def dO (d : Da) (k : Nat) : Da := stA d k ((ga d.2.2.2.2.1 k).1, (ga d.2.2.2.2.1 k).2.1, (ga d.2.2.2.2.1 k).2.2.1, (ga d.2.2.2.2.1 k).2.2.2.1, (ga d.2.2.2.2.1 k).2.2.2.2.1, (ga d.2.2.2.2.1 k).2.2.2.2.2.1, (ga d.2.2.2.2.1 k).2.2.2.2.2.2.1, 0, (ga d.2.2.2.2.1 k).2.2.2.2.2.2.2.2)
theorem ev_drop (h : ES σ d) {a : Int} (h0 : thD σ a = 0) (hs : σ' = u2 σ 14 a.toNat 0) : ES σ' (dO d a.toNat) := by
  subst hs
  have g := GI_01 h.1
  exact ES_off h (by unfold thD at h0; split at h0 <;> omega)
theorem ev_start (h : ES σ d) {a z : Int} (ha : 0 ≤ a ∧ a < 16) (hz : z = if σ 14 a.toNat = 0 then -1 else σ 8 a.toNat) : z = if aOn (ga d.2.2.2.2.1 a.toNat) = 0 then -1 else (ga d.2.2.2.2.1 a.toNat).2.1 := by
  have e := ES_ac h (k := a.toNat) (by omega)
  rw [hz, e.2.2.2.2.2.2.2.1]
  split
  · rfl
  · rename_i q; exact e.2.1 (Or.inl q)
theorem ev_ofAct (h : ES σ d) {a wh z : Int} (ha : 0 ≤ a ∧ a < 16) (hz : z = if wh = 0 then σ 11 a.toNat else if wh = 1 then σ 12 a.toNat else σ 13 a.toNat) : z = if wh = 0 then (ga d.2.2.2.2.1 a.toNat).2.2.2.2.1 else if wh = 1 then (ga d.2.2.2.2.1 a.toNat).2.2.2.2.2.1 else (ga d.2.2.2.2.1 a.toNat).2.2.2.2.2.2.1 := by
  have e := ES_ac h (k := a.toNat) (by omega)
  rw [hz, e.2.2.2.2.1, e.2.2.2.2.2.1, e.2.2.2.2.2.2.1]
theorem ev_load (h : ES σ d) {mi ph z : Int} (hp : 0 ≤ ph) (hz : z = ldS σ mi ph.toNat 16) : z = ldL (d.2.2.2.2.1.filter (plA mi)) ph := by
  rw [hz, ld_ev h]
  congr 1
  omega
theorem ev_noise (h : ES σ d) {mi hs z : Int} (hm : 0 ≤ mi ∧ mi ≤ 999) (hp : 0 ≤ hs) (hz : z = nsS σ mi (wd σ mi) hs.toNat 16) : z = nsL (d.2.2.2.2.1.filter (plA mi)) hs (gt d.2.2.2.1 (mi / 60).toNat) := by
  rw [hz, ns_ev h, show wd σ mi = gt d.2.2.2.1 (mi / 60).toNat from h.2.2.2.2.2.1 _ (by omega)]
  congr 1
  omega
def chF (d : Da) (m : Int) : Int := (d.2.2.2.2.1.filter (plA m)).foldl (fun s a => if a.2.2.2.2.2.2.1 = -1 then s else ior s (ish 1 a.2.2.2.2.2.2.1)) 0
theorem ev_channels (h : ES σ d) {mi z : Int} (hz : z = chS σ mi 16) : z = chF d mi := by rw [hz, ch_ev h]; rfl
def aFit (d : Da) : Bool := (List.range 16).all fun k => aOn (ga d.2.2.2.2.1 k) == 0 || fitF d k
theorem ev_Fine (h : ES σ d) (h1 : aFit d = true) (h2 : bwF d 0 1000 = 0) : Fine σ := by
  refine ⟨fun k hk ho => ?_, ?_⟩
  · have e := ES_ac h hk
    unfold aFit at h1
    have := List.all_eq_true.mp h1 k (List.mem_range.mpr hk)
    simp only [Bool.or_eq_true, beq_iff_eq] at this
    rw [e.2.2.2.2.2.2.2.1] at ho
    rcases this with q | q
    · exact absurd q ho
    · exact (fit_ev h hk ho).mpr q
  · have e := bw_ev h (a := 0) (by decide) 1000 (by decide)
    rw [h2] at e
    have := bw_0.mp e
    intro m a b
    exact this m a (by simpa using b)
theorem ev_isFine (h : ES σ d) (h1 : aFit d = true) (h2 : bwF d 0 1000 = 0) {z : Int} (hz : z = b2i (fineM σ)) : z = 1 := by
  rw [hz]
  exact b2i_t (fineM_of (ev_Fine h h1 h2) h.1)
/-- the first start that is fine -/
def okF (d : Da) (k : Nat) (sx : Int) : Bool := fitF (dM d k sx) k && (List.range (ga d.2.2.2.2.1 k).2.2.1.toNat).all fun j => decide (ptF (dM d k (sx + j)) (sx + j) = 0)
theorem ok_ev (h : ES σ d) {k : Nat} (hk : k < 16) (ho : aOn (ga d.2.2.2.2.1 k) ≠ 0) {sx : Int} (h0 : 0 ≤ sx) (h1 : sx + (ga d.2.2.2.2.1 k).2.2.1 ≤ 1000) (hl : 1 ≤ (ga d.2.2.2.2.1 k).2.2.1) : okS σ k sx ↔ okF d k sx = true := by
  have e := ES_ac h hk
  have e9 := e.2.2.1
  have hm : ∀ m, sx ≤ m → m < sx + (ga d.2.2.2.2.1 k).2.2.1 → pt (u2 σ 8 k m) m = ptF (dM d k m) m := fun m a b => pt_ev (ES_start h hk (by omega)) (by omega)
  unfold okS okF
  rw [e9]
  simp only [Bool.and_eq_true, List.all_eq_true, List.mem_range, decide_eq_true_eq]
  have hs1 : ES (u2 σ 8 k sx) (dM d k sx) := ES_start h hk (by omega)
  rw [← fit_ev hs1 hk (by rw [ga_dM h.2.1 hk]; exact ho)]
  constructor
  · rintro ⟨a, b⟩
    exact ⟨b, fun j hj => by rw [← hm (sx + j) (by omega) (by omega)]; exact a (sx + j) (by omega) (by omega)⟩
  · rintro ⟨b, a⟩
    refine ⟨fun m m1 m2 => ?_, b⟩
    have := a (m - sx).toNat (by omega)
    rw [show sx + ((m - sx).toNat : Int) = m by omega] at this
    rw [hm m m1 m2]
    exact this
def ffF (d : Da) (k : Nat) : Nat → Int → Int
  | 0, _ => -1
  | n + 1, sx => if 1000 < sx + (ga d.2.2.2.2.1 k).2.2.1 then -1 else if okF d k sx = true then sx else ffF d k n (sx + 1)
theorem ff_none (h : ES σ d) {k : Nat} (hk : k < 16) (ho : aOn (ga d.2.2.2.2.1 k) ≠ 0) (hl : 1 ≤ (ga d.2.2.2.2.1 k).2.2.1) : ∀ (n : Nat) (sx : Int), 0 ≤ sx → (∀ x, sx ≤ x → x + (ga d.2.2.2.2.1 k).2.2.1 ≤ 1000 → ¬ okS σ k x) → ffF d k n sx = -1 := by
  intro n
  induction n with
  | zero => intro sx _ _; rfl
  | succ n ih =>
    intro sx h0 hq
    simp only [ffF]
    split
    · rfl
    · rename_i q1
      rw [if_neg (fun z => hq sx (Int.le_refl _) (by omega) ((ok_ev h hk ho h0 (by omega) hl).mpr z))]
      exact ih (sx + 1) (by omega) (fun x a b => hq x (by omega) b)
theorem ff_some (h : ES σ d) {k : Nat} (hk : k < 16) (ho : aOn (ga d.2.2.2.2.1 k) ≠ 0) (hl : 1 ≤ (ga d.2.2.2.2.1 k).2.2.1) {z : Int} (hz1 : z + (ga d.2.2.2.2.1 k).2.2.1 ≤ 1000) (hz2 : okS σ k z) : ∀ (n : Nat) (sx : Int), 0 ≤ sx → sx ≤ z → z - sx < n → (∀ x, sx ≤ x → x < z → ¬ okS σ k x) → ffF d k n sx = z := by
  intro n
  induction n with
  | zero => intro sx _ h1 h2 _; exfalso; have : z - sx < 0 := h2; omega
  | succ n ih =>
    intro sx h0 h1 h2 hq
    simp only [ffF]
    rw [if_neg (by omega)]
    by_cases q : sx = z
    · subst q
      rw [if_pos ((ok_ev h hk ho h0 hz1 hl).mp hz2)]
    · rw [if_neg (fun c => hq sx (Int.le_refl _) (by omega) ((ok_ev h hk ho h0 (by omega) hl).mpr c))]
      exact ih (sx + 1) (by omega) (by omega) (by omega) (fun x a b => hq x (by omega) b)
theorem ff_ev (h : ES σ d) {k : Nat} (hk : k < 16) (ho : aOn (ga d.2.2.2.2.1 k) ≠ 0) (hl : 1 ≤ (ga d.2.2.2.2.1 k).2.2.1) {fr z : Int} {σ1 : Nat → Nat → Int} (h0 : 0 ≤ fr ∧ fr ≤ 1000) (hf : FFS σ k fr z σ1) : z = ffF d k 1001 fr := by
  have e9 := (ES_ac h hk).2.2.1
  obtain ⟨_, hf⟩ := hf
  rw [e9] at hf
  rcases hf with ⟨rfl, q⟩ | ⟨q1, q2, q3, _, q4⟩
  · exact (ff_none h hk ho hl 1001 fr h0.1 q).symm
  · exact (ff_some h hk ho hl q2 q3 1001 fr h0.1 q1 (by omega) q4).symm
/-- a wish -/
def dG (d : Da) (k : Nat) (i : Int) : Da := stA d k ((ga d.2.2.2.2.1 k).1, (ga d.2.2.2.2.1 k).2.1, (ga d.2.2.2.2.1 k).2.2.1, (ga d.2.2.2.2.1 k).2.2.2.1, max 0 (min (wD i (ga d.2.2.2.2.1 k).2.2.2.2.1) 200), max 0 (min (wL i (ga d.2.2.2.2.1 k).2.2.2.2.2.1) 200), wC i (ga d.2.2.2.2.1 k).2.2.2.2.2.2.1, (ga d.2.2.2.2.1 k).2.2.2.2.2.2.2)
theorem ES_grT (h : ES σ d) {k : Nat} (hk : k < 16) {i : Int} : ES (grT σ k i) (dG d k i) := by
  have e := ES_ac h hk
  refine ES_act h hk (GI_grT h.1) (fun r hr => ?_) (fun j hj r h1 h2 => ?_) ?_
  · unfold grT
    rw [u2_row (by omega), u2_row (by omega), u2_row (by omega)]
  · unfold grT
    rw [u2_ne hj, u2_ne hj, u2_ne hj]
  · obtain ⟨e7, e8, e9, e10, e11, e12, e13, e14, e15⟩ := e
    unfold Ek grT
    refine ⟨?_, fun q => ?_, ?_, ?_, ?_, ?_, ?_, ?_, ?_⟩
    · rw [u2_row (by decide), u2_row (by decide), u2_row (by decide)]; exact e7
    · rw [u2_row (by decide), u2_row (by decide), u2_row (by decide)]; exact e8 q
    · rw [u2_row (by decide), u2_row (by decide), u2_row (by decide)]; exact e9
    · rw [u2_row (by decide), u2_row (by decide), u2_row (by decide)]; exact e10
    · rw [u2_row (by decide), u2_row (by decide), u2_at, e11]
    · rw [u2_row (by decide), u2_at, e12]
    · rw [u2_at, e13]
    · rw [u2_row (by decide), u2_row (by decide), u2_row (by decide)]; exact e14
    · rw [u2_row (by decide), u2_row (by decide), u2_row (by decide)]; exact e15
theorem ev_grant (h : ES σ d) {a i z : Int} (ha : 0 ≤ a ∧ a ≤ σ 0 1 - 1) (ho : σ 14 a.toNat ≠ 0) (hc : CS σ (grT σ a.toNat i) (bby (grT σ a.toNat i) a.toNat = 0) z σ') : z = (if (bbF (dG d a.toNat i) a.toNat == 0) = true then 1 else 0) ∧ ES σ' (if (bbF (dG d a.toNat i) a.toNat == 0) = true then dG d a.toNat i else d) := by
  have g := GI_01 h.1
  have hk : a.toNat < 16 := by omega
  have h1 := ES_grT h hk (i := i)
  have e := ES_ac h hk
  refine ev_CS h h1 ?_ hc
  rw [beq_iff_eq, ← bb_ev h1 hk ?_]
  show (ga (stA d a.toNat _).2.2.2.2.1 a.toNat).2.2.2.2.2.2.2.1 ≠ 0
  rw [ga_stA h.2.1 hk]
  rw [e.2.2.2.2.2.2.2.1] at ho
  exact ho
end EC
