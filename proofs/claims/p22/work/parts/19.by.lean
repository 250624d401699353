/-- the least broken point of the minutes from a to before mj -/
def bwI (σ : Nat → Nat → Int) (a mj best : Int) : Prop := (∀ m, a ≤ m → m < mj → pt σ m ≠ 2) ∧ ((best = 0 ∧ ∀ m, a ≤ m → m < mj → pt σ m = 0) ∨ (best = 3 ∧ ∃ m, a ≤ m ∧ m < mj ∧ pt σ m = 3) ∨ (best = 4 ∧ (∃ m, a ≤ m ∧ m < mj ∧ pt σ m = 4) ∧ ∀ m, a ≤ m → m < mj → pt σ m ≠ 3))
theorem pt_1 {σ : Nat → Nat → Int} {mi : Int} : pt σ mi ≠ 1 := by
  unfold pt
  rcases Classical.em (bad2 σ mi) with h | h
  · rw [ie_t h]; decide
  · rw [ie_f h]
    rcases Classical.em (bad3 σ mi) with h | h
    · rw [ie_t h]; decide
    · rw [ie_f h]
      rcases Classical.em (bad4 σ mi) with h | h
      · rw [ie_t h]; decide
      · rw [ie_f h]; decide
theorem bwI_rg {σ : Nat → Nat → Int} {a mj best : Int} (h : bwI σ a mj best) : 0 ≤ best ∧ best ≤ 4 := by
  rcases h.2 with h | h | h
  · omega
  · omega
  · omega
theorem bwI_0 {σ : Nat → Nat → Int} {a : Int} : bwI σ a a 0 := ⟨fun m h1 h2 => by omega, Or.inl ⟨rfl, fun m h1 h2 => by omega⟩⟩
theorem bwI_s {σ : Nat → Nat → Int} {a mj best new : Int} (h : bwI σ a mj best) (ha : a ≤ mj) (h2 : pt σ mj ≠ 2) (hn : (pt σ mj = 0 ∧ new = best) ∨ (pt σ mj ≠ 0 ∧ (best = 0 ∨ pt σ mj < best) ∧ new = pt σ mj) ∨ (pt σ mj ≠ 0 ∧ best ≠ 0 ∧ best ≤ pt σ mj ∧ new = best)) : bwI σ a (mj + 1) new := by
  obtain ⟨h1, h3⟩ := h
  have hp := @pt_rg σ mj
  have hp1 := @pt_1 σ mj
  have e : ∀ m, m < mj + 1 → m < mj ∨ m = mj := fun m q => by omega
  refine ⟨fun m q1 q2 => ?_, ?_⟩
  · rcases e m q2 with q | q
    · exact h1 m q1 q
    · rw [q]; exact h2
  rcases h3 with ⟨b0, h0⟩ | ⟨b3, m3, x1, x2, x3⟩ | ⟨b4, ⟨m4, x1, x2, x3⟩, h4⟩
  · by_cases z : pt σ mj = 0
    · refine Or.inl ⟨by omega, fun m q1 q2 => ?_⟩
      rcases e m q2 with q | q
      · exact h0 m q1 q
      · rw [q]; exact z
    · by_cases z3 : pt σ mj = 3
      · exact Or.inr (Or.inl ⟨by omega, mj, ha, by omega, z3⟩)
      · refine Or.inr (Or.inr ⟨by omega, ⟨mj, ha, by omega, by omega⟩, fun m q1 q2 => ?_⟩)
        rcases e m q2 with q | q
        · have := h0 m q1 q; omega
        · rw [q]; exact z3
  · exact Or.inr (Or.inl ⟨by omega, m3, x1, by omega, x3⟩)
  · by_cases z3 : pt σ mj = 3
    · exact Or.inr (Or.inl ⟨by omega, mj, ha, by omega, z3⟩)
    · refine Or.inr (Or.inr ⟨by omega, ⟨m4, x1, by omega, x3⟩, fun m q1 q2 => ?_⟩)
      rcases e m q2 with q | q
      · exact h4 m q1 q
      · rw [q]; exact z3
theorem bw_of {σ : Nat → Nat → Int} {a b mj best : Int} (h : bwI σ a mj best) (h1 : b ≤ mj) (h2 : mj ≤ b ∨ mj = a) : best = bw σ a b := by
  obtain ⟨g1, g2⟩ := h
  have n2 : ¬ ∃ m, a ≤ m ∧ m < b ∧ pt σ m = 2 := by rintro ⟨m, q1, q2, q3⟩; exact g1 m q1 (by omega) q3
  unfold bw
  rw [ie_f n2]
  rcases g2 with ⟨b0, h0⟩ | ⟨b3, m3, x1, x2, x3⟩ | ⟨b4, ⟨m4, x1, x2, x3⟩, h4⟩
  · rw [ie_f (by rintro ⟨m, q1, q2, q3⟩; have := h0 m q1 (by omega); omega), ie_f (by rintro ⟨m, q1, q2, q3⟩; have := h0 m q1 (by omega); omega)]; exact b0
  · rw [ie_t ⟨m3, x1, by omega, x3⟩]; exact b3
  · rw [ie_f (by rintro ⟨m, q1, q2, q3⟩; exact h4 m q1 (by omega) q3), ie_t ⟨m4, x1, by omega, x3⟩]; exact b4
theorem bw_2 {σ : Nat → Nat → Int} {a b mj : Int} (h1 : a ≤ mj) (h2 : mj < b) (h : pt σ mj = 2) : bw σ a b = 2 := ie_t ⟨mj, h1, h2, h⟩
theorem bw_rg {σ : Nat → Nat → Int} {a b : Int} : 0 ≤ bw σ a b ∧ bw σ a b ≤ 4 := by
  unfold bw
  rcases Classical.em (∃ m, a ≤ m ∧ m < b ∧ pt σ m = 2) with h | h
  · rw [ie_t h]; decide
  · rw [ie_f h]
    rcases Classical.em (∃ m, a ≤ m ∧ m < b ∧ pt σ m = 3) with h | h
    · rw [ie_t h]; decide
    · rw [ie_f h]
      rcases Classical.em (∃ m, a ≤ m ∧ m < b ∧ pt σ m = 4) with h | h
      · rw [ie_t h]; decide
      · rw [ie_f h]; decide
theorem bby_rg {σ : Nat → Nat → Int} {k : Nat} : 0 ≤ bby σ k ∧ bby σ k ≤ 4 := by
  unfold bby
  rcases Classical.em (fits' σ k) with h | h
  · rw [ie_t h]; exact bw_rg
  · rw [ie_f h]; decide

set_option maxRecDepth 100000 in
set_option maxHeartbeats 4000000 in
theorem c_X3_brokenWithin (l : Launch) (h : Nat → Nat) (D : va_G) (c : Nat → ClassId) (σ κ : Nat → Nat → Int) (ω : Nat × (Nat → Int32) × Int32) (hinj : ∀ i j, i < 32 → j < 32 → h i = h j → i = j) (hG : GI σ) (a : Int) (b : Int) (hab : 0 ≤ a ∧ a ≤ 1000 ∧ b ≤ 1000 ∧ 0 ≤ b) :
    zMi (S := Nat → Nat → Int) l yX3_brokenWithin cX3_brokenWithin 6 (some .int) 4 97 [.ref (h (0)), .int (iz (a)), .int (iz (b))] 32 h D (gT c) (gC c h (σ) (κ) (ω)) (fun κ9 => gC c h σ κ9 ω) (fun z _ => z = bw σ a b) := by
  refine zM_of (by decide) (Nat.le_of_ble_eq_true rfl) ?_
  intro p e s m below meth cd ls ⟨hF, hr, hlocks, hK⟩ hP hl
  have hz : zD (zA 32 h s.heap.size) 32 h := zD.self hinj s.heap.size
  have hA : ∀ q, s.heap.size ≤ q → zA 32 h s.heap.size q := zA_new
  generalize zA 32 h s.heap.size = A at hz hA ⊢
  have hS : va_S A s.heap s.heap [] := va_S.rf
  have hl : lv_has ls 6 [(0, .ref (h (0))), (1, .int (iz (a))), (2, .int (iz (b)))] := hl
  refine zi_const hF.1 hF.2.1 dX3_brokenWithin_0 ?_
  refine lv_istore_n (lv' := [(3, .int (iz (0))), (0, .ref (h (0))), (1, .int (iz (a))), (2, .int (iz (b)))]) hF.1 hF.2.1 dX3_brokenWithin_1 rfl hl (by decide) rfl (fun ls hl => ?_)
  refine lv_iload_n hF.1 hF.2.1 dX3_brokenWithin_2 rfl (lv_at hl 2 rfl) ?_
  refine lv_istore (lv' := [(4, .int (iz (a))), (3, .int (iz (0))), (0, .ref (h (0))), (1, .int (iz (a))), (2, .int (iz (b)))]) hF.1 hF.2.1 dX3_brokenWithin_3 hl (by decide) rfl (fun ls hl => ?_)
  have nv_2 : (a ≤ (a) ∧ ((a) ≤ b ∨ (a) = a)) ∧ (bwI σ a (a) (0)) := ⟨by omega, bwI_0⟩
  refine z_loop (V := Int × Int × (Nat → Nat → Int)) (nL := 6) (wd := fun v_1 => gC c h (σ) (v_1.2.2) (ω)) (lv := fun v_1 => [(0, .ref (h (0))), (1, .int (iz (a))), (2, .int (iz (b))), (3, .int (iz (v_1.2.1))), (4, .int (iz (v_1.1)))]) (stk := fun v_1 => []) (mu := fun v_1 => (b + 1 - v_1.1).toNat) (inv := fun v_1 => (a ≤ v_1.1 ∧ (v_1.1 ≤ b ∨ v_1.1 = a)) ∧ (bwI σ a v_1.1 v_1.2.1)) ?_ (a, 0, κ) nv_2 hP hS (lv_sub hl [2, 3, 4, 1, 0] rfl)
  intro ⟨mj, best, κ1⟩ hv ih_5 H locs ls hP hS hl
  have hP : zB 32 h D (gC c h (σ) (κ1) (ω)) H := hP
  have hl : lv_has ls 6 [(0, .ref (h (0))), (1, .int (iz (a))), (2, .int (iz (b))), (3, .int (iz (best))), (4, .int (iz (mj)))] := hl
  obtain ⟨hmj, hI⟩ : (a ≤ mj ∧ (mj ≤ b ∨ mj = a)) ∧ (bwI σ a mj best) := hv
  have hbr := bwI_rg hI
  refine lv_iload hF.1 hF.2.1 dX3_brokenWithin_5 (lv_at hl 4 rfl) ?_
  refine lv_iload_n hF.1 hF.2.1 dX3_brokenWithin_7 rfl (lv_at hl 2 rfl) ?_
  refine zi_icmp_ge (tgt := 51) hF.1 hF.2.1 (a := mj) (b := b) dX3_brokenWithin_8 (by decide) (by omega) (by omega) (fun c_8 => ?_) (fun c_8 => ?_)
  · skip
    refine lv_iload_n hF.1 hF.2.1 dX3_brokenWithin_51 rfl (lv_at hl 3 rfl) ?_
    exact z_reti (P := fun z _ => z = bw σ a b) (z := best) (u := κ1) (w := fun κ9 => gC c h σ κ9 ω) hF hr hlocks hP hS (rfl) (bw_of hI (by omega) (by omega)) dX3_brokenWithin_52
  · skip
    refine lv_aload_n hF.1 hF.2.1 dX3_brokenWithin_11 rfl (lv_at hl 0 rfl) ?_
    refine lv_iload hF.1 hF.2.1 dX3_brokenWithin_12 (lv_at hl 4 rfl) ?_
    refine z_ci (S := Nat → Nat → Int) (w := fun κ9 => gC c h σ κ9 ω) (P := fun z _ => z = pt σ mj) (z_runV (rm := { frames := 3, cells := 0, slots := 0, locals := 71 }) hF hK hP (c_X3_brokenAt l h D c σ κ1 ω hinj hG mj (by omega) _) (gIn_V mw_149 mw_150 mw_151 mw_86 mw_148) rfl rfl ⟨rfl, by decide, by decide, rfl⟩ ⟨Nat.le_of_ble_eq_true rfl, Nat.le_of_ble_eq_true rfl⟩ (k := 0) (T := TX3) (N := 14) (by omega) rfl (rfl) rfl (As := [.int (iz (mj))]) (rest := []) rfl hl.1 rfl (Nat.le_of_ble_eq_true rfl) dX3_brokenWithin_14 ⟨Nat.le_refl _, Nat.le_refl _⟩) hz hA hS (fun z_3 u_4 H locs hp hP hS => ?_)
    obtain rfl : z_3 = pt σ mj := hp
    have hP : zB 32 h D (gC c h (σ) (u_4) (ω)) H := hP
    have q_5 := @pt_rg σ mj
    refine lv_istore (lv' := [(5, .int (iz (pt σ mj))), (0, .ref (h (0))), (1, .int (iz (a))), (2, .int (iz (b))), (3, .int (iz (best))), (4, .int (iz (mj)))]) hF.1 hF.2.1 dX3_brokenWithin_17 hl (by decide) rfl (fun ls hl => ?_)
    refine lv_iload hF.1 hF.2.1 dX3_brokenWithin_19 (lv_at hl 0 rfl) ?_
    refine zi_const hF.1 hF.2.1 dX3_brokenWithin_21 ?_
    refine zi_icmp_ne (tgt := 27) hF.1 hF.2.1 (a := pt σ mj) (b := 2) dX3_brokenWithin_22 (by decide) (by omega) (by omega) (fun c_22 => ?_) (fun c_22 => ?_)
    · skip
      refine lv_iload hF.1 hF.2.1 dX3_brokenWithin_27 (lv_at hl 0 rfl) ?_
      refine zi_if_eq (tgt := 45) hF.1 hF.2.1 (a := pt σ mj) dX3_brokenWithin_29 (by decide) (by omega) (fun c_29 => ?_) (fun c_29 => ?_)
      · skip
        refine lv_iinc (v := iz (mj + 1)) (lv' := [(4, .int (iz (mj + 1))), (5, .int (iz (pt σ mj))), (0, .ref (h (0))), (1, .int (iz (a))), (2, .int (iz (b))), (3, .int (iz (best)))]) hF.1 hF.2.1 dX3_brokenWithin_45 hl (k := 5) rfl ((iz_add _ _).trans (congrArg iz (by omega))) (by decide) rfl (fun ls hl => ?_)
        refine lv_goto (tgt := 5) hF.1 hF.2.1 dX3_brokenWithin_48 (by decide) ?_
        have nv_6 : (a ≤ (mj + 1) ∧ ((mj + 1) ≤ b ∨ (mj + 1) = a)) ∧ (bwI σ a (mj + 1) (best)) := ⟨by omega, bwI_s hI (by omega) (by omega) (by omega)⟩
        exact ih_5 (mj + 1, best, u_4) nv_6 (by show (b + 1 - (mj + 1)).toNat < (b + 1 - mj).toNat; omega) _ _ _ hP hS (lv_sub hl [2, 3, 4, 5, 0] rfl)
      · skip
        refine lv_iload_n hF.1 hF.2.1 dX3_brokenWithin_32 rfl (lv_at hl 4 rfl) ?_
        refine zi_if_eq (tgt := 42) hF.1 hF.2.1 (a := best) dX3_brokenWithin_33 (by decide) (by omega) (fun c_33 => ?_) (fun c_33 => ?_)
        · skip
          refine lv_iload hF.1 hF.2.1 dX3_brokenWithin_42 (lv_at hl 0 rfl) ?_
          refine lv_istore_n (lv' := [(3, .int (iz (pt σ mj))), (5, .int (iz (pt σ mj))), (0, .ref (h (0))), (1, .int (iz (a))), (2, .int (iz (b))), (4, .int (iz (mj)))]) hF.1 hF.2.1 dX3_brokenWithin_44 rfl hl (by decide) rfl (fun ls hl => ?_)
          refine lv_iinc (v := iz (mj + 1)) (lv' := [(4, .int (iz (mj + 1))), (3, .int (iz (pt σ mj))), (5, .int (iz (pt σ mj))), (0, .ref (h (0))), (1, .int (iz (a))), (2, .int (iz (b)))]) hF.1 hF.2.1 dX3_brokenWithin_45 hl (k := 5) rfl ((iz_add _ _).trans (congrArg iz (by omega))) (by decide) rfl (fun ls hl => ?_)
          refine lv_goto (tgt := 5) hF.1 hF.2.1 dX3_brokenWithin_48 (by decide) ?_
          have nv_7 : (a ≤ (mj + 1) ∧ ((mj + 1) ≤ b ∨ (mj + 1) = a)) ∧ (bwI σ a (mj + 1) (pt σ mj)) := ⟨by omega, bwI_s hI (by omega) (by omega) (by omega)⟩
          exact ih_5 (mj + 1, pt σ mj, u_4) nv_7 (by show (b + 1 - (mj + 1)).toNat < (b + 1 - mj).toNat; omega) _ _ _ hP hS (lv_sub hl [3, 4, 5, 1, 0] rfl)
        · skip
          refine lv_iload hF.1 hF.2.1 dX3_brokenWithin_36 (lv_at hl 0 rfl) ?_
          refine lv_iload_n hF.1 hF.2.1 dX3_brokenWithin_38 rfl (lv_at hl 4 rfl) ?_
          refine zi_icmp_ge (tgt := 45) hF.1 hF.2.1 (a := pt σ mj) (b := best) dX3_brokenWithin_39 (by decide) (by omega) (by omega) (fun c_39 => ?_) (fun c_39 => ?_)
          · skip
            refine lv_iinc (v := iz (mj + 1)) (lv' := [(4, .int (iz (mj + 1))), (5, .int (iz (pt σ mj))), (0, .ref (h (0))), (1, .int (iz (a))), (2, .int (iz (b))), (3, .int (iz (best)))]) hF.1 hF.2.1 dX3_brokenWithin_45 hl (k := 5) rfl ((iz_add _ _).trans (congrArg iz (by omega))) (by decide) rfl (fun ls hl => ?_)
            refine lv_goto (tgt := 5) hF.1 hF.2.1 dX3_brokenWithin_48 (by decide) ?_
            have nv_8 : (a ≤ (mj + 1) ∧ ((mj + 1) ≤ b ∨ (mj + 1) = a)) ∧ (bwI σ a (mj + 1) (best)) := ⟨by omega, bwI_s hI (by omega) (by omega) (by omega)⟩
            exact ih_5 (mj + 1, best, u_4) nv_8 (by show (b + 1 - (mj + 1)).toNat < (b + 1 - mj).toNat; omega) _ _ _ hP hS (lv_sub hl [2, 3, 4, 5, 0] rfl)
          · skip
            refine lv_iload hF.1 hF.2.1 dX3_brokenWithin_42 (lv_at hl 0 rfl) ?_
            refine lv_istore_n (lv' := [(3, .int (iz (pt σ mj))), (5, .int (iz (pt σ mj))), (0, .ref (h (0))), (1, .int (iz (a))), (2, .int (iz (b))), (4, .int (iz (mj)))]) hF.1 hF.2.1 dX3_brokenWithin_44 rfl hl (by decide) rfl (fun ls hl => ?_)
            refine lv_iinc (v := iz (mj + 1)) (lv' := [(4, .int (iz (mj + 1))), (3, .int (iz (pt σ mj))), (5, .int (iz (pt σ mj))), (0, .ref (h (0))), (1, .int (iz (a))), (2, .int (iz (b)))]) hF.1 hF.2.1 dX3_brokenWithin_45 hl (k := 5) rfl ((iz_add _ _).trans (congrArg iz (by omega))) (by decide) rfl (fun ls hl => ?_)
            refine lv_goto (tgt := 5) hF.1 hF.2.1 dX3_brokenWithin_48 (by decide) ?_
            have nv_9 : (a ≤ (mj + 1) ∧ ((mj + 1) ≤ b ∨ (mj + 1) = a)) ∧ (bwI σ a (mj + 1) (pt σ mj)) := ⟨by omega, bwI_s hI (by omega) (by omega) (by omega)⟩
            exact ih_5 (mj + 1, pt σ mj, u_4) nv_9 (by show (b + 1 - (mj + 1)).toNat < (b + 1 - mj).toNat; omega) _ _ _ hP hS (lv_sub hl [3, 4, 5, 1, 0] rfl)
    · skip
      refine zi_const hF.1 hF.2.1 dX3_brokenWithin_25 ?_
      exact z_reti (P := fun z _ => z = bw σ a b) (z := 2) (u := u_4) (w := fun κ9 => gC c h σ κ9 ω) hF hr hlocks hP hS (rfl) ((bw_2 (by omega) (by omega) c_22).symm) dX3_brokenWithin_26

set_option maxRecDepth 100000 in
set_option maxHeartbeats 4000000 in
theorem c_X3_brokenBy (l : Launch) (h : Nat → Nat) (D : va_G) (c : Nat → ClassId) (σ κ : Nat → Nat → Int) (ω : Nat × (Nat → Int32) × Int32) (hinj : ∀ i j, i < 32 → j < 32 → h i = h j → i = j) (hG : GI σ) (k : Nat) (hk : k < 16) :
    zMi (S := Nat → Nat → Int) l yX3_brokenBy cX3_brokenBy 2 (some .int) 5 122 [.ref (h (0)), .ref (h (k + 11))] 32 h D (gT c) (gC c h (σ) (κ) (ω)) (fun κ9 => gC c h σ κ9 ω) (fun z _ => z = bby σ k) := by
  refine zM_of (by decide) (Nat.le_of_ble_eq_true rfl) ?_
  intro p e s m below meth cd ls ⟨hF, hr, hlocks, hK⟩ hP hl
  have hz : zD (zA 32 h s.heap.size) 32 h := zD.self hinj s.heap.size
  have hA : ∀ q, s.heap.size ≤ q → zA 32 h s.heap.size q := zA_new
  generalize zA 32 h s.heap.size = A at hz hA ⊢
  have hS : va_S A s.heap s.heap [] := va_S.rf
  have hl : lv_has ls 2 [(0, .ref (h (0))), (1, .ref (h (k + 11)))] := hl
  refine lv_aload_n hF.1 hF.2.1 dX3_brokenBy_0 rfl (lv_at hl 0 rfl) ?_
  refine lv_aload_n hF.1 hF.2.1 dX3_brokenBy_1 rfl (lv_at hl 1 rfl) ?_
  refine z_ci (S := Unit) (w := fun _ => gC c h σ κ ω) (P := fun z _ => z = b2i (fits' σ k)) (z_runV (rm := { frames := 2, cells := 0, slots := 0, locals := 42 }) hF hK hP (c_X3_fitsOnStage l h D c σ κ ω hinj hG k (by omega) _) (gIn_V mw_104 mw_105 mw_106 mw_86 mw_99) rfl rfl ⟨rfl, by decide, by decide, rfl⟩ ⟨Nat.le_of_ble_eq_true rfl, Nat.le_of_ble_eq_true rfl⟩ (k := 0) (T := TX3) (N := 14) (by omega) rfl (rfl) rfl (As := [.ref (h (k + 11))]) (rest := []) rfl hl.1 rfl (Nat.le_of_ble_eq_true rfl) dX3_brokenBy_2 ⟨Nat.le_refl _, Nat.le_refl _⟩) hz hA hS (fun z_1 u_2 H locs hp hP hS => ?_)
  obtain rfl : z_1 = b2i (fits' σ k) := hp
  refine zi_ifb_ne (tgt := 10) hF.1 hF.2.1 (P := fits' σ k) dX3_brokenBy_5 (by decide) (fun c_5 => ?_) (fun c_5 => ?_)
  · skip
    have hf1 := c_5.1
    refine lv_aload_n hF.1 hF.2.1 dX3_brokenBy_10 rfl (lv_at hl 0 rfl) ?_
    refine lv_aload_n hF.1 hF.2.1 dX3_brokenBy_11 rfl (lv_at hl 1 rfl) ?_
    refine z_getN hF hK hP (k := k + 11) (C := RX0) (T := TX0) (N := 9) (by omega) (gC_act (by omega)) rfl uin_X0 1 (by decide) nw_1 (v := .int (iz (σ 8 k))) rfl dX3_brokenBy_12 ?_
    have q_3 := GI_8 hG (k)
    refine lv_aload_n hF.1 hF.2.1 dX3_brokenBy_15 rfl (lv_at hl 1 rfl) ?_
    refine z_ci (S := Unit) (w := fun _ => gC c h σ κ ω) (P := fun z _ => z = σ 8 k + σ 9 k) (z_runVN (rm := { frames := 0, cells := 0, slots := 0, locals := 0 }) hF hK hP (c_X0_end l h D c σ κ ω hinj hG k (by omega) _) mw_4 nw_21 mw_13 mw_11 mw_12 rfl rfl ⟨by decide, by decide, rfl⟩ ⟨Nat.le_of_ble_eq_true rfl, Nat.le_of_ble_eq_true rfl⟩ (k := k + 11) (T := TX0) (N := 9) (by omega) rfl (gC_act (by omega)) rfl (As := []) (rest := [.int (iz (σ 8 k)), .ref (h (0))]) rfl hl.1 rfl (Nat.le_of_ble_eq_true rfl) dX3_brokenBy_16 ⟨Nat.le_refl _, Nat.le_refl _⟩) hz hA hS (fun z_4 u_5 H locs hp hP hS => ?_)
    obtain rfl : z_4 = σ 8 k + σ 9 k := hp
    have q_6 := GI_8 hG k
    have q_7 := GI_9 hG k
    refine z_ci (S := Nat → Nat → Int) (w := fun κ9 => gC c h σ κ9 ω) (P := fun z _ => z = bw σ (σ 8 k) (σ 8 k + σ 9 k)) (z_runV (rm := { frames := 4, cells := 0, slots := 0, locals := 97 }) hF hK hP (c_X3_brokenWithin l h D c σ κ ω hinj hG (σ 8 k) (σ 8 k + σ 9 k) (by omega) _) (gIn_V mw_155 mw_156 mw_157 mw_86 mw_152) rfl rfl ⟨rfl, by decide, by decide, rfl⟩ ⟨Nat.le_of_ble_eq_true rfl, Nat.le_of_ble_eq_true rfl⟩ (k := 0) (T := TX3) (N := 14) (by omega) rfl (rfl) rfl (As := [.int (iz (σ 8 k)), .int (iz (σ 8 k + σ 9 k))]) (rest := []) rfl hl.1 rfl (Nat.le_of_ble_eq_true rfl) dX3_brokenBy_19 ⟨Nat.le_refl _, Nat.le_refl _⟩) hz hA hS (fun z_8 u_9 H locs hp hP hS => ?_)
    obtain rfl : z_8 = bw σ (σ 8 k) (σ 8 k + σ 9 k) := hp
    have hP : zB 32 h D (gC c h (σ) (u_9) (ω)) H := hP
    have q_10 := @bw_rg σ (σ 8 k) (σ 8 k + σ 9 k)
    exact z_reti (P := fun z _ => z = bby σ k) (z := bw σ (σ 8 k) (σ 8 k + σ 9 k)) (u := u_9) (w := fun κ9 => gC c h σ κ9 ω) hF hr hlocks hP hS (rfl) ((ie_t c_5).symm) dX3_brokenBy_22
  · skip
    refine zi_const hF.1 hF.2.1 dX3_brokenBy_8 ?_
    exact z_reti (P := fun z _ => z = bby σ k) (z := 1) (u := κ) (w := fun κ9 => gC c h σ κ9 ω) hF hr hlocks hP hS (rfl) ((ie_f c_5).symm) dX3_brokenBy_9
