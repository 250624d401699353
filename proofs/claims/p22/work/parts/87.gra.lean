/-! take and grant -/
theorem wD_eq {i9 : Nat} (hi : i9 < 5) {x : Int} : x + wDr i9 = wD (i9 : Int) x := by
  rcases (show i9 = 0 ∨ i9 = 1 ∨ i9 = 2 ∨ i9 = 3 ∨ i9 = 4 by omega) with rfl | rfl | rfl | rfl | rfl <;> (simp [wDr, wD]; try omega)
theorem wL_eq {i9 : Nat} (hi : i9 < 5) {x : Int} : x + wLo i9 = wL (i9 : Int) x := by
  rcases (show i9 = 0 ∨ i9 = 1 ∨ i9 = 2 ∨ i9 = 3 ∨ i9 = 4 by omega) with rfl | rfl | rfl | rfl | rfl <;> (simp [wLo, wL]; try omega)
theorem wDr_rg (i : Nat) : -20 ≤ wDr i ∧ wDr i ≤ 20 := by unfold wDr; split <;> (try split) <;> omega
theorem wLo_rg (i : Nat) : -20 ≤ wLo i ∧ wLo i ≤ 20 := by unfold wLo; split <;> (try split) <;> omega
theorem grT_na {σ : Nat → Nat → Int} {k i9 : Nat} (hi : i9 < 4) : grT σ k i9 = u2 (u2 σ 11 k (max 0 (min (wD i9 (σ 11 k)) 200))) 12 k (max 0 (min (wL i9 (σ 12 k)) 200)) := by
  unfold grT
  rw [show wC (i9 : Int) (σ 13 k) = σ 13 k from if_pos (by omega)]
  have e : u2 (u2 σ 11 k (max 0 (min (wD i9 (σ 11 k)) 200))) 12 k (max 0 (min (wL i9 (σ 12 k)) 200)) 13 k = σ 13 k := by rw [u2_row (by decide), u2_row (by decide)]
  have := @u2_self (u2 (u2 σ 11 k (max 0 (min (wD i9 (σ 11 k)) 200))) 12 k (max 0 (min (wL i9 (σ 12 k)) 200))) 13 k
  rw [e] at this
  exact this
theorem GI_grT {σ : Nat → Nat → Int} {k : Nat} {i : Int} (hG : GI σ) : GI (grT σ k i) := by
  unfold grT
  refine GI_u13 (GI_u12 (GI_u11 hG (by omega)) (by omega)) ?_
  have := GI_13 hG k
  unfold wC
  split
  · exact this
  · split <;> omega
theorem grT_back {σ : Nat → Nat → Int} {k : Nat} {i : Int} : u2 (u2 (u2 (grT σ k i) 11 k (σ 11 k)) 12 k (σ 12 k)) 13 k (σ 13 k) = σ := by
  funext r j
  by_cases h1 : r = 11 <;> by_cases h2 : r = 12 <;> by_cases h3 : r = 13 <;> by_cases h4 : j = k <;> simp_all [grT, u2]

set_option maxRecDepth 100000 in
set_option maxHeartbeats 4000000 in
theorem c_X0_take (l : Launch) (h : Nat → Nat) (D : va_G) (c : Nat → ClassId) (σ κ : Nat → Nat → Int) (ω : Nat × (Nat → Int32) × Int32) (hinj : ∀ i j, i < 32 → j < 32 → h i = h j → i = j) (hG : GI σ) (t : Nat) (ad adK adV : Nat → Nat) (k : Nat) (hk : k < 16) (i9 : Nat) (hi9 : i9 < 5) :
    ∀ sz, Met l yX0_take (Cond.code yX0_take cX0_take 2 none :: UW) { frames := 2, cells := 0, slots := 6 * 0, locals := 34 } (zPE (zWi t ad adK adV) [.ref (h (k + 11)), .ref (ad i9)] 32 h D (gT c) sz (gC c h σ κ ω)) (va_Qv (fun _ : Unit => True) (fun _ t => zB 32 h D (gC c h (grT σ k i9) κ ω) t.heap) (zA 32 h sz)) 0 (6 * 0) (zA 32 h sz) := by
  refine zEM_of (Ex := zWi t ad adK adV) (by decide) (Nat.le_of_ble_eq_true rfl) ?_
  intro p e s m below meth cd ls ⟨hF, hr, hlocks, hK, hX⟩ hW hP hl
  have hz : zD (zA 32 h s.heap.size) 32 h := zD.self hinj s.heap.size
  have hA : ∀ q, s.heap.size ≤ q → zA 32 h s.heap.size q := zA_new
  generalize zA 32 h s.heap.size = A at hz hA hX hW ⊢
  have hS : va_S A s.heap s.heap [] := va_S.rf
  have hl : lv_has ls 2 [(0, .ref (h (k + 11))), (1, .ref (ad i9))] := hl
  have g11 := GI_11 hG k
  have g12 := GI_12 hG k
  have r11 := wDr_rg i9
  have r12 := wLo_rg i9
  refine lv_aload_n hF.1 hF.2.1 dX0_take_0 rfl (lv_at hl 0 rfl) ?_
  refine lv_aload_n hF.1 hF.2.1 dX0_take_1 rfl (lv_at hl 0 rfl) ?_
  refine z_get hF hK hP (k := k + 11) (C := RX0) (T := TX0) (N := 9) (by omega) (gC_act (by omega)) rfl uin_X0 4 (by decide) mw_23 (v := .int (iz (σ 11 k))) rfl dX0_take_2 ?_
  refine lv_aload_n hF.1 hF.2.1 dX0_take_5 rfl (lv_at hl 1 rfl) ?_
  refine z_wget hF hK hS (hW.2.2.1 i9 hi9) nw_13 dX0_take_6 ?_
  refine zi_add hF.1 hF.2.1 dX0_take_9 ?_
  refine z_ci (S := Unit) (w := fun _ => gC c h (σ) κ ω) (P := fun z _ => z = max 0 (min (σ 11 k + wDr i9) 200)) (z_runS (rm := { frames := 1, cells := 0, slots := 0, locals := 14 }) hF hK hP (c_X0_withinStrength l h D c (σ) κ ω hinj hG (σ 11 k + wDr i9) (by omega) _) (gIn_S mw_26 mw_27 mw_13 mw_14) rfl rfl ⟨rfl, by decide, by decide, rfl⟩ ⟨(Nat.le_of_ble_eq_true rfl), (Nat.le_of_ble_eq_true rfl)⟩ (As := [.int (iz (σ 11 k + wDr i9))]) (rest := [.ref (h (k + 11))]) rfl hl.1 rfl (Nat.le_of_ble_eq_true rfl) dX0_take_10 ⟨(Nat.le_of_ble_eq_true rfl), (Nat.le_of_ble_eq_true rfl)⟩) hz hA hS (fun z_10 u_10 H locs hp hP hS => ?_)
  obtain rfl : z_10 = max 0 (min (σ 11 k + wDr i9) 200) := hp
  rw [wD_eq hi9]
  refine z_put hF hK hz hP hS (k := k + 11) (C := RX0) (T := TX0) (N := 9) (by omega) (gC_act (by omega)) rfl uin_X0 tyX0_ok nmX0 4 (by decide) mw_23 rfl (⟨rfl, rfl⟩) (by simp) (g' := gC c h (u2 σ 11 k (max 0 (min (wD i9 (σ 11 k)) 200))) κ ω) (by rw [gC_act (by omega)]; simp [u2]) (gC_act_o ⟨by decide, by decide⟩) dX0_take_13 (fun H locs hP hS => ?_)
  have hG1 : GI (u2 σ 11 k (max 0 (min (wD i9 (σ 11 k)) 200))) := GI_u11 hG (by omega)
  refine lv_aload_n hF.1 hF.2.1 dX0_take_16 rfl (lv_at hl 0 rfl) ?_
  refine lv_aload_n hF.1 hF.2.1 dX0_take_17 rfl (lv_at hl 0 rfl) ?_
  refine z_get hF hK hP (k := k + 11) (C := RX0) (T := TX0) (N := 9) (by omega) (gC_act (by omega)) rfl uin_X0 5 (by decide) mw_24 (v := .int (iz (σ 12 k))) (by simp [u2]) dX0_take_18 ?_
  refine lv_aload_n hF.1 hF.2.1 dX0_take_21 rfl (lv_at hl 1 rfl) ?_
  refine z_wget hF hK hS (hW.2.2.2.1 i9 hi9) nw_14 dX0_take_22 ?_
  refine zi_add hF.1 hF.2.1 dX0_take_25 ?_
  refine z_ci (S := Unit) (w := fun _ => gC c h (u2 σ 11 k (max 0 (min (wD i9 (σ 11 k)) 200))) κ ω) (P := fun z _ => z = max 0 (min (σ 12 k + wLo i9) 200)) (z_runS (rm := { frames := 1, cells := 0, slots := 0, locals := 14 }) hF hK hP (c_X0_withinStrength l h D c (u2 σ 11 k (max 0 (min (wD i9 (σ 11 k)) 200))) κ ω hinj hG1 (σ 12 k + wLo i9) (by omega) _) (gIn_S mw_26 mw_27 mw_13 mw_14) rfl rfl ⟨rfl, by decide, by decide, rfl⟩ ⟨(Nat.le_of_ble_eq_true rfl), (Nat.le_of_ble_eq_true rfl)⟩ (As := [.int (iz (σ 12 k + wLo i9))]) (rest := [.ref (h (k + 11))]) rfl hl.1 rfl (Nat.le_of_ble_eq_true rfl) dX0_take_26 ⟨(Nat.le_of_ble_eq_true rfl), (Nat.le_of_ble_eq_true rfl)⟩) hz hA hS (fun z_26 u_26 H locs hp hP hS => ?_)
  obtain rfl : z_26 = max 0 (min (σ 12 k + wLo i9) 200) := hp
  rw [wL_eq hi9]
  refine z_put hF hK hz hP hS (k := k + 11) (C := RX0) (T := TX0) (N := 9) (by omega) (gC_act (by omega)) rfl uin_X0 tyX0_ok nmX0 5 (by decide) mw_24 rfl (⟨rfl, rfl⟩) (by simp) (g' := gC c h (u2 (u2 σ 11 k (max 0 (min (wD i9 (σ 11 k)) 200))) 12 k (max 0 (min (wL i9 (σ 12 k)) 200))) κ ω) (by rw [gC_act (by omega)]; simp [u2]) (gC_act_o ⟨by decide, by decide⟩) dX0_take_29 (fun H locs hP hS => ?_)
  refine lv_aload_n hF.1 hF.2.1 dX0_take_32 rfl (lv_at hl 1 rfl) ?_
  refine z_wget hF hK hS (hW.2.2.2.2.1 i9 hi9) nw_15 dX0_take_33 ?_
  refine zi_if_eq (tgt := 62) hF.1 hF.2.1 (a := wNx i9) dX0_take_36 (by decide) (by unfold wNx; split <;> omega) (fun c_36 => ?_) (fun c_36 => ?_)
  · have h4 : i9 < 4 := by
      unfold wNx at c_36
      split at c_36 <;> omega
    rw [← grT_na h4] at hP
    exact (W.vret (free := A) hF.1 hF.2.1 hr (fun t' ht hW => ⟨⟨(), rfl, trivial, by show zB _ _ _ _ t'.heap; rw [ht]; exact hP⟩, hS.F ht⟩) hS.2.2 dX0_take_62 hlocks).wide (Nat.le_of_ble_eq_true rfl) (Nat.le_of_ble_eq_true rfl)
  · have h4 : i9 = 4 := by
      unfold wNx at c_36
      split at c_36 <;> omega
    have g13 := GI_13 hG k
    refine lv_aload_n hF.1 hF.2.1 dX0_take_39 rfl (lv_at hl 0 rfl) ?_
    refine lv_aload_n hF.1 hF.2.1 dX0_take_40 rfl (lv_at hl 0 rfl) ?_
    refine z_get hF hK hP (k := k + 11) (C := RX0) (T := TX0) (N := 9) (by omega) (gC_act (by omega)) rfl uin_X0 6 (by decide) mw_25 (v := .int (iz (σ 13 k))) (by simp [u2]) dX0_take_41 ?_
    refine zi_bipush hF.1 hF.2.1 dX0_take_44 (by decide) ?_
    have fin : ∀ x : Int, x = wC (i9 : Int) (σ 13 k) → W p l e { frames := 2, cells := 0, slots := 6 * 0, locals := 34 } s m [Value.ref (h (k + 11)), .ref (ad i9)].toArray below meth cd H locs 0 0 (MQ below (va_Qv (fun _ : Unit => True) (fun _ t => zB 32 h D (gC c h (grT σ k i9) κ ω) t.heap) A) [Value.ref (h (k + 11)), .ref (ad i9)].toArray s 0 (6 * 0) A) (F0 m 59 ls [.int (iz x), .ref (h (k + 11))]) := by
      intro x hx
      refine z_put hF hK hz hP hS (k := k + 11) (C := RX0) (T := TX0) (N := 9) (by omega) (gC_act (by omega)) rfl uin_X0 tyX0_ok nmX0 6 (by decide) mw_25 rfl (⟨rfl, rfl⟩) (by simp) (g' := gC c h (u2 (u2 (u2 σ 11 k (max 0 (min (wD i9 (σ 11 k)) 200))) 12 k (max 0 (min (wL i9 (σ 12 k)) 200))) 13 k x) κ ω) (by rw [gC_act (by omega)]; simp [u2]) (gC_act_o ⟨by decide, by decide⟩) dX0_take_59 (fun H locs hP hS => ?_)
      rw [hx] at hP
      exact (W.vret (free := A) hF.1 hF.2.1 hr (fun t' ht hW => ⟨⟨(), rfl, trivial, by show zB _ _ _ _ t'.heap; rw [ht]; exact hP⟩, hS.F ht⟩) hS.2.2 dX0_take_62 hlocks).wide (Nat.le_of_ble_eq_true rfl) (Nat.le_of_ble_eq_true rfl)
    have e4 : wC (i9 : Int) (σ 13 k) = if σ 13 k = 31 then -1 else σ 13 k + 1 := by unfold wC; rw [if_neg (by omega)]
    refine zi_icmp_lt (tgt := 53) hF.1 hF.2.1 (a := σ 13 k) (b := 31) dX0_take_46 (by decide) (by omega) (by omega) (fun c_46 => ?_) (fun c_46 => ?_)
    · refine lv_aload_n hF.1 hF.2.1 dX0_take_53 rfl (lv_at hl 0 rfl) ?_
      refine z_get hF hK hP (k := k + 11) (C := RX0) (T := TX0) (N := 9) (by omega) (gC_act (by omega)) rfl uin_X0 6 (by decide) mw_25 (v := .int (iz (σ 13 k))) (by simp [u2]) dX0_take_54 ?_
      refine zi_const hF.1 hF.2.1 dX0_take_57 ?_
      refine zi_add hF.1 hF.2.1 dX0_take_58 ?_
      exact fin _ (by rw [e4, if_neg (by omega)])
    · refine zi_const hF.1 hF.2.1 dX0_take_49 ?_
      refine lv_goto (tgt := 59) hF.1 hF.2.1 dX0_take_50 (by decide) ?_
      exact fin _ (by rw [e4, if_pos (by omega)])

set_option maxRecDepth 100000 in
set_option maxHeartbeats 4000000 in
theorem c_X3_grant (l : Launch) (h : Nat → Nat) (D : va_G) (c : Nat → ClassId) (σ κ : Nat → Nat → Int) (ω : Nat × (Nat → Int32) × Int32) (hinj : ∀ i j, i < 32 → j < 32 → h i = h j → i = j) (hG : GI σ) (a : Int) (ha : -2147483648 ≤ a ∧ a ≤ 2147483647) (hn : ω.1 ≤ 6) (hby : ∀ j, j < ω.1 → ∃ x : Int, (97 ≤ x ∧ x ≤ 122) ∧ ω.2.1 j = iz x) (hst : l.stackTraces = false) :
    zXi (S := (Nat → Nat → Int) × (Nat → Nat → Int)) l yX3_grant cX3_grant 7 (some .boolean) 8 176 5 [.ref (h 0), .int (iz a)] 32 h D (gT c) (gC c h σ κ ω) (fun u9 => gC c h u9.1 u9.2 ω) (fun z (u9 : (Nat → Nat → Int) × (Nat → Nat → Int)) => ∃ i : Int, TW ω i ∧ 0 ≤ i ∧ (0 ≤ a ∧ a ≤ σ 0 1 - 1) ∧ σ 14 a.toNat ≠ 0 ∧ CS σ (grT σ a.toNat i) (bby (grT σ a.toNat i) a.toNat = 0) z u9.1 ∧ GI u9.1) (fun E9 => (E9 = E98 ∧ ¬ (0 ≤ a ∧ a ≤ σ 0 1 - 1)) ∨ (E9 = E67 ∧ (0 ≤ a ∧ a ≤ σ 0 1 - 1) ∧ (σ 14 a.toNat = 0 ∨ TW ω (-1)))) := by
  refine zXM_of (by decide) (Nat.le_of_ble_eq_true rfl) ?_
  intro p e s m below meth cd ls ⟨hF, hr, hlocks, hK, hexc, hX⟩ hP hl
  have hz : zD (zA 32 h s.heap.size) 32 h := zD.self hinj s.heap.size
  have hA : ∀ q, s.heap.size ≤ q → zA 32 h s.heap.size q := zA_new
  generalize zA 32 h s.heap.size = A at hz hA hX ⊢
  have hS : va_S A s.heap s.heap [] := va_S.rf
  have hl : lv_has ls 7 [(0, .ref (h 0)), (1, .int (iz a))] := hl
  have g1 := GI_01 hG
  obtain ⟨_, _, _, _, _, t, ad, adK, adV, hW⟩ := id hX
  refine lv_aload_n hF.1 hF.2.1 dX3_grant_0 rfl (lv_at hl 0 rfl) ?_
  refine lv_iload_n hF.1 hF.2.1 dX3_grant_1 rfl (lv_at hl 1 rfl) ?_
  have hpx_1 : ∀ E9, (fun E9 => (E9 = E98 ∧ ¬ (0 ≤ a ∧ a ≤ σ 0 1 - 1))) E9 → (fun E9 => (E9 = E98 ∧ ¬ (0 ≤ a ∧ a ≤ σ 0 1 - 1)) ∨ (E9 = E67 ∧ (0 ≤ a ∧ a ≤ σ 0 1 - 1) ∧ (σ 14 a.toNat = 0 ∨ TW ω (-1)))) E9 := fun E9 hE => Or.inl hE
  refine z_xcv (k := 1) (S := Unit) (w := fun _ => gC c h σ κ ω) (P := fun _ => 0 ≤ a ∧ a ≤ σ 0 1 - 1) (PXc := fun E9 => (E9 = E98 ∧ ¬ (0 ≤ a ∧ a ≤ σ 0 1 - 1))) (PX := fun E9 => (E9 = E98 ∧ ¬ (0 ≤ a ∧ a ≤ σ 0 1 - 1)) ∨ (E9 = E67 ∧ (0 ≤ a ∧ a ≤ σ 0 1 - 1) ∧ (σ 14 a.toNat = 0 ∨ TW ω (-1)))) (z_xrunV (rm := { frames := 6, cells := 1, slots := 6, locals := 82 }) hF hK hX hz hA hP hS (c_X3_requireAct l h D c σ κ ω hinj hG a (by omega) hst _) (gIn_V mw_177 mw_178 mw_179 mw_86 mw_175) rfl rfl ⟨rfl, by decide, by decide, rfl⟩ ⟨(Nat.le_of_ble_eq_true rfl), (Nat.le_of_ble_eq_true rfl)⟩ (k := 0) (T := TX3) (N := 14) (by omega) rfl (rfl) rfl (As := [.int (iz (a))]) (rest := []) rfl hl.1 rfl (Nat.le_of_ble_eq_true rfl) dX3_grant_2 ⟨(Nat.le_of_ble_eq_true rfl), (Nat.le_of_ble_eq_true rfl)⟩) hz hA hS hexc hlocks (Nat.le_of_ble_eq_true rfl) (Nat.le_of_ble_eq_true rfl) hpx_1 (fun u_2 H locs hp hP hS => ?_)
  have hb : 0 ≤ a ∧ a ≤ σ 0 1 - 1 := hp
  refine lv_aload_n hF.1 hF.2.1 dX3_grant_5 rfl (lv_at hl 0 rfl) ?_
  refine lv_iload_n hF.1 hF.2.1 dX3_grant_6 rfl (lv_at hl 1 rfl) ?_
  have hpx_2 : ∀ E9, (fun E9 => (E9 = E67 ∧ σ 14 a.toNat = 0)) E9 → (fun E9 => (E9 = E98 ∧ ¬ (0 ≤ a ∧ a ≤ σ 0 1 - 1)) ∨ (E9 = E67 ∧ (0 ≤ a ∧ a ≤ σ 0 1 - 1) ∧ (σ 14 a.toNat = 0 ∨ TW ω (-1)))) E9 := fun E9 hE => Or.inr ⟨hE.1, hb, Or.inl hE.2⟩
  refine z_xcv (k := 1) (S := Unit) (w := fun _ => gC c h σ κ ω) (P := fun _ => σ 14 a.toNat ≠ 0) (PXc := fun E9 => (E9 = E67 ∧ σ 14 a.toNat = 0)) (PX := fun E9 => (E9 = E98 ∧ ¬ (0 ≤ a ∧ a ≤ σ 0 1 - 1)) ∨ (E9 = E67 ∧ (0 ≤ a ∧ a ≤ σ 0 1 - 1) ∧ (σ 14 a.toNat = 0 ∨ TW ω (-1)))) (z_xrunV (rm := { frames := 6, cells := 1, slots := 6, locals := 82 }) hF hK hX hz hA hP hS (c_X3_requirePlanned l h D c σ κ ω hinj hG a (by omega) hst _) (gIn_V mw_180 mw_181 mw_182 mw_86 mw_176) rfl rfl ⟨rfl, by decide, by decide, rfl⟩ ⟨(Nat.le_of_ble_eq_true rfl), (Nat.le_of_ble_eq_true rfl)⟩ (k := 0) (T := TX3) (N := 14) (by omega) rfl (rfl) rfl (As := [.int (iz (a))]) (rest := []) rfl hl.1 rfl (Nat.le_of_ble_eq_true rfl) dX3_grant_7 ⟨(Nat.le_of_ble_eq_true rfl), (Nat.le_of_ble_eq_true rfl)⟩) hz hA hS hexc hlocks (Nat.le_of_ble_eq_true rfl) (Nat.le_of_ble_eq_true rfl) hpx_2 (fun u_7 H locs hp hP hS => ?_)
  have ho : σ 14 a.toNat ≠ 0 := hp
  refine lv_aload_n hF.1 hF.2.1 dX3_grant_10 rfl (lv_at hl 0 rfl) ?_
  refine va_callq (z_rV (C := RX3) (na := 0) (rm := { frames := 6, cells := 2, slots := 6 * 2, locals := 151 }) hF (z_recv hK hP (k := 0) (by omega) rfl rfl) (z_preE (zWi_st t ad adK adV) hK hX hW hz hA hP hS) (c_X3_typedWish l h D c σ κ ω hinj t ad adK adV hn hby _) (gIn_V mw_385 mw_386 mw_387 mw_86 mw_384) rfl rfl ⟨rfl, by decide, by decide, rfl⟩ ⟨(Nat.le_of_ble_eq_true rfl), (Nat.le_of_ble_eq_true rfl)⟩ (As := []) (rest := []) rfl hl.1 rfl (Nat.le_of_ble_eq_true rfl) dX3_grant_11 ⟨(Nat.le_of_ble_eq_true rfl), (Nat.le_of_ble_eq_true rfl)⟩) hS (fun q _ hq => zA_sub hz hA hS q hq) (zA_sub hz hA hS) (fun r u t' H1 locs1 ht hvm hw hB hz1 hk1 hS1 => ?_)
  rw [ht] at hB
  obtain ⟨zi, hT, hr9⟩ := hw
  clear hP hS hk1 hz1
  generalize H1 = H at hB hS1
  generalize locs1 = locs at hS1 ⊢
  have hP : zB 32 h D (gC c h σ κ ω) H := hB
  have hS : va_S A s.heap H locs := hS1
  clear hB hS1
  rcases hr9 with ⟨rfl, rfl⟩ | ⟨i9, rfl, hi9, rfl⟩
  · refine lv_astore_nN (lv' := [(2, .null), (0, .ref (h 0)), (1, .int (iz a))]) hF.1 hF.2.1 dX3_grant_14 rfl hl (by decide) rfl (fun ls hl => ?_)
    refine lv_aload_nN hF.1 hF.2.1 dX3_grant_15 rfl (lv_at hl 0 rfl) ?_
    refine lv_ifnonnullN hF.1 hF.2.1 dX3_grant_16 ?_
    have hpx_3 : (fun E9 => (E9 = E98 ∧ ¬ (0 ≤ a ∧ a ≤ σ 0 1 - 1)) ∨ (E9 = E67 ∧ (0 ≤ a ∧ a ≤ σ 0 1 - 1) ∧ (σ 14 a.toNat = 0 ∨ TW ω (-1)))) E67 := Or.inr ⟨rfl, hb, Or.inr hT⟩
    exact z_throw (PX := fun E9 => (E9 = E98 ∧ ¬ (0 ≤ a ∧ a ≤ σ 0 1 - 1)) ∨ (E9 = E67 ∧ (0 ≤ a ∧ a ≤ σ 0 1 - 1) ∧ (σ 14 a.toNat = 0 ∨ TW ω (-1)))) (cls := E67) (text := "the word is no wish") hF hK hX hexc hlocks hst hP hS hl.1 (by decide) mw_88 mw_89 tx_67a tx_67b (by decide) rfl dX3_grant_19 dX3_grant_22 dX3_grant_23 dX3_grant_25 dX3_grant_28 ⟨(Nat.le_of_ble_eq_true rfl), (Nat.le_of_ble_eq_true rfl), Nat.le_refl _, Nat.le_refl _⟩ (Nat.le_of_ble_eq_true rfl) (Nat.le_of_ble_eq_true rfl) hpx_3
  · refine lv_astore_n (lv' := [(2, .ref (ad i9)), (0, .ref (h 0)), (1, .int (iz a))]) hF.1 hF.2.1 dX3_grant_14 rfl hl (by decide) rfl (fun ls hl => ?_)
    refine lv_aload_n hF.1 hF.2.1 dX3_grant_15 rfl (lv_at hl 0 rfl) ?_
    refine lv_ifnonnull (tgt := 29) hF.1 hF.2.1 dX3_grant_16 (by decide) ?_
    refine lv_aload_n hF.1 hF.2.1 dX3_grant_29 rfl (lv_at hl 1 rfl) ?_
    refine z_get hF hK hP (k := 0) (C := RX3) (T := TX3) (N := 14) (by omega) (rfl) rfl uin_X3 5 (by decide) mw_60 (v := .ref (h 5)) rfl dX3_grant_30 ?_
    refine lv_iload_n hF.1 hF.2.1 dX3_grant_33 rfl (lv_at hl 2 rfl) ?_
    refine z_aald hF hK hP (k := 5) (by decide) rfl 2 rfl (i := a) ((a).toNat) ((Int.toNat_of_nonneg (by omega)).symm) (by omega) (by decide) (a := h ((a).toNat + 11)) rfl dX3_grant_34 ?_
    refine lv_astore_n (lv' := [(3, .ref (h (a.toNat + 11))), (2, .ref (ad i9)), (0, .ref (h 0)), (1, .int (iz a))]) hF.1 hF.2.1 dX3_grant_35 rfl hl (by decide) rfl (fun ls hl => ?_)
    refine lv_aload_n hF.1 hF.2.1 dX3_grant_36 rfl (lv_at hl 0 rfl) ?_
    refine z_getN hF hK hP (k := a.toNat + 11) (C := RX0) (T := TX0) (N := 9) (by omega) (gC_act (by omega)) rfl uin_X0 4 (by decide) nw_2 (v := .int (iz (σ 11 a.toNat))) rfl dX3_grant_37 ?_
    refine lv_istore (lv' := [(4, .int (iz (σ 11 a.toNat))), (3, .ref (h (a.toNat + 11))), (2, .ref (ad i9)), (0, .ref (h 0)), (1, .int (iz a))]) hF.1 hF.2.1 dX3_grant_40 hl (by decide) rfl (fun ls hl => ?_)
    refine lv_aload_n hF.1 hF.2.1 dX3_grant_42 rfl (lv_at hl 1 rfl) ?_
    refine z_getN hF hK hP (k := a.toNat + 11) (C := RX0) (T := TX0) (N := 9) (by omega) (gC_act (by omega)) rfl uin_X0 5 (by decide) nw_3 (v := .int (iz (σ 12 a.toNat))) rfl dX3_grant_43 ?_
    refine lv_istore (lv' := [(5, .int (iz (σ 12 a.toNat))), (4, .int (iz (σ 11 a.toNat))), (3, .ref (h (a.toNat + 11))), (2, .ref (ad i9)), (0, .ref (h 0)), (1, .int (iz a))]) hF.1 hF.2.1 dX3_grant_46 hl (by decide) rfl (fun ls hl => ?_)
    refine lv_aload_n hF.1 hF.2.1 dX3_grant_48 rfl (lv_at hl 2 rfl) ?_
    refine z_getN hF hK hP (k := a.toNat + 11) (C := RX0) (T := TX0) (N := 9) (by omega) (gC_act (by omega)) rfl uin_X0 6 (by decide) nw_4 (v := .int (iz (σ 13 a.toNat))) rfl dX3_grant_49 ?_
    refine lv_istore (lv' := [(6, .int (iz (σ 13 a.toNat))), (5, .int (iz (σ 12 a.toNat))), (4, .int (iz (σ 11 a.toNat))), (3, .ref (h (a.toNat + 11))), (2, .ref (ad i9)), (0, .ref (h 0)), (1, .int (iz a))]) hF.1 hF.2.1 dX3_grant_52 hl (by decide) rfl (fun ls hl => ?_)
    refine lv_aload_n hF.1 hF.2.1 dX3_grant_54 rfl (lv_at hl 3 rfl) ?_
    refine lv_aload_n hF.1 hF.2.1 dX3_grant_55 rfl (lv_at hl 4 rfl) ?_
    refine z_cvK (S := Unit) (w := fun _ => gC c h (grT σ a.toNat i9) κ ω) (P := fun _ => True) (z_rVN (C := RX0) (na := 1) (rm := { frames := 2, cells := 0, slots := 6 * 0, locals := 34 }) hF hK (z_recv hK hP (k := a.toNat + 11) (by omega) (gC_act (by omega)) rfl) (z_preE (zWi_st t ad adK adV) hK hX hW hz hA hP hS) (c_X0_take l h D c σ κ ω hinj hG t ad adK adV a.toNat (by omega) i9 hi9 _) mw_22 nw_20 mw_13 mw_388 mw_389 rfl rfl ⟨by decide, by decide, rfl⟩ ⟨(Nat.le_of_ble_eq_true rfl), (Nat.le_of_ble_eq_true rfl)⟩ (As := [.ref (ad i9)]) (rest := []) rfl hl.1 rfl (Nat.le_of_ble_eq_true rfl) dX3_grant_56 ⟨(Nat.le_of_ble_eq_true rfl), (Nat.le_of_ble_eq_true rfl)⟩) hz hA hS (fun u_56 H locs hp hP hS => ?_)
    have hG1 : GI (grT σ a.toNat i9) := GI_grT hG
    refine lv_aload_n hF.1 hF.2.1 dX3_grant_59 rfl (lv_at hl 5 rfl) ?_
    refine lv_aload_n hF.1 hF.2.1 dX3_grant_60 rfl (lv_at hl 3 rfl) ?_
    refine z_ci (S := Nat → Nat → Int) (w := fun κ9 => gC c h (grT σ a.toNat i9) κ9 ω) (P := fun z _ => z = bby (grT σ a.toNat i9) a.toNat) (z_runV (rm := { frames := 5, cells := 0, slots := 0, locals := 122 }) hF hK hP (c_X3_brokenBy l h D c (grT σ a.toNat i9) κ ω hinj hG1 a.toNat (by omega) _) (gIn_V mw_170 mw_171 mw_172 mw_86 mw_166) rfl rfl ⟨rfl, by decide, by decide, rfl⟩ ⟨(Nat.le_of_ble_eq_true rfl), (Nat.le_of_ble_eq_true rfl)⟩ (k := 0) (T := TX3) (N := 14) (by omega) rfl (rfl) rfl (As := [.ref (h (a.toNat + 11))]) (rest := []) rfl hl.1 rfl (Nat.le_of_ble_eq_true rfl) dX3_grant_61 ⟨(Nat.le_of_ble_eq_true rfl), (Nat.le_of_ble_eq_true rfl)⟩) hz hA hS (fun z_61 u_61 H locs hp hP hS => ?_)
    obtain rfl : z_61 = bby (grT σ a.toNat i9) a.toNat := hp
    have q61 := @bby_rg (grT σ a.toNat i9) a.toNat
    refine zi_if_ne (tgt := 69) hF.1 hF.2.1 (a := bby (grT σ a.toNat i9) a.toNat) dX3_grant_64 (by decide) (by omega) (fun c_64 => ?_) (fun c_64 => ?_)
    · refine lv_aload_n hF.1 hF.2.1 dX3_grant_69 rfl (lv_at hl 3 rfl) ?_
      refine lv_iload hF.1 hF.2.1 dX3_grant_70 (lv_at hl 2 rfl) ?_
      refine z_putN hF hK hz hP hS (k := a.toNat + 11) (C := RX0) (T := TX0) (N := 9) (by omega) (gC_act (by omega)) rfl uin_X0 tyX0_ok nmX0 4 (by decide) nw_2 rfl (⟨rfl, rfl⟩) (by simp) (g' := gC c h (u2 (grT σ a.toNat i9) 11 a.toNat (σ 11 a.toNat)) u_61 ω) (by rw [gC_act (by omega)]; simp [u2]) (gC_act_o ⟨by decide, by decide⟩) dX3_grant_72 (fun H locs hP hS => ?_)
      refine lv_aload_n hF.1 hF.2.1 dX3_grant_75 rfl (lv_at hl 3 rfl) ?_
      refine lv_iload hF.1 hF.2.1 dX3_grant_76 (lv_at hl 1 rfl) ?_
      refine z_putN hF hK hz hP hS (k := a.toNat + 11) (C := RX0) (T := TX0) (N := 9) (by omega) (gC_act (by omega)) rfl uin_X0 tyX0_ok nmX0 5 (by decide) nw_3 rfl (⟨rfl, rfl⟩) (by simp) (g' := gC c h (u2 (u2 (grT σ a.toNat i9) 11 a.toNat (σ 11 a.toNat)) 12 a.toNat (σ 12 a.toNat)) u_61 ω) (by rw [gC_act (by omega)]; simp [u2]) (gC_act_o ⟨by decide, by decide⟩) dX3_grant_78 (fun H locs hP hS => ?_)
      refine lv_aload_n hF.1 hF.2.1 dX3_grant_81 rfl (lv_at hl 3 rfl) ?_
      refine lv_iload hF.1 hF.2.1 dX3_grant_82 (lv_at hl 0 rfl) ?_
      refine z_putN hF hK hz hP hS (k := a.toNat + 11) (C := RX0) (T := TX0) (N := 9) (by omega) (gC_act (by omega)) rfl uin_X0 tyX0_ok nmX0 6 (by decide) nw_4 rfl (⟨rfl, rfl⟩) (by simp) (g' := gC c h (u2 (u2 (u2 (grT σ a.toNat i9) 11 a.toNat (σ 11 a.toNat)) 12 a.toNat (σ 12 a.toNat)) 13 a.toNat (σ 13 a.toNat)) u_61 ω) (by rw [gC_act (by omega)]; simp [u2]) (gC_act_o ⟨by decide, by decide⟩) dX3_grant_84 (fun H locs hP hS => ?_)
      rw [grT_back] at hP
      refine zi_const hF.1 hF.2.1 dX3_grant_87 ?_
      exact z_xreti (S := (Nat → Nat → Int) × (Nat → Nat → Int)) (P := fun z (u9 : (Nat → Nat → Int) × (Nat → Nat → Int)) => ∃ i : Int, TW ω i ∧ 0 ≤ i ∧ (0 ≤ a ∧ a ≤ σ 0 1 - 1) ∧ σ 14 a.toNat ≠ 0 ∧ CS σ (grT σ a.toNat i) (bby (grT σ a.toNat i) a.toNat = 0) z u9.1 ∧ GI u9.1) (z := 0) (u := (σ, u_61)) (w := fun u9 => gC c h u9.1 u9.2 ω) hF hr hlocks hP hS (Nat.le_of_ble_eq_true rfl) (Nat.le_of_ble_eq_true rfl) (by decide) ⟨_, hT, by omega, hb, ho, Or.inr ⟨c_64, rfl, rfl⟩, hG⟩ dX3_grant_88
    · refine zi_const hF.1 hF.2.1 dX3_grant_67 ?_
      exact z_xreti (S := (Nat → Nat → Int) × (Nat → Nat → Int)) (P := fun z (u9 : (Nat → Nat → Int) × (Nat → Nat → Int)) => ∃ i : Int, TW ω i ∧ 0 ≤ i ∧ (0 ≤ a ∧ a ≤ σ 0 1 - 1) ∧ σ 14 a.toNat ≠ 0 ∧ CS σ (grT σ a.toNat i) (bby (grT σ a.toNat i) a.toNat = 0) z u9.1 ∧ GI u9.1) (z := 1) (u := (grT σ a.toNat i9, u_61)) (w := fun u9 => gC c h u9.1 u9.2 ω) hF hr hlocks hP hS (Nat.le_of_ble_eq_true rfl) (Nat.le_of_ble_eq_true rfl) (by decide) ⟨_, hT, by omega, hb, ho, Or.inl ⟨c_64, rfl, rfl⟩, hG1⟩ dX3_grant_68
