theorem GI_u0x {σ : Nat → Nat → Int} {v : Int} {i : Nat} (hG : GI σ) (hi : 3 ≤ i) : GI (u2 σ 0 i v) := by
  have e : ∀ r', 1 ≤ r' → u2 σ 0 i v r' = σ r' := fun r' h => u2_row (by omega)
  exact ⟨by rw [u2_ne (by omega)]; exact hG.1, by rw [u2_ne (by omega)]; exact hG.2.1, by rw [u2_ne (by omega)]; exact hG.2.2.1, fun r i h => by rw [e r h]; exact hG.2.2.2 r i h⟩
theorem GI_u03 {σ : Nat → Nat → Int} {v : Int} (hG : GI σ) (h : True) : GI (u2 σ 0 3 v) := GI_u0x hG (by decide)
theorem GI_u04 {σ : Nat → Nat → Int} {v : Int} (hG : GI σ) (h : True) : GI (u2 σ 0 4 v) := GI_u0x hG (by decide)
/-- what a call of the reference that tries a change leaves: the thrown number, the answer, the state -/
def MS (τ : Nat → Nat → Int) (thr : Int) (τ1 : Nat → Nat → Int) (z : Int) (τ' : Nat → Nat → Int) (t : Int) : Prop := t = thr ∧ ((0 < thr ∧ z = 0 ∧ τ' = τ) ∨ (thr = 0 ∧ ((wrg τ1 = 0 ∧ z = 1 ∧ τ' = τ1) ∨ (wrg τ1 ≠ 0 ∧ z = 0 ∧ τ' = τ)))) ∧ GI τ'
def thC (sg mi : Int) : Int := if 0 ≤ sg ∧ sg ≤ 2 then (if 0 ≤ mi ∧ mi ≤ 60 then 0 else 2) else 1
def thB (hs bd : Int) : Int := if 0 ≤ hs ∧ hs ≤ 2 then (if 10 ≤ bd ∧ bd ≤ 300 then 0 else 2) else 1
def thW (hr wn : Int) : Int := if 0 ≤ hr ∧ hr ≤ 16 then (if -10 ≤ wn ∧ wn ≤ 10 then 0 else 2) else 1
def thS (τ : Nat → Nat → Int) (mi : Int) : Int := if 0 ≤ mi ∧ mi ≤ 999 then (if τ 0 0 = 6 then 2 else 0) else 1
def isA (τ : Nat → Nat → Int) (a : Int) : Prop := 0 ≤ a ∧ a ≤ τ 0 1 - 1
def thM (τ : Nat → Nat → Int) (a mi : Int) : Int := if 0 ≤ a ∧ a ≤ τ 0 1 - 1 then (if 0 ≤ mi ∧ mi ≤ 999 then (if τ 14 a.toNat = 0 then 3 else 0) else 2) else 1
def thD (τ : Nat → Nat → Int) (a : Int) : Int := if 0 ≤ a ∧ a ≤ τ 0 1 - 1 then (if τ 14 a.toNat = 0 then 2 else 0) else 1
def th1 (τ : Nat → Nat → Int) (a : Int) : Int := if 0 ≤ a ∧ a ≤ τ 0 1 - 1 then 0 else 1
/-- a set is started: the answer, the state -/
def MSet (τ : Nat → Nat → Int) (mi z : Int) (τ' : Nat → Nat → Int) (t : Int) : Prop := t = thS τ mi ∧ ((0 < thS τ mi ∧ z = 0 ∧ τ' = τ) ∨ (thS τ mi = 0 ∧ (((∃ k, k < (τ 0 0).toNat ∧ -9 ≤ mi - τ 1 k ∧ mi - τ 1 k ≤ 9) ∧ z = -1 ∧ τ' = τ) ∨ ((∀ k, k < (τ 0 0).toNat → ¬ (-9 ≤ mi - τ 1 k ∧ mi - τ 1 k ≤ 9)) ∧ z = τ 0 0 + 1 ∧ τ' = u2 (u2 τ 1 (τ 0 0).toNat mi) 0 0 (τ 0 0 + 1))))) ∧ GI τ'

set_option maxRecDepth 100000 in
set_option maxHeartbeats 4000000 in
theorem c_X4_setChange (l : Launch) (h : Nat → Nat) (D : va_G) (c : Nat → ClassId) (τ κ : Nat → Nat → Int) (hinj : ∀ i j, i < 17 → j < 17 → h i = h j → i = j) (hG : GI τ) (sg : Int) (hsg : -2147483648 ≤ sg ∧ sg ≤ 2147483647) (mi : Int) (hmi : -2147483648 ≤ mi ∧ mi ≤ 2147483647) :
    zMi (S := (Nat → Nat → Int) × (Nat → Nat → Int)) l yX4_setChange cX4_setChange 5 (some .boolean) 4 94 [.ref (h (0)), .int (iz (sg)), .int (iz (mi))] 17 h D (gT c) (mC c h (τ) (κ)) (fun u9 => mC c h u9.1 u9.2) (fun z u9 => MS τ (thC sg mi) (u2 τ 2 (sg).toNat mi) z u9.1 (u9.2 1 0)) := by
  refine zM_of (by decide) (Nat.le_of_ble_eq_true rfl) ?_
  intro p e s m below meth cd ls ⟨hF, hr, hlocks, hK⟩ hP hl
  have hz : zD (zA 17 h s.heap.size) 17 h := zD.self hinj s.heap.size
  have hA : ∀ q, s.heap.size ≤ q → zA 17 h s.heap.size q := zA_new
  generalize zA 17 h s.heap.size = A at hz hA ⊢
  have hS : va_S A s.heap s.heap [] := va_S.rf
  have hl : lv_has ls 5 [(0, .ref (h (0))), (1, .int (iz (sg))), (2, .int (iz (mi)))] := hl
  refine lv_aload_n hF.1 hF.2.1 dX4_setChange_0 rfl (lv_at hl 0 rfl) ?_
  refine lv_iload_n hF.1 hF.2.1 dX4_setChange_1 rfl (lv_at hl 1 rfl) ?_
  refine z_ci (S := Unit) (w := fun _ => mC c h τ κ) (P := fun z _ => z = b2i (0 ≤ sg ∧ sg ≤ 2)) (z_runS (rm := { frames := 1, cells := 0, slots := 0, locals := 22 }) hF hK hP (c_X4_isThree l h D c τ κ hinj hG sg (by omega) _) (gIn_S mw_487 mw_488 mw_447 mw_448) rfl rfl ⟨rfl, by decide, by decide, rfl⟩ ⟨Nat.le_of_ble_eq_true rfl, Nat.le_of_ble_eq_true rfl⟩ (As := [.int (iz (sg))]) (rest := [.ref (h (0))]) rfl hl.1 rfl (Nat.le_of_ble_eq_true rfl) dX4_setChange_2 ⟨Nat.le_refl _, Nat.le_refl _⟩) hz hA hS (fun z_1 u_2 H locs hp hP hS => ?_)
  obtain rfl : z_1 = b2i (0 ≤ sg ∧ sg ≤ 2) := hp
  refine zi_ifb_ne (tgt := 12) hF.1 hF.2.1 (P := 0 ≤ sg ∧ sg ≤ 2) dX4_setChange_5 (by decide) (fun c_5 => ?_) (fun c_5 => ?_)
  · skip
    refine lv_iload_n hF.1 hF.2.1 dX4_setChange_12 rfl (lv_at hl 2 rfl) ?_
    refine zi_const hF.1 hF.2.1 dX4_setChange_13 ?_
    refine zi_bipush hF.1 hF.2.1 dX4_setChange_14 (by decide) ?_
    refine z_ci (S := Unit) (w := fun _ => mC c h τ κ) (P := fun z _ => z = b2i (0 ≤ mi ∧ mi ≤ 60)) (z_runS (rm := { frames := 0, cells := 0, slots := 0, locals := 0 }) hF hK hP (c_X4_isIn l h D c τ κ hinj hG mi (by omega) 0 (by omega) 60 (by omega) _) (gIn_S mw_445 mw_446 mw_447 mw_443) rfl rfl ⟨rfl, by decide, by decide, rfl⟩ ⟨Nat.le_of_ble_eq_true rfl, Nat.le_of_ble_eq_true rfl⟩ (As := [.int (iz (mi)), .int (iz (0)), .int (iz (60))]) (rest := [.ref (h (0))]) rfl hl.1 rfl (Nat.le_of_ble_eq_true rfl) dX4_setChange_16 ⟨Nat.le_refl _, Nat.le_refl _⟩) hz hA hS (fun z_3 u_4 H locs hp hP hS => ?_)
    obtain rfl : z_3 = b2i (0 ≤ mi ∧ mi ≤ 60) := hp
    refine zi_ifb_eq (tgt := 26) hF.1 hF.2.1 (P := 0 ≤ mi ∧ mi ≤ 60) dX4_setChange_19 (by decide) (fun c_19 => ?_) (fun c_19 => ?_)
    · skip
      refine zi_const hF.1 hF.2.1 dX4_setChange_26 ?_
      refine z_put hF hK hz hP hS (k := 0) (C := RX4) (T := TX4) (N := 22) (by omega) (rfl) rfl uin_X4 tyX4_ok nmX4 21 (by decide) mw_442 rfl (⟨rfl, rfl⟩) (by simp) (g' := mC c h (τ) (u2 (κ) 1 0 (2))) (rfl) (mC_t_o) dX4_setChange_27 (fun H locs hP hS => ?_)
      refine lv_aload_n hF.1 hF.2.1 dX4_setChange_30 rfl (lv_at hl 0 rfl) ?_
      refine z_get hF hK hP (k := 0) (C := RX4) (T := TX4) (N := 22) (by omega) (rfl) rfl uin_X4 21 (by decide) mw_442 (v := .int (iz (2))) rfl dX4_setChange_31 ?_
      refine zi_if_le (tgt := 39) hF.1 hF.2.1 (a := 2) dX4_setChange_34 (by decide) (by omega) (fun c_34 => ?_) (fun c_34 => ?_)
      · skip
        exact absurd c_34 (by omega)
      · skip
        refine zi_const hF.1 hF.2.1 dX4_setChange_37 ?_
        exact z_reti (P := fun z u9 => MS τ (thC sg mi) (u2 τ 2 (sg).toNat mi) z u9.1 (u9.2 1 0)) (z := 0) (u := (τ, u2 (κ) 1 0 (2))) (w := fun u9 => mC c h u9.1 u9.2) hF hr hlocks hP hS ((iz_nar_z (by first | omega | exact b2i_rg)).1) (⟨by have e9 : (u2 (κ) 1 0 (2)) 1 0 = (2 : Int) := rfl; show (u2 (κ) 1 0 (2)) 1 0 = _; rw [e9]; unfold thC; (repeat' split) <;> omega, Or.inl ⟨by unfold thC; (repeat' split) <;> omega, rfl, rfl⟩, hG⟩) dX4_setChange_38
    · skip
      refine zi_const hF.1 hF.2.1 dX4_setChange_22 ?_
      refine lv_goto (tgt := 27) hF.1 hF.2.1 dX4_setChange_23 (by decide) ?_
      refine z_put hF hK hz hP hS (k := 0) (C := RX4) (T := TX4) (N := 22) (by omega) (rfl) rfl uin_X4 tyX4_ok nmX4 21 (by decide) mw_442 rfl (⟨rfl, rfl⟩) (by simp) (g' := mC c h (τ) (u2 (κ) 1 0 (0))) (rfl) (mC_t_o) dX4_setChange_27 (fun H locs hP hS => ?_)
      refine lv_aload_n hF.1 hF.2.1 dX4_setChange_30 rfl (lv_at hl 0 rfl) ?_
      refine z_get hF hK hP (k := 0) (C := RX4) (T := TX4) (N := 22) (by omega) (rfl) rfl uin_X4 21 (by decide) mw_442 (v := .int (iz (0))) rfl dX4_setChange_31 ?_
      refine zi_if_le (tgt := 39) hF.1 hF.2.1 (a := 0) dX4_setChange_34 (by decide) (by omega) (fun c_34 => ?_) (fun c_34 => ?_)
      · skip
        refine lv_aload_n hF.1 hF.2.1 dX4_setChange_39 rfl (lv_at hl 0 rfl) ?_
        refine z_get hF hK hP (k := 0) (C := RX4) (T := TX4) (N := 22) (by omega) (rfl) rfl uin_X4 2 (by decide) mw_425 (v := .ref (h (2))) rfl dX4_setChange_40 ?_
        refine lv_iload_n hF.1 hF.2.1 dX4_setChange_43 rfl (lv_at hl 1 rfl) ?_
        refine z_iald hF hK hP (k := 2) (by decide) rfl 0 rfl (i := sg) ((sg).toNat) ((Int.toNat_of_nonneg (by omega)).symm) (by omega) (by decide) (x := iz (τ 2 (sg).toNat)) rfl dX4_setChange_44 ?_
        have q_5 := GI_2 hG ((sg).toNat)
        refine lv_istore_n (lv' := [(3, .int (iz (τ 2 (sg).toNat))), (0, .ref (h (0))), (1, .int (iz (sg))), (2, .int (iz (mi)))]) hF.1 hF.2.1 dX4_setChange_45 rfl hl (by decide) rfl (fun ls hl => ?_)
        refine lv_aload_n hF.1 hF.2.1 dX4_setChange_46 rfl (lv_at hl 1 rfl) ?_
        refine z_get hF hK hP (k := 0) (C := RX4) (T := TX4) (N := 22) (by omega) (rfl) rfl uin_X4 2 (by decide) mw_425 (v := .ref (h (2))) rfl dX4_setChange_47 ?_
        refine lv_iload_n hF.1 hF.2.1 dX4_setChange_50 rfl (lv_at hl 2 rfl) ?_
        refine lv_iload_n hF.1 hF.2.1 dX4_setChange_51 rfl (lv_at hl 3 rfl) ?_
        refine z_iast hF hK hz hP hS (k := 2) (by decide) rfl 0 rfl (i := sg) ((sg).toNat) ((Int.toNat_of_nonneg (by omega)).symm) (by omega) (by decide) (x := iz (mi)) (g' := mC c h (u2 (τ) 2 ((sg).toNat) (mi)) (u2 (κ) 1 0 (0))) (by show Sum.inl (_, _, Sum.inl _) = _; rw [u2_up]) (mC_row_o (a := 2) ⟨by decide, by decide⟩) dX4_setChange_52 (fun H locs hP hS => ?_)
        have hG_6 := GI_u2 hG (v := mi) (k := (sg).toNat) (by omega)
        refine lv_aload_n hF.1 hF.2.1 dX4_setChange_53 rfl (lv_at hl 1 rfl) ?_
        refine z_ci (S := Nat → Nat → Int) (w := fun κ9 => mC c h (u2 (τ) 2 ((sg).toNat) (mi)) κ9) (P := fun z κ9 => z = wrg (u2 (τ) 2 ((sg).toNat) (mi)) ∧ κ9 1 = (u2 (κ) 1 0 (0)) 1) (z_runV (rm := { frames := 3, cells := 0, slots := 0, locals := 71 }) hF hK hP (c_X4_wrong l h D c (u2 (τ) 2 ((sg).toNat) (mi)) (u2 (κ) 1 0 (0)) hinj hG_6  _) (gIn_V mw_489 mw_490 mw_491 mw_447 mw_483) rfl rfl ⟨rfl, by decide, by decide, rfl⟩ ⟨Nat.le_of_ble_eq_true rfl, Nat.le_of_ble_eq_true rfl⟩ (k := 0) (T := TX4) (N := 22) (by omega) rfl (rfl) rfl (As := []) (rest := []) rfl hl.1 rfl (Nat.le_of_ble_eq_true rfl) dX4_setChange_54 ⟨Nat.le_refl _, Nat.le_refl _⟩) hz hA hS (fun z_7 u_8 H locs hp hP hS => ?_)
        obtain ⟨rfl, hku_8⟩ : z_7 = wrg (u2 (τ) 2 ((sg).toNat) (mi)) ∧ u_8 1 = (u2 (κ) 1 0 (0)) 1 := hp
        have hP : zB 17 h D (mC c h (u2 (τ) 2 ((sg).toNat) (mi)) (u_8)) H := hP
        have q_9 := @wrg_rg (u2 (τ) 2 ((sg).toNat) (mi))
        refine zi_if_ne (tgt := 64) hF.1 hF.2.1 (a := wrg (u2 (τ) 2 ((sg).toNat) (mi))) dX4_setChange_57 (by decide) (by omega) (fun c_57 => ?_) (fun c_57 => ?_)
        · skip
          refine zi_const hF.1 hF.2.1 dX4_setChange_64 ?_
          refine lv_istore (lv' := [(4, .int (iz (0))), (3, .int (iz (τ 2 (sg).toNat))), (0, .ref (h (0))), (1, .int (iz (sg))), (2, .int (iz (mi)))]) hF.1 hF.2.1 dX4_setChange_65 hl (by decide) rfl (fun ls hl => ?_)
          refine lv_aload_n hF.1 hF.2.1 dX4_setChange_67 rfl (lv_at hl 2 rfl) ?_
          refine z_get hF hK hP (k := 0) (C := RX4) (T := TX4) (N := 22) (by omega) (rfl) rfl uin_X4 2 (by decide) mw_425 (v := .ref (h (2))) rfl dX4_setChange_68 ?_
          refine lv_iload_n hF.1 hF.2.1 dX4_setChange_71 rfl (lv_at hl 3 rfl) ?_
          refine lv_iload hF.1 hF.2.1 dX4_setChange_72 (lv_at hl 0 rfl) ?_
          refine zi_if_eq (tgt := 81) hF.1 hF.2.1 (a := 0) dX4_setChange_74 (by decide) (by omega) (fun c_74 => ?_) (fun c_74 => ?_)
          · skip
            refine lv_iload_n hF.1 hF.2.1 dX4_setChange_81 rfl (lv_at hl 1 rfl) ?_
            refine z_iast hF hK hz hP hS (k := 2) (by decide) rfl 0 rfl (i := sg) ((sg).toNat) ((Int.toNat_of_nonneg (by omega)).symm) (by omega) (by decide) (x := iz (τ 2 (sg).toNat)) (g' := mC c h (u2 (u2 (τ) 2 ((sg).toNat) (mi)) 2 ((sg).toNat) (τ 2 (sg).toNat)) (u_8)) (by show Sum.inl (_, _, Sum.inl _) = _; rw [u2_up]) (mC_row_o (a := 2) ⟨by decide, by decide⟩) dX4_setChange_82 (fun H locs hP hS => ?_)
            have hG_10 := GI_u2 hG_6 (v := τ 2 (sg).toNat) (k := (sg).toNat) (by omega)
            refine lv_iload hF.1 hF.2.1 dX4_setChange_83 (lv_at hl 0 rfl) ?_
            exact z_reti (P := fun z u9 => MS τ (thC sg mi) (u2 τ 2 (sg).toNat mi) z u9.1 (u9.2 1 0)) (z := 0) (u := (u2 (u2 (τ) 2 ((sg).toNat) (mi)) 2 ((sg).toNat) (τ 2 (sg).toNat), u_8)) (w := fun u9 => mC c h u9.1 u9.2) hF hr hlocks hP hS ((iz_nar_z (by first | omega | exact b2i_rg)).1) (⟨by have e9 : (u_8) 1 0 = (0 : Int) := (by rw [hku_8]; rfl); show (u_8) 1 0 = _; rw [e9]; unfold thC; (repeat' split) <;> omega, Or.inr ⟨by unfold thC; (repeat' split) <;> omega, Or.inr ⟨by omega, rfl, u2_u2.trans u2_self⟩⟩, hG_10⟩) dX4_setChange_85
          · skip
            exact absurd c_74 (by omega)
        · skip
          refine zi_const hF.1 hF.2.1 dX4_setChange_60 ?_
          refine lv_goto (tgt := 65) hF.1 hF.2.1 dX4_setChange_61 (by decide) ?_
          refine lv_istore (lv' := [(4, .int (iz (1))), (3, .int (iz (τ 2 (sg).toNat))), (0, .ref (h (0))), (1, .int (iz (sg))), (2, .int (iz (mi)))]) hF.1 hF.2.1 dX4_setChange_65 hl (by decide) rfl (fun ls hl => ?_)
          refine lv_aload_n hF.1 hF.2.1 dX4_setChange_67 rfl (lv_at hl 2 rfl) ?_
          refine z_get hF hK hP (k := 0) (C := RX4) (T := TX4) (N := 22) (by omega) (rfl) rfl uin_X4 2 (by decide) mw_425 (v := .ref (h (2))) rfl dX4_setChange_68 ?_
          refine lv_iload_n hF.1 hF.2.1 dX4_setChange_71 rfl (lv_at hl 3 rfl) ?_
          refine lv_iload hF.1 hF.2.1 dX4_setChange_72 (lv_at hl 0 rfl) ?_
          refine zi_if_eq (tgt := 81) hF.1 hF.2.1 (a := 1) dX4_setChange_74 (by decide) (by omega) (fun c_74 => ?_) (fun c_74 => ?_)
          · skip
            exact absurd c_74 (by omega)
          · skip
            refine lv_iload_n hF.1 hF.2.1 dX4_setChange_77 rfl (lv_at hl 4 rfl) ?_
            refine lv_goto (tgt := 82) hF.1 hF.2.1 dX4_setChange_78 (by decide) ?_
            refine z_iast hF hK hz hP hS (k := 2) (by decide) rfl 0 rfl (i := sg) ((sg).toNat) ((Int.toNat_of_nonneg (by omega)).symm) (by omega) (by decide) (x := iz (mi)) (g' := mC c h (u2 (u2 (τ) 2 ((sg).toNat) (mi)) 2 ((sg).toNat) (mi)) (u_8)) (by show Sum.inl (_, _, Sum.inl _) = _; rw [u2_up]) (mC_row_o (a := 2) ⟨by decide, by decide⟩) dX4_setChange_82 (fun H locs hP hS => ?_)
            have hG_11 := GI_u2 hG_6 (v := mi) (k := (sg).toNat) (by omega)
            refine lv_iload hF.1 hF.2.1 dX4_setChange_83 (lv_at hl 0 rfl) ?_
            exact z_reti (P := fun z u9 => MS τ (thC sg mi) (u2 τ 2 (sg).toNat mi) z u9.1 (u9.2 1 0)) (z := 1) (u := (u2 (u2 (τ) 2 ((sg).toNat) (mi)) 2 ((sg).toNat) (mi), u_8)) (w := fun u9 => mC c h u9.1 u9.2) hF hr hlocks hP hS ((iz_nar_z (by first | omega | exact b2i_rg)).1) (⟨by have e9 : (u_8) 1 0 = (0 : Int) := (by rw [hku_8]; rfl); show (u_8) 1 0 = _; rw [e9]; unfold thC; (repeat' split) <;> omega, Or.inr ⟨by unfold thC; (repeat' split) <;> omega, Or.inl ⟨by omega, rfl, u2_u2⟩⟩, hG_11⟩) dX4_setChange_85
      · skip
        exact absurd c_34 (by omega)
  · skip
    refine zi_const hF.1 hF.2.1 dX4_setChange_8 ?_
    refine lv_goto (tgt := 27) hF.1 hF.2.1 dX4_setChange_9 (by decide) ?_
    refine z_put hF hK hz hP hS (k := 0) (C := RX4) (T := TX4) (N := 22) (by omega) (rfl) rfl uin_X4 tyX4_ok nmX4 21 (by decide) mw_442 rfl (⟨rfl, rfl⟩) (by simp) (g' := mC c h (τ) (u2 (κ) 1 0 (1))) (rfl) (mC_t_o) dX4_setChange_27 (fun H locs hP hS => ?_)
    refine lv_aload_n hF.1 hF.2.1 dX4_setChange_30 rfl (lv_at hl 0 rfl) ?_
    refine z_get hF hK hP (k := 0) (C := RX4) (T := TX4) (N := 22) (by omega) (rfl) rfl uin_X4 21 (by decide) mw_442 (v := .int (iz (1))) rfl dX4_setChange_31 ?_
    refine zi_if_le (tgt := 39) hF.1 hF.2.1 (a := 1) dX4_setChange_34 (by decide) (by omega) (fun c_34 => ?_) (fun c_34 => ?_)
    · skip
      exact absurd c_34 (by omega)
    · skip
      refine zi_const hF.1 hF.2.1 dX4_setChange_37 ?_
      exact z_reti (P := fun z u9 => MS τ (thC sg mi) (u2 τ 2 (sg).toNat mi) z u9.1 (u9.2 1 0)) (z := 0) (u := (τ, u2 (κ) 1 0 (1))) (w := fun u9 => mC c h u9.1 u9.2) hF hr hlocks hP hS ((iz_nar_z (by first | omega | exact b2i_rg)).1) (⟨by have e9 : (u2 (κ) 1 0 (1)) 1 0 = (1 : Int) := rfl; show (u2 (κ) 1 0 (1)) 1 0 = _; rw [e9]; unfold thC; (repeat' split) <;> omega, Or.inl ⟨by unfold thC; (repeat' split) <;> omega, rfl, rfl⟩, hG⟩) dX4_setChange_38

set_option maxRecDepth 100000 in
set_option maxHeartbeats 4000000 in
theorem c_X4_setBound (l : Launch) (h : Nat → Nat) (D : va_G) (c : Nat → ClassId) (τ κ : Nat → Nat → Int) (hinj : ∀ i j, i < 17 → j < 17 → h i = h j → i = j) (hG : GI τ) (hs : Int) (hhs : -2147483648 ≤ hs ∧ hs ≤ 2147483647) (bd : Int) (hbd : -2147483648 ≤ bd ∧ bd ≤ 2147483647) :
    zMi (S := (Nat → Nat → Int) × (Nat → Nat → Int)) l yX4_setBound cX4_setBound 5 (some .boolean) 4 94 [.ref (h (0)), .int (iz (hs)), .int (iz (bd))] 17 h D (gT c) (mC c h (τ) (κ)) (fun u9 => mC c h u9.1 u9.2) (fun z u9 => MS τ (thB hs bd) (u2 τ 3 (hs).toNat bd) z u9.1 (u9.2 1 0)) := by
  refine zM_of (by decide) (Nat.le_of_ble_eq_true rfl) ?_
  intro p e s m below meth cd ls ⟨hF, hr, hlocks, hK⟩ hP hl
  have hz : zD (zA 17 h s.heap.size) 17 h := zD.self hinj s.heap.size
  have hA : ∀ q, s.heap.size ≤ q → zA 17 h s.heap.size q := zA_new
  generalize zA 17 h s.heap.size = A at hz hA ⊢
  have hS : va_S A s.heap s.heap [] := va_S.rf
  have hl : lv_has ls 5 [(0, .ref (h (0))), (1, .int (iz (hs))), (2, .int (iz (bd)))] := hl
  refine lv_aload_n hF.1 hF.2.1 dX4_setBound_0 rfl (lv_at hl 0 rfl) ?_
  refine lv_iload_n hF.1 hF.2.1 dX4_setBound_1 rfl (lv_at hl 1 rfl) ?_
  refine z_ci (S := Unit) (w := fun _ => mC c h τ κ) (P := fun z _ => z = b2i (0 ≤ hs ∧ hs ≤ 2)) (z_runS (rm := { frames := 1, cells := 0, slots := 0, locals := 22 }) hF hK hP (c_X4_isThree l h D c τ κ hinj hG hs (by omega) _) (gIn_S mw_487 mw_488 mw_447 mw_448) rfl rfl ⟨rfl, by decide, by decide, rfl⟩ ⟨Nat.le_of_ble_eq_true rfl, Nat.le_of_ble_eq_true rfl⟩ (As := [.int (iz (hs))]) (rest := [.ref (h (0))]) rfl hl.1 rfl (Nat.le_of_ble_eq_true rfl) dX4_setBound_2 ⟨Nat.le_refl _, Nat.le_refl _⟩) hz hA hS (fun z_1 u_2 H locs hp hP hS => ?_)
  obtain rfl : z_1 = b2i (0 ≤ hs ∧ hs ≤ 2) := hp
  refine zi_ifb_ne (tgt := 12) hF.1 hF.2.1 (P := 0 ≤ hs ∧ hs ≤ 2) dX4_setBound_5 (by decide) (fun c_5 => ?_) (fun c_5 => ?_)
  · skip
    refine lv_iload_n hF.1 hF.2.1 dX4_setBound_12 rfl (lv_at hl 2 rfl) ?_
    refine zi_bipush hF.1 hF.2.1 dX4_setBound_13 (by decide) ?_
    refine zi_sipush hF.1 hF.2.1 dX4_setBound_15 (by decide) ?_
    refine z_ci (S := Unit) (w := fun _ => mC c h τ κ) (P := fun z _ => z = b2i (10 ≤ bd ∧ bd ≤ 300)) (z_runS (rm := { frames := 0, cells := 0, slots := 0, locals := 0 }) hF hK hP (c_X4_isIn l h D c τ κ hinj hG bd (by omega) 10 (by omega) 300 (by omega) _) (gIn_S mw_445 mw_446 mw_447 mw_443) rfl rfl ⟨rfl, by decide, by decide, rfl⟩ ⟨Nat.le_of_ble_eq_true rfl, Nat.le_of_ble_eq_true rfl⟩ (As := [.int (iz (bd)), .int (iz (10)), .int (iz (300))]) (rest := [.ref (h (0))]) rfl hl.1 rfl (Nat.le_of_ble_eq_true rfl) dX4_setBound_18 ⟨Nat.le_refl _, Nat.le_refl _⟩) hz hA hS (fun z_3 u_4 H locs hp hP hS => ?_)
    obtain rfl : z_3 = b2i (10 ≤ bd ∧ bd ≤ 300) := hp
    refine zi_ifb_eq (tgt := 28) hF.1 hF.2.1 (P := 10 ≤ bd ∧ bd ≤ 300) dX4_setBound_21 (by decide) (fun c_21 => ?_) (fun c_21 => ?_)
    · skip
      refine zi_const hF.1 hF.2.1 dX4_setBound_28 ?_
      refine z_put hF hK hz hP hS (k := 0) (C := RX4) (T := TX4) (N := 22) (by omega) (rfl) rfl uin_X4 tyX4_ok nmX4 21 (by decide) mw_442 rfl (⟨rfl, rfl⟩) (by simp) (g' := mC c h (τ) (u2 (κ) 1 0 (2))) (rfl) (mC_t_o) dX4_setBound_29 (fun H locs hP hS => ?_)
      refine lv_aload_n hF.1 hF.2.1 dX4_setBound_32 rfl (lv_at hl 0 rfl) ?_
      refine z_get hF hK hP (k := 0) (C := RX4) (T := TX4) (N := 22) (by omega) (rfl) rfl uin_X4 21 (by decide) mw_442 (v := .int (iz (2))) rfl dX4_setBound_33 ?_
      refine zi_if_le (tgt := 41) hF.1 hF.2.1 (a := 2) dX4_setBound_36 (by decide) (by omega) (fun c_36 => ?_) (fun c_36 => ?_)
      · skip
        exact absurd c_36 (by omega)
      · skip
        refine zi_const hF.1 hF.2.1 dX4_setBound_39 ?_
        exact z_reti (P := fun z u9 => MS τ (thB hs bd) (u2 τ 3 (hs).toNat bd) z u9.1 (u9.2 1 0)) (z := 0) (u := (τ, u2 (κ) 1 0 (2))) (w := fun u9 => mC c h u9.1 u9.2) hF hr hlocks hP hS ((iz_nar_z (by first | omega | exact b2i_rg)).1) (⟨by have e9 : (u2 (κ) 1 0 (2)) 1 0 = (2 : Int) := rfl; show (u2 (κ) 1 0 (2)) 1 0 = _; rw [e9]; unfold thB; (repeat' split) <;> omega, Or.inl ⟨by unfold thB; (repeat' split) <;> omega, rfl, rfl⟩, hG⟩) dX4_setBound_40
    · skip
      refine zi_const hF.1 hF.2.1 dX4_setBound_24 ?_
      refine lv_goto (tgt := 29) hF.1 hF.2.1 dX4_setBound_25 (by decide) ?_
      refine z_put hF hK hz hP hS (k := 0) (C := RX4) (T := TX4) (N := 22) (by omega) (rfl) rfl uin_X4 tyX4_ok nmX4 21 (by decide) mw_442 rfl (⟨rfl, rfl⟩) (by simp) (g' := mC c h (τ) (u2 (κ) 1 0 (0))) (rfl) (mC_t_o) dX4_setBound_29 (fun H locs hP hS => ?_)
      refine lv_aload_n hF.1 hF.2.1 dX4_setBound_32 rfl (lv_at hl 0 rfl) ?_
      refine z_get hF hK hP (k := 0) (C := RX4) (T := TX4) (N := 22) (by omega) (rfl) rfl uin_X4 21 (by decide) mw_442 (v := .int (iz (0))) rfl dX4_setBound_33 ?_
      refine zi_if_le (tgt := 41) hF.1 hF.2.1 (a := 0) dX4_setBound_36 (by decide) (by omega) (fun c_36 => ?_) (fun c_36 => ?_)
      · skip
        refine lv_aload_n hF.1 hF.2.1 dX4_setBound_41 rfl (lv_at hl 0 rfl) ?_
        refine z_get hF hK hP (k := 0) (C := RX4) (T := TX4) (N := 22) (by omega) (rfl) rfl uin_X4 3 (by decide) mw_426 (v := .ref (h (3))) rfl dX4_setBound_42 ?_
        refine lv_iload_n hF.1 hF.2.1 dX4_setBound_45 rfl (lv_at hl 1 rfl) ?_
        refine z_iald hF hK hP (k := 3) (by decide) rfl 0 rfl (i := hs) ((hs).toNat) ((Int.toNat_of_nonneg (by omega)).symm) (by omega) (by decide) (x := iz (τ 3 (hs).toNat)) rfl dX4_setBound_46 ?_
        have q_5 := GI_3 hG ((hs).toNat)
        refine lv_istore_n (lv' := [(3, .int (iz (τ 3 (hs).toNat))), (0, .ref (h (0))), (1, .int (iz (hs))), (2, .int (iz (bd)))]) hF.1 hF.2.1 dX4_setBound_47 rfl hl (by decide) rfl (fun ls hl => ?_)
        refine lv_aload_n hF.1 hF.2.1 dX4_setBound_48 rfl (lv_at hl 1 rfl) ?_
        refine z_get hF hK hP (k := 0) (C := RX4) (T := TX4) (N := 22) (by omega) (rfl) rfl uin_X4 3 (by decide) mw_426 (v := .ref (h (3))) rfl dX4_setBound_49 ?_
        refine lv_iload_n hF.1 hF.2.1 dX4_setBound_52 rfl (lv_at hl 2 rfl) ?_
        refine lv_iload_n hF.1 hF.2.1 dX4_setBound_53 rfl (lv_at hl 3 rfl) ?_
        refine z_iast hF hK hz hP hS (k := 3) (by decide) rfl 0 rfl (i := hs) ((hs).toNat) ((Int.toNat_of_nonneg (by omega)).symm) (by omega) (by decide) (x := iz (bd)) (g' := mC c h (u2 (τ) 3 ((hs).toNat) (bd)) (u2 (κ) 1 0 (0))) (by show Sum.inl (_, _, Sum.inl _) = _; rw [u2_up]) (mC_row_o (a := 3) ⟨by decide, by decide⟩) dX4_setBound_54 (fun H locs hP hS => ?_)
        have hG_6 := GI_u3 hG (v := bd) (k := (hs).toNat) (by omega)
        refine lv_aload_n hF.1 hF.2.1 dX4_setBound_55 rfl (lv_at hl 1 rfl) ?_
        refine z_ci (S := Nat → Nat → Int) (w := fun κ9 => mC c h (u2 (τ) 3 ((hs).toNat) (bd)) κ9) (P := fun z κ9 => z = wrg (u2 (τ) 3 ((hs).toNat) (bd)) ∧ κ9 1 = (u2 (κ) 1 0 (0)) 1) (z_runV (rm := { frames := 3, cells := 0, slots := 0, locals := 71 }) hF hK hP (c_X4_wrong l h D c (u2 (τ) 3 ((hs).toNat) (bd)) (u2 (κ) 1 0 (0)) hinj hG_6  _) (gIn_V mw_489 mw_490 mw_491 mw_447 mw_483) rfl rfl ⟨rfl, by decide, by decide, rfl⟩ ⟨Nat.le_of_ble_eq_true rfl, Nat.le_of_ble_eq_true rfl⟩ (k := 0) (T := TX4) (N := 22) (by omega) rfl (rfl) rfl (As := []) (rest := []) rfl hl.1 rfl (Nat.le_of_ble_eq_true rfl) dX4_setBound_56 ⟨Nat.le_refl _, Nat.le_refl _⟩) hz hA hS (fun z_7 u_8 H locs hp hP hS => ?_)
        obtain ⟨rfl, hku_8⟩ : z_7 = wrg (u2 (τ) 3 ((hs).toNat) (bd)) ∧ u_8 1 = (u2 (κ) 1 0 (0)) 1 := hp
        have hP : zB 17 h D (mC c h (u2 (τ) 3 ((hs).toNat) (bd)) (u_8)) H := hP
        have q_9 := @wrg_rg (u2 (τ) 3 ((hs).toNat) (bd))
        refine zi_if_ne (tgt := 66) hF.1 hF.2.1 (a := wrg (u2 (τ) 3 ((hs).toNat) (bd))) dX4_setBound_59 (by decide) (by omega) (fun c_59 => ?_) (fun c_59 => ?_)
        · skip
          refine zi_const hF.1 hF.2.1 dX4_setBound_66 ?_
          refine lv_istore (lv' := [(4, .int (iz (0))), (3, .int (iz (τ 3 (hs).toNat))), (0, .ref (h (0))), (1, .int (iz (hs))), (2, .int (iz (bd)))]) hF.1 hF.2.1 dX4_setBound_67 hl (by decide) rfl (fun ls hl => ?_)
          refine lv_aload_n hF.1 hF.2.1 dX4_setBound_69 rfl (lv_at hl 2 rfl) ?_
          refine z_get hF hK hP (k := 0) (C := RX4) (T := TX4) (N := 22) (by omega) (rfl) rfl uin_X4 3 (by decide) mw_426 (v := .ref (h (3))) rfl dX4_setBound_70 ?_
          refine lv_iload_n hF.1 hF.2.1 dX4_setBound_73 rfl (lv_at hl 3 rfl) ?_
          refine lv_iload hF.1 hF.2.1 dX4_setBound_74 (lv_at hl 0 rfl) ?_
          refine zi_if_eq (tgt := 83) hF.1 hF.2.1 (a := 0) dX4_setBound_76 (by decide) (by omega) (fun c_76 => ?_) (fun c_76 => ?_)
          · skip
            refine lv_iload_n hF.1 hF.2.1 dX4_setBound_83 rfl (lv_at hl 1 rfl) ?_
            refine z_iast hF hK hz hP hS (k := 3) (by decide) rfl 0 rfl (i := hs) ((hs).toNat) ((Int.toNat_of_nonneg (by omega)).symm) (by omega) (by decide) (x := iz (τ 3 (hs).toNat)) (g' := mC c h (u2 (u2 (τ) 3 ((hs).toNat) (bd)) 3 ((hs).toNat) (τ 3 (hs).toNat)) (u_8)) (by show Sum.inl (_, _, Sum.inl _) = _; rw [u2_up]) (mC_row_o (a := 3) ⟨by decide, by decide⟩) dX4_setBound_84 (fun H locs hP hS => ?_)
            have hG_10 := GI_u3 hG_6 (v := τ 3 (hs).toNat) (k := (hs).toNat) (by omega)
            refine lv_iload hF.1 hF.2.1 dX4_setBound_85 (lv_at hl 0 rfl) ?_
            exact z_reti (P := fun z u9 => MS τ (thB hs bd) (u2 τ 3 (hs).toNat bd) z u9.1 (u9.2 1 0)) (z := 0) (u := (u2 (u2 (τ) 3 ((hs).toNat) (bd)) 3 ((hs).toNat) (τ 3 (hs).toNat), u_8)) (w := fun u9 => mC c h u9.1 u9.2) hF hr hlocks hP hS ((iz_nar_z (by first | omega | exact b2i_rg)).1) (⟨by have e9 : (u_8) 1 0 = (0 : Int) := (by rw [hku_8]; rfl); show (u_8) 1 0 = _; rw [e9]; unfold thB; (repeat' split) <;> omega, Or.inr ⟨by unfold thB; (repeat' split) <;> omega, Or.inr ⟨by omega, rfl, u2_u2.trans u2_self⟩⟩, hG_10⟩) dX4_setBound_87
          · skip
            exact absurd c_76 (by omega)
        · skip
          refine zi_const hF.1 hF.2.1 dX4_setBound_62 ?_
          refine lv_goto (tgt := 67) hF.1 hF.2.1 dX4_setBound_63 (by decide) ?_
          refine lv_istore (lv' := [(4, .int (iz (1))), (3, .int (iz (τ 3 (hs).toNat))), (0, .ref (h (0))), (1, .int (iz (hs))), (2, .int (iz (bd)))]) hF.1 hF.2.1 dX4_setBound_67 hl (by decide) rfl (fun ls hl => ?_)
          refine lv_aload_n hF.1 hF.2.1 dX4_setBound_69 rfl (lv_at hl 2 rfl) ?_
          refine z_get hF hK hP (k := 0) (C := RX4) (T := TX4) (N := 22) (by omega) (rfl) rfl uin_X4 3 (by decide) mw_426 (v := .ref (h (3))) rfl dX4_setBound_70 ?_
          refine lv_iload_n hF.1 hF.2.1 dX4_setBound_73 rfl (lv_at hl 3 rfl) ?_
          refine lv_iload hF.1 hF.2.1 dX4_setBound_74 (lv_at hl 0 rfl) ?_
          refine zi_if_eq (tgt := 83) hF.1 hF.2.1 (a := 1) dX4_setBound_76 (by decide) (by omega) (fun c_76 => ?_) (fun c_76 => ?_)
          · skip
            exact absurd c_76 (by omega)
          · skip
            refine lv_iload_n hF.1 hF.2.1 dX4_setBound_79 rfl (lv_at hl 4 rfl) ?_
            refine lv_goto (tgt := 84) hF.1 hF.2.1 dX4_setBound_80 (by decide) ?_
            refine z_iast hF hK hz hP hS (k := 3) (by decide) rfl 0 rfl (i := hs) ((hs).toNat) ((Int.toNat_of_nonneg (by omega)).symm) (by omega) (by decide) (x := iz (bd)) (g' := mC c h (u2 (u2 (τ) 3 ((hs).toNat) (bd)) 3 ((hs).toNat) (bd)) (u_8)) (by show Sum.inl (_, _, Sum.inl _) = _; rw [u2_up]) (mC_row_o (a := 3) ⟨by decide, by decide⟩) dX4_setBound_84 (fun H locs hP hS => ?_)
            have hG_11 := GI_u3 hG_6 (v := bd) (k := (hs).toNat) (by omega)
            refine lv_iload hF.1 hF.2.1 dX4_setBound_85 (lv_at hl 0 rfl) ?_
            exact z_reti (P := fun z u9 => MS τ (thB hs bd) (u2 τ 3 (hs).toNat bd) z u9.1 (u9.2 1 0)) (z := 1) (u := (u2 (u2 (τ) 3 ((hs).toNat) (bd)) 3 ((hs).toNat) (bd), u_8)) (w := fun u9 => mC c h u9.1 u9.2) hF hr hlocks hP hS ((iz_nar_z (by first | omega | exact b2i_rg)).1) (⟨by have e9 : (u_8) 1 0 = (0 : Int) := (by rw [hku_8]; rfl); show (u_8) 1 0 = _; rw [e9]; unfold thB; (repeat' split) <;> omega, Or.inr ⟨by unfold thB; (repeat' split) <;> omega, Or.inl ⟨by omega, rfl, u2_u2⟩⟩, hG_11⟩) dX4_setBound_87
      · skip
        exact absurd c_36 (by omega)
  · skip
    refine zi_const hF.1 hF.2.1 dX4_setBound_8 ?_
    refine lv_goto (tgt := 29) hF.1 hF.2.1 dX4_setBound_9 (by decide) ?_
    refine z_put hF hK hz hP hS (k := 0) (C := RX4) (T := TX4) (N := 22) (by omega) (rfl) rfl uin_X4 tyX4_ok nmX4 21 (by decide) mw_442 rfl (⟨rfl, rfl⟩) (by simp) (g' := mC c h (τ) (u2 (κ) 1 0 (1))) (rfl) (mC_t_o) dX4_setBound_29 (fun H locs hP hS => ?_)
    refine lv_aload_n hF.1 hF.2.1 dX4_setBound_32 rfl (lv_at hl 0 rfl) ?_
    refine z_get hF hK hP (k := 0) (C := RX4) (T := TX4) (N := 22) (by omega) (rfl) rfl uin_X4 21 (by decide) mw_442 (v := .int (iz (1))) rfl dX4_setBound_33 ?_
    refine zi_if_le (tgt := 41) hF.1 hF.2.1 (a := 1) dX4_setBound_36 (by decide) (by omega) (fun c_36 => ?_) (fun c_36 => ?_)
    · skip
      exact absurd c_36 (by omega)
    · skip
      refine zi_const hF.1 hF.2.1 dX4_setBound_39 ?_
      exact z_reti (P := fun z u9 => MS τ (thB hs bd) (u2 τ 3 (hs).toNat bd) z u9.1 (u9.2 1 0)) (z := 0) (u := (τ, u2 (κ) 1 0 (1))) (w := fun u9 => mC c h u9.1 u9.2) hF hr hlocks hP hS ((iz_nar_z (by first | omega | exact b2i_rg)).1) (⟨by have e9 : (u2 (κ) 1 0 (1)) 1 0 = (1 : Int) := rfl; show (u2 (κ) 1 0 (1)) 1 0 = _; rw [e9]; unfold thB; (repeat' split) <;> omega, Or.inl ⟨by unfold thB; (repeat' split) <;> omega, rfl, rfl⟩, hG⟩) dX4_setBound_40

set_option maxRecDepth 100000 in
set_option maxHeartbeats 4000000 in
theorem c_X4_setWind (l : Launch) (h : Nat → Nat) (D : va_G) (c : Nat → ClassId) (τ κ : Nat → Nat → Int) (hinj : ∀ i j, i < 17 → j < 17 → h i = h j → i = j) (hG : GI τ) (hr9 : Int) (hhr9 : -2147483648 ≤ hr9 ∧ hr9 ≤ 2147483647) (wn : Int) (hwn : -2147483648 ≤ wn ∧ wn ≤ 2147483647) :
    zMi (S := (Nat → Nat → Int) × (Nat → Nat → Int)) l yX4_setWind cX4_setWind 5 (some .boolean) 4 94 [.ref (h (0)), .int (iz (hr9)), .int (iz (wn))] 17 h D (gT c) (mC c h (τ) (κ)) (fun u9 => mC c h u9.1 u9.2) (fun z u9 => MS τ (thW hr9 wn) (u2 τ 4 (hr9).toNat wn) z u9.1 (u9.2 1 0)) := by
  refine zM_of (by decide) (Nat.le_of_ble_eq_true rfl) ?_
  intro p e s m below meth cd ls ⟨hF, hr, hlocks, hK⟩ hP hl
  have hz : zD (zA 17 h s.heap.size) 17 h := zD.self hinj s.heap.size
  have hA : ∀ q, s.heap.size ≤ q → zA 17 h s.heap.size q := zA_new
  generalize zA 17 h s.heap.size = A at hz hA ⊢
  have hS : va_S A s.heap s.heap [] := va_S.rf
  have hl : lv_has ls 5 [(0, .ref (h (0))), (1, .int (iz (hr9))), (2, .int (iz (wn)))] := hl
  refine lv_aload_n hF.1 hF.2.1 dX4_setWind_0 rfl (lv_at hl 0 rfl) ?_
  refine lv_iload_n hF.1 hF.2.1 dX4_setWind_1 rfl (lv_at hl 1 rfl) ?_
  refine zi_const hF.1 hF.2.1 dX4_setWind_2 ?_
  refine zi_bipush hF.1 hF.2.1 dX4_setWind_3 (by decide) ?_
  refine z_ci (S := Unit) (w := fun _ => mC c h τ κ) (P := fun z _ => z = b2i (0 ≤ hr9 ∧ hr9 ≤ 16)) (z_runS (rm := { frames := 0, cells := 0, slots := 0, locals := 0 }) hF hK hP (c_X4_isIn l h D c τ κ hinj hG hr9 (by omega) 0 (by omega) 16 (by omega) _) (gIn_S mw_445 mw_446 mw_447 mw_443) rfl rfl ⟨rfl, by decide, by decide, rfl⟩ ⟨Nat.le_of_ble_eq_true rfl, Nat.le_of_ble_eq_true rfl⟩ (As := [.int (iz (hr9)), .int (iz (0)), .int (iz (16))]) (rest := [.ref (h (0))]) rfl hl.1 rfl (Nat.le_of_ble_eq_true rfl) dX4_setWind_5 ⟨Nat.le_refl _, Nat.le_refl _⟩) hz hA hS (fun z_1 u_2 H locs hp hP hS => ?_)
  obtain rfl : z_1 = b2i (0 ≤ hr9 ∧ hr9 ≤ 16) := hp
  refine zi_ifb_ne (tgt := 15) hF.1 hF.2.1 (P := 0 ≤ hr9 ∧ hr9 ≤ 16) dX4_setWind_8 (by decide) (fun c_8 => ?_) (fun c_8 => ?_)
  · skip
    refine lv_iload_n hF.1 hF.2.1 dX4_setWind_15 rfl (lv_at hl 2 rfl) ?_
    refine zi_bipush hF.1 hF.2.1 dX4_setWind_16 (by decide) ?_
    refine zi_bipush hF.1 hF.2.1 dX4_setWind_18 (by decide) ?_
    refine z_ci (S := Unit) (w := fun _ => mC c h τ κ) (P := fun z _ => z = b2i ((-10) ≤ wn ∧ wn ≤ 10)) (z_runS (rm := { frames := 0, cells := 0, slots := 0, locals := 0 }) hF hK hP (c_X4_isIn l h D c τ κ hinj hG wn (by omega) (-10) (by omega) 10 (by omega) _) (gIn_S mw_445 mw_446 mw_447 mw_443) rfl rfl ⟨rfl, by decide, by decide, rfl⟩ ⟨Nat.le_of_ble_eq_true rfl, Nat.le_of_ble_eq_true rfl⟩ (As := [.int (iz (wn)), .int (iz (-10)), .int (iz (10))]) (rest := [.ref (h (0))]) rfl hl.1 rfl (Nat.le_of_ble_eq_true rfl) dX4_setWind_20 ⟨Nat.le_refl _, Nat.le_refl _⟩) hz hA hS (fun z_3 u_4 H locs hp hP hS => ?_)
    obtain rfl : z_3 = b2i ((-10) ≤ wn ∧ wn ≤ 10) := hp
    refine zi_ifb_eq (tgt := 30) hF.1 hF.2.1 (P := (-10) ≤ wn ∧ wn ≤ 10) dX4_setWind_23 (by decide) (fun c_23 => ?_) (fun c_23 => ?_)
    · skip
      refine zi_const hF.1 hF.2.1 dX4_setWind_30 ?_
      refine z_put hF hK hz hP hS (k := 0) (C := RX4) (T := TX4) (N := 22) (by omega) (rfl) rfl uin_X4 tyX4_ok nmX4 21 (by decide) mw_442 rfl (⟨rfl, rfl⟩) (by simp) (g' := mC c h (τ) (u2 (κ) 1 0 (2))) (rfl) (mC_t_o) dX4_setWind_31 (fun H locs hP hS => ?_)
      refine lv_aload_n hF.1 hF.2.1 dX4_setWind_34 rfl (lv_at hl 0 rfl) ?_
      refine z_get hF hK hP (k := 0) (C := RX4) (T := TX4) (N := 22) (by omega) (rfl) rfl uin_X4 21 (by decide) mw_442 (v := .int (iz (2))) rfl dX4_setWind_35 ?_
      refine zi_if_le (tgt := 43) hF.1 hF.2.1 (a := 2) dX4_setWind_38 (by decide) (by omega) (fun c_38 => ?_) (fun c_38 => ?_)
      · skip
        exact absurd c_38 (by omega)
      · skip
        refine zi_const hF.1 hF.2.1 dX4_setWind_41 ?_
        exact z_reti (P := fun z u9 => MS τ (thW hr9 wn) (u2 τ 4 (hr9).toNat wn) z u9.1 (u9.2 1 0)) (z := 0) (u := (τ, u2 (κ) 1 0 (2))) (w := fun u9 => mC c h u9.1 u9.2) hF hr hlocks hP hS ((iz_nar_z (by first | omega | exact b2i_rg)).1) (⟨by have e9 : (u2 (κ) 1 0 (2)) 1 0 = (2 : Int) := rfl; show (u2 (κ) 1 0 (2)) 1 0 = _; rw [e9]; unfold thW; (repeat' split) <;> omega, Or.inl ⟨by unfold thW; (repeat' split) <;> omega, rfl, rfl⟩, hG⟩) dX4_setWind_42
    · skip
      refine zi_const hF.1 hF.2.1 dX4_setWind_26 ?_
      refine lv_goto (tgt := 31) hF.1 hF.2.1 dX4_setWind_27 (by decide) ?_
      refine z_put hF hK hz hP hS (k := 0) (C := RX4) (T := TX4) (N := 22) (by omega) (rfl) rfl uin_X4 tyX4_ok nmX4 21 (by decide) mw_442 rfl (⟨rfl, rfl⟩) (by simp) (g' := mC c h (τ) (u2 (κ) 1 0 (0))) (rfl) (mC_t_o) dX4_setWind_31 (fun H locs hP hS => ?_)
      refine lv_aload_n hF.1 hF.2.1 dX4_setWind_34 rfl (lv_at hl 0 rfl) ?_
      refine z_get hF hK hP (k := 0) (C := RX4) (T := TX4) (N := 22) (by omega) (rfl) rfl uin_X4 21 (by decide) mw_442 (v := .int (iz (0))) rfl dX4_setWind_35 ?_
      refine zi_if_le (tgt := 43) hF.1 hF.2.1 (a := 0) dX4_setWind_38 (by decide) (by omega) (fun c_38 => ?_) (fun c_38 => ?_)
      · skip
        refine lv_aload_n hF.1 hF.2.1 dX4_setWind_43 rfl (lv_at hl 0 rfl) ?_
        refine z_get hF hK hP (k := 0) (C := RX4) (T := TX4) (N := 22) (by omega) (rfl) rfl uin_X4 4 (by decide) mw_427 (v := .ref (h (4))) rfl dX4_setWind_44 ?_
        refine lv_iload_n hF.1 hF.2.1 dX4_setWind_47 rfl (lv_at hl 1 rfl) ?_
        refine z_iald hF hK hP (k := 4) (by decide) rfl 0 rfl (i := hr9) ((hr9).toNat) ((Int.toNat_of_nonneg (by omega)).symm) (by omega) (by decide) (x := iz (τ 4 (hr9).toNat)) rfl dX4_setWind_48 ?_
        have q_5 := GI_4 hG ((hr9).toNat)
        refine lv_istore_n (lv' := [(3, .int (iz (τ 4 (hr9).toNat))), (0, .ref (h (0))), (1, .int (iz (hr9))), (2, .int (iz (wn)))]) hF.1 hF.2.1 dX4_setWind_49 rfl hl (by decide) rfl (fun ls hl => ?_)
        refine lv_aload_n hF.1 hF.2.1 dX4_setWind_50 rfl (lv_at hl 1 rfl) ?_
        refine z_get hF hK hP (k := 0) (C := RX4) (T := TX4) (N := 22) (by omega) (rfl) rfl uin_X4 4 (by decide) mw_427 (v := .ref (h (4))) rfl dX4_setWind_51 ?_
        refine lv_iload_n hF.1 hF.2.1 dX4_setWind_54 rfl (lv_at hl 2 rfl) ?_
        refine lv_iload_n hF.1 hF.2.1 dX4_setWind_55 rfl (lv_at hl 3 rfl) ?_
        refine z_iast hF hK hz hP hS (k := 4) (by decide) rfl 0 rfl (i := hr9) ((hr9).toNat) ((Int.toNat_of_nonneg (by omega)).symm) (by omega) (by decide) (x := iz (wn)) (g' := mC c h (u2 (τ) 4 ((hr9).toNat) (wn)) (u2 (κ) 1 0 (0))) (by show Sum.inl (_, _, Sum.inl _) = _; rw [u2_up]) (mC_row_o (a := 4) ⟨by decide, by decide⟩) dX4_setWind_56 (fun H locs hP hS => ?_)
        have hG_6 := GI_u4 hG (v := wn) (k := (hr9).toNat) (by omega)
        refine lv_aload_n hF.1 hF.2.1 dX4_setWind_57 rfl (lv_at hl 1 rfl) ?_
        refine z_ci (S := Nat → Nat → Int) (w := fun κ9 => mC c h (u2 (τ) 4 ((hr9).toNat) (wn)) κ9) (P := fun z κ9 => z = wrg (u2 (τ) 4 ((hr9).toNat) (wn)) ∧ κ9 1 = (u2 (κ) 1 0 (0)) 1) (z_runV (rm := { frames := 3, cells := 0, slots := 0, locals := 71 }) hF hK hP (c_X4_wrong l h D c (u2 (τ) 4 ((hr9).toNat) (wn)) (u2 (κ) 1 0 (0)) hinj hG_6  _) (gIn_V mw_489 mw_490 mw_491 mw_447 mw_483) rfl rfl ⟨rfl, by decide, by decide, rfl⟩ ⟨Nat.le_of_ble_eq_true rfl, Nat.le_of_ble_eq_true rfl⟩ (k := 0) (T := TX4) (N := 22) (by omega) rfl (rfl) rfl (As := []) (rest := []) rfl hl.1 rfl (Nat.le_of_ble_eq_true rfl) dX4_setWind_58 ⟨Nat.le_refl _, Nat.le_refl _⟩) hz hA hS (fun z_7 u_8 H locs hp hP hS => ?_)
        obtain ⟨rfl, hku_8⟩ : z_7 = wrg (u2 (τ) 4 ((hr9).toNat) (wn)) ∧ u_8 1 = (u2 (κ) 1 0 (0)) 1 := hp
        have hP : zB 17 h D (mC c h (u2 (τ) 4 ((hr9).toNat) (wn)) (u_8)) H := hP
        have q_9 := @wrg_rg (u2 (τ) 4 ((hr9).toNat) (wn))
        refine zi_if_ne (tgt := 68) hF.1 hF.2.1 (a := wrg (u2 (τ) 4 ((hr9).toNat) (wn))) dX4_setWind_61 (by decide) (by omega) (fun c_61 => ?_) (fun c_61 => ?_)
        · skip
          refine zi_const hF.1 hF.2.1 dX4_setWind_68 ?_
          refine lv_istore (lv' := [(4, .int (iz (0))), (3, .int (iz (τ 4 (hr9).toNat))), (0, .ref (h (0))), (1, .int (iz (hr9))), (2, .int (iz (wn)))]) hF.1 hF.2.1 dX4_setWind_69 hl (by decide) rfl (fun ls hl => ?_)
          refine lv_aload_n hF.1 hF.2.1 dX4_setWind_71 rfl (lv_at hl 2 rfl) ?_
          refine z_get hF hK hP (k := 0) (C := RX4) (T := TX4) (N := 22) (by omega) (rfl) rfl uin_X4 4 (by decide) mw_427 (v := .ref (h (4))) rfl dX4_setWind_72 ?_
          refine lv_iload_n hF.1 hF.2.1 dX4_setWind_75 rfl (lv_at hl 3 rfl) ?_
          refine lv_iload hF.1 hF.2.1 dX4_setWind_76 (lv_at hl 0 rfl) ?_
          refine zi_if_eq (tgt := 85) hF.1 hF.2.1 (a := 0) dX4_setWind_78 (by decide) (by omega) (fun c_78 => ?_) (fun c_78 => ?_)
          · skip
            refine lv_iload_n hF.1 hF.2.1 dX4_setWind_85 rfl (lv_at hl 1 rfl) ?_
            refine z_iast hF hK hz hP hS (k := 4) (by decide) rfl 0 rfl (i := hr9) ((hr9).toNat) ((Int.toNat_of_nonneg (by omega)).symm) (by omega) (by decide) (x := iz (τ 4 (hr9).toNat)) (g' := mC c h (u2 (u2 (τ) 4 ((hr9).toNat) (wn)) 4 ((hr9).toNat) (τ 4 (hr9).toNat)) (u_8)) (by show Sum.inl (_, _, Sum.inl _) = _; rw [u2_up]) (mC_row_o (a := 4) ⟨by decide, by decide⟩) dX4_setWind_86 (fun H locs hP hS => ?_)
            have hG_10 := GI_u4 hG_6 (v := τ 4 (hr9).toNat) (k := (hr9).toNat) (by omega)
            refine lv_iload hF.1 hF.2.1 dX4_setWind_87 (lv_at hl 0 rfl) ?_
            exact z_reti (P := fun z u9 => MS τ (thW hr9 wn) (u2 τ 4 (hr9).toNat wn) z u9.1 (u9.2 1 0)) (z := 0) (u := (u2 (u2 (τ) 4 ((hr9).toNat) (wn)) 4 ((hr9).toNat) (τ 4 (hr9).toNat), u_8)) (w := fun u9 => mC c h u9.1 u9.2) hF hr hlocks hP hS ((iz_nar_z (by first | omega | exact b2i_rg)).1) (⟨by have e9 : (u_8) 1 0 = (0 : Int) := (by rw [hku_8]; rfl); show (u_8) 1 0 = _; rw [e9]; unfold thW; (repeat' split) <;> omega, Or.inr ⟨by unfold thW; (repeat' split) <;> omega, Or.inr ⟨by omega, rfl, u2_u2.trans u2_self⟩⟩, hG_10⟩) dX4_setWind_89
          · skip
            exact absurd c_78 (by omega)
        · skip
          refine zi_const hF.1 hF.2.1 dX4_setWind_64 ?_
          refine lv_goto (tgt := 69) hF.1 hF.2.1 dX4_setWind_65 (by decide) ?_
          refine lv_istore (lv' := [(4, .int (iz (1))), (3, .int (iz (τ 4 (hr9).toNat))), (0, .ref (h (0))), (1, .int (iz (hr9))), (2, .int (iz (wn)))]) hF.1 hF.2.1 dX4_setWind_69 hl (by decide) rfl (fun ls hl => ?_)
          refine lv_aload_n hF.1 hF.2.1 dX4_setWind_71 rfl (lv_at hl 2 rfl) ?_
          refine z_get hF hK hP (k := 0) (C := RX4) (T := TX4) (N := 22) (by omega) (rfl) rfl uin_X4 4 (by decide) mw_427 (v := .ref (h (4))) rfl dX4_setWind_72 ?_
          refine lv_iload_n hF.1 hF.2.1 dX4_setWind_75 rfl (lv_at hl 3 rfl) ?_
          refine lv_iload hF.1 hF.2.1 dX4_setWind_76 (lv_at hl 0 rfl) ?_
          refine zi_if_eq (tgt := 85) hF.1 hF.2.1 (a := 1) dX4_setWind_78 (by decide) (by omega) (fun c_78 => ?_) (fun c_78 => ?_)
          · skip
            exact absurd c_78 (by omega)
          · skip
            refine lv_iload_n hF.1 hF.2.1 dX4_setWind_81 rfl (lv_at hl 4 rfl) ?_
            refine lv_goto (tgt := 86) hF.1 hF.2.1 dX4_setWind_82 (by decide) ?_
            refine z_iast hF hK hz hP hS (k := 4) (by decide) rfl 0 rfl (i := hr9) ((hr9).toNat) ((Int.toNat_of_nonneg (by omega)).symm) (by omega) (by decide) (x := iz (wn)) (g' := mC c h (u2 (u2 (τ) 4 ((hr9).toNat) (wn)) 4 ((hr9).toNat) (wn)) (u_8)) (by show Sum.inl (_, _, Sum.inl _) = _; rw [u2_up]) (mC_row_o (a := 4) ⟨by decide, by decide⟩) dX4_setWind_86 (fun H locs hP hS => ?_)
            have hG_11 := GI_u4 hG_6 (v := wn) (k := (hr9).toNat) (by omega)
            refine lv_iload hF.1 hF.2.1 dX4_setWind_87 (lv_at hl 0 rfl) ?_
            exact z_reti (P := fun z u9 => MS τ (thW hr9 wn) (u2 τ 4 (hr9).toNat wn) z u9.1 (u9.2 1 0)) (z := 1) (u := (u2 (u2 (τ) 4 ((hr9).toNat) (wn)) 4 ((hr9).toNat) (wn), u_8)) (w := fun u9 => mC c h u9.1 u9.2) hF hr hlocks hP hS ((iz_nar_z (by first | omega | exact b2i_rg)).1) (⟨by have e9 : (u_8) 1 0 = (0 : Int) := (by rw [hku_8]; rfl); show (u_8) 1 0 = _; rw [e9]; unfold thW; (repeat' split) <;> omega, Or.inr ⟨by unfold thW; (repeat' split) <;> omega, Or.inl ⟨by omega, rfl, u2_u2⟩⟩, hG_11⟩) dX4_setWind_89
      · skip
        exact absurd c_38 (by omega)
  · skip
    refine zi_const hF.1 hF.2.1 dX4_setWind_11 ?_
    refine lv_goto (tgt := 31) hF.1 hF.2.1 dX4_setWind_12 (by decide) ?_
    refine z_put hF hK hz hP hS (k := 0) (C := RX4) (T := TX4) (N := 22) (by omega) (rfl) rfl uin_X4 tyX4_ok nmX4 21 (by decide) mw_442 rfl (⟨rfl, rfl⟩) (by simp) (g' := mC c h (τ) (u2 (κ) 1 0 (1))) (rfl) (mC_t_o) dX4_setWind_31 (fun H locs hP hS => ?_)
    refine lv_aload_n hF.1 hF.2.1 dX4_setWind_34 rfl (lv_at hl 0 rfl) ?_
    refine z_get hF hK hP (k := 0) (C := RX4) (T := TX4) (N := 22) (by omega) (rfl) rfl uin_X4 21 (by decide) mw_442 (v := .int (iz (1))) rfl dX4_setWind_35 ?_
    refine zi_if_le (tgt := 43) hF.1 hF.2.1 (a := 1) dX4_setWind_38 (by decide) (by omega) (fun c_38 => ?_) (fun c_38 => ?_)
    · skip
      exact absurd c_38 (by omega)
    · skip
      refine zi_const hF.1 hF.2.1 dX4_setWind_41 ?_
      exact z_reti (P := fun z u9 => MS τ (thW hr9 wn) (u2 τ 4 (hr9).toNat wn) z u9.1 (u9.2 1 0)) (z := 0) (u := (τ, u2 (κ) 1 0 (1))) (w := fun u9 => mC c h u9.1 u9.2) hF hr hlocks hP hS ((iz_nar_z (by first | omega | exact b2i_rg)).1) (⟨by have e9 : (u2 (κ) 1 0 (1)) 1 0 = (1 : Int) := rfl; show (u2 (κ) 1 0 (1)) 1 0 = _; rw [e9]; unfold thW; (repeat' split) <;> omega, Or.inl ⟨by unfold thW; (repeat' split) <;> omega, rfl, rfl⟩, hG⟩) dX4_setWind_42

set_option maxRecDepth 100000 in
set_option maxHeartbeats 4000000 in
theorem c_X4_startSet (l : Launch) (h : Nat → Nat) (D : va_G) (c : Nat → ClassId) (τ κ : Nat → Nat → Int) (hinj : ∀ i j, i < 17 → j < 17 → h i = h j → i = j) (hG : GI τ) (mi : Int) (hmi : -2147483648 ≤ mi ∧ mi ≤ 2147483647) :
    zMi (S := (Nat → Nat → Int) × (Nat → Nat → Int)) l yX4_startSet cX4_startSet 3 (some .int) 2 42 [.ref (h (0)), .int (iz (mi))] 17 h D (gT c) (mC c h (τ) (κ)) (fun u9 => mC c h u9.1 u9.2) (fun z u9 => MSet τ mi z u9.1 (u9.2 1 0)) := by
  refine zM_of (by decide) (Nat.le_of_ble_eq_true rfl) ?_
  intro p e s m below meth cd ls ⟨hF, hr, hlocks, hK⟩ hP hl
  have hz : zD (zA 17 h s.heap.size) 17 h := zD.self hinj s.heap.size
  have hA : ∀ q, s.heap.size ≤ q → zA 17 h s.heap.size q := zA_new
  generalize zA 17 h s.heap.size = A at hz hA ⊢
  have hS : va_S A s.heap s.heap [] := va_S.rf
  have hl : lv_has ls 3 [(0, .ref (h (0))), (1, .int (iz (mi)))] := hl
  refine lv_aload_n hF.1 hF.2.1 dX4_startSet_0 rfl (lv_at hl 0 rfl) ?_
  refine lv_iload_n hF.1 hF.2.1 dX4_startSet_1 rfl (lv_at hl 1 rfl) ?_
  refine z_ci (S := Unit) (w := fun _ => mC c h τ κ) (P := fun z _ => z = b2i (0 ≤ mi ∧ mi ≤ 999)) (z_runS (rm := { frames := 1, cells := 0, slots := 0, locals := 22 }) hF hK hP (c_X4_isMinute l h D c τ κ hinj hG mi (by omega) _) (gIn_S mw_485 mw_486 mw_447 mw_444) rfl rfl ⟨rfl, by decide, by decide, rfl⟩ ⟨Nat.le_of_ble_eq_true rfl, Nat.le_of_ble_eq_true rfl⟩ (As := [.int (iz (mi))]) (rest := [.ref (h (0))]) rfl hl.1 rfl (Nat.le_of_ble_eq_true rfl) dX4_startSet_2 ⟨Nat.le_refl _, Nat.le_refl _⟩) hz hA hS (fun z_1 u_2 H locs hp hP hS => ?_)
  obtain rfl : z_1 = b2i (0 ≤ mi ∧ mi ≤ 999) := hp
  refine zi_ifb_ne (tgt := 12) hF.1 hF.2.1 (P := 0 ≤ mi ∧ mi ≤ 999) dX4_startSet_5 (by decide) (fun c_5 => ?_) (fun c_5 => ?_)
  · skip
    refine lv_aload_n hF.1 hF.2.1 dX4_startSet_12 rfl (lv_at hl 0 rfl) ?_
    refine z_get hF hK hP (k := 0) (C := RX4) (T := TX4) (N := 22) (by omega) (rfl) rfl uin_X4 0 (by decide) mw_458 (v := .int (iz (τ 0 0))) rfl dX4_startSet_13 ?_
    have q_3 := GI_00 hG
    refine zi_bipush hF.1 hF.2.1 dX4_startSet_16 (by decide) ?_
    refine zi_icmp_ne (tgt := 25) hF.1 hF.2.1 (a := τ 0 0) (b := 6) dX4_startSet_18 (by decide) (by omega) (by omega) (fun c_18 => ?_) (fun c_18 => ?_)
    · skip
      refine zi_const hF.1 hF.2.1 dX4_startSet_25 ?_
      refine z_put hF hK hz hP hS (k := 0) (C := RX4) (T := TX4) (N := 22) (by omega) (rfl) rfl uin_X4 tyX4_ok nmX4 21 (by decide) mw_442 rfl (⟨rfl, rfl⟩) (by simp) (g' := mC c h (τ) (u2 (κ) 1 0 (0))) (rfl) (mC_t_o) dX4_startSet_26 (fun H locs hP hS => ?_)
      refine lv_aload_n hF.1 hF.2.1 dX4_startSet_29 rfl (lv_at hl 0 rfl) ?_
      refine z_get hF hK hP (k := 0) (C := RX4) (T := TX4) (N := 22) (by omega) (rfl) rfl uin_X4 21 (by decide) mw_442 (v := .int (iz (0))) rfl dX4_startSet_30 ?_
      refine zi_if_le (tgt := 38) hF.1 hF.2.1 (a := 0) dX4_startSet_33 (by decide) (by omega) (fun c_33 => ?_) (fun c_33 => ?_)
      · skip
        refine zi_const hF.1 hF.2.1 dX4_startSet_38 ?_
        refine lv_istore_n (lv' := [(2, .int (iz (0))), (0, .ref (h (0))), (1, .int (iz (mi)))]) hF.1 hF.2.1 dX4_startSet_39 rfl hl (by decide) rfl (fun ls hl => ?_)
        have nv_5 : ((0) ≤ 6 ∧ ((0) : Int) ≤ τ 0 0) ∧ (∀ k, k < (0) → ¬ (-9 ≤ mi - τ 1 k ∧ mi - τ 1 k ≤ 9)) := ⟨by have := GI_00 hG; omega, lt_0⟩
        refine z_loop (V := Nat) (nL := 3) (wd := fun v_4 => mC c h (τ) (u2 (κ) 1 0 (0))) (lv := fun v_4 => [(0, .ref (h (0))), (1, .int (iz (mi))), (2, .int (iz ((v_4 : Int))))]) (stk := fun v_4 => []) (mu := fun v_4 => 7 - v_4) (inv := fun v_4 => (v_4 ≤ 6 ∧ (v_4 : Int) ≤ τ 0 0) ∧ (∀ k, k < v_4 → ¬ (-9 ≤ mi - τ 1 k ∧ mi - τ 1 k ≤ 9))) ?_ 0 nv_5 hP hS (lv_sub hl [1, 2, 0] rfl)
        intro i hv ih_40 H locs ls hP hS hl
        have hP : zB 17 h D (mC c h (τ) (u2 (κ) 1 0 (0))) H := hP
        have hl : lv_has ls 3 [(0, .ref (h (0))), (1, .int (iz (mi))), (2, .int (iz ((i : Int))))] := hl
        obtain ⟨hi_i, hv1⟩ : (i ≤ 6 ∧ (i : Int) ≤ τ 0 0) ∧ (∀ k, k < i → ¬ (-9 ≤ mi - τ 1 k ∧ mi - τ 1 k ≤ 9)) := hv
        refine lv_iload_n hF.1 hF.2.1 dX4_startSet_40 rfl (lv_at hl 2 rfl) ?_
        refine lv_aload_n hF.1 hF.2.1 dX4_startSet_41 rfl (lv_at hl 0 rfl) ?_
        refine z_get hF hK hP (k := 0) (C := RX4) (T := TX4) (N := 22) (by omega) (rfl) rfl uin_X4 0 (by decide) mw_458 (v := .int (iz (τ 0 0))) rfl dX4_startSet_42 ?_
        have q_6 := GI_00 hG
        refine zi_icmp_ge (tgt := 74) hF.1 hF.2.1 (a := (i : Int)) (b := τ 0 0) dX4_startSet_45 (by decide) (by omega) (by omega) (fun c_45 => ?_) (fun c_45 => ?_)
        · skip
          refine lv_aload_n hF.1 hF.2.1 dX4_startSet_74 rfl (lv_at hl 0 rfl) ?_
          refine z_get hF hK hP (k := 0) (C := RX4) (T := TX4) (N := 22) (by omega) (rfl) rfl uin_X4 1 (by decide) mw_424 (v := .ref (h (1))) rfl dX4_startSet_75 ?_
          refine lv_aload_n hF.1 hF.2.1 dX4_startSet_78 rfl (lv_at hl 0 rfl) ?_
          refine z_get hF hK hP (k := 0) (C := RX4) (T := TX4) (N := 22) (by omega) (rfl) rfl uin_X4 0 (by decide) mw_458 (v := .int (iz (τ 0 0))) rfl dX4_startSet_79 ?_
          have q_7 := GI_00 hG
          refine lv_iload_n hF.1 hF.2.1 dX4_startSet_82 rfl (lv_at hl 1 rfl) ?_
          refine z_iast hF hK hz hP hS (k := 1) (by decide) rfl 0 rfl (i := τ 0 0) ((τ 0 0).toNat) ((Int.toNat_of_nonneg (by omega)).symm) (by omega) (by decide) (x := iz (mi)) (g' := mC c h (u2 (τ) 1 ((τ 0 0).toNat) (mi)) (u2 (κ) 1 0 (0))) (by show Sum.inl (_, _, Sum.inl _) = _; rw [u2_up]) (mC_row_o (a := 1) ⟨by decide, by decide⟩) dX4_startSet_83 (fun H locs hP hS => ?_)
          have hG_8 := GI_u1 hG (v := mi) (k := (τ 0 0).toNat) (by omega)
          refine lv_aload_n hF.1 hF.2.1 dX4_startSet_84 rfl (lv_at hl 0 rfl) ?_
          refine lv_dup hF.1 hF.2.1 dX4_startSet_85 rfl ?_
          refine z_get hF hK hP (k := 0) (C := RX4) (T := TX4) (N := 22) (by omega) (rfl) rfl uin_X4 0 (by decide) mw_458 (v := .int (iz (τ 0 0))) rfl dX4_startSet_86 ?_
          have q_9 := GI_00 hG
          refine zi_const hF.1 hF.2.1 dX4_startSet_89 ?_
          refine zi_add hF.1 hF.2.1 dX4_startSet_90 ?_
          refine z_put hF hK hz hP hS (k := 0) (C := RX4) (T := TX4) (N := 22) (by omega) (rfl) rfl uin_X4 tyX4_ok nmX4 0 (by decide) mw_458 rfl (⟨rfl, rfl⟩) (by simp) (g' := mC c h (u2 (u2 (τ) 1 ((τ 0 0).toNat) (mi)) 0 0 ((τ 0 0) + 1)) (u2 (κ) 1 0 (0))) (rfl) (mC_sc_o) dX4_startSet_91 (fun H locs hP hS => ?_)
          have hG_10 := GI_u00 hG_8 (v := (τ 0 0) + 1) (by omega)
          refine lv_aload_n hF.1 hF.2.1 dX4_startSet_94 rfl (lv_at hl 0 rfl) ?_
          refine z_get hF hK hP (k := 0) (C := RX4) (T := TX4) (N := 22) (by omega) (rfl) rfl uin_X4 0 (by decide) mw_458 (v := .int (iz ((τ 0 0) + 1))) rfl dX4_startSet_95 ?_
          exact z_reti (P := fun z u9 => MSet τ mi z u9.1 (u9.2 1 0)) (z := (τ 0 0) + 1) (u := (u2 (u2 (τ) 1 ((τ 0 0).toNat) (mi)) 0 0 ((τ 0 0) + 1), u2 (κ) 1 0 (0))) (w := fun u9 => mC c h u9.1 u9.2) hF hr hlocks hP hS (rfl) (⟨by have e9 : (u2 (κ) 1 0 (0)) 1 0 = (0 : Int) := rfl; show (u2 (κ) 1 0 (0)) 1 0 = _; rw [e9]; unfold thS; (repeat' split) <;> omega, Or.inr ⟨by unfold thS; (repeat' split) <;> omega, Or.inr ⟨fun k hk => hv1 k (by omega), rfl, rfl⟩⟩, hG_10⟩) dX4_startSet_98
        · skip
          refine lv_iload_n hF.1 hF.2.1 dX4_startSet_48 rfl (lv_at hl 1 rfl) ?_
          refine lv_aload_n hF.1 hF.2.1 dX4_startSet_49 rfl (lv_at hl 0 rfl) ?_
          refine z_get hF hK hP (k := 0) (C := RX4) (T := TX4) (N := 22) (by omega) (rfl) rfl uin_X4 1 (by decide) mw_424 (v := .ref (h (1))) rfl dX4_startSet_50 ?_
          refine lv_iload_n hF.1 hF.2.1 dX4_startSet_53 rfl (lv_at hl 2 rfl) ?_
          refine z_iald hF hK hP (k := 1) (by decide) rfl 0 rfl (i := (i : Int)) (i) (rfl) (by omega) (by decide) (x := iz (τ 1 i)) rfl dX4_startSet_54 ?_
          have q_11 := GI_1 hG (i)
          refine zi_sub hF.1 hF.2.1 dX4_startSet_55 ?_
          refine zi_bipush hF.1 hF.2.1 dX4_startSet_56 (by decide) ?_
          refine zi_bipush hF.1 hF.2.1 dX4_startSet_58 (by decide) ?_
          refine z_ci (S := Unit) (w := fun _ => mC c h τ (u2 (κ) 1 0 (0))) (P := fun z _ => z = b2i ((-9) ≤ (mi - (τ 1 i)) ∧ (mi - (τ 1 i)) ≤ 9)) (z_runS (rm := { frames := 0, cells := 0, slots := 0, locals := 0 }) hF hK hP (c_X4_isIn l h D c τ (u2 (κ) 1 0 (0)) hinj hG (mi - (τ 1 i)) (by omega) (-9) (by omega) 9 (by omega) _) (gIn_S mw_445 mw_446 mw_447 mw_443) rfl rfl ⟨rfl, by decide, by decide, rfl⟩ ⟨Nat.le_of_ble_eq_true rfl, Nat.le_of_ble_eq_true rfl⟩ (As := [.int (iz (mi - (τ 1 i))), .int (iz (-9)), .int (iz (9))]) (rest := []) rfl hl.1 rfl (Nat.le_of_ble_eq_true rfl) dX4_startSet_60 ⟨Nat.le_refl _, Nat.le_refl _⟩) hz hA hS (fun z_12 u_13 H locs hp hP hS => ?_)
          obtain rfl : z_12 = b2i ((-9) ≤ (mi - (τ 1 i)) ∧ (mi - (τ 1 i)) ≤ 9) := hp
          refine zi_ifb_eq (tgt := 68) hF.1 hF.2.1 (P := (-9) ≤ (mi - (τ 1 i)) ∧ (mi - (τ 1 i)) ≤ 9) dX4_startSet_63 (by decide) (fun c_63 => ?_) (fun c_63 => ?_)
          · skip
            refine lv_iinc (v := iz (((i + 1 : Nat) : Int))) (lv' := [(2, .int (iz (((i + 1 : Nat) : Int)))), (0, .ref (h (0))), (1, .int (iz (mi)))]) hF.1 hF.2.1 dX4_startSet_68 hl (k := 2) rfl ((iz_add _ _).trans (congrArg iz (by omega))) (by decide) rfl (fun ls hl => ?_)
            refine lv_goto (tgt := 40) hF.1 hF.2.1 dX4_startSet_71 (by decide) ?_
            have nv_14 : (((i + 1)) ≤ 6 ∧ (((i + 1)) : Int) ≤ τ 0 0) ∧ (∀ k, k < ((i + 1)) → ¬ (-9 ≤ mi - τ 1 k ∧ mi - τ 1 k ≤ 9)) := ⟨by omega, lt_s hv1 c_63⟩
            exact ih_40 (i + 1) nv_14 (by show 7 - ((i + 1)) < 7 - i; omega) _ _ _ hP hS (lv_sub hl [1, 2, 0] rfl)
          · skip
            refine zi_const hF.1 hF.2.1 dX4_startSet_66 ?_
            exact z_reti (P := fun z u9 => MSet τ mi z u9.1 (u9.2 1 0)) (z := -1) (u := (τ, u2 (κ) 1 0 (0))) (w := fun u9 => mC c h u9.1 u9.2) hF hr hlocks hP hS (rfl) (⟨by have e9 : (u2 (κ) 1 0 (0)) 1 0 = (0 : Int) := rfl; show (u2 (κ) 1 0 (0)) 1 0 = _; rw [e9]; unfold thS; (repeat' split) <;> omega, Or.inr ⟨by unfold thS; (repeat' split) <;> omega, Or.inl ⟨⟨i, by omega, c_63⟩, rfl, rfl⟩⟩, hG⟩) dX4_startSet_67
      · skip
        exact absurd c_33 (by omega)
    · skip
      refine zi_const hF.1 hF.2.1 dX4_startSet_21 ?_
      refine lv_goto (tgt := 26) hF.1 hF.2.1 dX4_startSet_22 (by decide) ?_
      refine z_put hF hK hz hP hS (k := 0) (C := RX4) (T := TX4) (N := 22) (by omega) (rfl) rfl uin_X4 tyX4_ok nmX4 21 (by decide) mw_442 rfl (⟨rfl, rfl⟩) (by simp) (g' := mC c h (τ) (u2 (κ) 1 0 (2))) (rfl) (mC_t_o) dX4_startSet_26 (fun H locs hP hS => ?_)
      refine lv_aload_n hF.1 hF.2.1 dX4_startSet_29 rfl (lv_at hl 0 rfl) ?_
      refine z_get hF hK hP (k := 0) (C := RX4) (T := TX4) (N := 22) (by omega) (rfl) rfl uin_X4 21 (by decide) mw_442 (v := .int (iz (2))) rfl dX4_startSet_30 ?_
      refine zi_if_le (tgt := 38) hF.1 hF.2.1 (a := 2) dX4_startSet_33 (by decide) (by omega) (fun c_33 => ?_) (fun c_33 => ?_)
      · skip
        exact absurd c_33 (by omega)
      · skip
        refine zi_const hF.1 hF.2.1 dX4_startSet_36 ?_
        exact z_reti (P := fun z u9 => MSet τ mi z u9.1 (u9.2 1 0)) (z := 0) (u := (τ, u2 (κ) 1 0 (2))) (w := fun u9 => mC c h u9.1 u9.2) hF hr hlocks hP hS (rfl) (⟨by have e9 : (u2 (κ) 1 0 (2)) 1 0 = (2 : Int) := rfl; show (u2 (κ) 1 0 (2)) 1 0 = _; rw [e9]; unfold thS; (repeat' split) <;> omega, Or.inl ⟨by unfold thS; (repeat' split) <;> omega, rfl, rfl⟩, hG⟩) dX4_startSet_37
  · skip
    refine zi_const hF.1 hF.2.1 dX4_startSet_8 ?_
    refine lv_goto (tgt := 26) hF.1 hF.2.1 dX4_startSet_9 (by decide) ?_
    refine z_put hF hK hz hP hS (k := 0) (C := RX4) (T := TX4) (N := 22) (by omega) (rfl) rfl uin_X4 tyX4_ok nmX4 21 (by decide) mw_442 rfl (⟨rfl, rfl⟩) (by simp) (g' := mC c h (τ) (u2 (κ) 1 0 (1))) (rfl) (mC_t_o) dX4_startSet_26 (fun H locs hP hS => ?_)
    refine lv_aload_n hF.1 hF.2.1 dX4_startSet_29 rfl (lv_at hl 0 rfl) ?_
    refine z_get hF hK hP (k := 0) (C := RX4) (T := TX4) (N := 22) (by omega) (rfl) rfl uin_X4 21 (by decide) mw_442 (v := .int (iz (1))) rfl dX4_startSet_30 ?_
    refine zi_if_le (tgt := 38) hF.1 hF.2.1 (a := 1) dX4_startSet_33 (by decide) (by omega) (fun c_33 => ?_) (fun c_33 => ?_)
    · skip
      exact absurd c_33 (by omega)
    · skip
      refine zi_const hF.1 hF.2.1 dX4_startSet_36 ?_
      exact z_reti (P := fun z u9 => MSet τ mi z u9.1 (u9.2 1 0)) (z := 0) (u := (τ, u2 (κ) 1 0 (1))) (w := fun u9 => mC c h u9.1 u9.2) hF hr hlocks hP hS (rfl) (⟨by have e9 : (u2 (κ) 1 0 (1)) 1 0 = (1 : Int) := rfl; show (u2 (κ) 1 0 (1)) 1 0 = _; rw [e9]; unfold thS; (repeat' split) <;> omega, Or.inl ⟨by unfold thS; (repeat' split) <;> omega, rfl, rfl⟩, hG⟩) dX4_startSet_37

set_option maxRecDepth 100000 in
set_option maxHeartbeats 4000000 in
theorem c_X4_isAct (l : Launch) (h : Nat → Nat) (D : va_G) (c : Nat → ClassId) (τ κ : Nat → Nat → Int) (hinj : ∀ i j, i < 17 → j < 17 → h i = h j → i = j) (hG : GI τ) (a : Int) (ha : -2147483648 ≤ a ∧ a ≤ 2147483647) :
    zMi (S := Unit) l yX4_isAct cX4_isAct 2 (some .boolean) 1 22 [.ref (h (0)), .int (iz (a))] 17 h D (gT c) (mC c h (τ) (κ)) (fun _ => mC c h τ κ) (fun z _ => z = b2i (0 ≤ a ∧ a ≤ τ 0 1 - 1)) := by
  refine zM_of (by decide) (Nat.le_of_ble_eq_true rfl) ?_
  intro p e s m below meth cd ls ⟨hF, hr, hlocks, hK⟩ hP hl
  have hz : zD (zA 17 h s.heap.size) 17 h := zD.self hinj s.heap.size
  have hA : ∀ q, s.heap.size ≤ q → zA 17 h s.heap.size q := zA_new
  generalize zA 17 h s.heap.size = A at hz hA ⊢
  have hS : va_S A s.heap s.heap [] := va_S.rf
  have hl : lv_has ls 2 [(0, .ref (h (0))), (1, .int (iz (a)))] := hl
  refine lv_iload_n hF.1 hF.2.1 dX4_isAct_0 rfl (lv_at hl 1 rfl) ?_
  refine zi_const hF.1 hF.2.1 dX4_isAct_1 ?_
  refine lv_aload_n hF.1 hF.2.1 dX4_isAct_2 rfl (lv_at hl 0 rfl) ?_
  refine z_get hF hK hP (k := 0) (C := RX4) (T := TX4) (N := 22) (by omega) (rfl) rfl uin_X4 5 (by decide) mw_495 (v := .int (iz (τ 0 1))) rfl dX4_isAct_3 ?_
  have q_1 := GI_01 hG
  refine zi_const hF.1 hF.2.1 dX4_isAct_6 ?_
  refine zi_sub hF.1 hF.2.1 dX4_isAct_7 ?_
  refine z_ci (S := Unit) (w := fun _ => mC c h τ κ) (P := fun z _ => z = b2i (0 ≤ a ∧ a ≤ ((τ 0 1) - 1))) (z_runS (rm := { frames := 0, cells := 0, slots := 0, locals := 0 }) hF hK hP (c_X4_isIn l h D c τ κ hinj hG a (by omega) 0 (by omega) ((τ 0 1) - 1) (by omega) _) (gIn_S mw_445 mw_446 mw_447 mw_443) rfl rfl ⟨rfl, by decide, by decide, rfl⟩ ⟨Nat.le_of_ble_eq_true rfl, Nat.le_of_ble_eq_true rfl⟩ (As := [.int (iz (a)), .int (iz (0)), .int (iz ((τ 0 1) - 1))]) (rest := []) rfl hl.1 rfl (Nat.le_of_ble_eq_true rfl) dX4_isAct_8 ⟨Nat.le_refl _, Nat.le_refl _⟩) hz hA hS (fun z_2 u_3 H locs hp hP hS => ?_)
  obtain rfl : z_2 = b2i (0 ≤ a ∧ a ≤ ((τ 0 1) - 1)) := hp
  exact z_reti (P := fun z _ => z = b2i (0 ≤ a ∧ a ≤ τ 0 1 - 1)) (z := b2i (0 ≤ a ∧ a ≤ ((τ 0 1) - 1))) (u := ()) (w := fun _ => mC c h τ κ) hF hr hlocks hP hS ((iz_nar_z (by first | omega | exact b2i_rg)).1) (rfl) dX4_isAct_11

set_option maxRecDepth 100000 in
set_option maxHeartbeats 4000000 in
theorem c_X4_move (l : Launch) (h : Nat → Nat) (D : va_G) (c : Nat → ClassId) (τ κ : Nat → Nat → Int) (hinj : ∀ i j, i < 17 → j < 17 → h i = h j → i = j) (hG : GI τ) (a : Int) (ha : -2147483648 ≤ a ∧ a ≤ 2147483647) (mi : Int) (hmi : -2147483648 ≤ mi ∧ mi ≤ 2147483647) :
    zMi (S := (Nat → Nat → Int) × (Nat → Nat → Int)) l yX4_move cX4_move 5 (some .boolean) 4 94 [.ref (h (0)), .int (iz (a)), .int (iz (mi))] 17 h D (gT c) (mC c h (τ) (κ)) (fun u9 => mC c h u9.1 u9.2) (fun z u9 => MS τ (thM τ a mi) (u2 τ 8 a.toNat mi) z u9.1 (u9.2 1 0)) := by
  refine zM_of (by decide) (Nat.le_of_ble_eq_true rfl) ?_
  intro p e s m below meth cd ls ⟨hF, hr, hlocks, hK⟩ hP hl
  have hz : zD (zA 17 h s.heap.size) 17 h := zD.self hinj s.heap.size
  have hA : ∀ q, s.heap.size ≤ q → zA 17 h s.heap.size q := zA_new
  generalize zA 17 h s.heap.size = A at hz hA ⊢
  have hS : va_S A s.heap s.heap [] := va_S.rf
  have hl : lv_has ls 5 [(0, .ref (h (0))), (1, .int (iz (a))), (2, .int (iz (mi)))] := hl
  refine lv_aload_n hF.1 hF.2.1 dX4_move_0 rfl (lv_at hl 0 rfl) ?_
  refine lv_aload_n hF.1 hF.2.1 dX4_move_1 rfl (lv_at hl 0 rfl) ?_
  refine lv_iload_n hF.1 hF.2.1 dX4_move_2 rfl (lv_at hl 1 rfl) ?_
  refine z_ci (S := Unit) (w := fun _ => mC c h τ κ) (P := fun z _ => z = b2i (0 ≤ a ∧ a ≤ τ 0 1 - 1)) (z_runV (rm := { frames := 1, cells := 0, slots := 0, locals := 22 }) hF hK hP (c_X4_isAct l h D c τ κ hinj hG a (by omega) _) (gIn_V mw_503 mw_504 mw_505 mw_447 mw_502) rfl rfl ⟨rfl, by decide, by decide, rfl⟩ ⟨Nat.le_of_ble_eq_true rfl, Nat.le_of_ble_eq_true rfl⟩ (k := 0) (T := TX4) (N := 22) (by omega) rfl (rfl) rfl (As := [.int (iz (a))]) (rest := [.ref (h (0))]) rfl hl.1 rfl (Nat.le_of_ble_eq_true rfl) dX4_move_3 ⟨Nat.le_refl _, Nat.le_refl _⟩) hz hA hS (fun z_1 u_2 H locs hp hP hS => ?_)
  obtain rfl : z_1 = b2i (0 ≤ a ∧ a ≤ τ 0 1 - 1) := hp
  have q_3 := GI_01 hG
  refine zi_ifb_ne (tgt := 13) hF.1 hF.2.1 (P := 0 ≤ a ∧ a ≤ τ 0 1 - 1) dX4_move_6 (by decide) (fun c_6 => ?_) (fun c_6 => ?_)
  · skip
    refine lv_iload_n hF.1 hF.2.1 dX4_move_13 rfl (lv_at hl 2 rfl) ?_
    refine z_ci (S := Unit) (w := fun _ => mC c h τ κ) (P := fun z _ => z = b2i (0 ≤ mi ∧ mi ≤ 999)) (z_runS (rm := { frames := 1, cells := 0, slots := 0, locals := 22 }) hF hK hP (c_X4_isMinute l h D c τ κ hinj hG mi (by omega) _) (gIn_S mw_485 mw_486 mw_447 mw_444) rfl rfl ⟨rfl, by decide, by decide, rfl⟩ ⟨Nat.le_of_ble_eq_true rfl, Nat.le_of_ble_eq_true rfl⟩ (As := [.int (iz (mi))]) (rest := [.ref (h (0))]) rfl hl.1 rfl (Nat.le_of_ble_eq_true rfl) dX4_move_14 ⟨Nat.le_refl _, Nat.le_refl _⟩) hz hA hS (fun z_4 u_5 H locs hp hP hS => ?_)
    obtain rfl : z_4 = b2i (0 ≤ mi ∧ mi ≤ 999) := hp
    refine zi_ifb_ne (tgt := 24) hF.1 hF.2.1 (P := 0 ≤ mi ∧ mi ≤ 999) dX4_move_17 (by decide) (fun c_17 => ?_) (fun c_17 => ?_)
    · skip
      refine lv_aload_n hF.1 hF.2.1 dX4_move_24 rfl (lv_at hl 0 rfl) ?_
      refine z_get hF hK hP (k := 0) (C := RX4) (T := TX4) (N := 22) (by omega) (rfl) rfl uin_X4 13 (by decide) mw_436 (v := .ref (h (12))) rfl dX4_move_25 ?_
      refine lv_iload_n hF.1 hF.2.1 dX4_move_28 rfl (lv_at hl 1 rfl) ?_
      refine z_zald hF hK hP (k := 12) (by decide) rfl 4 rfl (i := a) ((a).toNat) ((Int.toNat_of_nonneg (by omega)).symm) (by omega) (by decide) (x := iz (τ 14 (a).toNat)) rfl dX4_move_29 ?_
      have q_6 := GI_14 hG ((a).toNat)
      refine zi_if_eq (tgt := 37) hF.1 hF.2.1 (a := τ 14 (a).toNat) dX4_move_30 (by decide) (by omega) (fun c_30 => ?_) (fun c_30 => ?_)
      · skip
        refine zi_const hF.1 hF.2.1 dX4_move_37 ?_
        refine z_put hF hK hz hP hS (k := 0) (C := RX4) (T := TX4) (N := 22) (by omega) (rfl) rfl uin_X4 tyX4_ok nmX4 21 (by decide) mw_442 rfl (⟨rfl, rfl⟩) (by simp) (g' := mC c h (τ) (u2 (κ) 1 0 (3))) (rfl) (mC_t_o) dX4_move_38 (fun H locs hP hS => ?_)
        refine lv_aload_n hF.1 hF.2.1 dX4_move_41 rfl (lv_at hl 0 rfl) ?_
        refine z_get hF hK hP (k := 0) (C := RX4) (T := TX4) (N := 22) (by omega) (rfl) rfl uin_X4 21 (by decide) mw_442 (v := .int (iz (3))) rfl dX4_move_42 ?_
        refine zi_if_le (tgt := 50) hF.1 hF.2.1 (a := 3) dX4_move_45 (by decide) (by omega) (fun c_45 => ?_) (fun c_45 => ?_)
        · skip
          exact absurd c_45 (by omega)
        · skip
          refine zi_const hF.1 hF.2.1 dX4_move_48 ?_
          exact z_reti (P := fun z u9 => MS τ (thM τ a mi) (u2 τ 8 a.toNat mi) z u9.1 (u9.2 1 0)) (z := 0) (u := (τ, u2 (κ) 1 0 (3))) (w := fun u9 => mC c h u9.1 u9.2) hF hr hlocks hP hS ((iz_nar_z (by first | omega | exact b2i_rg)).1) (⟨by have e9 : (u2 (κ) 1 0 (3)) 1 0 = (3 : Int) := rfl; show (u2 (κ) 1 0 (3)) 1 0 = _; rw [e9]; unfold thM; (repeat' split) <;> omega, Or.inl ⟨by unfold thM; (repeat' split) <;> omega, rfl, rfl⟩, hG⟩) dX4_move_49
      · skip
        refine zi_const hF.1 hF.2.1 dX4_move_33 ?_
        refine lv_goto (tgt := 38) hF.1 hF.2.1 dX4_move_34 (by decide) ?_
        refine z_put hF hK hz hP hS (k := 0) (C := RX4) (T := TX4) (N := 22) (by omega) (rfl) rfl uin_X4 tyX4_ok nmX4 21 (by decide) mw_442 rfl (⟨rfl, rfl⟩) (by simp) (g' := mC c h (τ) (u2 (κ) 1 0 (0))) (rfl) (mC_t_o) dX4_move_38 (fun H locs hP hS => ?_)
        refine lv_aload_n hF.1 hF.2.1 dX4_move_41 rfl (lv_at hl 0 rfl) ?_
        refine z_get hF hK hP (k := 0) (C := RX4) (T := TX4) (N := 22) (by omega) (rfl) rfl uin_X4 21 (by decide) mw_442 (v := .int (iz (0))) rfl dX4_move_42 ?_
        refine zi_if_le (tgt := 50) hF.1 hF.2.1 (a := 0) dX4_move_45 (by decide) (by omega) (fun c_45 => ?_) (fun c_45 => ?_)
        · skip
          refine lv_aload_n hF.1 hF.2.1 dX4_move_50 rfl (lv_at hl 0 rfl) ?_
          refine z_get hF hK hP (k := 0) (C := RX4) (T := TX4) (N := 22) (by omega) (rfl) rfl uin_X4 7 (by decide) mw_429 (v := .ref (h (6))) rfl dX4_move_51 ?_
          refine lv_iload_n hF.1 hF.2.1 dX4_move_54 rfl (lv_at hl 1 rfl) ?_
          refine z_iald hF hK hP (k := 6) (by decide) rfl 0 rfl (i := a) ((a).toNat) ((Int.toNat_of_nonneg (by omega)).symm) (by omega) (by decide) (x := iz (τ 8 (a).toNat)) rfl dX4_move_55 ?_
          have q_7 := GI_8 hG ((a).toNat)
          refine lv_istore_n (lv' := [(3, .int (iz (τ 8 (a).toNat))), (0, .ref (h (0))), (1, .int (iz (a))), (2, .int (iz (mi)))]) hF.1 hF.2.1 dX4_move_56 rfl hl (by decide) rfl (fun ls hl => ?_)
          refine lv_aload_n hF.1 hF.2.1 dX4_move_57 rfl (lv_at hl 1 rfl) ?_
          refine z_get hF hK hP (k := 0) (C := RX4) (T := TX4) (N := 22) (by omega) (rfl) rfl uin_X4 7 (by decide) mw_429 (v := .ref (h (6))) rfl dX4_move_58 ?_
          refine lv_iload_n hF.1 hF.2.1 dX4_move_61 rfl (lv_at hl 2 rfl) ?_
          refine lv_iload_n hF.1 hF.2.1 dX4_move_62 rfl (lv_at hl 3 rfl) ?_
          refine z_iast hF hK hz hP hS (k := 6) (by decide) rfl 0 rfl (i := a) ((a).toNat) ((Int.toNat_of_nonneg (by omega)).symm) (by omega) (by decide) (x := iz (mi)) (g' := mC c h (u2 (τ) 8 ((a).toNat) (mi)) (u2 (κ) 1 0 (0))) (by show Sum.inl (_, _, Sum.inl _) = _; rw [u2_up]) (mC_row_o (a := 6) ⟨by decide, by decide⟩) dX4_move_63 (fun H locs hP hS => ?_)
          have hG_8 := GI_u8 hG (v := mi) (k := (a).toNat) (by omega)
          refine lv_aload_n hF.1 hF.2.1 dX4_move_64 rfl (lv_at hl 1 rfl) ?_
          refine z_ci (S := Nat → Nat → Int) (w := fun κ9 => mC c h (u2 (τ) 8 ((a).toNat) (mi)) κ9) (P := fun z κ9 => z = wrg (u2 (τ) 8 ((a).toNat) (mi)) ∧ κ9 1 = (u2 (κ) 1 0 (0)) 1) (z_runV (rm := { frames := 3, cells := 0, slots := 0, locals := 71 }) hF hK hP (c_X4_wrong l h D c (u2 (τ) 8 ((a).toNat) (mi)) (u2 (κ) 1 0 (0)) hinj hG_8  _) (gIn_V mw_489 mw_490 mw_491 mw_447 mw_483) rfl rfl ⟨rfl, by decide, by decide, rfl⟩ ⟨Nat.le_of_ble_eq_true rfl, Nat.le_of_ble_eq_true rfl⟩ (k := 0) (T := TX4) (N := 22) (by omega) rfl (rfl) rfl (As := []) (rest := []) rfl hl.1 rfl (Nat.le_of_ble_eq_true rfl) dX4_move_65 ⟨Nat.le_refl _, Nat.le_refl _⟩) hz hA hS (fun z_9 u_10 H locs hp hP hS => ?_)
          obtain ⟨rfl, hku_10⟩ : z_9 = wrg (u2 (τ) 8 ((a).toNat) (mi)) ∧ u_10 1 = (u2 (κ) 1 0 (0)) 1 := hp
          have hP : zB 17 h D (mC c h (u2 (τ) 8 ((a).toNat) (mi)) (u_10)) H := hP
          have q_11 := @wrg_rg (u2 (τ) 8 ((a).toNat) (mi))
          refine zi_if_ne (tgt := 75) hF.1 hF.2.1 (a := wrg (u2 (τ) 8 ((a).toNat) (mi))) dX4_move_68 (by decide) (by omega) (fun c_68 => ?_) (fun c_68 => ?_)
          · skip
            refine zi_const hF.1 hF.2.1 dX4_move_75 ?_
            refine lv_istore (lv' := [(4, .int (iz (0))), (3, .int (iz (τ 8 (a).toNat))), (0, .ref (h (0))), (1, .int (iz (a))), (2, .int (iz (mi)))]) hF.1 hF.2.1 dX4_move_76 hl (by decide) rfl (fun ls hl => ?_)
            refine lv_aload_n hF.1 hF.2.1 dX4_move_78 rfl (lv_at hl 2 rfl) ?_
            refine z_get hF hK hP (k := 0) (C := RX4) (T := TX4) (N := 22) (by omega) (rfl) rfl uin_X4 7 (by decide) mw_429 (v := .ref (h (6))) rfl dX4_move_79 ?_
            refine lv_iload_n hF.1 hF.2.1 dX4_move_82 rfl (lv_at hl 3 rfl) ?_
            refine lv_iload hF.1 hF.2.1 dX4_move_83 (lv_at hl 0 rfl) ?_
            refine zi_if_eq (tgt := 92) hF.1 hF.2.1 (a := 0) dX4_move_85 (by decide) (by omega) (fun c_85 => ?_) (fun c_85 => ?_)
            · skip
              refine lv_iload_n hF.1 hF.2.1 dX4_move_92 rfl (lv_at hl 1 rfl) ?_
              refine z_iast hF hK hz hP hS (k := 6) (by decide) rfl 0 rfl (i := a) ((a).toNat) ((Int.toNat_of_nonneg (by omega)).symm) (by omega) (by decide) (x := iz (τ 8 (a).toNat)) (g' := mC c h (u2 (u2 (τ) 8 ((a).toNat) (mi)) 8 ((a).toNat) (τ 8 (a).toNat)) (u_10)) (by show Sum.inl (_, _, Sum.inl _) = _; rw [u2_up]) (mC_row_o (a := 6) ⟨by decide, by decide⟩) dX4_move_93 (fun H locs hP hS => ?_)
              have hG_12 := GI_u8 hG_8 (v := τ 8 (a).toNat) (k := (a).toNat) (by omega)
              refine lv_iload hF.1 hF.2.1 dX4_move_94 (lv_at hl 0 rfl) ?_
              exact z_reti (P := fun z u9 => MS τ (thM τ a mi) (u2 τ 8 a.toNat mi) z u9.1 (u9.2 1 0)) (z := 0) (u := (u2 (u2 (τ) 8 ((a).toNat) (mi)) 8 ((a).toNat) (τ 8 (a).toNat), u_10)) (w := fun u9 => mC c h u9.1 u9.2) hF hr hlocks hP hS ((iz_nar_z (by first | omega | exact b2i_rg)).1) (⟨by have e9 : (u_10) 1 0 = (0 : Int) := (by rw [hku_10]; rfl); show (u_10) 1 0 = _; rw [e9]; unfold thM; (repeat' split) <;> omega, Or.inr ⟨by unfold thM; (repeat' split) <;> omega, Or.inr ⟨by omega, rfl, u2_u2.trans u2_self⟩⟩, hG_12⟩) dX4_move_96
            · skip
              exact absurd c_85 (by omega)
          · skip
            refine zi_const hF.1 hF.2.1 dX4_move_71 ?_
            refine lv_goto (tgt := 76) hF.1 hF.2.1 dX4_move_72 (by decide) ?_
            refine lv_istore (lv' := [(4, .int (iz (1))), (3, .int (iz (τ 8 (a).toNat))), (0, .ref (h (0))), (1, .int (iz (a))), (2, .int (iz (mi)))]) hF.1 hF.2.1 dX4_move_76 hl (by decide) rfl (fun ls hl => ?_)
            refine lv_aload_n hF.1 hF.2.1 dX4_move_78 rfl (lv_at hl 2 rfl) ?_
            refine z_get hF hK hP (k := 0) (C := RX4) (T := TX4) (N := 22) (by omega) (rfl) rfl uin_X4 7 (by decide) mw_429 (v := .ref (h (6))) rfl dX4_move_79 ?_
            refine lv_iload_n hF.1 hF.2.1 dX4_move_82 rfl (lv_at hl 3 rfl) ?_
            refine lv_iload hF.1 hF.2.1 dX4_move_83 (lv_at hl 0 rfl) ?_
            refine zi_if_eq (tgt := 92) hF.1 hF.2.1 (a := 1) dX4_move_85 (by decide) (by omega) (fun c_85 => ?_) (fun c_85 => ?_)
            · skip
              exact absurd c_85 (by omega)
            · skip
              refine lv_iload_n hF.1 hF.2.1 dX4_move_88 rfl (lv_at hl 4 rfl) ?_
              refine lv_goto (tgt := 93) hF.1 hF.2.1 dX4_move_89 (by decide) ?_
              refine z_iast hF hK hz hP hS (k := 6) (by decide) rfl 0 rfl (i := a) ((a).toNat) ((Int.toNat_of_nonneg (by omega)).symm) (by omega) (by decide) (x := iz (mi)) (g' := mC c h (u2 (u2 (τ) 8 ((a).toNat) (mi)) 8 ((a).toNat) (mi)) (u_10)) (by show Sum.inl (_, _, Sum.inl _) = _; rw [u2_up]) (mC_row_o (a := 6) ⟨by decide, by decide⟩) dX4_move_93 (fun H locs hP hS => ?_)
              have hG_13 := GI_u8 hG_8 (v := mi) (k := (a).toNat) (by omega)
              refine lv_iload hF.1 hF.2.1 dX4_move_94 (lv_at hl 0 rfl) ?_
              exact z_reti (P := fun z u9 => MS τ (thM τ a mi) (u2 τ 8 a.toNat mi) z u9.1 (u9.2 1 0)) (z := 1) (u := (u2 (u2 (τ) 8 ((a).toNat) (mi)) 8 ((a).toNat) (mi), u_10)) (w := fun u9 => mC c h u9.1 u9.2) hF hr hlocks hP hS ((iz_nar_z (by first | omega | exact b2i_rg)).1) (⟨by have e9 : (u_10) 1 0 = (0 : Int) := (by rw [hku_10]; rfl); show (u_10) 1 0 = _; rw [e9]; unfold thM; (repeat' split) <;> omega, Or.inr ⟨by unfold thM; (repeat' split) <;> omega, Or.inl ⟨by omega, rfl, u2_u2⟩⟩, hG_13⟩) dX4_move_96
        · skip
          exact absurd c_45 (by omega)
    · skip
      refine zi_const hF.1 hF.2.1 dX4_move_20 ?_
      refine lv_goto (tgt := 38) hF.1 hF.2.1 dX4_move_21 (by decide) ?_
      refine z_put hF hK hz hP hS (k := 0) (C := RX4) (T := TX4) (N := 22) (by omega) (rfl) rfl uin_X4 tyX4_ok nmX4 21 (by decide) mw_442 rfl (⟨rfl, rfl⟩) (by simp) (g' := mC c h (τ) (u2 (κ) 1 0 (2))) (rfl) (mC_t_o) dX4_move_38 (fun H locs hP hS => ?_)
      refine lv_aload_n hF.1 hF.2.1 dX4_move_41 rfl (lv_at hl 0 rfl) ?_
      refine z_get hF hK hP (k := 0) (C := RX4) (T := TX4) (N := 22) (by omega) (rfl) rfl uin_X4 21 (by decide) mw_442 (v := .int (iz (2))) rfl dX4_move_42 ?_
      refine zi_if_le (tgt := 50) hF.1 hF.2.1 (a := 2) dX4_move_45 (by decide) (by omega) (fun c_45 => ?_) (fun c_45 => ?_)
      · skip
        exact absurd c_45 (by omega)
      · skip
        refine zi_const hF.1 hF.2.1 dX4_move_48 ?_
        exact z_reti (P := fun z u9 => MS τ (thM τ a mi) (u2 τ 8 a.toNat mi) z u9.1 (u9.2 1 0)) (z := 0) (u := (τ, u2 (κ) 1 0 (2))) (w := fun u9 => mC c h u9.1 u9.2) hF hr hlocks hP hS ((iz_nar_z (by first | omega | exact b2i_rg)).1) (⟨by have e9 : (u2 (κ) 1 0 (2)) 1 0 = (2 : Int) := rfl; show (u2 (κ) 1 0 (2)) 1 0 = _; rw [e9]; unfold thM; (repeat' split) <;> omega, Or.inl ⟨by unfold thM; (repeat' split) <;> omega, rfl, rfl⟩, hG⟩) dX4_move_49
  · skip
    refine zi_const hF.1 hF.2.1 dX4_move_9 ?_
    refine lv_goto (tgt := 38) hF.1 hF.2.1 dX4_move_10 (by decide) ?_
    refine z_put hF hK hz hP hS (k := 0) (C := RX4) (T := TX4) (N := 22) (by omega) (rfl) rfl uin_X4 tyX4_ok nmX4 21 (by decide) mw_442 rfl (⟨rfl, rfl⟩) (by simp) (g' := mC c h (τ) (u2 (κ) 1 0 (1))) (rfl) (mC_t_o) dX4_move_38 (fun H locs hP hS => ?_)
    refine lv_aload_n hF.1 hF.2.1 dX4_move_41 rfl (lv_at hl 0 rfl) ?_
    refine z_get hF hK hP (k := 0) (C := RX4) (T := TX4) (N := 22) (by omega) (rfl) rfl uin_X4 21 (by decide) mw_442 (v := .int (iz (1))) rfl dX4_move_42 ?_
    refine zi_if_le (tgt := 50) hF.1 hF.2.1 (a := 1) dX4_move_45 (by decide) (by omega) (fun c_45 => ?_) (fun c_45 => ?_)
    · skip
      exact absurd c_45 (by omega)
    · skip
      refine zi_const hF.1 hF.2.1 dX4_move_48 ?_
      exact z_reti (P := fun z u9 => MS τ (thM τ a mi) (u2 τ 8 a.toNat mi) z u9.1 (u9.2 1 0)) (z := 0) (u := (τ, u2 (κ) 1 0 (1))) (w := fun u9 => mC c h u9.1 u9.2) hF hr hlocks hP hS ((iz_nar_z (by first | omega | exact b2i_rg)).1) (⟨by have e9 : (u2 (κ) 1 0 (1)) 1 0 = (1 : Int) := rfl; show (u2 (κ) 1 0 (1)) 1 0 = _; rw [e9]; unfold thM; (repeat' split) <;> omega, Or.inl ⟨by unfold thM; (repeat' split) <;> omega, rfl, rfl⟩, hG⟩) dX4_move_49

set_option maxRecDepth 100000 in
set_option maxHeartbeats 4000000 in
theorem c_X4_drop (l : Launch) (h : Nat → Nat) (D : va_G) (c : Nat → ClassId) (τ κ : Nat → Nat → Int) (hinj : ∀ i j, i < 17 → j < 17 → h i = h j → i = j) (hG : GI τ) (a : Int) (ha : -2147483648 ≤ a ∧ a ≤ 2147483647) :
    zMv (S := (Nat → Nat → Int) × (Nat → Nat → Int)) l yX4_drop cX4_drop 2 (none) 2 43 [.ref (h (0)), .int (iz (a))] 17 h D (gT c) (mC c h (τ) (κ)) (fun u9 => mC c h u9.1 u9.2) (fun u9 => u9.2 1 0 = thD τ a ∧ u9.1 = (if thD τ a = 0 then u2 τ 14 a.toNat 0 else τ) ∧ GI u9.1) := by
  refine zM_of (by decide) (Nat.le_of_ble_eq_true rfl) ?_
  intro p e s m below meth cd ls ⟨hF, hr, hlocks, hK⟩ hP hl
  have hz : zD (zA 17 h s.heap.size) 17 h := zD.self hinj s.heap.size
  have hA : ∀ q, s.heap.size ≤ q → zA 17 h s.heap.size q := zA_new
  generalize zA 17 h s.heap.size = A at hz hA ⊢
  have hS : va_S A s.heap s.heap [] := va_S.rf
  have hl : lv_has ls 2 [(0, .ref (h (0))), (1, .int (iz (a)))] := hl
  refine lv_aload_n hF.1 hF.2.1 dX4_drop_0 rfl (lv_at hl 0 rfl) ?_
  refine lv_aload_n hF.1 hF.2.1 dX4_drop_1 rfl (lv_at hl 0 rfl) ?_
  refine lv_iload_n hF.1 hF.2.1 dX4_drop_2 rfl (lv_at hl 1 rfl) ?_
  refine z_ci (S := Unit) (w := fun _ => mC c h τ κ) (P := fun z _ => z = b2i (0 ≤ a ∧ a ≤ τ 0 1 - 1)) (z_runV (rm := { frames := 1, cells := 0, slots := 0, locals := 22 }) hF hK hP (c_X4_isAct l h D c τ κ hinj hG a (by omega) _) (gIn_V mw_503 mw_504 mw_505 mw_447 mw_502) rfl rfl ⟨rfl, by decide, by decide, rfl⟩ ⟨Nat.le_of_ble_eq_true rfl, Nat.le_of_ble_eq_true rfl⟩ (k := 0) (T := TX4) (N := 22) (by omega) rfl (rfl) rfl (As := [.int (iz (a))]) (rest := [.ref (h (0))]) rfl hl.1 rfl (Nat.le_of_ble_eq_true rfl) dX4_drop_3 ⟨Nat.le_refl _, Nat.le_refl _⟩) hz hA hS (fun z_1 u_2 H locs hp hP hS => ?_)
  obtain rfl : z_1 = b2i (0 ≤ a ∧ a ≤ τ 0 1 - 1) := hp
  have q_3 := GI_01 hG
  refine zi_ifb_ne (tgt := 13) hF.1 hF.2.1 (P := 0 ≤ a ∧ a ≤ τ 0 1 - 1) dX4_drop_6 (by decide) (fun c_6 => ?_) (fun c_6 => ?_)
  · skip
    refine lv_aload_n hF.1 hF.2.1 dX4_drop_13 rfl (lv_at hl 0 rfl) ?_
    refine z_get hF hK hP (k := 0) (C := RX4) (T := TX4) (N := 22) (by omega) (rfl) rfl uin_X4 13 (by decide) mw_436 (v := .ref (h (12))) rfl dX4_drop_14 ?_
    refine lv_iload_n hF.1 hF.2.1 dX4_drop_17 rfl (lv_at hl 1 rfl) ?_
    refine z_zald hF hK hP (k := 12) (by decide) rfl 4 rfl (i := a) ((a).toNat) ((Int.toNat_of_nonneg (by omega)).symm) (by omega) (by decide) (x := iz (τ 14 (a).toNat)) rfl dX4_drop_18 ?_
    have q_4 := GI_14 hG ((a).toNat)
    refine zi_if_eq (tgt := 26) hF.1 hF.2.1 (a := τ 14 (a).toNat) dX4_drop_19 (by decide) (by omega) (fun c_19 => ?_) (fun c_19 => ?_)
    · skip
      refine zi_const hF.1 hF.2.1 dX4_drop_26 ?_
      refine z_put hF hK hz hP hS (k := 0) (C := RX4) (T := TX4) (N := 22) (by omega) (rfl) rfl uin_X4 tyX4_ok nmX4 21 (by decide) mw_442 rfl (⟨rfl, rfl⟩) (by simp) (g' := mC c h (τ) (u2 (κ) 1 0 (2))) (rfl) (mC_t_o) dX4_drop_27 (fun H locs hP hS => ?_)
      refine lv_aload_n hF.1 hF.2.1 dX4_drop_30 rfl (lv_at hl 0 rfl) ?_
      refine z_get hF hK hP (k := 0) (C := RX4) (T := TX4) (N := 22) (by omega) (rfl) rfl uin_X4 21 (by decide) mw_442 (v := .int (iz (2))) rfl dX4_drop_31 ?_
      refine zi_if_ne (tgt := 44) hF.1 hF.2.1 (a := 2) dX4_drop_34 (by decide) (by omega) (fun c_34 => ?_) (fun c_34 => ?_)
      · skip
        exact z_retv (P := fun u9 => u9.2 1 0 = thD τ a ∧ u9.1 = (if thD τ a = 0 then u2 τ 14 a.toNat 0 else τ) ∧ GI u9.1) (u := (τ, u2 (κ) 1 0 (2))) (w := fun u9 => mC c h u9.1 u9.2) hF hr hlocks hP hS (⟨by have e9 : (u2 (κ) 1 0 (2)) 1 0 = (2 : Int) := rfl; show (u2 (κ) 1 0 (2)) 1 0 = _; rw [e9]; unfold thD; (repeat' split) <;> omega, by unfold thD; (repeat' split) <;> first | rfl | omega, hG⟩) dX4_drop_44
      · skip
        exact absurd c_34 (by omega)
    · skip
      refine zi_const hF.1 hF.2.1 dX4_drop_22 ?_
      refine lv_goto (tgt := 27) hF.1 hF.2.1 dX4_drop_23 (by decide) ?_
      refine z_put hF hK hz hP hS (k := 0) (C := RX4) (T := TX4) (N := 22) (by omega) (rfl) rfl uin_X4 tyX4_ok nmX4 21 (by decide) mw_442 rfl (⟨rfl, rfl⟩) (by simp) (g' := mC c h (τ) (u2 (κ) 1 0 (0))) (rfl) (mC_t_o) dX4_drop_27 (fun H locs hP hS => ?_)
      refine lv_aload_n hF.1 hF.2.1 dX4_drop_30 rfl (lv_at hl 0 rfl) ?_
      refine z_get hF hK hP (k := 0) (C := RX4) (T := TX4) (N := 22) (by omega) (rfl) rfl uin_X4 21 (by decide) mw_442 (v := .int (iz (0))) rfl dX4_drop_31 ?_
      refine zi_if_ne (tgt := 44) hF.1 hF.2.1 (a := 0) dX4_drop_34 (by decide) (by omega) (fun c_34 => ?_) (fun c_34 => ?_)
      · skip
        exact absurd c_34 (by omega)
      · skip
        refine lv_aload_n hF.1 hF.2.1 dX4_drop_37 rfl (lv_at hl 0 rfl) ?_
        refine z_get hF hK hP (k := 0) (C := RX4) (T := TX4) (N := 22) (by omega) (rfl) rfl uin_X4 13 (by decide) mw_436 (v := .ref (h (12))) rfl dX4_drop_38 ?_
        refine lv_iload_n hF.1 hF.2.1 dX4_drop_41 rfl (lv_at hl 1 rfl) ?_
        refine zi_const hF.1 hF.2.1 dX4_drop_42 ?_
        refine z_zast hF hK hz hP hS (k := 12) (by decide) rfl 4 rfl (i := a) ((a).toNat) ((Int.toNat_of_nonneg (by omega)).symm) (by omega) (by decide) (x := 0) (by first | omega | (unfold b2i; split <;> omega)) (g' := mC c h (u2 (τ) 14 ((a).toNat) (0)) (u2 (κ) 1 0 (0))) (by show Sum.inl (_, _, Sum.inl _) = _; rw [u2_up]) (mC_row_o (a := 12) ⟨by decide, by decide⟩) dX4_drop_43 (fun H locs hP hS => ?_)
        have hG_5 := GI_u14 hG (v := 0) (k := (a).toNat) (by omega)
        exact z_retv (P := fun u9 => u9.2 1 0 = thD τ a ∧ u9.1 = (if thD τ a = 0 then u2 τ 14 a.toNat 0 else τ) ∧ GI u9.1) (u := (u2 (τ) 14 ((a).toNat) (0), u2 (κ) 1 0 (0))) (w := fun u9 => mC c h u9.1 u9.2) hF hr hlocks hP hS (⟨by have e9 : (u2 (κ) 1 0 (0)) 1 0 = (0 : Int) := rfl; show (u2 (κ) 1 0 (0)) 1 0 = _; rw [e9]; unfold thD; (repeat' split) <;> omega, by unfold thD; (repeat' split) <;> first | rfl | omega, hG_5⟩) dX4_drop_44
  · skip
    refine zi_const hF.1 hF.2.1 dX4_drop_9 ?_
    refine lv_goto (tgt := 27) hF.1 hF.2.1 dX4_drop_10 (by decide) ?_
    refine z_put hF hK hz hP hS (k := 0) (C := RX4) (T := TX4) (N := 22) (by omega) (rfl) rfl uin_X4 tyX4_ok nmX4 21 (by decide) mw_442 rfl (⟨rfl, rfl⟩) (by simp) (g' := mC c h (τ) (u2 (κ) 1 0 (1))) (rfl) (mC_t_o) dX4_drop_27 (fun H locs hP hS => ?_)
    refine lv_aload_n hF.1 hF.2.1 dX4_drop_30 rfl (lv_at hl 0 rfl) ?_
    refine z_get hF hK hP (k := 0) (C := RX4) (T := TX4) (N := 22) (by omega) (rfl) rfl uin_X4 21 (by decide) mw_442 (v := .int (iz (1))) rfl dX4_drop_31 ?_
    refine zi_if_ne (tgt := 44) hF.1 hF.2.1 (a := 1) dX4_drop_34 (by decide) (by omega) (fun c_34 => ?_) (fun c_34 => ?_)
    · skip
      exact z_retv (P := fun u9 => u9.2 1 0 = thD τ a ∧ u9.1 = (if thD τ a = 0 then u2 τ 14 a.toNat 0 else τ) ∧ GI u9.1) (u := (τ, u2 (κ) 1 0 (1))) (w := fun u9 => mC c h u9.1 u9.2) hF hr hlocks hP hS (⟨by have e9 : (u2 (κ) 1 0 (1)) 1 0 = (1 : Int) := rfl; show (u2 (κ) 1 0 (1)) 1 0 = _; rw [e9]; unfold thD; (repeat' split) <;> omega, by unfold thD; (repeat' split) <;> first | rfl | omega, hG⟩) dX4_drop_44
    · skip
      exact absurd c_34 (by omega)

set_option maxRecDepth 100000 in
set_option maxHeartbeats 4000000 in
theorem c_X4_start (l : Launch) (h : Nat → Nat) (D : va_G) (c : Nat → ClassId) (τ κ : Nat → Nat → Int) (hinj : ∀ i j, i < 17 → j < 17 → h i = h j → i = j) (hG : GI τ) (a : Int) (ha : -2147483648 ≤ a ∧ a ≤ 2147483647) :
    zMi (S := Nat → Nat → Int) l yX4_start cX4_start 2 (some .int) 2 43 [.ref (h (0)), .int (iz (a))] 17 h D (gT c) (mC c h (τ) (κ)) (fun κ9 => mC c h τ κ9) (fun z κ9 => κ9 1 0 = th1 τ a ∧ (th1 τ a = 0 → z = if τ 14 a.toNat = 0 then -1 else τ 8 a.toNat)) := by
  refine zM_of (by decide) (Nat.le_of_ble_eq_true rfl) ?_
  intro p e s m below meth cd ls ⟨hF, hr, hlocks, hK⟩ hP hl
  have hz : zD (zA 17 h s.heap.size) 17 h := zD.self hinj s.heap.size
  have hA : ∀ q, s.heap.size ≤ q → zA 17 h s.heap.size q := zA_new
  generalize zA 17 h s.heap.size = A at hz hA ⊢
  have hS : va_S A s.heap s.heap [] := va_S.rf
  have hl : lv_has ls 2 [(0, .ref (h (0))), (1, .int (iz (a)))] := hl
  refine lv_aload_n hF.1 hF.2.1 dX4_start_0 rfl (lv_at hl 0 rfl) ?_
  refine lv_aload_n hF.1 hF.2.1 dX4_start_1 rfl (lv_at hl 0 rfl) ?_
  refine lv_iload_n hF.1 hF.2.1 dX4_start_2 rfl (lv_at hl 1 rfl) ?_
  refine z_ci (S := Unit) (w := fun _ => mC c h τ κ) (P := fun z _ => z = b2i (0 ≤ a ∧ a ≤ τ 0 1 - 1)) (z_runV (rm := { frames := 1, cells := 0, slots := 0, locals := 22 }) hF hK hP (c_X4_isAct l h D c τ κ hinj hG a (by omega) _) (gIn_V mw_503 mw_504 mw_505 mw_447 mw_502) rfl rfl ⟨rfl, by decide, by decide, rfl⟩ ⟨Nat.le_of_ble_eq_true rfl, Nat.le_of_ble_eq_true rfl⟩ (k := 0) (T := TX4) (N := 22) (by omega) rfl (rfl) rfl (As := [.int (iz (a))]) (rest := [.ref (h (0))]) rfl hl.1 rfl (Nat.le_of_ble_eq_true rfl) dX4_start_3 ⟨Nat.le_refl _, Nat.le_refl _⟩) hz hA hS (fun z_1 u_2 H locs hp hP hS => ?_)
  obtain rfl : z_1 = b2i (0 ≤ a ∧ a ≤ τ 0 1 - 1) := hp
  have q_3 := GI_01 hG
  refine zi_ifb_eq (tgt := 13) hF.1 hF.2.1 (P := 0 ≤ a ∧ a ≤ τ 0 1 - 1) dX4_start_6 (by decide) (fun c_6 => ?_) (fun c_6 => ?_)
  · skip
    refine zi_const hF.1 hF.2.1 dX4_start_13 ?_
    refine z_put hF hK hz hP hS (k := 0) (C := RX4) (T := TX4) (N := 22) (by omega) (rfl) rfl uin_X4 tyX4_ok nmX4 21 (by decide) mw_442 rfl (⟨rfl, rfl⟩) (by simp) (g' := mC c h (τ) (u2 (κ) 1 0 (1))) (rfl) (mC_t_o) dX4_start_14 (fun H locs hP hS => ?_)
    refine lv_aload_n hF.1 hF.2.1 dX4_start_17 rfl (lv_at hl 0 rfl) ?_
    refine z_get hF hK hP (k := 0) (C := RX4) (T := TX4) (N := 22) (by omega) (rfl) rfl uin_X4 21 (by decide) mw_442 (v := .int (iz (1))) rfl dX4_start_18 ?_
    refine zi_if_le (tgt := 28) hF.1 hF.2.1 (a := 1) dX4_start_21 (by decide) (by omega) (fun c_21 => ?_) (fun c_21 => ?_)
    · skip
      exact absurd c_21 (by omega)
    · skip
      refine zi_const hF.1 hF.2.1 dX4_start_24 ?_
      refine lv_goto (tgt := 47) hF.1 hF.2.1 dX4_start_25 (by decide) ?_
      exact z_reti (P := fun z κ9 => κ9 1 0 = th1 τ a ∧ (th1 τ a = 0 → z = if τ 14 a.toNat = 0 then -1 else τ 8 a.toNat)) (z := 0) (u := u2 (κ) 1 0 (1)) (w := fun κ9 => mC c h τ κ9) hF hr hlocks hP hS (rfl) (⟨by have e9 : (u2 (κ) 1 0 (1)) 1 0 = (1 : Int) := rfl; show (u2 (κ) 1 0 (1)) 1 0 = _; rw [e9]; unfold th1; (repeat' split) <;> omega, fun q9 => by unfold th1 at q9; (repeat' split at q9) <;> (try (repeat' split)) <;> omega⟩) dX4_start_47
  · skip
    refine zi_const hF.1 hF.2.1 dX4_start_9 ?_
    refine lv_goto (tgt := 14) hF.1 hF.2.1 dX4_start_10 (by decide) ?_
    refine z_put hF hK hz hP hS (k := 0) (C := RX4) (T := TX4) (N := 22) (by omega) (rfl) rfl uin_X4 tyX4_ok nmX4 21 (by decide) mw_442 rfl (⟨rfl, rfl⟩) (by simp) (g' := mC c h (τ) (u2 (κ) 1 0 (0))) (rfl) (mC_t_o) dX4_start_14 (fun H locs hP hS => ?_)
    refine lv_aload_n hF.1 hF.2.1 dX4_start_17 rfl (lv_at hl 0 rfl) ?_
    refine z_get hF hK hP (k := 0) (C := RX4) (T := TX4) (N := 22) (by omega) (rfl) rfl uin_X4 21 (by decide) mw_442 (v := .int (iz (0))) rfl dX4_start_18 ?_
    refine zi_if_le (tgt := 28) hF.1 hF.2.1 (a := 0) dX4_start_21 (by decide) (by omega) (fun c_21 => ?_) (fun c_21 => ?_)
    · skip
      refine lv_aload_n hF.1 hF.2.1 dX4_start_28 rfl (lv_at hl 0 rfl) ?_
      refine z_get hF hK hP (k := 0) (C := RX4) (T := TX4) (N := 22) (by omega) (rfl) rfl uin_X4 13 (by decide) mw_436 (v := .ref (h (12))) rfl dX4_start_29 ?_
      refine lv_iload_n hF.1 hF.2.1 dX4_start_32 rfl (lv_at hl 1 rfl) ?_
      refine z_zald hF hK hP (k := 12) (by decide) rfl 4 rfl (i := a) ((a).toNat) ((Int.toNat_of_nonneg (by omega)).symm) (by omega) (by decide) (x := iz (τ 14 (a).toNat)) rfl dX4_start_33 ?_
      have q_4 := GI_14 hG ((a).toNat)
      refine zi_if_eq (tgt := 46) hF.1 hF.2.1 (a := τ 14 (a).toNat) dX4_start_34 (by decide) (by omega) (fun c_34 => ?_) (fun c_34 => ?_)
      · skip
        refine zi_const hF.1 hF.2.1 dX4_start_46 ?_
        exact z_reti (P := fun z κ9 => κ9 1 0 = th1 τ a ∧ (th1 τ a = 0 → z = if τ 14 a.toNat = 0 then -1 else τ 8 a.toNat)) (z := -1) (u := u2 (κ) 1 0 (0)) (w := fun κ9 => mC c h τ κ9) hF hr hlocks hP hS (rfl) (⟨by have e9 : (u2 (κ) 1 0 (0)) 1 0 = (0 : Int) := rfl; show (u2 (κ) 1 0 (0)) 1 0 = _; rw [e9]; unfold th1; (repeat' split) <;> omega, fun q9 => by unfold th1 at q9; (repeat' split at q9) <;> (try (repeat' split)) <;> omega⟩) dX4_start_47
      · skip
        refine lv_aload_n hF.1 hF.2.1 dX4_start_37 rfl (lv_at hl 0 rfl) ?_
        refine z_get hF hK hP (k := 0) (C := RX4) (T := TX4) (N := 22) (by omega) (rfl) rfl uin_X4 7 (by decide) mw_429 (v := .ref (h (6))) rfl dX4_start_38 ?_
        refine lv_iload_n hF.1 hF.2.1 dX4_start_41 rfl (lv_at hl 1 rfl) ?_
        refine z_iald hF hK hP (k := 6) (by decide) rfl 0 rfl (i := a) ((a).toNat) ((Int.toNat_of_nonneg (by omega)).symm) (by omega) (by decide) (x := iz (τ 8 (a).toNat)) rfl dX4_start_42 ?_
        have q_5 := GI_8 hG ((a).toNat)
        refine lv_goto (tgt := 47) hF.1 hF.2.1 dX4_start_43 (by decide) ?_
        exact z_reti (P := fun z κ9 => κ9 1 0 = th1 τ a ∧ (th1 τ a = 0 → z = if τ 14 a.toNat = 0 then -1 else τ 8 a.toNat)) (z := τ 8 (a).toNat) (u := u2 (κ) 1 0 (0)) (w := fun κ9 => mC c h τ κ9) hF hr hlocks hP hS (rfl) (⟨by have e9 : (u2 (κ) 1 0 (0)) 1 0 = (0 : Int) := rfl; show (u2 (κ) 1 0 (0)) 1 0 = _; rw [e9]; unfold th1; (repeat' split) <;> omega, fun q9 => by unfold th1 at q9; (repeat' split at q9) <;> (try (repeat' split)) <;> omega⟩) dX4_start_47
    · skip
      exact absurd c_21 (by omega)
