def wD (its d : Int) : Int := if its = 0 then d + 20 else if its = 1 then d - 20 else d
def wL (its l : Int) : Int := if its = 2 then l + 5 else if its = 3 then l - 5 else l
def wC (its ch : Int) : Int := if its < 4 then ch else if ch = 31 then -1 else ch + 1
def grT (τ : Nat → Nat → Int) (n : Nat) (its : Int) : Nat → Nat → Int := u2 (u2 (u2 τ 11 n (max 0 (min (wD its (τ 11 n)) 200))) 12 n (max 0 (min (wL its (τ 12 n)) 200))) 13 n (wC its (τ 13 n))
def thG (τ : Nat → Nat → Int) (a : Int) : Int := if 0 ≤ a ∧ a ≤ τ 0 1 - 1 then (if τ 14 a.toNat = 0 then 2 else if wishOf (τ 0 4) < 0 then 2 else 0) else 1
theorem u2_3 {τ : Nat → Nat → Int} {n : Nat} {x y z : Int} : u2 (u2 (u2 (u2 (u2 (u2 τ 11 n x) 12 n y) 13 n z) 11 n (τ 11 n)) 12 n (τ 12 n)) 13 n (τ 13 n) = τ := by
  funext r i
  unfold u2
  by_cases h1 : r = 13
  · subst h1
    by_cases h : i = n
    · subst h; simp
    · simp [h]
  · by_cases h2 : r = 12
    · subst h2
      by_cases h : i = n
      · subst h; simp
      · simp [h]
    · by_cases h3 : r = 11
      · subst h3
        by_cases h : i = n
        · subst h; simp
        · simp [h]
      · simp [h1, h2, h3]

set_option maxRecDepth 100000 in
set_option maxHeartbeats 4000000 in
theorem c_X4_grant (l : Launch) (h : Nat → Nat) (D : va_G) (c : Nat → ClassId) (τ κ : Nat → Nat → Int) (hinj : ∀ i j, i < 17 → j < 17 → h i = h j → i = j) (hG : GI τ) (a : Int) (ha : -2147483648 ≤ a ∧ a ≤ 2147483647) (hwr : -2147483648 ≤ τ 0 4 ∧ τ 0 4 ≤ 2147483647) :
    zMi (S := (Nat → Nat → Int) × (Nat → Nat → Int)) l yX4_grant cX4_grant 7 (some .boolean) 4 94 [.ref (h (0)), .int (iz (a))] 17 h D (gT c) (mC c h (τ) (κ)) (fun u9 => mC c h u9.1 u9.2) (fun z u9 => MS τ (thG τ a) (grT τ a.toNat (wishOf (τ 0 4))) z u9.1 (u9.2 1 0)) := by
  refine zM_of (by decide) (Nat.le_of_ble_eq_true rfl) ?_
  intro p e s m below meth cd ls ⟨hF, hr, hlocks, hK⟩ hP hl
  have hz : zD (zA 17 h s.heap.size) 17 h := zD.self hinj s.heap.size
  have hA : ∀ q, s.heap.size ≤ q → zA 17 h s.heap.size q := zA_new
  generalize zA 17 h s.heap.size = A at hz hA ⊢
  have hS : va_S A s.heap s.heap [] := va_S.rf
  have hl : lv_has ls 7 [(0, .ref (h (0))), (1, .int (iz (a)))] := hl
  refine lv_aload_n hF.1 hF.2.1 dX4_grant_0 rfl (lv_at hl 0 rfl) ?_
  refine z_ci (S := Unit) (w := fun _ => mC c h τ κ) (P := fun z _ => z = wishOf (τ 0 4)) (z_runV (rm := { frames := 1, cells := 0, slots := 0, locals := 25 }) hF hK hP (c_X4_wish l h D c τ κ hinj hG (hwr) _) (gIn_V mw_523 mw_524 mw_525 mw_447 mw_519) rfl rfl ⟨rfl, by decide, by decide, rfl⟩ ⟨Nat.le_of_ble_eq_true rfl, Nat.le_of_ble_eq_true rfl⟩ (k := 0) (T := TX4) (N := 22) (by omega) rfl (rfl) rfl (As := []) (rest := []) rfl hl.1 rfl (Nat.le_of_ble_eq_true rfl) dX4_grant_1 ⟨Nat.le_refl _, Nat.le_refl _⟩) hz hA hS (fun z_1 u_2 H locs hp hP hS => ?_)
  obtain rfl : z_1 = wishOf (τ 0 4) := hp
  have q_3 := wishOf_rg (τ 0 4)
  refine lv_istore_n (lv' := [(2, .int (iz (wishOf (τ 0 4)))), (0, .ref (h (0))), (1, .int (iz (a)))]) hF.1 hF.2.1 dX4_grant_4 rfl hl (by decide) rfl (fun ls hl => ?_)
  refine lv_aload_n hF.1 hF.2.1 dX4_grant_5 rfl (lv_at hl 1 rfl) ?_
  refine lv_aload_n hF.1 hF.2.1 dX4_grant_6 rfl (lv_at hl 1 rfl) ?_
  refine lv_iload_n hF.1 hF.2.1 dX4_grant_7 rfl (lv_at hl 2 rfl) ?_
  refine z_ci (S := Unit) (w := fun _ => mC c h τ κ) (P := fun z _ => z = b2i (0 ≤ a ∧ a ≤ τ 0 1 - 1)) (z_runV (rm := { frames := 1, cells := 0, slots := 0, locals := 22 }) hF hK hP (c_X4_isAct l h D c τ κ hinj hG a (by omega) _) (gIn_V mw_503 mw_504 mw_505 mw_447 mw_502) rfl rfl ⟨rfl, by decide, by decide, rfl⟩ ⟨Nat.le_of_ble_eq_true rfl, Nat.le_of_ble_eq_true rfl⟩ (k := 0) (T := TX4) (N := 22) (by omega) rfl (rfl) rfl (As := [.int (iz (a))]) (rest := [.ref (h (0))]) rfl hl.1 rfl (Nat.le_of_ble_eq_true rfl) dX4_grant_8 ⟨Nat.le_refl _, Nat.le_refl _⟩) hz hA hS (fun z_4 u_5 H locs hp hP hS => ?_)
  obtain rfl : z_4 = b2i (0 ≤ a ∧ a ≤ τ 0 1 - 1) := hp
  have q_6 := GI_01 hG
  refine zi_ifb_ne (tgt := 18) hF.1 hF.2.1 (P := 0 ≤ a ∧ a ≤ τ 0 1 - 1) dX4_grant_11 (by decide) (fun c_11 => ?_) (fun c_11 => ?_)
  · skip
    refine lv_aload_n hF.1 hF.2.1 dX4_grant_18 rfl (lv_at hl 1 rfl) ?_
    refine z_get hF hK hP (k := 0) (C := RX4) (T := TX4) (N := 22) (by omega) (rfl) rfl uin_X4 13 (by decide) mw_436 (v := .ref (h (12))) rfl dX4_grant_19 ?_
    refine lv_iload_n hF.1 hF.2.1 dX4_grant_22 rfl (lv_at hl 2 rfl) ?_
    refine z_zald hF hK hP (k := 12) (by decide) rfl 4 rfl (i := a) ((a).toNat) ((Int.toNat_of_nonneg (by omega)).symm) (by omega) (by decide) (x := iz (τ 14 (a).toNat)) rfl dX4_grant_23 ?_
    have q_7 := GI_14 hG ((a).toNat)
    refine zi_if_eq (tgt := 35) hF.1 hF.2.1 (a := τ 14 (a).toNat) dX4_grant_24 (by decide) (by omega) (fun c_24 => ?_) (fun c_24 => ?_)
    · skip
      refine zi_const hF.1 hF.2.1 dX4_grant_35 ?_
      refine z_put hF hK hz hP hS (k := 0) (C := RX4) (T := TX4) (N := 22) (by omega) (rfl) rfl uin_X4 tyX4_ok nmX4 21 (by decide) mw_442 rfl (⟨rfl, rfl⟩) (by simp) (g' := mC c h (τ) (u2 (κ) 1 0 (2))) (rfl) (mC_t_o) dX4_grant_36 (fun H locs hP hS => ?_)
      refine lv_aload_n hF.1 hF.2.1 dX4_grant_39 rfl (lv_at hl 1 rfl) ?_
      refine z_get hF hK hP (k := 0) (C := RX4) (T := TX4) (N := 22) (by omega) (rfl) rfl uin_X4 21 (by decide) mw_442 (v := .int (iz (2))) rfl dX4_grant_40 ?_
      refine zi_if_le (tgt := 48) hF.1 hF.2.1 (a := 2) dX4_grant_43 (by decide) (by omega) (fun c_43 => ?_) (fun c_43 => ?_)
      · skip
        exact absurd c_43 (by omega)
      · skip
        refine zi_const hF.1 hF.2.1 dX4_grant_46 ?_
        exact z_reti (P := fun z u9 => MS τ (thG τ a) (grT τ a.toNat (wishOf (τ 0 4))) z u9.1 (u9.2 1 0)) (z := 0) (u := (τ, u2 (κ) 1 0 (2))) (w := fun u9 => mC c h u9.1 u9.2) hF hr hlocks hP hS ((iz_nar_z (by first | omega | exact b2i_rg)).1) (⟨by have e9 : (u2 (κ) 1 0 (2)) 1 0 = (2 : Int) := rfl; show (u2 (κ) 1 0 (2)) 1 0 = _; rw [e9]; unfold thG; (repeat' split) <;> omega, Or.inl ⟨by unfold thG; (repeat' split) <;> omega, rfl, rfl⟩, hG⟩) dX4_grant_47
    · skip
      refine lv_iload_n hF.1 hF.2.1 dX4_grant_27 rfl (lv_at hl 0 rfl) ?_
      refine zi_if_lt (tgt := 35) hF.1 hF.2.1 (a := wishOf (τ 0 4)) dX4_grant_28 (by decide) (by omega) (fun c_28 => ?_) (fun c_28 => ?_)
      · skip
        refine zi_const hF.1 hF.2.1 dX4_grant_35 ?_
        refine z_put hF hK hz hP hS (k := 0) (C := RX4) (T := TX4) (N := 22) (by omega) (rfl) rfl uin_X4 tyX4_ok nmX4 21 (by decide) mw_442 rfl (⟨rfl, rfl⟩) (by simp) (g' := mC c h (τ) (u2 (κ) 1 0 (2))) (rfl) (mC_t_o) dX4_grant_36 (fun H locs hP hS => ?_)
        refine lv_aload_n hF.1 hF.2.1 dX4_grant_39 rfl (lv_at hl 1 rfl) ?_
        refine z_get hF hK hP (k := 0) (C := RX4) (T := TX4) (N := 22) (by omega) (rfl) rfl uin_X4 21 (by decide) mw_442 (v := .int (iz (2))) rfl dX4_grant_40 ?_
        refine zi_if_le (tgt := 48) hF.1 hF.2.1 (a := 2) dX4_grant_43 (by decide) (by omega) (fun c_43 => ?_) (fun c_43 => ?_)
        · skip
          exact absurd c_43 (by omega)
        · skip
          refine zi_const hF.1 hF.2.1 dX4_grant_46 ?_
          exact z_reti (P := fun z u9 => MS τ (thG τ a) (grT τ a.toNat (wishOf (τ 0 4))) z u9.1 (u9.2 1 0)) (z := 0) (u := (τ, u2 (κ) 1 0 (2))) (w := fun u9 => mC c h u9.1 u9.2) hF hr hlocks hP hS ((iz_nar_z (by first | omega | exact b2i_rg)).1) (⟨by have e9 : (u2 (κ) 1 0 (2)) 1 0 = (2 : Int) := rfl; show (u2 (κ) 1 0 (2)) 1 0 = _; rw [e9]; unfold thG; (repeat' split) <;> omega, Or.inl ⟨by unfold thG; (repeat' split) <;> omega, rfl, rfl⟩, hG⟩) dX4_grant_47
      · skip
        refine zi_const hF.1 hF.2.1 dX4_grant_31 ?_
        refine lv_goto (tgt := 36) hF.1 hF.2.1 dX4_grant_32 (by decide) ?_
        refine z_put hF hK hz hP hS (k := 0) (C := RX4) (T := TX4) (N := 22) (by omega) (rfl) rfl uin_X4 tyX4_ok nmX4 21 (by decide) mw_442 rfl (⟨rfl, rfl⟩) (by simp) (g' := mC c h (τ) (u2 (κ) 1 0 (0))) (rfl) (mC_t_o) dX4_grant_36 (fun H locs hP hS => ?_)
        refine lv_aload_n hF.1 hF.2.1 dX4_grant_39 rfl (lv_at hl 1 rfl) ?_
        refine z_get hF hK hP (k := 0) (C := RX4) (T := TX4) (N := 22) (by omega) (rfl) rfl uin_X4 21 (by decide) mw_442 (v := .int (iz (0))) rfl dX4_grant_40 ?_
        refine zi_if_le (tgt := 48) hF.1 hF.2.1 (a := 0) dX4_grant_43 (by decide) (by omega) (fun c_43 => ?_) (fun c_43 => ?_)
        · skip
          refine lv_aload_n hF.1 hF.2.1 dX4_grant_48 rfl (lv_at hl 1 rfl) ?_
          refine z_get hF hK hP (k := 0) (C := RX4) (T := TX4) (N := 22) (by omega) (rfl) rfl uin_X4 10 (by decide) mw_432 (v := .ref (h (9))) rfl dX4_grant_49 ?_
          refine lv_iload_n hF.1 hF.2.1 dX4_grant_52 rfl (lv_at hl 2 rfl) ?_
          refine z_iald hF hK hP (k := 9) (by decide) rfl 0 rfl (i := a) ((a).toNat) ((Int.toNat_of_nonneg (by omega)).symm) (by omega) (by decide) (x := iz (τ 11 (a).toNat)) rfl dX4_grant_53 ?_
          have q_8 := GI_11 hG ((a).toNat)
          refine lv_istore_n (lv' := [(3, .int (iz (τ 11 (a).toNat))), (2, .int (iz (wishOf (τ 0 4)))), (0, .ref (h (0))), (1, .int (iz (a)))]) hF.1 hF.2.1 dX4_grant_54 rfl hl (by decide) rfl (fun ls hl => ?_)
          refine lv_aload_n hF.1 hF.2.1 dX4_grant_55 rfl (lv_at hl 2 rfl) ?_
          refine z_get hF hK hP (k := 0) (C := RX4) (T := TX4) (N := 22) (by omega) (rfl) rfl uin_X4 11 (by decide) mw_433 (v := .ref (h (10))) rfl dX4_grant_56 ?_
          refine lv_iload_n hF.1 hF.2.1 dX4_grant_59 rfl (lv_at hl 3 rfl) ?_
          refine z_iald hF hK hP (k := 10) (by decide) rfl 0 rfl (i := a) ((a).toNat) ((Int.toNat_of_nonneg (by omega)).symm) (by omega) (by decide) (x := iz (τ 12 (a).toNat)) rfl dX4_grant_60 ?_
          have q_9 := GI_12 hG ((a).toNat)
          refine lv_istore (lv' := [(4, .int (iz (τ 12 (a).toNat))), (3, .int (iz (τ 11 (a).toNat))), (2, .int (iz (wishOf (τ 0 4)))), (0, .ref (h (0))), (1, .int (iz (a)))]) hF.1 hF.2.1 dX4_grant_61 hl (by decide) rfl (fun ls hl => ?_)
          refine lv_aload_n hF.1 hF.2.1 dX4_grant_63 rfl (lv_at hl 3 rfl) ?_
          refine z_get hF hK hP (k := 0) (C := RX4) (T := TX4) (N := 22) (by omega) (rfl) rfl uin_X4 12 (by decide) mw_434 (v := .ref (h (11))) rfl dX4_grant_64 ?_
          refine lv_iload_n hF.1 hF.2.1 dX4_grant_67 rfl (lv_at hl 4 rfl) ?_
          refine z_iald hF hK hP (k := 11) (by decide) rfl 0 rfl (i := a) ((a).toNat) ((Int.toNat_of_nonneg (by omega)).symm) (by omega) (by decide) (x := iz (τ 13 (a).toNat)) rfl dX4_grant_68 ?_
          have q_10 := GI_13 hG ((a).toNat)
          refine lv_istore (lv' := [(5, .int (iz (τ 13 (a).toNat))), (4, .int (iz (τ 12 (a).toNat))), (3, .int (iz (τ 11 (a).toNat))), (2, .int (iz (wishOf (τ 0 4)))), (0, .ref (h (0))), (1, .int (iz (a)))]) hF.1 hF.2.1 dX4_grant_69 hl (by decide) rfl (fun ls hl => ?_)
          refine lv_aload_n hF.1 hF.2.1 dX4_grant_71 rfl (lv_at hl 4 rfl) ?_
          refine z_get hF hK hP (k := 0) (C := RX4) (T := TX4) (N := 22) (by omega) (rfl) rfl uin_X4 10 (by decide) mw_432 (v := .ref (h (9))) rfl dX4_grant_72 ?_
          refine lv_iload_n hF.1 hF.2.1 dX4_grant_75 rfl (lv_at hl 5 rfl) ?_
          refine z_join (n := 17) (h := h) (D := D) (A := A) (V := Int) (tgt := 100) (nL := 7) (wd := fun v_11 => mC c h (τ) (u2 (κ) 1 0 (0))) (lv := fun v_11 => [(0, .ref (h (0))), (1, .int (iz (a))), (2, .int (iz (wishOf (τ 0 4)))), (3, .int (iz (τ 11 (a).toNat))), (4, .int (iz (τ 12 (a).toNat))), (5, .int (iz (τ 13 (a).toNat)))]) (stk := fun v_11 => [.int (iz (v_11)), .int (iz (a)), .ref (h (9))]) (inv := fun v_11 => ((v_11 : Int) = wD (wishOf (τ 0 4)) (τ 11 (a).toNat))) ?_ (fun jn_100 => ?_)
          · skip
            intro v hv H locs ls hP hS hl
            have hP : zB 17 h D (mC c h (τ) (u2 (κ) 1 0 (0))) H := hP
            have hl : lv_has ls 7 [(0, .ref (h (0))), (1, .int (iz (a))), (2, .int (iz (wishOf (τ 0 4)))), (3, .int (iz (τ 11 (a).toNat))), (4, .int (iz (τ 12 (a).toNat))), (5, .int (iz (τ 13 (a).toNat)))] := hl
            have hvq : (v : Int) = wD (wishOf (τ 0 4)) (τ 11 (a).toNat) := hv
            obtain rfl : v = wD (wishOf (τ 0 4)) (τ 11 (a).toNat) := hvq
            have q91 := GI_11 hG (a).toNat
            have q92 := GI_12 hG (a).toNat
            have q93 := GI_13 hG (a).toNat
            have q94 := GI_01 hG
            have q95 := wishOf_rg (τ 0 4)
            have q96 : -20 ≤ wD (wishOf (τ 0 4)) (τ 11 (a).toNat) ∧ wD (wishOf (τ 0 4)) (τ 11 (a).toNat) ≤ 220 := by unfold wD; (repeat' split) <;> omega
            refine z_ci (S := Unit) (w := fun _ => mC c h τ (u2 (κ) 1 0 (0))) (P := fun z _ => z = max 0 (min (wD (wishOf (τ 0 4)) (τ 11 (a).toNat)) 200)) (z_runS (rm := { frames := 0, cells := 0, slots := 0, locals := 0 }) hF hK hP (c_X4_bounded l h D c τ (u2 (κ) 1 0 (0)) hinj hG (wD (wishOf (τ 0 4)) (τ 11 (a).toNat)) (by omega) _) (gIn_S mw_526 mw_527 mw_447 mw_522) rfl rfl ⟨rfl, by decide, by decide, rfl⟩ ⟨Nat.le_of_ble_eq_true rfl, Nat.le_of_ble_eq_true rfl⟩ (As := [.int (iz (wD (wishOf (τ 0 4)) (τ 11 (a).toNat)))]) (rest := [.int (iz (a)), .ref (h (9))]) rfl hl.1 rfl (Nat.le_of_ble_eq_true rfl) dX4_grant_100 ⟨Nat.le_refl _, Nat.le_refl _⟩) hz hA hS (fun z_12 u_13 H locs hp hP hS => ?_)
            obtain rfl : z_12 = max 0 (min (wD (wishOf (τ 0 4)) (τ 11 (a).toNat)) 200) := hp
            refine z_iast hF hK hz hP hS (k := 9) (by decide) rfl 0 rfl (i := a) ((a).toNat) ((Int.toNat_of_nonneg (by omega)).symm) (by omega) (by decide) (x := iz (max 0 (min (wD (wishOf (τ 0 4)) (τ 11 (a).toNat)) 200))) (g' := mC c h (u2 (τ) 11 ((a).toNat) (max 0 (min (wD (wishOf (τ 0 4)) (τ 11 (a).toNat)) 200))) (u2 (κ) 1 0 (0))) (by show Sum.inl (_, _, Sum.inl _) = _; rw [u2_up]) (mC_row_o (a := 9) ⟨by decide, by decide⟩) dX4_grant_103 (fun H locs hP hS => ?_)
            have hG_14 := GI_u11 hG (v := max 0 (min (wD (wishOf (τ 0 4)) (τ 11 (a).toNat)) 200)) (k := (a).toNat) (by omega)
            refine lv_aload_n hF.1 hF.2.1 dX4_grant_104 rfl (lv_at hl 0 rfl) ?_
            refine z_get hF hK hP (k := 0) (C := RX4) (T := TX4) (N := 22) (by omega) (rfl) rfl uin_X4 11 (by decide) mw_433 (v := .ref (h (10))) rfl dX4_grant_105 ?_
            refine lv_iload_n hF.1 hF.2.1 dX4_grant_108 rfl (lv_at hl 1 rfl) ?_
            refine z_join (n := 17) (h := h) (D := D) (A := A) (V := Int) (tgt := 135) (nL := 7) (wd := fun v_15 => mC c h (u2 (τ) 11 ((a).toNat) (max 0 (min (wD (wishOf (τ 0 4)) (τ 11 (a).toNat)) 200))) (u2 (κ) 1 0 (0))) (lv := fun v_15 => [(0, .ref (h (0))), (1, .int (iz (a))), (2, .int (iz (wishOf (τ 0 4)))), (3, .int (iz (τ 11 (a).toNat))), (4, .int (iz (τ 12 (a).toNat))), (5, .int (iz (τ 13 (a).toNat)))]) (stk := fun v_15 => [.int (iz (v_15)), .int (iz (a)), .ref (h (10))]) (inv := fun v_15 => ((v_15 : Int) = wL (wishOf (τ 0 4)) (τ 12 (a).toNat))) ?_ (fun jn_135 => ?_)
            · skip
              intro v hv H locs ls hP hS hl
              have hP : zB 17 h D (mC c h (u2 (τ) 11 ((a).toNat) (max 0 (min (wD (wishOf (τ 0 4)) (τ 11 (a).toNat)) 200))) (u2 (κ) 1 0 (0))) H := hP
              have hl : lv_has ls 7 [(0, .ref (h (0))), (1, .int (iz (a))), (2, .int (iz (wishOf (τ 0 4)))), (3, .int (iz (τ 11 (a).toNat))), (4, .int (iz (τ 12 (a).toNat))), (5, .int (iz (τ 13 (a).toNat)))] := hl
              have hvq : (v : Int) = wL (wishOf (τ 0 4)) (τ 12 (a).toNat) := hv
              obtain rfl : v = wL (wishOf (τ 0 4)) (τ 12 (a).toNat) := hvq
              have q97 : -5 ≤ wL (wishOf (τ 0 4)) (τ 12 (a).toNat) ∧ wL (wishOf (τ 0 4)) (τ 12 (a).toNat) ≤ 205 := by unfold wL; (repeat' split) <;> omega
              refine z_ci (S := Unit) (w := fun _ => mC c h (u2 (τ) 11 ((a).toNat) (max 0 (min (wD (wishOf (τ 0 4)) (τ 11 (a).toNat)) 200))) (u2 (κ) 1 0 (0))) (P := fun z _ => z = max 0 (min (wL (wishOf (τ 0 4)) (τ 12 (a).toNat)) 200)) (z_runS (rm := { frames := 0, cells := 0, slots := 0, locals := 0 }) hF hK hP (c_X4_bounded l h D c (u2 (τ) 11 ((a).toNat) (max 0 (min (wD (wishOf (τ 0 4)) (τ 11 (a).toNat)) 200))) (u2 (κ) 1 0 (0)) hinj hG_14 (wL (wishOf (τ 0 4)) (τ 12 (a).toNat)) (by omega) _) (gIn_S mw_526 mw_527 mw_447 mw_522) rfl rfl ⟨rfl, by decide, by decide, rfl⟩ ⟨Nat.le_of_ble_eq_true rfl, Nat.le_of_ble_eq_true rfl⟩ (As := [.int (iz (wL (wishOf (τ 0 4)) (τ 12 (a).toNat)))]) (rest := [.int (iz (a)), .ref (h (10))]) rfl hl.1 rfl (Nat.le_of_ble_eq_true rfl) dX4_grant_135 ⟨Nat.le_refl _, Nat.le_refl _⟩) hz hA hS (fun z_16 u_17 H locs hp hP hS => ?_)
              obtain rfl : z_16 = max 0 (min (wL (wishOf (τ 0 4)) (τ 12 (a).toNat)) 200) := hp
              refine z_iast hF hK hz hP hS (k := 10) (by decide) rfl 0 rfl (i := a) ((a).toNat) ((Int.toNat_of_nonneg (by omega)).symm) (by omega) (by decide) (x := iz (max 0 (min (wL (wishOf (τ 0 4)) (τ 12 (a).toNat)) 200))) (g' := mC c h (u2 (u2 (τ) 11 ((a).toNat) (max 0 (min (wD (wishOf (τ 0 4)) (τ 11 (a).toNat)) 200))) 12 ((a).toNat) (max 0 (min (wL (wishOf (τ 0 4)) (τ 12 (a).toNat)) 200))) (u2 (κ) 1 0 (0))) (by show Sum.inl (_, _, Sum.inl _) = _; rw [u2_up]) (mC_row_o (a := 10) ⟨by decide, by decide⟩) dX4_grant_138 (fun H locs hP hS => ?_)
              have hG_18 := GI_u12 hG_14 (v := max 0 (min (wL (wishOf (τ 0 4)) (τ 12 (a).toNat)) 200)) (k := (a).toNat) (by omega)
              refine lv_aload_n hF.1 hF.2.1 dX4_grant_139 rfl (lv_at hl 0 rfl) ?_
              refine z_get hF hK hP (k := 0) (C := RX4) (T := TX4) (N := 22) (by omega) (rfl) rfl uin_X4 12 (by decide) mw_434 (v := .ref (h (11))) rfl dX4_grant_140 ?_
              refine lv_iload_n hF.1 hF.2.1 dX4_grant_143 rfl (lv_at hl 1 rfl) ?_
              refine z_join (n := 17) (h := h) (D := D) (A := A) (V := Int) (tgt := 169) (nL := 7) (wd := fun v_19 => mC c h (u2 (u2 (τ) 11 ((a).toNat) (max 0 (min (wD (wishOf (τ 0 4)) (τ 11 (a).toNat)) 200))) 12 ((a).toNat) (max 0 (min (wL (wishOf (τ 0 4)) (τ 12 (a).toNat)) 200))) (u2 (κ) 1 0 (0))) (lv := fun v_19 => [(0, .ref (h (0))), (1, .int (iz (a))), (2, .int (iz (wishOf (τ 0 4)))), (3, .int (iz (τ 11 (a).toNat))), (4, .int (iz (τ 12 (a).toNat))), (5, .int (iz (τ 13 (a).toNat)))]) (stk := fun v_19 => [.int (iz (v_19)), .int (iz (a)), .ref (h (11))]) (inv := fun v_19 => ((v_19 : Int) = wC (wishOf (τ 0 4)) (τ 13 (a).toNat))) ?_ (fun jn_169 => ?_)
              · skip
                intro v hv H locs ls hP hS hl
                have hP : zB 17 h D (mC c h (u2 (u2 (τ) 11 ((a).toNat) (max 0 (min (wD (wishOf (τ 0 4)) (τ 11 (a).toNat)) 200))) 12 ((a).toNat) (max 0 (min (wL (wishOf (τ 0 4)) (τ 12 (a).toNat)) 200))) (u2 (κ) 1 0 (0))) H := hP
                have hl : lv_has ls 7 [(0, .ref (h (0))), (1, .int (iz (a))), (2, .int (iz (wishOf (τ 0 4)))), (3, .int (iz (τ 11 (a).toNat))), (4, .int (iz (τ 12 (a).toNat))), (5, .int (iz (τ 13 (a).toNat)))] := hl
                have hvq : (v : Int) = wC (wishOf (τ 0 4)) (τ 13 (a).toNat) := hv
                obtain rfl : v = wC (wishOf (τ 0 4)) (τ 13 (a).toNat) := hvq
                have q98 : -1 ≤ wC (wishOf (τ 0 4)) (τ 13 (a).toNat) ∧ wC (wishOf (τ 0 4)) (τ 13 (a).toNat) ≤ 31 := by unfold wC; (repeat' split) <;> omega
                refine z_iast hF hK hz hP hS (k := 11) (by decide) rfl 0 rfl (i := a) ((a).toNat) ((Int.toNat_of_nonneg (by omega)).symm) (by omega) (by decide) (x := iz (wC (wishOf (τ 0 4)) (τ 13 (a).toNat))) (g' := mC c h (u2 (u2 (u2 (τ) 11 ((a).toNat) (max 0 (min (wD (wishOf (τ 0 4)) (τ 11 (a).toNat)) 200))) 12 ((a).toNat) (max 0 (min (wL (wishOf (τ 0 4)) (τ 12 (a).toNat)) 200))) 13 ((a).toNat) (wC (wishOf (τ 0 4)) (τ 13 (a).toNat))) (u2 (κ) 1 0 (0))) (by show Sum.inl (_, _, Sum.inl _) = _; rw [u2_up]) (mC_row_o (a := 11) ⟨by decide, by decide⟩) dX4_grant_169 (fun H locs hP hS => ?_)
                have hG_20 := GI_u13 hG_18 (v := wC (wishOf (τ 0 4)) (τ 13 (a).toNat)) (k := (a).toNat) (by omega)
                refine lv_aload_n hF.1 hF.2.1 dX4_grant_170 rfl (lv_at hl 0 rfl) ?_
                refine z_ci (S := Nat → Nat → Int) (w := fun κ9 => mC c h (u2 (u2 (u2 (τ) 11 ((a).toNat) (max 0 (min (wD (wishOf (τ 0 4)) (τ 11 (a).toNat)) 200))) 12 ((a).toNat) (max 0 (min (wL (wishOf (τ 0 4)) (τ 12 (a).toNat)) 200))) 13 ((a).toNat) (wC (wishOf (τ 0 4)) (τ 13 (a).toNat))) κ9) (P := fun z κ9 => z = wrg (u2 (u2 (u2 (τ) 11 ((a).toNat) (max 0 (min (wD (wishOf (τ 0 4)) (τ 11 (a).toNat)) 200))) 12 ((a).toNat) (max 0 (min (wL (wishOf (τ 0 4)) (τ 12 (a).toNat)) 200))) 13 ((a).toNat) (wC (wishOf (τ 0 4)) (τ 13 (a).toNat))) ∧ κ9 1 = (u2 (κ) 1 0 (0)) 1) (z_runV (rm := { frames := 3, cells := 0, slots := 0, locals := 71 }) hF hK hP (c_X4_wrong l h D c (u2 (u2 (u2 (τ) 11 ((a).toNat) (max 0 (min (wD (wishOf (τ 0 4)) (τ 11 (a).toNat)) 200))) 12 ((a).toNat) (max 0 (min (wL (wishOf (τ 0 4)) (τ 12 (a).toNat)) 200))) 13 ((a).toNat) (wC (wishOf (τ 0 4)) (τ 13 (a).toNat))) (u2 (κ) 1 0 (0)) hinj hG_20  _) (gIn_V mw_489 mw_490 mw_491 mw_447 mw_483) rfl rfl ⟨rfl, by decide, by decide, rfl⟩ ⟨Nat.le_of_ble_eq_true rfl, Nat.le_of_ble_eq_true rfl⟩ (k := 0) (T := TX4) (N := 22) (by omega) rfl (rfl) rfl (As := []) (rest := []) rfl hl.1 rfl (Nat.le_of_ble_eq_true rfl) dX4_grant_171 ⟨Nat.le_refl _, Nat.le_refl _⟩) hz hA hS (fun z_21 u_22 H locs hp hP hS => ?_)
                obtain ⟨rfl, hku_22⟩ : z_21 = wrg (u2 (u2 (u2 (τ) 11 ((a).toNat) (max 0 (min (wD (wishOf (τ 0 4)) (τ 11 (a).toNat)) 200))) 12 ((a).toNat) (max 0 (min (wL (wishOf (τ 0 4)) (τ 12 (a).toNat)) 200))) 13 ((a).toNat) (wC (wishOf (τ 0 4)) (τ 13 (a).toNat))) ∧ u_22 1 = (u2 (κ) 1 0 (0)) 1 := hp
                have hP : zB 17 h D (mC c h (u2 (u2 (u2 (τ) 11 ((a).toNat) (max 0 (min (wD (wishOf (τ 0 4)) (τ 11 (a).toNat)) 200))) 12 ((a).toNat) (max 0 (min (wL (wishOf (τ 0 4)) (τ 12 (a).toNat)) 200))) 13 ((a).toNat) (wC (wishOf (τ 0 4)) (τ 13 (a).toNat))) (u_22)) H := hP
                have q_23 := @wrg_rg (u2 (u2 (u2 (τ) 11 ((a).toNat) (max 0 (min (wD (wishOf (τ 0 4)) (τ 11 (a).toNat)) 200))) 12 ((a).toNat) (max 0 (min (wL (wishOf (τ 0 4)) (τ 12 (a).toNat)) 200))) 13 ((a).toNat) (wC (wishOf (τ 0 4)) (τ 13 (a).toNat)))
                refine zi_if_ne (tgt := 181) hF.1 hF.2.1 (a := wrg (u2 (u2 (u2 (τ) 11 ((a).toNat) (max 0 (min (wD (wishOf (τ 0 4)) (τ 11 (a).toNat)) 200))) 12 ((a).toNat) (max 0 (min (wL (wishOf (τ 0 4)) (τ 12 (a).toNat)) 200))) 13 ((a).toNat) (wC (wishOf (τ 0 4)) (τ 13 (a).toNat)))) dX4_grant_174 (by decide) (by omega) (fun c_174 => ?_) (fun c_174 => ?_)
                · skip
                  refine zi_const hF.1 hF.2.1 dX4_grant_181 ?_
                  refine lv_istore (lv' := [(6, .int (iz (0))), (0, .ref (h (0))), (1, .int (iz (a))), (2, .int (iz (wishOf (τ 0 4)))), (3, .int (iz (τ 11 (a).toNat))), (4, .int (iz (τ 12 (a).toNat))), (5, .int (iz (τ 13 (a).toNat)))]) hF.1 hF.2.1 dX4_grant_182 hl (by decide) rfl (fun ls hl => ?_)
                  refine lv_iload hF.1 hF.2.1 dX4_grant_184 (lv_at hl 0 rfl) ?_
                  refine zi_if_ne (tgt := 212) hF.1 hF.2.1 (a := 0) dX4_grant_186 (by decide) (by omega) (fun c_186 => ?_) (fun c_186 => ?_)
                  · skip
                    exact absurd c_186 (by omega)
                  · skip
                    refine lv_aload_n hF.1 hF.2.1 dX4_grant_189 rfl (lv_at hl 1 rfl) ?_
                    refine z_get hF hK hP (k := 0) (C := RX4) (T := TX4) (N := 22) (by omega) (rfl) rfl uin_X4 10 (by decide) mw_432 (v := .ref (h (9))) rfl dX4_grant_190 ?_
                    refine lv_iload_n hF.1 hF.2.1 dX4_grant_193 rfl (lv_at hl 2 rfl) ?_
                    refine lv_iload_n hF.1 hF.2.1 dX4_grant_194 rfl (lv_at hl 4 rfl) ?_
                    refine z_iast hF hK hz hP hS (k := 9) (by decide) rfl 0 rfl (i := a) ((a).toNat) ((Int.toNat_of_nonneg (by omega)).symm) (by omega) (by decide) (x := iz (τ 11 (a).toNat)) (g' := mC c h (u2 (u2 (u2 (u2 (τ) 11 ((a).toNat) (max 0 (min (wD (wishOf (τ 0 4)) (τ 11 (a).toNat)) 200))) 12 ((a).toNat) (max 0 (min (wL (wishOf (τ 0 4)) (τ 12 (a).toNat)) 200))) 13 ((a).toNat) (wC (wishOf (τ 0 4)) (τ 13 (a).toNat))) 11 ((a).toNat) (τ 11 (a).toNat)) (u_22)) (by show Sum.inl (_, _, Sum.inl _) = _; rw [u2_up]) (mC_row_o (a := 9) ⟨by decide, by decide⟩) dX4_grant_195 (fun H locs hP hS => ?_)
                    have hG_24 := GI_u11 hG_20 (v := τ 11 (a).toNat) (k := (a).toNat) (by omega)
                    refine lv_aload_n hF.1 hF.2.1 dX4_grant_196 rfl (lv_at hl 1 rfl) ?_
                    refine z_get hF hK hP (k := 0) (C := RX4) (T := TX4) (N := 22) (by omega) (rfl) rfl uin_X4 11 (by decide) mw_433 (v := .ref (h (10))) rfl dX4_grant_197 ?_
                    refine lv_iload_n hF.1 hF.2.1 dX4_grant_200 rfl (lv_at hl 2 rfl) ?_
                    refine lv_iload hF.1 hF.2.1 dX4_grant_201 (lv_at hl 5 rfl) ?_
                    refine z_iast hF hK hz hP hS (k := 10) (by decide) rfl 0 rfl (i := a) ((a).toNat) ((Int.toNat_of_nonneg (by omega)).symm) (by omega) (by decide) (x := iz (τ 12 (a).toNat)) (g' := mC c h (u2 (u2 (u2 (u2 (u2 (τ) 11 ((a).toNat) (max 0 (min (wD (wishOf (τ 0 4)) (τ 11 (a).toNat)) 200))) 12 ((a).toNat) (max 0 (min (wL (wishOf (τ 0 4)) (τ 12 (a).toNat)) 200))) 13 ((a).toNat) (wC (wishOf (τ 0 4)) (τ 13 (a).toNat))) 11 ((a).toNat) (τ 11 (a).toNat)) 12 ((a).toNat) (τ 12 (a).toNat)) (u_22)) (by show Sum.inl (_, _, Sum.inl _) = _; rw [u2_up]) (mC_row_o (a := 10) ⟨by decide, by decide⟩) dX4_grant_203 (fun H locs hP hS => ?_)
                    have hG_25 := GI_u12 hG_24 (v := τ 12 (a).toNat) (k := (a).toNat) (by omega)
                    refine lv_aload_n hF.1 hF.2.1 dX4_grant_204 rfl (lv_at hl 1 rfl) ?_
                    refine z_get hF hK hP (k := 0) (C := RX4) (T := TX4) (N := 22) (by omega) (rfl) rfl uin_X4 12 (by decide) mw_434 (v := .ref (h (11))) rfl dX4_grant_205 ?_
                    refine lv_iload_n hF.1 hF.2.1 dX4_grant_208 rfl (lv_at hl 2 rfl) ?_
                    refine lv_iload hF.1 hF.2.1 dX4_grant_209 (lv_at hl 6 rfl) ?_
                    refine z_iast hF hK hz hP hS (k := 11) (by decide) rfl 0 rfl (i := a) ((a).toNat) ((Int.toNat_of_nonneg (by omega)).symm) (by omega) (by decide) (x := iz (τ 13 (a).toNat)) (g' := mC c h (u2 (u2 (u2 (u2 (u2 (u2 (τ) 11 ((a).toNat) (max 0 (min (wD (wishOf (τ 0 4)) (τ 11 (a).toNat)) 200))) 12 ((a).toNat) (max 0 (min (wL (wishOf (τ 0 4)) (τ 12 (a).toNat)) 200))) 13 ((a).toNat) (wC (wishOf (τ 0 4)) (τ 13 (a).toNat))) 11 ((a).toNat) (τ 11 (a).toNat)) 12 ((a).toNat) (τ 12 (a).toNat)) 13 ((a).toNat) (τ 13 (a).toNat)) (u_22)) (by show Sum.inl (_, _, Sum.inl _) = _; rw [u2_up]) (mC_row_o (a := 11) ⟨by decide, by decide⟩) dX4_grant_211 (fun H locs hP hS => ?_)
                    have hG_26 := GI_u13 hG_25 (v := τ 13 (a).toNat) (k := (a).toNat) (by omega)
                    refine lv_iload hF.1 hF.2.1 dX4_grant_212 (lv_at hl 0 rfl) ?_
                    exact z_reti (P := fun z u9 => MS τ (thG τ a) (grT τ a.toNat (wishOf (τ 0 4))) z u9.1 (u9.2 1 0)) (z := 0) (u := (u2 (u2 (u2 (u2 (u2 (u2 (τ) 11 ((a).toNat) (max 0 (min (wD (wishOf (τ 0 4)) (τ 11 (a).toNat)) 200))) 12 ((a).toNat) (max 0 (min (wL (wishOf (τ 0 4)) (τ 12 (a).toNat)) 200))) 13 ((a).toNat) (wC (wishOf (τ 0 4)) (τ 13 (a).toNat))) 11 ((a).toNat) (τ 11 (a).toNat)) 12 ((a).toNat) (τ 12 (a).toNat)) 13 ((a).toNat) (τ 13 (a).toNat), u_22)) (w := fun u9 => mC c h u9.1 u9.2) hF hr hlocks hP hS ((iz_nar_z (by first | omega | exact b2i_rg)).1) (⟨by have e9 : (u_22) 1 0 = (0 : Int) := (by rw [hku_22]; rfl); show (u_22) 1 0 = _; rw [e9]; unfold thG; (repeat' split) <;> omega, Or.inr ⟨by unfold thG; (repeat' split) <;> omega, Or.inr ⟨by unfold grT; omega, rfl, u2_3⟩⟩, hG_26⟩) dX4_grant_214
                · skip
                  refine zi_const hF.1 hF.2.1 dX4_grant_177 ?_
                  refine lv_goto (tgt := 182) hF.1 hF.2.1 dX4_grant_178 (by decide) ?_
                  refine lv_istore (lv' := [(6, .int (iz (1))), (0, .ref (h (0))), (1, .int (iz (a))), (2, .int (iz (wishOf (τ 0 4)))), (3, .int (iz (τ 11 (a).toNat))), (4, .int (iz (τ 12 (a).toNat))), (5, .int (iz (τ 13 (a).toNat)))]) hF.1 hF.2.1 dX4_grant_182 hl (by decide) rfl (fun ls hl => ?_)
                  refine lv_iload hF.1 hF.2.1 dX4_grant_184 (lv_at hl 0 rfl) ?_
                  refine zi_if_ne (tgt := 212) hF.1 hF.2.1 (a := 1) dX4_grant_186 (by decide) (by omega) (fun c_186 => ?_) (fun c_186 => ?_)
                  · skip
                    refine lv_iload hF.1 hF.2.1 dX4_grant_212 (lv_at hl 0 rfl) ?_
                    exact z_reti (P := fun z u9 => MS τ (thG τ a) (grT τ a.toNat (wishOf (τ 0 4))) z u9.1 (u9.2 1 0)) (z := 1) (u := (u2 (u2 (u2 (τ) 11 ((a).toNat) (max 0 (min (wD (wishOf (τ 0 4)) (τ 11 (a).toNat)) 200))) 12 ((a).toNat) (max 0 (min (wL (wishOf (τ 0 4)) (τ 12 (a).toNat)) 200))) 13 ((a).toNat) (wC (wishOf (τ 0 4)) (τ 13 (a).toNat)), u_22)) (w := fun u9 => mC c h u9.1 u9.2) hF hr hlocks hP hS ((iz_nar_z (by first | omega | exact b2i_rg)).1) (⟨by have e9 : (u_22) 1 0 = (0 : Int) := (by rw [hku_22]; rfl); show (u_22) 1 0 = _; rw [e9]; unfold thG; (repeat' split) <;> omega, Or.inr ⟨by unfold thG; (repeat' split) <;> omega, Or.inl ⟨by unfold grT; omega, rfl, rfl⟩⟩, hG_20⟩) dX4_grant_214
                  · skip
                    exact absurd c_186 (by omega)
              · skip
                refine lv_iload_n hF.1 hF.2.1 dX4_grant_144 rfl (lv_at hl 2 rfl) ?_
                refine zi_const hF.1 hF.2.1 dX4_grant_145 ?_
                refine zi_icmp_ge (tgt := 154) hF.1 hF.2.1 (a := wishOf (τ 0 4)) (b := 4) dX4_grant_146 (by decide) (by omega) (by omega) (fun c_146 => ?_) (fun c_146 => ?_)
                · skip
                  refine lv_iload hF.1 hF.2.1 dX4_grant_154 (lv_at hl 5 rfl) ?_
                  refine zi_bipush hF.1 hF.2.1 dX4_grant_156 (by decide) ?_
                  refine zi_icmp_ne (tgt := 165) hF.1 hF.2.1 (a := τ 13 (a).toNat) (b := 31) dX4_grant_158 (by decide) (by omega) (by omega) (fun c_158 => ?_) (fun c_158 => ?_)
                  · skip
                    refine lv_iload hF.1 hF.2.1 dX4_grant_165 (lv_at hl 5 rfl) ?_
                    refine zi_const hF.1 hF.2.1 dX4_grant_167 ?_
                    refine zi_add hF.1 hF.2.1 dX4_grant_168 ?_
                    have nv_27 : (((((τ 13 (a).toNat) + 1)) : Int) = wC (wishOf (τ 0 4)) (τ 13 (a).toNat)) := (by unfold wC; (repeat' split) <;> omega)
                    exact jn_169 ((τ 13 (a).toNat) + 1) nv_27 _ _ _ hP hS (lv_sub hl [0, 1, 2, 3, 4, 5] rfl)
                  · skip
                    refine zi_const hF.1 hF.2.1 dX4_grant_161 ?_
                    refine lv_goto (tgt := 169) hF.1 hF.2.1 dX4_grant_162 (by decide) ?_
                    have nv_28 : ((((-1)) : Int) = wC (wishOf (τ 0 4)) (τ 13 (a).toNat)) := (by unfold wC; (repeat' split) <;> omega)
                    exact jn_169 (-1) nv_28 _ _ _ hP hS (lv_sub hl [0, 1, 2, 3, 4, 5] rfl)
                · skip
                  refine lv_iload hF.1 hF.2.1 dX4_grant_149 (lv_at hl 5 rfl) ?_
                  refine lv_goto (tgt := 169) hF.1 hF.2.1 dX4_grant_151 (by decide) ?_
                  have nv_29 : ((((τ 13 (a).toNat)) : Int) = wC (wishOf (τ 0 4)) (τ 13 (a).toNat)) := (by unfold wC; (repeat' split) <;> omega)
                  exact jn_169 (τ 13 (a).toNat) nv_29 _ _ _ hP hS (lv_sub hl [0, 1, 2, 3, 4, 5] rfl)
            · skip
              refine lv_iload_n hF.1 hF.2.1 dX4_grant_109 rfl (lv_at hl 2 rfl) ?_
              refine zi_const hF.1 hF.2.1 dX4_grant_110 ?_
              refine zi_icmp_ne (tgt := 121) hF.1 hF.2.1 (a := wishOf (τ 0 4)) (b := 2) dX4_grant_111 (by decide) (by omega) (by omega) (fun c_111 => ?_) (fun c_111 => ?_)
              · skip
                refine lv_iload_n hF.1 hF.2.1 dX4_grant_121 rfl (lv_at hl 2 rfl) ?_
                refine zi_const hF.1 hF.2.1 dX4_grant_122 ?_
                refine zi_icmp_ne (tgt := 133) hF.1 hF.2.1 (a := wishOf (τ 0 4)) (b := 3) dX4_grant_123 (by decide) (by omega) (by omega) (fun c_123 => ?_) (fun c_123 => ?_)
                · skip
                  refine lv_iload hF.1 hF.2.1 dX4_grant_133 (lv_at hl 4 rfl) ?_
                  have nv_30 : ((((τ 12 (a).toNat)) : Int) = wL (wishOf (τ 0 4)) (τ 12 (a).toNat)) := (by unfold wL; (repeat' split) <;> omega)
                  exact jn_135 (τ 12 (a).toNat) nv_30 _ _ _ hP hS (lv_sub hl [0, 1, 2, 3, 4, 5] rfl)
                · skip
                  refine lv_iload hF.1 hF.2.1 dX4_grant_126 (lv_at hl 4 rfl) ?_
                  refine zi_const hF.1 hF.2.1 dX4_grant_128 ?_
                  refine zi_sub hF.1 hF.2.1 dX4_grant_129 ?_
                  refine lv_goto (tgt := 135) hF.1 hF.2.1 dX4_grant_130 (by decide) ?_
                  have nv_31 : (((((τ 12 (a).toNat) - 5)) : Int) = wL (wishOf (τ 0 4)) (τ 12 (a).toNat)) := (by unfold wL; (repeat' split) <;> omega)
                  exact jn_135 ((τ 12 (a).toNat) - 5) nv_31 _ _ _ hP hS (lv_sub hl [0, 1, 2, 3, 4, 5] rfl)
              · skip
                refine lv_iload hF.1 hF.2.1 dX4_grant_114 (lv_at hl 4 rfl) ?_
                refine zi_const hF.1 hF.2.1 dX4_grant_116 ?_
                refine zi_add hF.1 hF.2.1 dX4_grant_117 ?_
                refine lv_goto (tgt := 135) hF.1 hF.2.1 dX4_grant_118 (by decide) ?_
                have nv_32 : (((((τ 12 (a).toNat) + 5)) : Int) = wL (wishOf (τ 0 4)) (τ 12 (a).toNat)) := (by unfold wL; (repeat' split) <;> omega)
                exact jn_135 ((τ 12 (a).toNat) + 5) nv_32 _ _ _ hP hS (lv_sub hl [0, 1, 2, 3, 4, 5] rfl)
          · skip
            refine lv_iload_n hF.1 hF.2.1 dX4_grant_76 rfl (lv_at hl 3 rfl) ?_
            refine zi_if_ne (tgt := 87) hF.1 hF.2.1 (a := wishOf (τ 0 4)) dX4_grant_77 (by decide) (by omega) (fun c_77 => ?_) (fun c_77 => ?_)
            · skip
              refine lv_iload_n hF.1 hF.2.1 dX4_grant_87 rfl (lv_at hl 3 rfl) ?_
              refine zi_const hF.1 hF.2.1 dX4_grant_88 ?_
              refine zi_icmp_ne (tgt := 99) hF.1 hF.2.1 (a := wishOf (τ 0 4)) (b := 1) dX4_grant_89 (by decide) (by omega) (by omega) (fun c_89 => ?_) (fun c_89 => ?_)
              · skip
                refine lv_iload_n hF.1 hF.2.1 dX4_grant_99 rfl (lv_at hl 2 rfl) ?_
                have nv_33 : ((((τ 11 (a).toNat)) : Int) = wD (wishOf (τ 0 4)) (τ 11 (a).toNat)) := (by unfold wD; (repeat' split) <;> omega)
                exact jn_100 (τ 11 (a).toNat) nv_33 _ _ _ hP hS (lv_sub hl [4, 5, 3, 2, 1, 0] rfl)
              · skip
                refine lv_iload_n hF.1 hF.2.1 dX4_grant_92 rfl (lv_at hl 2 rfl) ?_
                refine zi_bipush hF.1 hF.2.1 dX4_grant_93 (by decide) ?_
                refine zi_sub hF.1 hF.2.1 dX4_grant_95 ?_
                refine lv_goto (tgt := 100) hF.1 hF.2.1 dX4_grant_96 (by decide) ?_
                have nv_34 : (((((τ 11 (a).toNat) - 20)) : Int) = wD (wishOf (τ 0 4)) (τ 11 (a).toNat)) := (by unfold wD; (repeat' split) <;> omega)
                exact jn_100 ((τ 11 (a).toNat) - 20) nv_34 _ _ _ hP hS (lv_sub hl [4, 5, 3, 2, 1, 0] rfl)
            · skip
              refine lv_iload_n hF.1 hF.2.1 dX4_grant_80 rfl (lv_at hl 2 rfl) ?_
              refine zi_bipush hF.1 hF.2.1 dX4_grant_81 (by decide) ?_
              refine zi_add hF.1 hF.2.1 dX4_grant_83 ?_
              refine lv_goto (tgt := 100) hF.1 hF.2.1 dX4_grant_84 (by decide) ?_
              have nv_35 : (((((τ 11 (a).toNat) + 20)) : Int) = wD (wishOf (τ 0 4)) (τ 11 (a).toNat)) := (by unfold wD; (repeat' split) <;> omega)
              exact jn_100 ((τ 11 (a).toNat) + 20) nv_35 _ _ _ hP hS (lv_sub hl [4, 5, 3, 2, 1, 0] rfl)
        · skip
          exact absurd c_43 (by omega)
  · skip
    refine zi_const hF.1 hF.2.1 dX4_grant_14 ?_
    refine lv_goto (tgt := 36) hF.1 hF.2.1 dX4_grant_15 (by decide) ?_
    refine z_put hF hK hz hP hS (k := 0) (C := RX4) (T := TX4) (N := 22) (by omega) (rfl) rfl uin_X4 tyX4_ok nmX4 21 (by decide) mw_442 rfl (⟨rfl, rfl⟩) (by simp) (g' := mC c h (τ) (u2 (κ) 1 0 (1))) (rfl) (mC_t_o) dX4_grant_36 (fun H locs hP hS => ?_)
    refine lv_aload_n hF.1 hF.2.1 dX4_grant_39 rfl (lv_at hl 1 rfl) ?_
    refine z_get hF hK hP (k := 0) (C := RX4) (T := TX4) (N := 22) (by omega) (rfl) rfl uin_X4 21 (by decide) mw_442 (v := .int (iz (1))) rfl dX4_grant_40 ?_
    refine zi_if_le (tgt := 48) hF.1 hF.2.1 (a := 1) dX4_grant_43 (by decide) (by omega) (fun c_43 => ?_) (fun c_43 => ?_)
    · skip
      exact absurd c_43 (by omega)
    · skip
      refine zi_const hF.1 hF.2.1 dX4_grant_46 ?_
      exact z_reti (P := fun z u9 => MS τ (thG τ a) (grT τ a.toNat (wishOf (τ 0 4))) z u9.1 (u9.2 1 0)) (z := 0) (u := (τ, u2 (κ) 1 0 (1))) (w := fun u9 => mC c h u9.1 u9.2) hF hr hlocks hP hS ((iz_nar_z (by first | omega | exact b2i_rg)).1) (⟨by have e9 : (u2 (κ) 1 0 (1)) 1 0 = (1 : Int) := rfl; show (u2 (κ) 1 0 (1)) 1 0 = _; rw [e9]; unfold thG; (repeat' split) <;> omega, Or.inl ⟨by unfold thG; (repeat' split) <;> omega, rfl, rfl⟩, hG⟩) dX4_grant_47
