theorem stT_row {τ : Nat → Nat → Int} {sg mi en : Int} {r : Nat} (h : r ≠ 0 ∧ r ≠ 16 ∧ r ≠ 17 ∧ r ≠ 18) : stT τ sg mi en r = τ r := by
  unfold stT
  rw [u2_row h.1, u2_row h.2.2.2, u2_row h.2.2.1, u2_row h.2.1]
theorem on_s {τ τ1 : Nat → Nat → Int} {i : Nat} {x : Int} {P : Nat → Prop} (hon : ∀ k : Nat, τ1 14 k = ie (k < i ∧ P k) 0 (τ 14 k)) (hx : x = ie (P i) 0 (τ 14 i)) : ∀ k : Nat, u2 τ1 14 i x 14 k = ie (k < i + 1 ∧ P k) 0 (τ 14 k) := by
  intro k
  by_cases hk : k = i
  · subst hk
    rw [u2_at, hx]
    rcases Classical.em (P k) with q | q
    · rw [ie_t q, ie_t ⟨by omega, q⟩]
    · rw [ie_f q, ie_f (fun z => q z.2)]
  · have e : u2 τ1 14 i x 14 k = τ1 14 k := by simp [u2, hk]
    rw [e, hon k]
    rcases Classical.em (k < i ∧ P k) with q | q
    · rw [ie_t q, ie_t ⟨by omega, q.2⟩]
    · rw [ie_f q, ie_f (fun z => q ⟨by omega, z.2⟩)]
theorem bt_s1 {st : Int} {i : Nat} {P : Nat → Prop} (hb : ∀ k, k < 32 → (bt st k ↔ (k < i ∧ P k))) (hi : i < 32) (hp : P i) : ∀ k, k < 32 → (bt (ior st (ish 1 i)) k ↔ (k < i + 1 ∧ P k)) := fun k hk => by
  rw [bt_or_one hi hk, hb k hk]
  constructor
  · rintro (q | rfl)
    · exact ⟨by omega, q.2⟩
    · exact ⟨by omega, hp⟩
  · intro q
    rcases Nat.lt_or_ge k i with z | z
    · exact Or.inl ⟨z, q.2⟩
    · exact Or.inr (by omega)
theorem bt_s0 {st : Int} {i : Nat} {P : Nat → Prop} (hb : ∀ k, k < 32 → (bt st k ↔ (k < i ∧ P k))) (hp : ¬ P i) : ∀ k, k < 32 → (bt (ior st 0) k ↔ (k < i + 1 ∧ P k)) := fun k hk => by
  rw [bt_or_0, hb k hk]
  constructor
  · exact fun q => ⟨by omega, q.2⟩
  · intro q
    rcases Nat.lt_or_ge k i with z | z
    · exact ⟨z, q.2⟩
    · exact absurd q.2 (by rw [show k = i by omega]; exact hp)
theorem ie_iff {P P' : Prop} {a b : Int} (h : P ↔ P') : ie P a b = ie P' a b := by rw [propext h]

set_option maxRecDepth 100000 in
set_option maxHeartbeats 4000000 in
theorem c_X4_storm (l : Launch) (h : Nat → Nat) (D : va_G) (c : Nat → ClassId) (τ κ : Nat → Nat → Int) (hinj : ∀ i j, i < 17 → j < 17 → h i = h j → i = j) (hG : GI τ) (sg : Int) (hsg : -2147483648 ≤ sg ∧ sg ≤ 2147483647) (mi : Int) (hmi : -2147483648 ≤ mi ∧ mi ≤ 2147483647) (du : Int) (hdu : -2147483648 ≤ du ∧ du ≤ 2147483647) (hlen : ∀ k, k < 17 → τ 14 k ≠ 0 → 1 ≤ τ 9 k) :
    zMi (S := (Nat → Nat → Int) × (Nat → Nat → Int)) l yX4_storm cX4_storm 10 (some .int) 5 119 [.ref (h (0)), .int (iz (sg)), .int (iz (mi)), .int (iz (du))] 17 h D (gT c) (mC c h (τ) (κ)) (fun u9 => mC c h u9.1 u9.2) (fun z u9 => MSt τ sg mi du z u9.1 (u9.2 1 0)) := by
  refine zM_of (by decide) (Nat.le_of_ble_eq_true rfl) ?_
  intro p e s m below meth cd ls ⟨hF, hr, hlocks, hK⟩ hP hl
  have hz : zD (zA 17 h s.heap.size) 17 h := zD.self hinj s.heap.size
  have hA : ∀ q, s.heap.size ≤ q → zA 17 h s.heap.size q := zA_new
  generalize zA 17 h s.heap.size = A at hz hA ⊢
  have hS : va_S A s.heap s.heap [] := va_S.rf
  have hl : lv_has ls 10 [(0, .ref (h (0))), (1, .int (iz (sg))), (2, .int (iz (mi))), (3, .int (iz (du)))] := hl
  refine lv_aload_n hF.1 hF.2.1 dX4_storm_0 rfl (lv_at hl 0 rfl) ?_
  refine lv_iload_n hF.1 hF.2.1 dX4_storm_1 rfl (lv_at hl 1 rfl) ?_
  refine z_ci (S := Unit) (w := fun _ => mC c h τ κ) (P := fun z _ => z = b2i (0 ≤ sg ∧ sg ≤ 2)) (z_runS (rm := { frames := 1, cells := 0, slots := 0, locals := 22 }) hF hK hP (c_X4_isThree l h D c τ κ hinj hG sg (by omega) _) (gIn_S mw_487 mw_488 mw_447 mw_448) rfl rfl ⟨rfl, by decide, by decide, rfl⟩ ⟨Nat.le_of_ble_eq_true rfl, Nat.le_of_ble_eq_true rfl⟩ (As := [.int (iz (sg))]) (rest := [.ref (h (0))]) rfl hl.1 rfl (Nat.le_of_ble_eq_true rfl) dX4_storm_2 ⟨Nat.le_refl _, Nat.le_refl _⟩) hz hA hS (fun z_1 u_2 H locs hp hP hS => ?_)
  obtain rfl : z_1 = b2i (0 ≤ sg ∧ sg ≤ 2) := hp
  refine zi_ifb_ne (tgt := 12) hF.1 hF.2.1 (P := 0 ≤ sg ∧ sg ≤ 2) dX4_storm_5 (by decide) (fun c_5 => ?_) (fun c_5 => ?_)
  · skip
    refine lv_iload_n hF.1 hF.2.1 dX4_storm_12 rfl (lv_at hl 2 rfl) ?_
    refine z_ci (S := Unit) (w := fun _ => mC c h τ κ) (P := fun z _ => z = b2i (0 ≤ mi ∧ mi ≤ 999)) (z_runS (rm := { frames := 1, cells := 0, slots := 0, locals := 22 }) hF hK hP (c_X4_isMinute l h D c τ κ hinj hG mi (by omega) _) (gIn_S mw_485 mw_486 mw_447 mw_444) rfl rfl ⟨rfl, by decide, by decide, rfl⟩ ⟨Nat.le_of_ble_eq_true rfl, Nat.le_of_ble_eq_true rfl⟩ (As := [.int (iz (mi))]) (rest := [.ref (h (0))]) rfl hl.1 rfl (Nat.le_of_ble_eq_true rfl) dX4_storm_13 ⟨Nat.le_refl _, Nat.le_refl _⟩) hz hA hS (fun z_3 u_4 H locs hp hP hS => ?_)
    obtain rfl : z_3 = b2i (0 ≤ mi ∧ mi ≤ 999) := hp
    refine zi_ifb_eq (tgt := 30) hF.1 hF.2.1 (P := 0 ≤ mi ∧ mi ≤ 999) dX4_storm_16 (by decide) (fun c_16 => ?_) (fun c_16 => ?_)
    · skip
      refine zi_const hF.1 hF.2.1 dX4_storm_30 ?_
      refine lv_goto (tgt := 47) hF.1 hF.2.1 dX4_storm_31 (by decide) ?_
      refine z_put hF hK hz hP hS (k := 0) (C := RX4) (T := TX4) (N := 22) (by omega) (rfl) rfl uin_X4 tyX4_ok nmX4 21 (by decide) mw_442 rfl (⟨rfl, rfl⟩) (by simp) (g' := mC c h (τ) (u2 (κ) 1 0 (2))) (rfl) (mC_t_o) dX4_storm_47 (fun H locs hP hS => ?_)
      refine lv_aload_n hF.1 hF.2.1 dX4_storm_50 rfl (lv_at hl 0 rfl) ?_
      refine z_get hF hK hP (k := 0) (C := RX4) (T := TX4) (N := 22) (by omega) (rfl) rfl uin_X4 21 (by decide) mw_442 (v := .int (iz (2))) rfl dX4_storm_51 ?_
      refine zi_if_le (tgt := 59) hF.1 hF.2.1 (a := 2) dX4_storm_54 (by decide) (by omega) (fun c_54 => ?_) (fun c_54 => ?_)
      · skip
        exact absurd c_54 (by omega)
      · skip
        refine zi_const hF.1 hF.2.1 dX4_storm_57 ?_
        exact z_reti (P := fun z u9 => MSt τ sg mi du z u9.1 (u9.2 1 0)) (z := 0) (u := (τ, u2 (κ) 1 0 (2))) (w := fun u9 => mC c h u9.1 u9.2) hF hr hlocks hP hS (rfl) (⟨by have e9 : (u2 (κ) 1 0 (2)) 1 0 = (2 : Int) := rfl; show (u2 (κ) 1 0 (2)) 1 0 = _; rw [e9]; unfold thX; (repeat' split) <;> omega, Or.inl ⟨by unfold thX; (repeat' split) <;> omega, rfl, rfl⟩, hG⟩) dX4_storm_58
    · skip
      refine lv_iload_n hF.1 hF.2.1 dX4_storm_19 rfl (lv_at hl 3 rfl) ?_
      refine zi_const hF.1 hF.2.1 dX4_storm_20 ?_
      refine zi_sipush hF.1 hF.2.1 dX4_storm_21 (by decide) ?_
      refine z_ci (S := Unit) (w := fun _ => mC c h τ κ) (P := fun z _ => z = b2i (1 ≤ du ∧ du ≤ 200)) (z_runS (rm := { frames := 0, cells := 0, slots := 0, locals := 0 }) hF hK hP (c_X4_isIn l h D c τ κ hinj hG du (by omega) 1 (by omega) 200 (by omega) _) (gIn_S mw_445 mw_446 mw_447 mw_443) rfl rfl ⟨rfl, by decide, by decide, rfl⟩ ⟨Nat.le_of_ble_eq_true rfl, Nat.le_of_ble_eq_true rfl⟩ (As := [.int (iz (du)), .int (iz (1)), .int (iz (200))]) (rest := [.ref (h (0))]) rfl hl.1 rfl (Nat.le_of_ble_eq_true rfl) dX4_storm_24 ⟨Nat.le_refl _, Nat.le_refl _⟩) hz hA hS (fun z_5 u_6 H locs hp hP hS => ?_)
      obtain rfl : z_5 = b2i (1 ≤ du ∧ du ≤ 200) := hp
      refine zi_ifb_ne (tgt := 34) hF.1 hF.2.1 (P := 1 ≤ du ∧ du ≤ 200) dX4_storm_27 (by decide) (fun c_27 => ?_) (fun c_27 => ?_)
      · skip
        refine lv_aload_n hF.1 hF.2.1 dX4_storm_34 rfl (lv_at hl 0 rfl) ?_
        refine z_get hF hK hP (k := 0) (C := RX4) (T := TX4) (N := 22) (by omega) (rfl) rfl uin_X4 16 (by decide) mw_456 (v := .int (iz (τ 0 2))) rfl dX4_storm_35 ?_
        have q_7 := GI_02 hG
        refine zi_const hF.1 hF.2.1 dX4_storm_38 ?_
        refine zi_icmp_ne (tgt := 46) hF.1 hF.2.1 (a := τ 0 2) (b := 5) dX4_storm_39 (by decide) (by omega) (by omega) (fun c_39 => ?_) (fun c_39 => ?_)
        · skip
          refine zi_const hF.1 hF.2.1 dX4_storm_46 ?_
          refine z_put hF hK hz hP hS (k := 0) (C := RX4) (T := TX4) (N := 22) (by omega) (rfl) rfl uin_X4 tyX4_ok nmX4 21 (by decide) mw_442 rfl (⟨rfl, rfl⟩) (by simp) (g' := mC c h (τ) (u2 (κ) 1 0 (0))) (rfl) (mC_t_o) dX4_storm_47 (fun H locs hP hS => ?_)
          refine lv_aload_n hF.1 hF.2.1 dX4_storm_50 rfl (lv_at hl 0 rfl) ?_
          refine z_get hF hK hP (k := 0) (C := RX4) (T := TX4) (N := 22) (by omega) (rfl) rfl uin_X4 21 (by decide) mw_442 (v := .int (iz (0))) rfl dX4_storm_51 ?_
          refine zi_if_le (tgt := 59) hF.1 hF.2.1 (a := 0) dX4_storm_54 (by decide) (by omega) (fun c_54 => ?_) (fun c_54 => ?_)
          · skip
            refine z_join (n := 17) (h := h) (D := D) (A := A) (V := Int) (tgt := 77) (nL := 10) (wd := fun v_8 => mC c h (τ) (u2 (κ) 1 0 (0))) (lv := fun v_8 => [(0, .ref (h (0))), (1, .int (iz (sg))), (2, .int (iz (mi))), (3, .int (iz (du)))]) (stk := fun v_8 => [.int (iz (v_8))]) (inv := fun v_8 => ((v_8 : Int) = min (mi + du) 1000)) ?_ (fun jn_77 => ?_)
            · skip
              intro en hv H locs ls hP hS hl
              have hP : zB 17 h D (mC c h (τ) (u2 (κ) 1 0 (0))) H := hP
              have hl : lv_has ls 10 [(0, .ref (h (0))), (1, .int (iz (sg))), (2, .int (iz (mi))), (3, .int (iz (du)))] := hl
              have hen : (en : Int) = min (mi + du) 1000 := hv
              refine lv_istore (lv' := [(4, .int (iz (en))), (0, .ref (h (0))), (1, .int (iz (sg))), (2, .int (iz (mi))), (3, .int (iz (du)))]) hF.1 hF.2.1 dX4_storm_77 hl (by decide) rfl (fun ls hl => ?_)
              refine lv_aload_n hF.1 hF.2.1 dX4_storm_79 rfl (lv_at hl 1 rfl) ?_
              refine z_get hF hK hP (k := 0) (C := RX4) (T := TX4) (N := 22) (by omega) (rfl) rfl uin_X4 17 (by decide) mw_437 (v := .ref (h (13))) rfl dX4_storm_80 ?_
              refine lv_aload_n hF.1 hF.2.1 dX4_storm_83 rfl (lv_at hl 1 rfl) ?_
              refine z_get hF hK hP (k := 0) (C := RX4) (T := TX4) (N := 22) (by omega) (rfl) rfl uin_X4 16 (by decide) mw_456 (v := .int (iz (τ 0 2))) rfl dX4_storm_84 ?_
              have q_9 := GI_02 hG
              refine lv_iload_n hF.1 hF.2.1 dX4_storm_87 rfl (lv_at hl 2 rfl) ?_
              refine z_iast hF hK hz hP hS (k := 13) (by decide) rfl 0 rfl (i := τ 0 2) ((τ 0 2).toNat) ((Int.toNat_of_nonneg (by omega)).symm) (by omega) (by decide) (x := iz (sg)) (g' := mC c h (u2 (τ) 16 ((τ 0 2).toNat) (sg)) (u2 (κ) 1 0 (0))) (by show Sum.inl (_, _, Sum.inl _) = _; rw [u2_up]) (mC_row_o (a := 13) ⟨by decide, by decide⟩) dX4_storm_88 (fun H locs hP hS => ?_)
              have hG_10 := GI_u16 hG (v := sg) (k := (τ 0 2).toNat) (by omega)
              refine lv_aload_n hF.1 hF.2.1 dX4_storm_89 rfl (lv_at hl 1 rfl) ?_
              refine z_get hF hK hP (k := 0) (C := RX4) (T := TX4) (N := 22) (by omega) (rfl) rfl uin_X4 18 (by decide) mw_438 (v := .ref (h (14))) rfl dX4_storm_90 ?_
              refine lv_aload_n hF.1 hF.2.1 dX4_storm_93 rfl (lv_at hl 1 rfl) ?_
              refine z_get hF hK hP (k := 0) (C := RX4) (T := TX4) (N := 22) (by omega) (rfl) rfl uin_X4 16 (by decide) mw_456 (v := .int (iz (τ 0 2))) rfl dX4_storm_94 ?_
              have q_11 := GI_02 hG
              refine lv_iload_n hF.1 hF.2.1 dX4_storm_97 rfl (lv_at hl 3 rfl) ?_
              refine z_iast hF hK hz hP hS (k := 14) (by decide) rfl 0 rfl (i := τ 0 2) ((τ 0 2).toNat) ((Int.toNat_of_nonneg (by omega)).symm) (by omega) (by decide) (x := iz (mi)) (g' := mC c h (u2 (u2 (τ) 16 ((τ 0 2).toNat) (sg)) 17 ((τ 0 2).toNat) (mi)) (u2 (κ) 1 0 (0))) (by show Sum.inl (_, _, Sum.inl _) = _; rw [u2_up]) (mC_row_o (a := 14) ⟨by decide, by decide⟩) dX4_storm_98 (fun H locs hP hS => ?_)
              have hG_12 := GI_u17 hG_10 (v := mi) (k := (τ 0 2).toNat) (by omega)
              refine lv_aload_n hF.1 hF.2.1 dX4_storm_99 rfl (lv_at hl 1 rfl) ?_
              refine z_get hF hK hP (k := 0) (C := RX4) (T := TX4) (N := 22) (by omega) (rfl) rfl uin_X4 19 (by decide) mw_439 (v := .ref (h (15))) rfl dX4_storm_100 ?_
              refine lv_aload_n hF.1 hF.2.1 dX4_storm_103 rfl (lv_at hl 1 rfl) ?_
              refine z_get hF hK hP (k := 0) (C := RX4) (T := TX4) (N := 22) (by omega) (rfl) rfl uin_X4 16 (by decide) mw_456 (v := .int (iz (τ 0 2))) rfl dX4_storm_104 ?_
              have q_13 := GI_02 hG
              refine lv_iload hF.1 hF.2.1 dX4_storm_107 (lv_at hl 0 rfl) ?_
              refine z_iast hF hK hz hP hS (k := 15) (by decide) rfl 0 rfl (i := τ 0 2) ((τ 0 2).toNat) ((Int.toNat_of_nonneg (by omega)).symm) (by omega) (by decide) (x := iz (en)) (g' := mC c h (u2 (u2 (u2 (τ) 16 ((τ 0 2).toNat) (sg)) 17 ((τ 0 2).toNat) (mi)) 18 ((τ 0 2).toNat) (en)) (u2 (κ) 1 0 (0))) (by show Sum.inl (_, _, Sum.inl _) = _; rw [u2_up]) (mC_row_o (a := 15) ⟨by decide, by decide⟩) dX4_storm_109 (fun H locs hP hS => ?_)
              have hG_14 := GI_u18 hG_12 (v := en) (k := (τ 0 2).toNat) (by omega)
              refine lv_aload_n hF.1 hF.2.1 dX4_storm_110 rfl (lv_at hl 1 rfl) ?_
              refine lv_dup hF.1 hF.2.1 dX4_storm_111 rfl ?_
              refine z_get hF hK hP (k := 0) (C := RX4) (T := TX4) (N := 22) (by omega) (rfl) rfl uin_X4 16 (by decide) mw_456 (v := .int (iz (τ 0 2))) rfl dX4_storm_112 ?_
              have q_15 := GI_02 hG
              refine zi_const hF.1 hF.2.1 dX4_storm_115 ?_
              refine zi_add hF.1 hF.2.1 dX4_storm_116 ?_
              refine z_put hF hK hz hP hS (k := 0) (C := RX4) (T := TX4) (N := 22) (by omega) (rfl) rfl uin_X4 tyX4_ok nmX4 16 (by decide) mw_456 rfl (⟨rfl, rfl⟩) (by simp) (g' := mC c h (u2 (u2 (u2 (u2 (τ) 16 ((τ 0 2).toNat) (sg)) 17 ((τ 0 2).toNat) (mi)) 18 ((τ 0 2).toNat) (en)) 0 2 ((τ 0 2) + 1)) (u2 (κ) 1 0 (0))) (rfl) (mC_sc_o) dX4_storm_117 (fun H locs hP hS => ?_)
              have hG_16 := GI_u02 hG_14 (v := (τ 0 2) + 1) (by omega)
              refine zi_const hF.1 hF.2.1 dX4_storm_120 ?_
              refine lv_istore (lv' := [(5, .int (iz (0))), (4, .int (iz (en))), (0, .ref (h (0))), (1, .int (iz (sg))), (2, .int (iz (mi))), (3, .int (iz (du)))]) hF.1 hF.2.1 dX4_storm_121 hl (by decide) rfl (fun ls hl => ?_)
              refine zi_const hF.1 hF.2.1 dX4_storm_123 ?_
              refine lv_istore (lv' := [(6, .int (iz (0))), (5, .int (iz (0))), (4, .int (iz (en))), (0, .ref (h (0))), (1, .int (iz (sg))), (2, .int (iz (mi))), (3, .int (iz (du)))]) hF.1 hF.2.1 dX4_storm_124 hl (by decide) rfl (fun ls hl => ?_)
              have nv_18 : ((0) ≤ 16 ∧ ((0) : Int) ≤ τ 0 1) ∧ (∀ r, r ≠ 14 → (u2 (u2 (u2 (u2 (τ) 16 ((τ 0 2).toNat) (sg)) 17 ((τ 0 2).toNat) (mi)) 18 ((τ 0 2).toNat) (en)) 0 2 ((τ 0 2) + 1)) r = stT τ sg mi en r) ∧ (∀ k : Nat, (u2 (u2 (u2 (u2 (τ) 16 ((τ 0 2).toNat) (sg)) 17 ((τ 0 2).toNat) (mi)) 18 ((τ 0 2).toNat) (en)) 0 2 ((τ 0 2) + 1)) 14 k = ie (k < (0) ∧ hitM τ sg mi en k) 0 (τ 14 k)) ∧ (∀ k, k < 32 → (bt (0) k ↔ (k < (0) ∧ hitM τ sg mi en k))) ∧ (GI (u2 (u2 (u2 (u2 (τ) 16 ((τ 0 2).toNat) (sg)) 17 ((τ 0 2).toNat) (mi)) 18 ((τ 0 2).toNat) (en)) 0 2 ((τ 0 2) + 1))) := ⟨by have := GI_01 hG; omega, fun r hr9 => rfl, fun k => by rw [ie_f (fun q => absurd q.1 (Nat.not_lt_zero k))]; exact congrFun (stT_row (by decide)) k, fun k hk => ⟨fun q => absurd q bt_0, fun q => absurd q.1 (Nat.not_lt_zero k)⟩, hG_16⟩
              refine z_loop (V := Nat × Int × (Nat → Nat → Int)) (nL := 10) (wd := fun v_17 => mC c h (v_17.2.2) (u2 (κ) 1 0 (0))) (lv := fun v_17 => [(0, .ref (h (0))), (1, .int (iz (sg))), (2, .int (iz (mi))), (3, .int (iz (du))), (4, .int (iz (en))), (5, .int (iz (v_17.2.1))), (6, .int (iz ((v_17.1 : Int))))]) (stk := fun v_17 => []) (mu := fun v_17 => 17 - v_17.1) (inv := fun v_17 => (v_17.1 ≤ 16 ∧ (v_17.1 : Int) ≤ τ 0 1) ∧ (∀ r, r ≠ 14 → v_17.2.2 r = stT τ sg mi en r) ∧ (∀ k : Nat, v_17.2.2 14 k = ie (k < v_17.1 ∧ hitM τ sg mi en k) 0 (τ 14 k)) ∧ (∀ k, k < 32 → (bt v_17.2.1 k ↔ (k < v_17.1 ∧ hitM τ sg mi en k))) ∧ (GI v_17.2.2)) ?_ (0, 0, u2 (u2 (u2 (u2 (τ) 16 ((τ 0 2).toNat) (sg)) 17 ((τ 0 2).toNat) (mi)) 18 ((τ 0 2).toNat) (en)) 0 2 ((τ 0 2) + 1)) nv_18 hP hS (lv_sub hl [3, 4, 5, 6, 2, 1, 0] rfl)
              intro ⟨i, st9, τ1⟩ hv ih_126 H locs ls hP hS hl
              have hP : zB 17 h D (mC c h (τ1) (u2 (κ) 1 0 (0))) H := hP
              have hl : lv_has ls 10 [(0, .ref (h (0))), (1, .int (iz (sg))), (2, .int (iz (mi))), (3, .int (iz (du))), (4, .int (iz (en))), (5, .int (iz (st9))), (6, .int (iz ((i : Int))))] := hl
              obtain ⟨hi_i, hrow, hon, hbt, hG1⟩ : (i ≤ 16 ∧ (i : Int) ≤ τ 0 1) ∧ (∀ r, r ≠ 14 → τ1 r = stT τ sg mi en r) ∧ (∀ k : Nat, τ1 14 k = ie (k < i ∧ hitM τ sg mi en k) 0 (τ 14 k)) ∧ (∀ k, k < 32 → (bt st9 k ↔ (k < i ∧ hitM τ sg mi en k))) ∧ (GI τ1) := hv
              have h01 : τ1 0 1 = τ 0 1 := by rw [hrow 0 (by decide)]; rfl
              have e14 : τ1 14 i = τ 14 i := by rw [hon i, ie_f (fun q => absurd q.1 (Nat.lt_irrefl i))]
              have e7 : τ1 7 i = τ 7 i := by rw [hrow 7 (by decide), stT_row (by decide)]
              have e8 : τ1 8 i = τ 8 i := by rw [hrow 8 (by decide), stT_row (by decide)]
              have e9 : τ1 9 i = τ 9 i := by rw [hrow 9 (by decide), stT_row (by decide)]
              refine lv_iload hF.1 hF.2.1 dX4_storm_126 (lv_at hl 6 rfl) ?_
              refine lv_aload_n hF.1 hF.2.1 dX4_storm_128 rfl (lv_at hl 0 rfl) ?_
              refine z_get hF hK hP (k := 0) (C := RX4) (T := TX4) (N := 22) (by omega) (rfl) rfl uin_X4 5 (by decide) mw_495 (v := .int (iz (τ1 0 1))) rfl dX4_storm_129 ?_
              have q_19 := GI_01 hG1
              refine zi_icmp_ge (tgt := 238) hF.1 hF.2.1 (a := (i : Int)) (b := τ1 0 1) dX4_storm_132 (by decide) (by omega) (by omega) (fun c_132 => ?_) (fun c_132 => ?_)
              · skip
                refine zi_const hF.1 hF.2.1 dX4_storm_238 ?_
                refine lv_istore (lv' := [(6, .int (iz (0))), (0, .ref (h (0))), (1, .int (iz (sg))), (2, .int (iz (mi))), (3, .int (iz (du))), (4, .int (iz (en))), (5, .int (iz (st9)))]) hF.1 hF.2.1 dX4_storm_239 hl (by decide) rfl (fun ls hl => ?_)
                refine zi_const hF.1 hF.2.1 dX4_storm_241 ?_
                refine lv_istore (lv' := [(7, .int (iz (-1))), (6, .int (iz (0))), (0, .ref (h (0))), (1, .int (iz (sg))), (2, .int (iz (mi))), (3, .int (iz (du))), (4, .int (iz (en))), (5, .int (iz (st9)))]) hF.1 hF.2.1 dX4_storm_242 hl (by decide) rfl (fun ls hl => ?_)
                refine lv_aload_n hF.1 hF.2.1 dX4_storm_244 rfl (lv_at hl 2 rfl) ?_
                refine lv_iload hF.1 hF.2.1 dX4_storm_245 (lv_at hl 7 rfl) ?_
                refine lv_iload hF.1 hF.2.1 dX4_storm_247 (lv_at hl 0 rfl) ?_
                refine z_ci (S := Unit) (w := fun _ => mC c h τ1 (u2 (κ) 1 0 (0))) (P := fun z _ => MN τ1 st9 (-1) z) (z_runV (rm := { frames := 0, cells := 0, slots := 0, locals := 0 }) hF hK hP (c_X4_next l h D c τ1 (u2 (κ) 1 0 (0)) hinj hG1 st9 (-1) (by omega) _) (gIn_V mw_531 mw_532 mw_533 mw_447 mw_530) rfl rfl ⟨rfl, by decide, by decide, rfl⟩ ⟨Nat.le_of_ble_eq_true rfl, Nat.le_of_ble_eq_true rfl⟩ (k := 0) (T := TX4) (N := 22) (by omega) rfl (rfl) rfl (As := [.int (iz (st9)), .int (iz (-1))]) (rest := []) rfl hl.1 rfl (Nat.le_of_ble_eq_true rfl) dX4_storm_249 ⟨Nat.le_refl _, Nat.le_refl _⟩) hz hA hS (fun z_20 u_21 H locs hp hP hS => ?_)
                have hmn_22 : MN τ1 st9 (-1) z_20 := hp
                have q_23 := MNi_rg hmn_22
                have q_24 := GI_01 hG1
                refine lv_istore (lv' := [(8, .int (iz (z_20))), (7, .int (iz (-1))), (6, .int (iz (0))), (0, .ref (h (0))), (1, .int (iz (sg))), (2, .int (iz (mi))), (3, .int (iz (du))), (4, .int (iz (en))), (5, .int (iz (st9)))]) hF.1 hF.2.1 dX4_storm_252 hl (by decide) rfl (fun ls hl => ?_)
                have hzi : i = (τ 0 1).toNat := by omega
                have hln1 : ∀ k, k < 17 → bt st9 k → 1 ≤ τ1 9 k := fun k hk q => by rw [hrow 9 (by decide), stT_row (by decide)]; exact hlen k hk ((hbt k (by omega)).mp q).2.1
                have nv_26 : (-1 ≤ (z_20) ∧ (z_20) ≤ 16) ∧ ((-1 : Int) ≤ (-1) ∧ (-1) ≤ (999 : Int)) ∧ ((0 : Int) ≤ (0) ∧ (0) ≤ ((-1) : Int) + 1) ∧ (MN (τ1) (st9) (-1) (z_20)) ∧ (GI (τ1)) ∧ (∀ k, k < 17 → bt (st9) k → 1 ≤ (τ1) 9 k) ∧ (∀ τ9 b9, (∃ N, MRz en N (τ1) (st9) (-1) (0) (z_20) τ9 b9) → ∃ N, MRz en N τ1 st9 (-1) 0 z_20 τ9 b9) ∧ ((u2 (κ) 1 0 (0)) 1 0 = 0) := ⟨by omega, by omega, by omega, hmn_22, hG1, hln1, fun τ9 b9 q => q, rfl⟩
                refine z_loop (V := Int × Int × Int × Int × (Nat → Nat → Int) × (Nat → Nat → Int)) (nL := 10) (wd := fun v_25 => mC c h (v_25.2.2.2.2.1) (v_25.2.2.2.2.2)) (lv := fun v_25 => [(0, .ref (h (0))), (1, .int (iz (sg))), (2, .int (iz (mi))), (3, .int (iz (du))), (4, .int (iz (en))), (5, .int (iz (v_25.2.1))), (6, .int (iz (v_25.2.2.2.1))), (7, .int (iz (v_25.2.2.1))), (8, .int (iz (v_25.1)))]) (stk := fun v_25 => []) (mu := fun v_25 => (1000 - v_25.2.2.1).toNat) (inv := fun v_25 => (-1 ≤ v_25.1 ∧ v_25.1 ≤ 16) ∧ ((-1 : Int) ≤ v_25.2.2.1 ∧ v_25.2.2.1 ≤ (999 : Int)) ∧ ((0 : Int) ≤ v_25.2.2.2.1 ∧ v_25.2.2.2.1 ≤ (v_25.2.2.1 : Int) + 1) ∧ (MN v_25.2.2.2.2.1 v_25.2.1 v_25.2.2.1 v_25.1) ∧ (GI v_25.2.2.2.2.1) ∧ (∀ k, k < 17 → bt v_25.2.1 k → 1 ≤ v_25.2.2.2.2.1 9 k) ∧ (∀ τ9 b9, (∃ N, MRz en N v_25.2.2.2.2.1 v_25.2.1 v_25.2.2.1 v_25.2.2.2.1 v_25.1 τ9 b9) → ∃ N, MRz en N τ1 st9 (-1) 0 z_20 τ9 b9) ∧ (v_25.2.2.2.2.2 1 0 = 0)) ?_ (z_20, st9, -1, 0, τ1, u2 (κ) 1 0 (0)) nv_26 hP hS (lv_sub hl [3, 4, 5, 6, 7, 8, 2, 1, 0] rfl)
                intro ⟨z9, st8, la, lo, τ2, κ2⟩ hv ih_254 H locs ls hP hS hl
                have hP : zB 17 h D (mC c h (τ2) (κ2)) H := hP
                have hl : lv_has ls 10 [(0, .ref (h (0))), (1, .int (iz (sg))), (2, .int (iz (mi))), (3, .int (iz (du))), (4, .int (iz (en))), (5, .int (iz (st8))), (6, .int (iz (lo))), (7, .int (iz (la))), (8, .int (iz (z9)))] := hl
                obtain ⟨hz9, hla, hlo, hmn9, hG2, hln, hcont, hk2⟩ : (-1 ≤ z9 ∧ z9 ≤ 16) ∧ ((-1 : Int) ≤ la ∧ la ≤ (999 : Int)) ∧ ((0 : Int) ≤ lo ∧ lo ≤ (la : Int) + 1) ∧ (MN τ2 st8 la z9) ∧ (GI τ2) ∧ (∀ k, k < 17 → bt st8 k → 1 ≤ τ2 9 k) ∧ (∀ τ9 b9, (∃ N, MRz en N τ2 st8 la lo z9 τ9 b9) → ∃ N, MRz en N τ1 st9 (-1) 0 z_20 τ9 b9) ∧ (κ2 1 0 = 0) := hv
                refine lv_iload hF.1 hF.2.1 dX4_storm_254 (lv_at hl 8 rfl) ?_
                refine zi_if_lt (tgt := 366) hF.1 hF.2.1 (a := z9) dX4_storm_256 (by decide) (by omega) (fun c_256 => ?_) (fun c_256 => ?_)
                · skip
                  refine lv_iload hF.1 hF.2.1 dX4_storm_366 (lv_at hl 6 rfl) ?_
                  exact z_reti (P := fun z u9 => MSt τ sg mi du z u9.1 (u9.2 1 0)) (z := lo) (u := (τ2, κ2)) (w := fun u9 => mC c h u9.1 u9.2) hF hr hlocks hP hS (rfl) (⟨by show κ2 1 0 = _; rw [hk2]; unfold thX; (repeat' split) <;> omega, Or.inr ⟨by unfold thX; (repeat' split) <;> omega, by rw [← hen]; exact ⟨st9, z_20, τ1, hrow, fun k hk => by rw [hon k]; exact ie_iff ⟨fun q => ⟨q.2, by omega⟩, fun q => ⟨by omega, q.1⟩⟩, fun k hk => (hbt k hk).trans ⟨fun q => ⟨by omega, q.2⟩, fun q => ⟨by omega, q.2⟩⟩, hmn_22, hcont τ2 lo ⟨0, by omega, rfl, rfl⟩⟩⟩, hG2⟩) dX4_storm_368
                · skip
                  obtain ⟨n, hzn, hn1, hcan⟩ : ∃ n : Nat, z9 = (n : Int) ∧ n < (τ2 0 1).toNat ∧ can τ2 st8 la n := by rcases hmn9 with q | ⟨n, q1, q2, q3, _⟩; omega; exact ⟨n, q1, q2, q3⟩
                  have hg1 := GI_01 hG2
                  have hn17 : n < 17 := by omega
                  have hcn : bt st8 n ∧ la < τ2 8 n := hcan
                  have hl9 := hln n hn17 hcn.1
                  have hcn2 := hcn.2
                  have e_27 : z9 = (n : Int) := hzn
                  have hl : lv_has ls 10 [(0, .ref (h (0))), (1, .int (iz (sg))), (2, .int (iz (mi))), (3, .int (iz (du))), (4, .int (iz (en))), (5, .int (iz (st8))), (6, .int (iz (lo))), (7, .int (iz (la))), (8, .int (iz ((n : Int))))] := by rw [← e_27]; exact hl
                  refine lv_aload_n hF.1 hF.2.1 dX4_storm_259 rfl (lv_at hl 0 rfl) ?_
                  refine z_get hF hK hP (k := 0) (C := RX4) (T := TX4) (N := 22) (by omega) (rfl) rfl uin_X4 7 (by decide) mw_429 (v := .ref (h (6))) rfl dX4_storm_260 ?_
                  refine lv_iload hF.1 hF.2.1 dX4_storm_263 (lv_at hl 8 rfl) ?_
                  refine z_iald hF hK hP (k := 6) (by decide) rfl 0 rfl (i := (n : Int)) (n) (rfl) (by omega) (by decide) (x := iz (τ2 8 n)) rfl dX4_storm_265 ?_
                  have q_28 := GI_8 hG2 (n)
                  refine lv_istore (lv' := [(7, .int (iz (τ2 8 n))), (0, .ref (h (0))), (1, .int (iz (sg))), (2, .int (iz (mi))), (3, .int (iz (du))), (4, .int (iz (en))), (5, .int (iz (st8))), (6, .int (iz (lo))), (8, .int (iz ((n : Int))))]) hF.1 hF.2.1 dX4_storm_266 hl (by decide) rfl (fun ls hl => ?_)
                  refine lv_iload hF.1 hF.2.1 dX4_storm_268 (lv_at hl 6 rfl) ?_
                  refine zi_const hF.1 hF.2.1 dX4_storm_270 ?_
                  refine lv_iload hF.1 hF.2.1 dX4_storm_271 (lv_at hl 8 rfl) ?_
                  refine zi_ishl hF.1 hF.2.1 (a := 1) (b := (n : Int)) dX4_storm_273 ?_
                  have q_29 : -2147483648 ≤ ish 1 ((n : Int)) ∧ ish 1 ((n : Int)) ≤ 2147483647 := ti_rg _
                  refine zi_const hF.1 hF.2.1 dX4_storm_274 ?_
                  refine zi_ixor hF.1 hF.2.1 (a := ish 1 ((n : Int))) (b := -1) dX4_storm_275 ?_
                  have q_30 : -2147483648 ≤ ixo (ish 1 ((n : Int))) (-1) ∧ ixo (ish 1 ((n : Int))) (-1) ≤ 2147483647 := ti_rg _
                  refine zi_iand hF.1 hF.2.1 (a := st8) (b := ixo (ish 1 ((n : Int))) (-1)) dX4_storm_276 ?_
                  have q_31 : -2147483648 ≤ ian st8 (ixo (ish 1 ((n : Int))) (-1)) ∧ ian st8 (ixo (ish 1 ((n : Int))) (-1)) ≤ 2147483647 := ti_rg _
                  refine lv_istore (lv' := [(5, .int (iz (ian st8 (ixo (ish 1 ((n : Int))) (-1))))), (7, .int (iz (τ2 8 n))), (0, .ref (h (0))), (1, .int (iz (sg))), (2, .int (iz (mi))), (3, .int (iz (du))), (4, .int (iz (en))), (6, .int (iz (lo))), (8, .int (iz ((n : Int))))]) hF.1 hF.2.1 dX4_storm_277 hl (by decide) rfl (fun ls hl => ?_)
                  have e_32 : ian st8 (ixo (ish 1 ((n : Int))) (-1)) = cl st8 n := rfl
                  have hl : lv_has ls 10 [(5, .int (iz (cl st8 n))), (7, .int (iz (τ2 8 n))), (0, .ref (h (0))), (1, .int (iz (sg))), (2, .int (iz (mi))), (3, .int (iz (du))), (4, .int (iz (en))), (6, .int (iz (lo))), (8, .int (iz ((n : Int))))] := by rw [← e_32]; exact hl
                  refine lv_aload_n hF.1 hF.2.1 dX4_storm_279 rfl (lv_at hl 2 rfl) ?_
                  refine z_get hF hK hP (k := 0) (C := RX4) (T := TX4) (N := 22) (by omega) (rfl) rfl uin_X4 13 (by decide) mw_436 (v := .ref (h (12))) rfl dX4_storm_280 ?_
                  refine lv_iload hF.1 hF.2.1 dX4_storm_283 (lv_at hl 8 rfl) ?_
                  refine zi_const hF.1 hF.2.1 dX4_storm_285 ?_
                  refine z_zast hF hK hz hP hS (k := 12) (by decide) rfl 4 rfl (i := (n : Int)) (n) (rfl) (by omega) (by decide) (x := 1) (by first | omega | (unfold b2i; split <;> omega)) (g' := mC c h (u2 (τ2) 14 (n) (1)) (κ2)) (by show Sum.inl (_, _, Sum.inl _) = _; rw [u2_up]) (mC_row_o (a := 12) ⟨by decide, by decide⟩) dX4_storm_286 (fun H locs hP hS => ?_)
                  have hG_33 := GI_u14 hG2 (v := 1) (k := n) (by omega)
                  refine lv_aload_n hF.1 hF.2.1 dX4_storm_287 rfl (lv_at hl 2 rfl) ?_
                  refine lv_iload hF.1 hF.2.1 dX4_storm_288 (lv_at hl 8 rfl) ?_
                  refine lv_iload hF.1 hF.2.1 dX4_storm_290 (lv_at hl 6 rfl) ?_
                  refine z_ci (S := Nat → Nat → Int) (w := fun κ9 => mC c h (u2 (τ2) 14 (n) (1)) κ9) (P := fun z κ9 => MF (u2 (τ2) 14 (n) (1)) n en z ∧ κ9 1 = κ2 1) (z_runV (rm := { frames := 4, cells := 0, slots := 0, locals := 94 }) hF hK hP (c_X4_finds l h D c (u2 (τ2) 14 (n) (1)) κ2 hinj hG_33 n (by omega) en (by omega) (by first | omega | (simp [u2]; omega)) _) (gIn_V mw_510 mw_511 mw_512 mw_447 mw_509) rfl rfl ⟨rfl, by decide, by decide, rfl⟩ ⟨Nat.le_of_ble_eq_true rfl, Nat.le_of_ble_eq_true rfl⟩ (k := 0) (T := TX4) (N := 22) (by omega) rfl (rfl) rfl (As := [.int (iz ((n : Int))), .int (iz (en))]) (rest := []) rfl hl.1 rfl (Nat.le_of_ble_eq_true rfl) dX4_storm_292 ⟨Nat.le_refl _, Nat.le_refl _⟩) hz hA hS (fun z_34 u_35 H locs hp hP hS => ?_)
                  have hmf : MF (u2 (τ2) 14 (n) (1)) n en z_34 := hp.1
                  have hku_35 : u_35 1 = κ2 1 := hp.2
                  have q_36 : -1 ≤ z_34 ∧ z_34 ≤ 1000 := by have q0 := GI_9 hG_33 n; rcases hmf with q | q <;> omega
                  have hP : zB 17 h D (mC c h (u2 (τ2) 14 (n) (1)) (u_35)) H := hP
                  refine lv_istore (lv' := [(9, .int (iz (z_34))), (5, .int (iz (cl st8 n))), (7, .int (iz (τ2 8 n))), (0, .ref (h (0))), (1, .int (iz (sg))), (2, .int (iz (mi))), (3, .int (iz (du))), (4, .int (iz (en))), (6, .int (iz (lo))), (8, .int (iz ((n : Int))))]) hF.1 hF.2.1 dX4_storm_295 hl (by decide) rfl (fun ls hl => ?_)
                  have h90 : (u2 (τ2) 14 (n) (1)) 9 n = τ2 9 n := by simp [u2]
                  have h99 : z_34 < 1000 := by rcases hmf with q | q <;> omega
                  refine lv_aload_n hF.1 hF.2.1 dX4_storm_297 rfl (lv_at hl 3 rfl) ?_
                  refine z_get hF hK hP (k := 0) (C := RX4) (T := TX4) (N := 22) (by omega) (rfl) rfl uin_X4 13 (by decide) mw_436 (v := .ref (h (12))) rfl dX4_storm_298 ?_
                  refine lv_iload hF.1 hF.2.1 dX4_storm_301 (lv_at hl 9 rfl) ?_
                  refine lv_iload hF.1 hF.2.1 dX4_storm_303 (lv_at hl 0 rfl) ?_
                  refine zi_if_lt (tgt := 312) hF.1 hF.2.1 (a := z_34) dX4_storm_305 (by decide) (by omega) (fun c_305 => ?_) (fun c_305 => ?_)
                  · skip
                    refine zi_const hF.1 hF.2.1 dX4_storm_312 ?_
                    refine z_zast hF hK hz hP hS (k := 12) (by decide) rfl 4 rfl (i := (n : Int)) (n) (rfl) (by omega) (by decide) (x := 0) (by first | omega | (unfold b2i; split <;> omega)) (g' := mC c h (u2 (τ2) 14 (n) (0)) (u_35)) (congrArg (fun f9 => Sum.inl (_, _, Sum.inl f9)) (u2_upc (x := 1))) (fun i9 hi9 hn9 => ((mC_row_o (a := 12) ⟨by decide, by decide⟩) i9 hi9 hn9).trans ((mC_row_o (a := 12) ⟨by decide, by decide⟩) i9 hi9 hn9).symm) dX4_storm_313 (fun H locs hP hS => ?_)
                    have hG_37 := GI_u14 hG2 (v := 0) (k := n) (by omega)
                    refine lv_aload_n hF.1 hF.2.1 dX4_storm_314 rfl (lv_at hl 3 rfl) ?_
                    refine z_get hF hK hP (k := 0) (C := RX4) (T := TX4) (N := 22) (by omega) (rfl) rfl uin_X4 7 (by decide) mw_429 (v := .ref (h (6))) rfl dX4_storm_315 ?_
                    refine lv_iload hF.1 hF.2.1 dX4_storm_318 (lv_at hl 9 rfl) ?_
                    refine lv_iload hF.1 hF.2.1 dX4_storm_320 (lv_at hl 0 rfl) ?_
                    refine zi_if_lt (tgt := 330) hF.1 hF.2.1 (a := z_34) dX4_storm_322 (by decide) (by omega) (fun c_322 => ?_) (fun c_322 => ?_)
                    · skip
                      refine lv_aload_n hF.1 hF.2.1 dX4_storm_330 rfl (lv_at hl 3 rfl) ?_
                      refine z_get hF hK hP (k := 0) (C := RX4) (T := TX4) (N := 22) (by omega) (rfl) rfl uin_X4 7 (by decide) mw_429 (v := .ref (h (6))) rfl dX4_storm_331 ?_
                      refine lv_iload hF.1 hF.2.1 dX4_storm_334 (lv_at hl 9 rfl) ?_
                      refine z_iald hF hK hP (k := 6) (by decide) rfl 0 rfl (i := (n : Int)) (n) (rfl) (by omega) (by decide) (x := iz (τ2 8 n)) rfl dX4_storm_336 ?_
                      have q_38 := GI_8 hG2 (n)
                      refine z_iast hF hK hz hP hS (k := 6) (by decide) rfl 0 rfl (i := (n : Int)) (n) (rfl) (by omega) (by decide) (x := iz (τ2 8 n)) (g' := mC c h (u2 (u2 (τ2) 14 (n) (0)) 8 (n) (τ2 8 n)) (u_35)) (by show Sum.inl (_, _, Sum.inl _) = _; rw [u2_up]) (mC_row_o (a := 6) ⟨by decide, by decide⟩) dX4_storm_337 (fun H locs hP hS => ?_)
                      have hG_39 := GI_u8 hG_37 (v := τ2 8 n) (k := n) (by omega)
                      refine lv_iload hF.1 hF.2.1 dX4_storm_338 (lv_at hl 8 rfl) ?_
                      refine lv_iload hF.1 hF.2.1 dX4_storm_340 (lv_at hl 0 rfl) ?_
                      refine zi_if_lt (tgt := 349) hF.1 hF.2.1 (a := z_34) dX4_storm_342 (by decide) (by omega) (fun c_342 => ?_) (fun c_342 => ?_)
                      · skip
                        refine zi_const hF.1 hF.2.1 dX4_storm_349 ?_
                        refine zi_add hF.1 hF.2.1 dX4_storm_350 ?_
                        refine lv_istore (lv' := [(6, .int (iz (lo + 1))), (9, .int (iz (z_34))), (5, .int (iz (cl st8 n))), (7, .int (iz (τ2 8 n))), (0, .ref (h (0))), (1, .int (iz (sg))), (2, .int (iz (mi))), (3, .int (iz (du))), (4, .int (iz (en))), (8, .int (iz ((n : Int))))]) hF.1 hF.2.1 dX4_storm_351 hl (by decide) rfl (fun ls hl => ?_)
                        refine lv_aload_n hF.1 hF.2.1 dX4_storm_353 rfl (lv_at hl 4 rfl) ?_
                        refine lv_iload hF.1 hF.2.1 dX4_storm_354 (lv_at hl 2 rfl) ?_
                        refine lv_iload hF.1 hF.2.1 dX4_storm_356 (lv_at hl 3 rfl) ?_
                        refine z_ci (S := Unit) (w := fun _ => mC c h (u2 (u2 (τ2) 14 (n) (0)) 8 (n) (τ2 8 n)) u_35) (P := fun z _ => MN (u2 (u2 (τ2) 14 (n) (0)) 8 (n) (τ2 8 n)) (cl st8 n) (τ2 8 n) z) (z_runV (rm := { frames := 0, cells := 0, slots := 0, locals := 0 }) hF hK hP (c_X4_next l h D c (u2 (u2 (τ2) 14 (n) (0)) 8 (n) (τ2 8 n)) u_35 hinj hG_39 (cl st8 n) (τ2 8 n) (by omega) _) (gIn_V mw_531 mw_532 mw_533 mw_447 mw_530) rfl rfl ⟨rfl, by decide, by decide, rfl⟩ ⟨Nat.le_of_ble_eq_true rfl, Nat.le_of_ble_eq_true rfl⟩ (k := 0) (T := TX4) (N := 22) (by omega) rfl (rfl) rfl (As := [.int (iz (cl st8 n)), .int (iz (τ2 8 n))]) (rest := []) rfl hl.1 rfl (Nat.le_of_ble_eq_true rfl) dX4_storm_358 ⟨Nat.le_refl _, Nat.le_refl _⟩) hz hA hS (fun z_40 u_41 H locs hp hP hS => ?_)
                        have hmn_42 : MN (u2 (u2 (τ2) 14 (n) (0)) 8 (n) (τ2 8 n)) (cl st8 n) (τ2 8 n) z_40 := hp
                        have q_43 := MNi_rg hmn_42
                        have q_44 := GI_01 hG_39
                        refine lv_istore (lv' := [(8, .int (iz (z_40))), (6, .int (iz (lo + 1))), (9, .int (iz (z_34))), (5, .int (iz (cl st8 n))), (7, .int (iz (τ2 8 n))), (0, .ref (h (0))), (1, .int (iz (sg))), (2, .int (iz (mi))), (3, .int (iz (du))), (4, .int (iz (en)))]) hF.1 hF.2.1 dX4_storm_361 hl (by decide) rfl (fun ls hl => ?_)
                        refine lv_goto (tgt := 254) hF.1 hF.2.1 dX4_storm_363 (by decide) ?_
                        have nv_45 : (-1 ≤ (z_40) ∧ (z_40) ≤ 16) ∧ ((-1 : Int) ≤ (τ2 8 n) ∧ (τ2 8 n) ≤ (999 : Int)) ∧ ((0 : Int) ≤ (lo + 1) ∧ (lo + 1) ≤ ((τ2 8 n) : Int) + 1) ∧ (MN (u2 (u2 (τ2) 14 (n) (0)) 8 (n) (τ2 8 n)) (cl st8 n) (τ2 8 n) (z_40)) ∧ (GI (u2 (u2 (τ2) 14 (n) (0)) 8 (n) (τ2 8 n))) ∧ (∀ k, k < 17 → bt (cl st8 n) k → 1 ≤ (u2 (u2 (τ2) 14 (n) (0)) 8 (n) (τ2 8 n)) 9 k) ∧ (∀ τ9 b9, (∃ N, MRz en N (u2 (u2 (τ2) 14 (n) (0)) 8 (n) (τ2 8 n)) (cl st8 n) (τ2 8 n) (lo + 1) (z_40) τ9 b9) → ∃ N, MRz en N τ1 st9 (-1) 0 z_20 τ9 b9) ∧ ((u_35) 1 0 = 0) := ⟨by omega, by omega, by omega, hmn_42, hG_39, fun k hk q => by have q9 := hln k hk ((bt_cl (by omega) (by omega)).mp q).1; simpa [u2] using q9, fun τ9 b9 q => hcont τ9 b9 (by obtain ⟨N, q⟩ := q; exact ⟨N + 1, Or.inr ⟨n, z_34, z_40, hzn, hmf, Or.inr ⟨by omega, hmn_42, q⟩⟩⟩), (congrFun hku_35 0).trans hk2⟩
                        exact ih_254 (z_40, cl st8 n, τ2 8 n, lo + 1, u2 (u2 (τ2) 14 (n) (0)) 8 (n) (τ2 8 n), u_35) nv_45 (by show (1000 - (τ2 8 n)).toNat < (1000 - la).toNat; omega) _ _ _ hP hS (lv_sub hl [5, 6, 7, 8, 9, 3, 1, 4, 0] rfl)
                      · skip
                        exact absurd c_342 (by omega)
                    · skip
                      exact absurd c_322 (by omega)
                  · skip
                    refine zi_const hF.1 hF.2.1 dX4_storm_308 ?_
                    refine lv_goto (tgt := 313) hF.1 hF.2.1 dX4_storm_309 (by decide) ?_
                    refine z_zast hF hK hz hP hS (k := 12) (by decide) rfl 4 rfl (i := (n : Int)) (n) (rfl) (by omega) (by decide) (x := 1) (by first | omega | (unfold b2i; split <;> omega)) (g' := mC c h (u2 (τ2) 14 (n) (1)) (u_35)) (congrArg (fun f9 => Sum.inl (_, _, Sum.inl f9)) (u2_upc (x := 1))) (fun i9 hi9 hn9 => ((mC_row_o (a := 12) ⟨by decide, by decide⟩) i9 hi9 hn9).trans ((mC_row_o (a := 12) ⟨by decide, by decide⟩) i9 hi9 hn9).symm) dX4_storm_313 (fun H locs hP hS => ?_)
                    have hG_46 := GI_u14 hG2 (v := 1) (k := n) (by omega)
                    refine lv_aload_n hF.1 hF.2.1 dX4_storm_314 rfl (lv_at hl 3 rfl) ?_
                    refine z_get hF hK hP (k := 0) (C := RX4) (T := TX4) (N := 22) (by omega) (rfl) rfl uin_X4 7 (by decide) mw_429 (v := .ref (h (6))) rfl dX4_storm_315 ?_
                    refine lv_iload hF.1 hF.2.1 dX4_storm_318 (lv_at hl 9 rfl) ?_
                    refine lv_iload hF.1 hF.2.1 dX4_storm_320 (lv_at hl 0 rfl) ?_
                    refine zi_if_lt (tgt := 330) hF.1 hF.2.1 (a := z_34) dX4_storm_322 (by decide) (by omega) (fun c_322 => ?_) (fun c_322 => ?_)
                    · skip
                      exact absurd c_322 (by omega)
                    · skip
                      refine lv_iload hF.1 hF.2.1 dX4_storm_325 (lv_at hl 0 rfl) ?_
                      refine lv_goto (tgt := 337) hF.1 hF.2.1 dX4_storm_327 (by decide) ?_
                      refine z_iast hF hK hz hP hS (k := 6) (by decide) rfl 0 rfl (i := (n : Int)) (n) (rfl) (by omega) (by decide) (x := iz (z_34)) (g' := mC c h (u2 (u2 (τ2) 14 (n) (1)) 8 (n) (z_34)) (u_35)) (by show Sum.inl (_, _, Sum.inl _) = _; rw [u2_up]) (mC_row_o (a := 6) ⟨by decide, by decide⟩) dX4_storm_337 (fun H locs hP hS => ?_)
                      have hG_47 := GI_u8 hG_46 (v := z_34) (k := n) (by omega)
                      refine lv_iload hF.1 hF.2.1 dX4_storm_338 (lv_at hl 8 rfl) ?_
                      refine lv_iload hF.1 hF.2.1 dX4_storm_340 (lv_at hl 0 rfl) ?_
                      refine zi_if_lt (tgt := 349) hF.1 hF.2.1 (a := z_34) dX4_storm_342 (by decide) (by omega) (fun c_342 => ?_) (fun c_342 => ?_)
                      · skip
                        exact absurd c_342 (by omega)
                      · skip
                        refine zi_const hF.1 hF.2.1 dX4_storm_345 ?_
                        refine lv_goto (tgt := 350) hF.1 hF.2.1 dX4_storm_346 (by decide) ?_
                        refine zi_add hF.1 hF.2.1 dX4_storm_350 ?_
                        refine lv_istore (lv' := [(6, .int (iz (lo + 0))), (9, .int (iz (z_34))), (5, .int (iz (cl st8 n))), (7, .int (iz (τ2 8 n))), (0, .ref (h (0))), (1, .int (iz (sg))), (2, .int (iz (mi))), (3, .int (iz (du))), (4, .int (iz (en))), (8, .int (iz ((n : Int))))]) hF.1 hF.2.1 dX4_storm_351 hl (by decide) rfl (fun ls hl => ?_)
                        have e_48 : lo + 0 = lo := by omega
                        have hl : lv_has ls 10 [(6, .int (iz (lo))), (9, .int (iz (z_34))), (5, .int (iz (cl st8 n))), (7, .int (iz (τ2 8 n))), (0, .ref (h (0))), (1, .int (iz (sg))), (2, .int (iz (mi))), (3, .int (iz (du))), (4, .int (iz (en))), (8, .int (iz ((n : Int))))] := by rw [← e_48]; exact hl
                        refine lv_aload_n hF.1 hF.2.1 dX4_storm_353 rfl (lv_at hl 4 rfl) ?_
                        refine lv_iload hF.1 hF.2.1 dX4_storm_354 (lv_at hl 2 rfl) ?_
                        refine lv_iload hF.1 hF.2.1 dX4_storm_356 (lv_at hl 3 rfl) ?_
                        refine z_ci (S := Unit) (w := fun _ => mC c h (u2 (u2 (τ2) 14 (n) (1)) 8 (n) (z_34)) u_35) (P := fun z _ => MN (u2 (u2 (τ2) 14 (n) (1)) 8 (n) (z_34)) (cl st8 n) (τ2 8 n) z) (z_runV (rm := { frames := 0, cells := 0, slots := 0, locals := 0 }) hF hK hP (c_X4_next l h D c (u2 (u2 (τ2) 14 (n) (1)) 8 (n) (z_34)) u_35 hinj hG_47 (cl st8 n) (τ2 8 n) (by omega) _) (gIn_V mw_531 mw_532 mw_533 mw_447 mw_530) rfl rfl ⟨rfl, by decide, by decide, rfl⟩ ⟨Nat.le_of_ble_eq_true rfl, Nat.le_of_ble_eq_true rfl⟩ (k := 0) (T := TX4) (N := 22) (by omega) rfl (rfl) rfl (As := [.int (iz (cl st8 n)), .int (iz (τ2 8 n))]) (rest := []) rfl hl.1 rfl (Nat.le_of_ble_eq_true rfl) dX4_storm_358 ⟨Nat.le_refl _, Nat.le_refl _⟩) hz hA hS (fun z_49 u_50 H locs hp hP hS => ?_)
                        have hmn_51 : MN (u2 (u2 (τ2) 14 (n) (1)) 8 (n) (z_34)) (cl st8 n) (τ2 8 n) z_49 := hp
                        have q_52 := MNi_rg hmn_51
                        have q_53 := GI_01 hG_47
                        refine lv_istore (lv' := [(8, .int (iz (z_49))), (6, .int (iz (lo))), (9, .int (iz (z_34))), (5, .int (iz (cl st8 n))), (7, .int (iz (τ2 8 n))), (0, .ref (h (0))), (1, .int (iz (sg))), (2, .int (iz (mi))), (3, .int (iz (du))), (4, .int (iz (en)))]) hF.1 hF.2.1 dX4_storm_361 hl (by decide) rfl (fun ls hl => ?_)
                        refine lv_goto (tgt := 254) hF.1 hF.2.1 dX4_storm_363 (by decide) ?_
                        have nv_54 : (-1 ≤ (z_49) ∧ (z_49) ≤ 16) ∧ ((-1 : Int) ≤ (τ2 8 n) ∧ (τ2 8 n) ≤ (999 : Int)) ∧ ((0 : Int) ≤ (lo) ∧ (lo) ≤ ((τ2 8 n) : Int) + 1) ∧ (MN (u2 (u2 (τ2) 14 (n) (1)) 8 (n) (z_34)) (cl st8 n) (τ2 8 n) (z_49)) ∧ (GI (u2 (u2 (τ2) 14 (n) (1)) 8 (n) (z_34))) ∧ (∀ k, k < 17 → bt (cl st8 n) k → 1 ≤ (u2 (u2 (τ2) 14 (n) (1)) 8 (n) (z_34)) 9 k) ∧ (∀ τ9 b9, (∃ N, MRz en N (u2 (u2 (τ2) 14 (n) (1)) 8 (n) (z_34)) (cl st8 n) (τ2 8 n) (lo) (z_49) τ9 b9) → ∃ N, MRz en N τ1 st9 (-1) 0 z_20 τ9 b9) ∧ ((u_35) 1 0 = 0) := ⟨by omega, by omega, by omega, hmn_51, hG_47, fun k hk q => by have q9 := hln k hk ((bt_cl (by omega) (by omega)).mp q).1; simpa [u2] using q9, fun τ9 b9 q => hcont τ9 b9 (by obtain ⟨N, q⟩ := q; exact ⟨N + 1, Or.inr ⟨n, z_34, z_49, hzn, hmf, Or.inl ⟨by omega, hmn_51, q⟩⟩⟩), (congrFun hku_35 0).trans hk2⟩
                        exact ih_254 (z_49, cl st8 n, τ2 8 n, lo, u2 (u2 (τ2) 14 (n) (1)) 8 (n) (z_34), u_35) nv_54 (by show (1000 - (τ2 8 n)).toNat < (1000 - la).toNat; omega) _ _ _ hP hS (lv_sub hl [5, 6, 7, 8, 9, 3, 1, 4, 0] rfl)
              · skip
                refine z_join (n := 17) (h := h) (D := D) (A := A) (V := Int) (tgt := 192) (nL := 10) (wd := fun v_55 => mC c h (τ1) (u2 (κ) 1 0 (0))) (lv := fun v_55 => [(0, .ref (h (0))), (1, .int (iz (sg))), (2, .int (iz (mi))), (3, .int (iz (du))), (4, .int (iz (en))), (5, .int (iz (st9))), (6, .int (iz ((i : Int))))]) (stk := fun v_55 => [.int (iz (v_55))]) (inv := fun v_55 => (v_55 = b2i (hitM τ sg mi en i))) ?_ (fun jn_192 => ?_)
                · skip
                  intro v hv H locs ls hP hS hl
                  have hP : zB 17 h D (mC c h (τ1) (u2 (κ) 1 0 (0))) H := hP
                  have hl : lv_has ls 10 [(0, .ref (h (0))), (1, .int (iz (sg))), (2, .int (iz (mi))), (3, .int (iz (du))), (4, .int (iz (en))), (5, .int (iz (st9))), (6, .int (iz ((i : Int))))] := hl
                  have hvq : v = b2i (hitM τ sg mi en i) := hv
                  obtain rfl : v = b2i (hitM τ sg mi en i) := hvq
                  refine lv_istore (lv' := [(7, .int (iz (b2i (hitM τ sg mi en i)))), (0, .ref (h (0))), (1, .int (iz (sg))), (2, .int (iz (mi))), (3, .int (iz (du))), (4, .int (iz (en))), (5, .int (iz (st9))), (6, .int (iz ((i : Int))))]) hF.1 hF.2.1 dX4_storm_192 hl (by decide) rfl (fun ls hl => ?_)
                  refine lv_iload hF.1 hF.2.1 dX4_storm_194 (lv_at hl 6 rfl) ?_
                  refine lv_iload hF.1 hF.2.1 dX4_storm_196 (lv_at hl 0 rfl) ?_
                  refine zi_ifb_eq (tgt := 208) hF.1 hF.2.1 (P := hitM τ sg mi en i) dX4_storm_198 (by decide) (fun c_198 => ?_) (fun c_198 => ?_)
                  · skip
                    refine zi_const hF.1 hF.2.1 dX4_storm_208 ?_
                    refine zi_ior hF.1 hF.2.1 (a := st9) (b := 0) dX4_storm_209 ?_
                    have q_56 : -2147483648 ≤ ior st9 0 ∧ ior st9 0 ≤ 2147483647 := ti_rg _
                    refine lv_istore (lv' := [(5, .int (iz (ior st9 0))), (7, .int (iz (b2i (hitM τ sg mi en i)))), (0, .ref (h (0))), (1, .int (iz (sg))), (2, .int (iz (mi))), (3, .int (iz (du))), (4, .int (iz (en))), (6, .int (iz ((i : Int))))]) hF.1 hF.2.1 dX4_storm_210 hl (by decide) rfl (fun ls hl => ?_)
                    refine lv_aload_n hF.1 hF.2.1 dX4_storm_212 rfl (lv_at hl 2 rfl) ?_
                    refine z_get hF hK hP (k := 0) (C := RX4) (T := TX4) (N := 22) (by omega) (rfl) rfl uin_X4 13 (by decide) mw_436 (v := .ref (h (12))) rfl dX4_storm_213 ?_
                    refine lv_iload hF.1 hF.2.1 dX4_storm_216 (lv_at hl 7 rfl) ?_
                    refine lv_dup2_11 hF.1 hF.2.1 dX4_storm_218 rfl rfl ?_
                    refine z_zald hF hK hP (k := 12) (by decide) rfl 4 rfl (i := (i : Int)) (i) (rfl) (by omega) (by decide) (x := iz (τ1 14 i)) rfl dX4_storm_219 ?_
                    have q_57 := GI_14 hG1 (i)
                    refine lv_iload hF.1 hF.2.1 dX4_storm_220 (lv_at hl 1 rfl) ?_
                    refine zi_ifb_ne (tgt := 229) hF.1 hF.2.1 (P := hitM τ sg mi en i) dX4_storm_222 (by decide) (fun c_222 => ?_) (fun c_222 => ?_)
                    · skip
                      exact absurd c_222 c_198
                    · skip
                      refine zi_const hF.1 hF.2.1 dX4_storm_225 ?_
                      refine lv_goto (tgt := 230) hF.1 hF.2.1 dX4_storm_226 (by decide) ?_
                      refine zi_iandE hF.1 hF.2.1 (a := τ1 14 i) (b := 1) (r := τ1 14 i) (ian_1 (GI_14 hG1 i)) dX4_storm_230 ?_
                      refine z_zast hF hK hz hP hS (k := 12) (by decide) rfl 4 rfl (i := (i : Int)) (i) (rfl) (by omega) (by decide) (x := τ1 14 i) (by first | omega | (unfold b2i; split <;> omega)) (g' := mC c h (u2 (τ1) 14 (i) (τ1 14 i)) (u2 (κ) 1 0 (0))) (by show Sum.inl (_, _, Sum.inl _) = _; rw [u2_up]) (mC_row_o (a := 12) ⟨by decide, by decide⟩) dX4_storm_231 (fun H locs hP hS => ?_)
                      have hG_58 := GI_u14 hG1 (v := τ1 14 i) (k := i) (by omega)
                      refine lv_iinc (v := iz (((i + 1 : Nat) : Int))) (lv' := [(6, .int (iz (((i + 1 : Nat) : Int)))), (5, .int (iz (ior st9 0))), (7, .int (iz (b2i (hitM τ sg mi en i)))), (0, .ref (h (0))), (1, .int (iz (sg))), (2, .int (iz (mi))), (3, .int (iz (du))), (4, .int (iz (en)))]) hF.1 hF.2.1 dX4_storm_232 hl (k := 7) rfl ((iz_add _ _).trans (congrArg iz (by omega))) (by decide) rfl (fun ls hl => ?_)
                      refine lv_goto (tgt := 126) hF.1 hF.2.1 dX4_storm_235 (by decide) ?_
                      have nv_59 : ((i + 1) ≤ 16 ∧ ((i + 1) : Int) ≤ τ 0 1) ∧ (∀ r, r ≠ 14 → (u2 (τ1) 14 (i) (τ1 14 i)) r = stT τ sg mi en r) ∧ (∀ k : Nat, (u2 (τ1) 14 (i) (τ1 14 i)) 14 k = ie (k < (i + 1) ∧ hitM τ sg mi en k) 0 (τ 14 k)) ∧ (∀ k, k < 32 → (bt (ior st9 0) k ↔ (k < (i + 1) ∧ hitM τ sg mi en k))) ∧ (GI (u2 (τ1) 14 (i) (τ1 14 i))) := ⟨by omega, fun r hr9 => (u2_row hr9).trans (hrow r hr9), on_s hon (by rw [ie_f c_198]; exact e14), bt_s0 hbt c_198, hG_58⟩
                      exact ih_126 (i + 1, ior st9 0, u2 (τ1) 14 (i) (τ1 14 i)) nv_59 (by show 17 - (i + 1) < 17 - i; omega) _ _ _ hP hS (lv_sub hl [3, 4, 5, 6, 7, 1, 0] rfl)
                  · skip
                    refine zi_const hF.1 hF.2.1 dX4_storm_201 ?_
                    refine lv_iload hF.1 hF.2.1 dX4_storm_202 (lv_at hl 7 rfl) ?_
                    refine zi_ishl hF.1 hF.2.1 (a := 1) (b := (i : Int)) dX4_storm_204 ?_
                    have q_60 : -2147483648 ≤ ish 1 ((i : Int)) ∧ ish 1 ((i : Int)) ≤ 2147483647 := ti_rg _
                    refine lv_goto (tgt := 209) hF.1 hF.2.1 dX4_storm_205 (by decide) ?_
                    refine zi_ior hF.1 hF.2.1 (a := st9) (b := ish 1 ((i : Int))) dX4_storm_209 ?_
                    have q_61 : -2147483648 ≤ ior st9 (ish 1 ((i : Int))) ∧ ior st9 (ish 1 ((i : Int))) ≤ 2147483647 := ti_rg _
                    refine lv_istore (lv' := [(5, .int (iz (ior st9 (ish 1 ((i : Int)))))), (7, .int (iz (b2i (hitM τ sg mi en i)))), (0, .ref (h (0))), (1, .int (iz (sg))), (2, .int (iz (mi))), (3, .int (iz (du))), (4, .int (iz (en))), (6, .int (iz ((i : Int))))]) hF.1 hF.2.1 dX4_storm_210 hl (by decide) rfl (fun ls hl => ?_)
                    refine lv_aload_n hF.1 hF.2.1 dX4_storm_212 rfl (lv_at hl 2 rfl) ?_
                    refine z_get hF hK hP (k := 0) (C := RX4) (T := TX4) (N := 22) (by omega) (rfl) rfl uin_X4 13 (by decide) mw_436 (v := .ref (h (12))) rfl dX4_storm_213 ?_
                    refine lv_iload hF.1 hF.2.1 dX4_storm_216 (lv_at hl 7 rfl) ?_
                    refine lv_dup2_11 hF.1 hF.2.1 dX4_storm_218 rfl rfl ?_
                    refine z_zald hF hK hP (k := 12) (by decide) rfl 4 rfl (i := (i : Int)) (i) (rfl) (by omega) (by decide) (x := iz (τ1 14 i)) rfl dX4_storm_219 ?_
                    have q_62 := GI_14 hG1 (i)
                    refine lv_iload hF.1 hF.2.1 dX4_storm_220 (lv_at hl 1 rfl) ?_
                    refine zi_ifb_ne (tgt := 229) hF.1 hF.2.1 (P := hitM τ sg mi en i) dX4_storm_222 (by decide) (fun c_222 => ?_) (fun c_222 => ?_)
                    · skip
                      refine zi_const hF.1 hF.2.1 dX4_storm_229 ?_
                      refine zi_iandE hF.1 hF.2.1 (a := τ1 14 i) (b := 0) (r := 0) (ian_0 (GI_14 hG1 i)) dX4_storm_230 ?_
                      refine z_zast hF hK hz hP hS (k := 12) (by decide) rfl 4 rfl (i := (i : Int)) (i) (rfl) (by omega) (by decide) (x := 0) (by first | omega | (unfold b2i; split <;> omega)) (g' := mC c h (u2 (τ1) 14 (i) (0)) (u2 (κ) 1 0 (0))) (by show Sum.inl (_, _, Sum.inl _) = _; rw [u2_up]) (mC_row_o (a := 12) ⟨by decide, by decide⟩) dX4_storm_231 (fun H locs hP hS => ?_)
                      have hG_63 := GI_u14 hG1 (v := 0) (k := i) (by omega)
                      refine lv_iinc (v := iz (((i + 1 : Nat) : Int))) (lv' := [(6, .int (iz (((i + 1 : Nat) : Int)))), (5, .int (iz (ior st9 (ish 1 ((i : Int)))))), (7, .int (iz (b2i (hitM τ sg mi en i)))), (0, .ref (h (0))), (1, .int (iz (sg))), (2, .int (iz (mi))), (3, .int (iz (du))), (4, .int (iz (en)))]) hF.1 hF.2.1 dX4_storm_232 hl (k := 7) rfl ((iz_add _ _).trans (congrArg iz (by omega))) (by decide) rfl (fun ls hl => ?_)
                      refine lv_goto (tgt := 126) hF.1 hF.2.1 dX4_storm_235 (by decide) ?_
                      have nv_64 : ((i + 1) ≤ 16 ∧ ((i + 1) : Int) ≤ τ 0 1) ∧ (∀ r, r ≠ 14 → (u2 (τ1) 14 (i) (0)) r = stT τ sg mi en r) ∧ (∀ k : Nat, (u2 (τ1) 14 (i) (0)) 14 k = ie (k < (i + 1) ∧ hitM τ sg mi en k) 0 (τ 14 k)) ∧ (∀ k, k < 32 → (bt (ior st9 (ish 1 ((i : Int)))) k ↔ (k < (i + 1) ∧ hitM τ sg mi en k))) ∧ (GI (u2 (τ1) 14 (i) (0))) := ⟨by omega, fun r hr9 => (u2_row hr9).trans (hrow r hr9), on_s hon ((ie_t c_198).symm), bt_s1 hbt (by omega) c_198, hG_63⟩
                      exact ih_126 (i + 1, ior st9 (ish 1 ((i : Int))), u2 (τ1) 14 (i) (0)) nv_64 (by show 17 - (i + 1) < 17 - i; omega) _ _ _ hP hS (lv_sub hl [3, 4, 5, 6, 7, 1, 0] rfl)
                    · skip
                      exact absurd c_198 c_222
                · skip
                  refine lv_aload_n hF.1 hF.2.1 dX4_storm_135 rfl (lv_at hl 0 rfl) ?_
                  refine z_get hF hK hP (k := 0) (C := RX4) (T := TX4) (N := 22) (by omega) (rfl) rfl uin_X4 13 (by decide) mw_436 (v := .ref (h (12))) rfl dX4_storm_136 ?_
                  refine lv_iload hF.1 hF.2.1 dX4_storm_139 (lv_at hl 6 rfl) ?_
                  refine z_zald hF hK hP (k := 12) (by decide) rfl 4 rfl (i := (i : Int)) (i) (rfl) (by omega) (by decide) (x := iz (τ1 14 i)) rfl dX4_storm_141 ?_
                  have q_65 := GI_14 hG1 (i)
                  refine zi_if_eq (tgt := 191) hF.1 hF.2.1 (a := τ1 14 i) dX4_storm_142 (by decide) (by omega) (fun c_142 => ?_) (fun c_142 => ?_)
                  · skip
                    refine zi_const hF.1 hF.2.1 dX4_storm_191 ?_
                    have nv_66 : (((0)) = b2i (hitM τ sg mi en i)) := (by first | exact (b2i_t (by unfold hitM; omega)).symm | exact (b2i_f (by unfold hitM; omega)).symm)
                    exact jn_192 (0) nv_66 _ _ _ hP hS (lv_sub hl [0, 1, 2, 3, 4, 5, 6] rfl)
                  · skip
                    refine lv_aload_n hF.1 hF.2.1 dX4_storm_145 rfl (lv_at hl 0 rfl) ?_
                    refine z_get hF hK hP (k := 0) (C := RX4) (T := TX4) (N := 22) (by omega) (rfl) rfl uin_X4 6 (by decide) mw_428 (v := .ref (h (5))) rfl dX4_storm_146 ?_
                    refine lv_iload hF.1 hF.2.1 dX4_storm_149 (lv_at hl 6 rfl) ?_
                    refine z_iald hF hK hP (k := 5) (by decide) rfl 0 rfl (i := (i : Int)) (i) (rfl) (by omega) (by decide) (x := iz (τ1 7 i)) rfl dX4_storm_151 ?_
                    have q_67 := GI_7 hG1 (i)
                    refine lv_iload_n hF.1 hF.2.1 dX4_storm_152 rfl (lv_at hl 1 rfl) ?_
                    refine zi_icmp_ne (tgt := 191) hF.1 hF.2.1 (a := τ1 7 i) (b := sg) dX4_storm_153 (by decide) (by omega) (by omega) (fun c_153 => ?_) (fun c_153 => ?_)
                    · skip
                      refine zi_const hF.1 hF.2.1 dX4_storm_191 ?_
                      have nv_68 : (((0)) = b2i (hitM τ sg mi en i)) := (by first | exact (b2i_t (by unfold hitM; omega)).symm | exact (b2i_f (by unfold hitM; omega)).symm)
                      exact jn_192 (0) nv_68 _ _ _ hP hS (lv_sub hl [0, 1, 2, 3, 4, 5, 6] rfl)
                    · skip
                      refine lv_aload_n hF.1 hF.2.1 dX4_storm_156 rfl (lv_at hl 0 rfl) ?_
                      refine z_get hF hK hP (k := 0) (C := RX4) (T := TX4) (N := 22) (by omega) (rfl) rfl uin_X4 7 (by decide) mw_429 (v := .ref (h (6))) rfl dX4_storm_157 ?_
                      refine lv_iload hF.1 hF.2.1 dX4_storm_160 (lv_at hl 6 rfl) ?_
                      refine z_iald hF hK hP (k := 6) (by decide) rfl 0 rfl (i := (i : Int)) (i) (rfl) (by omega) (by decide) (x := iz (τ1 8 i)) rfl dX4_storm_162 ?_
                      have q_69 := GI_8 hG1 (i)
                      refine lv_iload hF.1 hF.2.1 dX4_storm_163 (lv_at hl 4 rfl) ?_
                      refine zi_icmp_ge (tgt := 191) hF.1 hF.2.1 (a := τ1 8 i) (b := en) dX4_storm_165 (by decide) (by omega) (by omega) (fun c_165 => ?_) (fun c_165 => ?_)
                      · skip
                        refine zi_const hF.1 hF.2.1 dX4_storm_191 ?_
                        have nv_70 : (((0)) = b2i (hitM τ sg mi en i)) := (by first | exact (b2i_t (by unfold hitM; omega)).symm | exact (b2i_f (by unfold hitM; omega)).symm)
                        exact jn_192 (0) nv_70 _ _ _ hP hS (lv_sub hl [0, 1, 2, 3, 4, 5, 6] rfl)
                      · skip
                        refine lv_aload_n hF.1 hF.2.1 dX4_storm_168 rfl (lv_at hl 0 rfl) ?_
                        refine z_get hF hK hP (k := 0) (C := RX4) (T := TX4) (N := 22) (by omega) (rfl) rfl uin_X4 7 (by decide) mw_429 (v := .ref (h (6))) rfl dX4_storm_169 ?_
                        refine lv_iload hF.1 hF.2.1 dX4_storm_172 (lv_at hl 6 rfl) ?_
                        refine z_iald hF hK hP (k := 6) (by decide) rfl 0 rfl (i := (i : Int)) (i) (rfl) (by omega) (by decide) (x := iz (τ1 8 i)) rfl dX4_storm_174 ?_
                        have q_71 := GI_8 hG1 (i)
                        refine lv_aload_n hF.1 hF.2.1 dX4_storm_175 rfl (lv_at hl 0 rfl) ?_
                        refine z_get hF hK hP (k := 0) (C := RX4) (T := TX4) (N := 22) (by omega) (rfl) rfl uin_X4 8 (by decide) mw_430 (v := .ref (h (7))) rfl dX4_storm_176 ?_
                        refine lv_iload hF.1 hF.2.1 dX4_storm_179 (lv_at hl 6 rfl) ?_
                        refine z_iald hF hK hP (k := 7) (by decide) rfl 0 rfl (i := (i : Int)) (i) (rfl) (by omega) (by decide) (x := iz (τ1 9 i)) rfl dX4_storm_181 ?_
                        have q_72 := GI_9 hG1 (i)
                        refine zi_add hF.1 hF.2.1 dX4_storm_182 ?_
                        refine lv_iload_n hF.1 hF.2.1 dX4_storm_183 rfl (lv_at hl 2 rfl) ?_
                        refine zi_icmp_le (tgt := 191) hF.1 hF.2.1 (a := (τ1 8 i) + (τ1 9 i)) (b := mi) dX4_storm_184 (by decide) (by omega) (by omega) (fun c_184 => ?_) (fun c_184 => ?_)
                        · skip
                          refine zi_const hF.1 hF.2.1 dX4_storm_191 ?_
                          have nv_73 : (((0)) = b2i (hitM τ sg mi en i)) := (by first | exact (b2i_t (by unfold hitM; omega)).symm | exact (b2i_f (by unfold hitM; omega)).symm)
                          exact jn_192 (0) nv_73 _ _ _ hP hS (lv_sub hl [0, 1, 2, 3, 4, 5, 6] rfl)
                        · skip
                          refine zi_const hF.1 hF.2.1 dX4_storm_187 ?_
                          refine lv_goto (tgt := 192) hF.1 hF.2.1 dX4_storm_188 (by decide) ?_
                          have nv_74 : (((1)) = b2i (hitM τ sg mi en i)) := (by first | exact (b2i_t (by unfold hitM; omega)).symm | exact (b2i_f (by unfold hitM; omega)).symm)
                          exact jn_192 (1) nv_74 _ _ _ hP hS (lv_sub hl [0, 1, 2, 3, 4, 5, 6] rfl)
            · skip
              refine lv_iload_n hF.1 hF.2.1 dX4_storm_59 rfl (lv_at hl 2 rfl) ?_
              refine lv_iload_n hF.1 hF.2.1 dX4_storm_60 rfl (lv_at hl 3 rfl) ?_
              refine zi_add hF.1 hF.2.1 dX4_storm_61 ?_
              refine zi_sipush hF.1 hF.2.1 dX4_storm_62 (by decide) ?_
              refine zi_icmp_le (tgt := 74) hF.1 hF.2.1 (a := mi + du) (b := 1000) dX4_storm_65 (by decide) (by omega) (by omega) (fun c_65 => ?_) (fun c_65 => ?_)
              · skip
                refine lv_iload_n hF.1 hF.2.1 dX4_storm_74 rfl (lv_at hl 2 rfl) ?_
                refine lv_iload_n hF.1 hF.2.1 dX4_storm_75 rfl (lv_at hl 3 rfl) ?_
                refine zi_add hF.1 hF.2.1 dX4_storm_76 ?_
                have nv_75 : ((((mi + du)) : Int) = min (mi + du) 1000) := (by omega)
                exact jn_77 (mi + du) nv_75 _ _ _ hP hS (lv_sub hl [0, 1, 2, 3] rfl)
              · skip
                refine zi_sipush hF.1 hF.2.1 dX4_storm_68 (by decide) ?_
                refine lv_goto (tgt := 77) hF.1 hF.2.1 dX4_storm_71 (by decide) ?_
                have nv_76 : ((((1000)) : Int) = min (mi + du) 1000) := (by omega)
                exact jn_77 (1000) nv_76 _ _ _ hP hS (lv_sub hl [0, 1, 2, 3] rfl)
          · skip
            exact absurd c_54 (by omega)
        · skip
          refine zi_const hF.1 hF.2.1 dX4_storm_42 ?_
          refine lv_goto (tgt := 47) hF.1 hF.2.1 dX4_storm_43 (by decide) ?_
          refine z_put hF hK hz hP hS (k := 0) (C := RX4) (T := TX4) (N := 22) (by omega) (rfl) rfl uin_X4 tyX4_ok nmX4 21 (by decide) mw_442 rfl (⟨rfl, rfl⟩) (by simp) (g' := mC c h (τ) (u2 (κ) 1 0 (3))) (rfl) (mC_t_o) dX4_storm_47 (fun H locs hP hS => ?_)
          refine lv_aload_n hF.1 hF.2.1 dX4_storm_50 rfl (lv_at hl 0 rfl) ?_
          refine z_get hF hK hP (k := 0) (C := RX4) (T := TX4) (N := 22) (by omega) (rfl) rfl uin_X4 21 (by decide) mw_442 (v := .int (iz (3))) rfl dX4_storm_51 ?_
          refine zi_if_le (tgt := 59) hF.1 hF.2.1 (a := 3) dX4_storm_54 (by decide) (by omega) (fun c_54 => ?_) (fun c_54 => ?_)
          · skip
            exact absurd c_54 (by omega)
          · skip
            refine zi_const hF.1 hF.2.1 dX4_storm_57 ?_
            exact z_reti (P := fun z u9 => MSt τ sg mi du z u9.1 (u9.2 1 0)) (z := 0) (u := (τ, u2 (κ) 1 0 (3))) (w := fun u9 => mC c h u9.1 u9.2) hF hr hlocks hP hS (rfl) (⟨by have e9 : (u2 (κ) 1 0 (3)) 1 0 = (3 : Int) := rfl; show (u2 (κ) 1 0 (3)) 1 0 = _; rw [e9]; unfold thX; (repeat' split) <;> omega, Or.inl ⟨by unfold thX; (repeat' split) <;> omega, rfl, rfl⟩, hG⟩) dX4_storm_58
      · skip
        refine zi_const hF.1 hF.2.1 dX4_storm_30 ?_
        refine lv_goto (tgt := 47) hF.1 hF.2.1 dX4_storm_31 (by decide) ?_
        refine z_put hF hK hz hP hS (k := 0) (C := RX4) (T := TX4) (N := 22) (by omega) (rfl) rfl uin_X4 tyX4_ok nmX4 21 (by decide) mw_442 rfl (⟨rfl, rfl⟩) (by simp) (g' := mC c h (τ) (u2 (κ) 1 0 (2))) (rfl) (mC_t_o) dX4_storm_47 (fun H locs hP hS => ?_)
        refine lv_aload_n hF.1 hF.2.1 dX4_storm_50 rfl (lv_at hl 0 rfl) ?_
        refine z_get hF hK hP (k := 0) (C := RX4) (T := TX4) (N := 22) (by omega) (rfl) rfl uin_X4 21 (by decide) mw_442 (v := .int (iz (2))) rfl dX4_storm_51 ?_
        refine zi_if_le (tgt := 59) hF.1 hF.2.1 (a := 2) dX4_storm_54 (by decide) (by omega) (fun c_54 => ?_) (fun c_54 => ?_)
        · skip
          exact absurd c_54 (by omega)
        · skip
          refine zi_const hF.1 hF.2.1 dX4_storm_57 ?_
          exact z_reti (P := fun z u9 => MSt τ sg mi du z u9.1 (u9.2 1 0)) (z := 0) (u := (τ, u2 (κ) 1 0 (2))) (w := fun u9 => mC c h u9.1 u9.2) hF hr hlocks hP hS (rfl) (⟨by have e9 : (u2 (κ) 1 0 (2)) 1 0 = (2 : Int) := rfl; show (u2 (κ) 1 0 (2)) 1 0 = _; rw [e9]; unfold thX; (repeat' split) <;> omega, Or.inl ⟨by unfold thX; (repeat' split) <;> omega, rfl, rfl⟩, hG⟩) dX4_storm_58
  · skip
    refine zi_const hF.1 hF.2.1 dX4_storm_8 ?_
    refine lv_goto (tgt := 47) hF.1 hF.2.1 dX4_storm_9 (by decide) ?_
    refine z_put hF hK hz hP hS (k := 0) (C := RX4) (T := TX4) (N := 22) (by omega) (rfl) rfl uin_X4 tyX4_ok nmX4 21 (by decide) mw_442 rfl (⟨rfl, rfl⟩) (by simp) (g' := mC c h (τ) (u2 (κ) 1 0 (1))) (rfl) (mC_t_o) dX4_storm_47 (fun H locs hP hS => ?_)
    refine lv_aload_n hF.1 hF.2.1 dX4_storm_50 rfl (lv_at hl 0 rfl) ?_
    refine z_get hF hK hP (k := 0) (C := RX4) (T := TX4) (N := 22) (by omega) (rfl) rfl uin_X4 21 (by decide) mw_442 (v := .int (iz (1))) rfl dX4_storm_51 ?_
    refine zi_if_le (tgt := 59) hF.1 hF.2.1 (a := 1) dX4_storm_54 (by decide) (by omega) (fun c_54 => ?_) (fun c_54 => ?_)
    · skip
      exact absurd c_54 (by omega)
    · skip
      refine zi_const hF.1 hF.2.1 dX4_storm_57 ?_
      exact z_reti (P := fun z u9 => MSt τ sg mi du z u9.1 (u9.2 1 0)) (z := 0) (u := (τ, u2 (κ) 1 0 (1))) (w := fun u9 => mC c h u9.1 u9.2) hF hr hlocks hP hS (rfl) (⟨by have e9 : (u2 (κ) 1 0 (1)) 1 0 = (1 : Int) := rfl; show (u2 (κ) 1 0 (1)) 1 0 = _; rw [e9]; unfold thX; (repeat' split) <;> omega, Or.inl ⟨by unfold thX; (repeat' split) <;> omega, rfl, rfl⟩, hG⟩) dX4_storm_58
