def MF (τ : Nat → Nat → Int) (k : Nat) (fr z : Int) : Prop := (z = -1 ∧ ∀ sx, fr ≤ sx → sx + τ 9 k ≤ 1000 → wrg (u2 τ 8 k sx) ≠ 0) ∨ (fr ≤ z ∧ z + τ 9 k ≤ 1000 ∧ wrg (u2 τ 8 k z) = 0 ∧ ∀ sx, fr ≤ sx → sx < z → wrg (u2 τ 8 k sx) ≠ 0)
theorem u2_upc {σ : Nat → Nat → Int} {r i : Nat} {x y : Int} : (fun j => iz (u2 σ r i y r j)) = upd (fun j => iz (u2 σ r i x r j)) i (iz y) := by
  funext j
  unfold u2 upd
  by_cases hj : j = i
  · subst hj; simp
  · simp [hj]
def MFi (τ : Nat → Nat → Int) (k : Nat) (fr mj f : Int) : Prop := (f = -1 ∧ ∀ sx, fr ≤ sx → sx < mj → sx + τ 9 k ≤ 1000 → wrg (u2 τ 8 k sx) ≠ 0) ∨ (fr ≤ f ∧ mj = f + 1 ∧ f + τ 9 k ≤ 1000 ∧ wrg (u2 τ 8 k f) = 0 ∧ ∀ sx, fr ≤ sx → sx < f → wrg (u2 τ 8 k sx) ≠ 0)
/-- an act is laid at the first free number -/
def lay (τ : Nat → Nat → Int) (n : Nat) (sg sa ln ph dr lo ch : Int) : Nat → Nat → Int := u2 (u2 (u2 (u2 (u2 (u2 (u2 (u2 τ 7 n sg) 8 n sa) 9 n ln) 10 n ph) 11 n dr) 12 n lo) 13 n ch) 14 n 1
def inA (sa ln dr lo ch : Int) : Prop := (0 ≤ sa ∧ sa ≤ 999) ∧ (1 ≤ ln ∧ ln ≤ 200) ∧ (0 ≤ dr ∧ dr ≤ 200) ∧ (0 ≤ lo ∧ lo ≤ 200) ∧ (-1 ≤ ch ∧ ch ≤ 31)
def thL (τ : Nat → Nat → Int) (sg sa ln ph dr lo ch : Int) : Int := if (0 ≤ sg ∧ sg ≤ 2) ∧ (0 ≤ ph ∧ ph ≤ 2) then (if (0 ≤ sa ∧ sa ≤ 999) ∧ (1 ≤ ln ∧ ln ≤ 200) ∧ (0 ≤ dr ∧ dr ≤ 200) ∧ (0 ≤ lo ∧ lo ≤ 200) ∧ (-1 ≤ ch ∧ ch ≤ 31) then (if τ 0 1 = 16 then 3 else 0) else 2) else 1
def ML (τ : Nat → Nat → Int) (thr : Int) (τ1 : Nat → Nat → Int) (z : Int) (τ' : Nat → Nat → Int) (t : Int) : Prop := t = thr ∧ ((0 < thr ∧ z = 0 ∧ τ' = τ) ∨ (thr = 0 ∧ z = wrg τ1 ∧ τ' = u2 τ1 14 (τ 0 1).toNat 0)) ∧ GI τ'
def MPl (τ : Nat → Nat → Int) (thr : Int) (τ1 : Nat → Nat → Int) (z : Int) (τ' : Nat → Nat → Int) (t : Int) : Prop := t = thr ∧ ((0 < thr ∧ z = 0 ∧ τ' = τ) ∨ (thr = 0 ∧ ((wrg τ1 ≠ 0 ∧ z = -1 ∧ τ' = u2 τ1 14 (τ 0 1).toNat 0) ∨ (wrg τ1 = 0 ∧ z = τ 0 1 ∧ τ' = u2 (u2 τ1 14 (τ 0 1).toNat 1) 0 1 (τ 0 1 + 1))))) ∧ GI τ'

set_option maxRecDepth 100000 in
set_option maxHeartbeats 4000000 in
theorem c_X4_finds (l : Launch) (h : Nat → Nat) (D : va_G) (c : Nat → ClassId) (τ κ : Nat → Nat → Int) (hinj : ∀ i j, i < 17 → j < 17 → h i = h j → i = j) (hG : GI τ) (k : Nat) (hk : k < 17) (fr : Int) (hfr : 0 ≤ fr ∧ fr ≤ 1000) (hlen : 1 ≤ τ 9 k) :
    zMi (S := Nat → Nat → Int) l yX4_finds cX4_finds 6 (some .int) 4 94 [.ref (h (0)), .int (iz ((k : Int))), .int (iz (fr))] 17 h D (gT c) (mC c h (τ) (κ)) (fun κ9 => mC c h τ κ9) (fun z κ9 => MF τ k fr z ∧ κ9 1 = κ 1) := by
  refine zM_of (by decide) (Nat.le_of_ble_eq_true rfl) ?_
  intro p e s m below meth cd ls ⟨hF, hr, hlocks, hK⟩ hP hl
  have hz : zD (zA 17 h s.heap.size) 17 h := zD.self hinj s.heap.size
  have hA : ∀ q, s.heap.size ≤ q → zA 17 h s.heap.size q := zA_new
  generalize zA 17 h s.heap.size = A at hz hA ⊢
  have hS : va_S A s.heap s.heap [] := va_S.rf
  have hl : lv_has ls 6 [(0, .ref (h (0))), (1, .int (iz ((k : Int)))), (2, .int (iz (fr)))] := hl
  refine lv_aload_n hF.1 hF.2.1 dX4_finds_0 rfl (lv_at hl 0 rfl) ?_
  refine z_get hF hK hP (k := 0) (C := RX4) (T := TX4) (N := 22) (by omega) (rfl) rfl uin_X4 7 (by decide) mw_429 (v := .ref (h (6))) rfl dX4_finds_1 ?_
  refine lv_iload_n hF.1 hF.2.1 dX4_finds_4 rfl (lv_at hl 1 rfl) ?_
  refine z_iald hF hK hP (k := 6) (by decide) rfl 0 rfl (i := (k : Int)) (k) (rfl) (by omega) (by decide) (x := iz (τ 8 k)) rfl dX4_finds_5 ?_
  have q_1 := GI_8 hG (k)
  refine lv_istore_n (lv' := [(3, .int (iz (τ 8 k))), (0, .ref (h (0))), (1, .int (iz ((k : Int)))), (2, .int (iz (fr)))]) hF.1 hF.2.1 dX4_finds_6 rfl hl (by decide) rfl (fun ls hl => ?_)
  refine zi_const hF.1 hF.2.1 dX4_finds_7 ?_
  refine lv_istore (lv' := [(4, .int (iz (-1))), (3, .int (iz (τ 8 k))), (0, .ref (h (0))), (1, .int (iz ((k : Int)))), (2, .int (iz (fr)))]) hF.1 hF.2.1 dX4_finds_8 hl (by decide) rfl (fun ls hl => ?_)
  refine lv_iload_n hF.1 hF.2.1 dX4_finds_10 rfl (lv_at hl 4 rfl) ?_
  refine lv_istore (lv' := [(5, .int (iz (fr))), (4, .int (iz (-1))), (3, .int (iz (τ 8 k))), (0, .ref (h (0))), (1, .int (iz ((k : Int)))), (2, .int (iz (fr)))]) hF.1 hF.2.1 dX4_finds_11 hl (by decide) rfl (fun ls hl => ?_)
  have hP : zB 17 h D (mC c h (u2 (τ) 8 (k) (τ 8 k)) (κ)) s.heap := by rw [u2_self]; exact hP
  have hq8 := GI_8 hG k
  have nv_3 : (fr ≤ (fr) ∧ (fr) ≤ 1001 ∧ 0 ≤ (τ 8 k) ∧ (τ 8 k) ≤ 999 ∧ (-1 : Int) ≤ (-1) ∧ (-1) ≤ (1000 : Int)) ∧ (MFi τ k fr (fr) (-1)) ∧ ((κ) 1 = κ 1) := ⟨by omega, Or.inl ⟨rfl, fun sx q1 q2 => by omega⟩, rfl⟩
  refine z_loop (V := Int × Int × Int × (Nat → Nat → Int)) (nL := 6) (wd := fun v_2 => mC c h (u2 (τ) 8 (k) (v_2.2.2.1)) (v_2.2.2.2)) (lv := fun v_2 => [(0, .ref (h (0))), (1, .int (iz ((k : Int)))), (2, .int (iz (fr))), (3, .int (iz (τ 8 k))), (4, .int (iz (v_2.2.1))), (5, .int (iz (v_2.1)))]) (stk := fun v_2 => []) (mu := fun v_2 => (1002 - v_2.1).toNat) (inv := fun v_2 => (fr ≤ v_2.1 ∧ v_2.1 ≤ 1001 ∧ 0 ≤ v_2.2.2.1 ∧ v_2.2.2.1 ≤ 999 ∧ (-1 : Int) ≤ v_2.2.1 ∧ v_2.2.1 ≤ (1000 : Int)) ∧ (MFi τ k fr v_2.1 v_2.2.1) ∧ (v_2.2.2.2 1 = κ 1)) ?_ (fr, -1, τ 8 k, κ) nv_3 hP hS (lv_sub hl [3, 4, 5, 2, 1, 0] rfl)
  intro ⟨mj, f9, x, κ1⟩ hv ih_13 H locs ls hP hS hl
  have hP : zB 17 h D (mC c h (u2 (τ) 8 (k) (x)) (κ1)) H := hP
  have hl : lv_has ls 6 [(0, .ref (h (0))), (1, .int (iz ((k : Int)))), (2, .int (iz (fr))), (3, .int (iz (τ 8 k))), (4, .int (iz (f9))), (5, .int (iz (mj)))] := hl
  obtain ⟨hb, hfi, hk1⟩ : (fr ≤ mj ∧ mj ≤ 1001 ∧ 0 ≤ x ∧ x ≤ 999 ∧ (-1 : Int) ≤ f9 ∧ f9 ≤ (1000 : Int)) ∧ (MFi τ k fr mj f9) ∧ (κ1 1 = κ 1) := hv
  have hGx : GI (u2 (τ) 8 (k) (x)) := GI_u8 hG (by omega)
  refine lv_iload hF.1 hF.2.1 dX4_finds_13 (lv_at hl 5 rfl) ?_
  refine lv_aload_n hF.1 hF.2.1 dX4_finds_15 rfl (lv_at hl 0 rfl) ?_
  refine z_get hF hK hP (k := 0) (C := RX4) (T := TX4) (N := 22) (by omega) (rfl) rfl uin_X4 8 (by decide) mw_430 (v := .ref (h (7))) rfl dX4_finds_16 ?_
  refine lv_iload_n hF.1 hF.2.1 dX4_finds_19 rfl (lv_at hl 1 rfl) ?_
  refine z_iald hF hK hP (k := 7) (by decide) rfl 0 rfl (i := (k : Int)) (k) (rfl) (by omega) (by decide) (x := iz (τ 9 k)) rfl dX4_finds_20 ?_
  have q_4 := GI_9 hG (k)
  refine zi_add hF.1 hF.2.1 dX4_finds_21 ?_
  refine zi_sipush hF.1 hF.2.1 dX4_finds_22 (by decide) ?_
  refine zi_icmp_gt (tgt := 62) hF.1 hF.2.1 (a := mj + (τ 9 k)) (b := 1000) dX4_finds_25 (by decide) (by omega) (by omega) (fun c_25 => ?_) (fun c_25 => ?_)
  · skip
    refine lv_aload_n hF.1 hF.2.1 dX4_finds_62 rfl (lv_at hl 0 rfl) ?_
    refine z_get hF hK hP (k := 0) (C := RX4) (T := TX4) (N := 22) (by omega) (rfl) rfl uin_X4 7 (by decide) mw_429 (v := .ref (h (6))) rfl dX4_finds_63 ?_
    refine lv_iload_n hF.1 hF.2.1 dX4_finds_66 rfl (lv_at hl 1 rfl) ?_
    refine lv_iload_n hF.1 hF.2.1 dX4_finds_67 rfl (lv_at hl 3 rfl) ?_
    refine z_iast hF hK hz hP hS (k := 6) (by decide) rfl 0 rfl (i := (k : Int)) (k) (rfl) (by omega) (by decide) (x := iz (τ 8 k)) (g' := mC c h (u2 (τ) 8 (k) (τ 8 k)) (κ1)) (congrArg (fun f9 => Sum.inl (_, _, Sum.inl f9)) (u2_upc (x := x))) (fun i9 hi9 hn9 => ((mC_row_o (a := 6) ⟨by decide, by decide⟩) i9 hi9 hn9).trans ((mC_row_o (a := 6) ⟨by decide, by decide⟩) i9 hi9 hn9).symm) dX4_finds_68 (fun H locs hP hS => ?_)
    have hG_5 := GI_u8 hG (v := τ 8 k) (k := k) (by omega)
    refine lv_iload hF.1 hF.2.1 dX4_finds_69 (lv_at hl 4 rfl) ?_
    have hP : zB 17 h D (mC c h (τ) (κ1)) H := by rw [u2_self] at hP; exact hP
    exact z_reti (P := fun z κ9 => MF τ k fr z ∧ κ9 1 = κ 1) (z := f9) (u := κ1) (w := fun κ9 => mC c h τ κ9) hF hr hlocks hP hS (rfl) (⟨by rcases hfi with z9 | z9; exact Or.inl ⟨z9.1, fun sx q1 q2 => z9.2 sx q1 (by omega) q2⟩; exact Or.inr ⟨z9.1, z9.2.2.1, z9.2.2.2.1, z9.2.2.2.2⟩, hk1⟩) dX4_finds_71
  · skip
    refine lv_iload hF.1 hF.2.1 dX4_finds_28 (lv_at hl 4 rfl) ?_
    refine zi_if_ge (tgt := 62) hF.1 hF.2.1 (a := f9) dX4_finds_30 (by decide) (by omega) (fun c_30 => ?_) (fun c_30 => ?_)
    · skip
      refine lv_aload_n hF.1 hF.2.1 dX4_finds_62 rfl (lv_at hl 0 rfl) ?_
      refine z_get hF hK hP (k := 0) (C := RX4) (T := TX4) (N := 22) (by omega) (rfl) rfl uin_X4 7 (by decide) mw_429 (v := .ref (h (6))) rfl dX4_finds_63 ?_
      refine lv_iload_n hF.1 hF.2.1 dX4_finds_66 rfl (lv_at hl 1 rfl) ?_
      refine lv_iload_n hF.1 hF.2.1 dX4_finds_67 rfl (lv_at hl 3 rfl) ?_
      refine z_iast hF hK hz hP hS (k := 6) (by decide) rfl 0 rfl (i := (k : Int)) (k) (rfl) (by omega) (by decide) (x := iz (τ 8 k)) (g' := mC c h (u2 (τ) 8 (k) (τ 8 k)) (κ1)) (congrArg (fun f9 => Sum.inl (_, _, Sum.inl f9)) (u2_upc (x := x))) (fun i9 hi9 hn9 => ((mC_row_o (a := 6) ⟨by decide, by decide⟩) i9 hi9 hn9).trans ((mC_row_o (a := 6) ⟨by decide, by decide⟩) i9 hi9 hn9).symm) dX4_finds_68 (fun H locs hP hS => ?_)
      have hG_6 := GI_u8 hG (v := τ 8 k) (k := k) (by omega)
      refine lv_iload hF.1 hF.2.1 dX4_finds_69 (lv_at hl 4 rfl) ?_
      have hP : zB 17 h D (mC c h (τ) (κ1)) H := by rw [u2_self] at hP; exact hP
      exact z_reti (P := fun z κ9 => MF τ k fr z ∧ κ9 1 = κ 1) (z := f9) (u := κ1) (w := fun κ9 => mC c h τ κ9) hF hr hlocks hP hS (rfl) (⟨by rcases hfi with z9 | z9; exact Or.inl ⟨z9.1, fun sx q1 q2 => z9.2 sx q1 (by omega) q2⟩; exact Or.inr ⟨z9.1, z9.2.2.1, z9.2.2.2.1, z9.2.2.2.2⟩, hk1⟩) dX4_finds_71
    · skip
      refine lv_aload_n hF.1 hF.2.1 dX4_finds_33 rfl (lv_at hl 0 rfl) ?_
      refine z_get hF hK hP (k := 0) (C := RX4) (T := TX4) (N := 22) (by omega) (rfl) rfl uin_X4 7 (by decide) mw_429 (v := .ref (h (6))) rfl dX4_finds_34 ?_
      refine lv_iload_n hF.1 hF.2.1 dX4_finds_37 rfl (lv_at hl 1 rfl) ?_
      refine lv_iload hF.1 hF.2.1 dX4_finds_38 (lv_at hl 5 rfl) ?_
      refine z_iast hF hK hz hP hS (k := 6) (by decide) rfl 0 rfl (i := (k : Int)) (k) (rfl) (by omega) (by decide) (x := iz (mj)) (g' := mC c h (u2 (τ) 8 (k) (mj)) (κ1)) (congrArg (fun f9 => Sum.inl (_, _, Sum.inl f9)) (u2_upc (x := x))) (fun i9 hi9 hn9 => ((mC_row_o (a := 6) ⟨by decide, by decide⟩) i9 hi9 hn9).trans ((mC_row_o (a := 6) ⟨by decide, by decide⟩) i9 hi9 hn9).symm) dX4_finds_40 (fun H locs hP hS => ?_)
      have hG_7 := GI_u8 hG (v := mj) (k := k) (by omega)
      refine lv_aload_n hF.1 hF.2.1 dX4_finds_41 rfl (lv_at hl 0 rfl) ?_
      refine z_ci (S := Nat → Nat → Int) (w := fun κ9 => mC c h (u2 (τ) 8 (k) (mj)) κ9) (P := fun z κ9 => z = wrg (u2 (τ) 8 (k) (mj)) ∧ κ9 1 = κ1 1) (z_runV (rm := { frames := 3, cells := 0, slots := 0, locals := 71 }) hF hK hP (c_X4_wrong l h D c (u2 (τ) 8 (k) (mj)) κ1 hinj hG_7  _) (gIn_V mw_489 mw_490 mw_491 mw_447 mw_483) rfl rfl ⟨rfl, by decide, by decide, rfl⟩ ⟨Nat.le_of_ble_eq_true rfl, Nat.le_of_ble_eq_true rfl⟩ (k := 0) (T := TX4) (N := 22) (by omega) rfl (rfl) rfl (As := []) (rest := []) rfl hl.1 rfl (Nat.le_of_ble_eq_true rfl) dX4_finds_42 ⟨Nat.le_refl _, Nat.le_refl _⟩) hz hA hS (fun z_8 u_9 H locs hp hP hS => ?_)
      obtain ⟨rfl, hku_9⟩ : z_8 = wrg (u2 (τ) 8 (k) (mj)) ∧ u_9 1 = κ1 1 := hp
      have hP : zB 17 h D (mC c h (u2 (τ) 8 (k) (mj)) (u_9)) H := hP
      have q_10 := @wrg_rg (u2 (τ) 8 (k) (mj))
      refine zi_if_ne (tgt := 53) hF.1 hF.2.1 (a := wrg (u2 (τ) 8 (k) (mj))) dX4_finds_45 (by decide) (by omega) (fun c_45 => ?_) (fun c_45 => ?_)
      · skip
        refine zi_const hF.1 hF.2.1 dX4_finds_53 ?_
        refine lv_istore (lv' := [(4, .int (iz (-1))), (0, .ref (h (0))), (1, .int (iz ((k : Int)))), (2, .int (iz (fr))), (3, .int (iz (τ 8 k))), (5, .int (iz (mj)))]) hF.1 hF.2.1 dX4_finds_54 hl (by decide) rfl (fun ls hl => ?_)
        refine lv_iinc (v := iz (mj + 1)) (lv' := [(5, .int (iz (mj + 1))), (4, .int (iz (-1))), (0, .ref (h (0))), (1, .int (iz ((k : Int)))), (2, .int (iz (fr))), (3, .int (iz (τ 8 k)))]) hF.1 hF.2.1 dX4_finds_56 hl (k := 5) rfl ((iz_add _ _).trans (congrArg iz (by omega))) (by decide) rfl (fun ls hl => ?_)
        refine lv_goto (tgt := 13) hF.1 hF.2.1 dX4_finds_59 (by decide) ?_
        have nv_11 : (fr ≤ (mj + 1) ∧ (mj + 1) ≤ 1001 ∧ 0 ≤ (mj) ∧ (mj) ≤ 999 ∧ (-1 : Int) ≤ (-1) ∧ (-1) ≤ (1000 : Int)) ∧ (MFi τ k fr (mj + 1) (-1)) ∧ ((u_9) 1 = κ 1) := ⟨by omega, Or.inl ⟨rfl, fun sx q1 q2 q3 => by rcases (show sx < mj ∨ sx = mj by omega) with q | q; (rcases hfi with z9 | z9; exact z9.2 sx q1 q q3; omega); rw [q]; omega⟩, (by rw [hku_9]; exact hk1)⟩
        exact ih_13 (mj + 1, -1, mj, u_9) nv_11 (by show (1002 - (mj + 1)).toNat < (1002 - mj).toNat; omega) _ _ _ hP hS (lv_sub hl [2, 3, 4, 5, 1, 0] rfl)
      · skip
        refine lv_iload hF.1 hF.2.1 dX4_finds_48 (lv_at hl 5 rfl) ?_
        refine lv_goto (tgt := 54) hF.1 hF.2.1 dX4_finds_50 (by decide) ?_
        refine lv_istore (lv' := [(4, .int (iz (mj))), (0, .ref (h (0))), (1, .int (iz ((k : Int)))), (2, .int (iz (fr))), (3, .int (iz (τ 8 k))), (5, .int (iz (mj)))]) hF.1 hF.2.1 dX4_finds_54 hl (by decide) rfl (fun ls hl => ?_)
        refine lv_iinc (v := iz (mj + 1)) (lv' := [(5, .int (iz (mj + 1))), (4, .int (iz (mj))), (0, .ref (h (0))), (1, .int (iz ((k : Int)))), (2, .int (iz (fr))), (3, .int (iz (τ 8 k)))]) hF.1 hF.2.1 dX4_finds_56 hl (k := 5) rfl ((iz_add _ _).trans (congrArg iz (by omega))) (by decide) rfl (fun ls hl => ?_)
        refine lv_goto (tgt := 13) hF.1 hF.2.1 dX4_finds_59 (by decide) ?_
        have nv_12 : (fr ≤ (mj + 1) ∧ (mj + 1) ≤ 1001 ∧ 0 ≤ (mj) ∧ (mj) ≤ 999 ∧ (-1 : Int) ≤ (mj) ∧ (mj) ≤ (1000 : Int)) ∧ (MFi τ k fr (mj + 1) (mj)) ∧ ((u_9) 1 = κ 1) := ⟨by omega, Or.inr ⟨by omega, rfl, by omega, by omega, fun sx q1 q2 => by rcases hfi with z9 | z9; exact z9.2 sx q1 q2 (by omega); omega⟩, (by rw [hku_9]; exact hk1)⟩
        exact ih_13 (mj + 1, mj, mj, u_9) nv_12 (by show (1002 - (mj + 1)).toNat < (1002 - mj).toNat; omega) _ _ _ hP hS (lv_sub hl [2, 3, 4, 5, 1, 0] rfl)

set_option maxRecDepth 100000 in
set_option maxHeartbeats 4000000 in
theorem c_X4_firstStart (l : Launch) (h : Nat → Nat) (D : va_G) (c : Nat → ClassId) (τ κ : Nat → Nat → Int) (hinj : ∀ i j, i < 17 → j < 17 → h i = h j → i = j) (hG : GI τ) (a : Int) (ha : -2147483648 ≤ a ∧ a ≤ 2147483647) (mi : Int) (hmi : -2147483648 ≤ mi ∧ mi ≤ 2147483647) (hlen : ∀ k, k < 17 → τ 14 k ≠ 0 → 1 ≤ τ 9 k) :
    zMi (S := Nat → Nat → Int) l yX4_firstStart cX4_firstStart 3 (some .int) 5 119 [.ref (h (0)), .int (iz (a)), .int (iz (mi))] 17 h D (gT c) (mC c h (τ) (κ)) (fun κ9 => mC c h τ κ9) (fun z κ9 => κ9 1 0 = thM τ a mi ∧ (thM τ a mi = 0 → MF τ a.toNat mi z)) := by
  refine zM_of (by decide) (Nat.le_of_ble_eq_true rfl) ?_
  intro p e s m below meth cd ls ⟨hF, hr, hlocks, hK⟩ hP hl
  have hz : zD (zA 17 h s.heap.size) 17 h := zD.self hinj s.heap.size
  have hA : ∀ q, s.heap.size ≤ q → zA 17 h s.heap.size q := zA_new
  generalize zA 17 h s.heap.size = A at hz hA ⊢
  have hS : va_S A s.heap s.heap [] := va_S.rf
  have hl : lv_has ls 3 [(0, .ref (h (0))), (1, .int (iz (a))), (2, .int (iz (mi)))] := hl
  refine lv_aload_n hF.1 hF.2.1 dX4_firstStart_0 rfl (lv_at hl 0 rfl) ?_
  refine lv_aload_n hF.1 hF.2.1 dX4_firstStart_1 rfl (lv_at hl 0 rfl) ?_
  refine lv_iload_n hF.1 hF.2.1 dX4_firstStart_2 rfl (lv_at hl 1 rfl) ?_
  refine z_ci (S := Unit) (w := fun _ => mC c h τ κ) (P := fun z _ => z = b2i (0 ≤ a ∧ a ≤ τ 0 1 - 1)) (z_runV (rm := { frames := 1, cells := 0, slots := 0, locals := 22 }) hF hK hP (c_X4_isAct l h D c τ κ hinj hG a (by omega) _) (gIn_V mw_503 mw_504 mw_505 mw_447 mw_502) rfl rfl ⟨rfl, by decide, by decide, rfl⟩ ⟨Nat.le_of_ble_eq_true rfl, Nat.le_of_ble_eq_true rfl⟩ (k := 0) (T := TX4) (N := 22) (by omega) rfl (rfl) rfl (As := [.int (iz (a))]) (rest := [.ref (h (0))]) rfl hl.1 rfl (Nat.le_of_ble_eq_true rfl) dX4_firstStart_3 ⟨Nat.le_refl _, Nat.le_refl _⟩) hz hA hS (fun z_1 u_2 H locs hp hP hS => ?_)
  obtain rfl : z_1 = b2i (0 ≤ a ∧ a ≤ τ 0 1 - 1) := hp
  have q_3 := GI_01 hG
  refine zi_ifb_ne (tgt := 13) hF.1 hF.2.1 (P := 0 ≤ a ∧ a ≤ τ 0 1 - 1) dX4_firstStart_6 (by decide) (fun c_6 => ?_) (fun c_6 => ?_)
  · skip
    refine lv_iload_n hF.1 hF.2.1 dX4_firstStart_13 rfl (lv_at hl 2 rfl) ?_
    refine z_ci (S := Unit) (w := fun _ => mC c h τ κ) (P := fun z _ => z = b2i (0 ≤ mi ∧ mi ≤ 999)) (z_runS (rm := { frames := 1, cells := 0, slots := 0, locals := 22 }) hF hK hP (c_X4_isMinute l h D c τ κ hinj hG mi (by omega) _) (gIn_S mw_485 mw_486 mw_447 mw_444) rfl rfl ⟨rfl, by decide, by decide, rfl⟩ ⟨Nat.le_of_ble_eq_true rfl, Nat.le_of_ble_eq_true rfl⟩ (As := [.int (iz (mi))]) (rest := [.ref (h (0))]) rfl hl.1 rfl (Nat.le_of_ble_eq_true rfl) dX4_firstStart_14 ⟨Nat.le_refl _, Nat.le_refl _⟩) hz hA hS (fun z_4 u_5 H locs hp hP hS => ?_)
    obtain rfl : z_4 = b2i (0 ≤ mi ∧ mi ≤ 999) := hp
    refine zi_ifb_ne (tgt := 24) hF.1 hF.2.1 (P := 0 ≤ mi ∧ mi ≤ 999) dX4_firstStart_17 (by decide) (fun c_17 => ?_) (fun c_17 => ?_)
    · skip
      refine lv_aload_n hF.1 hF.2.1 dX4_firstStart_24 rfl (lv_at hl 0 rfl) ?_
      refine z_get hF hK hP (k := 0) (C := RX4) (T := TX4) (N := 22) (by omega) (rfl) rfl uin_X4 13 (by decide) mw_436 (v := .ref (h (12))) rfl dX4_firstStart_25 ?_
      refine lv_iload_n hF.1 hF.2.1 dX4_firstStart_28 rfl (lv_at hl 1 rfl) ?_
      refine z_zald hF hK hP (k := 12) (by decide) rfl 4 rfl (i := a) ((a).toNat) ((Int.toNat_of_nonneg (by omega)).symm) (by omega) (by decide) (x := iz (τ 14 (a).toNat)) rfl dX4_firstStart_29 ?_
      have q_6 := GI_14 hG ((a).toNat)
      refine zi_if_eq (tgt := 37) hF.1 hF.2.1 (a := τ 14 (a).toNat) dX4_firstStart_30 (by decide) (by omega) (fun c_30 => ?_) (fun c_30 => ?_)
      · skip
        refine zi_const hF.1 hF.2.1 dX4_firstStart_37 ?_
        refine z_put hF hK hz hP hS (k := 0) (C := RX4) (T := TX4) (N := 22) (by omega) (rfl) rfl uin_X4 tyX4_ok nmX4 21 (by decide) mw_442 rfl (⟨rfl, rfl⟩) (by simp) (g' := mC c h (τ) (u2 (κ) 1 0 (3))) (rfl) (mC_t_o) dX4_firstStart_38 (fun H locs hP hS => ?_)
        refine lv_aload_n hF.1 hF.2.1 dX4_firstStart_41 rfl (lv_at hl 0 rfl) ?_
        refine z_get hF hK hP (k := 0) (C := RX4) (T := TX4) (N := 22) (by omega) (rfl) rfl uin_X4 21 (by decide) mw_442 (v := .int (iz (3))) rfl dX4_firstStart_42 ?_
        refine zi_if_le (tgt := 52) hF.1 hF.2.1 (a := 3) dX4_firstStart_45 (by decide) (by omega) (fun c_45 => ?_) (fun c_45 => ?_)
        · skip
          exact absurd c_45 (by omega)
        · skip
          refine zi_const hF.1 hF.2.1 dX4_firstStart_48 ?_
          refine lv_goto (tgt := 58) hF.1 hF.2.1 dX4_firstStart_49 (by decide) ?_
          exact z_reti (P := fun z κ9 => κ9 1 0 = thM τ a mi ∧ (thM τ a mi = 0 → MF τ a.toNat mi z)) (z := 0) (u := u2 (κ) 1 0 (3)) (w := fun κ9 => mC c h τ κ9) hF hr hlocks hP hS (rfl) (⟨by have e9 : (u2 (κ) 1 0 (3)) 1 0 = (3 : Int) := rfl; show (u2 (κ) 1 0 (3)) 1 0 = _; rw [e9]; unfold thM; (repeat' split) <;> omega, fun q9 => by unfold thM at q9; (repeat' split at q9) <;> omega⟩) dX4_firstStart_58
      · skip
        refine zi_const hF.1 hF.2.1 dX4_firstStart_33 ?_
        refine lv_goto (tgt := 38) hF.1 hF.2.1 dX4_firstStart_34 (by decide) ?_
        refine z_put hF hK hz hP hS (k := 0) (C := RX4) (T := TX4) (N := 22) (by omega) (rfl) rfl uin_X4 tyX4_ok nmX4 21 (by decide) mw_442 rfl (⟨rfl, rfl⟩) (by simp) (g' := mC c h (τ) (u2 (κ) 1 0 (0))) (rfl) (mC_t_o) dX4_firstStart_38 (fun H locs hP hS => ?_)
        refine lv_aload_n hF.1 hF.2.1 dX4_firstStart_41 rfl (lv_at hl 0 rfl) ?_
        refine z_get hF hK hP (k := 0) (C := RX4) (T := TX4) (N := 22) (by omega) (rfl) rfl uin_X4 21 (by decide) mw_442 (v := .int (iz (0))) rfl dX4_firstStart_42 ?_
        refine zi_if_le (tgt := 52) hF.1 hF.2.1 (a := 0) dX4_firstStart_45 (by decide) (by omega) (fun c_45 => ?_) (fun c_45 => ?_)
        · skip
          have hl9 := hlen a.toNat (by omega) (by omega)
          have e_7 : a = ((a.toNat : Nat) : Int) := (Int.toNat_of_nonneg (by omega)).symm
          have hl : lv_has ls 3 [(0, .ref (h (0))), (1, .int (iz (((a.toNat : Nat) : Int)))), (2, .int (iz (mi)))] := by rw [← e_7]; exact hl
          refine lv_aload_n hF.1 hF.2.1 dX4_firstStart_52 rfl (lv_at hl 0 rfl) ?_
          refine lv_iload_n hF.1 hF.2.1 dX4_firstStart_53 rfl (lv_at hl 1 rfl) ?_
          refine lv_iload_n hF.1 hF.2.1 dX4_firstStart_54 rfl (lv_at hl 2 rfl) ?_
          refine z_ci (S := Nat → Nat → Int) (w := fun κ9 => mC c h τ κ9) (P := fun z κ9 => MF τ ((a.toNat)) mi z ∧ κ9 1 = (u2 (κ) 1 0 (0)) 1) (z_runV (rm := { frames := 4, cells := 0, slots := 0, locals := 94 }) hF hK hP (c_X4_finds l h D c τ (u2 (κ) 1 0 (0)) hinj hG ((a.toNat)) (by omega) mi (by omega) (by first | omega | (simp [u2]; omega)) _) (gIn_V mw_510 mw_511 mw_512 mw_447 mw_509) rfl rfl ⟨rfl, by decide, by decide, rfl⟩ ⟨Nat.le_of_ble_eq_true rfl, Nat.le_of_ble_eq_true rfl⟩ (k := 0) (T := TX4) (N := 22) (by omega) rfl (rfl) rfl (As := [.int (iz (((a.toNat : Nat) : Int))), .int (iz (mi))]) (rest := []) rfl hl.1 rfl (Nat.le_of_ble_eq_true rfl) dX4_firstStart_55 ⟨Nat.le_refl _, Nat.le_refl _⟩) hz hA hS (fun z_8 u_9 H locs hp hP hS => ?_)
          have hmf : MF τ ((a.toNat)) mi z_8 := hp.1
          have hku_9 : u_9 1 = (u2 (κ) 1 0 (0)) 1 := hp.2
          have q_10 : -1 ≤ z_8 ∧ z_8 ≤ 1000 := by have q0 := GI_9 hG ((a.toNat)); rcases hmf with q | q <;> omega
          have hP : zB 17 h D (mC c h (τ) (u_9)) H := hP
          exact z_reti (P := fun z κ9 => κ9 1 0 = thM τ a mi ∧ (thM τ a mi = 0 → MF τ a.toNat mi z)) (z := z_8) (u := u_9) (w := fun κ9 => mC c h τ κ9) hF hr hlocks hP hS (rfl) (⟨by have e9 : (u_9) 1 0 = (0 : Int) := (by rw [hku_9]; rfl); show (u_9) 1 0 = _; rw [e9]; unfold thM; (repeat' split) <;> omega, fun q9 => by exact hmf⟩) dX4_firstStart_58
        · skip
          exact absurd c_45 (by omega)
    · skip
      refine zi_const hF.1 hF.2.1 dX4_firstStart_20 ?_
      refine lv_goto (tgt := 38) hF.1 hF.2.1 dX4_firstStart_21 (by decide) ?_
      refine z_put hF hK hz hP hS (k := 0) (C := RX4) (T := TX4) (N := 22) (by omega) (rfl) rfl uin_X4 tyX4_ok nmX4 21 (by decide) mw_442 rfl (⟨rfl, rfl⟩) (by simp) (g' := mC c h (τ) (u2 (κ) 1 0 (2))) (rfl) (mC_t_o) dX4_firstStart_38 (fun H locs hP hS => ?_)
      refine lv_aload_n hF.1 hF.2.1 dX4_firstStart_41 rfl (lv_at hl 0 rfl) ?_
      refine z_get hF hK hP (k := 0) (C := RX4) (T := TX4) (N := 22) (by omega) (rfl) rfl uin_X4 21 (by decide) mw_442 (v := .int (iz (2))) rfl dX4_firstStart_42 ?_
      refine zi_if_le (tgt := 52) hF.1 hF.2.1 (a := 2) dX4_firstStart_45 (by decide) (by omega) (fun c_45 => ?_) (fun c_45 => ?_)
      · skip
        exact absurd c_45 (by omega)
      · skip
        refine zi_const hF.1 hF.2.1 dX4_firstStart_48 ?_
        refine lv_goto (tgt := 58) hF.1 hF.2.1 dX4_firstStart_49 (by decide) ?_
        exact z_reti (P := fun z κ9 => κ9 1 0 = thM τ a mi ∧ (thM τ a mi = 0 → MF τ a.toNat mi z)) (z := 0) (u := u2 (κ) 1 0 (2)) (w := fun κ9 => mC c h τ κ9) hF hr hlocks hP hS (rfl) (⟨by have e9 : (u2 (κ) 1 0 (2)) 1 0 = (2 : Int) := rfl; show (u2 (κ) 1 0 (2)) 1 0 = _; rw [e9]; unfold thM; (repeat' split) <;> omega, fun q9 => by unfold thM at q9; (repeat' split at q9) <;> omega⟩) dX4_firstStart_58
  · skip
    refine zi_const hF.1 hF.2.1 dX4_firstStart_9 ?_
    refine lv_goto (tgt := 38) hF.1 hF.2.1 dX4_firstStart_10 (by decide) ?_
    refine z_put hF hK hz hP hS (k := 0) (C := RX4) (T := TX4) (N := 22) (by omega) (rfl) rfl uin_X4 tyX4_ok nmX4 21 (by decide) mw_442 rfl (⟨rfl, rfl⟩) (by simp) (g' := mC c h (τ) (u2 (κ) 1 0 (1))) (rfl) (mC_t_o) dX4_firstStart_38 (fun H locs hP hS => ?_)
    refine lv_aload_n hF.1 hF.2.1 dX4_firstStart_41 rfl (lv_at hl 0 rfl) ?_
    refine z_get hF hK hP (k := 0) (C := RX4) (T := TX4) (N := 22) (by omega) (rfl) rfl uin_X4 21 (by decide) mw_442 (v := .int (iz (1))) rfl dX4_firstStart_42 ?_
    refine zi_if_le (tgt := 52) hF.1 hF.2.1 (a := 1) dX4_firstStart_45 (by decide) (by omega) (fun c_45 => ?_) (fun c_45 => ?_)
    · skip
      exact absurd c_45 (by omega)
    · skip
      refine zi_const hF.1 hF.2.1 dX4_firstStart_48 ?_
      refine lv_goto (tgt := 58) hF.1 hF.2.1 dX4_firstStart_49 (by decide) ?_
      exact z_reti (P := fun z κ9 => κ9 1 0 = thM τ a mi ∧ (thM τ a mi = 0 → MF τ a.toNat mi z)) (z := 0) (u := u2 (κ) 1 0 (1)) (w := fun κ9 => mC c h τ κ9) hF hr hlocks hP hS (rfl) (⟨by have e9 : (u2 (κ) 1 0 (1)) 1 0 = (1 : Int) := rfl; show (u2 (κ) 1 0 (1)) 1 0 = _; rw [e9]; unfold thM; (repeat' split) <;> omega, fun q9 => by unfold thM at q9; (repeat' split at q9) <;> omega⟩) dX4_firstStart_58

set_option maxRecDepth 100000 in
set_option maxHeartbeats 4000000 in
theorem c_X4_lays (l : Launch) (h : Nat → Nat) (D : va_G) (c : Nat → ClassId) (τ κ : Nat → Nat → Int) (hinj : ∀ i j, i < 17 → j < 17 → h i = h j → i = j) (hG : GI τ) (sg : Int) (hsg : -2147483648 ≤ sg ∧ sg ≤ 2147483647) (sa : Int) (hsa : -2147483648 ≤ sa ∧ sa ≤ 2147483647) (ln : Int) (hln : -2147483648 ≤ ln ∧ ln ≤ 2147483647) (ph : Int) (hph : -2147483648 ≤ ph ∧ ph ≤ 2147483647) (dr : Int) (hdr : -2147483648 ≤ dr ∧ dr ≤ 2147483647) (lo : Int) (hlo : -2147483648 ≤ lo ∧ lo ≤ 2147483647) (ch : Int) (hch : -2147483648 ≤ ch ∧ ch ≤ 2147483647) :
    zMi (S := (Nat → Nat → Int) × (Nat → Nat → Int)) l yX4_lays cX4_lays 10 (some .int) 4 94 [.ref (h (0)), .int (iz (sg)), .int (iz (sa)), .int (iz (ln)), .int (iz (ph)), .int (iz (dr)), .int (iz (lo)), .int (iz (ch))] 17 h D (gT c) (mC c h (τ) (κ)) (fun u9 => mC c h u9.1 u9.2) (fun z u9 => ML τ (thL τ sg sa ln ph dr lo ch) (lay τ (τ 0 1).toNat sg sa ln ph dr lo ch) z u9.1 (u9.2 1 0)) := by
  refine zM_of (by decide) (Nat.le_of_ble_eq_true rfl) ?_
  intro p e s m below meth cd ls ⟨hF, hr, hlocks, hK⟩ hP hl
  have hz : zD (zA 17 h s.heap.size) 17 h := zD.self hinj s.heap.size
  have hA : ∀ q, s.heap.size ≤ q → zA 17 h s.heap.size q := zA_new
  generalize zA 17 h s.heap.size = A at hz hA ⊢
  have hS : va_S A s.heap s.heap [] := va_S.rf
  have hl : lv_has ls 10 [(0, .ref (h (0))), (1, .int (iz (sg))), (2, .int (iz (sa))), (3, .int (iz (ln))), (4, .int (iz (ph))), (5, .int (iz (dr))), (6, .int (iz (lo))), (7, .int (iz (ch)))] := hl
  refine z_join (n := 17) (h := h) (D := D) (A := A) (V := Int) (tgt := 58) (nL := 10) (wd := fun v_1 => mC c h (τ) (κ)) (lv := fun v_1 => [(0, .ref (h (0))), (1, .int (iz (sg))), (2, .int (iz (sa))), (3, .int (iz (ln))), (4, .int (iz (ph))), (5, .int (iz (dr))), (6, .int (iz (lo))), (7, .int (iz (ch)))]) (stk := fun v_1 => [.int (iz (v_1))]) (inv := fun v_1 => (v_1 = b2i (inA sa ln dr lo ch))) ?_ (fun jn_58 => ?_)
  · skip
    intro v hv H locs ls hP hS hl
    have hP : zB 17 h D (mC c h (τ) (κ)) H := hP
    have hl : lv_has ls 10 [(0, .ref (h (0))), (1, .int (iz (sg))), (2, .int (iz (sa))), (3, .int (iz (ln))), (4, .int (iz (ph))), (5, .int (iz (dr))), (6, .int (iz (lo))), (7, .int (iz (ch)))] := hl
    have hvq : v = b2i (inA sa ln dr lo ch) := hv
    obtain rfl : v = b2i (inA sa ln dr lo ch) := hvq
    refine lv_istore (lv' := [(8, .int (iz (b2i (inA sa ln dr lo ch)))), (0, .ref (h (0))), (1, .int (iz (sg))), (2, .int (iz (sa))), (3, .int (iz (ln))), (4, .int (iz (ph))), (5, .int (iz (dr))), (6, .int (iz (lo))), (7, .int (iz (ch)))]) hF.1 hF.2.1 dX4_lays_58 hl (by decide) rfl (fun ls hl => ?_)
    have hg1 := GI_01 hG
    have hinA : inA sa ln dr lo ch ↔ ((0 ≤ sa ∧ sa ≤ 999) ∧ (1 ≤ ln ∧ ln ≤ 200) ∧ (0 ≤ dr ∧ dr ≤ 200) ∧ (0 ≤ lo ∧ lo ≤ 200) ∧ (-1 ≤ ch ∧ ch ≤ 31)) := Iff.rfl
    refine lv_aload_n hF.1 hF.2.1 dX4_lays_60 rfl (lv_at hl 1 rfl) ?_
    refine lv_iload_n hF.1 hF.2.1 dX4_lays_61 rfl (lv_at hl 2 rfl) ?_
    refine z_ci (S := Unit) (w := fun _ => mC c h τ κ) (P := fun z _ => z = b2i (0 ≤ sg ∧ sg ≤ 2)) (z_runS (rm := { frames := 1, cells := 0, slots := 0, locals := 22 }) hF hK hP (c_X4_isThree l h D c τ κ hinj hG sg (by omega) _) (gIn_S mw_487 mw_488 mw_447 mw_448) rfl rfl ⟨rfl, by decide, by decide, rfl⟩ ⟨Nat.le_of_ble_eq_true rfl, Nat.le_of_ble_eq_true rfl⟩ (As := [.int (iz (sg))]) (rest := [.ref (h (0))]) rfl hl.1 rfl (Nat.le_of_ble_eq_true rfl) dX4_lays_62 ⟨Nat.le_refl _, Nat.le_refl _⟩) hz hA hS (fun z_2 u_3 H locs hp hP hS => ?_)
    obtain rfl : z_2 = b2i (0 ≤ sg ∧ sg ≤ 2) := hp
    refine zi_ifb_eq (tgt := 76) hF.1 hF.2.1 (P := 0 ≤ sg ∧ sg ≤ 2) dX4_lays_65 (by decide) (fun c_65 => ?_) (fun c_65 => ?_)
    · skip
      refine zi_const hF.1 hF.2.1 dX4_lays_76 ?_
      refine lv_goto (tgt := 103) hF.1 hF.2.1 dX4_lays_77 (by decide) ?_
      refine z_put hF hK hz hP hS (k := 0) (C := RX4) (T := TX4) (N := 22) (by omega) (rfl) rfl uin_X4 tyX4_ok nmX4 21 (by decide) mw_442 rfl (⟨rfl, rfl⟩) (by simp) (g' := mC c h (τ) (u2 (κ) 1 0 (1))) (rfl) (mC_t_o) dX4_lays_103 (fun H locs hP hS => ?_)
      refine lv_aload_n hF.1 hF.2.1 dX4_lays_106 rfl (lv_at hl 1 rfl) ?_
      refine z_get hF hK hP (k := 0) (C := RX4) (T := TX4) (N := 22) (by omega) (rfl) rfl uin_X4 21 (by decide) mw_442 (v := .int (iz (1))) rfl dX4_lays_107 ?_
      refine zi_if_le (tgt := 115) hF.1 hF.2.1 (a := 1) dX4_lays_110 (by decide) (by omega) (fun c_110 => ?_) (fun c_110 => ?_)
      · skip
        exact absurd c_110 (by omega)
      · skip
        refine zi_const hF.1 hF.2.1 dX4_lays_113 ?_
        exact z_reti (P := fun z u9 => ML τ (thL τ sg sa ln ph dr lo ch) (lay τ (τ 0 1).toNat sg sa ln ph dr lo ch) z u9.1 (u9.2 1 0)) (z := 0) (u := (τ, u2 (κ) 1 0 (1))) (w := fun u9 => mC c h u9.1 u9.2) hF hr hlocks hP hS (rfl) (⟨by have e9 : (u2 (κ) 1 0 (1)) 1 0 = (1 : Int) := rfl; show (u2 (κ) 1 0 (1)) 1 0 = _; rw [e9]; unfold thL; (repeat' split) <;> omega, Or.inl ⟨by unfold thL; (repeat' split) <;> omega, rfl, rfl⟩, hG⟩) dX4_lays_114
    · skip
      refine lv_iload hF.1 hF.2.1 dX4_lays_68 (lv_at hl 5 rfl) ?_
      refine z_ci (S := Unit) (w := fun _ => mC c h τ κ) (P := fun z _ => z = b2i (0 ≤ ph ∧ ph ≤ 2)) (z_runS (rm := { frames := 1, cells := 0, slots := 0, locals := 22 }) hF hK hP (c_X4_isThree l h D c τ κ hinj hG ph (by omega) _) (gIn_S mw_487 mw_488 mw_447 mw_448) rfl rfl ⟨rfl, by decide, by decide, rfl⟩ ⟨Nat.le_of_ble_eq_true rfl, Nat.le_of_ble_eq_true rfl⟩ (As := [.int (iz (ph))]) (rest := [.ref (h (0))]) rfl hl.1 rfl (Nat.le_of_ble_eq_true rfl) dX4_lays_70 ⟨Nat.le_refl _, Nat.le_refl _⟩) hz hA hS (fun z_4 u_5 H locs hp hP hS => ?_)
      obtain rfl : z_4 = b2i (0 ≤ ph ∧ ph ≤ 2) := hp
      refine zi_ifb_ne (tgt := 80) hF.1 hF.2.1 (P := 0 ≤ ph ∧ ph ≤ 2) dX4_lays_73 (by decide) (fun c_73 => ?_) (fun c_73 => ?_)
      · skip
        refine lv_iload hF.1 hF.2.1 dX4_lays_80 (lv_at hl 0 rfl) ?_
        refine zi_ifb_ne (tgt := 89) hF.1 hF.2.1 (P := inA sa ln dr lo ch) dX4_lays_82 (by decide) (fun c_82 => ?_) (fun c_82 => ?_)
        · skip
          have hin9 := hinA.mp c_82
          refine lv_aload_n hF.1 hF.2.1 dX4_lays_89 rfl (lv_at hl 1 rfl) ?_
          refine z_get hF hK hP (k := 0) (C := RX4) (T := TX4) (N := 22) (by omega) (rfl) rfl uin_X4 5 (by decide) mw_495 (v := .int (iz (τ 0 1))) rfl dX4_lays_90 ?_
          have q_6 := GI_01 hG
          refine zi_bipush hF.1 hF.2.1 dX4_lays_93 (by decide) ?_
          refine zi_icmp_ne (tgt := 102) hF.1 hF.2.1 (a := τ 0 1) (b := 16) dX4_lays_95 (by decide) (by omega) (by omega) (fun c_95 => ?_) (fun c_95 => ?_)
          · skip
            refine zi_const hF.1 hF.2.1 dX4_lays_102 ?_
            refine z_put hF hK hz hP hS (k := 0) (C := RX4) (T := TX4) (N := 22) (by omega) (rfl) rfl uin_X4 tyX4_ok nmX4 21 (by decide) mw_442 rfl (⟨rfl, rfl⟩) (by simp) (g' := mC c h (τ) (u2 (κ) 1 0 (0))) (rfl) (mC_t_o) dX4_lays_103 (fun H locs hP hS => ?_)
            refine lv_aload_n hF.1 hF.2.1 dX4_lays_106 rfl (lv_at hl 1 rfl) ?_
            refine z_get hF hK hP (k := 0) (C := RX4) (T := TX4) (N := 22) (by omega) (rfl) rfl uin_X4 21 (by decide) mw_442 (v := .int (iz (0))) rfl dX4_lays_107 ?_
            refine zi_if_le (tgt := 115) hF.1 hF.2.1 (a := 0) dX4_lays_110 (by decide) (by omega) (fun c_110 => ?_) (fun c_110 => ?_)
            · skip
              refine lv_aload_n hF.1 hF.2.1 dX4_lays_115 rfl (lv_at hl 1 rfl) ?_
              refine z_get hF hK hP (k := 0) (C := RX4) (T := TX4) (N := 22) (by omega) (rfl) rfl uin_X4 6 (by decide) mw_428 (v := .ref (h (5))) rfl dX4_lays_116 ?_
              refine lv_aload_n hF.1 hF.2.1 dX4_lays_119 rfl (lv_at hl 1 rfl) ?_
              refine z_get hF hK hP (k := 0) (C := RX4) (T := TX4) (N := 22) (by omega) (rfl) rfl uin_X4 5 (by decide) mw_495 (v := .int (iz (τ 0 1))) rfl dX4_lays_120 ?_
              have q_7 := GI_01 hG
              refine lv_iload_n hF.1 hF.2.1 dX4_lays_123 rfl (lv_at hl 2 rfl) ?_
              refine z_iast hF hK hz hP hS (k := 5) (by decide) rfl 0 rfl (i := τ 0 1) ((τ 0 1).toNat) ((Int.toNat_of_nonneg (by omega)).symm) (by omega) (by decide) (x := iz (sg)) (g' := mC c h (u2 (τ) 7 ((τ 0 1).toNat) (sg)) (u2 (κ) 1 0 (0))) (by show Sum.inl (_, _, Sum.inl _) = _; rw [u2_up]) (mC_row_o (a := 5) ⟨by decide, by decide⟩) dX4_lays_124 (fun H locs hP hS => ?_)
              have hG_8 := GI_u7 hG (v := sg) (k := (τ 0 1).toNat) (by omega)
              refine lv_aload_n hF.1 hF.2.1 dX4_lays_125 rfl (lv_at hl 1 rfl) ?_
              refine z_get hF hK hP (k := 0) (C := RX4) (T := TX4) (N := 22) (by omega) (rfl) rfl uin_X4 7 (by decide) mw_429 (v := .ref (h (6))) rfl dX4_lays_126 ?_
              refine lv_aload_n hF.1 hF.2.1 dX4_lays_129 rfl (lv_at hl 1 rfl) ?_
              refine z_get hF hK hP (k := 0) (C := RX4) (T := TX4) (N := 22) (by omega) (rfl) rfl uin_X4 5 (by decide) mw_495 (v := .int (iz (τ 0 1))) rfl dX4_lays_130 ?_
              have q_9 := GI_01 hG
              refine lv_iload_n hF.1 hF.2.1 dX4_lays_133 rfl (lv_at hl 3 rfl) ?_
              refine z_iast hF hK hz hP hS (k := 6) (by decide) rfl 0 rfl (i := τ 0 1) ((τ 0 1).toNat) ((Int.toNat_of_nonneg (by omega)).symm) (by omega) (by decide) (x := iz (sa)) (g' := mC c h (u2 (u2 (τ) 7 ((τ 0 1).toNat) (sg)) 8 ((τ 0 1).toNat) (sa)) (u2 (κ) 1 0 (0))) (by show Sum.inl (_, _, Sum.inl _) = _; rw [u2_up]) (mC_row_o (a := 6) ⟨by decide, by decide⟩) dX4_lays_134 (fun H locs hP hS => ?_)
              have hG_10 := GI_u8 hG_8 (v := sa) (k := (τ 0 1).toNat) (by omega)
              refine lv_aload_n hF.1 hF.2.1 dX4_lays_135 rfl (lv_at hl 1 rfl) ?_
              refine z_get hF hK hP (k := 0) (C := RX4) (T := TX4) (N := 22) (by omega) (rfl) rfl uin_X4 8 (by decide) mw_430 (v := .ref (h (7))) rfl dX4_lays_136 ?_
              refine lv_aload_n hF.1 hF.2.1 dX4_lays_139 rfl (lv_at hl 1 rfl) ?_
              refine z_get hF hK hP (k := 0) (C := RX4) (T := TX4) (N := 22) (by omega) (rfl) rfl uin_X4 5 (by decide) mw_495 (v := .int (iz (τ 0 1))) rfl dX4_lays_140 ?_
              have q_11 := GI_01 hG
              refine lv_iload_n hF.1 hF.2.1 dX4_lays_143 rfl (lv_at hl 4 rfl) ?_
              refine z_iast hF hK hz hP hS (k := 7) (by decide) rfl 0 rfl (i := τ 0 1) ((τ 0 1).toNat) ((Int.toNat_of_nonneg (by omega)).symm) (by omega) (by decide) (x := iz (ln)) (g' := mC c h (u2 (u2 (u2 (τ) 7 ((τ 0 1).toNat) (sg)) 8 ((τ 0 1).toNat) (sa)) 9 ((τ 0 1).toNat) (ln)) (u2 (κ) 1 0 (0))) (by show Sum.inl (_, _, Sum.inl _) = _; rw [u2_up]) (mC_row_o (a := 7) ⟨by decide, by decide⟩) dX4_lays_144 (fun H locs hP hS => ?_)
              have hG_12 := GI_u9 hG_10 (v := ln) (k := (τ 0 1).toNat) (by omega)
              refine lv_aload_n hF.1 hF.2.1 dX4_lays_145 rfl (lv_at hl 1 rfl) ?_
              refine z_get hF hK hP (k := 0) (C := RX4) (T := TX4) (N := 22) (by omega) (rfl) rfl uin_X4 9 (by decide) mw_431 (v := .ref (h (8))) rfl dX4_lays_146 ?_
              refine lv_aload_n hF.1 hF.2.1 dX4_lays_149 rfl (lv_at hl 1 rfl) ?_
              refine z_get hF hK hP (k := 0) (C := RX4) (T := TX4) (N := 22) (by omega) (rfl) rfl uin_X4 5 (by decide) mw_495 (v := .int (iz (τ 0 1))) rfl dX4_lays_150 ?_
              have q_13 := GI_01 hG
              refine lv_iload hF.1 hF.2.1 dX4_lays_153 (lv_at hl 5 rfl) ?_
              refine z_iast hF hK hz hP hS (k := 8) (by decide) rfl 0 rfl (i := τ 0 1) ((τ 0 1).toNat) ((Int.toNat_of_nonneg (by omega)).symm) (by omega) (by decide) (x := iz (ph)) (g' := mC c h (u2 (u2 (u2 (u2 (τ) 7 ((τ 0 1).toNat) (sg)) 8 ((τ 0 1).toNat) (sa)) 9 ((τ 0 1).toNat) (ln)) 10 ((τ 0 1).toNat) (ph)) (u2 (κ) 1 0 (0))) (by show Sum.inl (_, _, Sum.inl _) = _; rw [u2_up]) (mC_row_o (a := 8) ⟨by decide, by decide⟩) dX4_lays_155 (fun H locs hP hS => ?_)
              have hG_14 := GI_u10 hG_12 (v := ph) (k := (τ 0 1).toNat) (by omega)
              refine lv_aload_n hF.1 hF.2.1 dX4_lays_156 rfl (lv_at hl 1 rfl) ?_
              refine z_get hF hK hP (k := 0) (C := RX4) (T := TX4) (N := 22) (by omega) (rfl) rfl uin_X4 10 (by decide) mw_432 (v := .ref (h (9))) rfl dX4_lays_157 ?_
              refine lv_aload_n hF.1 hF.2.1 dX4_lays_160 rfl (lv_at hl 1 rfl) ?_
              refine z_get hF hK hP (k := 0) (C := RX4) (T := TX4) (N := 22) (by omega) (rfl) rfl uin_X4 5 (by decide) mw_495 (v := .int (iz (τ 0 1))) rfl dX4_lays_161 ?_
              have q_15 := GI_01 hG
              refine lv_iload hF.1 hF.2.1 dX4_lays_164 (lv_at hl 6 rfl) ?_
              refine z_iast hF hK hz hP hS (k := 9) (by decide) rfl 0 rfl (i := τ 0 1) ((τ 0 1).toNat) ((Int.toNat_of_nonneg (by omega)).symm) (by omega) (by decide) (x := iz (dr)) (g' := mC c h (u2 (u2 (u2 (u2 (u2 (τ) 7 ((τ 0 1).toNat) (sg)) 8 ((τ 0 1).toNat) (sa)) 9 ((τ 0 1).toNat) (ln)) 10 ((τ 0 1).toNat) (ph)) 11 ((τ 0 1).toNat) (dr)) (u2 (κ) 1 0 (0))) (by show Sum.inl (_, _, Sum.inl _) = _; rw [u2_up]) (mC_row_o (a := 9) ⟨by decide, by decide⟩) dX4_lays_166 (fun H locs hP hS => ?_)
              have hG_16 := GI_u11 hG_14 (v := dr) (k := (τ 0 1).toNat) (by omega)
              refine lv_aload_n hF.1 hF.2.1 dX4_lays_167 rfl (lv_at hl 1 rfl) ?_
              refine z_get hF hK hP (k := 0) (C := RX4) (T := TX4) (N := 22) (by omega) (rfl) rfl uin_X4 11 (by decide) mw_433 (v := .ref (h (10))) rfl dX4_lays_168 ?_
              refine lv_aload_n hF.1 hF.2.1 dX4_lays_171 rfl (lv_at hl 1 rfl) ?_
              refine z_get hF hK hP (k := 0) (C := RX4) (T := TX4) (N := 22) (by omega) (rfl) rfl uin_X4 5 (by decide) mw_495 (v := .int (iz (τ 0 1))) rfl dX4_lays_172 ?_
              have q_17 := GI_01 hG
              refine lv_iload hF.1 hF.2.1 dX4_lays_175 (lv_at hl 7 rfl) ?_
              refine z_iast hF hK hz hP hS (k := 10) (by decide) rfl 0 rfl (i := τ 0 1) ((τ 0 1).toNat) ((Int.toNat_of_nonneg (by omega)).symm) (by omega) (by decide) (x := iz (lo)) (g' := mC c h (u2 (u2 (u2 (u2 (u2 (u2 (τ) 7 ((τ 0 1).toNat) (sg)) 8 ((τ 0 1).toNat) (sa)) 9 ((τ 0 1).toNat) (ln)) 10 ((τ 0 1).toNat) (ph)) 11 ((τ 0 1).toNat) (dr)) 12 ((τ 0 1).toNat) (lo)) (u2 (κ) 1 0 (0))) (by show Sum.inl (_, _, Sum.inl _) = _; rw [u2_up]) (mC_row_o (a := 10) ⟨by decide, by decide⟩) dX4_lays_177 (fun H locs hP hS => ?_)
              have hG_18 := GI_u12 hG_16 (v := lo) (k := (τ 0 1).toNat) (by omega)
              refine lv_aload_n hF.1 hF.2.1 dX4_lays_178 rfl (lv_at hl 1 rfl) ?_
              refine z_get hF hK hP (k := 0) (C := RX4) (T := TX4) (N := 22) (by omega) (rfl) rfl uin_X4 12 (by decide) mw_434 (v := .ref (h (11))) rfl dX4_lays_179 ?_
              refine lv_aload_n hF.1 hF.2.1 dX4_lays_182 rfl (lv_at hl 1 rfl) ?_
              refine z_get hF hK hP (k := 0) (C := RX4) (T := TX4) (N := 22) (by omega) (rfl) rfl uin_X4 5 (by decide) mw_495 (v := .int (iz (τ 0 1))) rfl dX4_lays_183 ?_
              have q_19 := GI_01 hG
              refine lv_iload hF.1 hF.2.1 dX4_lays_186 (lv_at hl 8 rfl) ?_
              refine z_iast hF hK hz hP hS (k := 11) (by decide) rfl 0 rfl (i := τ 0 1) ((τ 0 1).toNat) ((Int.toNat_of_nonneg (by omega)).symm) (by omega) (by decide) (x := iz (ch)) (g' := mC c h (u2 (u2 (u2 (u2 (u2 (u2 (u2 (τ) 7 ((τ 0 1).toNat) (sg)) 8 ((τ 0 1).toNat) (sa)) 9 ((τ 0 1).toNat) (ln)) 10 ((τ 0 1).toNat) (ph)) 11 ((τ 0 1).toNat) (dr)) 12 ((τ 0 1).toNat) (lo)) 13 ((τ 0 1).toNat) (ch)) (u2 (κ) 1 0 (0))) (by show Sum.inl (_, _, Sum.inl _) = _; rw [u2_up]) (mC_row_o (a := 11) ⟨by decide, by decide⟩) dX4_lays_188 (fun H locs hP hS => ?_)
              have hG_20 := GI_u13 hG_18 (v := ch) (k := (τ 0 1).toNat) (by omega)
              refine lv_aload_n hF.1 hF.2.1 dX4_lays_189 rfl (lv_at hl 1 rfl) ?_
              refine z_get hF hK hP (k := 0) (C := RX4) (T := TX4) (N := 22) (by omega) (rfl) rfl uin_X4 13 (by decide) mw_436 (v := .ref (h (12))) rfl dX4_lays_190 ?_
              refine lv_aload_n hF.1 hF.2.1 dX4_lays_193 rfl (lv_at hl 1 rfl) ?_
              refine z_get hF hK hP (k := 0) (C := RX4) (T := TX4) (N := 22) (by omega) (rfl) rfl uin_X4 5 (by decide) mw_495 (v := .int (iz (τ 0 1))) rfl dX4_lays_194 ?_
              have q_21 := GI_01 hG
              refine zi_const hF.1 hF.2.1 dX4_lays_197 ?_
              refine z_zast hF hK hz hP hS (k := 12) (by decide) rfl 4 rfl (i := τ 0 1) ((τ 0 1).toNat) ((Int.toNat_of_nonneg (by omega)).symm) (by omega) (by decide) (x := 1) (by first | omega | (unfold b2i; split <;> omega)) (g' := mC c h (u2 (u2 (u2 (u2 (u2 (u2 (u2 (u2 (τ) 7 ((τ 0 1).toNat) (sg)) 8 ((τ 0 1).toNat) (sa)) 9 ((τ 0 1).toNat) (ln)) 10 ((τ 0 1).toNat) (ph)) 11 ((τ 0 1).toNat) (dr)) 12 ((τ 0 1).toNat) (lo)) 13 ((τ 0 1).toNat) (ch)) 14 ((τ 0 1).toNat) (1)) (u2 (κ) 1 0 (0))) (by show Sum.inl (_, _, Sum.inl _) = _; rw [u2_up]) (mC_row_o (a := 12) ⟨by decide, by decide⟩) dX4_lays_198 (fun H locs hP hS => ?_)
              have hG_22 := GI_u14 hG_20 (v := 1) (k := (τ 0 1).toNat) (by omega)
              refine lv_aload_n hF.1 hF.2.1 dX4_lays_199 rfl (lv_at hl 1 rfl) ?_
              refine z_ci (S := Nat → Nat → Int) (w := fun κ9 => mC c h (u2 (u2 (u2 (u2 (u2 (u2 (u2 (u2 (τ) 7 ((τ 0 1).toNat) (sg)) 8 ((τ 0 1).toNat) (sa)) 9 ((τ 0 1).toNat) (ln)) 10 ((τ 0 1).toNat) (ph)) 11 ((τ 0 1).toNat) (dr)) 12 ((τ 0 1).toNat) (lo)) 13 ((τ 0 1).toNat) (ch)) 14 ((τ 0 1).toNat) (1)) κ9) (P := fun z κ9 => z = wrg (u2 (u2 (u2 (u2 (u2 (u2 (u2 (u2 (τ) 7 ((τ 0 1).toNat) (sg)) 8 ((τ 0 1).toNat) (sa)) 9 ((τ 0 1).toNat) (ln)) 10 ((τ 0 1).toNat) (ph)) 11 ((τ 0 1).toNat) (dr)) 12 ((τ 0 1).toNat) (lo)) 13 ((τ 0 1).toNat) (ch)) 14 ((τ 0 1).toNat) (1)) ∧ κ9 1 = (u2 (κ) 1 0 (0)) 1) (z_runV (rm := { frames := 3, cells := 0, slots := 0, locals := 71 }) hF hK hP (c_X4_wrong l h D c (u2 (u2 (u2 (u2 (u2 (u2 (u2 (u2 (τ) 7 ((τ 0 1).toNat) (sg)) 8 ((τ 0 1).toNat) (sa)) 9 ((τ 0 1).toNat) (ln)) 10 ((τ 0 1).toNat) (ph)) 11 ((τ 0 1).toNat) (dr)) 12 ((τ 0 1).toNat) (lo)) 13 ((τ 0 1).toNat) (ch)) 14 ((τ 0 1).toNat) (1)) (u2 (κ) 1 0 (0)) hinj hG_22  _) (gIn_V mw_489 mw_490 mw_491 mw_447 mw_483) rfl rfl ⟨rfl, by decide, by decide, rfl⟩ ⟨Nat.le_of_ble_eq_true rfl, Nat.le_of_ble_eq_true rfl⟩ (k := 0) (T := TX4) (N := 22) (by omega) rfl (rfl) rfl (As := []) (rest := []) rfl hl.1 rfl (Nat.le_of_ble_eq_true rfl) dX4_lays_200 ⟨Nat.le_refl _, Nat.le_refl _⟩) hz hA hS (fun z_23 u_24 H locs hp hP hS => ?_)
              obtain ⟨rfl, hku_24⟩ : z_23 = wrg (u2 (u2 (u2 (u2 (u2 (u2 (u2 (u2 (τ) 7 ((τ 0 1).toNat) (sg)) 8 ((τ 0 1).toNat) (sa)) 9 ((τ 0 1).toNat) (ln)) 10 ((τ 0 1).toNat) (ph)) 11 ((τ 0 1).toNat) (dr)) 12 ((τ 0 1).toNat) (lo)) 13 ((τ 0 1).toNat) (ch)) 14 ((τ 0 1).toNat) (1)) ∧ u_24 1 = (u2 (κ) 1 0 (0)) 1 := hp
              have hP : zB 17 h D (mC c h (u2 (u2 (u2 (u2 (u2 (u2 (u2 (u2 (τ) 7 ((τ 0 1).toNat) (sg)) 8 ((τ 0 1).toNat) (sa)) 9 ((τ 0 1).toNat) (ln)) 10 ((τ 0 1).toNat) (ph)) 11 ((τ 0 1).toNat) (dr)) 12 ((τ 0 1).toNat) (lo)) 13 ((τ 0 1).toNat) (ch)) 14 ((τ 0 1).toNat) (1)) (u_24)) H := hP
              have q_25 := @wrg_rg (u2 (u2 (u2 (u2 (u2 (u2 (u2 (u2 (τ) 7 ((τ 0 1).toNat) (sg)) 8 ((τ 0 1).toNat) (sa)) 9 ((τ 0 1).toNat) (ln)) 10 ((τ 0 1).toNat) (ph)) 11 ((τ 0 1).toNat) (dr)) 12 ((τ 0 1).toNat) (lo)) 13 ((τ 0 1).toNat) (ch)) 14 ((τ 0 1).toNat) (1))
              refine lv_istore (lv' := [(9, .int (iz (wrg (u2 (u2 (u2 (u2 (u2 (u2 (u2 (u2 (τ) 7 ((τ 0 1).toNat) (sg)) 8 ((τ 0 1).toNat) (sa)) 9 ((τ 0 1).toNat) (ln)) 10 ((τ 0 1).toNat) (ph)) 11 ((τ 0 1).toNat) (dr)) 12 ((τ 0 1).toNat) (lo)) 13 ((τ 0 1).toNat) (ch)) 14 ((τ 0 1).toNat) (1))))), (8, .int (iz (b2i (inA sa ln dr lo ch)))), (0, .ref (h (0))), (1, .int (iz (sg))), (2, .int (iz (sa))), (3, .int (iz (ln))), (4, .int (iz (ph))), (5, .int (iz (dr))), (6, .int (iz (lo))), (7, .int (iz (ch)))]) hF.1 hF.2.1 dX4_lays_203 hl (by decide) rfl (fun ls hl => ?_)
              refine lv_aload_n hF.1 hF.2.1 dX4_lays_205 rfl (lv_at hl 2 rfl) ?_
              refine z_get hF hK hP (k := 0) (C := RX4) (T := TX4) (N := 22) (by omega) (rfl) rfl uin_X4 13 (by decide) mw_436 (v := .ref (h (12))) rfl dX4_lays_206 ?_
              refine lv_aload_n hF.1 hF.2.1 dX4_lays_209 rfl (lv_at hl 2 rfl) ?_
              refine z_get hF hK hP (k := 0) (C := RX4) (T := TX4) (N := 22) (by omega) (rfl) rfl uin_X4 5 (by decide) mw_495 (v := .int (iz (τ 0 1))) rfl dX4_lays_210 ?_
              have q_26 := GI_01 hG
              refine zi_const hF.1 hF.2.1 dX4_lays_213 ?_
              refine z_zast hF hK hz hP hS (k := 12) (by decide) rfl 4 rfl (i := τ 0 1) ((τ 0 1).toNat) ((Int.toNat_of_nonneg (by omega)).symm) (by omega) (by decide) (x := 0) (by first | omega | (unfold b2i; split <;> omega)) (g' := mC c h (u2 (u2 (u2 (u2 (u2 (u2 (u2 (u2 (u2 (τ) 7 ((τ 0 1).toNat) (sg)) 8 ((τ 0 1).toNat) (sa)) 9 ((τ 0 1).toNat) (ln)) 10 ((τ 0 1).toNat) (ph)) 11 ((τ 0 1).toNat) (dr)) 12 ((τ 0 1).toNat) (lo)) 13 ((τ 0 1).toNat) (ch)) 14 ((τ 0 1).toNat) (1)) 14 ((τ 0 1).toNat) (0)) (u_24)) (by show Sum.inl (_, _, Sum.inl _) = _; rw [u2_up]) (mC_row_o (a := 12) ⟨by decide, by decide⟩) dX4_lays_214 (fun H locs hP hS => ?_)
              have hG_27 := GI_u14 hG_22 (v := 0) (k := (τ 0 1).toNat) (by omega)
              refine lv_iload hF.1 hF.2.1 dX4_lays_215 (lv_at hl 0 rfl) ?_
              exact z_reti (P := fun z u9 => ML τ (thL τ sg sa ln ph dr lo ch) (lay τ (τ 0 1).toNat sg sa ln ph dr lo ch) z u9.1 (u9.2 1 0)) (z := wrg (u2 (u2 (u2 (u2 (u2 (u2 (u2 (u2 (τ) 7 ((τ 0 1).toNat) (sg)) 8 ((τ 0 1).toNat) (sa)) 9 ((τ 0 1).toNat) (ln)) 10 ((τ 0 1).toNat) (ph)) 11 ((τ 0 1).toNat) (dr)) 12 ((τ 0 1).toNat) (lo)) 13 ((τ 0 1).toNat) (ch)) 14 ((τ 0 1).toNat) (1))) (u := (u2 (u2 (u2 (u2 (u2 (u2 (u2 (u2 (u2 (τ) 7 ((τ 0 1).toNat) (sg)) 8 ((τ 0 1).toNat) (sa)) 9 ((τ 0 1).toNat) (ln)) 10 ((τ 0 1).toNat) (ph)) 11 ((τ 0 1).toNat) (dr)) 12 ((τ 0 1).toNat) (lo)) 13 ((τ 0 1).toNat) (ch)) 14 ((τ 0 1).toNat) (1)) 14 ((τ 0 1).toNat) (0), u_24)) (w := fun u9 => mC c h u9.1 u9.2) hF hr hlocks hP hS (rfl) (⟨by have e9 : (u_24) 1 0 = (0 : Int) := (by rw [hku_24]; rfl); show (u_24) 1 0 = _; rw [e9]; unfold thL; (repeat' split) <;> omega, Or.inr ⟨by unfold thL; (repeat' split) <;> omega, rfl, rfl⟩, hG_27⟩) dX4_lays_217
            · skip
              exact absurd c_110 (by omega)
          · skip
            refine zi_const hF.1 hF.2.1 dX4_lays_98 ?_
            refine lv_goto (tgt := 103) hF.1 hF.2.1 dX4_lays_99 (by decide) ?_
            refine z_put hF hK hz hP hS (k := 0) (C := RX4) (T := TX4) (N := 22) (by omega) (rfl) rfl uin_X4 tyX4_ok nmX4 21 (by decide) mw_442 rfl (⟨rfl, rfl⟩) (by simp) (g' := mC c h (τ) (u2 (κ) 1 0 (3))) (rfl) (mC_t_o) dX4_lays_103 (fun H locs hP hS => ?_)
            refine lv_aload_n hF.1 hF.2.1 dX4_lays_106 rfl (lv_at hl 1 rfl) ?_
            refine z_get hF hK hP (k := 0) (C := RX4) (T := TX4) (N := 22) (by omega) (rfl) rfl uin_X4 21 (by decide) mw_442 (v := .int (iz (3))) rfl dX4_lays_107 ?_
            refine zi_if_le (tgt := 115) hF.1 hF.2.1 (a := 3) dX4_lays_110 (by decide) (by omega) (fun c_110 => ?_) (fun c_110 => ?_)
            · skip
              exact absurd c_110 (by omega)
            · skip
              refine zi_const hF.1 hF.2.1 dX4_lays_113 ?_
              exact z_reti (P := fun z u9 => ML τ (thL τ sg sa ln ph dr lo ch) (lay τ (τ 0 1).toNat sg sa ln ph dr lo ch) z u9.1 (u9.2 1 0)) (z := 0) (u := (τ, u2 (κ) 1 0 (3))) (w := fun u9 => mC c h u9.1 u9.2) hF hr hlocks hP hS (rfl) (⟨by have e9 : (u2 (κ) 1 0 (3)) 1 0 = (3 : Int) := rfl; show (u2 (κ) 1 0 (3)) 1 0 = _; rw [e9]; unfold thL; (repeat' split) <;> omega, Or.inl ⟨by unfold thL; (repeat' split) <;> omega, rfl, rfl⟩, hG⟩) dX4_lays_114
        · skip
          have hin9 : ¬ ((0 ≤ sa ∧ sa ≤ 999) ∧ (1 ≤ ln ∧ ln ≤ 200) ∧ (0 ≤ dr ∧ dr ≤ 200) ∧ (0 ≤ lo ∧ lo ≤ 200) ∧ (-1 ≤ ch ∧ ch ≤ 31)) := fun q => c_82 (hinA.mpr q)
          refine zi_const hF.1 hF.2.1 dX4_lays_85 ?_
          refine lv_goto (tgt := 103) hF.1 hF.2.1 dX4_lays_86 (by decide) ?_
          refine z_put hF hK hz hP hS (k := 0) (C := RX4) (T := TX4) (N := 22) (by omega) (rfl) rfl uin_X4 tyX4_ok nmX4 21 (by decide) mw_442 rfl (⟨rfl, rfl⟩) (by simp) (g' := mC c h (τ) (u2 (κ) 1 0 (2))) (rfl) (mC_t_o) dX4_lays_103 (fun H locs hP hS => ?_)
          refine lv_aload_n hF.1 hF.2.1 dX4_lays_106 rfl (lv_at hl 1 rfl) ?_
          refine z_get hF hK hP (k := 0) (C := RX4) (T := TX4) (N := 22) (by omega) (rfl) rfl uin_X4 21 (by decide) mw_442 (v := .int (iz (2))) rfl dX4_lays_107 ?_
          refine zi_if_le (tgt := 115) hF.1 hF.2.1 (a := 2) dX4_lays_110 (by decide) (by omega) (fun c_110 => ?_) (fun c_110 => ?_)
          · skip
            exact absurd c_110 (by omega)
          · skip
            refine zi_const hF.1 hF.2.1 dX4_lays_113 ?_
            exact z_reti (P := fun z u9 => ML τ (thL τ sg sa ln ph dr lo ch) (lay τ (τ 0 1).toNat sg sa ln ph dr lo ch) z u9.1 (u9.2 1 0)) (z := 0) (u := (τ, u2 (κ) 1 0 (2))) (w := fun u9 => mC c h u9.1 u9.2) hF hr hlocks hP hS (rfl) (⟨by have e9 : (u2 (κ) 1 0 (2)) 1 0 = (2 : Int) := rfl; show (u2 (κ) 1 0 (2)) 1 0 = _; rw [e9]; unfold thL; (repeat' split) <;> omega, Or.inl ⟨by unfold thL; (repeat' split) <;> omega, rfl, rfl⟩, hG⟩) dX4_lays_114
      · skip
        refine zi_const hF.1 hF.2.1 dX4_lays_76 ?_
        refine lv_goto (tgt := 103) hF.1 hF.2.1 dX4_lays_77 (by decide) ?_
        refine z_put hF hK hz hP hS (k := 0) (C := RX4) (T := TX4) (N := 22) (by omega) (rfl) rfl uin_X4 tyX4_ok nmX4 21 (by decide) mw_442 rfl (⟨rfl, rfl⟩) (by simp) (g' := mC c h (τ) (u2 (κ) 1 0 (1))) (rfl) (mC_t_o) dX4_lays_103 (fun H locs hP hS => ?_)
        refine lv_aload_n hF.1 hF.2.1 dX4_lays_106 rfl (lv_at hl 1 rfl) ?_
        refine z_get hF hK hP (k := 0) (C := RX4) (T := TX4) (N := 22) (by omega) (rfl) rfl uin_X4 21 (by decide) mw_442 (v := .int (iz (1))) rfl dX4_lays_107 ?_
        refine zi_if_le (tgt := 115) hF.1 hF.2.1 (a := 1) dX4_lays_110 (by decide) (by omega) (fun c_110 => ?_) (fun c_110 => ?_)
        · skip
          exact absurd c_110 (by omega)
        · skip
          refine zi_const hF.1 hF.2.1 dX4_lays_113 ?_
          exact z_reti (P := fun z u9 => ML τ (thL τ sg sa ln ph dr lo ch) (lay τ (τ 0 1).toNat sg sa ln ph dr lo ch) z u9.1 (u9.2 1 0)) (z := 0) (u := (τ, u2 (κ) 1 0 (1))) (w := fun u9 => mC c h u9.1 u9.2) hF hr hlocks hP hS (rfl) (⟨by have e9 : (u2 (κ) 1 0 (1)) 1 0 = (1 : Int) := rfl; show (u2 (κ) 1 0 (1)) 1 0 = _; rw [e9]; unfold thL; (repeat' split) <;> omega, Or.inl ⟨by unfold thL; (repeat' split) <;> omega, rfl, rfl⟩, hG⟩) dX4_lays_114
  · skip
    refine lv_iload_n hF.1 hF.2.1 dX4_lays_0 rfl (lv_at hl 2 rfl) ?_
    refine z_ci (S := Unit) (w := fun _ => mC c h τ κ) (P := fun z _ => z = b2i (0 ≤ sa ∧ sa ≤ 999)) (z_runS (rm := { frames := 1, cells := 0, slots := 0, locals := 22 }) hF hK hP (c_X4_isMinute l h D c τ κ hinj hG sa (by omega) _) (gIn_S mw_485 mw_486 mw_447 mw_444) rfl rfl ⟨rfl, by decide, by decide, rfl⟩ ⟨Nat.le_of_ble_eq_true rfl, Nat.le_of_ble_eq_true rfl⟩ (As := [.int (iz (sa))]) (rest := []) rfl hl.1 rfl (Nat.le_of_ble_eq_true rfl) dX4_lays_1 ⟨Nat.le_refl _, Nat.le_refl _⟩) hz hA hS (fun z_28 u_29 H locs hp hP hS => ?_)
    obtain rfl : z_28 = b2i (0 ≤ sa ∧ sa ≤ 999) := hp
    refine zi_ifb_eq (tgt := 57) hF.1 hF.2.1 (P := 0 ≤ sa ∧ sa ≤ 999) dX4_lays_4 (by decide) (fun c_4 => ?_) (fun c_4 => ?_)
    · skip
      refine zi_const hF.1 hF.2.1 dX4_lays_57 ?_
      have nv_30 : (((0)) = b2i (inA sa ln dr lo ch)) := (by first | exact (b2i_t (by unfold inA; omega)).symm | exact (b2i_f (by unfold inA; omega)).symm)
      exact jn_58 (0) nv_30 _ _ _ hP hS (lv_sub hl [0, 1, 2, 3, 4, 5, 6, 7] rfl)
    · skip
      refine lv_iload_n hF.1 hF.2.1 dX4_lays_7 rfl (lv_at hl 3 rfl) ?_
      refine zi_const hF.1 hF.2.1 dX4_lays_8 ?_
      refine zi_sipush hF.1 hF.2.1 dX4_lays_9 (by decide) ?_
      refine z_ci (S := Unit) (w := fun _ => mC c h τ κ) (P := fun z _ => z = b2i (1 ≤ ln ∧ ln ≤ 200)) (z_runS (rm := { frames := 0, cells := 0, slots := 0, locals := 0 }) hF hK hP (c_X4_isIn l h D c τ κ hinj hG ln (by omega) 1 (by omega) 200 (by omega) _) (gIn_S mw_445 mw_446 mw_447 mw_443) rfl rfl ⟨rfl, by decide, by decide, rfl⟩ ⟨Nat.le_of_ble_eq_true rfl, Nat.le_of_ble_eq_true rfl⟩ (As := [.int (iz (ln)), .int (iz (1)), .int (iz (200))]) (rest := []) rfl hl.1 rfl (Nat.le_of_ble_eq_true rfl) dX4_lays_12 ⟨Nat.le_refl _, Nat.le_refl _⟩) hz hA hS (fun z_31 u_32 H locs hp hP hS => ?_)
      obtain rfl : z_31 = b2i (1 ≤ ln ∧ ln ≤ 200) := hp
      refine zi_ifb_eq (tgt := 57) hF.1 hF.2.1 (P := 1 ≤ ln ∧ ln ≤ 200) dX4_lays_15 (by decide) (fun c_15 => ?_) (fun c_15 => ?_)
      · skip
        refine zi_const hF.1 hF.2.1 dX4_lays_57 ?_
        have nv_33 : (((0)) = b2i (inA sa ln dr lo ch)) := (by first | exact (b2i_t (by unfold inA; omega)).symm | exact (b2i_f (by unfold inA; omega)).symm)
        exact jn_58 (0) nv_33 _ _ _ hP hS (lv_sub hl [0, 1, 2, 3, 4, 5, 6, 7] rfl)
      · skip
        refine lv_iload hF.1 hF.2.1 dX4_lays_18 (lv_at hl 5 rfl) ?_
        refine zi_const hF.1 hF.2.1 dX4_lays_20 ?_
        refine zi_sipush hF.1 hF.2.1 dX4_lays_21 (by decide) ?_
        refine z_ci (S := Unit) (w := fun _ => mC c h τ κ) (P := fun z _ => z = b2i (0 ≤ dr ∧ dr ≤ 200)) (z_runS (rm := { frames := 0, cells := 0, slots := 0, locals := 0 }) hF hK hP (c_X4_isIn l h D c τ κ hinj hG dr (by omega) 0 (by omega) 200 (by omega) _) (gIn_S mw_445 mw_446 mw_447 mw_443) rfl rfl ⟨rfl, by decide, by decide, rfl⟩ ⟨Nat.le_of_ble_eq_true rfl, Nat.le_of_ble_eq_true rfl⟩ (As := [.int (iz (dr)), .int (iz (0)), .int (iz (200))]) (rest := []) rfl hl.1 rfl (Nat.le_of_ble_eq_true rfl) dX4_lays_24 ⟨Nat.le_refl _, Nat.le_refl _⟩) hz hA hS (fun z_34 u_35 H locs hp hP hS => ?_)
        obtain rfl : z_34 = b2i (0 ≤ dr ∧ dr ≤ 200) := hp
        refine zi_ifb_eq (tgt := 57) hF.1 hF.2.1 (P := 0 ≤ dr ∧ dr ≤ 200) dX4_lays_27 (by decide) (fun c_27 => ?_) (fun c_27 => ?_)
        · skip
          refine zi_const hF.1 hF.2.1 dX4_lays_57 ?_
          have nv_36 : (((0)) = b2i (inA sa ln dr lo ch)) := (by first | exact (b2i_t (by unfold inA; omega)).symm | exact (b2i_f (by unfold inA; omega)).symm)
          exact jn_58 (0) nv_36 _ _ _ hP hS (lv_sub hl [0, 1, 2, 3, 4, 5, 6, 7] rfl)
        · skip
          refine lv_iload hF.1 hF.2.1 dX4_lays_30 (lv_at hl 6 rfl) ?_
          refine zi_const hF.1 hF.2.1 dX4_lays_32 ?_
          refine zi_sipush hF.1 hF.2.1 dX4_lays_33 (by decide) ?_
          refine z_ci (S := Unit) (w := fun _ => mC c h τ κ) (P := fun z _ => z = b2i (0 ≤ lo ∧ lo ≤ 200)) (z_runS (rm := { frames := 0, cells := 0, slots := 0, locals := 0 }) hF hK hP (c_X4_isIn l h D c τ κ hinj hG lo (by omega) 0 (by omega) 200 (by omega) _) (gIn_S mw_445 mw_446 mw_447 mw_443) rfl rfl ⟨rfl, by decide, by decide, rfl⟩ ⟨Nat.le_of_ble_eq_true rfl, Nat.le_of_ble_eq_true rfl⟩ (As := [.int (iz (lo)), .int (iz (0)), .int (iz (200))]) (rest := []) rfl hl.1 rfl (Nat.le_of_ble_eq_true rfl) dX4_lays_36 ⟨Nat.le_refl _, Nat.le_refl _⟩) hz hA hS (fun z_37 u_38 H locs hp hP hS => ?_)
          obtain rfl : z_37 = b2i (0 ≤ lo ∧ lo ≤ 200) := hp
          refine zi_ifb_eq (tgt := 57) hF.1 hF.2.1 (P := 0 ≤ lo ∧ lo ≤ 200) dX4_lays_39 (by decide) (fun c_39 => ?_) (fun c_39 => ?_)
          · skip
            refine zi_const hF.1 hF.2.1 dX4_lays_57 ?_
            have nv_39 : (((0)) = b2i (inA sa ln dr lo ch)) := (by first | exact (b2i_t (by unfold inA; omega)).symm | exact (b2i_f (by unfold inA; omega)).symm)
            exact jn_58 (0) nv_39 _ _ _ hP hS (lv_sub hl [0, 1, 2, 3, 4, 5, 6, 7] rfl)
          · skip
            refine lv_iload hF.1 hF.2.1 dX4_lays_42 (lv_at hl 7 rfl) ?_
            refine zi_const hF.1 hF.2.1 dX4_lays_44 ?_
            refine zi_bipush hF.1 hF.2.1 dX4_lays_45 (by decide) ?_
            refine z_ci (S := Unit) (w := fun _ => mC c h τ κ) (P := fun z _ => z = b2i ((-1) ≤ ch ∧ ch ≤ 31)) (z_runS (rm := { frames := 0, cells := 0, slots := 0, locals := 0 }) hF hK hP (c_X4_isIn l h D c τ κ hinj hG ch (by omega) (-1) (by omega) 31 (by omega) _) (gIn_S mw_445 mw_446 mw_447 mw_443) rfl rfl ⟨rfl, by decide, by decide, rfl⟩ ⟨Nat.le_of_ble_eq_true rfl, Nat.le_of_ble_eq_true rfl⟩ (As := [.int (iz (ch)), .int (iz (-1)), .int (iz (31))]) (rest := []) rfl hl.1 rfl (Nat.le_of_ble_eq_true rfl) dX4_lays_47 ⟨Nat.le_refl _, Nat.le_refl _⟩) hz hA hS (fun z_40 u_41 H locs hp hP hS => ?_)
            obtain rfl : z_40 = b2i ((-1) ≤ ch ∧ ch ≤ 31) := hp
            refine zi_ifb_eq (tgt := 57) hF.1 hF.2.1 (P := (-1) ≤ ch ∧ ch ≤ 31) dX4_lays_50 (by decide) (fun c_50 => ?_) (fun c_50 => ?_)
            · skip
              refine zi_const hF.1 hF.2.1 dX4_lays_57 ?_
              have nv_42 : (((0)) = b2i (inA sa ln dr lo ch)) := (by first | exact (b2i_t (by unfold inA; omega)).symm | exact (b2i_f (by unfold inA; omega)).symm)
              exact jn_58 (0) nv_42 _ _ _ hP hS (lv_sub hl [0, 1, 2, 3, 4, 5, 6, 7] rfl)
            · skip
              refine zi_const hF.1 hF.2.1 dX4_lays_53 ?_
              refine lv_goto (tgt := 58) hF.1 hF.2.1 dX4_lays_54 (by decide) ?_
              have nv_43 : (((1)) = b2i (inA sa ln dr lo ch)) := (by first | exact (b2i_t (by unfold inA; omega)).symm | exact (b2i_f (by unfold inA; omega)).symm)
              exact jn_58 (1) nv_43 _ _ _ hP hS (lv_sub hl [0, 1, 2, 3, 4, 5, 6, 7] rfl)

set_option maxRecDepth 100000 in
set_option maxHeartbeats 4000000 in
theorem c_X4_reason (l : Launch) (h : Nat → Nat) (D : va_G) (c : Nat → ClassId) (τ κ : Nat → Nat → Int) (hinj : ∀ i j, i < 17 → j < 17 → h i = h j → i = j) (hG : GI τ) (sg : Int) (hsg : -2147483648 ≤ sg ∧ sg ≤ 2147483647) (sa : Int) (hsa : -2147483648 ≤ sa ∧ sa ≤ 2147483647) (ln : Int) (hln : -2147483648 ≤ ln ∧ ln ≤ 2147483647) (ph : Int) (hph : -2147483648 ≤ ph ∧ ph ≤ 2147483647) (dr : Int) (hdr : -2147483648 ≤ dr ∧ dr ≤ 2147483647) (lo : Int) (hlo : -2147483648 ≤ lo ∧ lo ≤ 2147483647) (ch : Int) (hch : -2147483648 ≤ ch ∧ ch ≤ 2147483647) :
    zMi (S := (Nat → Nat → Int) × (Nat → Nat → Int)) l yX4_reason cX4_reason 8 (some .int) 5 123 [.ref (h (0)), .int (iz (sg)), .int (iz (sa)), .int (iz (ln)), .int (iz (ph)), .int (iz (dr)), .int (iz (lo)), .int (iz (ch))] 17 h D (gT c) (mC c h (τ) (κ)) (fun u9 => mC c h u9.1 u9.2) (fun z u9 => ML τ (thL τ sg sa ln ph dr lo ch) (lay τ (τ 0 1).toNat sg sa ln ph dr lo ch) z u9.1 (u9.2 1 0)) := by
  refine zM_of (by decide) (Nat.le_of_ble_eq_true rfl) ?_
  intro p e s m below meth cd ls ⟨hF, hr, hlocks, hK⟩ hP hl
  have hz : zD (zA 17 h s.heap.size) 17 h := zD.self hinj s.heap.size
  have hA : ∀ q, s.heap.size ≤ q → zA 17 h s.heap.size q := zA_new
  generalize zA 17 h s.heap.size = A at hz hA ⊢
  have hS : va_S A s.heap s.heap [] := va_S.rf
  have hl : lv_has ls 8 [(0, .ref (h (0))), (1, .int (iz (sg))), (2, .int (iz (sa))), (3, .int (iz (ln))), (4, .int (iz (ph))), (5, .int (iz (dr))), (6, .int (iz (lo))), (7, .int (iz (ch)))] := hl
  refine lv_aload_n hF.1 hF.2.1 dX4_reason_0 rfl (lv_at hl 0 rfl) ?_
  refine lv_iload_n hF.1 hF.2.1 dX4_reason_1 rfl (lv_at hl 1 rfl) ?_
  refine lv_iload_n hF.1 hF.2.1 dX4_reason_2 rfl (lv_at hl 2 rfl) ?_
  refine lv_iload_n hF.1 hF.2.1 dX4_reason_3 rfl (lv_at hl 3 rfl) ?_
  refine lv_iload hF.1 hF.2.1 dX4_reason_4 (lv_at hl 4 rfl) ?_
  refine lv_iload hF.1 hF.2.1 dX4_reason_6 (lv_at hl 5 rfl) ?_
  refine lv_iload hF.1 hF.2.1 dX4_reason_8 (lv_at hl 6 rfl) ?_
  refine lv_iload hF.1 hF.2.1 dX4_reason_10 (lv_at hl 7 rfl) ?_
  refine z_ci (S := (Nat → Nat → Int) × (Nat → Nat → Int)) (w := fun u9 => mC c h u9.1 u9.2) (P := fun z u9 => ML τ (thL τ sg sa ln ph dr lo ch) (lay τ (τ 0 1).toNat sg sa ln ph dr lo ch) z u9.1 (u9.2 1 0)) (z_runV (rm := { frames := 4, cells := 0, slots := 0, locals := 94 }) hF hK hP (c_X4_lays l h D c τ κ hinj hG sg (by omega) sa (by omega) ln (by omega) ph (by omega) dr (by omega) lo (by omega) ch (by omega) _) (gIn_V mw_497 mw_498 mw_499 mw_447 mw_496) rfl rfl ⟨rfl, by decide, by decide, rfl⟩ ⟨Nat.le_of_ble_eq_true rfl, Nat.le_of_ble_eq_true rfl⟩ (k := 0) (T := TX4) (N := 22) (by omega) rfl (rfl) rfl (As := [.int (iz (sg)), .int (iz (sa)), .int (iz (ln)), .int (iz (ph)), .int (iz (dr)), .int (iz (lo)), .int (iz (ch))]) (rest := []) rfl hl.1 rfl (Nat.le_of_ble_eq_true rfl) dX4_reason_12 ⟨Nat.le_refl _, Nat.le_refl _⟩) hz hA hS (fun z_1 u_2 H locs hp hP hS => ?_)
  obtain ⟨τ_u_2, κ_u_2⟩ := u_2
  obtain ⟨ht9, hm9, hGl⟩ : ML τ (thL τ sg sa ln ph dr lo ch) (lay τ (τ 0 1).toNat sg sa ln ph dr lo ch) z_1 τ_u_2 (κ_u_2 1 0) := hp
  have q_3 : -2147483648 ≤ z_1 ∧ z_1 ≤ 2147483647 := by have q8 := @wrg_rg (lay τ (τ 0 1).toNat sg sa ln ph dr lo ch); rcases hm9 with q | q <;> omega
  have q_4 : 0 ≤ κ_u_2 1 0 ∧ κ_u_2 1 0 ≤ 3 := by rw [ht9]; unfold thL; (repeat' split) <;> omega
  have hP : zB 17 h D (mC c h (τ_u_2) (κ_u_2)) H := hP
  exact z_reti (P := fun z u9 => ML τ (thL τ sg sa ln ph dr lo ch) (lay τ (τ 0 1).toNat sg sa ln ph dr lo ch) z u9.1 (u9.2 1 0)) (z := z_1) (u := (τ_u_2, κ_u_2)) (w := fun u9 => mC c h u9.1 u9.2) hF hr hlocks hP hS (rfl) (⟨ht9, hm9, hGl⟩) dX4_reason_15

set_option maxRecDepth 100000 in
set_option maxHeartbeats 4000000 in
theorem c_X4_plan (l : Launch) (h : Nat → Nat) (D : va_G) (c : Nat → ClassId) (τ κ : Nat → Nat → Int) (hinj : ∀ i j, i < 17 → j < 17 → h i = h j → i = j) (hG : GI τ) (sg : Int) (hsg : -2147483648 ≤ sg ∧ sg ≤ 2147483647) (sa : Int) (hsa : -2147483648 ≤ sa ∧ sa ≤ 2147483647) (ln : Int) (hln : -2147483648 ≤ ln ∧ ln ≤ 2147483647) (ph : Int) (hph : -2147483648 ≤ ph ∧ ph ≤ 2147483647) (dr : Int) (hdr : -2147483648 ≤ dr ∧ dr ≤ 2147483647) (lo : Int) (hlo : -2147483648 ≤ lo ∧ lo ≤ 2147483647) (ch : Int) (hch : -2147483648 ≤ ch ∧ ch ≤ 2147483647) :
    zMi (S := (Nat → Nat → Int) × (Nat → Nat → Int)) l yX4_plan cX4_plan 9 (some .int) 5 123 [.ref (h (0)), .int (iz (sg)), .int (iz (sa)), .int (iz (ln)), .int (iz (ph)), .int (iz (dr)), .int (iz (lo)), .int (iz (ch))] 17 h D (gT c) (mC c h (τ) (κ)) (fun u9 => mC c h u9.1 u9.2) (fun z u9 => MPl τ (thL τ sg sa ln ph dr lo ch) (lay τ (τ 0 1).toNat sg sa ln ph dr lo ch) z u9.1 (u9.2 1 0)) := by
  refine zM_of (by decide) (Nat.le_of_ble_eq_true rfl) ?_
  intro p e s m below meth cd ls ⟨hF, hr, hlocks, hK⟩ hP hl
  have hz : zD (zA 17 h s.heap.size) 17 h := zD.self hinj s.heap.size
  have hA : ∀ q, s.heap.size ≤ q → zA 17 h s.heap.size q := zA_new
  generalize zA 17 h s.heap.size = A at hz hA ⊢
  have hS : va_S A s.heap s.heap [] := va_S.rf
  have hl : lv_has ls 9 [(0, .ref (h (0))), (1, .int (iz (sg))), (2, .int (iz (sa))), (3, .int (iz (ln))), (4, .int (iz (ph))), (5, .int (iz (dr))), (6, .int (iz (lo))), (7, .int (iz (ch)))] := hl
  refine lv_aload_n hF.1 hF.2.1 dX4_plan_0 rfl (lv_at hl 0 rfl) ?_
  refine lv_iload_n hF.1 hF.2.1 dX4_plan_1 rfl (lv_at hl 1 rfl) ?_
  refine lv_iload_n hF.1 hF.2.1 dX4_plan_2 rfl (lv_at hl 2 rfl) ?_
  refine lv_iload_n hF.1 hF.2.1 dX4_plan_3 rfl (lv_at hl 3 rfl) ?_
  refine lv_iload hF.1 hF.2.1 dX4_plan_4 (lv_at hl 4 rfl) ?_
  refine lv_iload hF.1 hF.2.1 dX4_plan_6 (lv_at hl 5 rfl) ?_
  refine lv_iload hF.1 hF.2.1 dX4_plan_8 (lv_at hl 6 rfl) ?_
  refine lv_iload hF.1 hF.2.1 dX4_plan_10 (lv_at hl 7 rfl) ?_
  refine z_ci (S := (Nat → Nat → Int) × (Nat → Nat → Int)) (w := fun u9 => mC c h u9.1 u9.2) (P := fun z u9 => ML τ (thL τ sg sa ln ph dr lo ch) (lay τ (τ 0 1).toNat sg sa ln ph dr lo ch) z u9.1 (u9.2 1 0)) (z_runV (rm := { frames := 4, cells := 0, slots := 0, locals := 94 }) hF hK hP (c_X4_lays l h D c τ κ hinj hG sg (by omega) sa (by omega) ln (by omega) ph (by omega) dr (by omega) lo (by omega) ch (by omega) _) (gIn_V mw_497 mw_498 mw_499 mw_447 mw_496) rfl rfl ⟨rfl, by decide, by decide, rfl⟩ ⟨Nat.le_of_ble_eq_true rfl, Nat.le_of_ble_eq_true rfl⟩ (k := 0) (T := TX4) (N := 22) (by omega) rfl (rfl) rfl (As := [.int (iz (sg)), .int (iz (sa)), .int (iz (ln)), .int (iz (ph)), .int (iz (dr)), .int (iz (lo)), .int (iz (ch))]) (rest := []) rfl hl.1 rfl (Nat.le_of_ble_eq_true rfl) dX4_plan_12 ⟨Nat.le_refl _, Nat.le_refl _⟩) hz hA hS (fun z_1 u_2 H locs hp hP hS => ?_)
  obtain ⟨τ_u_2, κ_u_2⟩ := u_2
  obtain ⟨ht9, hm9, hGl⟩ : ML τ (thL τ sg sa ln ph dr lo ch) (lay τ (τ 0 1).toNat sg sa ln ph dr lo ch) z_1 τ_u_2 (κ_u_2 1 0) := hp
  have q_3 : -2147483648 ≤ z_1 ∧ z_1 ≤ 2147483647 := by have q8 := @wrg_rg (lay τ (τ 0 1).toNat sg sa ln ph dr lo ch); rcases hm9 with q | q <;> omega
  have q_4 : 0 ≤ κ_u_2 1 0 ∧ κ_u_2 1 0 ≤ 3 := by rw [ht9]; unfold thL; (repeat' split) <;> omega
  have hP : zB 17 h D (mC c h (τ_u_2) (κ_u_2)) H := hP
  refine lv_istore (lv' := [(8, .int (iz (z_1))), (0, .ref (h (0))), (1, .int (iz (sg))), (2, .int (iz (sa))), (3, .int (iz (ln))), (4, .int (iz (ph))), (5, .int (iz (dr))), (6, .int (iz (lo))), (7, .int (iz (ch)))]) hF.1 hF.2.1 dX4_plan_15 hl (by decide) rfl (fun ls hl => ?_)
  refine lv_aload_n hF.1 hF.2.1 dX4_plan_17 rfl (lv_at hl 1 rfl) ?_
  refine z_get hF hK hP (k := 0) (C := RX4) (T := TX4) (N := 22) (by omega) (rfl) rfl uin_X4 21 (by decide) mw_442 (v := .int (iz (κ_u_2 1 0))) rfl dX4_plan_18 ?_
  refine zi_if_le (tgt := 26) hF.1 hF.2.1 (a := κ_u_2 1 0) dX4_plan_21 (by decide) (by omega) (fun c_21 => ?_) (fun c_21 => ?_)
  · skip
    refine lv_iload hF.1 hF.2.1 dX4_plan_26 (lv_at hl 0 rfl) ?_
    refine zi_if_le (tgt := 33) hF.1 hF.2.1 (a := z_1) dX4_plan_28 (by decide) (by omega) (fun c_28 => ?_) (fun c_28 => ?_)
    · skip
      have hth : thL τ sg sa ln ph dr lo ch = 0 := by rcases hm9 with q | q <;> omega
      have hτ9 : τ_u_2 = u2 (lay τ (τ 0 1).toNat sg sa ln ph dr lo ch) 14 (τ 0 1).toNat 0 := by rcases hm9 with q | q; omega; exact q.2.2
      have hw9 : wrg (lay τ (τ 0 1).toNat sg sa ln ph dr lo ch) = 0 := by have q8 := @wrg_rg (lay τ (τ 0 1).toNat sg sa ln ph dr lo ch); rcases hm9 with q | q; omega; have q7 := q.2.1; omega
      have hn9 : τ_u_2 0 1 = τ 0 1 := by rw [hτ9]; rfl
      have hg1 := GI_01 hG
      have hlt : τ 0 1 ≠ 16 := fun q => by unfold thL at hth; (repeat' split at hth) <;> omega
      refine lv_aload_n hF.1 hF.2.1 dX4_plan_33 rfl (lv_at hl 1 rfl) ?_
      refine z_get hF hK hP (k := 0) (C := RX4) (T := TX4) (N := 22) (by omega) (rfl) rfl uin_X4 13 (by decide) mw_436 (v := .ref (h (12))) rfl dX4_plan_34 ?_
      refine lv_aload_n hF.1 hF.2.1 dX4_plan_37 rfl (lv_at hl 1 rfl) ?_
      refine z_get hF hK hP (k := 0) (C := RX4) (T := TX4) (N := 22) (by omega) (rfl) rfl uin_X4 5 (by decide) mw_495 (v := .int (iz (τ_u_2 0 1))) rfl dX4_plan_38 ?_
      have q_5 := GI_01 hGl
      refine zi_const hF.1 hF.2.1 dX4_plan_41 ?_
      refine z_zast hF hK hz hP hS (k := 12) (by decide) rfl 4 rfl (i := τ_u_2 0 1) ((τ_u_2 0 1).toNat) ((Int.toNat_of_nonneg (by omega)).symm) (by omega) (by decide) (x := 1) (by first | omega | (unfold b2i; split <;> omega)) (g' := mC c h (u2 (τ_u_2) 14 ((τ_u_2 0 1).toNat) (1)) (κ_u_2)) (by show Sum.inl (_, _, Sum.inl _) = _; rw [u2_up]) (mC_row_o (a := 12) ⟨by decide, by decide⟩) dX4_plan_42 (fun H locs hP hS => ?_)
      have hG_6 := GI_u14 hGl (v := 1) (k := (τ_u_2 0 1).toNat) (by omega)
      refine lv_aload_n hF.1 hF.2.1 dX4_plan_43 rfl (lv_at hl 1 rfl) ?_
      refine lv_dup hF.1 hF.2.1 dX4_plan_44 rfl ?_
      refine z_get hF hK hP (k := 0) (C := RX4) (T := TX4) (N := 22) (by omega) (rfl) rfl uin_X4 5 (by decide) mw_495 (v := .int (iz (τ_u_2 0 1))) rfl dX4_plan_45 ?_
      have q_7 := GI_01 hGl
      refine zi_const hF.1 hF.2.1 dX4_plan_48 ?_
      refine zi_add hF.1 hF.2.1 dX4_plan_49 ?_
      refine z_put hF hK hz hP hS (k := 0) (C := RX4) (T := TX4) (N := 22) (by omega) (rfl) rfl uin_X4 tyX4_ok nmX4 5 (by decide) mw_495 rfl (⟨rfl, rfl⟩) (by simp) (g' := mC c h (u2 (u2 (τ_u_2) 14 ((τ_u_2 0 1).toNat) (1)) 0 1 ((τ_u_2 0 1) + 1)) (κ_u_2)) (rfl) (mC_sc_o) dX4_plan_50 (fun H locs hP hS => ?_)
      have hG_8 := GI_u01 hG_6 (v := (τ_u_2 0 1) + 1) (by omega)
      refine lv_aload_n hF.1 hF.2.1 dX4_plan_53 rfl (lv_at hl 1 rfl) ?_
      refine z_get hF hK hP (k := 0) (C := RX4) (T := TX4) (N := 22) (by omega) (rfl) rfl uin_X4 5 (by decide) mw_495 (v := .int (iz ((τ_u_2 0 1) + 1))) rfl dX4_plan_54 ?_
      refine zi_const hF.1 hF.2.1 dX4_plan_57 ?_
      refine zi_sub hF.1 hF.2.1 dX4_plan_58 ?_
      exact z_reti (P := fun z u9 => MPl τ (thL τ sg sa ln ph dr lo ch) (lay τ (τ 0 1).toNat sg sa ln ph dr lo ch) z u9.1 (u9.2 1 0)) (z := ((τ_u_2 0 1) + 1) - 1) (u := (u2 (u2 (τ_u_2) 14 ((τ_u_2 0 1).toNat) (1)) 0 1 ((τ_u_2 0 1) + 1), κ_u_2)) (w := fun u9 => mC c h u9.1 u9.2) hF hr hlocks hP hS (rfl) (⟨ht9, Or.inr ⟨hth, Or.inr ⟨hw9, by rw [hn9]; exact (show (_ : Int) + 1 - 1 = _ by omega), by rw [hn9, hτ9, u2_u2]⟩⟩, hG_8⟩) dX4_plan_59
    · skip
      refine zi_const hF.1 hF.2.1 dX4_plan_31 ?_
      exact z_reti (P := fun z u9 => MPl τ (thL τ sg sa ln ph dr lo ch) (lay τ (τ 0 1).toNat sg sa ln ph dr lo ch) z u9.1 (u9.2 1 0)) (z := -1) (u := (τ_u_2, κ_u_2)) (w := fun u9 => mC c h u9.1 u9.2) hF hr hlocks hP hS (rfl) (⟨ht9, Or.inr (by rcases hm9 with q | q; omega; exact ⟨q.1, Or.inl ⟨by omega, rfl, q.2.2⟩⟩), hGl⟩) dX4_plan_32
  · skip
    refine zi_const hF.1 hF.2.1 dX4_plan_24 ?_
    exact z_reti (P := fun z u9 => MPl τ (thL τ sg sa ln ph dr lo ch) (lay τ (τ 0 1).toNat sg sa ln ph dr lo ch) z u9.1 (u9.2 1 0)) (z := 0) (u := (τ_u_2, κ_u_2)) (w := fun u9 => mC c h u9.1 u9.2) hF hr hlocks hP hS (rfl) (⟨ht9, Or.inl (by rcases hm9 with q | q; exact ⟨q.1, rfl, q.2.2⟩; omega), hGl⟩) dX4_plan_25
