def spk (τ : Nat → Nat → Int) (mi : Int) (k : Nat) : Prop := pl τ k mi ∧ 0 ≤ τ 13 k
noncomputable def spL (τ : Nat → Nat → Int) (mi : Int) : Nat → List Nat
  | 0 => []
  | i + 1 => @ite (List Nat) (spk τ mi i) (Classical.propDecidable _) (spL τ mi i ++ [i]) (spL τ mi i)
theorem spL_t {τ : Nat → Nat → Int} {mi : Int} {i : Nat} (h : spk τ mi i) : spL τ mi (i + 1) = spL τ mi i ++ [i] := if_pos h
theorem spL_f {τ : Nat → Nat → Int} {mi : Int} {i : Nat} (h : ¬ spk τ mi i) : spL τ mi (i + 1) = spL τ mi i := if_neg h
theorem spL_len {τ : Nat → Nat → Int} {mi : Int} (i : Nat) : (spL τ mi i).length ≤ i := by
  induction i with
  | zero => exact Nat.le_refl _
  | succ i ih =>
    rcases Classical.em (spk τ mi i) with h | h
    · rw [spL_t h]; simp; exact ih
    · rw [spL_f h]; omega
def cE1 (H : Nat → Int) (a b : Nat) : Prop := a = b ∨ ¬ (-1 ≤ H a - H b ∧ H a - H b ≤ 1)
def cE2 (H : Nat → Int) (a b c : Nat) : Prop := a = b ∨ c = a ∨ c = b ∨ 2 * H a - H b ≠ H c
def clear (H : Nat → Int) (n : Nat) (x : Nat) : Prop := cE1 H (x / n) (x % n) ∧ ∀ c, c < n → cE2 H (x / n) (x % n) c
noncomputable def spH (τ : Nat → Nat → Int) (mi : Int) (j : Nat) : Int := τ 13 ((spL τ mi 17).getD j 0)
noncomputable def spn (τ : Nat → Nat → Int) (mi : Int) : Nat := (spL τ mi 17).length
def clr (τ : Nat → Nat → Int) (mi : Int) : Prop := ∀ x, x < spn τ mi * spn τ mi → clear (spH τ mi) (spn τ mi) x
theorem zi_mulE {p : Program} {l : Launch} {e : Env} {R : Room} {s : State} {m : MethodId} {args : Array Value} {below : List Frame} {meth : Method} {c : Code} {H : Heap} {locs : List Loc} {cells slots : Nat} {Q : State → Prop} {cc : ByteArray} {pc : Nat} {ls : Array Slot} {rest : List Value} (hx : p.tables.exec = Jvm.exec) (hb : c.code = cc) {a b r : Int} (h : a * b = r) (hd : decode cc pc = .ok (.imul, 1))
    (k : W p l e R s m args below meth c H locs cells slots Q (F0 m (pc + 1) ls (.int (iz r) :: rest))) : W p l e R s m args below meth c H locs cells slots Q (F0 m pc ls (.int (iz b) :: .int (iz a) :: rest)) := zi_mul hx hb hd (by rw [h]; exact k)
theorem zi_divE {p : Program} {l : Launch} {e : Env} {R : Room} {s : State} {m : MethodId} {args : Array Value} {below : List Frame} {meth : Method} {c : Code} {H : Heap} {locs : List Loc} {cells slots : Nat} {Q : State → Prop} {cc : ByteArray} {pc : Nat} {ls : Array Slot} {rest : List Value} (hx : p.tables.exec = Jvm.exec) (hb : c.code = cc) {a b r : Int} (h : a / b = r) (hd : decode cc pc = .ok (.idiv, 1)) (ha : 0 ≤ a ∧ a ≤ 2147483647) (hb0 : 0 < b ∧ b ≤ 2147483647)
    (k : W p l e R s m args below meth c H locs cells slots Q (F0 m (pc + 1) ls (.int (iz r) :: rest))) : W p l e R s m args below meth c H locs cells slots Q (F0 m pc ls (.int (iz b) :: .int (iz a) :: rest)) := zi_div hx hb hd ha hb0 (by rw [h]; exact k)
theorem zi_remE {p : Program} {l : Launch} {e : Env} {R : Room} {s : State} {m : MethodId} {args : Array Value} {below : List Frame} {meth : Method} {c : Code} {H : Heap} {locs : List Loc} {cells slots : Nat} {Q : State → Prop} {cc : ByteArray} {pc : Nat} {ls : Array Slot} {rest : List Value} (hx : p.tables.exec = Jvm.exec) (hb : c.code = cc) {a b r : Int} (h : a % b = r) (hd : decode cc pc = .ok (.irem, 1)) (ha : 0 ≤ a ∧ a ≤ 2147483647) (hb0 : 0 < b ∧ b ≤ 2147483647)
    (k : W p l e R s m args below meth c H locs cells slots Q (F0 m (pc + 1) ls (.int (iz r) :: rest))) : W p l e R s m args below meth c H locs cells slots Q (F0 m pc ls (.int (iz b) :: .int (iz a) :: rest)) := zi_rem hx hb hd ha hb0 (by rw [h]; exact k)
def mb (τ : Nat → Nat → Int) (i : Nat) : Int := if i < 17 then 60 * (i : Int) else τ 8 (i - 17)
def vld (τ : Nat → Nat → Int) (i : Nat) : Prop := i < 17 ∨ τ 14 (i - 17) ≠ 0
noncomputable def s1 (τ : Nat → Nat → Int) (mi f : Int) : Int := ie (2 < f ∧ ¬ fed τ mi) 2 f
noncomputable def s2 (τ : Nat → Nat → Int) (mi f : Int) : Int := ie (3 < f ∧ ¬ clr τ mi) 3 f
noncomputable def s3 (τ : Nat → Nat → Int) (mi f : Int) : Int := ie (4 < f ∧ ¬ quiet τ mi) 4 f
noncomputable def wF (τ : Nat → Nat → Int) : Nat → Int
  | 0 => 5
  | i + 1 => ie (vld τ i) (s3 τ (mb τ i) (s2 τ (mb τ i) (s1 τ (mb τ i) (wF τ i)))) (wF τ i)
theorem ie_rg {P : Prop} {a b lo hi : Int} (ha : lo ≤ a ∧ a ≤ hi) (hb : lo ≤ b ∧ b ≤ hi) : lo ≤ ie P a b ∧ ie P a b ≤ hi := by
  rcases Classical.em P with h | h
  · rw [ie_t h]; exact ha
  · rw [ie_f h]; exact hb
theorem s1_rg {τ : Nat → Nat → Int} {mi f : Int} (h : 2 ≤ f ∧ f ≤ 5) : 2 ≤ s1 τ mi f ∧ s1 τ mi f ≤ 5 := ie_rg (by decide) h
theorem s2_rg {τ : Nat → Nat → Int} {mi f : Int} (h : 2 ≤ f ∧ f ≤ 5) : 2 ≤ s2 τ mi f ∧ s2 τ mi f ≤ 5 := ie_rg (by decide) h
theorem s3_rg {τ : Nat → Nat → Int} {mi f : Int} (h : 2 ≤ f ∧ f ≤ 5) : 2 ≤ s3 τ mi f ∧ s3 τ mi f ≤ 5 := ie_rg (by decide) h
theorem wF_rg {τ : Nat → Nat → Int} (i : Nat) : 2 ≤ wF τ i ∧ wF τ i ≤ 5 := by
  induction i with
  | zero => exact ⟨by simp [wF], by simp [wF]⟩
  | succ i ih => exact ie_rg (s3_rg (s2_rg (s1_rg ih))) ih
noncomputable def wrg (τ : Nat → Nat → Int) : Int := ie (placed τ) (wF τ 34 % 5) 1
theorem wrg_rg {τ : Nat → Nat → Int} : 0 ≤ wrg τ ∧ wrg τ ≤ 4 := ie_rg (by have := @wF_rg τ 34; omega) (by decide)

set_option maxRecDepth 100000 in
set_option maxHeartbeats 4000000 in
theorem c_X4_isFed (l : Launch) (h : Nat → Nat) (D : va_G) (c : Nat → ClassId) (τ κ : Nat → Nat → Int) (hinj : ∀ i j, i < 17 → j < 17 → h i = h j → i = j) (hG : GI τ) (mi : Int) (hm : -100 ≤ mi ∧ mi ≤ 5000) :
    zMi (S := Unit) l yX4_isFed cX4_isFed 5 (some .boolean) 2 46 [.ref (h (0)), .int (iz (mi))] 17 h D (gT c) (mC c h (τ) (κ)) (fun _ => mC c h τ κ) (fun z _ => z = b2i (fed τ mi)) := by
  refine zM_of (by decide) (Nat.le_of_ble_eq_true rfl) ?_
  intro p e s m below meth cd ls ⟨hF, hr, hlocks, hK⟩ hP hl
  have hz : zD (zA 17 h s.heap.size) 17 h := zD.self hinj s.heap.size
  have hA : ∀ q, s.heap.size ≤ q → zA 17 h s.heap.size q := zA_new
  generalize zA 17 h s.heap.size = A at hz hA ⊢
  have hS : va_S A s.heap s.heap [] := va_S.rf
  have hl : lv_has ls 5 [(0, .ref (h (0))), (1, .int (iz (mi)))] := hl
  refine zi_const hF.1 hF.2.1 dX4_isFed_0 ?_
  refine lv_istore_n (lv' := [(2, .int (iz (0))), (0, .ref (h (0))), (1, .int (iz (mi)))]) hF.1 hF.2.1 dX4_isFed_1 rfl hl (by decide) rfl (fun ls hl => ?_)
  refine zi_const hF.1 hF.2.1 dX4_isFed_2 ?_
  refine lv_istore_n (lv' := [(3, .int (iz (0))), (2, .int (iz (0))), (0, .ref (h (0))), (1, .int (iz (mi)))]) hF.1 hF.2.1 dX4_isFed_3 rfl hl (by decide) rfl (fun ls hl => ?_)
  have nv_2 : ((0) ≤ 6 ∧ ((0) : Int) ≤ τ 0 0) := (by have := GI_00 hG; omega)
  refine z_loop (V := Nat) (nL := 5) (wd := fun v_1 => mC c h (τ) (κ)) (lv := fun v_1 => [(0, .ref (h (0))), (1, .int (iz (mi))), (2, .int (iz (stN τ mi v_1))), (3, .int (iz ((v_1 : Int))))]) (stk := fun v_1 => []) (mu := fun v_1 => 7 - v_1) (inv := fun v_1 => (v_1 ≤ 6 ∧ (v_1 : Int) ≤ τ 0 0)) ?_ 0 nv_2 hP hS (lv_sub hl [2, 3, 1, 0] rfl)
  intro i hv ih_4 H locs ls hP hS hl
  have hP : zB 17 h D (mC c h (τ) (κ)) H := hP
  have hl : lv_has ls 5 [(0, .ref (h (0))), (1, .int (iz (mi))), (2, .int (iz (stN τ mi i))), (3, .int (iz ((i : Int))))] := hl
  have hi_i : i ≤ 6 ∧ (i : Int) ≤ τ 0 0 := hv
  refine lv_iload_n hF.1 hF.2.1 dX4_isFed_4 rfl (lv_at hl 3 rfl) ?_
  refine lv_aload_n hF.1 hF.2.1 dX4_isFed_5 rfl (lv_at hl 0 rfl) ?_
  refine z_get hF hK hP (k := 0) (C := RX4) (T := TX4) (N := 22) (by omega) (rfl) rfl uin_X4 0 (by decide) mw_458 (v := .int (iz (τ 0 0))) rfl dX4_isFed_6 ?_
  have q_3 := GI_00 hG
  refine zi_icmp_ge (tgt := 36) hF.1 hF.2.1 (a := (i : Int)) (b := τ 0 0) dX4_isFed_9 (by decide) (by omega) (by omega) (fun c_9 => ?_) (fun c_9 => ?_)
  · skip
    refine zi_const hF.1 hF.2.1 dX4_isFed_36 ?_
    refine lv_istore_n (lv' := [(3, .int (iz (1))), (0, .ref (h (0))), (1, .int (iz (mi))), (2, .int (iz (stN τ mi i)))]) hF.1 hF.2.1 dX4_isFed_37 rfl hl (by decide) rfl (fun ls hl => ?_)
    refine zi_const hF.1 hF.2.1 dX4_isFed_38 ?_
    refine lv_istore (lv' := [(4, .int (iz (0))), (3, .int (iz (1))), (0, .ref (h (0))), (1, .int (iz (mi))), (2, .int (iz (stN τ mi i)))]) hF.1 hF.2.1 dX4_isFed_39 hl (by decide) rfl (fun ls hl => ?_)
    have e_4 : stN τ mi i = stN τ mi (τ 0 0).toNat := by rw [show i = (τ 0 0).toNat by omega]
    have hl : lv_has ls 5 [(4, .int (iz (0))), (3, .int (iz (1))), (0, .ref (h (0))), (1, .int (iz (mi))), (2, .int (iz (stN τ mi (τ 0 0).toNat)))] := by rw [← e_4]; exact hl
    have e_5 : (1 : Int) = b2i (∀ q, q < 0 → ldS τ mi q 17 ≤ 100 * stN τ mi (τ 0 0).toNat) := (b2i_t lt_0).symm
    have hl : lv_has ls 5 [(4, .int (iz (0))), (3, .int (iz (b2i (∀ q, q < 0 → ldS τ mi q 17 ≤ 100 * stN τ mi (τ 0 0).toNat)))), (0, .ref (h (0))), (1, .int (iz (mi))), (2, .int (iz (stN τ mi (τ 0 0).toNat)))] := by rw [← e_5]; exact hl
    have hst := stN_rg (σ := τ) (mi := mi) (τ 0 0).toNat
    have hg0 := GI_00 hG
    have nv_7 : ((0) ≤ 3) := (by omega)
    refine z_loop (V := Nat) (nL := 5) (wd := fun v_6 => mC c h (τ) (κ)) (lv := fun v_6 => [(0, .ref (h (0))), (1, .int (iz (mi))), (2, .int (iz (stN τ mi (τ 0 0).toNat))), (3, .int (iz (b2i (∀ q, q < v_6 → ldS τ mi q 17 ≤ 100 * stN τ mi (τ 0 0).toNat)))), (4, .int (iz ((v_6 : Int))))]) (stk := fun v_6 => []) (mu := fun v_6 => 4 - v_6) (inv := fun v_6 => (v_6 ≤ 3)) ?_ 0 nv_7 hP hS (lv_sub hl [2, 3, 4, 1, 0] rfl)
    intro j hv ih_41 H locs ls hP hS hl
    have hP : zB 17 h D (mC c h (τ) (κ)) H := hP
    have hl : lv_has ls 5 [(0, .ref (h (0))), (1, .int (iz (mi))), (2, .int (iz (stN τ mi (τ 0 0).toNat))), (3, .int (iz (b2i (∀ q, q < j → ldS τ mi q 17 ≤ 100 * stN τ mi (τ 0 0).toNat)))), (4, .int (iz ((j : Int))))] := hl
    have hj_j : j ≤ 3 := hv
    refine lv_iload hF.1 hF.2.1 dX4_isFed_41 (lv_at hl 4 rfl) ?_
    refine zi_const hF.1 hF.2.1 dX4_isFed_43 ?_
    refine zi_icmp_ge (tgt := 75) hF.1 hF.2.1 (a := (j : Int)) (b := 3) dX4_isFed_44 (by decide) (by omega) (by omega) (fun c_44 => ?_) (fun c_44 => ?_)
    · skip
      refine lv_iload_n hF.1 hF.2.1 dX4_isFed_75 rfl (lv_at hl 3 rfl) ?_
      exact z_reti (P := fun z _ => z = b2i (fed τ mi)) (z := b2i (∀ q, q < j → ldS τ mi q 17 ≤ 100 * stN τ mi (τ 0 0).toNat)) (u := ()) (w := fun _ => mC c h τ κ) hF hr hlocks hP hS ((iz_nar_z (by first | omega | exact b2i_rg)).1) (by rw [show j = 3 by omega]; rfl) dX4_isFed_76
    · skip
      refine lv_iload_n hF.1 hF.2.1 dX4_isFed_47 rfl (lv_at hl 3 rfl) ?_
      refine z_join (n := 17) (h := h) (D := D) (A := A) (V := Int) (tgt := 67) (nL := 5) (wd := fun v_8 => mC c h (τ) (κ)) (lv := fun v_8 => [(0, .ref (h (0))), (1, .int (iz (mi))), (2, .int (iz (stN τ mi (τ 0 0).toNat))), (3, .int (iz (b2i (∀ q, q < j → ldS τ mi q 17 ≤ 100 * stN τ mi (τ 0 0).toNat)))), (4, .int (iz ((j : Int))))]) (stk := fun v_8 => [.int (iz (v_8)), .int (iz (b2i (∀ q, q < j → ldS τ mi q 17 ≤ 100 * stN τ mi (τ 0 0).toNat)))]) (inv := fun v_8 => (v_8 = b2i (ldS τ mi j 17 ≤ 100 * stN τ mi (τ 0 0).toNat))) ?_ (fun jn_67 => ?_)
      · skip
        intro v hv H locs ls hP hS hl
        have hP : zB 17 h D (mC c h (τ) (κ)) H := hP
        have hl : lv_has ls 5 [(0, .ref (h (0))), (1, .int (iz (mi))), (2, .int (iz (stN τ mi (τ 0 0).toNat))), (3, .int (iz (b2i (∀ q, q < j → ldS τ mi q 17 ≤ 100 * stN τ mi (τ 0 0).toNat)))), (4, .int (iz ((j : Int))))] := hl
        have hvq : v = b2i (ldS τ mi j 17 ≤ 100 * stN τ mi (τ 0 0).toNat) := hv
        obtain rfl : v = b2i (ldS τ mi j 17 ≤ 100 * stN τ mi (τ 0 0).toNat) := hvq
        refine zi_andb hF.1 hF.2.1 (P := ∀ q, q < j → ldS τ mi q 17 ≤ 100 * stN τ mi (τ 0 0).toNat) (P' := ldS τ mi j 17 ≤ 100 * stN τ mi (τ 0 0).toNat) dX4_isFed_67 ?_
        refine lv_istore_n (lv' := [(3, .int (iz (b2i ((∀ q, q < j → ldS τ mi q 17 ≤ 100 * stN τ mi (τ 0 0).toNat) ∧ (ldS τ mi j 17 ≤ 100 * stN τ mi (τ 0 0).toNat))))), (0, .ref (h (0))), (1, .int (iz (mi))), (2, .int (iz (stN τ mi (τ 0 0).toNat))), (4, .int (iz ((j : Int))))]) hF.1 hF.2.1 dX4_isFed_68 rfl hl (by decide) rfl (fun ls hl => ?_)
        refine lv_iinc (v := iz (((j + 1 : Nat) : Int))) (lv' := [(4, .int (iz (((j + 1 : Nat) : Int)))), (3, .int (iz (b2i ((∀ q, q < j → ldS τ mi q 17 ≤ 100 * stN τ mi (τ 0 0).toNat) ∧ (ldS τ mi j 17 ≤ 100 * stN τ mi (τ 0 0).toNat))))), (0, .ref (h (0))), (1, .int (iz (mi))), (2, .int (iz (stN τ mi (τ 0 0).toNat)))]) hF.1 hF.2.1 dX4_isFed_69 hl (k := 4) rfl ((iz_add _ _).trans (congrArg iz (by omega))) (by decide) rfl (fun ls hl => ?_)
        refine lv_goto (tgt := 41) hF.1 hF.2.1 dX4_isFed_72 (by decide) ?_
        have e_9 : b2i ((∀ q, q < j → ldS τ mi q 17 ≤ 100 * stN τ mi (τ 0 0).toNat) ∧ (ldS τ mi j 17 ≤ 100 * stN τ mi (τ 0 0).toNat)) = b2i (∀ q, q < (j + 1) → ldS τ mi q 17 ≤ 100 * stN τ mi (τ 0 0).toNat) := b2i_iff (all_s)
        have hl : lv_has ls 5 [(4, .int (iz (((j + 1 : Nat) : Int)))), (3, .int (iz (b2i (∀ q, q < (j + 1) → ldS τ mi q 17 ≤ 100 * stN τ mi (τ 0 0).toNat)))), (0, .ref (h (0))), (1, .int (iz (mi))), (2, .int (iz (stN τ mi (τ 0 0).toNat)))] := by rw [← e_9]; exact hl
        have nv_10 : (((j + 1)) ≤ 3) := (by omega)
        exact ih_41 (j + 1) nv_10 (by show 4 - ((j + 1)) < 4 - j; omega) _ _ _ hP hS (lv_sub hl [2, 3, 4, 1, 0] rfl)
      · skip
        refine lv_aload_n hF.1 hF.2.1 dX4_isFed_48 rfl (lv_at hl 0 rfl) ?_
        refine lv_iload_n hF.1 hF.2.1 dX4_isFed_49 rfl (lv_at hl 1 rfl) ?_
        refine lv_iload hF.1 hF.2.1 dX4_isFed_50 (lv_at hl 4 rfl) ?_
        refine z_ci (S := Unit) (w := fun _ => mC c h τ κ) (P := fun z _ => z = ldS τ mi j 17) (z_runV (rm := { frames := 1, cells := 0, slots := 0, locals := 22 }) hF hK hP (c_X4_loaded l h D c τ κ hinj hG mi (by omega) j (by omega) _) (gIn_V mw_459 mw_460 mw_461 mw_447 mw_450) rfl rfl ⟨rfl, by decide, by decide, rfl⟩ ⟨Nat.le_of_ble_eq_true rfl, Nat.le_of_ble_eq_true rfl⟩ (k := 0) (T := TX4) (N := 22) (by omega) rfl (rfl) rfl (As := [.int (iz (mi)), .int (iz ((j : Int)))]) (rest := [.int (iz (b2i (∀ q, q < j → ldS τ mi q 17 ≤ 100 * stN τ mi (τ 0 0).toNat)))]) rfl hl.1 rfl (Nat.le_of_ble_eq_true rfl) dX4_isFed_52 ⟨Nat.le_refl _, Nat.le_refl _⟩) hz hA hS (fun z_11 u_12 H locs hp hP hS => ?_)
        obtain rfl : z_11 = ldS τ mi j 17 := hp
        have q_13 := @ldS_rg τ hG mi j 17
        refine zi_bipush hF.1 hF.2.1 dX4_isFed_55 (by decide) ?_
        refine lv_iload_n hF.1 hF.2.1 dX4_isFed_57 rfl (lv_at hl 2 rfl) ?_
        refine zi_mul hF.1 hF.2.1 dX4_isFed_58 ?_
        refine zi_icmp_gt (tgt := 66) hF.1 hF.2.1 (a := ldS τ mi j 17) (b := 100 * (stN τ mi (τ 0 0).toNat)) dX4_isFed_59 (by decide) (by omega) (by omega) (fun c_59 => ?_) (fun c_59 => ?_)
        · skip
          refine zi_const hF.1 hF.2.1 dX4_isFed_66 ?_
          have nv_14 : (((0)) = b2i (ldS τ mi j 17 ≤ 100 * stN τ mi (τ 0 0).toNat)) := (by first | exact (b2i_t (by omega)).symm | exact (b2i_f (by omega)).symm)
          exact jn_67 (0) nv_14 _ _ _ hP hS (lv_sub hl [0, 1, 2, 3, 4] rfl)
        · skip
          refine zi_const hF.1 hF.2.1 dX4_isFed_62 ?_
          refine lv_goto (tgt := 67) hF.1 hF.2.1 dX4_isFed_63 (by decide) ?_
          have nv_15 : (((1)) = b2i (ldS τ mi j 17 ≤ 100 * stN τ mi (τ 0 0).toNat)) := (by first | exact (b2i_t (by omega)).symm | exact (b2i_f (by omega)).symm)
          exact jn_67 (1) nv_15 _ _ _ hP hS (lv_sub hl [0, 1, 2, 3, 4] rfl)
  · skip
    refine lv_iload_n hF.1 hF.2.1 dX4_isFed_12 rfl (lv_at hl 2 rfl) ?_
    refine z_join (n := 17) (h := h) (D := D) (A := A) (V := Int) (tgt := 28) (nL := 5) (wd := fun v_16 => mC c h (τ) (κ)) (lv := fun v_16 => [(0, .ref (h (0))), (1, .int (iz (mi))), (2, .int (iz (stN τ mi i))), (3, .int (iz ((i : Int))))]) (stk := fun v_16 => [.int (iz (v_16)), .int (iz (stN τ mi i))]) (inv := fun v_16 => ((v_16 : Int) = (if τ 1 i ≤ mi then 1 else 0))) ?_ (fun jn_28 => ?_)
    · skip
      intro v hv H locs ls hP hS hl
      have hP : zB 17 h D (mC c h (τ) (κ)) H := hP
      have hl : lv_has ls 5 [(0, .ref (h (0))), (1, .int (iz (mi))), (2, .int (iz (stN τ mi i))), (3, .int (iz ((i : Int))))] := hl
      have hvq : (v : Int) = (if τ 1 i ≤ mi then 1 else 0) := hv
      obtain rfl : v = (if τ 1 i ≤ mi then 1 else 0) := hvq
      refine zi_add hF.1 hF.2.1 dX4_isFed_28 ?_
      refine lv_istore_n (lv' := [(2, .int (iz ((stN τ mi i) + ((if τ 1 i ≤ mi then 1 else 0))))), (0, .ref (h (0))), (1, .int (iz (mi))), (3, .int (iz ((i : Int))))]) hF.1 hF.2.1 dX4_isFed_29 rfl hl (by decide) rfl (fun ls hl => ?_)
      refine lv_iinc (v := iz (((i + 1 : Nat) : Int))) (lv' := [(3, .int (iz (((i + 1 : Nat) : Int)))), (2, .int (iz ((stN τ mi i) + ((if τ 1 i ≤ mi then 1 else 0))))), (0, .ref (h (0))), (1, .int (iz (mi)))]) hF.1 hF.2.1 dX4_isFed_30 hl (k := 3) rfl ((iz_add _ _).trans (congrArg iz (by omega))) (by decide) rfl (fun ls hl => ?_)
      refine lv_goto (tgt := 4) hF.1 hF.2.1 dX4_isFed_33 (by decide) ?_
      have e_17 : (stN τ mi i) + ((if τ 1 i ≤ mi then 1 else 0)) = stN τ mi (i + 1) := by simp only [stN]
      have hl : lv_has ls 5 [(3, .int (iz (((i + 1 : Nat) : Int)))), (2, .int (iz (stN τ mi (i + 1)))), (0, .ref (h (0))), (1, .int (iz (mi)))] := by rw [← e_17]; exact hl
      have nv_18 : (((i + 1)) ≤ 6 ∧ (((i + 1)) : Int) ≤ τ 0 0) := (by omega)
      exact ih_4 (i + 1) nv_18 (by show 7 - ((i + 1)) < 7 - i; omega) _ _ _ hP hS (lv_sub hl [2, 3, 1, 0] rfl)
    · skip
      refine lv_aload_n hF.1 hF.2.1 dX4_isFed_13 rfl (lv_at hl 0 rfl) ?_
      refine z_get hF hK hP (k := 0) (C := RX4) (T := TX4) (N := 22) (by omega) (rfl) rfl uin_X4 1 (by decide) mw_424 (v := .ref (h (1))) rfl dX4_isFed_14 ?_
      refine lv_iload_n hF.1 hF.2.1 dX4_isFed_17 rfl (lv_at hl 3 rfl) ?_
      refine z_iald hF hK hP (k := 1) (by decide) rfl 0 rfl (i := (i : Int)) (i) (rfl) (by omega) (by decide) (x := iz (τ 1 i)) rfl dX4_isFed_18 ?_
      have q_19 := GI_1 hG (i)
      refine lv_iload_n hF.1 hF.2.1 dX4_isFed_19 rfl (lv_at hl 1 rfl) ?_
      refine zi_icmp_gt (tgt := 27) hF.1 hF.2.1 (a := τ 1 i) (b := mi) dX4_isFed_20 (by decide) (by omega) (by omega) (fun c_20 => ?_) (fun c_20 => ?_)
      · skip
        refine zi_const hF.1 hF.2.1 dX4_isFed_27 ?_
        have nv_20 : ((((0)) : Int) = (if τ 1 i ≤ mi then 1 else 0)) := (by split <;> omega)
        exact jn_28 (0) nv_20 _ _ _ hP hS (lv_sub hl [0, 1, 2, 3] rfl)
      · skip
        refine zi_const hF.1 hF.2.1 dX4_isFed_23 ?_
        refine lv_goto (tgt := 28) hF.1 hF.2.1 dX4_isFed_24 (by decide) ?_
        have nv_21 : ((((1)) : Int) = (if τ 1 i ≤ mi then 1 else 0)) := (by split <;> omega)
        exact jn_28 (1) nv_21 _ _ _ hP hS (lv_sub hl [0, 1, 2, 3] rfl)

set_option maxRecDepth 100000 in
set_option maxHeartbeats 4000000 in
theorem c_X4_speaks (l : Launch) (h : Nat → Nat) (D : va_G) (c : Nat → ClassId) (τ κ : Nat → Nat → Int) (hinj : ∀ i j, i < 17 → j < 17 → h i = h j → i = j) (hG : GI τ) (k : Nat) (hk : k < 17) (mi : Int) (hm : -100 ≤ mi ∧ mi ≤ 5000) :
    zMi (S := Unit) l yX4_speaks cX4_speaks 3 (some .boolean) 1 22 [.ref (h (0)), .int (iz ((k : Int))), .int (iz (mi))] 17 h D (gT c) (mC c h (τ) (κ)) (fun _ => mC c h τ κ) (fun z _ => z = b2i (spk τ mi k)) := by
  refine zM_of (by decide) (Nat.le_of_ble_eq_true rfl) ?_
  intro p e s m below meth cd ls ⟨hF, hr, hlocks, hK⟩ hP hl
  have hz : zD (zA 17 h s.heap.size) 17 h := zD.self hinj s.heap.size
  have hA : ∀ q, s.heap.size ≤ q → zA 17 h s.heap.size q := zA_new
  generalize zA 17 h s.heap.size = A at hz hA ⊢
  have hS : va_S A s.heap s.heap [] := va_S.rf
  have hl : lv_has ls 3 [(0, .ref (h (0))), (1, .int (iz ((k : Int)))), (2, .int (iz (mi)))] := hl
  refine lv_aload_n hF.1 hF.2.1 dX4_speaks_0 rfl (lv_at hl 0 rfl) ?_
  refine lv_iload_n hF.1 hF.2.1 dX4_speaks_1 rfl (lv_at hl 1 rfl) ?_
  refine lv_iload_n hF.1 hF.2.1 dX4_speaks_2 rfl (lv_at hl 2 rfl) ?_
  refine z_ci (S := Unit) (w := fun _ => mC c h τ κ) (P := fun z _ => z = b2i (pl τ k mi)) (z_runV (rm := { frames := 0, cells := 0, slots := 0, locals := 0 }) hF hK hP (c_X4_plays l h D c τ κ hinj hG k (by omega) mi (by omega) _) (gIn_V mw_451 mw_452 mw_453 mw_447 mw_449) rfl rfl ⟨rfl, by decide, by decide, rfl⟩ ⟨Nat.le_of_ble_eq_true rfl, Nat.le_of_ble_eq_true rfl⟩ (k := 0) (T := TX4) (N := 22) (by omega) rfl (rfl) rfl (As := [.int (iz ((k : Int))), .int (iz (mi))]) (rest := []) rfl hl.1 rfl (Nat.le_of_ble_eq_true rfl) dX4_speaks_3 ⟨Nat.le_refl _, Nat.le_refl _⟩) hz hA hS (fun z_1 u_2 H locs hp hP hS => ?_)
  obtain rfl : z_1 = b2i (pl τ k mi) := hp
  refine zi_ifb_eq (tgt := 22) hF.1 hF.2.1 (P := pl τ k mi) dX4_speaks_6 (by decide) (fun c_6 => ?_) (fun c_6 => ?_)
  · skip
    refine zi_const hF.1 hF.2.1 dX4_speaks_22 ?_
    exact z_reti (P := fun z _ => z = b2i (spk τ mi k)) (z := 0) (u := ()) (w := fun _ => mC c h τ κ) hF hr hlocks hP hS ((iz_nar_z (by first | omega | exact b2i_rg)).1) (by first | exact (b2i_t ⟨c_6, by omega⟩).symm | exact (b2i_f (fun q => c_6 q.1)).symm | exact (b2i_f (fun q => by have := q.2; omega)).symm) dX4_speaks_23
  · skip
    refine lv_aload_n hF.1 hF.2.1 dX4_speaks_9 rfl (lv_at hl 0 rfl) ?_
    refine z_get hF hK hP (k := 0) (C := RX4) (T := TX4) (N := 22) (by omega) (rfl) rfl uin_X4 12 (by decide) mw_434 (v := .ref (h (11))) rfl dX4_speaks_10 ?_
    refine lv_iload_n hF.1 hF.2.1 dX4_speaks_13 rfl (lv_at hl 1 rfl) ?_
    refine z_iald hF hK hP (k := 11) (by decide) rfl 0 rfl (i := (k : Int)) (k) (rfl) (by omega) (by decide) (x := iz (τ 13 k)) rfl dX4_speaks_14 ?_
    have q_3 := GI_13 hG (k)
    refine zi_if_lt (tgt := 22) hF.1 hF.2.1 (a := τ 13 k) dX4_speaks_15 (by decide) (by omega) (fun c_15 => ?_) (fun c_15 => ?_)
    · skip
      refine zi_const hF.1 hF.2.1 dX4_speaks_22 ?_
      exact z_reti (P := fun z _ => z = b2i (spk τ mi k)) (z := 0) (u := ()) (w := fun _ => mC c h τ κ) hF hr hlocks hP hS ((iz_nar_z (by first | omega | exact b2i_rg)).1) (by first | exact (b2i_t ⟨c_6, by omega⟩).symm | exact (b2i_f (fun q => c_6 q.1)).symm | exact (b2i_f (fun q => by have := q.2; omega)).symm) dX4_speaks_23
    · skip
      refine zi_const hF.1 hF.2.1 dX4_speaks_18 ?_
      refine lv_goto (tgt := 23) hF.1 hF.2.1 dX4_speaks_19 (by decide) ?_
      exact z_reti (P := fun z _ => z = b2i (spk τ mi k)) (z := 1) (u := ()) (w := fun _ => mC c h τ κ) hF hr hlocks hP hS ((iz_nar_z (by first | omega | exact b2i_rg)).1) (by first | exact (b2i_t ⟨c_6, by omega⟩).symm | exact (b2i_f (fun q => c_6 q.1)).symm | exact (b2i_f (fun q => by have := q.2; omega)).symm) dX4_speaks_23

set_option maxRecDepth 100000 in
set_option maxHeartbeats 4000000 in
theorem c_X4_isQuiet (l : Launch) (h : Nat → Nat) (D : va_G) (c : Nat → ClassId) (τ κ : Nat → Nat → Int) (hinj : ∀ i j, i < 17 → j < 17 → h i = h j → i = j) (hG : GI τ) (mi : Int) (hm : 0 ≤ mi ∧ mi ≤ 999) :
    zMi (S := Unit) l yX4_isQuiet cX4_isQuiet 4 (some .boolean) 2 48 [.ref (h (0)), .int (iz (mi))] 17 h D (gT c) (mC c h (τ) (κ)) (fun _ => mC c h τ κ) (fun z _ => z = b2i (quiet τ mi)) := by
  refine zM_of (by decide) (Nat.le_of_ble_eq_true rfl) ?_
  intro p e s m below meth cd ls ⟨hF, hr, hlocks, hK⟩ hP hl
  have hz : zD (zA 17 h s.heap.size) 17 h := zD.self hinj s.heap.size
  have hA : ∀ q, s.heap.size ≤ q → zA 17 h s.heap.size q := zA_new
  generalize zA 17 h s.heap.size = A at hz hA ⊢
  have hS : va_S A s.heap s.heap [] := va_S.rf
  have hl : lv_has ls 4 [(0, .ref (h (0))), (1, .int (iz (mi)))] := hl
  refine zi_const hF.1 hF.2.1 dX4_isQuiet_0 ?_
  refine lv_istore_n (lv' := [(2, .int (iz (1))), (0, .ref (h (0))), (1, .int (iz (mi)))]) hF.1 hF.2.1 dX4_isQuiet_1 rfl hl (by decide) rfl (fun ls hl => ?_)
  refine zi_const hF.1 hF.2.1 dX4_isQuiet_2 ?_
  refine lv_istore_n (lv' := [(3, .int (iz (0))), (2, .int (iz (1))), (0, .ref (h (0))), (1, .int (iz (mi)))]) hF.1 hF.2.1 dX4_isQuiet_3 rfl hl (by decide) rfl (fun ls hl => ?_)
  have e_1 : (1 : Int) = b2i (∀ q, q < 0 → nsS τ mi (wd τ mi) q 17 ≤ τ 3 q - ev mi) := (b2i_t lt_0).symm
  have hl : lv_has ls 4 [(3, .int (iz (0))), (2, .int (iz (b2i (∀ q, q < 0 → nsS τ mi (wd τ mi) q 17 ≤ τ 3 q - ev mi)))), (0, .ref (h (0))), (1, .int (iz (mi)))] := by rw [← e_1]; exact hl
  have nv_3 : ((0) ≤ 3) := (by omega)
  refine z_loop (V := Nat) (nL := 4) (wd := fun v_2 => mC c h (τ) (κ)) (lv := fun v_2 => [(0, .ref (h (0))), (1, .int (iz (mi))), (2, .int (iz (b2i (∀ q, q < v_2 → nsS τ mi (wd τ mi) q 17 ≤ τ 3 q - ev mi)))), (3, .int (iz ((v_2 : Int))))]) (stk := fun v_2 => []) (mu := fun v_2 => 4 - v_2) (inv := fun v_2 => (v_2 ≤ 3)) ?_ 0 nv_3 hP hS (lv_sub hl [2, 3, 1, 0] rfl)
  intro i hv ih_4 H locs ls hP hS hl
  have hP : zB 17 h D (mC c h (τ) (κ)) H := hP
  have hl : lv_has ls 4 [(0, .ref (h (0))), (1, .int (iz (mi))), (2, .int (iz (b2i (∀ q, q < i → nsS τ mi (wd τ mi) q 17 ≤ τ 3 q - ev mi)))), (3, .int (iz ((i : Int))))] := hl
  have hi_i : i ≤ 3 := hv
  refine lv_iload_n hF.1 hF.2.1 dX4_isQuiet_4 rfl (lv_at hl 3 rfl) ?_
  refine zi_const hF.1 hF.2.1 dX4_isQuiet_5 ?_
  refine zi_icmp_ge (tgt := 52) hF.1 hF.2.1 (a := (i : Int)) (b := 3) dX4_isQuiet_6 (by decide) (by omega) (by omega) (fun c_6 => ?_) (fun c_6 => ?_)
  · skip
    refine lv_iload_n hF.1 hF.2.1 dX4_isQuiet_52 rfl (lv_at hl 2 rfl) ?_
    exact z_reti (P := fun z _ => z = b2i (quiet τ mi)) (z := b2i (∀ q, q < i → nsS τ mi (wd τ mi) q 17 ≤ τ 3 q - ev mi)) (u := ()) (w := fun _ => mC c h τ κ) hF hr hlocks hP hS ((iz_nar_z (by first | omega | exact b2i_rg)).1) (by rw [show i = 3 by omega]; rfl) dX4_isQuiet_53
  · skip
    refine lv_iload_n hF.1 hF.2.1 dX4_isQuiet_9 rfl (lv_at hl 2 rfl) ?_
    refine z_join (n := 17) (h := h) (D := D) (A := A) (V := Int) (tgt := 44) (nL := 4) (wd := fun v_4 => mC c h (τ) (κ)) (lv := fun v_4 => [(0, .ref (h (0))), (1, .int (iz (mi))), (2, .int (iz (b2i (∀ q, q < i → nsS τ mi (wd τ mi) q 17 ≤ τ 3 q - ev mi)))), (3, .int (iz ((i : Int))))]) (stk := fun v_4 => [.int (iz (v_4)), .int (iz (b2i (∀ q, q < i → nsS τ mi (wd τ mi) q 17 ≤ τ 3 q - ev mi)))]) (inv := fun v_4 => (v_4 = b2i (nsS τ mi (wd τ mi) i 17 ≤ τ 3 i - ev mi))) ?_ (fun jn_44 => ?_)
    · skip
      intro v hv H locs ls hP hS hl
      have hP : zB 17 h D (mC c h (τ) (κ)) H := hP
      have hl : lv_has ls 4 [(0, .ref (h (0))), (1, .int (iz (mi))), (2, .int (iz (b2i (∀ q, q < i → nsS τ mi (wd τ mi) q 17 ≤ τ 3 q - ev mi)))), (3, .int (iz ((i : Int))))] := hl
      have hvq : v = b2i (nsS τ mi (wd τ mi) i 17 ≤ τ 3 i - ev mi) := hv
      obtain rfl : v = b2i (nsS τ mi (wd τ mi) i 17 ≤ τ 3 i - ev mi) := hvq
      refine zi_andb hF.1 hF.2.1 (P := ∀ q, q < i → nsS τ mi (wd τ mi) q 17 ≤ τ 3 q - ev mi) (P' := nsS τ mi (wd τ mi) i 17 ≤ τ 3 i - ev mi) dX4_isQuiet_44 ?_
      refine lv_istore_n (lv' := [(2, .int (iz (b2i ((∀ q, q < i → nsS τ mi (wd τ mi) q 17 ≤ τ 3 q - ev mi) ∧ (nsS τ mi (wd τ mi) i 17 ≤ τ 3 i - ev mi))))), (0, .ref (h (0))), (1, .int (iz (mi))), (3, .int (iz ((i : Int))))]) hF.1 hF.2.1 dX4_isQuiet_45 rfl hl (by decide) rfl (fun ls hl => ?_)
      refine lv_iinc (v := iz (((i + 1 : Nat) : Int))) (lv' := [(3, .int (iz (((i + 1 : Nat) : Int)))), (2, .int (iz (b2i ((∀ q, q < i → nsS τ mi (wd τ mi) q 17 ≤ τ 3 q - ev mi) ∧ (nsS τ mi (wd τ mi) i 17 ≤ τ 3 i - ev mi))))), (0, .ref (h (0))), (1, .int (iz (mi)))]) hF.1 hF.2.1 dX4_isQuiet_46 hl (k := 3) rfl ((iz_add _ _).trans (congrArg iz (by omega))) (by decide) rfl (fun ls hl => ?_)
      refine lv_goto (tgt := 4) hF.1 hF.2.1 dX4_isQuiet_49 (by decide) ?_
      have e_5 : b2i ((∀ q, q < i → nsS τ mi (wd τ mi) q 17 ≤ τ 3 q - ev mi) ∧ (nsS τ mi (wd τ mi) i 17 ≤ τ 3 i - ev mi)) = b2i (∀ q, q < (i + 1) → nsS τ mi (wd τ mi) q 17 ≤ τ 3 q - ev mi) := b2i_iff (all_s)
      have hl : lv_has ls 4 [(3, .int (iz (((i + 1 : Nat) : Int)))), (2, .int (iz (b2i (∀ q, q < (i + 1) → nsS τ mi (wd τ mi) q 17 ≤ τ 3 q - ev mi)))), (0, .ref (h (0))), (1, .int (iz (mi)))] := by rw [← e_5]; exact hl
      have nv_6 : (((i + 1)) ≤ 3) := (by omega)
      exact ih_4 (i + 1) nv_6 (by show 4 - ((i + 1)) < 4 - i; omega) _ _ _ hP hS (lv_sub hl [2, 3, 1, 0] rfl)
    · skip
      refine lv_aload_n hF.1 hF.2.1 dX4_isQuiet_10 rfl (lv_at hl 0 rfl) ?_
      refine lv_iload_n hF.1 hF.2.1 dX4_isQuiet_11 rfl (lv_at hl 1 rfl) ?_
      refine lv_iload_n hF.1 hF.2.1 dX4_isQuiet_12 rfl (lv_at hl 3 rfl) ?_
      refine z_ci (S := Unit) (w := fun _ => mC c h τ κ) (P := fun z _ => z = nsS τ mi (wd τ mi) i 17) (z_runV (rm := { frames := 1, cells := 0, slots := 0, locals := 22 }) hF hK hP (c_X4_noisy l h D c τ κ hinj hG mi (by omega) i (by omega) _) (gIn_V mw_468 mw_469 mw_470 mw_447 mw_454) rfl rfl ⟨rfl, by decide, by decide, rfl⟩ ⟨Nat.le_of_ble_eq_true rfl, Nat.le_of_ble_eq_true rfl⟩ (k := 0) (T := TX4) (N := 22) (by omega) rfl (rfl) rfl (As := [.int (iz (mi)), .int (iz ((i : Int)))]) (rest := [.int (iz (b2i (∀ q, q < i → nsS τ mi (wd τ mi) q 17 ≤ τ 3 q - ev mi)))]) rfl hl.1 rfl (Nat.le_of_ble_eq_true rfl) dX4_isQuiet_13 ⟨Nat.le_refl _, Nat.le_refl _⟩) hz hA hS (fun z_7 u_8 H locs hp hP hS => ?_)
      obtain rfl : z_7 = nsS τ mi (wd τ mi) i 17 := hp
      have q_9 := @nsS_rg τ hG mi (wd τ mi) (GI_4 hG (mi / 60).toNat) i 17
      refine lv_aload_n hF.1 hF.2.1 dX4_isQuiet_16 rfl (lv_at hl 0 rfl) ?_
      refine z_get hF hK hP (k := 0) (C := RX4) (T := TX4) (N := 22) (by omega) (rfl) rfl uin_X4 3 (by decide) mw_426 (v := .ref (h (3))) rfl dX4_isQuiet_17 ?_
      refine lv_iload_n hF.1 hF.2.1 dX4_isQuiet_20 rfl (lv_at hl 3 rfl) ?_
      refine z_iald hF hK hP (k := 3) (by decide) rfl 0 rfl (i := (i : Int)) (i) (rfl) (by omega) (by decide) (x := iz (τ 3 i)) rfl dX4_isQuiet_21 ?_
      have q_10 := GI_3 hG (i)
      refine z_join (n := 17) (h := h) (D := D) (A := A) (V := Int) (tgt := 35) (nL := 4) (wd := fun v_11 => mC c h (τ) (κ)) (lv := fun v_11 => [(0, .ref (h (0))), (1, .int (iz (mi))), (2, .int (iz (b2i (∀ q, q < i → nsS τ mi (wd τ mi) q 17 ≤ τ 3 q - ev mi)))), (3, .int (iz ((i : Int))))]) (stk := fun v_11 => [.int (iz (v_11)), .int (iz (τ 3 i)), .int (iz (nsS τ mi (wd τ mi) i 17)), .int (iz (b2i (∀ q, q < i → nsS τ mi (wd τ mi) q 17 ≤ τ 3 q - ev mi)))]) (inv := fun v_11 => ((v_11 : Int) = ev mi)) ?_ (fun jn_35 => ?_)
      · skip
        intro v hv H locs ls hP hS hl
        have hP : zB 17 h D (mC c h (τ) (κ)) H := hP
        have hl : lv_has ls 4 [(0, .ref (h (0))), (1, .int (iz (mi))), (2, .int (iz (b2i (∀ q, q < i → nsS τ mi (wd τ mi) q 17 ≤ τ 3 q - ev mi)))), (3, .int (iz ((i : Int))))] := hl
        have hvq : (v : Int) = ev mi := hv
        obtain rfl : v = ev mi := hvq
        have qev : 0 ≤ ev mi ∧ ev mi ≤ 10 := by unfold ev; split <;> omega
        have q33 := GI_3 hG i
        have q34 := nsS_rg hG (mi := mi) (w := wd τ mi) (GI_4 hG (mi / 60).toNat) (hs := i) 17
        refine zi_sub hF.1 hF.2.1 dX4_isQuiet_35 ?_
        refine zi_icmp_gt (tgt := 43) hF.1 hF.2.1 (a := nsS τ mi (wd τ mi) i 17) (b := (τ 3 i) - (ev mi)) dX4_isQuiet_36 (by decide) (by omega) (by omega) (fun c_36 => ?_) (fun c_36 => ?_)
        · skip
          refine zi_const hF.1 hF.2.1 dX4_isQuiet_43 ?_
          have nv_12 : (((0)) = b2i (nsS τ mi (wd τ mi) i 17 ≤ τ 3 i - ev mi)) := (by first | exact (b2i_t (by omega)).symm | exact (b2i_f (by omega)).symm)
          exact jn_44 (0) nv_12 _ _ _ hP hS (lv_sub hl [0, 1, 2, 3] rfl)
        · skip
          refine zi_const hF.1 hF.2.1 dX4_isQuiet_39 ?_
          refine lv_goto (tgt := 44) hF.1 hF.2.1 dX4_isQuiet_40 (by decide) ?_
          have nv_13 : (((1)) = b2i (nsS τ mi (wd τ mi) i 17 ≤ τ 3 i - ev mi)) := (by first | exact (b2i_t (by omega)).symm | exact (b2i_f (by omega)).symm)
          exact jn_44 (1) nv_13 _ _ _ hP hS (lv_sub hl [0, 1, 2, 3] rfl)
      · skip
        refine lv_iload_n hF.1 hF.2.1 dX4_isQuiet_22 rfl (lv_at hl 1 rfl) ?_
        refine zi_sipush hF.1 hF.2.1 dX4_isQuiet_23 (by decide) ?_
        refine zi_icmp_lt (tgt := 34) hF.1 hF.2.1 (a := mi) (b := 600) dX4_isQuiet_26 (by decide) (by omega) (by omega) (fun c_26 => ?_) (fun c_26 => ?_)
        · skip
          refine zi_const hF.1 hF.2.1 dX4_isQuiet_34 ?_
          have nv_14 : ((((0)) : Int) = ev mi) := (by unfold ev; split <;> omega)
          exact jn_35 (0) nv_14 _ _ _ hP hS (lv_sub hl [0, 1, 2, 3] rfl)
        · skip
          refine zi_bipush hF.1 hF.2.1 dX4_isQuiet_29 (by decide) ?_
          refine lv_goto (tgt := 35) hF.1 hF.2.1 dX4_isQuiet_31 (by decide) ?_
          have nv_15 : ((((10)) : Int) = ev mi) := (by unfold ev; split <;> omega)
          exact jn_35 (10) nv_15 _ _ _ hP hS (lv_sub hl [0, 1, 2, 3] rfl)
