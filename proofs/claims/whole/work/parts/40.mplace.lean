theorem ian_b {P P' : Prop} : ian (b2i P) (b2i P') = b2i (P ∧ P') := by
  rcases Classical.em P with h | h <;> rcases Classical.em P' with h2 | h2
  · rw [b2i_t h, b2i_t h2, b2i_t ⟨h, h2⟩]; decide
  · rw [b2i_t h, b2i_f h2, b2i_f (fun q => h2 q.2)]; decide
  · rw [b2i_f h, b2i_t h2, b2i_f (fun q => h q.1)]; decide
  · rw [b2i_f h, b2i_f h2, b2i_f (fun q => h q.1)]; decide
theorem zi_andb {p : Program} {l : Launch} {e : Env} {R : Room} {s : State} {m : MethodId} {args : Array Value} {below : List Frame} {meth : Method} {c : Code} {H : Heap} {locs : List Loc} {cells slots : Nat} {Q : State → Prop} {cc : ByteArray} {pc : Nat} {ls : Array Slot} {rest : List Value} (hx : p.tables.exec = Jvm.exec) (hb : c.code = cc) {P P' : Prop} (hd : decode cc pc = .ok (.iand, 1))
    (k : W p l e R s m args below meth c H locs cells slots Q (F0 m (pc + 1) ls (.int (iz (b2i (P ∧ P'))) :: rest))) : W p l e R s m args below meth c H locs cells slots Q (F0 m pc ls (.int (iz (b2i P')) :: .int (iz (b2i P)) :: rest)) := zi_iand hx hb hd (by rw [ian_b]; exact k)
theorem all_s {i : Nat} {p : Nat → Prop} : ((∀ a, a < i → p a) ∧ p i) ↔ ∀ a, a < i + 1 → p a := ⟨fun h => lt_s h.1 h.2, fun h => ⟨fun a q => h a (by omega), h i (by omega)⟩⟩
theorem and_all_s {X : Prop} {i : Nat} {p : Nat → Prop} : ((X ∧ ∀ a, a < i → p a) ∧ p i) ↔ (X ∧ ∀ a, a < i + 1 → p a) := ⟨fun h => ⟨h.1.1, lt_s h.1.2 h.2⟩, fun h => ⟨⟨h.1, fun a q => h.2 a (by omega)⟩, h.2 i (by omega)⟩⟩
theorem all_0 {p : Nat → Prop} : True ↔ ∀ a, a < 0 → p a := ⟨fun _ => lt_0, fun _ => trivial⟩
def mA (τ : Nat → Nat → Int) (k : Nat) : Prop := τ 14 k = 0 ∨ τ 8 k + τ 9 k ≤ 1000
def mN (τ : Nat → Nat → Int) (k m : Nat) : Prop := m ≠ k ∧ τ 14 k ≠ 0 ∧ τ 14 m ≠ 0 ∧ τ 7 m = τ 7 k ∧ τ 8 k ≤ τ 8 m
def mB (τ : Nat → Nat → Int) (k m : Nat) : Prop := ¬ mN τ k m ∨ τ 8 k + τ 9 k + τ 2 (τ 7 k).toNat ≤ τ 8 m
def mCs (τ : Nat → Nat → Int) (k w : Nat) : Prop := τ 14 k = 0 ∨ τ 16 w ≠ τ 7 k ∨ τ 18 w ≤ τ 8 k ∨ τ 8 k + τ 9 k ≤ τ 17 w
def mP (τ : Nat → Nat → Int) (k : Nat) : Prop := (mA τ k ∧ ∀ m, m < 17 → mB τ k m) ∧ ∀ w, w < (τ 0 2).toNat → mCs τ k w
def placed (τ : Nat → Nat → Int) : Prop := ∀ k, k < 17 → mP τ k
def fed (τ : Nat → Nat → Int) (mi : Int) : Prop := ∀ p, p < 3 → ldS τ mi p 17 ≤ 100 * stN τ mi (τ 0 0).toNat
def quiet (τ : Nat → Nat → Int) (mi : Int) : Prop := ∀ hs, hs < 3 → nsS τ mi (wd τ mi) hs 17 ≤ τ 3 hs - ev mi

set_option maxRecDepth 100000 in
set_option maxHeartbeats 4000000 in
theorem c_X4_isIn (l : Launch) (h : Nat → Nat) (D : va_G) (c : Nat → ClassId) (τ κ : Nat → Nat → Int) (hinj : ∀ i j, i < 17 → j < 17 → h i = h j → i = j) (hG : GI τ) (x : Int) (hx : -2147483648 ≤ x ∧ x ≤ 2147483647) (lo : Int) (hlo : -2147483648 ≤ lo ∧ lo ≤ 2147483647) (hi : Int) (hhi : -2147483648 ≤ hi ∧ hi ≤ 2147483647) :
    zMi (S := Unit) l yX4_isIn cX4_isIn 3 (some .boolean) 0 0 [.int (iz (x)), .int (iz (lo)), .int (iz (hi))] 17 h D (gT c) (mC c h (τ) (κ)) (fun _ => mC c h τ κ) (fun z _ => z = b2i (lo ≤ x ∧ x ≤ hi)) := by
  refine zM_of (by decide) (Nat.le_of_ble_eq_true rfl) ?_
  intro p e s m below meth cd ls ⟨hF, hr, hlocks, hK⟩ hP hl
  have hz : zD (zA 17 h s.heap.size) 17 h := zD.self hinj s.heap.size
  have hA : ∀ q, s.heap.size ≤ q → zA 17 h s.heap.size q := zA_new
  generalize zA 17 h s.heap.size = A at hz hA ⊢
  have hS : va_S A s.heap s.heap [] := va_S.rf
  have hl : lv_has ls 3 [(0, .int (iz (x))), (1, .int (iz (lo))), (2, .int (iz (hi)))] := hl
  refine lv_iload_n hF.1 hF.2.1 dX4_isIn_0 rfl (lv_at hl 0 rfl) ?_
  refine lv_iload_n hF.1 hF.2.1 dX4_isIn_1 rfl (lv_at hl 1 rfl) ?_
  refine zi_icmp_lt (tgt := 14) hF.1 hF.2.1 (a := x) (b := lo) dX4_isIn_2 (by decide) (by omega) (by omega) (fun c_2 => ?_) (fun c_2 => ?_)
  · skip
    refine zi_const hF.1 hF.2.1 dX4_isIn_14 ?_
    exact z_reti (P := fun z _ => z = b2i (lo ≤ x ∧ x ≤ hi)) (z := 0) (u := ()) (w := fun _ => mC c h τ κ) hF hr hlocks hP hS ((iz_nar_z (by first | omega | exact b2i_rg)).1) (by first | exact (b2i_t (by omega)).symm | exact (b2i_f (by omega)).symm) dX4_isIn_15
  · skip
    refine lv_iload_n hF.1 hF.2.1 dX4_isIn_5 rfl (lv_at hl 0 rfl) ?_
    refine lv_iload_n hF.1 hF.2.1 dX4_isIn_6 rfl (lv_at hl 2 rfl) ?_
    refine zi_icmp_gt (tgt := 14) hF.1 hF.2.1 (a := x) (b := hi) dX4_isIn_7 (by decide) (by omega) (by omega) (fun c_7 => ?_) (fun c_7 => ?_)
    · skip
      refine zi_const hF.1 hF.2.1 dX4_isIn_14 ?_
      exact z_reti (P := fun z _ => z = b2i (lo ≤ x ∧ x ≤ hi)) (z := 0) (u := ()) (w := fun _ => mC c h τ κ) hF hr hlocks hP hS ((iz_nar_z (by first | omega | exact b2i_rg)).1) (by first | exact (b2i_t (by omega)).symm | exact (b2i_f (by omega)).symm) dX4_isIn_15
    · skip
      refine zi_const hF.1 hF.2.1 dX4_isIn_10 ?_
      refine lv_goto (tgt := 15) hF.1 hF.2.1 dX4_isIn_11 (by decide) ?_
      exact z_reti (P := fun z _ => z = b2i (lo ≤ x ∧ x ≤ hi)) (z := 1) (u := ()) (w := fun _ => mC c h τ κ) hF hr hlocks hP hS ((iz_nar_z (by first | omega | exact b2i_rg)).1) (by first | exact (b2i_t (by omega)).symm | exact (b2i_f (by omega)).symm) dX4_isIn_15

set_option maxRecDepth 100000 in
set_option maxHeartbeats 4000000 in
theorem c_X4_isMinute (l : Launch) (h : Nat → Nat) (D : va_G) (c : Nat → ClassId) (τ κ : Nat → Nat → Int) (hinj : ∀ i j, i < 17 → j < 17 → h i = h j → i = j) (hG : GI τ) (x : Int) (hx : -2147483648 ≤ x ∧ x ≤ 2147483647) :
    zMi (S := Unit) l yX4_isMinute cX4_isMinute 1 (some .boolean) 1 22 [.int (iz (x))] 17 h D (gT c) (mC c h (τ) (κ)) (fun _ => mC c h τ κ) (fun z _ => z = b2i (0 ≤ x ∧ x ≤ 999)) := by
  refine zM_of (by decide) (Nat.le_of_ble_eq_true rfl) ?_
  intro p e s m below meth cd ls ⟨hF, hr, hlocks, hK⟩ hP hl
  have hz : zD (zA 17 h s.heap.size) 17 h := zD.self hinj s.heap.size
  have hA : ∀ q, s.heap.size ≤ q → zA 17 h s.heap.size q := zA_new
  generalize zA 17 h s.heap.size = A at hz hA ⊢
  have hS : va_S A s.heap s.heap [] := va_S.rf
  have hl : lv_has ls 1 [(0, .int (iz (x)))] := hl
  refine lv_iload_n hF.1 hF.2.1 dX4_isMinute_0 rfl (lv_at hl 0 rfl) ?_
  refine zi_const hF.1 hF.2.1 dX4_isMinute_1 ?_
  refine zi_sipush hF.1 hF.2.1 dX4_isMinute_2 (by decide) ?_
  refine z_ci (S := Unit) (w := fun _ => mC c h τ κ) (P := fun z _ => z = b2i (0 ≤ x ∧ x ≤ 999)) (z_runS (rm := { frames := 0, cells := 0, slots := 0, locals := 0 }) hF hK hP (c_X4_isIn l h D c τ κ hinj hG x (by omega) 0 (by omega) 999 (by omega) _) (gIn_S mw_445 mw_446 mw_447 mw_443) rfl rfl ⟨rfl, by decide, by decide, rfl⟩ ⟨Nat.le_of_ble_eq_true rfl, Nat.le_of_ble_eq_true rfl⟩ (As := [.int (iz (x)), .int (iz (0)), .int (iz (999))]) (rest := []) rfl hl.1 rfl (Nat.le_of_ble_eq_true rfl) dX4_isMinute_5 ⟨Nat.le_refl _, Nat.le_refl _⟩) hz hA hS (fun z_1 u_2 H locs hp hP hS => ?_)
  obtain rfl : z_1 = b2i (0 ≤ x ∧ x ≤ 999) := hp
  exact z_reti (P := fun z _ => z = b2i (0 ≤ x ∧ x ≤ 999)) (z := b2i (0 ≤ x ∧ x ≤ 999)) (u := ()) (w := fun _ => mC c h τ κ) hF hr hlocks hP hS ((iz_nar_z (by first | omega | exact b2i_rg)).1) (rfl) dX4_isMinute_8

set_option maxRecDepth 100000 in
set_option maxHeartbeats 4000000 in
theorem c_X4_isThree (l : Launch) (h : Nat → Nat) (D : va_G) (c : Nat → ClassId) (τ κ : Nat → Nat → Int) (hinj : ∀ i j, i < 17 → j < 17 → h i = h j → i = j) (hG : GI τ) (x : Int) (hx : -2147483648 ≤ x ∧ x ≤ 2147483647) :
    zMi (S := Unit) l yX4_isThree cX4_isThree 1 (some .boolean) 1 22 [.int (iz (x))] 17 h D (gT c) (mC c h (τ) (κ)) (fun _ => mC c h τ κ) (fun z _ => z = b2i (0 ≤ x ∧ x ≤ 2)) := by
  refine zM_of (by decide) (Nat.le_of_ble_eq_true rfl) ?_
  intro p e s m below meth cd ls ⟨hF, hr, hlocks, hK⟩ hP hl
  have hz : zD (zA 17 h s.heap.size) 17 h := zD.self hinj s.heap.size
  have hA : ∀ q, s.heap.size ≤ q → zA 17 h s.heap.size q := zA_new
  generalize zA 17 h s.heap.size = A at hz hA ⊢
  have hS : va_S A s.heap s.heap [] := va_S.rf
  have hl : lv_has ls 1 [(0, .int (iz (x)))] := hl
  refine lv_iload_n hF.1 hF.2.1 dX4_isThree_0 rfl (lv_at hl 0 rfl) ?_
  refine zi_const hF.1 hF.2.1 dX4_isThree_1 ?_
  refine zi_const hF.1 hF.2.1 dX4_isThree_2 ?_
  refine z_ci (S := Unit) (w := fun _ => mC c h τ κ) (P := fun z _ => z = b2i (0 ≤ x ∧ x ≤ 2)) (z_runS (rm := { frames := 0, cells := 0, slots := 0, locals := 0 }) hF hK hP (c_X4_isIn l h D c τ κ hinj hG x (by omega) 0 (by omega) 2 (by omega) _) (gIn_S mw_445 mw_446 mw_447 mw_443) rfl rfl ⟨rfl, by decide, by decide, rfl⟩ ⟨Nat.le_of_ble_eq_true rfl, Nat.le_of_ble_eq_true rfl⟩ (As := [.int (iz (x)), .int (iz (0)), .int (iz (2))]) (rest := []) rfl hl.1 rfl (Nat.le_of_ble_eq_true rfl) dX4_isThree_3 ⟨Nat.le_refl _, Nat.le_refl _⟩) hz hA hS (fun z_1 u_2 H locs hp hP hS => ?_)
  obtain rfl : z_1 = b2i (0 ≤ x ∧ x ≤ 2) := hp
  exact z_reti (P := fun z _ => z = b2i (0 ≤ x ∧ x ≤ 2)) (z := b2i (0 ≤ x ∧ x ≤ 2)) (u := ()) (w := fun _ => mC c h τ κ) hF hr hlocks hP hS ((iz_nar_z (by first | omega | exact b2i_rg)).1) (rfl) dX4_isThree_6

set_option maxRecDepth 100000 in
set_option maxHeartbeats 4000000 in
theorem c_X4_plays (l : Launch) (h : Nat → Nat) (D : va_G) (c : Nat → ClassId) (τ κ : Nat → Nat → Int) (hinj : ∀ i j, i < 17 → j < 17 → h i = h j → i = j) (hG : GI τ) (k : Nat) (hk : k < 17) (mi : Int) (hm : -100 ≤ mi ∧ mi ≤ 5000) :
    zMi (S := Unit) l yX4_plays cX4_plays 3 (some .boolean) 0 0 [.ref (h (0)), .int (iz ((k : Int))), .int (iz (mi))] 17 h D (gT c) (mC c h (τ) (κ)) (fun _ => mC c h τ κ) (fun z _ => z = b2i (pl τ k mi)) := by
  refine zM_of (by decide) (Nat.le_of_ble_eq_true rfl) ?_
  intro p e s m below meth cd ls ⟨hF, hr, hlocks, hK⟩ hP hl
  have hz : zD (zA 17 h s.heap.size) 17 h := zD.self hinj s.heap.size
  have hA : ∀ q, s.heap.size ≤ q → zA 17 h s.heap.size q := zA_new
  generalize zA 17 h s.heap.size = A at hz hA ⊢
  have hS : va_S A s.heap s.heap [] := va_S.rf
  have hl : lv_has ls 3 [(0, .ref (h (0))), (1, .int (iz ((k : Int)))), (2, .int (iz (mi)))] := hl
  refine lv_aload_n hF.1 hF.2.1 dX4_plays_0 rfl (lv_at hl 0 rfl) ?_
  refine z_get hF hK hP (k := 0) (C := RX4) (T := TX4) (N := 22) (by omega) (rfl) rfl uin_X4 13 (by decide) mw_436 (v := .ref (h (12))) rfl dX4_plays_1 ?_
  refine lv_iload_n hF.1 hF.2.1 dX4_plays_4 rfl (lv_at hl 1 rfl) ?_
  refine z_zald hF hK hP (k := 12) (by decide) rfl 4 rfl (i := (k : Int)) (k) (rfl) (by omega) (by decide) (x := iz (τ 14 k)) rfl dX4_plays_5 ?_
  have q_1 := GI_14 hG (k)
  refine zi_if_eq (tgt := 40) hF.1 hF.2.1 (a := τ 14 k) dX4_plays_6 (by decide) (by omega) (fun c_6 => ?_) (fun c_6 => ?_)
  · skip
    refine zi_const hF.1 hF.2.1 dX4_plays_40 ?_
    exact z_reti (P := fun z _ => z = b2i (pl τ k mi)) (z := 0) (u := ()) (w := fun _ => mC c h τ κ) hF hr hlocks hP hS ((iz_nar_z (by first | omega | exact b2i_rg)).1) (by first | exact (b2i_t (by unfold pl; omega)).symm | exact (b2i_f (by unfold pl; omega)).symm) dX4_plays_41
  · skip
    refine lv_iload_n hF.1 hF.2.1 dX4_plays_9 rfl (lv_at hl 2 rfl) ?_
    refine lv_aload_n hF.1 hF.2.1 dX4_plays_10 rfl (lv_at hl 0 rfl) ?_
    refine z_get hF hK hP (k := 0) (C := RX4) (T := TX4) (N := 22) (by omega) (rfl) rfl uin_X4 7 (by decide) mw_429 (v := .ref (h (6))) rfl dX4_plays_11 ?_
    refine lv_iload_n hF.1 hF.2.1 dX4_plays_14 rfl (lv_at hl 1 rfl) ?_
    refine z_iald hF hK hP (k := 6) (by decide) rfl 0 rfl (i := (k : Int)) (k) (rfl) (by omega) (by decide) (x := iz (τ 8 k)) rfl dX4_plays_15 ?_
    have q_2 := GI_8 hG (k)
    refine zi_icmp_lt (tgt := 40) hF.1 hF.2.1 (a := mi) (b := τ 8 k) dX4_plays_16 (by decide) (by omega) (by omega) (fun c_16 => ?_) (fun c_16 => ?_)
    · skip
      refine zi_const hF.1 hF.2.1 dX4_plays_40 ?_
      exact z_reti (P := fun z _ => z = b2i (pl τ k mi)) (z := 0) (u := ()) (w := fun _ => mC c h τ κ) hF hr hlocks hP hS ((iz_nar_z (by first | omega | exact b2i_rg)).1) (by first | exact (b2i_t (by unfold pl; omega)).symm | exact (b2i_f (by unfold pl; omega)).symm) dX4_plays_41
    · skip
      refine lv_iload_n hF.1 hF.2.1 dX4_plays_19 rfl (lv_at hl 2 rfl) ?_
      refine lv_aload_n hF.1 hF.2.1 dX4_plays_20 rfl (lv_at hl 0 rfl) ?_
      refine z_get hF hK hP (k := 0) (C := RX4) (T := TX4) (N := 22) (by omega) (rfl) rfl uin_X4 7 (by decide) mw_429 (v := .ref (h (6))) rfl dX4_plays_21 ?_
      refine lv_iload_n hF.1 hF.2.1 dX4_plays_24 rfl (lv_at hl 1 rfl) ?_
      refine z_iald hF hK hP (k := 6) (by decide) rfl 0 rfl (i := (k : Int)) (k) (rfl) (by omega) (by decide) (x := iz (τ 8 k)) rfl dX4_plays_25 ?_
      have q_3 := GI_8 hG (k)
      refine lv_aload_n hF.1 hF.2.1 dX4_plays_26 rfl (lv_at hl 0 rfl) ?_
      refine z_get hF hK hP (k := 0) (C := RX4) (T := TX4) (N := 22) (by omega) (rfl) rfl uin_X4 8 (by decide) mw_430 (v := .ref (h (7))) rfl dX4_plays_27 ?_
      refine lv_iload_n hF.1 hF.2.1 dX4_plays_30 rfl (lv_at hl 1 rfl) ?_
      refine z_iald hF hK hP (k := 7) (by decide) rfl 0 rfl (i := (k : Int)) (k) (rfl) (by omega) (by decide) (x := iz (τ 9 k)) rfl dX4_plays_31 ?_
      have q_4 := GI_9 hG (k)
      refine zi_add hF.1 hF.2.1 dX4_plays_32 ?_
      refine zi_icmp_ge (tgt := 40) hF.1 hF.2.1 (a := mi) (b := (τ 8 k) + (τ 9 k)) dX4_plays_33 (by decide) (by omega) (by omega) (fun c_33 => ?_) (fun c_33 => ?_)
      · skip
        refine zi_const hF.1 hF.2.1 dX4_plays_40 ?_
        exact z_reti (P := fun z _ => z = b2i (pl τ k mi)) (z := 0) (u := ()) (w := fun _ => mC c h τ κ) hF hr hlocks hP hS ((iz_nar_z (by first | omega | exact b2i_rg)).1) (by first | exact (b2i_t (by unfold pl; omega)).symm | exact (b2i_f (by unfold pl; omega)).symm) dX4_plays_41
      · skip
        refine zi_const hF.1 hF.2.1 dX4_plays_36 ?_
        refine lv_goto (tgt := 41) hF.1 hF.2.1 dX4_plays_37 (by decide) ?_
        exact z_reti (P := fun z _ => z = b2i (pl τ k mi)) (z := 1) (u := ()) (w := fun _ => mC c h τ κ) hF hr hlocks hP hS ((iz_nar_z (by first | omega | exact b2i_rg)).1) (by first | exact (b2i_t (by unfold pl; omega)).symm | exact (b2i_f (by unfold pl; omega)).symm) dX4_plays_41

set_option maxRecDepth 100000 in
set_option maxHeartbeats 4000000 in
theorem c_X4_loaded (l : Launch) (h : Nat → Nat) (D : va_G) (c : Nat → ClassId) (τ κ : Nat → Nat → Int) (hinj : ∀ i j, i < 17 → j < 17 → h i = h j → i = j) (hG : GI τ) (mi : Int) (hm : -100 ≤ mi ∧ mi ≤ 5000) (ph : Nat) (hph : ph < 3) :
    zMi (S := Unit) l yX4_loaded cX4_loaded 5 (some .int) 1 22 [.ref (h (0)), .int (iz (mi)), .int (iz ((ph : Int)))] 17 h D (gT c) (mC c h (τ) (κ)) (fun _ => mC c h τ κ) (fun z _ => z = ldS τ mi ph 17) := by
  refine zM_of (by decide) (Nat.le_of_ble_eq_true rfl) ?_
  intro p e s m below meth cd ls ⟨hF, hr, hlocks, hK⟩ hP hl
  have hz : zD (zA 17 h s.heap.size) 17 h := zD.self hinj s.heap.size
  have hA : ∀ q, s.heap.size ≤ q → zA 17 h s.heap.size q := zA_new
  generalize zA 17 h s.heap.size = A at hz hA ⊢
  have hS : va_S A s.heap s.heap [] := va_S.rf
  have hl : lv_has ls 5 [(0, .ref (h (0))), (1, .int (iz (mi))), (2, .int (iz ((ph : Int))))] := hl
  refine zi_const hF.1 hF.2.1 dX4_loaded_0 ?_
  refine lv_istore_n (lv' := [(3, .int (iz (0))), (0, .ref (h (0))), (1, .int (iz (mi))), (2, .int (iz ((ph : Int))))]) hF.1 hF.2.1 dX4_loaded_1 rfl hl (by decide) rfl (fun ls hl => ?_)
  refine zi_const hF.1 hF.2.1 dX4_loaded_2 ?_
  refine lv_istore (lv' := [(4, .int (iz (0))), (3, .int (iz (0))), (0, .ref (h (0))), (1, .int (iz (mi))), (2, .int (iz ((ph : Int))))]) hF.1 hF.2.1 dX4_loaded_3 hl (by decide) rfl (fun ls hl => ?_)
  have nv_2 : ((0) ≤ 17) := (by omega)
  refine z_loop (V := Nat) (nL := 5) (wd := fun v_1 => mC c h (τ) (κ)) (lv := fun v_1 => [(0, .ref (h (0))), (1, .int (iz (mi))), (2, .int (iz ((ph : Int)))), (3, .int (iz (ldS τ mi ph v_1))), (4, .int (iz ((v_1 : Int))))]) (stk := fun v_1 => []) (mu := fun v_1 => 18 - v_1) (inv := fun v_1 => (v_1 ≤ 17)) ?_ 0 nv_2 hP hS (lv_sub hl [2, 3, 4, 1, 0] rfl)
  intro i hv ih_5 H locs ls hP hS hl
  have hP : zB 17 h D (mC c h (τ) (κ)) H := hP
  have hl : lv_has ls 5 [(0, .ref (h (0))), (1, .int (iz (mi))), (2, .int (iz ((ph : Int)))), (3, .int (iz (ldS τ mi ph i))), (4, .int (iz ((i : Int))))] := hl
  have hi_i : i ≤ 17 := hv
  refine lv_iload hF.1 hF.2.1 dX4_loaded_5 (lv_at hl 4 rfl) ?_
  refine zi_bipush hF.1 hF.2.1 dX4_loaded_7 (by decide) ?_
  refine zi_icmp_ge (tgt := 53) hF.1 hF.2.1 (a := (i : Int)) (b := 17) dX4_loaded_9 (by decide) (by omega) (by omega) (fun c_9 => ?_) (fun c_9 => ?_)
  · skip
    refine lv_iload_n hF.1 hF.2.1 dX4_loaded_53 rfl (lv_at hl 3 rfl) ?_
    exact z_reti (P := fun z _ => z = ldS τ mi ph 17) (z := ldS τ mi ph i) (u := ()) (w := fun _ => mC c h τ κ) hF hr hlocks hP hS (rfl) (by rw [show i = 17 by omega]) dX4_loaded_54
  · skip
    refine lv_iload_n hF.1 hF.2.1 dX4_loaded_12 rfl (lv_at hl 3 rfl) ?_
    refine z_join (n := 17) (h := h) (D := D) (A := A) (V := Int) (tgt := 45) (nL := 5) (wd := fun v_3 => mC c h (τ) (κ)) (lv := fun v_3 => [(0, .ref (h (0))), (1, .int (iz (mi))), (2, .int (iz ((ph : Int)))), (3, .int (iz (ldS τ mi ph i))), (4, .int (iz ((i : Int))))]) (stk := fun v_3 => [.int (iz (v_3)), .int (iz (ldS τ mi ph i))]) (inv := fun v_3 => ((v_3 : Int) = ic (pl τ i mi ∧ τ 10 i = (ph : Int)) (τ 11 i))) ?_ (fun jn_45 => ?_)
    · skip
      intro v hv H locs ls hP hS hl
      have hP : zB 17 h D (mC c h (τ) (κ)) H := hP
      have hl : lv_has ls 5 [(0, .ref (h (0))), (1, .int (iz (mi))), (2, .int (iz ((ph : Int)))), (3, .int (iz (ldS τ mi ph i))), (4, .int (iz ((i : Int))))] := hl
      have hvq : (v : Int) = ic (pl τ i mi ∧ τ 10 i = (ph : Int)) (τ 11 i) := hv
      obtain rfl : v = ic (pl τ i mi ∧ τ 10 i = (ph : Int)) (τ 11 i) := hvq
      refine zi_add hF.1 hF.2.1 dX4_loaded_45 ?_
      refine lv_istore_n (lv' := [(3, .int (iz ((ldS τ mi ph i) + (ic (pl τ i mi ∧ τ 10 i = (ph : Int)) (τ 11 i))))), (0, .ref (h (0))), (1, .int (iz (mi))), (2, .int (iz ((ph : Int)))), (4, .int (iz ((i : Int))))]) hF.1 hF.2.1 dX4_loaded_46 rfl hl (by decide) rfl (fun ls hl => ?_)
      refine lv_iinc (v := iz (((i + 1 : Nat) : Int))) (lv' := [(4, .int (iz (((i + 1 : Nat) : Int)))), (3, .int (iz ((ldS τ mi ph i) + (ic (pl τ i mi ∧ τ 10 i = (ph : Int)) (τ 11 i))))), (0, .ref (h (0))), (1, .int (iz (mi))), (2, .int (iz ((ph : Int))))]) hF.1 hF.2.1 dX4_loaded_47 hl (k := 4) rfl ((iz_add _ _).trans (congrArg iz (by omega))) (by decide) rfl (fun ls hl => ?_)
      refine lv_goto (tgt := 5) hF.1 hF.2.1 dX4_loaded_50 (by decide) ?_
      have e_4 : (ldS τ mi ph i) + (ic (pl τ i mi ∧ τ 10 i = (ph : Int)) (τ 11 i)) = ldS τ mi ph (i + 1) := by simp only [ldS]
      have hl : lv_has ls 5 [(4, .int (iz (((i + 1 : Nat) : Int)))), (3, .int (iz (ldS τ mi ph (i + 1)))), (0, .ref (h (0))), (1, .int (iz (mi))), (2, .int (iz ((ph : Int))))] := by rw [← e_4]; exact hl
      have nv_5 : (((i + 1)) ≤ 17) := (by omega)
      exact ih_5 (i + 1) nv_5 (by show 18 - ((i + 1)) < 18 - i; omega) _ _ _ hP hS (lv_sub hl [2, 3, 4, 1, 0] rfl)
    · skip
      refine lv_aload_n hF.1 hF.2.1 dX4_loaded_13 rfl (lv_at hl 0 rfl) ?_
      refine lv_iload hF.1 hF.2.1 dX4_loaded_14 (lv_at hl 4 rfl) ?_
      refine lv_iload_n hF.1 hF.2.1 dX4_loaded_16 rfl (lv_at hl 1 rfl) ?_
      refine z_ci (S := Unit) (w := fun _ => mC c h τ κ) (P := fun z _ => z = b2i (pl τ i mi)) (z_runV (rm := { frames := 0, cells := 0, slots := 0, locals := 0 }) hF hK hP (c_X4_plays l h D c τ κ hinj hG i (by omega) mi (by omega) _) (gIn_V mw_451 mw_452 mw_453 mw_447 mw_449) rfl rfl ⟨rfl, by decide, by decide, rfl⟩ ⟨Nat.le_of_ble_eq_true rfl, Nat.le_of_ble_eq_true rfl⟩ (k := 0) (T := TX4) (N := 22) (by omega) rfl (rfl) rfl (As := [.int (iz ((i : Int))), .int (iz (mi))]) (rest := [.int (iz (ldS τ mi ph i))]) rfl hl.1 rfl (Nat.le_of_ble_eq_true rfl) dX4_loaded_17 ⟨Nat.le_refl _, Nat.le_refl _⟩) hz hA hS (fun z_6 u_7 H locs hp hP hS => ?_)
      obtain rfl : z_6 = b2i (pl τ i mi) := hp
      refine zi_ifb_eq (tgt := 44) hF.1 hF.2.1 (P := pl τ i mi) dX4_loaded_20 (by decide) (fun c_20 => ?_) (fun c_20 => ?_)
      · skip
        refine zi_const hF.1 hF.2.1 dX4_loaded_44 ?_
        have nv_8 : ((((0)) : Int) = ic (pl τ i mi ∧ τ 10 i = (ph : Int)) (τ 11 i)) := (by first | exact (ic_t ⟨c_20, c_31⟩).symm | exact (ic_f (fun q => c_20 q.1)).symm | exact (ic_f (fun q => c_31 q.2)).symm)
        exact jn_45 (0) nv_8 _ _ _ hP hS (lv_sub hl [0, 1, 2, 3, 4] rfl)
      · skip
        refine lv_aload_n hF.1 hF.2.1 dX4_loaded_23 rfl (lv_at hl 0 rfl) ?_
        refine z_get hF hK hP (k := 0) (C := RX4) (T := TX4) (N := 22) (by omega) (rfl) rfl uin_X4 9 (by decide) mw_431 (v := .ref (h (8))) rfl dX4_loaded_24 ?_
        refine lv_iload hF.1 hF.2.1 dX4_loaded_27 (lv_at hl 4 rfl) ?_
        refine z_iald hF hK hP (k := 8) (by decide) rfl 0 rfl (i := (i : Int)) (i) (rfl) (by omega) (by decide) (x := iz (τ 10 i)) rfl dX4_loaded_29 ?_
        have q_9 := GI_10 hG (i)
        refine lv_iload_n hF.1 hF.2.1 dX4_loaded_30 rfl (lv_at hl 2 rfl) ?_
        refine zi_icmp_ne (tgt := 44) hF.1 hF.2.1 (a := τ 10 i) (b := (ph : Int)) dX4_loaded_31 (by decide) (by omega) (by omega) (fun c_31 => ?_) (fun c_31 => ?_)
        · skip
          refine zi_const hF.1 hF.2.1 dX4_loaded_44 ?_
          have nv_10 : ((((0)) : Int) = ic (pl τ i mi ∧ τ 10 i = (ph : Int)) (τ 11 i)) := (by first | exact (ic_t ⟨c_20, c_31⟩).symm | exact (ic_f (fun q => c_20 q.1)).symm | exact (ic_f (fun q => c_31 q.2)).symm)
          exact jn_45 (0) nv_10 _ _ _ hP hS (lv_sub hl [0, 1, 2, 3, 4] rfl)
        · skip
          refine lv_aload_n hF.1 hF.2.1 dX4_loaded_34 rfl (lv_at hl 0 rfl) ?_
          refine z_get hF hK hP (k := 0) (C := RX4) (T := TX4) (N := 22) (by omega) (rfl) rfl uin_X4 10 (by decide) mw_432 (v := .ref (h (9))) rfl dX4_loaded_35 ?_
          refine lv_iload hF.1 hF.2.1 dX4_loaded_38 (lv_at hl 4 rfl) ?_
          refine z_iald hF hK hP (k := 9) (by decide) rfl 0 rfl (i := (i : Int)) (i) (rfl) (by omega) (by decide) (x := iz (τ 11 i)) rfl dX4_loaded_40 ?_
          have q_11 := GI_11 hG (i)
          refine lv_goto (tgt := 45) hF.1 hF.2.1 dX4_loaded_41 (by decide) ?_
          have nv_12 : ((((τ 11 i)) : Int) = ic (pl τ i mi ∧ τ 10 i = (ph : Int)) (τ 11 i)) := (by first | exact (ic_t ⟨c_20, c_31⟩).symm | exact (ic_f (fun q => c_20 q.1)).symm | exact (ic_f (fun q => c_31 q.2)).symm)
          exact jn_45 (τ 11 i) nv_12 _ _ _ hP hS (lv_sub hl [0, 1, 2, 3, 4] rfl)

set_option maxRecDepth 100000 in
set_option maxHeartbeats 4000000 in
theorem c_X4_noisy (l : Launch) (h : Nat → Nat) (D : va_G) (c : Nat → ClassId) (τ κ : Nat → Nat → Int) (hinj : ∀ i j, i < 17 → j < 17 → h i = h j → i = j) (hG : GI τ) (mi : Int) (hm : 0 ≤ mi ∧ mi ≤ 999) (hs : Nat) (hhs : hs < 3) :
    zMi (S := Unit) l yX4_noisy cX4_noisy 7 (some .int) 1 22 [.ref (h (0)), .int (iz (mi)), .int (iz ((hs : Int)))] 17 h D (gT c) (mC c h (τ) (κ)) (fun _ => mC c h τ κ) (fun z _ => z = nsS τ mi (wd τ mi) hs 17) := by
  refine zM_of (by decide) (Nat.le_of_ble_eq_true rfl) ?_
  intro p e s m below meth cd ls ⟨hF, hr, hlocks, hK⟩ hP hl
  have hz : zD (zA 17 h s.heap.size) 17 h := zD.self hinj s.heap.size
  have hA : ∀ q, s.heap.size ≤ q → zA 17 h s.heap.size q := zA_new
  generalize zA 17 h s.heap.size = A at hz hA ⊢
  have hS : va_S A s.heap s.heap [] := va_S.rf
  have hl : lv_has ls 7 [(0, .ref (h (0))), (1, .int (iz (mi))), (2, .int (iz ((hs : Int))))] := hl
  refine zi_const hF.1 hF.2.1 dX4_noisy_0 ?_
  refine lv_istore_n (lv' := [(3, .int (iz (0))), (0, .ref (h (0))), (1, .int (iz (mi))), (2, .int (iz ((hs : Int))))]) hF.1 hF.2.1 dX4_noisy_1 rfl hl (by decide) rfl (fun ls hl => ?_)
  refine zi_const hF.1 hF.2.1 dX4_noisy_2 ?_
  refine lv_istore (lv' := [(4, .int (iz (0))), (3, .int (iz (0))), (0, .ref (h (0))), (1, .int (iz (mi))), (2, .int (iz ((hs : Int))))]) hF.1 hF.2.1 dX4_noisy_3 hl (by decide) rfl (fun ls hl => ?_)
  have nv_2 : ((0) ≤ 17) := (by omega)
  refine z_loop (V := Nat) (nL := 7) (wd := fun v_1 => mC c h (τ) (κ)) (lv := fun v_1 => [(0, .ref (h (0))), (1, .int (iz (mi))), (2, .int (iz ((hs : Int)))), (3, .int (iz (nsS τ mi (wd τ mi) hs v_1))), (4, .int (iz ((v_1 : Int))))]) (stk := fun v_1 => []) (mu := fun v_1 => 18 - v_1) (inv := fun v_1 => (v_1 ≤ 17)) ?_ 0 nv_2 hP hS (lv_sub hl [2, 3, 4, 1, 0] rfl)
  intro i hv ih_5 H locs ls hP hS hl
  have hP : zB 17 h D (mC c h (τ) (κ)) H := hP
  have hl : lv_has ls 7 [(0, .ref (h (0))), (1, .int (iz (mi))), (2, .int (iz ((hs : Int)))), (3, .int (iz (nsS τ mi (wd τ mi) hs i))), (4, .int (iz ((i : Int))))] := hl
  have hi_i : i ≤ 17 := hv
  refine lv_iload hF.1 hF.2.1 dX4_noisy_5 (lv_at hl 4 rfl) ?_
  refine zi_bipush hF.1 hF.2.1 dX4_noisy_7 (by decide) ?_
  refine zi_icmp_ge (tgt := 104) hF.1 hF.2.1 (a := (i : Int)) (b := 17) dX4_noisy_9 (by decide) (by omega) (by omega) (fun c_9 => ?_) (fun c_9 => ?_)
  · skip
    refine lv_iload_n hF.1 hF.2.1 dX4_noisy_104 rfl (lv_at hl 3 rfl) ?_
    exact z_reti (P := fun z _ => z = nsS τ mi (wd τ mi) hs 17) (z := nsS τ mi (wd τ mi) hs i) (u := ()) (w := fun _ => mC c h τ κ) hF hr hlocks hP hS (rfl) (by rw [show i = 17 by omega]) dX4_noisy_105
  · skip
    refine z_join (n := 17) (h := h) (D := D) (A := A) (V := Int) (tgt := 44) (nL := 7) (wd := fun v_3 => mC c h (τ) (κ)) (lv := fun v_3 => [(0, .ref (h (0))), (1, .int (iz (mi))), (2, .int (iz ((hs : Int)))), (3, .int (iz (nsS τ mi (wd τ mi) hs i))), (4, .int (iz ((i : Int))))]) (stk := fun v_3 => [.int (iz (v_3))]) (inv := fun v_3 => ((v_3 : Int) = max (τ 7 i - (hs : Int)) (-(τ 7 i - (hs : Int))))) ?_ (fun jn_44 => ?_)
    · skip
      intro v hv H locs ls hP hS hl
      have hP : zB 17 h D (mC c h (τ) (κ)) H := hP
      have hl : lv_has ls 7 [(0, .ref (h (0))), (1, .int (iz (mi))), (2, .int (iz ((hs : Int)))), (3, .int (iz (nsS τ mi (wd τ mi) hs i))), (4, .int (iz ((i : Int))))] := hl
      have hvq : (v : Int) = max (τ 7 i - (hs : Int)) (-(τ 7 i - (hs : Int))) := hv
      obtain rfl : v = max (τ 7 i - (hs : Int)) (-(τ 7 i - (hs : Int))) := hvq
      have q77 := GI_7 hG i
      refine lv_istore (lv' := [(5, .int (iz (max (τ 7 i - (hs : Int)) (-(τ 7 i - (hs : Int)))))), (0, .ref (h (0))), (1, .int (iz (mi))), (2, .int (iz ((hs : Int)))), (3, .int (iz (nsS τ mi (wd τ mi) hs i))), (4, .int (iz ((i : Int))))]) hF.1 hF.2.1 dX4_noisy_44 hl (by decide) rfl (fun ls hl => ?_)
      refine lv_aload_n hF.1 hF.2.1 dX4_noisy_46 rfl (lv_at hl 1 rfl) ?_
      refine z_get hF hK hP (k := 0) (C := RX4) (T := TX4) (N := 22) (by omega) (rfl) rfl uin_X4 11 (by decide) mw_433 (v := .ref (h (10))) rfl dX4_noisy_47 ?_
      refine lv_iload hF.1 hF.2.1 dX4_noisy_50 (lv_at hl 5 rfl) ?_
      refine z_iald hF hK hP (k := 10) (by decide) rfl 0 rfl (i := (i : Int)) (i) (rfl) (by omega) (by decide) (x := iz (τ 12 i)) rfl dX4_noisy_52 ?_
      have q_4 := GI_12 hG (i)
      refine zi_bipush hF.1 hF.2.1 dX4_noisy_53 (by decide) ?_
      refine zi_sub hF.1 hF.2.1 dX4_noisy_55 ?_
      refine zi_bipush hF.1 hF.2.1 dX4_noisy_56 (by decide) ?_
      refine lv_iload hF.1 hF.2.1 dX4_noisy_58 (lv_at hl 0 rfl) ?_
      refine zi_mul hF.1 hF.2.1 dX4_noisy_60 ?_
      refine zi_sub hF.1 hF.2.1 dX4_noisy_61 ?_
      refine lv_aload_n hF.1 hF.2.1 dX4_noisy_62 rfl (lv_at hl 1 rfl) ?_
      refine z_get hF hK hP (k := 0) (C := RX4) (T := TX4) (N := 22) (by omega) (rfl) rfl uin_X4 4 (by decide) mw_427 (v := .ref (h (4))) rfl dX4_noisy_63 ?_
      refine lv_iload_n hF.1 hF.2.1 dX4_noisy_66 rfl (lv_at hl 2 rfl) ?_
      refine zi_bipush hF.1 hF.2.1 dX4_noisy_67 (by decide) ?_
      refine zi_div hF.1 hF.2.1 (a := mi) (b := 60) dX4_noisy_69 (by omega) (by omega) ?_
      refine z_iald hF hK hP (k := 4) (by decide) rfl 0 rfl (i := mi / 60) ((mi / 60).toNat) ((Int.toNat_of_nonneg (by omega)).symm) (by omega) (by decide) (x := iz ((τ) 4 ((mi / 60).toNat))) rfl dX4_noisy_70 ?_
      have q_5 := GI_4 hG ((mi / 60).toNat)
      refine zi_sub hF.1 hF.2.1 dX4_noisy_71 ?_
      refine lv_istore (lv' := [(6, .int (iz ((((τ 12 i) - 10) - (10 * (max (τ 7 i - (hs : Int)) (-(τ 7 i - (hs : Int)))))) - ((τ) 4 ((mi / 60).toNat))))), (5, .int (iz (max (τ 7 i - (hs : Int)) (-(τ 7 i - (hs : Int)))))), (0, .ref (h (0))), (1, .int (iz (mi))), (2, .int (iz ((hs : Int)))), (3, .int (iz (nsS τ mi (wd τ mi) hs i))), (4, .int (iz ((i : Int))))]) hF.1 hF.2.1 dX4_noisy_72 hl (by decide) rfl (fun ls hl => ?_)
      refine lv_iload_n hF.1 hF.2.1 dX4_noisy_74 rfl (lv_at hl 5 rfl) ?_
      refine z_join (n := 17) (h := h) (D := D) (A := A) (V := Int) (tgt := 96) (nL := 7) (wd := fun v_6 => mC c h (τ) (κ)) (lv := fun v_6 => [(0, .ref (h (0))), (1, .int (iz (mi))), (2, .int (iz ((hs : Int)))), (3, .int (iz (nsS τ mi (wd τ mi) hs i))), (4, .int (iz ((i : Int))))]) (stk := fun v_6 => [.int (iz (v_6)), .int (iz (nsS τ mi (wd τ mi) hs i))]) (inv := fun v_6 => ((v_6 : Int) = ic (pl τ i mi) (nz τ i (hs : Int) (wd τ mi)))) ?_ (fun jn_96 => ?_)
      · skip
        intro v hv H locs ls hP hS hl
        have hP : zB 17 h D (mC c h (τ) (κ)) H := hP
        have hl : lv_has ls 7 [(0, .ref (h (0))), (1, .int (iz (mi))), (2, .int (iz ((hs : Int)))), (3, .int (iz (nsS τ mi (wd τ mi) hs i))), (4, .int (iz ((i : Int))))] := hl
        have hvq : (v : Int) = ic (pl τ i mi) (nz τ i (hs : Int) (wd τ mi)) := hv
        obtain rfl : v = ic (pl τ i mi) (nz τ i (hs : Int) (wd τ mi)) := hvq
        refine zi_add hF.1 hF.2.1 dX4_noisy_96 ?_
        refine lv_istore_n (lv' := [(3, .int (iz ((nsS τ mi (wd τ mi) hs i) + (ic (pl τ i mi) (nz τ i (hs : Int) (wd τ mi)))))), (0, .ref (h (0))), (1, .int (iz (mi))), (2, .int (iz ((hs : Int)))), (4, .int (iz ((i : Int))))]) hF.1 hF.2.1 dX4_noisy_97 rfl hl (by decide) rfl (fun ls hl => ?_)
        refine lv_iinc (v := iz (((i + 1 : Nat) : Int))) (lv' := [(4, .int (iz (((i + 1 : Nat) : Int)))), (3, .int (iz ((nsS τ mi (wd τ mi) hs i) + (ic (pl τ i mi) (nz τ i (hs : Int) (wd τ mi)))))), (0, .ref (h (0))), (1, .int (iz (mi))), (2, .int (iz ((hs : Int))))]) hF.1 hF.2.1 dX4_noisy_98 hl (k := 4) rfl ((iz_add _ _).trans (congrArg iz (by omega))) (by decide) rfl (fun ls hl => ?_)
        refine lv_goto (tgt := 5) hF.1 hF.2.1 dX4_noisy_101 (by decide) ?_
        have e_7 : (nsS τ mi (wd τ mi) hs i) + (ic (pl τ i mi) (nz τ i (hs : Int) (wd τ mi))) = nsS τ mi (wd τ mi) hs (i + 1) := by simp only [nsS]
        have hl : lv_has ls 7 [(4, .int (iz (((i + 1 : Nat) : Int)))), (3, .int (iz (nsS τ mi (wd τ mi) hs (i + 1)))), (0, .ref (h (0))), (1, .int (iz (mi))), (2, .int (iz ((hs : Int))))] := by rw [← e_7]; exact hl
        have nv_8 : (((i + 1)) ≤ 17) := (by omega)
        exact ih_5 (i + 1) nv_8 (by show 18 - ((i + 1)) < 18 - i; omega) _ _ _ hP hS (lv_sub hl [2, 3, 4, 1, 0] rfl)
      · skip
        refine lv_aload_n hF.1 hF.2.1 dX4_noisy_75 rfl (lv_at hl 2 rfl) ?_
        refine lv_iload hF.1 hF.2.1 dX4_noisy_76 (lv_at hl 6 rfl) ?_
        refine lv_iload_n hF.1 hF.2.1 dX4_noisy_78 rfl (lv_at hl 3 rfl) ?_
        refine z_ci (S := Unit) (w := fun _ => mC c h τ κ) (P := fun z _ => z = b2i (pl τ i mi)) (z_runV (rm := { frames := 0, cells := 0, slots := 0, locals := 0 }) hF hK hP (c_X4_plays l h D c τ κ hinj hG i (by omega) mi (by omega) _) (gIn_V mw_451 mw_452 mw_453 mw_447 mw_449) rfl rfl ⟨rfl, by decide, by decide, rfl⟩ ⟨Nat.le_of_ble_eq_true rfl, Nat.le_of_ble_eq_true rfl⟩ (k := 0) (T := TX4) (N := 22) (by omega) rfl (rfl) rfl (As := [.int (iz ((i : Int))), .int (iz (mi))]) (rest := [.int (iz (nsS τ mi (wd τ mi) hs i))]) rfl hl.1 rfl (Nat.le_of_ble_eq_true rfl) dX4_noisy_79 ⟨Nat.le_refl _, Nat.le_refl _⟩) hz hA hS (fun z_9 u_10 H locs hp hP hS => ?_)
        obtain rfl : z_9 = b2i (pl τ i mi) := hp
        refine zi_ifb_eq (tgt := 95) hF.1 hF.2.1 (P := pl τ i mi) dX4_noisy_82 (by decide) (fun c_82 => ?_) (fun c_82 => ?_)
        · skip
          refine zi_const hF.1 hF.2.1 dX4_noisy_95 ?_
          have nv_11 : ((((0)) : Int) = ic (pl τ i mi) (nz τ i (hs : Int) (wd τ mi))) := (by first | (rw [ic_t c_82]; unfold nz wd; omega) | exact (ic_f c_82).symm)
          exact jn_96 (0) nv_11 _ _ _ hP hS (lv_sub hl [2, 3, 4, 5, 6] rfl)
        · skip
          refine lv_iload hF.1 hF.2.1 dX4_noisy_85 (lv_at hl 0 rfl) ?_
          refine zi_if_le (tgt := 95) hF.1 hF.2.1 (a := (((τ 12 i) - 10) - (10 * (max (τ 7 i - (hs : Int)) (-(τ 7 i - (hs : Int)))))) - ((τ) 4 ((mi / 60).toNat))) dX4_noisy_87 (by decide) (by omega) (fun c_87 => ?_) (fun c_87 => ?_)
          · skip
            refine zi_const hF.1 hF.2.1 dX4_noisy_95 ?_
            have nv_12 : ((((0)) : Int) = ic (pl τ i mi) (nz τ i (hs : Int) (wd τ mi))) := (by first | (rw [ic_t c_82]; unfold nz wd; omega) | exact (ic_f c_82).symm)
            exact jn_96 (0) nv_12 _ _ _ hP hS (lv_sub hl [2, 3, 4, 5, 6] rfl)
          · skip
            refine lv_iload hF.1 hF.2.1 dX4_noisy_90 (lv_at hl 0 rfl) ?_
            refine lv_goto (tgt := 96) hF.1 hF.2.1 dX4_noisy_92 (by decide) ?_
            have nv_13 : (((((((τ 12 i) - 10) - (10 * (max (τ 7 i - (hs : Int)) (-(τ 7 i - (hs : Int)))))) - ((τ) 4 ((mi / 60).toNat)))) : Int) = ic (pl τ i mi) (nz τ i (hs : Int) (wd τ mi))) := (by first | (rw [ic_t c_82]; unfold nz wd; omega) | exact (ic_f c_82).symm)
            exact jn_96 ((((τ 12 i) - 10) - (10 * (max (τ 7 i - (hs : Int)) (-(τ 7 i - (hs : Int)))))) - ((τ) 4 ((mi / 60).toNat))) nv_13 _ _ _ hP hS (lv_sub hl [2, 3, 4, 5, 6] rfl)
    · skip
      refine lv_aload_n hF.1 hF.2.1 dX4_noisy_12 rfl (lv_at hl 0 rfl) ?_
      refine z_get hF hK hP (k := 0) (C := RX4) (T := TX4) (N := 22) (by omega) (rfl) rfl uin_X4 6 (by decide) mw_428 (v := .ref (h (5))) rfl dX4_noisy_13 ?_
      refine lv_iload hF.1 hF.2.1 dX4_noisy_16 (lv_at hl 4 rfl) ?_
      refine z_iald hF hK hP (k := 5) (by decide) rfl 0 rfl (i := (i : Int)) (i) (rfl) (by omega) (by decide) (x := iz (τ 7 i)) rfl dX4_noisy_18 ?_
      have q_14 := GI_7 hG (i)
      refine lv_iload_n hF.1 hF.2.1 dX4_noisy_19 rfl (lv_at hl 2 rfl) ?_
      refine zi_icmp_ge (tgt := 35) hF.1 hF.2.1 (a := τ 7 i) (b := (hs : Int)) dX4_noisy_20 (by decide) (by omega) (by omega) (fun c_20 => ?_) (fun c_20 => ?_)
      · skip
        refine lv_aload_n hF.1 hF.2.1 dX4_noisy_35 rfl (lv_at hl 0 rfl) ?_
        refine z_get hF hK hP (k := 0) (C := RX4) (T := TX4) (N := 22) (by omega) (rfl) rfl uin_X4 6 (by decide) mw_428 (v := .ref (h (5))) rfl dX4_noisy_36 ?_
        refine lv_iload hF.1 hF.2.1 dX4_noisy_39 (lv_at hl 4 rfl) ?_
        refine z_iald hF hK hP (k := 5) (by decide) rfl 0 rfl (i := (i : Int)) (i) (rfl) (by omega) (by decide) (x := iz (τ 7 i)) rfl dX4_noisy_41 ?_
        have q_15 := GI_7 hG (i)
        refine lv_iload_n hF.1 hF.2.1 dX4_noisy_42 rfl (lv_at hl 2 rfl) ?_
        refine zi_sub hF.1 hF.2.1 dX4_noisy_43 ?_
        have nv_16 : (((((τ 7 i) - ((hs : Int)))) : Int) = max (τ 7 i - (hs : Int)) (-(τ 7 i - (hs : Int)))) := (by omega)
        exact jn_44 ((τ 7 i) - ((hs : Int))) nv_16 _ _ _ hP hS (lv_sub hl [0, 1, 2, 3, 4] rfl)
      · skip
        refine lv_iload_n hF.1 hF.2.1 dX4_noisy_23 rfl (lv_at hl 2 rfl) ?_
        refine lv_aload_n hF.1 hF.2.1 dX4_noisy_24 rfl (lv_at hl 0 rfl) ?_
        refine z_get hF hK hP (k := 0) (C := RX4) (T := TX4) (N := 22) (by omega) (rfl) rfl uin_X4 6 (by decide) mw_428 (v := .ref (h (5))) rfl dX4_noisy_25 ?_
        refine lv_iload hF.1 hF.2.1 dX4_noisy_28 (lv_at hl 4 rfl) ?_
        refine z_iald hF hK hP (k := 5) (by decide) rfl 0 rfl (i := (i : Int)) (i) (rfl) (by omega) (by decide) (x := iz (τ 7 i)) rfl dX4_noisy_30 ?_
        have q_17 := GI_7 hG (i)
        refine zi_sub hF.1 hF.2.1 dX4_noisy_31 ?_
        refine lv_goto (tgt := 44) hF.1 hF.2.1 dX4_noisy_32 (by decide) ?_
        have nv_18 : ((((((hs : Int)) - (τ 7 i))) : Int) = max (τ 7 i - (hs : Int)) (-(τ 7 i - (hs : Int)))) := (by omega)
        exact jn_44 (((hs : Int)) - (τ 7 i)) nv_18 _ _ _ hP hS (lv_sub hl [0, 1, 2, 3, 4] rfl)

set_option maxRecDepth 100000 in
set_option maxHeartbeats 4000000 in
theorem c_X4_isPlaced (l : Launch) (h : Nat → Nat) (D : va_G) (c : Nat → ClassId) (τ κ : Nat → Nat → Int) (hinj : ∀ i j, i < 17 → j < 17 → h i = h j → i = j) (hG : GI τ)  :
    zMi (S := Unit) l yX4_isPlaced cX4_isPlaced 5 (some .boolean) 0 0 [.ref (h (0))] 17 h D (gT c) (mC c h (τ) (κ)) (fun _ => mC c h τ κ) (fun z _ => z = b2i (placed τ)) := by
  refine zM_of (by decide) (Nat.le_of_ble_eq_true rfl) ?_
  intro p e s m below meth cd ls ⟨hF, hr, hlocks, hK⟩ hP hl
  have hz : zD (zA 17 h s.heap.size) 17 h := zD.self hinj s.heap.size
  have hA : ∀ q, s.heap.size ≤ q → zA 17 h s.heap.size q := zA_new
  generalize zA 17 h s.heap.size = A at hz hA ⊢
  have hS : va_S A s.heap s.heap [] := va_S.rf
  have hl : lv_has ls 5 [(0, .ref (h (0)))] := hl
  refine zi_const hF.1 hF.2.1 dX4_isPlaced_0 ?_
  refine lv_istore_n (lv' := [(1, .int (iz (1))), (0, .ref (h (0)))]) hF.1 hF.2.1 dX4_isPlaced_1 rfl hl (by decide) rfl (fun ls hl => ?_)
  refine zi_const hF.1 hF.2.1 dX4_isPlaced_2 ?_
  refine lv_istore_n (lv' := [(2, .int (iz (0))), (1, .int (iz (1))), (0, .ref (h (0)))]) hF.1 hF.2.1 dX4_isPlaced_3 rfl hl (by decide) rfl (fun ls hl => ?_)
  have e0 : (1 : Int) = b2i (∀ a, a < 0 → mP τ a) := (b2i_t lt_0).symm
  have hl : lv_has ls 5 [(2, .int (iz (0))), (1, .int (iz (b2i (∀ a, a < 0 → mP τ a)))), (0, .ref (h (0)))] := by rw [← e0]; exact hl
  have nv_2 : ((0) ≤ 17) := (by omega)
  refine z_loop (V := Nat) (nL := 5) (wd := fun v_1 => mC c h (τ) (κ)) (lv := fun v_1 => [(0, .ref (h (0))), (1, .int (iz (b2i (∀ a, a < v_1 → mP τ a)))), (2, .int (iz ((v_1 : Int))))]) (stk := fun v_1 => []) (mu := fun v_1 => 18 - v_1) (inv := fun v_1 => (v_1 ≤ 17)) ?_ 0 nv_2 hP hS (lv_sub hl [2, 1, 0] rfl)
  intro k hv ih_4 H locs ls hP hS hl
  have hP : zB 17 h D (mC c h (τ) (κ)) H := hP
  have hl : lv_has ls 5 [(0, .ref (h (0))), (1, .int (iz (b2i (∀ a, a < k → mP τ a)))), (2, .int (iz ((k : Int))))] := hl
  have hk_k : k ≤ 17 := hv
  refine lv_iload_n hF.1 hF.2.1 dX4_isPlaced_4 rfl (lv_at hl 2 rfl) ?_
  refine zi_bipush hF.1 hF.2.1 dX4_isPlaced_5 (by decide) ?_
  refine zi_icmp_ge (tgt := 258) hF.1 hF.2.1 (a := (k : Int)) (b := 17) dX4_isPlaced_7 (by decide) (by omega) (by omega) (fun c_7 => ?_) (fun c_7 => ?_)
  · skip
    refine lv_iload_n hF.1 hF.2.1 dX4_isPlaced_258 rfl (lv_at hl 1 rfl) ?_
    exact z_reti (P := fun z _ => z = b2i (placed τ)) (z := b2i (∀ a, a < k → mP τ a)) (u := ()) (w := fun _ => mC c h τ κ) hF hr hlocks hP hS ((iz_nar_z (by first | omega | exact b2i_rg)).1) (by rw [show k = 17 by omega]; rfl) dX4_isPlaced_259
  · skip
    refine lv_iload_n hF.1 hF.2.1 dX4_isPlaced_10 rfl (lv_at hl 1 rfl) ?_
    refine z_join (n := 17) (h := h) (D := D) (A := A) (V := Int) (tgt := 44) (nL := 5) (wd := fun v_3 => mC c h (τ) (κ)) (lv := fun v_3 => [(0, .ref (h (0))), (1, .int (iz (b2i (∀ a, a < k → mP τ a)))), (2, .int (iz ((k : Int))))]) (stk := fun v_3 => [.int (iz (v_3)), .int (iz (b2i (∀ a, a < k → mP τ a)))]) (inv := fun v_3 => (v_3 = b2i (mA τ k))) ?_ (fun jn_44 => ?_)
    · skip
      intro v hv H locs ls hP hS hl
      have hP : zB 17 h D (mC c h (τ) (κ)) H := hP
      have hl : lv_has ls 5 [(0, .ref (h (0))), (1, .int (iz (b2i (∀ a, a < k → mP τ a)))), (2, .int (iz ((k : Int))))] := hl
      have hvq : v = b2i (mA τ k) := hv
      obtain rfl : v = b2i (mA τ k) := hvq
      refine zi_andb hF.1 hF.2.1 (P := ∀ a, a < k → mP τ a) (P' := mA τ k) dX4_isPlaced_44 ?_
      refine lv_istore_n (lv' := [(1, .int (iz (b2i ((∀ a, a < k → mP τ a) ∧ (mA τ k))))), (0, .ref (h (0))), (2, .int (iz ((k : Int))))]) hF.1 hF.2.1 dX4_isPlaced_45 rfl hl (by decide) rfl (fun ls hl => ?_)
      refine zi_const hF.1 hF.2.1 dX4_isPlaced_46 ?_
      refine lv_istore_n (lv' := [(3, .int (iz (0))), (1, .int (iz (b2i ((∀ a, a < k → mP τ a) ∧ (mA τ k))))), (0, .ref (h (0))), (2, .int (iz ((k : Int))))]) hF.1 hF.2.1 dX4_isPlaced_47 rfl hl (by decide) rfl (fun ls hl => ?_)
      have e_4 : b2i ((∀ a, a < k → mP τ a) ∧ (mA τ k)) = b2i (((∀ a, a < k → mP τ a) ∧ mA τ k) ∧ ∀ b, b < 0 → mB τ k b) := b2i_iff (⟨fun q => ⟨q, lt_0⟩, fun q => q.1⟩)
      have hl : lv_has ls 5 [(3, .int (iz (0))), (1, .int (iz (b2i (((∀ a, a < k → mP τ a) ∧ mA τ k) ∧ ∀ b, b < 0 → mB τ k b)))), (0, .ref (h (0))), (2, .int (iz ((k : Int))))] := by rw [← e_4]; exact hl
      have nv_6 : ((0) ≤ 17) := (by omega)
      refine z_loop (V := Nat) (nL := 5) (wd := fun v_5 => mC c h (τ) (κ)) (lv := fun v_5 => [(0, .ref (h (0))), (1, .int (iz (b2i (((∀ a, a < k → mP τ a) ∧ mA τ k) ∧ ∀ b, b < v_5 → mB τ k b)))), (2, .int (iz ((k : Int)))), (3, .int (iz ((v_5 : Int))))]) (stk := fun v_5 => []) (mu := fun v_5 => 18 - v_5) (inv := fun v_5 => (v_5 ≤ 17)) ?_ 0 nv_6 hP hS (lv_sub hl [2, 1, 3, 0] rfl)
      intro j hv ih_48 H locs ls hP hS hl
      have hP : zB 17 h D (mC c h (τ) (κ)) H := hP
      have hl : lv_has ls 5 [(0, .ref (h (0))), (1, .int (iz (b2i (((∀ a, a < k → mP τ a) ∧ mA τ k) ∧ ∀ b, b < j → mB τ k b)))), (2, .int (iz ((k : Int)))), (3, .int (iz ((j : Int))))] := hl
      have hj_j : j ≤ 17 := hv
      refine lv_iload_n hF.1 hF.2.1 dX4_isPlaced_48 rfl (lv_at hl 3 rfl) ?_
      refine zi_bipush hF.1 hF.2.1 dX4_isPlaced_49 (by decide) ?_
      refine zi_icmp_ge (tgt := 167) hF.1 hF.2.1 (a := (j : Int)) (b := 17) dX4_isPlaced_51 (by decide) (by omega) (by omega) (fun c_51 => ?_) (fun c_51 => ?_)
      · skip
        refine zi_const hF.1 hF.2.1 dX4_isPlaced_167 ?_
        refine lv_istore_n (lv' := [(3, .int (iz (0))), (0, .ref (h (0))), (1, .int (iz (b2i (((∀ a, a < k → mP τ a) ∧ mA τ k) ∧ ∀ b, b < j → mB τ k b)))), (2, .int (iz ((k : Int))))]) hF.1 hF.2.1 dX4_isPlaced_168 rfl hl (by decide) rfl (fun ls hl => ?_)
        have e_7 : b2i (((∀ a, a < k → mP τ a) ∧ mA τ k) ∧ ∀ b, b < j → mB τ k b) = b2i ((((∀ a, a < k → mP τ a) ∧ mA τ k) ∧ ∀ b, b < 17 → mB τ k b) ∧ ∀ w, w < 0 → mCs τ k w) := b2i_iff (by rw [show j = 17 by omega]; exact ⟨fun q => ⟨q, lt_0⟩, fun q => q.1⟩)
        have hl : lv_has ls 5 [(3, .int (iz (0))), (0, .ref (h (0))), (1, .int (iz (b2i ((((∀ a, a < k → mP τ a) ∧ mA τ k) ∧ ∀ b, b < 17 → mB τ k b) ∧ ∀ w, w < 0 → mCs τ k w)))), (2, .int (iz ((k : Int))))] := by rw [← e_7]; exact hl
        have nv_9 : ((0) ≤ 5 ∧ ((0) : Int) ≤ τ 0 2) := (by have := GI_02 hG; omega)
        refine z_loop (V := Nat) (nL := 5) (wd := fun v_8 => mC c h (τ) (κ)) (lv := fun v_8 => [(0, .ref (h (0))), (1, .int (iz (b2i ((((∀ a, a < k → mP τ a) ∧ mA τ k) ∧ ∀ b, b < 17 → mB τ k b) ∧ ∀ w, w < v_8 → mCs τ k w)))), (2, .int (iz ((k : Int)))), (3, .int (iz ((v_8 : Int))))]) (stk := fun v_8 => []) (mu := fun v_8 => 6 - v_8) (inv := fun v_8 => (v_8 ≤ 5 ∧ (v_8 : Int) ≤ τ 0 2)) ?_ 0 nv_9 hP hS (lv_sub hl [1, 2, 3, 0] rfl)
        intro j hv ih_169 H locs ls hP hS hl
        have hP : zB 17 h D (mC c h (τ) (κ)) H := hP
        have hl : lv_has ls 5 [(0, .ref (h (0))), (1, .int (iz (b2i ((((∀ a, a < k → mP τ a) ∧ mA τ k) ∧ ∀ b, b < 17 → mB τ k b) ∧ ∀ w, w < j → mCs τ k w)))), (2, .int (iz ((k : Int)))), (3, .int (iz ((j : Int))))] := hl
        have hj_j : j ≤ 5 ∧ (j : Int) ≤ τ 0 2 := hv
        refine lv_iload_n hF.1 hF.2.1 dX4_isPlaced_169 rfl (lv_at hl 3 rfl) ?_
        refine lv_aload_n hF.1 hF.2.1 dX4_isPlaced_170 rfl (lv_at hl 0 rfl) ?_
        refine z_get hF hK hP (k := 0) (C := RX4) (T := TX4) (N := 22) (by omega) (rfl) rfl uin_X4 16 (by decide) mw_456 (v := .int (iz (τ 0 2))) rfl dX4_isPlaced_171 ?_
        have q_10 := GI_02 hG
        refine zi_icmp_ge (tgt := 252) hF.1 hF.2.1 (a := (j : Int)) (b := τ 0 2) dX4_isPlaced_174 (by decide) (by omega) (by omega) (fun c_174 => ?_) (fun c_174 => ?_)
        · skip
          refine lv_iinc (v := iz (((k + 1 : Nat) : Int))) (lv' := [(2, .int (iz (((k + 1 : Nat) : Int)))), (0, .ref (h (0))), (1, .int (iz (b2i ((((∀ a, a < k → mP τ a) ∧ mA τ k) ∧ ∀ b, b < 17 → mB τ k b) ∧ ∀ w, w < j → mCs τ k w)))), (3, .int (iz ((j : Int))))]) hF.1 hF.2.1 dX4_isPlaced_252 hl (k := 2) rfl ((iz_add _ _).trans (congrArg iz (by omega))) (by decide) rfl (fun ls hl => ?_)
          refine lv_goto (tgt := 4) hF.1 hF.2.1 dX4_isPlaced_255 (by decide) ?_
          have e_11 : b2i ((((∀ a, a < k → mP τ a) ∧ mA τ k) ∧ ∀ b, b < 17 → mB τ k b) ∧ ∀ w, w < j → mCs τ k w) = b2i (∀ a, a < (k + 1) → mP τ a) := b2i_iff (⟨fun q => lt_s q.1.1.1 ⟨⟨q.1.1.2, q.1.2⟩, fun w hw => q.2 w (by omega)⟩, fun q => ⟨⟨⟨fun a z => q a (by omega), (q k (by omega)).1.1⟩, (q k (by omega)).1.2⟩, fun w hw => (q k (by omega)).2 w (by omega)⟩⟩)
          have hl : lv_has ls 5 [(2, .int (iz (((k + 1 : Nat) : Int)))), (0, .ref (h (0))), (1, .int (iz (b2i (∀ a, a < (k + 1) → mP τ a)))), (3, .int (iz ((j : Int))))] := by rw [← e_11]; exact hl
          have nv_12 : (((k + 1)) ≤ 17) := (by omega)
          exact ih_4 (k + 1) nv_12 (by show 18 - ((k + 1)) < 18 - k; omega) _ _ _ hP hS (lv_sub hl [1, 2, 0] rfl)
        · skip
          refine lv_iload_n hF.1 hF.2.1 dX4_isPlaced_177 rfl (lv_at hl 1 rfl) ?_
          refine z_join (n := 17) (h := h) (D := D) (A := A) (V := Int) (tgt := 244) (nL := 5) (wd := fun v_13 => mC c h (τ) (κ)) (lv := fun v_13 => [(0, .ref (h (0))), (1, .int (iz (b2i ((((∀ a, a < k → mP τ a) ∧ mA τ k) ∧ ∀ b, b < 17 → mB τ k b) ∧ ∀ w, w < j → mCs τ k w)))), (2, .int (iz ((k : Int)))), (3, .int (iz ((j : Int))))]) (stk := fun v_13 => [.int (iz (v_13)), .int (iz (b2i ((((∀ a, a < k → mP τ a) ∧ mA τ k) ∧ ∀ b, b < 17 → mB τ k b) ∧ ∀ w, w < j → mCs τ k w)))]) (inv := fun v_13 => (v_13 = b2i (mCs τ k j))) ?_ (fun jn_244 => ?_)
          · skip
            intro v hv H locs ls hP hS hl
            have hP : zB 17 h D (mC c h (τ) (κ)) H := hP
            have hl : lv_has ls 5 [(0, .ref (h (0))), (1, .int (iz (b2i ((((∀ a, a < k → mP τ a) ∧ mA τ k) ∧ ∀ b, b < 17 → mB τ k b) ∧ ∀ w, w < j → mCs τ k w)))), (2, .int (iz ((k : Int)))), (3, .int (iz ((j : Int))))] := hl
            have hvq : v = b2i (mCs τ k j) := hv
            obtain rfl : v = b2i (mCs τ k j) := hvq
            refine zi_andb hF.1 hF.2.1 (P := (((∀ a, a < k → mP τ a) ∧ mA τ k) ∧ ∀ b, b < 17 → mB τ k b) ∧ ∀ w, w < j → mCs τ k w) (P' := mCs τ k j) dX4_isPlaced_244 ?_
            refine lv_istore_n (lv' := [(1, .int (iz (b2i (((((∀ a, a < k → mP τ a) ∧ mA τ k) ∧ ∀ b, b < 17 → mB τ k b) ∧ ∀ w, w < j → mCs τ k w) ∧ (mCs τ k j))))), (0, .ref (h (0))), (2, .int (iz ((k : Int)))), (3, .int (iz ((j : Int))))]) hF.1 hF.2.1 dX4_isPlaced_245 rfl hl (by decide) rfl (fun ls hl => ?_)
            refine lv_iinc (v := iz (((j + 1 : Nat) : Int))) (lv' := [(3, .int (iz (((j + 1 : Nat) : Int)))), (1, .int (iz (b2i (((((∀ a, a < k → mP τ a) ∧ mA τ k) ∧ ∀ b, b < 17 → mB τ k b) ∧ ∀ w, w < j → mCs τ k w) ∧ (mCs τ k j))))), (0, .ref (h (0))), (2, .int (iz ((k : Int))))]) hF.1 hF.2.1 dX4_isPlaced_246 hl (k := 3) rfl ((iz_add _ _).trans (congrArg iz (by omega))) (by decide) rfl (fun ls hl => ?_)
            refine lv_goto (tgt := 169) hF.1 hF.2.1 dX4_isPlaced_249 (by decide) ?_
            have e_14 : b2i (((((∀ a, a < k → mP τ a) ∧ mA τ k) ∧ ∀ b, b < 17 → mB τ k b) ∧ ∀ w, w < j → mCs τ k w) ∧ (mCs τ k j)) = b2i ((((∀ a, a < k → mP τ a) ∧ mA τ k) ∧ ∀ b, b < 17 → mB τ k b) ∧ ∀ w, w < (j + 1) → mCs τ k w) := b2i_iff (and_all_s)
            have hl : lv_has ls 5 [(3, .int (iz (((j + 1 : Nat) : Int)))), (1, .int (iz (b2i ((((∀ a, a < k → mP τ a) ∧ mA τ k) ∧ ∀ b, b < 17 → mB τ k b) ∧ ∀ w, w < (j + 1) → mCs τ k w)))), (0, .ref (h (0))), (2, .int (iz ((k : Int))))] := by rw [← e_14]; exact hl
            have nv_15 : (((j + 1)) ≤ 5 ∧ (((j + 1)) : Int) ≤ τ 0 2) := (by omega)
            exact ih_169 (j + 1) nv_15 (by show 6 - ((j + 1)) < 6 - j; omega) _ _ _ hP hS (lv_sub hl [2, 1, 3, 0] rfl)
          · skip
            refine lv_aload_n hF.1 hF.2.1 dX4_isPlaced_178 rfl (lv_at hl 0 rfl) ?_
            refine z_get hF hK hP (k := 0) (C := RX4) (T := TX4) (N := 22) (by omega) (rfl) rfl uin_X4 13 (by decide) mw_436 (v := .ref (h (12))) rfl dX4_isPlaced_179 ?_
            refine lv_iload_n hF.1 hF.2.1 dX4_isPlaced_182 rfl (lv_at hl 2 rfl) ?_
            refine z_zald hF hK hP (k := 12) (by decide) rfl 4 rfl (i := (k : Int)) (k) (rfl) (by omega) (by decide) (x := iz (τ 14 k)) rfl dX4_isPlaced_183 ?_
            have q_16 := GI_14 hG (k)
            refine zi_if_eq (tgt := 239) hF.1 hF.2.1 (a := τ 14 k) dX4_isPlaced_184 (by decide) (by omega) (fun c_184 => ?_) (fun c_184 => ?_)
            · skip
              refine zi_const hF.1 hF.2.1 dX4_isPlaced_239 ?_
              refine lv_goto (tgt := 244) hF.1 hF.2.1 dX4_isPlaced_240 (by decide) ?_
              have nv_17 : (((1)) = b2i (mCs τ k j)) := (by first | exact (b2i_t (by unfold mCs; omega)).symm | exact (b2i_f (by unfold mCs; omega)).symm)
              exact jn_244 (1) nv_17 _ _ _ hP hS (lv_sub hl [0, 1, 2, 3] rfl)
            · skip
              refine lv_aload_n hF.1 hF.2.1 dX4_isPlaced_187 rfl (lv_at hl 0 rfl) ?_
              refine z_get hF hK hP (k := 0) (C := RX4) (T := TX4) (N := 22) (by omega) (rfl) rfl uin_X4 17 (by decide) mw_437 (v := .ref (h (13))) rfl dX4_isPlaced_188 ?_
              refine lv_iload_n hF.1 hF.2.1 dX4_isPlaced_191 rfl (lv_at hl 3 rfl) ?_
              refine z_iald hF hK hP (k := 13) (by decide) rfl 0 rfl (i := (j : Int)) (j) (rfl) (by omega) (by decide) (x := iz (τ 16 j)) rfl dX4_isPlaced_192 ?_
              have q_18 := GI_16 hG (j)
              refine lv_aload_n hF.1 hF.2.1 dX4_isPlaced_193 rfl (lv_at hl 0 rfl) ?_
              refine z_get hF hK hP (k := 0) (C := RX4) (T := TX4) (N := 22) (by omega) (rfl) rfl uin_X4 6 (by decide) mw_428 (v := .ref (h (5))) rfl dX4_isPlaced_194 ?_
              refine lv_iload_n hF.1 hF.2.1 dX4_isPlaced_197 rfl (lv_at hl 2 rfl) ?_
              refine z_iald hF hK hP (k := 5) (by decide) rfl 0 rfl (i := (k : Int)) (k) (rfl) (by omega) (by decide) (x := iz (τ 7 k)) rfl dX4_isPlaced_198 ?_
              have q_19 := GI_7 hG (k)
              refine zi_icmp_ne (tgt := 239) hF.1 hF.2.1 (a := τ 16 j) (b := τ 7 k) dX4_isPlaced_199 (by decide) (by omega) (by omega) (fun c_199 => ?_) (fun c_199 => ?_)
              · skip
                refine zi_const hF.1 hF.2.1 dX4_isPlaced_239 ?_
                refine lv_goto (tgt := 244) hF.1 hF.2.1 dX4_isPlaced_240 (by decide) ?_
                have nv_20 : (((1)) = b2i (mCs τ k j)) := (by first | exact (b2i_t (by unfold mCs; omega)).symm | exact (b2i_f (by unfold mCs; omega)).symm)
                exact jn_244 (1) nv_20 _ _ _ hP hS (lv_sub hl [0, 1, 2, 3] rfl)
              · skip
                refine lv_aload_n hF.1 hF.2.1 dX4_isPlaced_202 rfl (lv_at hl 0 rfl) ?_
                refine z_get hF hK hP (k := 0) (C := RX4) (T := TX4) (N := 22) (by omega) (rfl) rfl uin_X4 7 (by decide) mw_429 (v := .ref (h (6))) rfl dX4_isPlaced_203 ?_
                refine lv_iload_n hF.1 hF.2.1 dX4_isPlaced_206 rfl (lv_at hl 2 rfl) ?_
                refine z_iald hF hK hP (k := 6) (by decide) rfl 0 rfl (i := (k : Int)) (k) (rfl) (by omega) (by decide) (x := iz (τ 8 k)) rfl dX4_isPlaced_207 ?_
                have q_21 := GI_8 hG (k)
                refine lv_aload_n hF.1 hF.2.1 dX4_isPlaced_208 rfl (lv_at hl 0 rfl) ?_
                refine z_get hF hK hP (k := 0) (C := RX4) (T := TX4) (N := 22) (by omega) (rfl) rfl uin_X4 19 (by decide) mw_439 (v := .ref (h (15))) rfl dX4_isPlaced_209 ?_
                refine lv_iload_n hF.1 hF.2.1 dX4_isPlaced_212 rfl (lv_at hl 3 rfl) ?_
                refine z_iald hF hK hP (k := 15) (by decide) rfl 0 rfl (i := (j : Int)) (j) (rfl) (by omega) (by decide) (x := iz (τ 18 j)) rfl dX4_isPlaced_213 ?_
                have q_22 := GI_18 hG (j)
                refine zi_icmp_ge (tgt := 239) hF.1 hF.2.1 (a := τ 8 k) (b := τ 18 j) dX4_isPlaced_214 (by decide) (by omega) (by omega) (fun c_214 => ?_) (fun c_214 => ?_)
                · skip
                  refine zi_const hF.1 hF.2.1 dX4_isPlaced_239 ?_
                  refine lv_goto (tgt := 244) hF.1 hF.2.1 dX4_isPlaced_240 (by decide) ?_
                  have nv_23 : (((1)) = b2i (mCs τ k j)) := (by first | exact (b2i_t (by unfold mCs; omega)).symm | exact (b2i_f (by unfold mCs; omega)).symm)
                  exact jn_244 (1) nv_23 _ _ _ hP hS (lv_sub hl [0, 1, 2, 3] rfl)
                · skip
                  refine lv_aload_n hF.1 hF.2.1 dX4_isPlaced_217 rfl (lv_at hl 0 rfl) ?_
                  refine z_get hF hK hP (k := 0) (C := RX4) (T := TX4) (N := 22) (by omega) (rfl) rfl uin_X4 7 (by decide) mw_429 (v := .ref (h (6))) rfl dX4_isPlaced_218 ?_
                  refine lv_iload_n hF.1 hF.2.1 dX4_isPlaced_221 rfl (lv_at hl 2 rfl) ?_
                  refine z_iald hF hK hP (k := 6) (by decide) rfl 0 rfl (i := (k : Int)) (k) (rfl) (by omega) (by decide) (x := iz (τ 8 k)) rfl dX4_isPlaced_222 ?_
                  have q_24 := GI_8 hG (k)
                  refine lv_aload_n hF.1 hF.2.1 dX4_isPlaced_223 rfl (lv_at hl 0 rfl) ?_
                  refine z_get hF hK hP (k := 0) (C := RX4) (T := TX4) (N := 22) (by omega) (rfl) rfl uin_X4 8 (by decide) mw_430 (v := .ref (h (7))) rfl dX4_isPlaced_224 ?_
                  refine lv_iload_n hF.1 hF.2.1 dX4_isPlaced_227 rfl (lv_at hl 2 rfl) ?_
                  refine z_iald hF hK hP (k := 7) (by decide) rfl 0 rfl (i := (k : Int)) (k) (rfl) (by omega) (by decide) (x := iz (τ 9 k)) rfl dX4_isPlaced_228 ?_
                  have q_25 := GI_9 hG (k)
                  refine zi_add hF.1 hF.2.1 dX4_isPlaced_229 ?_
                  refine lv_aload_n hF.1 hF.2.1 dX4_isPlaced_230 rfl (lv_at hl 0 rfl) ?_
                  refine z_get hF hK hP (k := 0) (C := RX4) (T := TX4) (N := 22) (by omega) (rfl) rfl uin_X4 18 (by decide) mw_438 (v := .ref (h (14))) rfl dX4_isPlaced_231 ?_
                  refine lv_iload_n hF.1 hF.2.1 dX4_isPlaced_234 rfl (lv_at hl 3 rfl) ?_
                  refine z_iald hF hK hP (k := 14) (by decide) rfl 0 rfl (i := (j : Int)) (j) (rfl) (by omega) (by decide) (x := iz (τ 17 j)) rfl dX4_isPlaced_235 ?_
                  have q_26 := GI_17 hG (j)
                  refine zi_icmp_gt (tgt := 243) hF.1 hF.2.1 (a := (τ 8 k) + (τ 9 k)) (b := τ 17 j) dX4_isPlaced_236 (by decide) (by omega) (by omega) (fun c_236 => ?_) (fun c_236 => ?_)
                  · skip
                    refine zi_const hF.1 hF.2.1 dX4_isPlaced_243 ?_
                    have nv_27 : (((0)) = b2i (mCs τ k j)) := (by first | exact (b2i_t (by unfold mCs; omega)).symm | exact (b2i_f (by unfold mCs; omega)).symm)
                    exact jn_244 (0) nv_27 _ _ _ hP hS (lv_sub hl [0, 1, 2, 3] rfl)
                  · skip
                    refine zi_const hF.1 hF.2.1 dX4_isPlaced_239 ?_
                    refine lv_goto (tgt := 244) hF.1 hF.2.1 dX4_isPlaced_240 (by decide) ?_
                    have nv_28 : (((1)) = b2i (mCs τ k j)) := (by first | exact (b2i_t (by unfold mCs; omega)).symm | exact (b2i_f (by unfold mCs; omega)).symm)
                    exact jn_244 (1) nv_28 _ _ _ hP hS (lv_sub hl [0, 1, 2, 3] rfl)
      · skip
        refine z_join (n := 17) (h := h) (D := D) (A := A) (V := Int) (tgt := 112) (nL := 5) (wd := fun v_29 => mC c h (τ) (κ)) (lv := fun v_29 => [(0, .ref (h (0))), (1, .int (iz (b2i (((∀ a, a < k → mP τ a) ∧ mA τ k) ∧ ∀ b, b < j → mB τ k b)))), (2, .int (iz ((k : Int)))), (3, .int (iz ((j : Int))))]) (stk := fun v_29 => [.int (iz (v_29))]) (inv := fun v_29 => (v_29 = b2i (mN τ k j))) ?_ (fun jn_112 => ?_)
        · skip
          intro v hv H locs ls hP hS hl
          have hP : zB 17 h D (mC c h (τ) (κ)) H := hP
          have hl : lv_has ls 5 [(0, .ref (h (0))), (1, .int (iz (b2i (((∀ a, a < k → mP τ a) ∧ mA τ k) ∧ ∀ b, b < j → mB τ k b)))), (2, .int (iz ((k : Int)))), (3, .int (iz ((j : Int))))] := hl
          have hvq : v = b2i (mN τ k j) := hv
          obtain rfl : v = b2i (mN τ k j) := hvq
          refine lv_istore (lv' := [(4, .int (iz (b2i (mN τ k j)))), (0, .ref (h (0))), (1, .int (iz (b2i (((∀ a, a < k → mP τ a) ∧ mA τ k) ∧ ∀ b, b < j → mB τ k b)))), (2, .int (iz ((k : Int)))), (3, .int (iz ((j : Int))))]) hF.1 hF.2.1 dX4_isPlaced_112 hl (by decide) rfl (fun ls hl => ?_)
          refine lv_iload_n hF.1 hF.2.1 dX4_isPlaced_114 rfl (lv_at hl 2 rfl) ?_
          refine z_join (n := 17) (h := h) (D := D) (A := A) (V := Int) (tgt := 159) (nL := 5) (wd := fun v_30 => mC c h (τ) (κ)) (lv := fun v_30 => [(0, .ref (h (0))), (1, .int (iz (b2i (((∀ a, a < k → mP τ a) ∧ mA τ k) ∧ ∀ b, b < j → mB τ k b)))), (2, .int (iz ((k : Int)))), (3, .int (iz ((j : Int))))]) (stk := fun v_30 => [.int (iz (v_30)), .int (iz (b2i (((∀ a, a < k → mP τ a) ∧ mA τ k) ∧ ∀ b, b < j → mB τ k b)))]) (inv := fun v_30 => (v_30 = b2i (mB τ k j))) ?_ (fun jn_159 => ?_)
          · skip
            intro v hv H locs ls hP hS hl
            have hP : zB 17 h D (mC c h (τ) (κ)) H := hP
            have hl : lv_has ls 5 [(0, .ref (h (0))), (1, .int (iz (b2i (((∀ a, a < k → mP τ a) ∧ mA τ k) ∧ ∀ b, b < j → mB τ k b)))), (2, .int (iz ((k : Int)))), (3, .int (iz ((j : Int))))] := hl
            have hvq : v = b2i (mB τ k j) := hv
            obtain rfl : v = b2i (mB τ k j) := hvq
            refine zi_andb hF.1 hF.2.1 (P := ((∀ a, a < k → mP τ a) ∧ mA τ k) ∧ ∀ b, b < j → mB τ k b) (P' := mB τ k j) dX4_isPlaced_159 ?_
            refine lv_istore_n (lv' := [(1, .int (iz (b2i ((((∀ a, a < k → mP τ a) ∧ mA τ k) ∧ ∀ b, b < j → mB τ k b) ∧ (mB τ k j))))), (0, .ref (h (0))), (2, .int (iz ((k : Int)))), (3, .int (iz ((j : Int))))]) hF.1 hF.2.1 dX4_isPlaced_160 rfl hl (by decide) rfl (fun ls hl => ?_)
            refine lv_iinc (v := iz (((j + 1 : Nat) : Int))) (lv' := [(3, .int (iz (((j + 1 : Nat) : Int)))), (1, .int (iz (b2i ((((∀ a, a < k → mP τ a) ∧ mA τ k) ∧ ∀ b, b < j → mB τ k b) ∧ (mB τ k j))))), (0, .ref (h (0))), (2, .int (iz ((k : Int))))]) hF.1 hF.2.1 dX4_isPlaced_161 hl (k := 3) rfl ((iz_add _ _).trans (congrArg iz (by omega))) (by decide) rfl (fun ls hl => ?_)
            refine lv_goto (tgt := 48) hF.1 hF.2.1 dX4_isPlaced_164 (by decide) ?_
            have e_31 : b2i ((((∀ a, a < k → mP τ a) ∧ mA τ k) ∧ ∀ b, b < j → mB τ k b) ∧ (mB τ k j)) = b2i (((∀ a, a < k → mP τ a) ∧ mA τ k) ∧ ∀ b, b < (j + 1) → mB τ k b) := b2i_iff (and_all_s)
            have hl : lv_has ls 5 [(3, .int (iz (((j + 1 : Nat) : Int)))), (1, .int (iz (b2i (((∀ a, a < k → mP τ a) ∧ mA τ k) ∧ ∀ b, b < (j + 1) → mB τ k b)))), (0, .ref (h (0))), (2, .int (iz ((k : Int))))] := by rw [← e_31]; exact hl
            have nv_32 : (((j + 1)) ≤ 17) := (by omega)
            exact ih_48 (j + 1) nv_32 (by show 18 - ((j + 1)) < 18 - j; omega) _ _ _ hP hS (lv_sub hl [2, 1, 3, 0] rfl)
          · skip
            refine lv_iload hF.1 hF.2.1 dX4_isPlaced_115 (lv_at hl 0 rfl) ?_
            refine zi_ifb_eq (tgt := 154) hF.1 hF.2.1 (P := mN τ k j) dX4_isPlaced_117 (by decide) (fun c_117 => ?_) (fun c_117 => ?_)
            · skip
              refine zi_const hF.1 hF.2.1 dX4_isPlaced_154 ?_
              refine lv_goto (tgt := 159) hF.1 hF.2.1 dX4_isPlaced_155 (by decide) ?_
              have nv_33 : (((1)) = b2i (mB τ k j)) := (by first | exact (b2i_t (Or.inl c_117)).symm | exact (b2i_t (Or.inr (by omega))).symm | exact (b2i_f (by rintro (q | q); exact q c_117; omega)).symm)
              exact jn_159 (1) nv_33 _ _ _ hP hS (lv_sub hl [1, 2, 3, 4] rfl)
            · skip
              refine lv_aload_n hF.1 hF.2.1 dX4_isPlaced_120 rfl (lv_at hl 1 rfl) ?_
              refine z_get hF hK hP (k := 0) (C := RX4) (T := TX4) (N := 22) (by omega) (rfl) rfl uin_X4 7 (by decide) mw_429 (v := .ref (h (6))) rfl dX4_isPlaced_121 ?_
              refine lv_iload_n hF.1 hF.2.1 dX4_isPlaced_124 rfl (lv_at hl 4 rfl) ?_
              refine z_iald hF hK hP (k := 6) (by decide) rfl 0 rfl (i := (j : Int)) (j) (rfl) (by omega) (by decide) (x := iz (τ 8 j)) rfl dX4_isPlaced_125 ?_
              have q_34 := GI_8 hG (j)
              refine lv_aload_n hF.1 hF.2.1 dX4_isPlaced_126 rfl (lv_at hl 1 rfl) ?_
              refine z_get hF hK hP (k := 0) (C := RX4) (T := TX4) (N := 22) (by omega) (rfl) rfl uin_X4 7 (by decide) mw_429 (v := .ref (h (6))) rfl dX4_isPlaced_127 ?_
              refine lv_iload_n hF.1 hF.2.1 dX4_isPlaced_130 rfl (lv_at hl 3 rfl) ?_
              refine z_iald hF hK hP (k := 6) (by decide) rfl 0 rfl (i := (k : Int)) (k) (rfl) (by omega) (by decide) (x := iz (τ 8 k)) rfl dX4_isPlaced_131 ?_
              have q_35 := GI_8 hG (k)
              refine lv_aload_n hF.1 hF.2.1 dX4_isPlaced_132 rfl (lv_at hl 1 rfl) ?_
              refine z_get hF hK hP (k := 0) (C := RX4) (T := TX4) (N := 22) (by omega) (rfl) rfl uin_X4 8 (by decide) mw_430 (v := .ref (h (7))) rfl dX4_isPlaced_133 ?_
              refine lv_iload_n hF.1 hF.2.1 dX4_isPlaced_136 rfl (lv_at hl 3 rfl) ?_
              refine z_iald hF hK hP (k := 7) (by decide) rfl 0 rfl (i := (k : Int)) (k) (rfl) (by omega) (by decide) (x := iz (τ 9 k)) rfl dX4_isPlaced_137 ?_
              have q_36 := GI_9 hG (k)
              refine zi_add hF.1 hF.2.1 dX4_isPlaced_138 ?_
              refine lv_aload_n hF.1 hF.2.1 dX4_isPlaced_139 rfl (lv_at hl 1 rfl) ?_
              refine z_get hF hK hP (k := 0) (C := RX4) (T := TX4) (N := 22) (by omega) (rfl) rfl uin_X4 2 (by decide) mw_425 (v := .ref (h (2))) rfl dX4_isPlaced_140 ?_
              refine lv_aload_n hF.1 hF.2.1 dX4_isPlaced_143 rfl (lv_at hl 1 rfl) ?_
              refine z_get hF hK hP (k := 0) (C := RX4) (T := TX4) (N := 22) (by omega) (rfl) rfl uin_X4 6 (by decide) mw_428 (v := .ref (h (5))) rfl dX4_isPlaced_144 ?_
              refine lv_iload_n hF.1 hF.2.1 dX4_isPlaced_147 rfl (lv_at hl 3 rfl) ?_
              refine z_iald hF hK hP (k := 5) (by decide) rfl 0 rfl (i := (k : Int)) (k) (rfl) (by omega) (by decide) (x := iz (τ 7 k)) rfl dX4_isPlaced_148 ?_
              have q_37 := GI_7 hG (k)
              refine z_iald hF hK hP (k := 2) (by decide) rfl 0 rfl (i := τ 7 k) ((τ 7 k).toNat) ((Int.toNat_of_nonneg (by omega)).symm) (by omega) (by decide) (x := iz ((τ) 2 ((τ 7 k).toNat))) rfl dX4_isPlaced_149 ?_
              have q_38 := GI_2 hG ((τ 7 k).toNat)
              refine zi_add hF.1 hF.2.1 dX4_isPlaced_150 ?_
              refine zi_icmp_lt (tgt := 158) hF.1 hF.2.1 (a := τ 8 j) (b := ((τ 8 k) + (τ 9 k)) + ((τ) 2 ((τ 7 k).toNat))) dX4_isPlaced_151 (by decide) (by omega) (by omega) (fun c_151 => ?_) (fun c_151 => ?_)
              · skip
                refine zi_const hF.1 hF.2.1 dX4_isPlaced_158 ?_
                have nv_39 : (((0)) = b2i (mB τ k j)) := (by first | exact (b2i_t (Or.inl c_117)).symm | exact (b2i_t (Or.inr (by omega))).symm | exact (b2i_f (by rintro (q | q); exact q c_117; omega)).symm)
                exact jn_159 (0) nv_39 _ _ _ hP hS (lv_sub hl [1, 2, 3, 4] rfl)
              · skip
                refine zi_const hF.1 hF.2.1 dX4_isPlaced_154 ?_
                refine lv_goto (tgt := 159) hF.1 hF.2.1 dX4_isPlaced_155 (by decide) ?_
                have nv_40 : (((1)) = b2i (mB τ k j)) := (by first | exact (b2i_t (Or.inl c_117)).symm | exact (b2i_t (Or.inr (by omega))).symm | exact (b2i_f (by rintro (q | q); exact q c_117; omega)).symm)
                exact jn_159 (1) nv_40 _ _ _ hP hS (lv_sub hl [1, 2, 3, 4] rfl)
        · skip
          refine lv_iload_n hF.1 hF.2.1 dX4_isPlaced_54 rfl (lv_at hl 3 rfl) ?_
          refine lv_iload_n hF.1 hF.2.1 dX4_isPlaced_55 rfl (lv_at hl 2 rfl) ?_
          refine zi_icmp_eq (tgt := 111) hF.1 hF.2.1 (a := (j : Int)) (b := (k : Int)) dX4_isPlaced_56 (by decide) (by omega) (by omega) (fun c_56 => ?_) (fun c_56 => ?_)
          · skip
            refine zi_const hF.1 hF.2.1 dX4_isPlaced_111 ?_
            have nv_41 : (((0)) = b2i (mN τ k j)) := (by first | exact (b2i_t (by unfold mN; omega)).symm | exact (b2i_f (by unfold mN; omega)).symm)
            exact jn_112 (0) nv_41 _ _ _ hP hS (lv_sub hl [0, 1, 2, 3] rfl)
          · skip
            refine lv_aload_n hF.1 hF.2.1 dX4_isPlaced_59 rfl (lv_at hl 0 rfl) ?_
            refine z_get hF hK hP (k := 0) (C := RX4) (T := TX4) (N := 22) (by omega) (rfl) rfl uin_X4 13 (by decide) mw_436 (v := .ref (h (12))) rfl dX4_isPlaced_60 ?_
            refine lv_iload_n hF.1 hF.2.1 dX4_isPlaced_63 rfl (lv_at hl 2 rfl) ?_
            refine z_zald hF hK hP (k := 12) (by decide) rfl 4 rfl (i := (k : Int)) (k) (rfl) (by omega) (by decide) (x := iz (τ 14 k)) rfl dX4_isPlaced_64 ?_
            have q_42 := GI_14 hG (k)
            refine zi_if_eq (tgt := 111) hF.1 hF.2.1 (a := τ 14 k) dX4_isPlaced_65 (by decide) (by omega) (fun c_65 => ?_) (fun c_65 => ?_)
            · skip
              refine zi_const hF.1 hF.2.1 dX4_isPlaced_111 ?_
              have nv_43 : (((0)) = b2i (mN τ k j)) := (by first | exact (b2i_t (by unfold mN; omega)).symm | exact (b2i_f (by unfold mN; omega)).symm)
              exact jn_112 (0) nv_43 _ _ _ hP hS (lv_sub hl [0, 1, 2, 3] rfl)
            · skip
              refine lv_aload_n hF.1 hF.2.1 dX4_isPlaced_68 rfl (lv_at hl 0 rfl) ?_
              refine z_get hF hK hP (k := 0) (C := RX4) (T := TX4) (N := 22) (by omega) (rfl) rfl uin_X4 13 (by decide) mw_436 (v := .ref (h (12))) rfl dX4_isPlaced_69 ?_
              refine lv_iload_n hF.1 hF.2.1 dX4_isPlaced_72 rfl (lv_at hl 3 rfl) ?_
              refine z_zald hF hK hP (k := 12) (by decide) rfl 4 rfl (i := (j : Int)) (j) (rfl) (by omega) (by decide) (x := iz (τ 14 j)) rfl dX4_isPlaced_73 ?_
              have q_44 := GI_14 hG (j)
              refine zi_if_eq (tgt := 111) hF.1 hF.2.1 (a := τ 14 j) dX4_isPlaced_74 (by decide) (by omega) (fun c_74 => ?_) (fun c_74 => ?_)
              · skip
                refine zi_const hF.1 hF.2.1 dX4_isPlaced_111 ?_
                have nv_45 : (((0)) = b2i (mN τ k j)) := (by first | exact (b2i_t (by unfold mN; omega)).symm | exact (b2i_f (by unfold mN; omega)).symm)
                exact jn_112 (0) nv_45 _ _ _ hP hS (lv_sub hl [0, 1, 2, 3] rfl)
              · skip
                refine lv_aload_n hF.1 hF.2.1 dX4_isPlaced_77 rfl (lv_at hl 0 rfl) ?_
                refine z_get hF hK hP (k := 0) (C := RX4) (T := TX4) (N := 22) (by omega) (rfl) rfl uin_X4 6 (by decide) mw_428 (v := .ref (h (5))) rfl dX4_isPlaced_78 ?_
                refine lv_iload_n hF.1 hF.2.1 dX4_isPlaced_81 rfl (lv_at hl 3 rfl) ?_
                refine z_iald hF hK hP (k := 5) (by decide) rfl 0 rfl (i := (j : Int)) (j) (rfl) (by omega) (by decide) (x := iz (τ 7 j)) rfl dX4_isPlaced_82 ?_
                have q_46 := GI_7 hG (j)
                refine lv_aload_n hF.1 hF.2.1 dX4_isPlaced_83 rfl (lv_at hl 0 rfl) ?_
                refine z_get hF hK hP (k := 0) (C := RX4) (T := TX4) (N := 22) (by omega) (rfl) rfl uin_X4 6 (by decide) mw_428 (v := .ref (h (5))) rfl dX4_isPlaced_84 ?_
                refine lv_iload_n hF.1 hF.2.1 dX4_isPlaced_87 rfl (lv_at hl 2 rfl) ?_
                refine z_iald hF hK hP (k := 5) (by decide) rfl 0 rfl (i := (k : Int)) (k) (rfl) (by omega) (by decide) (x := iz (τ 7 k)) rfl dX4_isPlaced_88 ?_
                have q_47 := GI_7 hG (k)
                refine zi_icmp_ne (tgt := 111) hF.1 hF.2.1 (a := τ 7 j) (b := τ 7 k) dX4_isPlaced_89 (by decide) (by omega) (by omega) (fun c_89 => ?_) (fun c_89 => ?_)
                · skip
                  refine zi_const hF.1 hF.2.1 dX4_isPlaced_111 ?_
                  have nv_48 : (((0)) = b2i (mN τ k j)) := (by first | exact (b2i_t (by unfold mN; omega)).symm | exact (b2i_f (by unfold mN; omega)).symm)
                  exact jn_112 (0) nv_48 _ _ _ hP hS (lv_sub hl [0, 1, 2, 3] rfl)
                · skip
                  refine lv_aload_n hF.1 hF.2.1 dX4_isPlaced_92 rfl (lv_at hl 0 rfl) ?_
                  refine z_get hF hK hP (k := 0) (C := RX4) (T := TX4) (N := 22) (by omega) (rfl) rfl uin_X4 7 (by decide) mw_429 (v := .ref (h (6))) rfl dX4_isPlaced_93 ?_
                  refine lv_iload_n hF.1 hF.2.1 dX4_isPlaced_96 rfl (lv_at hl 3 rfl) ?_
                  refine z_iald hF hK hP (k := 6) (by decide) rfl 0 rfl (i := (j : Int)) (j) (rfl) (by omega) (by decide) (x := iz (τ 8 j)) rfl dX4_isPlaced_97 ?_
                  have q_49 := GI_8 hG (j)
                  refine lv_aload_n hF.1 hF.2.1 dX4_isPlaced_98 rfl (lv_at hl 0 rfl) ?_
                  refine z_get hF hK hP (k := 0) (C := RX4) (T := TX4) (N := 22) (by omega) (rfl) rfl uin_X4 7 (by decide) mw_429 (v := .ref (h (6))) rfl dX4_isPlaced_99 ?_
                  refine lv_iload_n hF.1 hF.2.1 dX4_isPlaced_102 rfl (lv_at hl 2 rfl) ?_
                  refine z_iald hF hK hP (k := 6) (by decide) rfl 0 rfl (i := (k : Int)) (k) (rfl) (by omega) (by decide) (x := iz (τ 8 k)) rfl dX4_isPlaced_103 ?_
                  have q_50 := GI_8 hG (k)
                  refine zi_icmp_lt (tgt := 111) hF.1 hF.2.1 (a := τ 8 j) (b := τ 8 k) dX4_isPlaced_104 (by decide) (by omega) (by omega) (fun c_104 => ?_) (fun c_104 => ?_)
                  · skip
                    refine zi_const hF.1 hF.2.1 dX4_isPlaced_111 ?_
                    have nv_51 : (((0)) = b2i (mN τ k j)) := (by first | exact (b2i_t (by unfold mN; omega)).symm | exact (b2i_f (by unfold mN; omega)).symm)
                    exact jn_112 (0) nv_51 _ _ _ hP hS (lv_sub hl [0, 1, 2, 3] rfl)
                  · skip
                    refine zi_const hF.1 hF.2.1 dX4_isPlaced_107 ?_
                    refine lv_goto (tgt := 112) hF.1 hF.2.1 dX4_isPlaced_108 (by decide) ?_
                    have nv_52 : (((1)) = b2i (mN τ k j)) := (by first | exact (b2i_t (by unfold mN; omega)).symm | exact (b2i_f (by unfold mN; omega)).symm)
                    exact jn_112 (1) nv_52 _ _ _ hP hS (lv_sub hl [0, 1, 2, 3] rfl)
    · skip
      refine lv_aload_n hF.1 hF.2.1 dX4_isPlaced_11 rfl (lv_at hl 0 rfl) ?_
      refine z_get hF hK hP (k := 0) (C := RX4) (T := TX4) (N := 22) (by omega) (rfl) rfl uin_X4 13 (by decide) mw_436 (v := .ref (h (12))) rfl dX4_isPlaced_12 ?_
      refine lv_iload_n hF.1 hF.2.1 dX4_isPlaced_15 rfl (lv_at hl 2 rfl) ?_
      refine z_zald hF hK hP (k := 12) (by decide) rfl 4 rfl (i := (k : Int)) (k) (rfl) (by omega) (by decide) (x := iz (τ 14 k)) rfl dX4_isPlaced_16 ?_
      have q_53 := GI_14 hG (k)
      refine zi_if_eq (tgt := 39) hF.1 hF.2.1 (a := τ 14 k) dX4_isPlaced_17 (by decide) (by omega) (fun c_17 => ?_) (fun c_17 => ?_)
      · skip
        refine zi_const hF.1 hF.2.1 dX4_isPlaced_39 ?_
        refine lv_goto (tgt := 44) hF.1 hF.2.1 dX4_isPlaced_40 (by decide) ?_
        have nv_54 : (((1)) = b2i (mA τ k)) := (by first | exact (b2i_t (by unfold mA; omega)).symm | exact (b2i_f (by unfold mA; omega)).symm)
        exact jn_44 (1) nv_54 _ _ _ hP hS (lv_sub hl [0, 1, 2] rfl)
      · skip
        refine lv_aload_n hF.1 hF.2.1 dX4_isPlaced_20 rfl (lv_at hl 0 rfl) ?_
        refine z_get hF hK hP (k := 0) (C := RX4) (T := TX4) (N := 22) (by omega) (rfl) rfl uin_X4 7 (by decide) mw_429 (v := .ref (h (6))) rfl dX4_isPlaced_21 ?_
        refine lv_iload_n hF.1 hF.2.1 dX4_isPlaced_24 rfl (lv_at hl 2 rfl) ?_
        refine z_iald hF hK hP (k := 6) (by decide) rfl 0 rfl (i := (k : Int)) (k) (rfl) (by omega) (by decide) (x := iz (τ 8 k)) rfl dX4_isPlaced_25 ?_
        have q_55 := GI_8 hG (k)
        refine lv_aload_n hF.1 hF.2.1 dX4_isPlaced_26 rfl (lv_at hl 0 rfl) ?_
        refine z_get hF hK hP (k := 0) (C := RX4) (T := TX4) (N := 22) (by omega) (rfl) rfl uin_X4 8 (by decide) mw_430 (v := .ref (h (7))) rfl dX4_isPlaced_27 ?_
        refine lv_iload_n hF.1 hF.2.1 dX4_isPlaced_30 rfl (lv_at hl 2 rfl) ?_
        refine z_iald hF hK hP (k := 7) (by decide) rfl 0 rfl (i := (k : Int)) (k) (rfl) (by omega) (by decide) (x := iz (τ 9 k)) rfl dX4_isPlaced_31 ?_
        have q_56 := GI_9 hG (k)
        refine zi_add hF.1 hF.2.1 dX4_isPlaced_32 ?_
        refine zi_sipush hF.1 hF.2.1 dX4_isPlaced_33 (by decide) ?_
        refine zi_icmp_gt (tgt := 43) hF.1 hF.2.1 (a := (τ 8 k) + (τ 9 k)) (b := 1000) dX4_isPlaced_36 (by decide) (by omega) (by omega) (fun c_36 => ?_) (fun c_36 => ?_)
        · skip
          refine zi_const hF.1 hF.2.1 dX4_isPlaced_43 ?_
          have nv_57 : (((0)) = b2i (mA τ k)) := (by first | exact (b2i_t (by unfold mA; omega)).symm | exact (b2i_f (by unfold mA; omega)).symm)
          exact jn_44 (0) nv_57 _ _ _ hP hS (lv_sub hl [0, 1, 2] rfl)
        · skip
          refine zi_const hF.1 hF.2.1 dX4_isPlaced_39 ?_
          refine lv_goto (tgt := 44) hF.1 hF.2.1 dX4_isPlaced_40 (by decide) ?_
          have nv_58 : (((1)) = b2i (mA τ k)) := (by first | exact (b2i_t (by unfold mA; omega)).symm | exact (b2i_f (by unfold mA; omega)).symm)
          exact jn_44 (1) nv_58 _ _ _ hP hS (lv_sub hl [0, 1, 2] rfl)
