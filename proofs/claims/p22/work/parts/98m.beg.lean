/-! the law's walk from its entry to its loop's head -/
set_option maxRecDepth 100000 in
set_option maxHeartbeats 4000000 in
theorem whole_start {p : Program} {e : Env} {s : State} {m : MethodId} {below : List Frame} {meth : Method} {c : Code} (l : Launch) (hflags : l.flags = flags0) {b L : Nat} {xs : Nat → Int32} (hL : L ≤ 260) (C0 : lw_At p s m meth c b L xs) : W p l e room_1 s m #[Value.ref b] below meth c s.heap [] 0 0 (lw_Z below #[Value.ref b] s) (entryFrame m ([Value.ref b] : List Value).toArray 7) := by
  obtain ⟨hx0, hb, hr, hml, hown, hts, hXs, hbl, hlocks, hgv⟩ := id C0
  have hst : l.stackTraces = false := by unfold Launch.stackTraces; rw [hflags]; rfl
  have hn := flat_of_before _ hgv
  have hA0 : ∀ a : Nat, a < s.heap.size → ¬ (fun q : Nat => s.heap.size ≤ q) a := fun a h => Nat.not_le.mpr h
  have hF : CallFix p m c cL_law 7 s #[Value.ref b] UW RL := ⟨hx0, hb, hml, hown, UW_all hts⟩
  obtain ⟨D, cA, hK⟩ := zK_start hts
  have hX : zX (fun q : Nat => s.heap.size ≤ q) s s.heap := zX_start hts hn hA0
  have hN : zNcs s := zNc_start hn
  have hAO : zAO (fun q : Nat => s.heap.size ≤ q) s s.heap := ⟨va_AO.of (hts (.arrayOver (.object RX0)) (by decide +kernel)), va_AO.of (hts (.arrayOver (.object RX1)) (by decide +kernel))⟩
  have hA : ∀ q : Nat, s.heap.size ≤ q → (fun q : Nat => s.heap.size ≤ q) q := fun _ h => h
  rw [lg_entry_eq]
  have hl := lv_entry ([.ref b]) (n := 7) (Nat.le_of_ble_eq_true rfl)
  generalize (lg_sl ([.ref b]) ++ List.replicate (7 - (lg_sl ([.ref b])).length) Slot.unset).toArray = ls at hl ⊢
  have hl : lv_has ls 7 [(0, .ref b)] := hl
  have hlw : ∀ (h : Nat → Nat), CX p m c cL_law 7 s #[Value.ref b] h D cA (fun q : Nat => s.heap.size ≤ q) → ∀ (σ κ : Nat → Nat → Int) (ω : Nat × (Nat → Int32) × Int32) (H : Heap) (locs : List Loc) (ls : Array Slot), INS σ → WL ω [] → σ 0 1 = 0 → zB 32 h D (gC cA h σ κ ω) H → va_S (fun q : Nat => s.heap.size ≤ q) s.heap H locs → lv_has ls 7 [(3, .int (iz 0)), (2, .int (iz 0)), (1, .ref (h 0)), (0, .ref b)] → W p l e room_1 s m #[Value.ref b] below meth c H locs 7653 45975 (lw_Z below #[Value.ref b] s) (F0 m 43 ls []) := fun h hC σ κ ω H locs ls hI hW h0 hP hS hl => by
    refine (lw_loop l hst hC hr hlocks hXs hbl hL 16 0 rfl σ κ ω H locs ls hI hW (by omega) hP hS ?_).wide (by decide) (by decide)
    rw [h0]
    exact hl
  generalize (fun q : Nat => s.heap.size ≤ q) = A at hA hX hAO hlw
  have hS : va_S A s.heap s.heap [] := va_S.rf
  have hz : zD A 0 (fun _ => 0) := ⟨fun i j h => absurd h (Nat.not_lt_zero _), fun k h => absurd h (Nat.not_lt_zero _)⟩
  have hP : ∀ H : Heap, zB 0 (fun _ => 0) D (fun _ => .inr (0, [])) H := fun H k q hk => absurd (wN_lt hk).1 (Nat.not_lt_zero _)
  refine z_ciK (S := Unit) (n := 0) (h := fun _ => 0) (D := D) (w := fun _ _ => .inr (0, [])) (P := fun z _ => z = 1) (mc := 3159) (ms := 6 * 3159) (z_rS (na := 0) (rm := { frames := 14, cells := 3159, slots := 6 * 3159, locals := 300 }) hF (z_preE zNA_st hK hX ⟨hN, hAO⟩ hz hA (hP _) hS) (c_L_grid l D cA hst _) mp_55 mp_56 mp_25 mp_52 rfl rfl ⟨by decide, by decide, rfl⟩ ⟨Nat.le_of_ble_eq_true rfl, Nat.le_of_ble_eq_true rfl⟩ (As := []) (rest := []) rfl hl.1 rfl (Nat.le_of_ble_eq_true rfl) dL_law_0 ⟨Nat.le_of_ble_eq_true rfl, Nat.le_of_ble_eq_true rfl⟩) hz hA hS (fun z1 u1 H locs h1 hP1 hS => ?_)
  have h1 : z1 = 1 := h1
  subst h1
  refine zi_if_eq (tgt := 18) hF.1 hF.2.1 dL_law_3 (by decide) (by decide) (fun q => absurd q (by decide)) (fun _ => ?_)
  refine z_ciK (S := Unit) (n := 0) (h := fun _ => 0) (D := D) (w := fun _ _ => .inr (0, [])) (P := fun z _ => z = 1) (mc := 1271) (ms := 6 * 1271) (z_rS (na := 0) (rm := { frames := 14, cells := 1271, slots := 6 * 1271, locals := 300 }) hF (z_preE zNA_st hK hX ⟨hN, hAO⟩ hz hA (hP _) hS) (c_L_sounds l D cA hst _) mp_57 mp_58 mp_25 mp_53 rfl rfl ⟨by decide, by decide, rfl⟩ ⟨Nat.le_of_ble_eq_true rfl, Nat.le_of_ble_eq_true rfl⟩ (As := []) (rest := []) rfl hl.1 rfl (Nat.le_of_ble_eq_true rfl) dL_law_6 ⟨Nat.le_of_ble_eq_true rfl, Nat.le_of_ble_eq_true rfl⟩) hz hA hS (fun z1 u1 H locs h1 hP1 hS => ?_)
  have h1 : z1 = 1 := h1
  subst h1
  refine zi_if_eq (tgt := 18) hF.1 hF.2.1 dL_law_9 (by decide) (by decide) (fun q => absurd q (by decide)) (fun _ => ?_)
  refine z_ciK (S := Unit) (n := 0) (h := fun _ => 0) (D := D) (w := fun _ _ => .inr (0, [])) (P := fun z _ => z = 1) (mc := 3189) (ms := 6 * 3189) (z_rS (na := 0) (rm := { frames := 14, cells := 3189, slots := 6 * 3189, locals := 300 }) hF (z_preE zNA_st hK hX ⟨hN, hAO⟩ hz hA (hP _) hS) (c_L_storms l D cA hst _) mp_59 mp_60 mp_25 mp_54 rfl rfl ⟨by decide, by decide, rfl⟩ ⟨Nat.le_of_ble_eq_true rfl, Nat.le_of_ble_eq_true rfl⟩ (As := []) (rest := []) rfl hl.1 rfl (Nat.le_of_ble_eq_true rfl) dL_law_12 ⟨Nat.le_of_ble_eq_true rfl, Nat.le_of_ble_eq_true rfl⟩) hz hA hS (fun z1 u1 H locs h1 hP1 hS => ?_)
  have h1 : z1 = 1 := h1
  subst h1
  refine zi_if_ne (tgt := 20) hF.1 hF.2.1 dL_law_15 (by decide) (by decide) (fun _ => ?_) (fun q => absurd q (by decide))
  refine mk_obj hF hK hX hN hAO hA hS dL_law_20 dL_law_23 dL_law_24 hl.1 ⟨Nat.le_of_ble_eq_true rfl, Nat.le_of_ble_eq_true rfl⟩ ⟨Nat.le_of_ble_eq_true rfl, Nat.le_of_ble_eq_true rfl⟩ (fun h κ H locs hC hW => ?_)
  refine lv_astore_n (lv' := [(1, .ref (h 0)), (0, .ref b)]) hC.1.1 hC.1.2.1 dL_law_27 rfl hl (by decide) rfl (fun ls hl => ?_)
  refine lv_aload_n hC.1.1 hC.1.2.1 dL_law_28 rfl (lv_at hl 0 rfl) ?_
  refine zi_const hC.1.1 hC.1.2.1 dL_law_29 ?_
  refine d_startSet hst hC hW (v := 1) (d' := gtd1) (by decide) (by decide +kernel) (by decide +kernel) (deq_eq (by decide +kernel)) dL_law_30 hl.1 (Nat.le_of_ble_eq_true rfl) ⟨Nat.le_of_ble_eq_true rfl, Nat.le_of_ble_eq_true rfl⟩ ⟨Nat.le_of_ble_eq_true rfl, Nat.le_of_ble_eq_true rfl⟩ (fun σ κ ω H locs hW => ?_)
  refine zi_const hC.1.1 hC.1.2.1 dL_law_33 ?_
  refine zi_icmp_eq (tgt := 39) hC.1.1 hC.1.2.1 dL_law_34 (by decide) (by decide) (by decide) (fun _ => ?_) (fun q => absurd rfl q)
  refine zi_const hC.1.1 hC.1.2.1 dL_law_39 ?_
  refine lv_istore_n (lv' := [(2, .int (iz 0)), (1, .ref (h 0)), (0, .ref b)]) hC.1.1 hC.1.2.1 dL_law_40 rfl hl (by decide) rfl (fun ls hl => ?_)
  refine zi_const hC.1.1 hC.1.2.1 dL_law_41 ?_
  refine lv_istore_n (lv' := [(3, .int (iz 0)), (2, .int (iz 0)), (1, .ref (h 0)), (0, .ref b)]) hC.1.1 hC.1.2.1 dL_law_42 rfl hl (by decide) rfl (fun ls hl => ?_)
  exact (hlw h hC σ κ ω H locs ls (INS_ev hW.2.2.1 (by decide +kernel) (by decide +kernel) (by decide +kernel) (by decide +kernel) (by decide +kernel)) hW.2.2.2 ((ES_na0 hW.2.2.1).trans rfl) hW.1 hW.2.1 hl).wide (Nat.le_of_ble_eq_true rfl) (Nat.le_of_ble_eq_true rfl)
