set_option maxRecDepth 100000 in
set_option maxHeartbeats 4000000 in
theorem c_X0_end (l : Launch) (h : Nat → Nat) (D : va_G) (c : Nat → ClassId) (σ κ : Nat → Nat → Int) (ω : Nat × (Nat → Int32) × Int32) (hinj : ∀ i j, i < 32 → j < 32 → h i = h j → i = j) (hG : GI σ) (k : Nat) (hk : k < 16) :
    zMi (S := Unit) l yX0_end cX0_end 1 (some .int) 0 0 [.ref (h (k + 11))] 32 h D (gT c) (gC c h (σ) (κ) (ω)) (fun _ => gC c h σ κ ω) (fun z _ => z = σ 8 k + σ 9 k) := by
  refine zM_of (by decide) (Nat.le_of_ble_eq_true rfl) ?_
  intro p e s m below meth cd ls ⟨hF, hr, hlocks, hK⟩ hP hl
  have hz : zD (zA 32 h s.heap.size) 32 h := zD.self hinj s.heap.size
  have hA : ∀ q, s.heap.size ≤ q → zA 32 h s.heap.size q := zA_new
  generalize zA 32 h s.heap.size = A at hz hA ⊢
  have hS : va_S A s.heap s.heap [] := va_S.rf
  have hl : lv_has ls 1 [(0, .ref (h (k + 11)))] := hl
  refine lv_aload_n hF.1 hF.2.1 dX0_end_0 rfl (lv_at hl 0 rfl) ?_
  refine z_get hF hK hP (k := k + 11) (C := RX0) (T := TX0) (N := 9) (by omega) (gC_act (by omega)) rfl uin_X0 1 (by decide) mw_5 (v := .int (iz (σ 8 k))) rfl dX0_end_1 ?_
  have q_1 := GI_8 hG (k)
  refine lv_aload_n hF.1 hF.2.1 dX0_end_4 rfl (lv_at hl 0 rfl) ?_
  refine z_get hF hK hP (k := k + 11) (C := RX0) (T := TX0) (N := 9) (by omega) (gC_act (by omega)) rfl uin_X0 2 (by decide) mw_6 (v := .int (iz (σ 9 k))) rfl dX0_end_5 ?_
  have q_2 := GI_9 hG (k)
  refine zi_add hF.1 hF.2.1 dX0_end_8 ?_
  exact z_reti (P := fun z _ => z = σ 8 k + σ 9 k) (z := (σ 8 k) + (σ 9 k)) (u := ()) (w := fun _ => gC c h σ κ ω) hF hr hlocks hP hS (rfl) (rfl) dX0_end_9

def pl (σ : Nat → Nat → Int) (k : Nat) (mi : Int) : Prop := σ 14 k ≠ 0 ∧ σ 8 k ≤ mi ∧ mi < σ 8 k + σ 9 k

theorem pl_dec_ok : True := trivial

set_option maxRecDepth 100000 in
set_option maxHeartbeats 4000000 in
theorem c_X0_playsAt (l : Launch) (h : Nat → Nat) (D : va_G) (c : Nat → ClassId) (σ κ : Nat → Nat → Int) (ω : Nat × (Nat → Int32) × Int32) (hinj : ∀ i j, i < 32 → j < 32 → h i = h j → i = j) (hG : GI σ) (k : Nat) (hk : k < 16) (mi : Int) (hm : -100 ≤ mi ∧ mi ≤ 5000) :
    zMi (S := Unit) l yX0_playsAt cX0_playsAt 2 (some .boolean) 0 0 [.ref (h (k + 11)), .int (iz (mi))] 32 h D (gT c) (gC c h (σ) (κ) (ω)) (fun _ => gC c h σ κ ω) (fun z _ => z = b2i (pl σ k mi)) := by
  refine zM_of (by decide) (Nat.le_of_ble_eq_true rfl) ?_
  intro p e s m below meth cd ls ⟨hF, hr, hlocks, hK⟩ hP hl
  have hz : zD (zA 32 h s.heap.size) 32 h := zD.self hinj s.heap.size
  have hA : ∀ q, s.heap.size ≤ q → zA 32 h s.heap.size q := zA_new
  generalize zA 32 h s.heap.size = A at hz hA ⊢
  have hS : va_S A s.heap s.heap [] := va_S.rf
  have hl : lv_has ls 2 [(0, .ref (h (k + 11))), (1, .int (iz (mi)))] := hl
  refine lv_aload_n hF.1 hF.2.1 dX0_playsAt_0 rfl (lv_at hl 0 rfl) ?_
  refine z_get hF hK hP (k := k + 11) (C := RX0) (T := TX0) (N := 9) (by omega) (gC_act (by omega)) rfl uin_X0 7 (by decide) mw_8 (v := .int (iz (σ 14 k))) rfl dX0_playsAt_1 ?_
  have q_1 := GI_14 hG (k)
  refine zi_if_eq (tgt := 32) hF.1 hF.2.1 (a := σ 14 k) dX0_playsAt_4 (by decide) (by omega) (fun c_4 => ?_) (fun c_4 => ?_)
  · skip
    refine zi_const hF.1 hF.2.1 dX0_playsAt_32 ?_
    exact z_reti (P := fun z _ => z = b2i (pl σ k mi)) (z := 0) (u := ()) (w := fun _ => gC c h σ κ ω) hF hr hlocks hP hS ((iz_nar_z (by first | omega | exact b2i_rg)).1) (by first | exact (b2i_t (by unfold pl; omega)).symm | exact (b2i_f (by unfold pl; omega)).symm) dX0_playsAt_33
  · skip
    refine lv_iload_n hF.1 hF.2.1 dX0_playsAt_7 rfl (lv_at hl 1 rfl) ?_
    refine lv_aload_n hF.1 hF.2.1 dX0_playsAt_8 rfl (lv_at hl 0 rfl) ?_
    refine z_get hF hK hP (k := k + 11) (C := RX0) (T := TX0) (N := 9) (by omega) (gC_act (by omega)) rfl uin_X0 1 (by decide) mw_5 (v := .int (iz (σ 8 k))) rfl dX0_playsAt_9 ?_
    have q_2 := GI_8 hG (k)
    refine zi_icmp_lt (tgt := 32) hF.1 hF.2.1 (a := mi) (b := σ 8 k) dX0_playsAt_12 (by decide) (by omega) (by omega) (fun c_12 => ?_) (fun c_12 => ?_)
    · skip
      refine zi_const hF.1 hF.2.1 dX0_playsAt_32 ?_
      exact z_reti (P := fun z _ => z = b2i (pl σ k mi)) (z := 0) (u := ()) (w := fun _ => gC c h σ κ ω) hF hr hlocks hP hS ((iz_nar_z (by first | omega | exact b2i_rg)).1) (by first | exact (b2i_t (by unfold pl; omega)).symm | exact (b2i_f (by unfold pl; omega)).symm) dX0_playsAt_33
    · skip
      refine lv_iload_n hF.1 hF.2.1 dX0_playsAt_15 rfl (lv_at hl 1 rfl) ?_
      refine lv_aload_n hF.1 hF.2.1 dX0_playsAt_16 rfl (lv_at hl 0 rfl) ?_
      refine z_get hF hK hP (k := k + 11) (C := RX0) (T := TX0) (N := 9) (by omega) (gC_act (by omega)) rfl uin_X0 1 (by decide) mw_5 (v := .int (iz (σ 8 k))) rfl dX0_playsAt_17 ?_
      have q_3 := GI_8 hG (k)
      refine lv_aload_n hF.1 hF.2.1 dX0_playsAt_20 rfl (lv_at hl 0 rfl) ?_
      refine z_get hF hK hP (k := k + 11) (C := RX0) (T := TX0) (N := 9) (by omega) (gC_act (by omega)) rfl uin_X0 2 (by decide) mw_6 (v := .int (iz (σ 9 k))) rfl dX0_playsAt_21 ?_
      have q_4 := GI_9 hG (k)
      refine zi_add hF.1 hF.2.1 dX0_playsAt_24 ?_
      refine zi_icmp_ge (tgt := 32) hF.1 hF.2.1 (a := mi) (b := (σ 8 k) + (σ 9 k)) dX0_playsAt_25 (by decide) (by omega) (by omega) (fun c_25 => ?_) (fun c_25 => ?_)
      · skip
        refine zi_const hF.1 hF.2.1 dX0_playsAt_32 ?_
        exact z_reti (P := fun z _ => z = b2i (pl σ k mi)) (z := 0) (u := ()) (w := fun _ => gC c h σ κ ω) hF hr hlocks hP hS ((iz_nar_z (by first | omega | exact b2i_rg)).1) (by first | exact (b2i_t (by unfold pl; omega)).symm | exact (b2i_f (by unfold pl; omega)).symm) dX0_playsAt_33
      · skip
        refine zi_const hF.1 hF.2.1 dX0_playsAt_28 ?_
        refine lv_goto (tgt := 33) hF.1 hF.2.1 dX0_playsAt_29 (by decide) ?_
        exact z_reti (P := fun z _ => z = b2i (pl σ k mi)) (z := 1) (u := ()) (w := fun _ => gC c h σ κ ω) hF hr hlocks hP hS ((iz_nar_z (by first | omega | exact b2i_rg)).1) (by first | exact (b2i_t (by unfold pl; omega)).symm | exact (b2i_f (by unfold pl; omega)).symm) dX0_playsAt_33
