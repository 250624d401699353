/-! has, types; the helpers over a state as data -/
set_option maxHeartbeats 1000000 in
theorem c_L_has (l : Launch) (h : Nat → Nat) (D : va_G) (c : Nat → ClassId) (σ κ : Nat → Nat → Int) (ω : Nat × (Nat → Int32) × Int32) (d : Da) (L : List Int) (hinj : ∀ i j, i < 32 → j < 32 → h i = h j → i = j) (hE : ES σ d) (hL : WL ω L) (a dr lo ch : Int) (ha : -2147483648 ≤ a ∧ a ≤ 2147483647) (h0 : tO d a 0 = 0 ∧ tO d a 1 = 0 ∧ tO d a 2 = 0) (h1 : (ga d.2.2.2.2.1 a.toNat).2.2.2.2.1 = dr) (h2 : (ga d.2.2.2.2.1 a.toNat).2.2.2.2.2.1 = lo) (h3 : (ga d.2.2.2.2.1 a.toNat).2.2.2.2.2.2.1 = ch) (hst : l.stackTraces = false) :
    ∀ sz, Met l yL_has (Cond.code yL_has cL_has 5 (some .boolean) :: UW) { frames := 8, cells := 6, slots := 6 * 6, locals := 125 } (zPE zNCx [.ref (h 0), .int (iz a), .int (iz dr), .int (iz lo), .int (iz ch)] 32 h D (gT c) sz (gC c h σ κ ω)) (va_Qi (fun r (u : Int × S3) => r = iz u.1 ∧ u.1 = 1 ∧ ES u.2.1 d ∧ WL u.2.2.2 L) (fun u t => zB 32 h D (gS c h u.2) t.heap) (zA 32 h sz)) 6 (6 * 6) (zA 32 h sz) := by
  refine zGM_of (by decide) rfl (Nat.le_of_ble_eq_true rfl) hinj ?_
  intro p e s m below meth cd ls hC hr hlocks hP hl
  generalize zA 32 h s.heap.size = A at hC ⊢
  have hS : va_S A s.heap s.heap [] := va_S.rf
  have hW : WS D c h A s σ κ ω d L s.heap [] := ⟨hP, hS, hE, hL⟩
  have hl : lv_has ls 5 [(0, .ref (h 0)), (1, .int (iz a)), (2, .int (iz dr)), (3, .int (iz lo)), (4, .int (iz ch))] := hl
  refine lv_aload_n hC.1.1 hC.1.2.1 dL_has_0 rfl (lv_at hl 0 rfl) ?_
  refine lv_iload_n hC.1.1 hC.1.2.1 dL_has_1 rfl (lv_at hl 1 rfl) ?_
  refine zi_const hC.1.1 hC.1.2.1 dL_has_2 ?_
  refine d_ofAct hst hC hW (v := dr) ha (by decide) h0.1 (by rw [if_pos rfl]; exact h1) dL_has_3 hl.1 (Nat.le_of_ble_eq_true rfl) ⟨(Nat.le_of_ble_eq_true rfl), (Nat.le_of_ble_eq_true rfl)⟩ ⟨(Nat.le_of_ble_eq_true rfl), (Nat.le_of_ble_eq_true rfl)⟩ (fun σ κ ω H locs hW => ?_)
  refine lv_iload_n hC.1.1 hC.1.2.1 dL_has_6 rfl (lv_at hl 2 rfl) ?_
  refine lv_icmp_ne (tgt := 35) hC.1.1 hC.1.2.1 dL_has_7 (by decide) (fun q => absurd rfl q) (fun _ => ?_)
  refine lv_aload_n hC.1.1 hC.1.2.1 dL_has_10 rfl (lv_at hl 0 rfl) ?_
  refine lv_iload_n hC.1.1 hC.1.2.1 dL_has_11 rfl (lv_at hl 1 rfl) ?_
  refine zi_const hC.1.1 hC.1.2.1 dL_has_12 ?_
  refine d_ofAct hst hC hW (v := lo) ha (by decide) h0.2.1 (by rw [if_neg (by decide), if_pos rfl]; exact h2) dL_has_13 hl.1 (Nat.le_of_ble_eq_true rfl) ⟨(Nat.le_of_ble_eq_true rfl), (Nat.le_of_ble_eq_true rfl)⟩ ⟨(Nat.le_of_ble_eq_true rfl), (Nat.le_of_ble_eq_true rfl)⟩ (fun σ κ ω H locs hW => ?_)
  refine lv_iload_n hC.1.1 hC.1.2.1 dL_has_16 rfl (lv_at hl 3 rfl) ?_
  refine lv_icmp_ne (tgt := 35) hC.1.1 hC.1.2.1 dL_has_17 (by decide) (fun q => absurd rfl q) (fun _ => ?_)
  refine lv_aload_n hC.1.1 hC.1.2.1 dL_has_20 rfl (lv_at hl 0 rfl) ?_
  refine lv_iload_n hC.1.1 hC.1.2.1 dL_has_21 rfl (lv_at hl 1 rfl) ?_
  refine zi_const hC.1.1 hC.1.2.1 dL_has_22 ?_
  refine d_ofAct hst hC hW (v := ch) ha (by decide) h0.2.2 (by rw [if_neg (by decide), if_neg (by decide)]; exact h3) dL_has_23 hl.1 (Nat.le_of_ble_eq_true rfl) ⟨(Nat.le_of_ble_eq_true rfl), (Nat.le_of_ble_eq_true rfl)⟩ ⟨(Nat.le_of_ble_eq_true rfl), (Nat.le_of_ble_eq_true rfl)⟩ (fun σ κ ω H locs hW => ?_)
  refine lv_iload hC.1.1 hC.1.2.1 dL_has_26 (lv_at hl 4 rfl) ?_
  refine lv_icmp_ne (tgt := 35) hC.1.1 hC.1.2.1 dL_has_28 (by decide) (fun q => absurd rfl q) (fun _ => ?_)
  refine zi_const hC.1.1 hC.1.2.1 dL_has_31 ?_
  refine lv_goto (tgt := 36) hC.1.1 hC.1.2.1 dL_has_32 (by decide) ?_
  exact z_sreti (w := gS c h) (u := (σ, κ, ω)) (P := fun (z : Int) (u : S3) => z = 1 ∧ ES u.1 d ∧ WL u.2.2 L) hC.1 hr hlocks hW.1 hW.2.1 (Nat.le_of_ble_eq_true rfl) (Nat.le_of_ble_eq_true rfl) rfl ⟨rfl, hW.2.2.1, hW.2.2.2⟩ dL_has_36
set_option maxHeartbeats 1000000 in
theorem c_L_types3 (l : Launch) (h : Nat → Nat) (D : va_G) (c : Nat → ClassId) (σ κ : Nat → Nat → Int) (ω : Nat × (Nat → Int32) × Int32) (d : Da) (L : List Int) (hinj : ∀ i j, i < 32 → j < 32 → h i = h j → i = j) (hE : ES σ d) (hL : WL ω L) (a b g f : Int) (ha : 97 ≤ a ∧ a ≤ 122) (hb : 97 ≤ b ∧ b ≤ 122) (hg : 97 ≤ g ∧ g ≤ 122)  (hst : l.stackTraces = false) :
    ∀ sz, Met l yL_types (Cond.code yL_types cL_types 7 (some .boolean) :: UW) { frames := 8, cells := 8, slots := 6 * 8, locals := 125 } (zPE zNCx [.ref (h 0), .int (iz a), .int (iz b), .int (iz g), .int (iz f), .int (iz 3)] 32 h D (gT c) sz (gC c h σ κ ω)) (va_Qi (fun r (u : Int × S3) => r = iz u.1 ∧ u.1 = 1 ∧ ES u.2.1 d ∧ WL u.2.2.2 [a, b, g]) (fun u t => zB 32 h D (gS c h u.2) t.heap) (zA 32 h sz)) 8 (6 * 8) (zA 32 h sz) := by
  refine zGM_of (by decide) rfl (Nat.le_of_ble_eq_true rfl) hinj ?_
  intro p e s m below meth cd ls hC hr hlocks hP hl
  generalize zA 32 h s.heap.size = A at hC ⊢
  have hS : va_S A s.heap s.heap [] := va_S.rf
  have hW : WS D c h A s σ κ ω d L s.heap [] := ⟨hP, hS, hE, hL⟩
  have hl : lv_has ls 7 [(0, .ref (h 0)), (1, .int (iz a)), (2, .int (iz b)), (3, .int (iz g)), (4, .int (iz f)), (5, .int (iz 3))] := hl
  refine lv_aload_n hC.1.1 hC.1.2.1 dL_types_0 rfl (lv_at hl 0 rfl) ?_
  refine d_wipe hC hW rfl dL_types_1 hl.1 (Nat.le_of_ble_eq_true rfl) ⟨(Nat.le_of_ble_eq_true rfl), (Nat.le_of_ble_eq_true rfl)⟩ ⟨(Nat.le_of_ble_eq_true rfl), (Nat.le_of_ble_eq_true rfl)⟩ (fun σ κ ω H locs hW => ?_)
  refine lv_istore (lv' := [(6, .int (iz (L.length : Int))), (0, .ref (h 0)), (1, .int (iz a)), (2, .int (iz b)), (3, .int (iz g)), (4, .int (iz f)), (5, .int (iz 3))]) hC.1.1 hC.1.2.1 dL_types_4 hl (by decide) rfl (fun ls hl => ?_)
  refine lv_iload hC.1.1 hC.1.2.1 dL_types_6 (lv_at hl 0 rfl) ?_
  have h6 := hL.2.1
  refine zi_if_lt (tgt := 58) hC.1.1 hC.1.2.1 dL_types_8 (by decide) (by omega) (fun q => absurd q (by omega)) (fun _ => ?_)
  refine lv_aload_n hC.1.1 hC.1.2.1 dL_types_11 rfl (lv_at hl 1 rfl) ?_
  refine lv_iload_n hC.1.1 hC.1.2.1 dL_types_12 rfl (lv_at hl 2 rfl) ?_
  refine d_type hst hC hW (v := 1) (by omega) ⟨ha, by simp⟩ rfl dL_types_13 hl.1 (Nat.le_of_ble_eq_true rfl) ⟨(Nat.le_of_ble_eq_true rfl), (Nat.le_of_ble_eq_true rfl)⟩ ⟨(Nat.le_of_ble_eq_true rfl), (Nat.le_of_ble_eq_true rfl)⟩ (fun σ κ ω H locs hW => ?_)
  refine zi_const hC.1.1 hC.1.2.1 dL_types_16 ?_
  refine zi_icmp_ne (tgt := 58) hC.1.1 hC.1.2.1 dL_types_17 (by decide) (by decide) (by decide) (fun q => absurd rfl q) (fun _ => ?_)
  refine lv_aload_n hC.1.1 hC.1.2.1 dL_types_20 rfl (lv_at hl 1 rfl) ?_
  refine lv_iload_n hC.1.1 hC.1.2.1 dL_types_21 rfl (lv_at hl 3 rfl) ?_
  refine d_type hst hC hW (v := 2) (by omega) ⟨hb, by simp⟩ rfl dL_types_22 hl.1 (Nat.le_of_ble_eq_true rfl) ⟨(Nat.le_of_ble_eq_true rfl), (Nat.le_of_ble_eq_true rfl)⟩ ⟨(Nat.le_of_ble_eq_true rfl), (Nat.le_of_ble_eq_true rfl)⟩ (fun σ κ ω H locs hW => ?_)
  refine zi_const hC.1.1 hC.1.2.1 dL_types_25 ?_
  refine zi_icmp_ne (tgt := 58) hC.1.1 hC.1.2.1 dL_types_26 (by decide) (by decide) (by decide) (fun q => absurd rfl q) (fun _ => ?_)
  refine lv_aload_n hC.1.1 hC.1.2.1 dL_types_29 rfl (lv_at hl 1 rfl) ?_
  refine lv_iload_n hC.1.1 hC.1.2.1 dL_types_30 rfl (lv_at hl 4 rfl) ?_
  refine d_type hst hC hW (v := 3) (by omega) ⟨hg, by simp⟩ rfl dL_types_31 hl.1 (Nat.le_of_ble_eq_true rfl) ⟨(Nat.le_of_ble_eq_true rfl), (Nat.le_of_ble_eq_true rfl)⟩ ⟨(Nat.le_of_ble_eq_true rfl), (Nat.le_of_ble_eq_true rfl)⟩ (fun σ κ ω H locs hW => ?_)
  refine zi_const hC.1.1 hC.1.2.1 dL_types_34 ?_
  refine zi_icmp_ne (tgt := 58) hC.1.1 hC.1.2.1 dL_types_35 (by decide) (by decide) (by decide) (fun q => absurd rfl q) (fun _ => ?_)
  refine lv_iload hC.1.1 hC.1.2.1 dL_types_38 (lv_at hl 6 rfl) ?_
  refine zi_const hC.1.1 hC.1.2.1 dL_types_40 ?_
  refine zi_icmp_lt (tgt := 54) hC.1.1 hC.1.2.1 dL_types_41 (by decide) (by decide) (by decide) (fun _ => ?_) (fun q => absurd q (by decide))
  refine zi_const hC.1.1 hC.1.2.1 dL_types_54 ?_
  refine lv_goto (tgt := 59) hC.1.1 hC.1.2.1 dL_types_55 (by decide) ?_
  exact z_sreti (w := gS c h) (u := (σ, κ, ω)) (P := fun (z : Int) (u : S3) => z = 1 ∧ ES u.1 d ∧ WL u.2.2 [a, b, g]) hC.1 hr hlocks hW.1 hW.2.1 (Nat.le_of_ble_eq_true rfl) (Nat.le_of_ble_eq_true rfl) rfl ⟨rfl, hW.2.2.1, hW.2.2.2⟩ dL_types_59
set_option maxHeartbeats 1000000 in
theorem c_L_types4 (l : Launch) (h : Nat → Nat) (D : va_G) (c : Nat → ClassId) (σ κ : Nat → Nat → Int) (ω : Nat × (Nat → Int32) × Int32) (d : Da) (L : List Int) (hinj : ∀ i j, i < 32 → j < 32 → h i = h j → i = j) (hE : ES σ d) (hL : WL ω L) (a b g f : Int) (ha : 97 ≤ a ∧ a ≤ 122) (hb : 97 ≤ b ∧ b ≤ 122) (hg : 97 ≤ g ∧ g ≤ 122) (hf : 97 ≤ f ∧ f ≤ 122) (hst : l.stackTraces = false) :
    ∀ sz, Met l yL_types (Cond.code yL_types cL_types 7 (some .boolean) :: UW) { frames := 8, cells := 8, slots := 6 * 8, locals := 125 } (zPE zNCx [.ref (h 0), .int (iz a), .int (iz b), .int (iz g), .int (iz f), .int (iz 4)] 32 h D (gT c) sz (gC c h σ κ ω)) (va_Qi (fun r (u : Int × S3) => r = iz u.1 ∧ u.1 = 1 ∧ ES u.2.1 d ∧ WL u.2.2.2 [a, b, g, f]) (fun u t => zB 32 h D (gS c h u.2) t.heap) (zA 32 h sz)) 8 (6 * 8) (zA 32 h sz) := by
  refine zGM_of (by decide) rfl (Nat.le_of_ble_eq_true rfl) hinj ?_
  intro p e s m below meth cd ls hC hr hlocks hP hl
  generalize zA 32 h s.heap.size = A at hC ⊢
  have hS : va_S A s.heap s.heap [] := va_S.rf
  have hW : WS D c h A s σ κ ω d L s.heap [] := ⟨hP, hS, hE, hL⟩
  have hl : lv_has ls 7 [(0, .ref (h 0)), (1, .int (iz a)), (2, .int (iz b)), (3, .int (iz g)), (4, .int (iz f)), (5, .int (iz 4))] := hl
  refine lv_aload_n hC.1.1 hC.1.2.1 dL_types_0 rfl (lv_at hl 0 rfl) ?_
  refine d_wipe hC hW rfl dL_types_1 hl.1 (Nat.le_of_ble_eq_true rfl) ⟨(Nat.le_of_ble_eq_true rfl), (Nat.le_of_ble_eq_true rfl)⟩ ⟨(Nat.le_of_ble_eq_true rfl), (Nat.le_of_ble_eq_true rfl)⟩ (fun σ κ ω H locs hW => ?_)
  refine lv_istore (lv' := [(6, .int (iz (L.length : Int))), (0, .ref (h 0)), (1, .int (iz a)), (2, .int (iz b)), (3, .int (iz g)), (4, .int (iz f)), (5, .int (iz 4))]) hC.1.1 hC.1.2.1 dL_types_4 hl (by decide) rfl (fun ls hl => ?_)
  refine lv_iload hC.1.1 hC.1.2.1 dL_types_6 (lv_at hl 0 rfl) ?_
  have h6 := hL.2.1
  refine zi_if_lt (tgt := 58) hC.1.1 hC.1.2.1 dL_types_8 (by decide) (by omega) (fun q => absurd q (by omega)) (fun _ => ?_)
  refine lv_aload_n hC.1.1 hC.1.2.1 dL_types_11 rfl (lv_at hl 1 rfl) ?_
  refine lv_iload_n hC.1.1 hC.1.2.1 dL_types_12 rfl (lv_at hl 2 rfl) ?_
  refine d_type hst hC hW (v := 1) (by omega) ⟨ha, by simp⟩ rfl dL_types_13 hl.1 (Nat.le_of_ble_eq_true rfl) ⟨(Nat.le_of_ble_eq_true rfl), (Nat.le_of_ble_eq_true rfl)⟩ ⟨(Nat.le_of_ble_eq_true rfl), (Nat.le_of_ble_eq_true rfl)⟩ (fun σ κ ω H locs hW => ?_)
  refine zi_const hC.1.1 hC.1.2.1 dL_types_16 ?_
  refine zi_icmp_ne (tgt := 58) hC.1.1 hC.1.2.1 dL_types_17 (by decide) (by decide) (by decide) (fun q => absurd rfl q) (fun _ => ?_)
  refine lv_aload_n hC.1.1 hC.1.2.1 dL_types_20 rfl (lv_at hl 1 rfl) ?_
  refine lv_iload_n hC.1.1 hC.1.2.1 dL_types_21 rfl (lv_at hl 3 rfl) ?_
  refine d_type hst hC hW (v := 2) (by omega) ⟨hb, by simp⟩ rfl dL_types_22 hl.1 (Nat.le_of_ble_eq_true rfl) ⟨(Nat.le_of_ble_eq_true rfl), (Nat.le_of_ble_eq_true rfl)⟩ ⟨(Nat.le_of_ble_eq_true rfl), (Nat.le_of_ble_eq_true rfl)⟩ (fun σ κ ω H locs hW => ?_)
  refine zi_const hC.1.1 hC.1.2.1 dL_types_25 ?_
  refine zi_icmp_ne (tgt := 58) hC.1.1 hC.1.2.1 dL_types_26 (by decide) (by decide) (by decide) (fun q => absurd rfl q) (fun _ => ?_)
  refine lv_aload_n hC.1.1 hC.1.2.1 dL_types_29 rfl (lv_at hl 1 rfl) ?_
  refine lv_iload_n hC.1.1 hC.1.2.1 dL_types_30 rfl (lv_at hl 4 rfl) ?_
  refine d_type hst hC hW (v := 3) (by omega) ⟨hg, by simp⟩ rfl dL_types_31 hl.1 (Nat.le_of_ble_eq_true rfl) ⟨(Nat.le_of_ble_eq_true rfl), (Nat.le_of_ble_eq_true rfl)⟩ ⟨(Nat.le_of_ble_eq_true rfl), (Nat.le_of_ble_eq_true rfl)⟩ (fun σ κ ω H locs hW => ?_)
  refine zi_const hC.1.1 hC.1.2.1 dL_types_34 ?_
  refine zi_icmp_ne (tgt := 58) hC.1.1 hC.1.2.1 dL_types_35 (by decide) (by decide) (by decide) (fun q => absurd rfl q) (fun _ => ?_)
  refine lv_iload hC.1.1 hC.1.2.1 dL_types_38 (lv_at hl 6 rfl) ?_
  refine zi_const hC.1.1 hC.1.2.1 dL_types_40 ?_
  refine zi_icmp_lt (tgt := 54) hC.1.1 hC.1.2.1 dL_types_41 (by decide) (by decide) (by decide) (fun q => absurd q (by decide)) (fun _ => ?_)
  refine lv_aload_n hC.1.1 hC.1.2.1 dL_types_44 rfl (lv_at hl 1 rfl) ?_
  refine lv_iload hC.1.1 hC.1.2.1 dL_types_45 (lv_at hl 5 rfl) ?_
  refine d_type hst hC hW (v := 4) (by omega) ⟨hf, by simp⟩ rfl dL_types_47 hl.1 (Nat.le_of_ble_eq_true rfl) ⟨(Nat.le_of_ble_eq_true rfl), (Nat.le_of_ble_eq_true rfl)⟩ ⟨(Nat.le_of_ble_eq_true rfl), (Nat.le_of_ble_eq_true rfl)⟩ (fun σ κ ω H locs hW => ?_)
  refine zi_const hC.1.1 hC.1.2.1 dL_types_50 ?_
  refine zi_icmp_ne (tgt := 58) hC.1.1 hC.1.2.1 dL_types_51 (by decide) (by decide) (by decide) (fun q => absurd rfl q) (fun _ => ?_)
  refine zi_const hC.1.1 hC.1.2.1 dL_types_54 ?_
  refine lv_goto (tgt := 59) hC.1.1 hC.1.2.1 dL_types_55 (by decide) ?_
  exact z_sreti (w := gS c h) (u := (σ, κ, ω)) (P := fun (z : Int) (u : S3) => z = 1 ∧ ES u.1 d ∧ WL u.2.2 [a, b, g, f]) hC.1 hr hlocks hW.1 hW.2.1 (Nat.le_of_ble_eq_true rfl) (Nat.le_of_ble_eq_true rfl) rfl ⟨rfl, hW.2.2.1, hW.2.2.2⟩ dL_types_59
section WR
variable {p : Program} {l : Launch} {e : Env} {R : Room} {s : State} {m : MethodId} {args : Array Value} {below : List Frame} {meth : Method} {cd : Code} {H : Heap} {locs : List Loc} {cells slots : Nat} {Q : State → Prop}
variable {cc : ByteArray} {nL pc : Nat} {ls : Array Slot} {rest : List Value} {A : Nat → Prop} {h : Nat → Nat} {D : va_G} {c : Nat → ClassId} {σ κ : Nat → Nat → Int} {ω : Nat × (Nat → Int32) × Int32} {d d' : Da} {L L' : List Int}
theorem w_has (hst : l.stackTraces = false) (hC : CX p m cd cc nL s args h D c A) (hW : WS D c h A s σ κ ω d L H locs) {a dr lo ch : Int} (ha : -2147483648 ≤ a ∧ a ≤ 2147483647) (h0 : tO d a 0 = 0 ∧ tO d a 1 = 0 ∧ tO d a 2 = 0) (h1 : (ga d.2.2.2.2.1 a.toNat).2.2.2.2.1 = dr) (h2 : (ga d.2.2.2.2.1 a.toNat).2.2.2.2.2.1 = lo) (h3 : (ga d.2.2.2.2.1 a.toNat).2.2.2.2.2.2.1 = ch) (hd : decode cc pc = .ok (.invokestatic 104, 3)) (hsz : ls.size = nL) (hW9 : (rest.map fun v => v.category).sum ≤ 8) (hR : 8 + 1 ≤ R.frames ∧ 8 + (5 + 11) + 125 ≤ R.locals) (hf : cells + 6 ≤ R.cells ∧ slots + 6 * 6 ≤ R.slots)
    (kk : ∀ (σ κ : Nat → Nat → Int) (ω : Nat × (Nat → Int32) × Int32) (H : Heap) (locs : List Loc), WS D c h A s σ κ ω d L H locs → W p l e R s m args below meth cd H locs (cells + 6) (slots + 6 * 6) Q (F0 m (pc + 3) ls (.int (iz 1) :: rest))) :
    W p l e R s m args below meth cd H locs cells slots Q (F0 m pc ls (.int (iz ch) :: .int (iz lo) :: .int (iz dr) :: .int (iz a) :: .ref (h 0) :: rest)) := by
  refine z_ciK (mc := 6) (ms := 6 * 6) (S := S3) (w := gS c h) (P := fun (z : Int) (u : S3) => z = 1 ∧ ES u.1 d ∧ WL u.2.2 L) (z_rS (na := 5) (rm := { frames := 8, cells := 6, slots := 6 * 6, locals := 125 }) hC.1 (z_preE zNc_st hC.2.1 hC.2.2.1 hC.2.2.2.1 hC.2.2.2.2.1 hC.2.2.2.2.2 hW.1 hW.2.1) (c_L_has l h D c σ κ ω d L hC.2.2.2.2.1.1 hW.2.2.1 hW.2.2.2 a dr lo ch ha h0 h1 h2 h3 hst _) mp_48 mp_49 mp_25 mp_39 rfl rfl ⟨by decide, by decide, rfl⟩ hR (As := [.ref (h 0), .int (iz a), .int (iz dr), .int (iz lo), .int (iz ch)]) (rest := rest) rfl hsz rfl hW9 hd hf) hC.2.2.2.2.1 hC.2.2.2.2.2 hW.2.1 (fun z u H locs hp hP hS => ?_)
  obtain ⟨rfl, hE, hL⟩ := hp
  exact kk u.1 u.2.1 u.2.2 H locs ⟨hP, hS, hE, hL⟩
theorem w_types3 (hst : l.stackTraces = false) (hC : CX p m cd cc nL s args h D c A) (hW : WS D c h A s σ κ ω d L H locs) {a b g f : Int} (ha : 97 ≤ a ∧ a ≤ 122) (hb : 97 ≤ b ∧ b ≤ 122) (hg : 97 ≤ g ∧ g ≤ 122) (hd : decode cc pc = .ok (.invokestatic 112, 3)) (hsz : ls.size = nL) (hW9 : (rest.map fun v => v.category).sum ≤ 8) (hR : 8 + 1 ≤ R.frames ∧ 8 + (7 + 11) + 125 ≤ R.locals) (hf : cells + 8 ≤ R.cells ∧ slots + 6 * 8 ≤ R.slots)
    (kk : ∀ (σ κ : Nat → Nat → Int) (ω : Nat × (Nat → Int32) × Int32) (H : Heap) (locs : List Loc), WS D c h A s σ κ ω d [a, b, g] H locs → W p l e R s m args below meth cd H locs (cells + 8) (slots + 6 * 8) Q (F0 m (pc + 3) ls (.int (iz 1) :: rest))) :
    W p l e R s m args below meth cd H locs cells slots Q (F0 m pc ls (.int (iz 3) :: .int (iz f) :: .int (iz g) :: .int (iz b) :: .int (iz a) :: .ref (h 0) :: rest)) := by
  refine z_ciK (mc := 8) (ms := 6 * 8) (S := S3) (w := gS c h) (P := fun (z : Int) (u : S3) => z = 1 ∧ ES u.1 d ∧ WL u.2.2 [a, b, g]) (z_rS (na := 6) (rm := { frames := 8, cells := 8, slots := 6 * 8, locals := 125 }) hC.1 (z_preE zNc_st hC.2.1 hC.2.2.1 hC.2.2.2.1 hC.2.2.2.2.1 hC.2.2.2.2.2 hW.1 hW.2.1) (c_L_types3 l h D c σ κ ω d L hC.2.2.2.2.1.1 hW.2.2.1 hW.2.2.2 a b g f ha hb hg hst _) mp_50 mp_51 mp_25 mp_38 rfl rfl ⟨by decide, by decide, rfl⟩ hR (As := [.ref (h 0), .int (iz a), .int (iz b), .int (iz g), .int (iz f), .int (iz 3)]) (rest := rest) rfl hsz rfl hW9 hd hf) hC.2.2.2.2.1 hC.2.2.2.2.2 hW.2.1 (fun z u H locs hp hP hS => ?_)
  obtain ⟨rfl, hE, hL⟩ := hp
  exact kk u.1 u.2.1 u.2.2 H locs ⟨hP, hS, hE, hL⟩
theorem w_types4 (hst : l.stackTraces = false) (hC : CX p m cd cc nL s args h D c A) (hW : WS D c h A s σ κ ω d L H locs) {a b g f : Int} (ha : 97 ≤ a ∧ a ≤ 122) (hb : 97 ≤ b ∧ b ≤ 122) (hg : 97 ≤ g ∧ g ≤ 122) (hf9 : 97 ≤ f ∧ f ≤ 122) (hd : decode cc pc = .ok (.invokestatic 112, 3)) (hsz : ls.size = nL) (hW9 : (rest.map fun v => v.category).sum ≤ 8) (hR : 8 + 1 ≤ R.frames ∧ 8 + (7 + 11) + 125 ≤ R.locals) (hf : cells + 8 ≤ R.cells ∧ slots + 6 * 8 ≤ R.slots)
    (kk : ∀ (σ κ : Nat → Nat → Int) (ω : Nat × (Nat → Int32) × Int32) (H : Heap) (locs : List Loc), WS D c h A s σ κ ω d [a, b, g, f] H locs → W p l e R s m args below meth cd H locs (cells + 8) (slots + 6 * 8) Q (F0 m (pc + 3) ls (.int (iz 1) :: rest))) :
    W p l e R s m args below meth cd H locs cells slots Q (F0 m pc ls (.int (iz 4) :: .int (iz f) :: .int (iz g) :: .int (iz b) :: .int (iz a) :: .ref (h 0) :: rest)) := by
  refine z_ciK (mc := 8) (ms := 6 * 8) (S := S3) (w := gS c h) (P := fun (z : Int) (u : S3) => z = 1 ∧ ES u.1 d ∧ WL u.2.2 [a, b, g, f]) (z_rS (na := 6) (rm := { frames := 8, cells := 8, slots := 6 * 8, locals := 125 }) hC.1 (z_preE zNc_st hC.2.1 hC.2.2.1 hC.2.2.2.1 hC.2.2.2.2.1 hC.2.2.2.2.2 hW.1 hW.2.1) (c_L_types4 l h D c σ κ ω d L hC.2.2.2.2.1.1 hW.2.2.1 hW.2.2.2 a b g f ha hb hg hf9 hst _) mp_50 mp_51 mp_25 mp_38 rfl rfl ⟨by decide, by decide, rfl⟩ hR (As := [.ref (h 0), .int (iz a), .int (iz b), .int (iz g), .int (iz f), .int (iz 4)]) (rest := rest) rfl hsz rfl hW9 hd hf) hC.2.2.2.2.1 hC.2.2.2.2.2 hW.2.1 (fun z u H locs hp hP hS => ?_)
  obtain ⟨rfl, hE, hL⟩ := hp
  exact kk u.1 u.2.1 u.2.2 H locs ⟨hP, hS, hE, hL⟩
/-- at the level of the numbers -/
theorem g_refuses (hst : l.stackTraces = false) (hC : CX p m cd cc nL s args h D c A) (hP : zB 32 h D (gC c h σ κ ω) H) (hS : va_S A s.heap H locs) (hG : GI σ) {ac : Int} (ha : ac = σ 0 1) (hlen : ∀ k, k < 16 → σ 14 k ≠ 0 → 1 ≤ σ 9 k) (hwt : ∀ k, k < 16 → σ 15 k = 0) (hn : ω.1 ≤ 6) (hby : ∀ j, j < ω.1 → ∃ x : Int, (97 ≤ x ∧ x ≤ 122) ∧ ω.2.1 j = iz x) (hd : decode cc pc = .ok (.invokestatic 100, 3)) (hsz : ls.size = nL) (hW9 : (rest.map fun v => v.category).sum ≤ 8) (hR : 11 + 1 ≤ R.frames ∧ 8 + (16 + 11) + 240 ≤ R.locals) (hf : cells + 900 ≤ R.cells ∧ slots + 6 * 900 ≤ R.slots)
    (kk : ∀ (κ : Nat → Nat → Int) (H : Heap) (locs : List Loc), zB 32 h D (gC c h σ κ ω) H → va_S A s.heap H locs → W p l e R s m args below meth cd H locs (cells + 900) (slots + 6 * 900) Q (F0 m (pc + 3) ls (.int (iz 1) :: rest))) :
    W p l e R s m args below meth cd H locs cells slots Q (F0 m pc ls (.int (iz ac) :: .ref (h 0) :: rest)) := by
  have g1 := GI_01 hG
  refine z_ciK (mc := 900) (ms := 6 * 900) (S := S3) (w := gS c h) (P := fun (z : Int) (u : S3) => z = 1 ∧ u.1 = σ ∧ u.2.2 = ω) (z_rS (na := 2) (rm := { frames := 11, cells := 900, slots := 6 * 900, locals := 240 }) hC.1 (z_preE zNc_st hC.2.1 hC.2.2.1 hC.2.2.2.1 hC.2.2.2.2.1 hC.2.2.2.2.2 hP hS) (c_L_refuses l h D c σ κ ω hC.2.2.2.2.1.1 hG ac (by omega) ha hlen hwt hn hby hst _) mp_46 mp_47 mp_25 mp_36 rfl rfl ⟨by decide, by decide, rfl⟩ hR (As := [.ref (h 0), .int (iz ac)]) (rest := rest) rfl hsz rfl hW9 hd hf) hC.2.2.2.2.1 hC.2.2.2.2.2 hS (fun z u H1 locs1 hp hP1 hS1 => ?_)
  obtain ⟨σ9, κ9, ω9⟩ := u
  obtain ⟨rfl, e1, e2⟩ := hp
  have e1 : σ9 = σ := e1
  have e2 : ω9 = ω := e2
  subst e1
  subst e2
  exact kk κ9 H1 locs1 hP1 hS1
theorem w_refuses (hst : l.stackTraces = false) (hC : CX p m cd cc nL s args h D c A) (hW : WS D c h A s σ κ ω d L H locs) {ac : Int} (ha : d.2.2.2.2.2.1 = ac) (hlB : lnB d = true) (hnB : nwB d = true) (hd : decode cc pc = .ok (.invokestatic 100, 3)) (hsz : ls.size = nL) (hW9 : (rest.map fun v => v.category).sum ≤ 8) (hR : 11 + 1 ≤ R.frames ∧ 8 + (16 + 11) + 240 ≤ R.locals) (hf : cells + 900 ≤ R.cells ∧ slots + 6 * 900 ≤ R.slots)
    (kk : ∀ (σ κ : Nat → Nat → Int) (ω : Nat × (Nat → Int32) × Int32) (H : Heap) (locs : List Loc), WS D c h A s σ κ ω d L H locs → W p l e R s m args below meth cd H locs (cells + 900) (slots + 6 * 900) Q (F0 m (pc + 3) ls (.int (iz 1) :: rest))) :
    W p l e R s m args below meth cd H locs cells slots Q (F0 m pc ls (.int (iz ac) :: .ref (h 0) :: rest)) := by
  obtain ⟨hP, hS, hE, hL⟩ := hW
  exact g_refuses hst hC hP hS hE.1 (by rw [ES_na0 hE, ha]) (ln_ev hE hlB) (nw_ev hE hnB) (WL_6 hL) (WL_by hL) hd hsz hW9 hR hf (fun κ H locs hP hS => kk σ κ ω H locs ⟨hP, hS, hE, hL⟩)
theorem w_plan1 (hst : l.stackTraces = false) (hC : CX p m cd cc nL s args h D c A) (hW : WS D c h A s σ κ ω d L H locs) {sg sa ln ph dr lo ch : Int} (hsg : -2147483648 ≤ sg ∧ sg ≤ 2147483647) (hsa : -2147483648 ≤ sa ∧ sa ≤ 2147483647) (hln : -2147483648 ≤ ln ∧ ln ≤ 2147483647) (hph : -2147483648 ≤ ph ∧ ph ≤ 2147483647) (hdr : -2147483648 ≤ dr ∧ dr ≤ 2147483647) (hlo : -2147483648 ≤ lo ∧ lo ≤ 2147483647) (hch : -2147483648 ≤ ch ∧ ch ≤ 2147483647) (h0 : tL d sg sa ln ph dr lo ch = 0) {v : Int} (hv : bbF (dL d d.2.2.2.2.2.1.toNat sg sa ln ph dr lo ch 1) d.2.2.2.2.2.1.toNat = v) (hn9 : dL d d.2.2.2.2.2.1.toNat sg sa ln ph dr lo ch 0 = d') (hd : decode cc pc = .ok (.invokestatic 88, 3)) (hsz : ls.size = nL) (hW9 : (rest.map fun v => v.category).sum ≤ 8) (hR : 10 + 1 ≤ R.frames ∧ 8 + (10 + 11) + 181 ≤ R.locals) (hf : cells + 8 ≤ R.cells ∧ slots + 6 * 8 ≤ R.slots)
    (kk : ∀ (σ κ : Nat → Nat → Int) (ω : Nat × (Nat → Int32) × Int32) (H : Heap) (locs : List Loc), WS D c h A s σ κ ω d' L H locs → W p l e R s m args below meth cd H locs (cells + 8) (slots + 6 * 8) Q (F0 m (pc + 3) ls (.int (iz v) :: rest))) :
    W p l e R s m args below meth cd H locs cells slots Q (F0 m pc ls (.int (iz ch) :: .int (iz lo) :: .int (iz dr) :: .int (iz ph) :: .int (iz ln) :: .int (iz sa) :: .int (iz sg) :: .int (iz 1) :: .ref (h 0) :: rest)) := by
  obtain ⟨hP, hS, hE, hL⟩ := hW
  rw [← tL_ev hE] at h0
  refine hg_plan1 hst hC hP hS hE.1 hsg hsa hln hph hdr hlo hch hd hsz hW9 hR hf (fun k u H locs hp hP hS => ?_)
  rcases hp with ⟨z, rfl, hp⟩ | ⟨_, hk⟩
  · skip
    have h2 := hp.2.2.2.2
    obtain ⟨rfl, hE1⟩ := ev_reason hE hp.1 hp.2.1 hp.2.2.1
    rw [hn9] at hE1
    rw [hv]
    exact kk u.1 u.2.1 u.2.2 H locs ⟨hP, hS, hE1, by rw [h2]; exact hL⟩
  · exfalso
    omega
theorem w_plan0 (hst : l.stackTraces = false) (hC : CX p m cd cc nL s args h D c A) (hW : WS D c h A s σ κ ω d L H locs) {sg sa ln ph dr lo ch : Int} (hsg : -2147483648 ≤ sg ∧ sg ≤ 2147483647) (hsa : -2147483648 ≤ sa ∧ sa ≤ 2147483647) (hln : -2147483648 ≤ ln ∧ ln ≤ 2147483647) (hph : -2147483648 ≤ ph ∧ ph ≤ 2147483647) (hdr : -2147483648 ≤ dr ∧ dr ≤ 2147483647) (hlo : -2147483648 ≤ lo ∧ lo ≤ 2147483647) (hch : -2147483648 ≤ ch ∧ ch ≤ 2147483647) (h0 : tL d sg sa ln ph dr lo ch = 0) {v : Int} (hv : (if bbF (dL d d.2.2.2.2.2.1.toNat sg sa ln ph dr lo ch 1) d.2.2.2.2.2.1.toNat = 0 then d.2.2.2.2.2.1 else -1) = v) (hn9 : (if bbF (dL d d.2.2.2.2.2.1.toNat sg sa ln ph dr lo ch 1) d.2.2.2.2.2.1.toNat = 0 then stN' (dL d d.2.2.2.2.2.1.toNat sg sa ln ph dr lo ch 1) (d.2.2.2.2.2.1 + 1) else dL d d.2.2.2.2.2.1.toNat sg sa ln ph dr lo ch 0) = d') (hd : decode cc pc = .ok (.invokestatic 88, 3)) (hsz : ls.size = nL) (hW9 : (rest.map fun v => v.category).sum ≤ 8) (hR : 10 + 1 ≤ R.frames ∧ 8 + (10 + 11) + 180 ≤ R.locals) (hf : cells + 8 ≤ R.cells ∧ slots + 6 * 8 ≤ R.slots)
    (kk : ∀ (σ κ : Nat → Nat → Int) (ω : Nat × (Nat → Int32) × Int32) (H : Heap) (locs : List Loc), WS D c h A s σ κ ω d' L H locs → W p l e R s m args below meth cd H locs (cells + 8) (slots + 6 * 8) Q (F0 m (pc + 3) ls (.int (iz v) :: rest))) :
    W p l e R s m args below meth cd H locs cells slots Q (F0 m pc ls (.int (iz ch) :: .int (iz lo) :: .int (iz dr) :: .int (iz ph) :: .int (iz ln) :: .int (iz sa) :: .int (iz sg) :: .int (iz 0) :: .ref (h 0) :: rest)) := by
  obtain ⟨hP, hS, hE, hL⟩ := hW
  rw [← tL_ev hE] at h0
  refine hg_plan0 hst hC hP hS hE.1 hsg hsa hln hph hdr hlo hch hd hsz hW9 hR hf (fun k u H locs hp hP hS => ?_)
  rcases hp with ⟨z, rfl, hp⟩ | ⟨_, hk⟩
  · skip
    have h2 := hp.2.2.2
    obtain ⟨rfl, hE1⟩ := ev_plan hE hp.1 hp.2.1
    rw [hn9] at hE1
    rw [hv]
    exact kk u.1 u.2.1 u.2.2 H locs ⟨hP, hS, hE1, by rw [h2]; exact hL⟩
  · exfalso
    omega
theorem w_drop (hst : l.stackTraces = false) (hC : CX p m cd cc nL s args h D c A) (hW : WS D c h A s σ κ ω d L H locs) {a : Int} (ha : -2147483648 ≤ a ∧ a ≤ 2147483647) (h0 : tD d a = 0) (hn9 : dO d a.toNat = d') (hd : decode cc pc = .ok (.invokestatic 85, 3)) (hsz : ls.size = nL) (hW9 : (rest.map fun v => v.category).sum ≤ 8) (hR : 8 + 1 ≤ R.frames ∧ 8 + (3 + 11) + 124 ≤ R.locals) (hf : cells + 2 ≤ R.cells ∧ slots + 6 * 2 ≤ R.slots)
    (kk : ∀ (σ κ : Nat → Nat → Int) (ω : Nat × (Nat → Int32) × Int32) (H : Heap) (locs : List Loc), WS D c h A s σ κ ω d' L H locs → W p l e R s m args below meth cd H locs (cells + 2) (slots + 6 * 2) Q (F0 m (pc + 3) ls (.int (iz 0) :: rest))) :
    W p l e R s m args below meth cd H locs cells slots Q (F0 m pc ls (.int (iz a) :: .ref (h 0) :: rest)) := by
  obtain ⟨hP, hS, hE, hL⟩ := hW
  rw [← tD_ev hE] at h0
  refine hg_drop hst hC hP hS hE.1 ha hd hsz hW9 hR hf (fun k u H locs hp hP hS => ?_)
  rcases hp with ⟨rfl, hp⟩ | ⟨_, hk⟩
  · skip
    have h2 := hp.2.2.2
    have hE1 := ev_drop hE hp.1 hp.2.1
    rw [hn9] at hE1
    skip
    exact kk u.1 u.2.1 u.2.2 H locs ⟨hP, hS, hE1, by rw [h2]; exact hL⟩
  · exfalso
    omega
theorem w_act0 (hst : l.stackTraces = false) (hC : CX p m cd cc nL s args h D c A) (hW : WS D c h A s σ κ ω d L H locs) {mi x0 x1 : Int} (hmi : -2147483648 ≤ mi ∧ mi ≤ 2147483647) (h0 : tS d mi = 0) {v : Int} (hv : vS d mi = v) (hn9 : dS d mi = d') (hd : decode cc pc = .ok (.invokestatic 79, 3)) (hsz : ls.size = nL) (hW9 : (rest.map fun v => v.category).sum ≤ 8) (hR : 9 + 1 ≤ R.frames ∧ 8 + (6 + 11) + 146 ≤ R.locals) (hf : cells + 2 ≤ R.cells ∧ slots + 6 * 2 ≤ R.slots)
    (kk : ∀ (σ κ : Nat → Nat → Int) (ω : Nat × (Nat → Int32) × Int32) (H : Heap) (locs : List Loc), WS D c h A s σ κ ω d' L H locs → W p l e R s m args below meth cd H locs (cells + 2) (slots + 6 * 2) Q (F0 m (pc + 3) ls (.int (iz v) :: rest))) :
    W p l e R s m args below meth cd H locs cells slots Q (F0 m pc ls (.int (iz x1) :: .int (iz x0) :: .int (iz mi) :: .int (iz 0) :: .ref (h 0) :: rest)) := by
  obtain ⟨hP, hS, hE, hL⟩ := hW
  rw [← tS_ev hE] at h0
  refine hg_act0 hst hC hP hS hE.1 hmi hd hsz hW9 hR hf (fun k u H locs hp hP hS => ?_)
  rcases hp with ⟨z, rfl, hp⟩ | ⟨_, hk⟩
  · skip
    have h2 := hp.2
    obtain ⟨rfl, hE1⟩ := ev_startSet hE hp.1
    rw [hn9] at hE1
    rw [hv]
    exact kk u.1 u.2.1 u.2.2 H locs ⟨hP, hS, hE1, by rw [h2]; exact hL⟩
  · exfalso
    omega
end WR
