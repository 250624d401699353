/-! the law's 'refuses': what there is not is refused, and nothing has changed -/
theorem g_load {p : Program} {l : Launch} {e : Env} {R : Room} {s : State} {m : MethodId} {args : Array Value} {below : List Frame} {meth : Method} {cd : Code} {H : Heap} {locs : List Loc} {cells slots : Nat} {Q : State → Prop} {cc : ByteArray} {nL pc : Nat} {ls : Array Slot} {rest : List Value} {A : Nat → Prop} {h : Nat → Nat} {D : va_G} {c : Nat → ClassId} {σ κ : Nat → Nat → Int} {ω : Nat × (Nat → Int32) × Int32} (hst : l.stackTraces = false) (hC : CX p m cd cc nL s args h D c A) (hP : zB 32 h D (gC c h σ κ ω) H) (hS : va_S A s.heap H locs) (hG : GI σ) (hd : decode cc pc = .ok (.invokevirtual 65, 3)) (hsz : ls.size = nL) (hW9 : (rest.map fun v => v.category).sum ≤ 8) (hR : 8 + 1 ≤ R.frames ∧ 8 + (3 + 11) + 124 ≤ R.locals) (hf : cells + 2 ≤ R.cells ∧ slots + 6 * 2 ≤ R.slots)
    (kk : ∀ (κ : Nat → Nat → Int) (H : Heap) (locs : List Loc), zB 32 h D (gC c h σ κ ω) H → va_S A s.heap H locs → W p l e R s m args below meth cd H locs (cells + 2) (slots + 6 * 2) Q (F0 m (pc + 3) ls (.int (iz (ldS σ 0 0 16)) :: rest))) :
    W p l e R s m args below meth cd H locs cells slots Q (F0 m pc ls (.int (iz 0) :: .int (iz 0) :: .ref (h 0) :: rest)) := by
  refine z_hci (k := 2) (S := (Nat → Nat → Int)) (w := (fun κ9 => gC c h σ κ9 ω)) (P := (fun z _ => thP (0 : Int) (0 : Int) = 0 ∧ z = ldS σ (0 : Int) (0 : Int).toNat 16)) (PX := fun E9 => (E9 = E98 ∧ thP (0 : Int) (0 : Int) = 1) ∨ (E9 = E206 ∧ thP (0 : Int) (0 : Int) = 2)) (g := gC c h σ κ ω) (z_xrunV (rm := { frames := 8, cells := 2, slots := 6 * 2, locals := 124 }) hC.1 hC.2.1 hC.2.2.1 hC.2.2.2.2.1 hC.2.2.2.2.2 hP hS (c_X3_load l h D c σ κ ω hC.2.2.2.2.1.1 hG 0 (by decide) 0 (by decide) hst _) (gIn_V mp_17 mw_672 mw_673 mw_86 mw_406) rfl rfl ⟨rfl, by decide, by decide, rfl⟩ hR (k := 0) (T := TX3) (N := 14) (by decide) rfl rfl rfl (As := [.int (iz 0), .int (iz 0)]) (rest := rest) rfl hsz rfl hW9 hd hf) hC.2.2.2.2.1 hC.2.2.2.2.2 hS (fun E9 ce q9 H locs hpx hP hS hce hcv hcl => ?_) (fun z w9 H locs hp hP hS => ?_)
  · exfalso
    revert hpx
    rintro (⟨_, q⟩ | ⟨_, q⟩) <;> exact absurd q (by decide)
  · obtain rfl := hp.2
    exact kk w9 H locs hP hS
theorem g_chan {p : Program} {l : Launch} {e : Env} {R : Room} {s : State} {m : MethodId} {args : Array Value} {below : List Frame} {meth : Method} {cd : Code} {H : Heap} {locs : List Loc} {cells slots : Nat} {Q : State → Prop} {cc : ByteArray} {nL pc : Nat} {ls : Array Slot} {rest : List Value} {A : Nat → Prop} {h : Nat → Nat} {D : va_G} {c : Nat → ClassId} {σ κ : Nat → Nat → Int} {ω : Nat × (Nat → Int32) × Int32} (hst : l.stackTraces = false) (hC : CX p m cd cc nL s args h D c A) (hP : zB 32 h D (gC c h σ κ ω) H) (hS : va_S A s.heap H locs) (hG : GI σ) (hd : decode cc pc = .ok (.invokevirtual 71, 3)) (hsz : ls.size = nL) (hW9 : (rest.map fun v => v.category).sum ≤ 8) (hR : 8 + 1 ≤ R.frames ∧ 8 + (2 + 11) + 124 ≤ R.locals) (hf : cells + 1 ≤ R.cells ∧ slots + 6 * 1 ≤ R.slots)
    (kk : ∀ (κ : Nat → Nat → Int) (H : Heap) (locs : List Loc), zB 32 h D (gC c h σ κ ω) H → va_S A s.heap H locs → W p l e R s m args below meth cd H locs (cells + 1) (slots + 6 * 1) Q (F0 m (pc + 3) ls (.int (iz (chS σ 500 16)) :: rest))) :
    W p l e R s m args below meth cd H locs cells slots Q (F0 m pc ls (.int (iz 500) :: .ref (h 0) :: rest)) := by
  refine z_hci (k := 1) (S := (Nat → Nat → Int)) (w := (fun κ9 => gC c h σ κ9 ω)) (P := (fun z _ => thK (500 : Int) = 0 ∧ z = chS σ (500 : Int) 16)) (PX := fun E9 => (E9 = E206 ∧ thK (500 : Int) = 1)) (g := gC c h σ κ ω) (z_xrunV (rm := { frames := 8, cells := 1, slots := 6 * 1, locals := 124 }) hC.1 hC.2.1 hC.2.2.1 hC.2.2.2.2.1 hC.2.2.2.2.2 hP hS (c_X3_channels l h D c σ κ ω hC.2.2.2.2.1.1 hG 500 (by decide) hst _) (gIn_V mp_19 mw_678 mw_679 mw_86 mw_408) rfl rfl ⟨rfl, by decide, by decide, rfl⟩ hR (k := 0) (T := TX3) (N := 14) (by decide) rfl rfl rfl (As := [.int (iz 500)]) (rest := rest) rfl hsz rfl hW9 hd hf) hC.2.2.2.2.1 hC.2.2.2.2.2 hS (fun E9 ce q9 H locs hpx hP hS hce hcv hcl => ?_) (fun z w9 H locs hp hP hS => ?_)
  · exfalso
    revert hpx
    rintro ⟨_, q⟩; exact absurd q (by decide)
  · obtain rfl := hp.2
    exact kk w9 H locs hP hS
set_option maxRecDepth 100000 in
set_option maxHeartbeats 4000000 in
theorem rf_4 (l : Launch) (hst : l.stackTraces = false) {p : Program} {e : Env} {s : State} {m : MethodId} {args : Array Value} {below : List Frame} {meth : Method} {cd : Code} {A : Nat → Prop} {h : Nat → Nat} {D : va_G} {c : Nat → ClassId} {σ : Nat → Nat → Int} {ω : Nat × (Nat → Int32) × Int32} {ac : Int} (hC : CX p m cd cL_refuses 16 s args h D c A) (hr : meth.sig.returnType = some .boolean) (hlocks : meth.locks = false) (hG : GI σ) (hac : -2147483648 ≤ ac ∧ ac ≤ 2147483647) (ha : ac = σ 0 1) (hlen : ∀ k, k < 16 → σ 14 k ≠ 0 → 1 ≤ σ 9 k) (hwt : ∀ k, k < 16 → σ 15 k = 0) (hn : ω.1 ≤ 6) (hby : ∀ j, j < ω.1 → ∃ x : Int, (97 ≤ x ∧ x ≤ 122) ∧ ω.2.1 j = iz x) : ∀ (κ : Nat → Nat → Int) (H : Heap) (locs : List Loc) (ls : Array Slot), zB 32 h D (gC c h σ κ ω) H → va_S A s.heap H locs → lv_has ls 16 [(6, .int (iz 4)), (5, .int (iz 2147483647)), (4, .int (iz (b2i (fineM σ)))), (3, .int (iz (chS σ 500 16))), (2, .int (iz (ldS σ 0 0 16))), (1, .int (iz ac)), (0, .ref (h 0))] → W p l e { frames := 11, cells := 900, slots := 6 * 900, locals := 240 } s m args below meth cd H locs 723 (6 * 723) (MQ below (va_Qi (fun r (u : Int × S3) => r = iz u.1 ∧ (fun (z : Int) (u : S3) => z = 1 ∧ u.1 = σ ∧ u.2.2 = ω) u.1 u.2) (fun u t => zB 32 h D (gS c h u.2) t.heap) A) args s 900 (6 * 900) A) (F0 m 28 ls []) := by
  intro κ H locs ls hP hS hl
  refine lv_iload hC.1.1 hC.1.2.1 dL_refuses_28 (lv_at hl 0 rfl) ?_
  refine zi_const hC.1.1 hC.1.2.1 dL_refuses_30 ?_
  refine zi_icmp_ge (tgt := 829) hC.1.1 hC.1.2.1 dL_refuses_31 (by decide) (by decide) (by decide) (fun _ => ?_) (fun q => absurd q (by decide))
  refine lv_aload_n hC.1.1 hC.1.2.1 dL_refuses_829 rfl (lv_at hl 6 rfl) ?_
  refine zi_const hC.1.1 hC.1.2.1 dL_refuses_830 ?_
  refine zi_const hC.1.1 hC.1.2.1 dL_refuses_831 ?_
  refine g_load hst hC hP hS hG dL_refuses_832 hl.1 (Nat.le_of_ble_eq_true rfl) ⟨(Nat.le_of_ble_eq_true rfl), (Nat.le_of_ble_eq_true rfl)⟩ ⟨(Nat.le_of_ble_eq_true rfl), (Nat.le_of_ble_eq_true rfl)⟩ (fun κ H locs hP hS => ?_)
  refine lv_iload_n hC.1.1 hC.1.2.1 dL_refuses_835 rfl (lv_at hl 4 rfl) ?_
  refine lv_icmp_ne (tgt := 863) hC.1.1 hC.1.2.1 dL_refuses_836 (by decide) (fun q => absurd rfl q) (fun _ => ?_)
  refine lv_aload_n hC.1.1 hC.1.2.1 dL_refuses_839 rfl (lv_at hl 6 rfl) ?_
  refine zi_sipush hC.1.1 hC.1.2.1 dL_refuses_840 rfl ?_
  refine g_chan hst hC hP hS hG dL_refuses_843 hl.1 (Nat.le_of_ble_eq_true rfl) ⟨(Nat.le_of_ble_eq_true rfl), (Nat.le_of_ble_eq_true rfl)⟩ ⟨(Nat.le_of_ble_eq_true rfl), (Nat.le_of_ble_eq_true rfl)⟩ (fun κ H locs hP hS => ?_)
  refine lv_iload_n hC.1.1 hC.1.2.1 dL_refuses_846 rfl (lv_at hl 3 rfl) ?_
  refine lv_icmp_ne (tgt := 863) hC.1.1 hC.1.2.1 dL_refuses_847 (by decide) (fun q => absurd rfl q) (fun _ => ?_)
  refine lv_aload_n hC.1.1 hC.1.2.1 dL_refuses_850 rfl (lv_at hl 6 rfl) ?_
  refine d_fine0 hC hP hS hG dL_refuses_851 hl.1 (Nat.le_of_ble_eq_true rfl) ⟨(Nat.le_of_ble_eq_true rfl), (Nat.le_of_ble_eq_true rfl)⟩ ⟨(Nat.le_of_ble_eq_true rfl), (Nat.le_of_ble_eq_true rfl)⟩ (fun κ H locs hP hS => ?_)
  refine lv_iload hC.1.1 hC.1.2.1 dL_refuses_854 (lv_at hl 2 rfl) ?_
  refine lv_icmp_ne (tgt := 863) hC.1.1 hC.1.2.1 dL_refuses_856 (by decide) (fun q => absurd rfl q) (fun _ => ?_)
  refine zi_const hC.1.1 hC.1.2.1 dL_refuses_859 ?_
  refine lv_goto (tgt := 864) hC.1.1 hC.1.2.1 dL_refuses_860 (by decide) ?_
  exact z_sreti (w := gS c h) (u := (σ, κ, ω)) (P := (fun (z : Int) (u : S3) => z = 1 ∧ u.1 = σ ∧ u.2.2 = ω)) hC.1 hr hlocks hP hS (Nat.le_of_ble_eq_true rfl) (Nat.le_of_ble_eq_true rfl) rfl ⟨rfl, rfl, rfl⟩ dL_refuses_864
set_option maxRecDepth 100000 in
set_option maxHeartbeats 4000000 in
theorem rf_3 (l : Launch) (hst : l.stackTraces = false) {p : Program} {e : Env} {s : State} {m : MethodId} {args : Array Value} {below : List Frame} {meth : Method} {cd : Code} {A : Nat → Prop} {h : Nat → Nat} {D : va_G} {c : Nat → ClassId} {σ : Nat → Nat → Int} {ω : Nat × (Nat → Int32) × Int32} {ac : Int} (hC : CX p m cd cL_refuses 16 s args h D c A) (hr : meth.sig.returnType = some .boolean) (hlocks : meth.locks = false) (hG : GI σ) (hac : -2147483648 ≤ ac ∧ ac ≤ 2147483647) (ha : ac = σ 0 1) (hlen : ∀ k, k < 16 → σ 14 k ≠ 0 → 1 ≤ σ 9 k) (hwt : ∀ k, k < 16 → σ 15 k = 0) (hn : ω.1 ≤ 6) (hby : ∀ j, j < ω.1 → ∃ x : Int, (97 ≤ x ∧ x ≤ 122) ∧ ω.2.1 j = iz x) : ∀ (κ : Nat → Nat → Int) (H : Heap) (locs : List Loc) (ls : Array Slot), zB 32 h D (gC c h σ κ ω) H → va_S A s.heap H locs → lv_has ls 16 [(6, .int (iz 3)), (5, .int (iz 2147483647)), (4, .int (iz (b2i (fineM σ)))), (3, .int (iz (chS σ 500 16))), (2, .int (iz (ldS σ 0 0 16))), (1, .int (iz ac)), (0, .ref (h 0))] → W p l e { frames := 11, cells := 900, slots := 6 * 900, locals := 240 } s m args below meth cd H locs 543 (6 * 543) (MQ below (va_Qi (fun r (u : Int × S3) => r = iz u.1 ∧ (fun (z : Int) (u : S3) => z = 1 ∧ u.1 = σ ∧ u.2.2 = ω) u.1 u.2) (fun u t => zB 32 h D (gS c h u.2) t.heap) A) args s 900 (6 * 900) A) (F0 m 28 ls []) := by
  intro κ H locs ls hP hS hl
  refine lv_iload hC.1.1 hC.1.2.1 dL_refuses_28 (lv_at hl 0 rfl) ?_
  refine zi_const hC.1.1 hC.1.2.1 dL_refuses_30 ?_
  refine zi_icmp_ge (tgt := 829) hC.1.1 hC.1.2.1 dL_refuses_31 (by decide) (by decide) (by decide) (fun q => absurd q (by decide)) (fun _ => ?_)
  refine lv_iload hC.1.1 hC.1.2.1 dL_refuses_34 (lv_at hl 0 rfl) ?_
  refine zi_if_ne (tgt := 43) hC.1.1 hC.1.2.1 dL_refuses_36 (by decide) (by decide) (fun _ => ?_) (fun q => absurd q (by decide))
  refine lv_iload hC.1.1 hC.1.2.1 dL_refuses_43 (lv_at hl 0 rfl) ?_
  refine zi_const hC.1.1 hC.1.2.1 dL_refuses_45 ?_
  refine zi_icmp_ne (tgt := 54) hC.1.1 hC.1.2.1 dL_refuses_46 (by decide) (by decide) (by decide) (fun _ => ?_) (fun q => absurd q (by decide))
  refine lv_iload hC.1.1 hC.1.2.1 dL_refuses_54 (lv_at hl 1 rfl) ?_
  refine zl_neg (v := (-2147483647)) hC.1.1 hC.1.2.1 (by decide) dL_refuses_56 ?_
  refine zi_const hC.1.1 hC.1.2.1 dL_refuses_57 ?_
  refine zl_sub (v := (-2147483648)) hC.1.1 hC.1.2.1 (by decide) dL_refuses_58 ?_
  refine lv_istore (lv' := [(7, .int (iz (-2147483648))), (6, .int (iz 3)), (5, .int (iz 2147483647)), (4, .int (iz (b2i (fineM σ)))), (3, .int (iz (chS σ 500 16))), (2, .int (iz (ldS σ 0 0 16))), (1, .int (iz ac)), (0, .ref (h 0))]) hC.1.1 hC.1.2.1 dL_refuses_59 hl (by decide) rfl (fun ls hl => ?_)
  refine lv_iload hC.1.1 hC.1.2.1 dL_refuses_61 (lv_at hl 1 rfl) ?_
  refine zi_const hC.1.1 hC.1.2.1 dL_refuses_63 ?_
  refine zi_icmp_ne (tgt := 71) hC.1.1 hC.1.2.1 dL_refuses_64 (by decide) (by decide) (by decide) (fun _ => ?_) (fun q => absurd q (by decide))
  refine lv_iload hC.1.1 hC.1.2.1 dL_refuses_71 (lv_at hl 0 rfl) ?_
  refine lv_istore (lv' := [(8, .int (iz (-2147483648))), (7, .int (iz (-2147483648))), (6, .int (iz 3)), (5, .int (iz 2147483647)), (4, .int (iz (b2i (fineM σ)))), (3, .int (iz (chS σ 500 16))), (2, .int (iz (ldS σ 0 0 16))), (1, .int (iz ac)), (0, .ref (h 0))]) hC.1.1 hC.1.2.1 dL_refuses_73 hl (by decide) rfl (fun ls hl => ?_)
  refine lv_iload hC.1.1 hC.1.2.1 dL_refuses_75 (lv_at hl 2 rfl) ?_
  refine zi_const hC.1.1 hC.1.2.1 dL_refuses_77 ?_
  refine zi_icmp_ne (tgt := 87) hC.1.1 hC.1.2.1 dL_refuses_78 (by decide) (by decide) (by decide) (fun _ => ?_) (fun q => absurd q (by decide))
  refine lv_iload hC.1.1 hC.1.2.1 dL_refuses_87 (lv_at hl 1 rfl) ?_
  refine lv_istore (lv' := [(9, .int (iz (-2147483648))), (8, .int (iz (-2147483648))), (7, .int (iz (-2147483648))), (6, .int (iz 3)), (5, .int (iz 2147483647)), (4, .int (iz (b2i (fineM σ)))), (3, .int (iz (chS σ 500 16))), (2, .int (iz (ldS σ 0 0 16))), (1, .int (iz ac)), (0, .ref (h 0))]) hC.1.1 hC.1.2.1 dL_refuses_89 hl (by decide) rfl (fun ls hl => ?_)
  refine lv_iload hC.1.1 hC.1.2.1 dL_refuses_91 (lv_at hl 3 rfl) ?_
  refine zi_const hC.1.1 hC.1.2.1 dL_refuses_93 ?_
  refine zi_icmp_ne (tgt := 103) hC.1.1 hC.1.2.1 dL_refuses_94 (by decide) (by decide) (by decide) (fun _ => ?_) (fun q => absurd q (by decide))
  refine lv_iload hC.1.1 hC.1.2.1 dL_refuses_103 (lv_at hl 2 rfl) ?_
  refine lv_istore (lv' := [(10, .int (iz (-2147483648))), (9, .int (iz (-2147483648))), (8, .int (iz (-2147483648))), (7, .int (iz (-2147483648))), (6, .int (iz 3)), (5, .int (iz 2147483647)), (4, .int (iz (b2i (fineM σ)))), (3, .int (iz (chS σ 500 16))), (2, .int (iz (ldS σ 0 0 16))), (1, .int (iz ac)), (0, .ref (h 0))]) hC.1.1 hC.1.2.1 dL_refuses_105 hl (by decide) rfl (fun ls hl => ?_)
  refine lv_iload hC.1.1 hC.1.2.1 dL_refuses_107 (lv_at hl 4 rfl) ?_
  refine zi_const hC.1.1 hC.1.2.1 dL_refuses_109 ?_
  refine zi_icmp_ne (tgt := 117) hC.1.1 hC.1.2.1 dL_refuses_110 (by decide) (by decide) (by decide) (fun _ => ?_) (fun q => absurd q (by decide))
  refine lv_iload hC.1.1 hC.1.2.1 dL_refuses_117 (lv_at hl 3 rfl) ?_
  refine lv_istore (lv' := [(11, .int (iz (-2147483648))), (10, .int (iz (-2147483648))), (9, .int (iz (-2147483648))), (8, .int (iz (-2147483648))), (7, .int (iz (-2147483648))), (6, .int (iz 3)), (5, .int (iz 2147483647)), (4, .int (iz (b2i (fineM σ)))), (3, .int (iz (chS σ 500 16))), (2, .int (iz (ldS σ 0 0 16))), (1, .int (iz ac)), (0, .ref (h 0))]) hC.1.1 hC.1.2.1 dL_refuses_119 hl (by decide) rfl (fun ls hl => ?_)
  refine lv_iload hC.1.1 hC.1.2.1 dL_refuses_121 (lv_at hl 5 rfl) ?_
  refine zi_if_ne (tgt := 131) hC.1.1 hC.1.2.1 dL_refuses_123 (by decide) (by decide) (fun _ => ?_) (fun q => absurd q (by decide))
  refine lv_iload hC.1.1 hC.1.2.1 dL_refuses_131 (lv_at hl 5 rfl) ?_
  refine zi_const hC.1.1 hC.1.2.1 dL_refuses_133 ?_
  refine zi_icmp_ne (tgt := 142) hC.1.1 hC.1.2.1 dL_refuses_134 (by decide) (by decide) (by decide) (fun _ => ?_) (fun q => absurd q (by decide))
  refine lv_iload hC.1.1 hC.1.2.1 dL_refuses_142 (lv_at hl 4 rfl) ?_
  refine lv_istore (lv' := [(12, .int (iz (-2147483648))), (11, .int (iz (-2147483648))), (10, .int (iz (-2147483648))), (9, .int (iz (-2147483648))), (8, .int (iz (-2147483648))), (7, .int (iz (-2147483648))), (6, .int (iz 3)), (5, .int (iz 2147483647)), (4, .int (iz (b2i (fineM σ)))), (3, .int (iz (chS σ 500 16))), (2, .int (iz (ldS σ 0 0 16))), (1, .int (iz ac)), (0, .ref (h 0))]) hC.1.1 hC.1.2.1 dL_refuses_144 hl (by decide) rfl (fun ls hl => ?_)
  refine lv_aload_n hC.1.1 hC.1.2.1 dL_refuses_146 rfl (lv_at hl 12 rfl) ?_
  refine zi_const hC.1.1 hC.1.2.1 dL_refuses_147 ?_
  refine lv_iload hC.1.1 hC.1.2.1 dL_refuses_148 (lv_at hl 3 rfl) ?_
  refine zi_const hC.1.1 hC.1.2.1 dL_refuses_150 ?_
  refine zi_const hC.1.1 hC.1.2.1 dL_refuses_151 ?_
  refine hx_act0_1 hst hC hP hS hG (by decide) (by unfold thS; rw [if_neg (by omega)]) dL_refuses_152 hl.1 (Nat.le_of_ble_eq_true rfl) ⟨(Nat.le_of_ble_eq_true rfl), (Nat.le_of_ble_eq_true rfl)⟩ ⟨(Nat.le_of_ble_eq_true rfl), (Nat.le_of_ble_eq_true rfl)⟩ (fun H locs hP hS => ?_)
  refine zi_bipush hC.1.1 hC.1.2.1 dL_refuses_155 rfl ?_
  refine zi_icmp_ne (tgt := 529) hC.1.1 hC.1.2.1 dL_refuses_157 (by decide) (by decide) (by decide) (fun q => absurd q (by decide)) (fun _ => ?_)
  refine lv_aload_n hC.1.1 hC.1.2.1 dL_refuses_160 rfl (lv_at hl 12 rfl) ?_
  refine zi_const hC.1.1 hC.1.2.1 dL_refuses_161 ?_
  refine lv_iload hC.1.1 hC.1.2.1 dL_refuses_162 (lv_at hl 4 rfl) ?_
  refine zi_const hC.1.1 hC.1.2.1 dL_refuses_164 ?_
  refine zi_const hC.1.1 hC.1.2.1 dL_refuses_165 ?_
  refine hx_act1_1 hst hC hP hS hG (by decide) (by decide) (by decide) dL_refuses_166 hl.1 (Nat.le_of_ble_eq_true rfl) ⟨(Nat.le_of_ble_eq_true rfl), (Nat.le_of_ble_eq_true rfl)⟩ ⟨(Nat.le_of_ble_eq_true rfl), (Nat.le_of_ble_eq_true rfl)⟩ (fun H locs hP hS => ?_)
  refine zi_bipush hC.1.1 hC.1.2.1 dL_refuses_169 rfl ?_
  refine zi_icmp_ne (tgt := 529) hC.1.1 hC.1.2.1 dL_refuses_171 (by decide) (by decide) (by decide) (fun q => absurd q (by decide)) (fun _ => ?_)
  refine lv_aload_n hC.1.1 hC.1.2.1 dL_refuses_174 rfl (lv_at hl 12 rfl) ?_
  refine zi_const hC.1.1 hC.1.2.1 dL_refuses_175 ?_
  refine zi_const hC.1.1 hC.1.2.1 dL_refuses_176 ?_
  refine lv_iload hC.1.1 hC.1.2.1 dL_refuses_177 (lv_at hl 6 rfl) ?_
  refine zi_const hC.1.1 hC.1.2.1 dL_refuses_179 ?_
  refine zi_icmp_ne (tgt := 188) hC.1.1 hC.1.2.1 dL_refuses_180 (by decide) (by decide) (by decide) (fun _ => ?_) (fun q => absurd q (by decide))
  refine lv_iload hC.1.1 hC.1.2.1 dL_refuses_188 (lv_at hl 5 rfl) ?_
  refine zi_const hC.1.1 hC.1.2.1 dL_refuses_190 ?_
  refine hx_act1_2 hst hC hP hS hG (by decide) (by decide) (by decide) dL_refuses_191 hl.1 (Nat.le_of_ble_eq_true rfl) ⟨(Nat.le_of_ble_eq_true rfl), (Nat.le_of_ble_eq_true rfl)⟩ ⟨(Nat.le_of_ble_eq_true rfl), (Nat.le_of_ble_eq_true rfl)⟩ (fun H locs hP hS => ?_)
  refine zi_bipush hC.1.1 hC.1.2.1 dL_refuses_194 rfl ?_
  refine zi_icmp_ne (tgt := 529) hC.1.1 hC.1.2.1 dL_refuses_196 (by decide) (by decide) (by decide) (fun q => absurd q (by decide)) (fun _ => ?_)
  refine lv_aload_n hC.1.1 hC.1.2.1 dL_refuses_199 rfl (lv_at hl 12 rfl) ?_
  refine zi_const hC.1.1 hC.1.2.1 dL_refuses_200 ?_
  refine lv_iload hC.1.1 hC.1.2.1 dL_refuses_201 (lv_at hl 4 rfl) ?_
  refine zi_const hC.1.1 hC.1.2.1 dL_refuses_203 ?_
  refine zi_const hC.1.1 hC.1.2.1 dL_refuses_204 ?_
  refine hx_act2_1 hst hC hP hS hG (by decide) (by decide) (by decide) dL_refuses_205 hl.1 (Nat.le_of_ble_eq_true rfl) ⟨(Nat.le_of_ble_eq_true rfl), (Nat.le_of_ble_eq_true rfl)⟩ ⟨(Nat.le_of_ble_eq_true rfl), (Nat.le_of_ble_eq_true rfl)⟩ (fun H locs hP hS => ?_)
  refine zi_bipush hC.1.1 hC.1.2.1 dL_refuses_208 rfl ?_
  refine zi_icmp_ne (tgt := 529) hC.1.1 hC.1.2.1 dL_refuses_210 (by decide) (by decide) (by decide) (fun q => absurd q (by decide)) (fun _ => ?_)
  refine lv_aload_n hC.1.1 hC.1.2.1 dL_refuses_213 rfl (lv_at hl 12 rfl) ?_
  refine zi_const hC.1.1 hC.1.2.1 dL_refuses_214 ?_
  refine zi_const hC.1.1 hC.1.2.1 dL_refuses_215 ?_
  refine lv_iload hC.1.1 hC.1.2.1 dL_refuses_216 (lv_at hl 6 rfl) ?_
  refine zi_if_ne (tgt := 226) hC.1.1 hC.1.2.1 dL_refuses_218 (by decide) (by decide) (fun _ => ?_) (fun q => absurd q (by decide))
  refine lv_iload hC.1.1 hC.1.2.1 dL_refuses_226 (lv_at hl 6 rfl) ?_
  refine zi_const hC.1.1 hC.1.2.1 dL_refuses_228 ?_
  refine zi_icmp_ne (tgt := 238) hC.1.1 hC.1.2.1 dL_refuses_229 (by decide) (by decide) (by decide) (fun _ => ?_) (fun q => absurd q (by decide))
  refine lv_iload hC.1.1 hC.1.2.1 dL_refuses_238 (lv_at hl 5 rfl) ?_
  refine zi_const hC.1.1 hC.1.2.1 dL_refuses_240 ?_
  refine hx_act2_2 hst hC hP hS hG (by decide) (by decide) (by decide) dL_refuses_241 hl.1 (Nat.le_of_ble_eq_true rfl) ⟨(Nat.le_of_ble_eq_true rfl), (Nat.le_of_ble_eq_true rfl)⟩ ⟨(Nat.le_of_ble_eq_true rfl), (Nat.le_of_ble_eq_true rfl)⟩ (fun H locs hP hS => ?_)
  refine zi_bipush hC.1.1 hC.1.2.1 dL_refuses_244 rfl ?_
  refine zi_icmp_ne (tgt := 529) hC.1.1 hC.1.2.1 dL_refuses_246 (by decide) (by decide) (by decide) (fun q => absurd q (by decide)) (fun _ => ?_)
  refine lv_aload_n hC.1.1 hC.1.2.1 dL_refuses_249 rfl (lv_at hl 12 rfl) ?_
  refine zi_const hC.1.1 hC.1.2.1 dL_refuses_250 ?_
  refine lv_iload hC.1.1 hC.1.2.1 dL_refuses_251 (lv_at hl 6 rfl) ?_
  refine zi_const hC.1.1 hC.1.2.1 dL_refuses_253 ?_
  refine zi_icmp_ne (tgt := 262) hC.1.1 hC.1.2.1 dL_refuses_254 (by decide) (by decide) (by decide) (fun _ => ?_) (fun q => absurd q (by decide))
  refine lv_iload hC.1.1 hC.1.2.1 dL_refuses_262 (lv_at hl 5 rfl) ?_
  refine zi_bipush hC.1.1 hC.1.2.1 dL_refuses_264 rfl ?_
  refine zi_const hC.1.1 hC.1.2.1 dL_refuses_266 ?_
  refine hx_act3_1 hst hC hP hS hG (by decide) (by decide) (by decide) dL_refuses_267 hl.1 (Nat.le_of_ble_eq_true rfl) ⟨(Nat.le_of_ble_eq_true rfl), (Nat.le_of_ble_eq_true rfl)⟩ ⟨(Nat.le_of_ble_eq_true rfl), (Nat.le_of_ble_eq_true rfl)⟩ (fun H locs hP hS => ?_)
  refine zi_bipush hC.1.1 hC.1.2.1 dL_refuses_270 rfl ?_
  refine zi_icmp_ne (tgt := 529) hC.1.1 hC.1.2.1 dL_refuses_272 (by decide) (by decide) (by decide) (fun q => absurd q (by decide)) (fun _ => ?_)
  refine lv_aload_n hC.1.1 hC.1.2.1 dL_refuses_275 rfl (lv_at hl 12 rfl) ?_
  refine zi_const hC.1.1 hC.1.2.1 dL_refuses_276 ?_
  refine zi_const hC.1.1 hC.1.2.1 dL_refuses_277 ?_
  refine lv_iload hC.1.1 hC.1.2.1 dL_refuses_278 (lv_at hl 6 rfl) ?_
  refine zi_if_ne (tgt := 288) hC.1.1 hC.1.2.1 dL_refuses_280 (by decide) (by decide) (fun _ => ?_) (fun q => absurd q (by decide))
  refine lv_iload hC.1.1 hC.1.2.1 dL_refuses_288 (lv_at hl 6 rfl) ?_
  refine zi_const hC.1.1 hC.1.2.1 dL_refuses_290 ?_
  refine zi_icmp_ne (tgt := 299) hC.1.1 hC.1.2.1 dL_refuses_291 (by decide) (by decide) (by decide) (fun _ => ?_) (fun q => absurd q (by decide))
  refine lv_iload hC.1.1 hC.1.2.1 dL_refuses_299 (lv_at hl 5 rfl) ?_
  refine zi_const hC.1.1 hC.1.2.1 dL_refuses_301 ?_
  refine hx_act3_2 hst hC hP hS hG (by decide) (by decide) (by decide) dL_refuses_302 hl.1 (Nat.le_of_ble_eq_true rfl) ⟨(Nat.le_of_ble_eq_true rfl), (Nat.le_of_ble_eq_true rfl)⟩ ⟨(Nat.le_of_ble_eq_true rfl), (Nat.le_of_ble_eq_true rfl)⟩ (fun H locs hP hS => ?_)
  refine zi_bipush hC.1.1 hC.1.2.1 dL_refuses_305 rfl ?_
  refine zi_icmp_ne (tgt := 529) hC.1.1 hC.1.2.1 dL_refuses_307 (by decide) (by decide) (by decide) (fun q => absurd q (by decide)) (fun _ => ?_)
  refine lv_aload_n hC.1.1 hC.1.2.1 dL_refuses_310 rfl (lv_at hl 12 rfl) ?_
  refine zi_const hC.1.1 hC.1.2.1 dL_refuses_311 ?_
  refine lv_iload hC.1.1 hC.1.2.1 dL_refuses_312 (lv_at hl 1 rfl) ?_
  refine zi_const hC.1.1 hC.1.2.1 dL_refuses_314 ?_
  refine zi_const hC.1.1 hC.1.2.1 dL_refuses_315 ?_
  refine hx_act4_1 hst hC hP hS hG (by decide) (by decide) (by unfold thM; rw [if_neg (by omega)]) dL_refuses_316 hl.1 (Nat.le_of_ble_eq_true rfl) ⟨(Nat.le_of_ble_eq_true rfl), (Nat.le_of_ble_eq_true rfl)⟩ ⟨(Nat.le_of_ble_eq_true rfl), (Nat.le_of_ble_eq_true rfl)⟩ (fun H locs hP hS => ?_)
  refine zi_bipush hC.1.1 hC.1.2.1 dL_refuses_319 rfl ?_
  refine zi_icmp_ne (tgt := 529) hC.1.1 hC.1.2.1 dL_refuses_321 (by decide) (by decide) (by decide) (fun q => absurd q (by decide)) (fun _ => ?_)
  refine lv_aload_n hC.1.1 hC.1.2.1 dL_refuses_324 rfl (lv_at hl 12 rfl) ?_
  refine zi_const hC.1.1 hC.1.2.1 dL_refuses_325 ?_
  refine lv_iload hC.1.1 hC.1.2.1 dL_refuses_326 (lv_at hl 1 rfl) ?_
  refine zi_const hC.1.1 hC.1.2.1 dL_refuses_328 ?_
  refine zi_const hC.1.1 hC.1.2.1 dL_refuses_329 ?_
  refine hx_act5_1 hst hC hP hS hG (by decide) (by unfold th1; rw [if_neg (by omega)]) dL_refuses_330 hl.1 (Nat.le_of_ble_eq_true rfl) ⟨(Nat.le_of_ble_eq_true rfl), (Nat.le_of_ble_eq_true rfl)⟩ ⟨(Nat.le_of_ble_eq_true rfl), (Nat.le_of_ble_eq_true rfl)⟩ (fun H locs hP hS => ?_)
  refine zi_bipush hC.1.1 hC.1.2.1 dL_refuses_333 rfl ?_
  refine zi_icmp_ne (tgt := 529) hC.1.1 hC.1.2.1 dL_refuses_335 (by decide) (by decide) (by decide) (fun q => absurd q (by decide)) (fun _ => ?_)
  refine lv_aload_n hC.1.1 hC.1.2.1 dL_refuses_338 rfl (lv_at hl 12 rfl) ?_
  refine zi_bipush hC.1.1 hC.1.2.1 dL_refuses_339 rfl ?_
  refine lv_iload hC.1.1 hC.1.2.1 dL_refuses_341 (lv_at hl 1 rfl) ?_
  refine zi_const hC.1.1 hC.1.2.1 dL_refuses_343 ?_
  refine zi_const hC.1.1 hC.1.2.1 dL_refuses_344 ?_
  refine hx_act6_1 hst hC hP hS hG (by decide) (by decide) hlen (by unfold thM; rw [if_neg (by omega)]) dL_refuses_345 hl.1 (Nat.le_of_ble_eq_true rfl) ⟨(Nat.le_of_ble_eq_true rfl), (Nat.le_of_ble_eq_true rfl)⟩ ⟨(Nat.le_of_ble_eq_true rfl), (Nat.le_of_ble_eq_true rfl)⟩ (fun H locs hP hS => ?_)
  refine zi_bipush hC.1.1 hC.1.2.1 dL_refuses_348 rfl ?_
  refine zi_icmp_ne (tgt := 529) hC.1.1 hC.1.2.1 dL_refuses_350 (by decide) (by decide) (by decide) (fun q => absurd q (by decide)) (fun _ => ?_)
  refine lv_aload_n hC.1.1 hC.1.2.1 dL_refuses_353 rfl (lv_at hl 12 rfl) ?_
  refine lv_iload hC.1.1 hC.1.2.1 dL_refuses_354 (lv_at hl 1 rfl) ?_
  refine hx_drop_1 hst hC hP hS hG (by decide) (by unfold thD; rw [if_neg (by omega)]) dL_refuses_356 hl.1 (Nat.le_of_ble_eq_true rfl) ⟨(Nat.le_of_ble_eq_true rfl), (Nat.le_of_ble_eq_true rfl)⟩ ⟨(Nat.le_of_ble_eq_true rfl), (Nat.le_of_ble_eq_true rfl)⟩ (fun H locs hP hS => ?_)
  refine zi_bipush hC.1.1 hC.1.2.1 dL_refuses_359 rfl ?_
  refine zi_icmp_ne (tgt := 529) hC.1.1 hC.1.2.1 dL_refuses_361 (by decide) (by decide) (by decide) (fun q => absurd q (by decide)) (fun _ => ?_)
  refine lv_aload_n hC.1.1 hC.1.2.1 dL_refuses_364 rfl (lv_at hl 12 rfl) ?_
  refine zi_bipush hC.1.1 hC.1.2.1 dL_refuses_365 rfl ?_
  refine lv_iload hC.1.1 hC.1.2.1 dL_refuses_367 (lv_at hl 1 rfl) ?_
  refine zi_const hC.1.1 hC.1.2.1 dL_refuses_369 ?_
  refine zi_const hC.1.1 hC.1.2.1 dL_refuses_370 ?_
  refine hx_act7_1 hst hC hP hS hG (by decide) hn hby (by omega) dL_refuses_371 hl.1 (Nat.le_of_ble_eq_true rfl) ⟨(Nat.le_of_ble_eq_true rfl), (Nat.le_of_ble_eq_true rfl)⟩ ⟨(Nat.le_of_ble_eq_true rfl), (Nat.le_of_ble_eq_true rfl)⟩ (fun H locs hP hS => ?_)
  refine zi_bipush hC.1.1 hC.1.2.1 dL_refuses_374 rfl ?_
  refine zi_icmp_ne (tgt := 529) hC.1.1 hC.1.2.1 dL_refuses_376 (by decide) (by decide) (by decide) (fun q => absurd q (by decide)) (fun _ => ?_)
  refine lv_aload_n hC.1.1 hC.1.2.1 dL_refuses_379 rfl (lv_at hl 12 rfl) ?_
  refine zi_bipush hC.1.1 hC.1.2.1 dL_refuses_380 rfl ?_
  refine lv_iload hC.1.1 hC.1.2.1 dL_refuses_382 (lv_at hl 1 rfl) ?_
  refine zi_const hC.1.1 hC.1.2.1 dL_refuses_384 ?_
  refine zi_const hC.1.1 hC.1.2.1 dL_refuses_385 ?_
  refine hx_act8_1 hst hC hP hS hG (by decide) (by decide) (by unfold thO; rw [if_neg (by omega)]) dL_refuses_386 hl.1 (Nat.le_of_ble_eq_true rfl) ⟨(Nat.le_of_ble_eq_true rfl), (Nat.le_of_ble_eq_true rfl)⟩ ⟨(Nat.le_of_ble_eq_true rfl), (Nat.le_of_ble_eq_true rfl)⟩ (fun H locs hP hS => ?_)
  refine zi_bipush hC.1.1 hC.1.2.1 dL_refuses_389 rfl ?_
  refine zi_icmp_ne (tgt := 529) hC.1.1 hC.1.2.1 dL_refuses_391 (by decide) (by decide) (by decide) (fun q => absurd q (by decide)) (fun _ => ?_)
  refine lv_aload_n hC.1.1 hC.1.2.1 dL_refuses_394 rfl (lv_at hl 12 rfl) ?_
  refine zi_bipush hC.1.1 hC.1.2.1 dL_refuses_395 rfl ?_
  refine lv_iload hC.1.1 hC.1.2.1 dL_refuses_397 (lv_at hl 4 rfl) ?_
  refine zi_const hC.1.1 hC.1.2.1 dL_refuses_399 ?_
  refine zi_const hC.1.1 hC.1.2.1 dL_refuses_400 ?_
  refine hx_act9_1 hst hC hP hS hG (by decide) (by decide) (by decide) hlen hwt (by unfold thX; rw [if_neg (by omega)]) dL_refuses_401 hl.1 (Nat.le_of_ble_eq_true rfl) ⟨(Nat.le_of_ble_eq_true rfl), (Nat.le_of_ble_eq_true rfl)⟩ ⟨(Nat.le_of_ble_eq_true rfl), (Nat.le_of_ble_eq_true rfl)⟩ (fun H locs hP hS => ?_)
  refine zi_bipush hC.1.1 hC.1.2.1 dL_refuses_404 rfl ?_
  refine zi_icmp_ne (tgt := 529) hC.1.1 hC.1.2.1 dL_refuses_406 (by decide) (by decide) (by decide) (fun q => absurd q (by decide)) (fun _ => ?_)
  refine lv_aload_n hC.1.1 hC.1.2.1 dL_refuses_409 rfl (lv_at hl 12 rfl) ?_
  refine zi_bipush hC.1.1 hC.1.2.1 dL_refuses_410 rfl ?_
  refine zi_const hC.1.1 hC.1.2.1 dL_refuses_412 ?_
  refine lv_iload hC.1.1 hC.1.2.1 dL_refuses_413 (lv_at hl 3 rfl) ?_
  refine zi_const hC.1.1 hC.1.2.1 dL_refuses_415 ?_
  refine hx_act9_2 hst hC hP hS hG (by decide) (by decide) (by decide) hlen hwt (by unfold thX; rw [if_pos (by omega), if_neg (by omega)]) dL_refuses_416 hl.1 (Nat.le_of_ble_eq_true rfl) ⟨(Nat.le_of_ble_eq_true rfl), (Nat.le_of_ble_eq_true rfl)⟩ ⟨(Nat.le_of_ble_eq_true rfl), (Nat.le_of_ble_eq_true rfl)⟩ (fun H locs hP hS => ?_)
  refine zi_bipush hC.1.1 hC.1.2.1 dL_refuses_419 rfl ?_
  refine zi_icmp_ne (tgt := 529) hC.1.1 hC.1.2.1 dL_refuses_421 (by decide) (by decide) (by decide) (fun q => absurd q (by decide)) (fun _ => ?_)
  refine lv_aload_n hC.1.1 hC.1.2.1 dL_refuses_424 rfl (lv_at hl 12 rfl) ?_
  refine zi_bipush hC.1.1 hC.1.2.1 dL_refuses_425 rfl ?_
  refine zi_const hC.1.1 hC.1.2.1 dL_refuses_427 ?_
  refine zi_const hC.1.1 hC.1.2.1 dL_refuses_428 ?_
  refine lv_iload hC.1.1 hC.1.2.1 dL_refuses_429 (lv_at hl 6 rfl) ?_
  refine zi_if_ne (tgt := 438) hC.1.1 hC.1.2.1 dL_refuses_431 (by decide) (by decide) (fun _ => ?_) (fun q => absurd q (by decide))
  refine lv_iload hC.1.1 hC.1.2.1 dL_refuses_438 (lv_at hl 2 rfl) ?_
  refine hx_act9_2 hst hC hP hS hG (by decide) (by decide) (by decide) hlen hwt (by unfold thX; rw [if_pos (by omega), if_neg (by omega)]) dL_refuses_440 hl.1 (Nat.le_of_ble_eq_true rfl) ⟨(Nat.le_of_ble_eq_true rfl), (Nat.le_of_ble_eq_true rfl)⟩ ⟨(Nat.le_of_ble_eq_true rfl), (Nat.le_of_ble_eq_true rfl)⟩ (fun H locs hP hS => ?_)
  refine zi_bipush hC.1.1 hC.1.2.1 dL_refuses_443 rfl ?_
  refine zi_icmp_ne (tgt := 529) hC.1.1 hC.1.2.1 dL_refuses_445 (by decide) (by decide) (by decide) (fun q => absurd q (by decide)) (fun _ => ?_)
  refine lv_aload_n hC.1.1 hC.1.2.1 dL_refuses_448 rfl (lv_at hl 12 rfl) ?_
  refine zi_bipush hC.1.1 hC.1.2.1 dL_refuses_449 rfl ?_
  refine lv_iload hC.1.1 hC.1.2.1 dL_refuses_451 (lv_at hl 3 rfl) ?_
  refine lv_iload hC.1.1 hC.1.2.1 dL_refuses_453 (lv_at hl 4 rfl) ?_
  refine zi_const hC.1.1 hC.1.2.1 dL_refuses_455 ?_
  refine hx_act10_1 hst hC hP hS hG (by decide) (by decide) (by decide) dL_refuses_456 hl.1 (Nat.le_of_ble_eq_true rfl) ⟨(Nat.le_of_ble_eq_true rfl), (Nat.le_of_ble_eq_true rfl)⟩ ⟨(Nat.le_of_ble_eq_true rfl), (Nat.le_of_ble_eq_true rfl)⟩ (fun H locs hP hS => ?_)
  refine zi_bipush hC.1.1 hC.1.2.1 dL_refuses_459 rfl ?_
  refine zi_icmp_ne (tgt := 529) hC.1.1 hC.1.2.1 dL_refuses_461 (by decide) (by decide) (by decide) (fun q => absurd q (by decide)) (fun _ => ?_)
  refine lv_aload_n hC.1.1 hC.1.2.1 dL_refuses_464 rfl (lv_at hl 12 rfl) ?_
  refine zi_bipush hC.1.1 hC.1.2.1 dL_refuses_465 rfl ?_
  refine lv_iload hC.1.1 hC.1.2.1 dL_refuses_467 (lv_at hl 3 rfl) ?_
  refine zi_const hC.1.1 hC.1.2.1 dL_refuses_469 ?_
  refine zi_const hC.1.1 hC.1.2.1 dL_refuses_470 ?_
  refine hx_act10_2 hst hC hP hS hG (by decide) (by decide) (by decide) dL_refuses_471 hl.1 (Nat.le_of_ble_eq_true rfl) ⟨(Nat.le_of_ble_eq_true rfl), (Nat.le_of_ble_eq_true rfl)⟩ ⟨(Nat.le_of_ble_eq_true rfl), (Nat.le_of_ble_eq_true rfl)⟩ (fun H locs hP hS => ?_)
  refine zi_bipush hC.1.1 hC.1.2.1 dL_refuses_474 rfl ?_
  refine zi_icmp_ne (tgt := 529) hC.1.1 hC.1.2.1 dL_refuses_476 (by decide) (by decide) (by decide) (fun q => absurd q (by decide)) (fun _ => ?_)
  refine lv_aload_n hC.1.1 hC.1.2.1 dL_refuses_479 rfl (lv_at hl 12 rfl) ?_
  refine zi_bipush hC.1.1 hC.1.2.1 dL_refuses_480 rfl ?_
  refine lv_iload hC.1.1 hC.1.2.1 dL_refuses_482 (lv_at hl 3 rfl) ?_
  refine lv_iload hC.1.1 hC.1.2.1 dL_refuses_484 (lv_at hl 4 rfl) ?_
  refine zi_const hC.1.1 hC.1.2.1 dL_refuses_486 ?_
  refine hx_act11_1 hst hC hP hS hG (by decide) (by decide) (by decide) dL_refuses_487 hl.1 (Nat.le_of_ble_eq_true rfl) ⟨(Nat.le_of_ble_eq_true rfl), (Nat.le_of_ble_eq_true rfl)⟩ ⟨(Nat.le_of_ble_eq_true rfl), (Nat.le_of_ble_eq_true rfl)⟩ (fun H locs hP hS => ?_)
  refine zi_bipush hC.1.1 hC.1.2.1 dL_refuses_490 rfl ?_
  refine zi_icmp_ne (tgt := 529) hC.1.1 hC.1.2.1 dL_refuses_492 (by decide) (by decide) (by decide) (fun q => absurd q (by decide)) (fun _ => ?_)
  refine lv_aload_n hC.1.1 hC.1.2.1 dL_refuses_495 rfl (lv_at hl 12 rfl) ?_
  refine zi_bipush hC.1.1 hC.1.2.1 dL_refuses_496 rfl ?_
  refine lv_iload hC.1.1 hC.1.2.1 dL_refuses_498 (lv_at hl 3 rfl) ?_
  refine zi_const hC.1.1 hC.1.2.1 dL_refuses_500 ?_
  refine zi_const hC.1.1 hC.1.2.1 dL_refuses_501 ?_
  refine hx_act11_2 hst hC hP hS hG (by decide) (by decide) (by decide) dL_refuses_502 hl.1 (Nat.le_of_ble_eq_true rfl) ⟨(Nat.le_of_ble_eq_true rfl), (Nat.le_of_ble_eq_true rfl)⟩ ⟨(Nat.le_of_ble_eq_true rfl), (Nat.le_of_ble_eq_true rfl)⟩ (fun H locs hP hS => ?_)
  refine zi_bipush hC.1.1 hC.1.2.1 dL_refuses_505 rfl ?_
  refine zi_icmp_ne (tgt := 529) hC.1.1 hC.1.2.1 dL_refuses_507 (by decide) (by decide) (by decide) (fun q => absurd q (by decide)) (fun _ => ?_)
  refine lv_aload_n hC.1.1 hC.1.2.1 dL_refuses_510 rfl (lv_at hl 12 rfl) ?_
  refine zi_bipush hC.1.1 hC.1.2.1 dL_refuses_511 rfl ?_
  refine lv_iload hC.1.1 hC.1.2.1 dL_refuses_513 (lv_at hl 3 rfl) ?_
  refine zi_const hC.1.1 hC.1.2.1 dL_refuses_515 ?_
  refine zi_const hC.1.1 hC.1.2.1 dL_refuses_516 ?_
  refine hx_act12_1 hst hC hP hS hG (by decide) (by decide) dL_refuses_517 hl.1 (Nat.le_of_ble_eq_true rfl) ⟨(Nat.le_of_ble_eq_true rfl), (Nat.le_of_ble_eq_true rfl)⟩ ⟨(Nat.le_of_ble_eq_true rfl), (Nat.le_of_ble_eq_true rfl)⟩ (fun H locs hP hS => ?_)
  refine zi_bipush hC.1.1 hC.1.2.1 dL_refuses_520 rfl ?_
  refine zi_icmp_ne (tgt := 529) hC.1.1 hC.1.2.1 dL_refuses_522 (by decide) (by decide) (by decide) (fun q => absurd q (by decide)) (fun _ => ?_)
  refine zi_const hC.1.1 hC.1.2.1 dL_refuses_525 ?_
  refine lv_goto (tgt := 530) hC.1.1 hC.1.2.1 dL_refuses_526 (by decide) ?_
  refine lv_istore (lv' := [(13, .int (iz 1)), (12, .int (iz (-2147483648))), (11, .int (iz (-2147483648))), (10, .int (iz (-2147483648))), (9, .int (iz (-2147483648))), (8, .int (iz (-2147483648))), (7, .int (iz (-2147483648))), (6, .int (iz 3)), (5, .int (iz 2147483647)), (4, .int (iz (b2i (fineM σ)))), (3, .int (iz (chS σ 500 16))), (2, .int (iz (ldS σ 0 0 16))), (1, .int (iz ac)), (0, .ref (h 0))]) hC.1.1 hC.1.2.1 dL_refuses_530 hl (by decide) rfl (fun ls hl => ?_)
  refine lv_iload hC.1.1 hC.1.2.1 dL_refuses_532 (lv_at hl 0 rfl) ?_
  refine zi_if_eq (tgt := 589) hC.1.1 hC.1.2.1 dL_refuses_534 (by decide) (by decide) (fun q => absurd q (by decide)) (fun _ => ?_)
  refine lv_iload_n hC.1.1 hC.1.2.1 dL_refuses_537 rfl (lv_at hl 12 rfl) ?_
  have j585 : ∀ (H : Heap) (locs : List Loc), zB 32 h D (gC c h σ κ ω) H → va_S A s.heap H locs → W p l e { frames := 11, cells := 900, slots := 6 * 900, locals := 240 } s m args below meth cd H locs 600 (6 * 600) (MQ below (va_Qi (fun r (u : Int × S3) => r = iz u.1 ∧ (fun (z : Int) (u : S3) => z = 1 ∧ u.1 = σ ∧ u.2.2 = ω) u.1 u.2) (fun u t => zB 32 h D (gS c h u.2) t.heap) A) args s 900 (6 * 900) A) (F0 m 585 ls []) := fun H locs hP hS => by
    refine zi_const hC.1.1 hC.1.2.1 dL_refuses_585 ?_
    refine lv_goto (tgt := 590) hC.1.1 hC.1.2.1 dL_refuses_586 (by decide) ?_
    refine lv_istore (lv' := [(13, .int (iz 1)), (12, .int (iz (-2147483648))), (11, .int (iz (-2147483648))), (10, .int (iz (-2147483648))), (9, .int (iz (-2147483648))), (8, .int (iz (-2147483648))), (7, .int (iz (-2147483648))), (6, .int (iz 3)), (5, .int (iz 2147483647)), (4, .int (iz (b2i (fineM σ)))), (3, .int (iz (chS σ 500 16))), (2, .int (iz (ldS σ 0 0 16))), (1, .int (iz ac)), (0, .ref (h 0))]) hC.1.1 hC.1.2.1 dL_refuses_590 hl (by decide) rfl (fun ls hl => ?_)
    refine zi_const hC.1.1 hC.1.2.1 dL_refuses_592 ?_
    refine lv_istore (lv' := [(14, .int (iz 0)), (13, .int (iz 1)), (12, .int (iz (-2147483648))), (11, .int (iz (-2147483648))), (10, .int (iz (-2147483648))), (9, .int (iz (-2147483648))), (8, .int (iz (-2147483648))), (7, .int (iz (-2147483648))), (6, .int (iz 3)), (5, .int (iz 2147483647)), (4, .int (iz (b2i (fineM σ)))), (3, .int (iz (chS σ 500 16))), (2, .int (iz (ldS σ 0 0 16))), (1, .int (iz ac)), (0, .ref (h 0))]) hC.1.1 hC.1.2.1 dL_refuses_593 hl (by decide) rfl (fun ls hl => ?_)
    refine lv_iload hC.1.1 hC.1.2.1 dL_refuses_595 (lv_at hl 0 rfl) ?_
    refine zi_const hC.1.1 hC.1.2.1 dL_refuses_597 ?_
    refine zi_icmp_ge (tgt := 773) hC.1.1 hC.1.2.1 dL_refuses_598 (by decide) (by decide) (by decide) (fun q => absurd q (by decide)) (fun _ => ?_)
    refine lv_iload hC.1.1 hC.1.2.1 dL_refuses_601 (lv_at hl 0 rfl) ?_
    refine zi_if_ne (tgt := 610) hC.1.1 hC.1.2.1 dL_refuses_603 (by decide) (by decide) (fun q => absurd q (by decide)) (fun _ => ?_)
    refine zi_const hC.1.1 hC.1.2.1 dL_refuses_606 ?_
    refine lv_goto (tgt := 611) hC.1.1 hC.1.2.1 dL_refuses_607 (by decide) ?_
    refine lv_istore (lv' := [(15, .int (iz 1)), (14, .int (iz 0)), (13, .int (iz 1)), (12, .int (iz (-2147483648))), (11, .int (iz (-2147483648))), (10, .int (iz (-2147483648))), (9, .int (iz (-2147483648))), (8, .int (iz (-2147483648))), (7, .int (iz (-2147483648))), (6, .int (iz 3)), (5, .int (iz 2147483647)), (4, .int (iz (b2i (fineM σ)))), (3, .int (iz (chS σ 500 16))), (2, .int (iz (ldS σ 0 0 16))), (1, .int (iz ac)), (0, .ref (h 0))]) hC.1.1 hC.1.2.1 dL_refuses_611 hl (by decide) rfl (fun ls hl => ?_)
    refine lv_iload hC.1.1 hC.1.2.1 dL_refuses_613 (lv_at hl 2 rfl) ?_
    refine zi_if_eq (tgt := 764) hC.1.1 hC.1.2.1 dL_refuses_615 (by decide) (by decide) (fun q => absurd q (by decide)) (fun _ => ?_)
    refine lv_aload_n hC.1.1 hC.1.2.1 dL_refuses_618 rfl (lv_at hl 15 rfl) ?_
    refine lv_iload hC.1.1 hC.1.2.1 dL_refuses_619 (lv_at hl 0 rfl) ?_
    refine lv_iload hC.1.1 hC.1.2.1 dL_refuses_621 (lv_at hl 7 rfl) ?_
    refine zi_const hC.1.1 hC.1.2.1 dL_refuses_623 ?_
    refine zi_const hC.1.1 hC.1.2.1 dL_refuses_624 ?_
    refine zi_const hC.1.1 hC.1.2.1 dL_refuses_625 ?_
    refine zi_const hC.1.1 hC.1.2.1 dL_refuses_626 ?_
    refine zi_const hC.1.1 hC.1.2.1 dL_refuses_627 ?_
    refine zi_const hC.1.1 hC.1.2.1 dL_refuses_628 ?_
    refine hx_plan1_1 hst hC hP hS hG (by decide) (by decide) (by decide) (by decide) (by decide) (by decide) (by decide) (by unfold thL; rw [if_neg (by omega)]) dL_refuses_629 hl.1 (Nat.le_of_ble_eq_true rfl) ⟨(Nat.le_of_ble_eq_true rfl), (Nat.le_of_ble_eq_true rfl)⟩ ⟨(Nat.le_of_ble_eq_true rfl), (Nat.le_of_ble_eq_true rfl)⟩ (fun H locs hP hS => ?_)
    refine zi_bipush hC.1.1 hC.1.2.1 dL_refuses_632 rfl ?_
    refine zi_icmp_ne (tgt := 764) hC.1.1 hC.1.2.1 dL_refuses_634 (by decide) (by decide) (by decide) (fun q => absurd q (by decide)) (fun _ => ?_)
    refine lv_aload_n hC.1.1 hC.1.2.1 dL_refuses_637 rfl (lv_at hl 15 rfl) ?_
    refine lv_iload hC.1.1 hC.1.2.1 dL_refuses_638 (lv_at hl 0 rfl) ?_
    refine zi_const hC.1.1 hC.1.2.1 dL_refuses_640 ?_
    refine zi_const hC.1.1 hC.1.2.1 dL_refuses_641 ?_
    refine zi_const hC.1.1 hC.1.2.1 dL_refuses_642 ?_
    refine lv_iload hC.1.1 hC.1.2.1 dL_refuses_643 (lv_at hl 7 rfl) ?_
    refine zi_const hC.1.1 hC.1.2.1 dL_refuses_645 ?_
    refine zi_const hC.1.1 hC.1.2.1 dL_refuses_646 ?_
    refine zi_const hC.1.1 hC.1.2.1 dL_refuses_647 ?_
    refine hx_plan1_1 hst hC hP hS hG (by decide) (by decide) (by decide) (by decide) (by decide) (by decide) (by decide) (by unfold thL; rw [if_neg (by omega)]) dL_refuses_648 hl.1 (Nat.le_of_ble_eq_true rfl) ⟨(Nat.le_of_ble_eq_true rfl), (Nat.le_of_ble_eq_true rfl)⟩ ⟨(Nat.le_of_ble_eq_true rfl), (Nat.le_of_ble_eq_true rfl)⟩ (fun H locs hP hS => ?_)
    refine zi_bipush hC.1.1 hC.1.2.1 dL_refuses_651 rfl ?_
    refine zi_icmp_ne (tgt := 764) hC.1.1 hC.1.2.1 dL_refuses_653 (by decide) (by decide) (by decide) (fun q => absurd q (by decide)) (fun _ => ?_)
    refine lv_aload_n hC.1.1 hC.1.2.1 dL_refuses_656 rfl (lv_at hl 15 rfl) ?_
    refine lv_iload hC.1.1 hC.1.2.1 dL_refuses_657 (lv_at hl 0 rfl) ?_
    refine zi_const hC.1.1 hC.1.2.1 dL_refuses_659 ?_
    refine lv_iload hC.1.1 hC.1.2.1 dL_refuses_660 (lv_at hl 6 rfl) ?_
    refine zi_const hC.1.1 hC.1.2.1 dL_refuses_662 ?_
    refine zi_const hC.1.1 hC.1.2.1 dL_refuses_663 ?_
    refine zi_const hC.1.1 hC.1.2.1 dL_refuses_664 ?_
    refine zi_const hC.1.1 hC.1.2.1 dL_refuses_665 ?_
    refine zi_const hC.1.1 hC.1.2.1 dL_refuses_666 ?_
    refine hx_plan1_2 hst hC hP hS hG (by decide) (by decide) (by decide) (by decide) (by decide) (by decide) (by decide) (by unfold thL; rw [if_pos (by omega), if_neg (by omega)]) dL_refuses_667 hl.1 (Nat.le_of_ble_eq_true rfl) ⟨(Nat.le_of_ble_eq_true rfl), (Nat.le_of_ble_eq_true rfl)⟩ ⟨(Nat.le_of_ble_eq_true rfl), (Nat.le_of_ble_eq_true rfl)⟩ (fun H locs hP hS => ?_)
    refine zi_bipush hC.1.1 hC.1.2.1 dL_refuses_670 rfl ?_
    refine zi_icmp_ne (tgt := 764) hC.1.1 hC.1.2.1 dL_refuses_672 (by decide) (by decide) (by decide) (fun q => absurd q (by decide)) (fun _ => ?_)
    refine lv_aload_n hC.1.1 hC.1.2.1 dL_refuses_675 rfl (lv_at hl 15 rfl) ?_
    refine lv_iload hC.1.1 hC.1.2.1 dL_refuses_676 (lv_at hl 0 rfl) ?_
    refine zi_const hC.1.1 hC.1.2.1 dL_refuses_678 ?_
    refine zi_const hC.1.1 hC.1.2.1 dL_refuses_679 ?_
    refine lv_iload hC.1.1 hC.1.2.1 dL_refuses_680 (lv_at hl 9 rfl) ?_
    refine zi_if_ne (tgt := 689) hC.1.1 hC.1.2.1 dL_refuses_682 (by decide) (by decide) (fun _ => ?_) (fun q => absurd q (by decide))
    refine lv_iload hC.1.1 hC.1.2.1 dL_refuses_689 (lv_at hl 5 rfl) ?_
    refine zi_const hC.1.1 hC.1.2.1 dL_refuses_691 ?_
    refine zi_const hC.1.1 hC.1.2.1 dL_refuses_692 ?_
    refine zi_const hC.1.1 hC.1.2.1 dL_refuses_693 ?_
    refine zi_const hC.1.1 hC.1.2.1 dL_refuses_694 ?_
    refine hx_plan1_2 hst hC hP hS hG (by decide) (by decide) (by decide) (by decide) (by decide) (by decide) (by decide) (by unfold thL; rw [if_pos (by omega), if_neg (by omega)]) dL_refuses_695 hl.1 (Nat.le_of_ble_eq_true rfl) ⟨(Nat.le_of_ble_eq_true rfl), (Nat.le_of_ble_eq_true rfl)⟩ ⟨(Nat.le_of_ble_eq_true rfl), (Nat.le_of_ble_eq_true rfl)⟩ (fun H locs hP hS => ?_)
    refine zi_bipush hC.1.1 hC.1.2.1 dL_refuses_698 rfl ?_
    refine zi_icmp_ne (tgt := 764) hC.1.1 hC.1.2.1 dL_refuses_700 (by decide) (by decide) (by decide) (fun q => absurd q (by decide)) (fun _ => ?_)
    refine lv_aload_n hC.1.1 hC.1.2.1 dL_refuses_703 rfl (lv_at hl 15 rfl) ?_
    refine lv_iload hC.1.1 hC.1.2.1 dL_refuses_704 (lv_at hl 0 rfl) ?_
    refine zi_const hC.1.1 hC.1.2.1 dL_refuses_706 ?_
    refine zi_const hC.1.1 hC.1.2.1 dL_refuses_707 ?_
    refine zi_const hC.1.1 hC.1.2.1 dL_refuses_708 ?_
    refine zi_const hC.1.1 hC.1.2.1 dL_refuses_709 ?_
    refine lv_iload hC.1.1 hC.1.2.1 dL_refuses_710 (lv_at hl 5 rfl) ?_
    refine zi_const hC.1.1 hC.1.2.1 dL_refuses_712 ?_
    refine zi_const hC.1.1 hC.1.2.1 dL_refuses_713 ?_
    refine hx_plan1_2 hst hC hP hS hG (by decide) (by decide) (by decide) (by decide) (by decide) (by decide) (by decide) (by unfold thL; rw [if_pos (by omega), if_neg (by omega)]) dL_refuses_714 hl.1 (Nat.le_of_ble_eq_true rfl) ⟨(Nat.le_of_ble_eq_true rfl), (Nat.le_of_ble_eq_true rfl)⟩ ⟨(Nat.le_of_ble_eq_true rfl), (Nat.le_of_ble_eq_true rfl)⟩ (fun H locs hP hS => ?_)
    refine zi_bipush hC.1.1 hC.1.2.1 dL_refuses_717 rfl ?_
    refine zi_icmp_ne (tgt := 764) hC.1.1 hC.1.2.1 dL_refuses_719 (by decide) (by decide) (by decide) (fun q => absurd q (by decide)) (fun _ => ?_)
    refine lv_aload_n hC.1.1 hC.1.2.1 dL_refuses_722 rfl (lv_at hl 15 rfl) ?_
    refine lv_iload hC.1.1 hC.1.2.1 dL_refuses_723 (lv_at hl 0 rfl) ?_
    refine zi_const hC.1.1 hC.1.2.1 dL_refuses_725 ?_
    refine zi_const hC.1.1 hC.1.2.1 dL_refuses_726 ?_
    refine zi_const hC.1.1 hC.1.2.1 dL_refuses_727 ?_
    refine zi_const hC.1.1 hC.1.2.1 dL_refuses_728 ?_
    refine zi_const hC.1.1 hC.1.2.1 dL_refuses_729 ?_
    refine lv_iload hC.1.1 hC.1.2.1 dL_refuses_730 (lv_at hl 5 rfl) ?_
    refine zi_const hC.1.1 hC.1.2.1 dL_refuses_732 ?_
    refine hx_plan1_2 hst hC hP hS hG (by decide) (by decide) (by decide) (by decide) (by decide) (by decide) (by decide) (by unfold thL; rw [if_pos (by omega), if_neg (by omega)]) dL_refuses_733 hl.1 (Nat.le_of_ble_eq_true rfl) ⟨(Nat.le_of_ble_eq_true rfl), (Nat.le_of_ble_eq_true rfl)⟩ ⟨(Nat.le_of_ble_eq_true rfl), (Nat.le_of_ble_eq_true rfl)⟩ (fun H locs hP hS => ?_)
    refine zi_bipush hC.1.1 hC.1.2.1 dL_refuses_736 rfl ?_
    refine zi_icmp_ne (tgt := 764) hC.1.1 hC.1.2.1 dL_refuses_738 (by decide) (by decide) (by decide) (fun q => absurd q (by decide)) (fun _ => ?_)
    refine lv_aload_n hC.1.1 hC.1.2.1 dL_refuses_741 rfl (lv_at hl 15 rfl) ?_
    refine lv_iload hC.1.1 hC.1.2.1 dL_refuses_742 (lv_at hl 0 rfl) ?_
    refine zi_const hC.1.1 hC.1.2.1 dL_refuses_744 ?_
    refine zi_const hC.1.1 hC.1.2.1 dL_refuses_745 ?_
    refine zi_const hC.1.1 hC.1.2.1 dL_refuses_746 ?_
    refine zi_const hC.1.1 hC.1.2.1 dL_refuses_747 ?_
    refine zi_const hC.1.1 hC.1.2.1 dL_refuses_748 ?_
    refine zi_const hC.1.1 hC.1.2.1 dL_refuses_749 ?_
    refine lv_iload hC.1.1 hC.1.2.1 dL_refuses_750 (lv_at hl 3 rfl) ?_
    refine hx_plan1_2 hst hC hP hS hG (by decide) (by decide) (by decide) (by decide) (by decide) (by decide) (by decide) (by unfold thL; rw [if_pos (by omega), if_neg (by omega)]) dL_refuses_752 hl.1 (Nat.le_of_ble_eq_true rfl) ⟨(Nat.le_of_ble_eq_true rfl), (Nat.le_of_ble_eq_true rfl)⟩ ⟨(Nat.le_of_ble_eq_true rfl), (Nat.le_of_ble_eq_true rfl)⟩ (fun H locs hP hS => ?_)
    refine zi_bipush hC.1.1 hC.1.2.1 dL_refuses_755 rfl ?_
    refine zi_icmp_ne (tgt := 764) hC.1.1 hC.1.2.1 dL_refuses_757 (by decide) (by decide) (by decide) (fun q => absurd q (by decide)) (fun _ => ?_)
    refine zi_const hC.1.1 hC.1.2.1 dL_refuses_760 ?_
    refine lv_goto (tgt := 765) hC.1.1 hC.1.2.1 dL_refuses_761 (by decide) ?_
    refine lv_istore (lv' := [(13, .int (iz 1)), (15, .int (iz 1)), (14, .int (iz 0)), (12, .int (iz (-2147483648))), (11, .int (iz (-2147483648))), (10, .int (iz (-2147483648))), (9, .int (iz (-2147483648))), (8, .int (iz (-2147483648))), (7, .int (iz (-2147483648))), (6, .int (iz 3)), (5, .int (iz 2147483647)), (4, .int (iz (b2i (fineM σ)))), (3, .int (iz (chS σ 500 16))), (2, .int (iz (ldS σ 0 0 16))), (1, .int (iz ac)), (0, .ref (h 0))]) hC.1.1 hC.1.2.1 dL_refuses_765 hl (by decide) rfl (fun ls hl => ?_)
    refine lv_iinc (v := iz 1) (lv' := [(14, .int (iz 1)), (13, .int (iz 1)), (15, .int (iz 1)), (12, .int (iz (-2147483648))), (11, .int (iz (-2147483648))), (10, .int (iz (-2147483648))), (9, .int (iz (-2147483648))), (8, .int (iz (-2147483648))), (7, .int (iz (-2147483648))), (6, .int (iz 3)), (5, .int (iz 2147483647)), (4, .int (iz (b2i (fineM σ)))), (3, .int (iz (chS σ 500 16))), (2, .int (iz (ldS σ 0 0 16))), (1, .int (iz ac)), (0, .ref (h 0))]) hC.1.1 hC.1.2.1 dL_refuses_767 hl (k := 2) rfl rfl (by decide) rfl (fun ls hl => ?_)
    refine lv_goto (tgt := 595) hC.1.1 hC.1.2.1 dL_refuses_770 (by decide) ?_
    refine lv_iload hC.1.1 hC.1.2.1 dL_refuses_595 (lv_at hl 0 rfl) ?_
    refine zi_const hC.1.1 hC.1.2.1 dL_refuses_597 ?_
    refine zi_icmp_ge (tgt := 773) hC.1.1 hC.1.2.1 dL_refuses_598 (by decide) (by decide) (by decide) (fun q => absurd q (by decide)) (fun _ => ?_)
    refine lv_iload hC.1.1 hC.1.2.1 dL_refuses_601 (lv_at hl 0 rfl) ?_
    refine zi_if_ne (tgt := 610) hC.1.1 hC.1.2.1 dL_refuses_603 (by decide) (by decide) (fun _ => ?_) (fun q => absurd q (by decide))
    refine zi_const hC.1.1 hC.1.2.1 dL_refuses_610 ?_
    refine lv_istore (lv' := [(15, .int (iz 0)), (14, .int (iz 1)), (13, .int (iz 1)), (12, .int (iz (-2147483648))), (11, .int (iz (-2147483648))), (10, .int (iz (-2147483648))), (9, .int (iz (-2147483648))), (8, .int (iz (-2147483648))), (7, .int (iz (-2147483648))), (6, .int (iz 3)), (5, .int (iz 2147483647)), (4, .int (iz (b2i (fineM σ)))), (3, .int (iz (chS σ 500 16))), (2, .int (iz (ldS σ 0 0 16))), (1, .int (iz ac)), (0, .ref (h 0))]) hC.1.1 hC.1.2.1 dL_refuses_611 hl (by decide) rfl (fun ls hl => ?_)
    refine lv_iload hC.1.1 hC.1.2.1 dL_refuses_613 (lv_at hl 2 rfl) ?_
    refine zi_if_eq (tgt := 764) hC.1.1 hC.1.2.1 dL_refuses_615 (by decide) (by decide) (fun q => absurd q (by decide)) (fun _ => ?_)
    refine lv_aload_n hC.1.1 hC.1.2.1 dL_refuses_618 rfl (lv_at hl 15 rfl) ?_
    refine lv_iload hC.1.1 hC.1.2.1 dL_refuses_619 (lv_at hl 0 rfl) ?_
    refine lv_iload hC.1.1 hC.1.2.1 dL_refuses_621 (lv_at hl 7 rfl) ?_
    refine zi_const hC.1.1 hC.1.2.1 dL_refuses_623 ?_
    refine zi_const hC.1.1 hC.1.2.1 dL_refuses_624 ?_
    refine zi_const hC.1.1 hC.1.2.1 dL_refuses_625 ?_
    refine zi_const hC.1.1 hC.1.2.1 dL_refuses_626 ?_
    refine zi_const hC.1.1 hC.1.2.1 dL_refuses_627 ?_
    refine zi_const hC.1.1 hC.1.2.1 dL_refuses_628 ?_
    refine hx_plan0_1 hst hC hP hS hG (by decide) (by decide) (by decide) (by decide) (by decide) (by decide) (by decide) (by unfold thL; rw [if_neg (by omega)]) dL_refuses_629 hl.1 (Nat.le_of_ble_eq_true rfl) ⟨(Nat.le_of_ble_eq_true rfl), (Nat.le_of_ble_eq_true rfl)⟩ ⟨(Nat.le_of_ble_eq_true rfl), (Nat.le_of_ble_eq_true rfl)⟩ (fun H locs hP hS => ?_)
    refine zi_bipush hC.1.1 hC.1.2.1 dL_refuses_632 rfl ?_
    refine zi_icmp_ne (tgt := 764) hC.1.1 hC.1.2.1 dL_refuses_634 (by decide) (by decide) (by decide) (fun q => absurd q (by decide)) (fun _ => ?_)
    refine lv_aload_n hC.1.1 hC.1.2.1 dL_refuses_637 rfl (lv_at hl 15 rfl) ?_
    refine lv_iload hC.1.1 hC.1.2.1 dL_refuses_638 (lv_at hl 0 rfl) ?_
    refine zi_const hC.1.1 hC.1.2.1 dL_refuses_640 ?_
    refine zi_const hC.1.1 hC.1.2.1 dL_refuses_641 ?_
    refine zi_const hC.1.1 hC.1.2.1 dL_refuses_642 ?_
    refine lv_iload hC.1.1 hC.1.2.1 dL_refuses_643 (lv_at hl 7 rfl) ?_
    refine zi_const hC.1.1 hC.1.2.1 dL_refuses_645 ?_
    refine zi_const hC.1.1 hC.1.2.1 dL_refuses_646 ?_
    refine zi_const hC.1.1 hC.1.2.1 dL_refuses_647 ?_
    refine hx_plan0_1 hst hC hP hS hG (by decide) (by decide) (by decide) (by decide) (by decide) (by decide) (by decide) (by unfold thL; rw [if_neg (by omega)]) dL_refuses_648 hl.1 (Nat.le_of_ble_eq_true rfl) ⟨(Nat.le_of_ble_eq_true rfl), (Nat.le_of_ble_eq_true rfl)⟩ ⟨(Nat.le_of_ble_eq_true rfl), (Nat.le_of_ble_eq_true rfl)⟩ (fun H locs hP hS => ?_)
    refine zi_bipush hC.1.1 hC.1.2.1 dL_refuses_651 rfl ?_
    refine zi_icmp_ne (tgt := 764) hC.1.1 hC.1.2.1 dL_refuses_653 (by decide) (by decide) (by decide) (fun q => absurd q (by decide)) (fun _ => ?_)
    refine lv_aload_n hC.1.1 hC.1.2.1 dL_refuses_656 rfl (lv_at hl 15 rfl) ?_
    refine lv_iload hC.1.1 hC.1.2.1 dL_refuses_657 (lv_at hl 0 rfl) ?_
    refine zi_const hC.1.1 hC.1.2.1 dL_refuses_659 ?_
    refine lv_iload hC.1.1 hC.1.2.1 dL_refuses_660 (lv_at hl 6 rfl) ?_
    refine zi_const hC.1.1 hC.1.2.1 dL_refuses_662 ?_
    refine zi_const hC.1.1 hC.1.2.1 dL_refuses_663 ?_
    refine zi_const hC.1.1 hC.1.2.1 dL_refuses_664 ?_
    refine zi_const hC.1.1 hC.1.2.1 dL_refuses_665 ?_
    refine zi_const hC.1.1 hC.1.2.1 dL_refuses_666 ?_
    refine hx_plan0_2 hst hC hP hS hG (by decide) (by decide) (by decide) (by decide) (by decide) (by decide) (by decide) (by unfold thL; rw [if_pos (by omega), if_neg (by omega)]) dL_refuses_667 hl.1 (Nat.le_of_ble_eq_true rfl) ⟨(Nat.le_of_ble_eq_true rfl), (Nat.le_of_ble_eq_true rfl)⟩ ⟨(Nat.le_of_ble_eq_true rfl), (Nat.le_of_ble_eq_true rfl)⟩ (fun H locs hP hS => ?_)
    refine zi_bipush hC.1.1 hC.1.2.1 dL_refuses_670 rfl ?_
    refine zi_icmp_ne (tgt := 764) hC.1.1 hC.1.2.1 dL_refuses_672 (by decide) (by decide) (by decide) (fun q => absurd q (by decide)) (fun _ => ?_)
    refine lv_aload_n hC.1.1 hC.1.2.1 dL_refuses_675 rfl (lv_at hl 15 rfl) ?_
    refine lv_iload hC.1.1 hC.1.2.1 dL_refuses_676 (lv_at hl 0 rfl) ?_
    refine zi_const hC.1.1 hC.1.2.1 dL_refuses_678 ?_
    refine zi_const hC.1.1 hC.1.2.1 dL_refuses_679 ?_
    refine lv_iload hC.1.1 hC.1.2.1 dL_refuses_680 (lv_at hl 9 rfl) ?_
    refine zi_if_ne (tgt := 689) hC.1.1 hC.1.2.1 dL_refuses_682 (by decide) (by decide) (fun _ => ?_) (fun q => absurd q (by decide))
    refine lv_iload hC.1.1 hC.1.2.1 dL_refuses_689 (lv_at hl 5 rfl) ?_
    refine zi_const hC.1.1 hC.1.2.1 dL_refuses_691 ?_
    refine zi_const hC.1.1 hC.1.2.1 dL_refuses_692 ?_
    refine zi_const hC.1.1 hC.1.2.1 dL_refuses_693 ?_
    refine zi_const hC.1.1 hC.1.2.1 dL_refuses_694 ?_
    refine hx_plan0_2 hst hC hP hS hG (by decide) (by decide) (by decide) (by decide) (by decide) (by decide) (by decide) (by unfold thL; rw [if_pos (by omega), if_neg (by omega)]) dL_refuses_695 hl.1 (Nat.le_of_ble_eq_true rfl) ⟨(Nat.le_of_ble_eq_true rfl), (Nat.le_of_ble_eq_true rfl)⟩ ⟨(Nat.le_of_ble_eq_true rfl), (Nat.le_of_ble_eq_true rfl)⟩ (fun H locs hP hS => ?_)
    refine zi_bipush hC.1.1 hC.1.2.1 dL_refuses_698 rfl ?_
    refine zi_icmp_ne (tgt := 764) hC.1.1 hC.1.2.1 dL_refuses_700 (by decide) (by decide) (by decide) (fun q => absurd q (by decide)) (fun _ => ?_)
    refine lv_aload_n hC.1.1 hC.1.2.1 dL_refuses_703 rfl (lv_at hl 15 rfl) ?_
    refine lv_iload hC.1.1 hC.1.2.1 dL_refuses_704 (lv_at hl 0 rfl) ?_
    refine zi_const hC.1.1 hC.1.2.1 dL_refuses_706 ?_
    refine zi_const hC.1.1 hC.1.2.1 dL_refuses_707 ?_
    refine zi_const hC.1.1 hC.1.2.1 dL_refuses_708 ?_
    refine zi_const hC.1.1 hC.1.2.1 dL_refuses_709 ?_
    refine lv_iload hC.1.1 hC.1.2.1 dL_refuses_710 (lv_at hl 5 rfl) ?_
    refine zi_const hC.1.1 hC.1.2.1 dL_refuses_712 ?_
    refine zi_const hC.1.1 hC.1.2.1 dL_refuses_713 ?_
    refine hx_plan0_2 hst hC hP hS hG (by decide) (by decide) (by decide) (by decide) (by decide) (by decide) (by decide) (by unfold thL; rw [if_pos (by omega), if_neg (by omega)]) dL_refuses_714 hl.1 (Nat.le_of_ble_eq_true rfl) ⟨(Nat.le_of_ble_eq_true rfl), (Nat.le_of_ble_eq_true rfl)⟩ ⟨(Nat.le_of_ble_eq_true rfl), (Nat.le_of_ble_eq_true rfl)⟩ (fun H locs hP hS => ?_)
    refine zi_bipush hC.1.1 hC.1.2.1 dL_refuses_717 rfl ?_
    refine zi_icmp_ne (tgt := 764) hC.1.1 hC.1.2.1 dL_refuses_719 (by decide) (by decide) (by decide) (fun q => absurd q (by decide)) (fun _ => ?_)
    refine lv_aload_n hC.1.1 hC.1.2.1 dL_refuses_722 rfl (lv_at hl 15 rfl) ?_
    refine lv_iload hC.1.1 hC.1.2.1 dL_refuses_723 (lv_at hl 0 rfl) ?_
    refine zi_const hC.1.1 hC.1.2.1 dL_refuses_725 ?_
    refine zi_const hC.1.1 hC.1.2.1 dL_refuses_726 ?_
    refine zi_const hC.1.1 hC.1.2.1 dL_refuses_727 ?_
    refine zi_const hC.1.1 hC.1.2.1 dL_refuses_728 ?_
    refine zi_const hC.1.1 hC.1.2.1 dL_refuses_729 ?_
    refine lv_iload hC.1.1 hC.1.2.1 dL_refuses_730 (lv_at hl 5 rfl) ?_
    refine zi_const hC.1.1 hC.1.2.1 dL_refuses_732 ?_
    refine hx_plan0_2 hst hC hP hS hG (by decide) (by decide) (by decide) (by decide) (by decide) (by decide) (by decide) (by unfold thL; rw [if_pos (by omega), if_neg (by omega)]) dL_refuses_733 hl.1 (Nat.le_of_ble_eq_true rfl) ⟨(Nat.le_of_ble_eq_true rfl), (Nat.le_of_ble_eq_true rfl)⟩ ⟨(Nat.le_of_ble_eq_true rfl), (Nat.le_of_ble_eq_true rfl)⟩ (fun H locs hP hS => ?_)
    refine zi_bipush hC.1.1 hC.1.2.1 dL_refuses_736 rfl ?_
    refine zi_icmp_ne (tgt := 764) hC.1.1 hC.1.2.1 dL_refuses_738 (by decide) (by decide) (by decide) (fun q => absurd q (by decide)) (fun _ => ?_)
    refine lv_aload_n hC.1.1 hC.1.2.1 dL_refuses_741 rfl (lv_at hl 15 rfl) ?_
    refine lv_iload hC.1.1 hC.1.2.1 dL_refuses_742 (lv_at hl 0 rfl) ?_
    refine zi_const hC.1.1 hC.1.2.1 dL_refuses_744 ?_
    refine zi_const hC.1.1 hC.1.2.1 dL_refuses_745 ?_
    refine zi_const hC.1.1 hC.1.2.1 dL_refuses_746 ?_
    refine zi_const hC.1.1 hC.1.2.1 dL_refuses_747 ?_
    refine zi_const hC.1.1 hC.1.2.1 dL_refuses_748 ?_
    refine zi_const hC.1.1 hC.1.2.1 dL_refuses_749 ?_
    refine lv_iload hC.1.1 hC.1.2.1 dL_refuses_750 (lv_at hl 3 rfl) ?_
    refine hx_plan0_2 hst hC hP hS hG (by decide) (by decide) (by decide) (by decide) (by decide) (by decide) (by decide) (by unfold thL; rw [if_pos (by omega), if_neg (by omega)]) dL_refuses_752 hl.1 (Nat.le_of_ble_eq_true rfl) ⟨(Nat.le_of_ble_eq_true rfl), (Nat.le_of_ble_eq_true rfl)⟩ ⟨(Nat.le_of_ble_eq_true rfl), (Nat.le_of_ble_eq_true rfl)⟩ (fun H locs hP hS => ?_)
    refine zi_bipush hC.1.1 hC.1.2.1 dL_refuses_755 rfl ?_
    refine zi_icmp_ne (tgt := 764) hC.1.1 hC.1.2.1 dL_refuses_757 (by decide) (by decide) (by decide) (fun q => absurd q (by decide)) (fun _ => ?_)
    refine zi_const hC.1.1 hC.1.2.1 dL_refuses_760 ?_
    refine lv_goto (tgt := 765) hC.1.1 hC.1.2.1 dL_refuses_761 (by decide) ?_
    refine lv_istore (lv' := [(13, .int (iz 1)), (15, .int (iz 0)), (14, .int (iz 1)), (12, .int (iz (-2147483648))), (11, .int (iz (-2147483648))), (10, .int (iz (-2147483648))), (9, .int (iz (-2147483648))), (8, .int (iz (-2147483648))), (7, .int (iz (-2147483648))), (6, .int (iz 3)), (5, .int (iz 2147483647)), (4, .int (iz (b2i (fineM σ)))), (3, .int (iz (chS σ 500 16))), (2, .int (iz (ldS σ 0 0 16))), (1, .int (iz ac)), (0, .ref (h 0))]) hC.1.1 hC.1.2.1 dL_refuses_765 hl (by decide) rfl (fun ls hl => ?_)
    refine lv_iinc (v := iz 2) (lv' := [(14, .int (iz 2)), (13, .int (iz 1)), (15, .int (iz 0)), (12, .int (iz (-2147483648))), (11, .int (iz (-2147483648))), (10, .int (iz (-2147483648))), (9, .int (iz (-2147483648))), (8, .int (iz (-2147483648))), (7, .int (iz (-2147483648))), (6, .int (iz 3)), (5, .int (iz 2147483647)), (4, .int (iz (b2i (fineM σ)))), (3, .int (iz (chS σ 500 16))), (2, .int (iz (ldS σ 0 0 16))), (1, .int (iz ac)), (0, .ref (h 0))]) hC.1.1 hC.1.2.1 dL_refuses_767 hl (k := 2) rfl rfl (by decide) rfl (fun ls hl => ?_)
    refine lv_goto (tgt := 595) hC.1.1 hC.1.2.1 dL_refuses_770 (by decide) ?_
    refine lv_iload hC.1.1 hC.1.2.1 dL_refuses_595 (lv_at hl 0 rfl) ?_
    refine zi_const hC.1.1 hC.1.2.1 dL_refuses_597 ?_
    refine zi_icmp_ge (tgt := 773) hC.1.1 hC.1.2.1 dL_refuses_598 (by decide) (by decide) (by decide) (fun _ => ?_) (fun q => absurd q (by decide))
    refine lv_iload hC.1.1 hC.1.2.1 dL_refuses_773 (lv_at hl 1 rfl) ?_
    refine zi_if_eq (tgt := 821) hC.1.1 hC.1.2.1 dL_refuses_775 (by decide) (by decide) (fun q => absurd q (by decide)) (fun _ => ?_)
    refine lv_aload_n hC.1.1 hC.1.2.1 dL_refuses_778 rfl (lv_at hl 15 rfl) ?_
    refine lv_iload hC.1.1 hC.1.2.1 dL_refuses_779 (lv_at hl 9 rfl) ?_
    refine zi_if_ne (tgt := 789) hC.1.1 hC.1.2.1 dL_refuses_781 (by decide) (by decide) (fun _ => ?_) (fun q => absurd q (by decide))
    refine lv_iload hC.1.1 hC.1.2.1 dL_refuses_789 (lv_at hl 9 rfl) ?_
    refine zi_const hC.1.1 hC.1.2.1 dL_refuses_791 ?_
    refine zi_icmp_ne (tgt := 800) hC.1.1 hC.1.2.1 dL_refuses_792 (by decide) (by decide) (by decide) (fun _ => ?_) (fun q => absurd q (by decide))
    refine lv_iload hC.1.1 hC.1.2.1 dL_refuses_800 (lv_at hl 9 rfl) ?_
    refine zi_const hC.1.1 hC.1.2.1 dL_refuses_802 ?_
    refine zi_icmp_ne (tgt := 811) hC.1.1 hC.1.2.1 dL_refuses_803 (by decide) (by decide) (by decide) (fun _ => ?_) (fun q => absurd q (by decide))
    refine zi_const hC.1.1 hC.1.2.1 dL_refuses_811 ?_
    refine zl_i2c (v := 0) hC.1.1 hC.1.2.1 rfl dL_refuses_812 ?_
    refine hx_type_1 hst hC hP hS hG (by decide) hn (by decide) dL_refuses_813 hl.1 (Nat.le_of_ble_eq_true rfl) ⟨(Nat.le_of_ble_eq_true rfl), (Nat.le_of_ble_eq_true rfl)⟩ ⟨(Nat.le_of_ble_eq_true rfl), (Nat.le_of_ble_eq_true rfl)⟩ (fun H locs hP hS => ?_)
    refine zi_bipush hC.1.1 hC.1.2.1 dL_refuses_816 rfl ?_
    refine zi_icmp_eq (tgt := 823) hC.1.1 hC.1.2.1 dL_refuses_818 (by decide) (by decide) (by decide) (fun _ => ?_) (fun q => absurd q (by decide))
    refine lv_iinc (v := iz 4) (lv' := [(6, .int (iz 4)), (14, .int (iz 2)), (13, .int (iz 1)), (15, .int (iz 0)), (12, .int (iz (-2147483648))), (11, .int (iz (-2147483648))), (10, .int (iz (-2147483648))), (9, .int (iz (-2147483648))), (8, .int (iz (-2147483648))), (7, .int (iz (-2147483648))), (5, .int (iz 2147483647)), (4, .int (iz (b2i (fineM σ)))), (3, .int (iz (chS σ 500 16))), (2, .int (iz (ldS σ 0 0 16))), (1, .int (iz ac)), (0, .ref (h 0))]) hC.1.1 hC.1.2.1 dL_refuses_823 hl (k := 9) rfl rfl (by decide) rfl (fun ls hl => ?_)
    refine lv_goto (tgt := 28) hC.1.1 hC.1.2.1 dL_refuses_826 (by decide) ?_
    exact (rf_4 l hst hC hr hlocks hG hac ha hlen hwt hn hby κ H locs ls hP hS (lv_sub hl [0, 10, 11, 12, 13, 14, 15] rfl)).wide (by decide) (by decide)
  refine W.wide (cells' := 592) (slots' := 6 * 592) ?_ (by decide) (by decide)
  refine zi_if_eq (tgt := 585) hC.1.1 hC.1.2.1 dL_refuses_538 (by decide) hac (fun _ => (j585 H locs hP hS).wide (by decide) (by decide)) (fun hnz => ?_)
  have g01 := GI_01 hG
  refine lv_aload_n hC.1.1 hC.1.2.1 dL_refuses_541 rfl (lv_at hl 13 rfl) ?_
  refine zi_const hC.1.1 hC.1.2.1 dL_refuses_542 ?_
  refine zi_const hC.1.1 hC.1.2.1 dL_refuses_543 ?_
  refine lv_iload hC.1.1 hC.1.2.1 dL_refuses_544 (lv_at hl 4 rfl) ?_
  refine zi_const hC.1.1 hC.1.2.1 dL_refuses_546 ?_
  refine hx_act4_2 hst hC hP hS hG (by decide) (by decide) (by unfold thM; rw [if_pos (by omega), if_neg (by omega)]) dL_refuses_547 hl.1 (Nat.le_of_ble_eq_true rfl) ⟨(Nat.le_of_ble_eq_true rfl), (Nat.le_of_ble_eq_true rfl)⟩ ⟨(Nat.le_of_ble_eq_true rfl), (Nat.le_of_ble_eq_true rfl)⟩ (fun H locs hP hS => ?_)
  refine zi_bipush hC.1.1 hC.1.2.1 dL_refuses_550 rfl ?_
  refine zi_icmp_ne (tgt := 589) hC.1.1 hC.1.2.1 dL_refuses_552 (by decide) (by decide) (by decide) (fun q => absurd q (by decide)) (fun _ => ?_)
  refine lv_aload_n hC.1.1 hC.1.2.1 dL_refuses_555 rfl (lv_at hl 13 rfl) ?_
  refine zi_bipush hC.1.1 hC.1.2.1 dL_refuses_556 rfl ?_
  refine zi_const hC.1.1 hC.1.2.1 dL_refuses_558 ?_
  refine lv_iload hC.1.1 hC.1.2.1 dL_refuses_559 (lv_at hl 4 rfl) ?_
  refine zi_const hC.1.1 hC.1.2.1 dL_refuses_561 ?_
  refine hx_act6_2 hst hC hP hS hG (by decide) (by decide) hlen (by unfold thM; rw [if_pos (by omega), if_neg (by omega)]) dL_refuses_562 hl.1 (Nat.le_of_ble_eq_true rfl) ⟨(Nat.le_of_ble_eq_true rfl), (Nat.le_of_ble_eq_true rfl)⟩ ⟨(Nat.le_of_ble_eq_true rfl), (Nat.le_of_ble_eq_true rfl)⟩ (fun H locs hP hS => ?_)
  refine zi_bipush hC.1.1 hC.1.2.1 dL_refuses_565 rfl ?_
  refine zi_icmp_ne (tgt := 589) hC.1.1 hC.1.2.1 dL_refuses_567 (by decide) (by decide) (by decide) (fun q => absurd q (by decide)) (fun _ => ?_)
  refine lv_aload_n hC.1.1 hC.1.2.1 dL_refuses_570 rfl (lv_at hl 13 rfl) ?_
  refine zi_bipush hC.1.1 hC.1.2.1 dL_refuses_571 rfl ?_
  refine zi_const hC.1.1 hC.1.2.1 dL_refuses_573 ?_
  refine lv_iload hC.1.1 hC.1.2.1 dL_refuses_574 (lv_at hl 5 rfl) ?_
  refine zi_const hC.1.1 hC.1.2.1 dL_refuses_576 ?_
  refine hx_act8_1 hst hC hP hS hG (by decide) (by decide) (by unfold thO; rw [if_neg (by omega)]) dL_refuses_577 hl.1 (Nat.le_of_ble_eq_true rfl) ⟨(Nat.le_of_ble_eq_true rfl), (Nat.le_of_ble_eq_true rfl)⟩ ⟨(Nat.le_of_ble_eq_true rfl), (Nat.le_of_ble_eq_true rfl)⟩ (fun H locs hP hS => ?_)
  refine zi_bipush hC.1.1 hC.1.2.1 dL_refuses_580 rfl ?_
  refine zi_icmp_ne (tgt := 589) hC.1.1 hC.1.2.1 dL_refuses_582 (by decide) (by decide) (by decide) (fun q => absurd q (by decide)) (fun _ => ?_)
  exact (j585 H locs hP hS).wide (by decide) (by decide)
set_option maxRecDepth 100000 in
set_option maxHeartbeats 4000000 in
theorem rf_2 (l : Launch) (hst : l.stackTraces = false) {p : Program} {e : Env} {s : State} {m : MethodId} {args : Array Value} {below : List Frame} {meth : Method} {cd : Code} {A : Nat → Prop} {h : Nat → Nat} {D : va_G} {c : Nat → ClassId} {σ : Nat → Nat → Int} {ω : Nat × (Nat → Int32) × Int32} {ac : Int} (hC : CX p m cd cL_refuses 16 s args h D c A) (hr : meth.sig.returnType = some .boolean) (hlocks : meth.locks = false) (hG : GI σ) (hac : -2147483648 ≤ ac ∧ ac ≤ 2147483647) (ha : ac = σ 0 1) (hlen : ∀ k, k < 16 → σ 14 k ≠ 0 → 1 ≤ σ 9 k) (hwt : ∀ k, k < 16 → σ 15 k = 0) (hn : ω.1 ≤ 6) (hby : ∀ j, j < ω.1 → ∃ x : Int, (97 ≤ x ∧ x ≤ 122) ∧ ω.2.1 j = iz x) : ∀ (κ : Nat → Nat → Int) (H : Heap) (locs : List Loc) (ls : Array Slot), zB 32 h D (gC c h σ κ ω) H → va_S A s.heap H locs → lv_has ls 16 [(6, .int (iz 2)), (5, .int (iz 2147483647)), (4, .int (iz (b2i (fineM σ)))), (3, .int (iz (chS σ 500 16))), (2, .int (iz (ldS σ 0 0 16))), (1, .int (iz ac)), (0, .ref (h 0))] → W p l e { frames := 11, cells := 900, slots := 6 * 900, locals := 240 } s m args below meth cd H locs 363 (6 * 363) (MQ below (va_Qi (fun r (u : Int × S3) => r = iz u.1 ∧ (fun (z : Int) (u : S3) => z = 1 ∧ u.1 = σ ∧ u.2.2 = ω) u.1 u.2) (fun u t => zB 32 h D (gS c h u.2) t.heap) A) args s 900 (6 * 900) A) (F0 m 28 ls []) := by
  intro κ H locs ls hP hS hl
  refine lv_iload hC.1.1 hC.1.2.1 dL_refuses_28 (lv_at hl 0 rfl) ?_
  refine zi_const hC.1.1 hC.1.2.1 dL_refuses_30 ?_
  refine zi_icmp_ge (tgt := 829) hC.1.1 hC.1.2.1 dL_refuses_31 (by decide) (by decide) (by decide) (fun q => absurd q (by decide)) (fun _ => ?_)
  refine lv_iload hC.1.1 hC.1.2.1 dL_refuses_34 (lv_at hl 0 rfl) ?_
  refine zi_if_ne (tgt := 43) hC.1.1 hC.1.2.1 dL_refuses_36 (by decide) (by decide) (fun _ => ?_) (fun q => absurd q (by decide))
  refine lv_iload hC.1.1 hC.1.2.1 dL_refuses_43 (lv_at hl 0 rfl) ?_
  refine zi_const hC.1.1 hC.1.2.1 dL_refuses_45 ?_
  refine zi_icmp_ne (tgt := 54) hC.1.1 hC.1.2.1 dL_refuses_46 (by decide) (by decide) (by decide) (fun q => absurd q (by decide)) (fun _ => ?_)
  refine lv_iload hC.1.1 hC.1.2.1 dL_refuses_49 (lv_at hl 1 rfl) ?_
  refine lv_goto (tgt := 59) hC.1.1 hC.1.2.1 dL_refuses_51 (by decide) ?_
  refine lv_istore (lv' := [(7, .int (iz 2147483647)), (6, .int (iz 2)), (5, .int (iz 2147483647)), (4, .int (iz (b2i (fineM σ)))), (3, .int (iz (chS σ 500 16))), (2, .int (iz (ldS σ 0 0 16))), (1, .int (iz ac)), (0, .ref (h 0))]) hC.1.1 hC.1.2.1 dL_refuses_59 hl (by decide) rfl (fun ls hl => ?_)
  refine lv_iload hC.1.1 hC.1.2.1 dL_refuses_61 (lv_at hl 1 rfl) ?_
  refine zi_const hC.1.1 hC.1.2.1 dL_refuses_63 ?_
  refine zi_icmp_ne (tgt := 71) hC.1.1 hC.1.2.1 dL_refuses_64 (by decide) (by decide) (by decide) (fun _ => ?_) (fun q => absurd q (by decide))
  refine lv_iload hC.1.1 hC.1.2.1 dL_refuses_71 (lv_at hl 0 rfl) ?_
  refine lv_istore (lv' := [(8, .int (iz 2147483647)), (7, .int (iz 2147483647)), (6, .int (iz 2)), (5, .int (iz 2147483647)), (4, .int (iz (b2i (fineM σ)))), (3, .int (iz (chS σ 500 16))), (2, .int (iz (ldS σ 0 0 16))), (1, .int (iz ac)), (0, .ref (h 0))]) hC.1.1 hC.1.2.1 dL_refuses_73 hl (by decide) rfl (fun ls hl => ?_)
  refine lv_iload hC.1.1 hC.1.2.1 dL_refuses_75 (lv_at hl 2 rfl) ?_
  refine zi_const hC.1.1 hC.1.2.1 dL_refuses_77 ?_
  refine zi_icmp_ne (tgt := 87) hC.1.1 hC.1.2.1 dL_refuses_78 (by decide) (by decide) (by decide) (fun _ => ?_) (fun q => absurd q (by decide))
  refine lv_iload hC.1.1 hC.1.2.1 dL_refuses_87 (lv_at hl 1 rfl) ?_
  refine lv_istore (lv' := [(9, .int (iz 2147483647)), (8, .int (iz 2147483647)), (7, .int (iz 2147483647)), (6, .int (iz 2)), (5, .int (iz 2147483647)), (4, .int (iz (b2i (fineM σ)))), (3, .int (iz (chS σ 500 16))), (2, .int (iz (ldS σ 0 0 16))), (1, .int (iz ac)), (0, .ref (h 0))]) hC.1.1 hC.1.2.1 dL_refuses_89 hl (by decide) rfl (fun ls hl => ?_)
  refine lv_iload hC.1.1 hC.1.2.1 dL_refuses_91 (lv_at hl 3 rfl) ?_
  refine zi_const hC.1.1 hC.1.2.1 dL_refuses_93 ?_
  refine zi_icmp_ne (tgt := 103) hC.1.1 hC.1.2.1 dL_refuses_94 (by decide) (by decide) (by decide) (fun _ => ?_) (fun q => absurd q (by decide))
  refine lv_iload hC.1.1 hC.1.2.1 dL_refuses_103 (lv_at hl 2 rfl) ?_
  refine lv_istore (lv' := [(10, .int (iz 2147483647)), (9, .int (iz 2147483647)), (8, .int (iz 2147483647)), (7, .int (iz 2147483647)), (6, .int (iz 2)), (5, .int (iz 2147483647)), (4, .int (iz (b2i (fineM σ)))), (3, .int (iz (chS σ 500 16))), (2, .int (iz (ldS σ 0 0 16))), (1, .int (iz ac)), (0, .ref (h 0))]) hC.1.1 hC.1.2.1 dL_refuses_105 hl (by decide) rfl (fun ls hl => ?_)
  refine lv_iload hC.1.1 hC.1.2.1 dL_refuses_107 (lv_at hl 4 rfl) ?_
  refine zi_const hC.1.1 hC.1.2.1 dL_refuses_109 ?_
  refine zi_icmp_ne (tgt := 117) hC.1.1 hC.1.2.1 dL_refuses_110 (by decide) (by decide) (by decide) (fun _ => ?_) (fun q => absurd q (by decide))
  refine lv_iload hC.1.1 hC.1.2.1 dL_refuses_117 (lv_at hl 3 rfl) ?_
  refine lv_istore (lv' := [(11, .int (iz 2147483647)), (10, .int (iz 2147483647)), (9, .int (iz 2147483647)), (8, .int (iz 2147483647)), (7, .int (iz 2147483647)), (6, .int (iz 2)), (5, .int (iz 2147483647)), (4, .int (iz (b2i (fineM σ)))), (3, .int (iz (chS σ 500 16))), (2, .int (iz (ldS σ 0 0 16))), (1, .int (iz ac)), (0, .ref (h 0))]) hC.1.1 hC.1.2.1 dL_refuses_119 hl (by decide) rfl (fun ls hl => ?_)
  refine lv_iload hC.1.1 hC.1.2.1 dL_refuses_121 (lv_at hl 5 rfl) ?_
  refine zi_if_ne (tgt := 131) hC.1.1 hC.1.2.1 dL_refuses_123 (by decide) (by decide) (fun _ => ?_) (fun q => absurd q (by decide))
  refine lv_iload hC.1.1 hC.1.2.1 dL_refuses_131 (lv_at hl 5 rfl) ?_
  refine zi_const hC.1.1 hC.1.2.1 dL_refuses_133 ?_
  refine zi_icmp_ne (tgt := 142) hC.1.1 hC.1.2.1 dL_refuses_134 (by decide) (by decide) (by decide) (fun _ => ?_) (fun q => absurd q (by decide))
  refine lv_iload hC.1.1 hC.1.2.1 dL_refuses_142 (lv_at hl 4 rfl) ?_
  refine lv_istore (lv' := [(12, .int (iz 2147483647)), (11, .int (iz 2147483647)), (10, .int (iz 2147483647)), (9, .int (iz 2147483647)), (8, .int (iz 2147483647)), (7, .int (iz 2147483647)), (6, .int (iz 2)), (5, .int (iz 2147483647)), (4, .int (iz (b2i (fineM σ)))), (3, .int (iz (chS σ 500 16))), (2, .int (iz (ldS σ 0 0 16))), (1, .int (iz ac)), (0, .ref (h 0))]) hC.1.1 hC.1.2.1 dL_refuses_144 hl (by decide) rfl (fun ls hl => ?_)
  refine lv_aload_n hC.1.1 hC.1.2.1 dL_refuses_146 rfl (lv_at hl 12 rfl) ?_
  refine zi_const hC.1.1 hC.1.2.1 dL_refuses_147 ?_
  refine lv_iload hC.1.1 hC.1.2.1 dL_refuses_148 (lv_at hl 3 rfl) ?_
  refine zi_const hC.1.1 hC.1.2.1 dL_refuses_150 ?_
  refine zi_const hC.1.1 hC.1.2.1 dL_refuses_151 ?_
  refine hx_act0_1 hst hC hP hS hG (by decide) (by unfold thS; rw [if_neg (by omega)]) dL_refuses_152 hl.1 (Nat.le_of_ble_eq_true rfl) ⟨(Nat.le_of_ble_eq_true rfl), (Nat.le_of_ble_eq_true rfl)⟩ ⟨(Nat.le_of_ble_eq_true rfl), (Nat.le_of_ble_eq_true rfl)⟩ (fun H locs hP hS => ?_)
  refine zi_bipush hC.1.1 hC.1.2.1 dL_refuses_155 rfl ?_
  refine zi_icmp_ne (tgt := 529) hC.1.1 hC.1.2.1 dL_refuses_157 (by decide) (by decide) (by decide) (fun q => absurd q (by decide)) (fun _ => ?_)
  refine lv_aload_n hC.1.1 hC.1.2.1 dL_refuses_160 rfl (lv_at hl 12 rfl) ?_
  refine zi_const hC.1.1 hC.1.2.1 dL_refuses_161 ?_
  refine lv_iload hC.1.1 hC.1.2.1 dL_refuses_162 (lv_at hl 4 rfl) ?_
  refine zi_const hC.1.1 hC.1.2.1 dL_refuses_164 ?_
  refine zi_const hC.1.1 hC.1.2.1 dL_refuses_165 ?_
  refine hx_act1_1 hst hC hP hS hG (by decide) (by decide) (by decide) dL_refuses_166 hl.1 (Nat.le_of_ble_eq_true rfl) ⟨(Nat.le_of_ble_eq_true rfl), (Nat.le_of_ble_eq_true rfl)⟩ ⟨(Nat.le_of_ble_eq_true rfl), (Nat.le_of_ble_eq_true rfl)⟩ (fun H locs hP hS => ?_)
  refine zi_bipush hC.1.1 hC.1.2.1 dL_refuses_169 rfl ?_
  refine zi_icmp_ne (tgt := 529) hC.1.1 hC.1.2.1 dL_refuses_171 (by decide) (by decide) (by decide) (fun q => absurd q (by decide)) (fun _ => ?_)
  refine lv_aload_n hC.1.1 hC.1.2.1 dL_refuses_174 rfl (lv_at hl 12 rfl) ?_
  refine zi_const hC.1.1 hC.1.2.1 dL_refuses_175 ?_
  refine zi_const hC.1.1 hC.1.2.1 dL_refuses_176 ?_
  refine lv_iload hC.1.1 hC.1.2.1 dL_refuses_177 (lv_at hl 6 rfl) ?_
  refine zi_const hC.1.1 hC.1.2.1 dL_refuses_179 ?_
  refine zi_icmp_ne (tgt := 188) hC.1.1 hC.1.2.1 dL_refuses_180 (by decide) (by decide) (by decide) (fun _ => ?_) (fun q => absurd q (by decide))
  refine lv_iload hC.1.1 hC.1.2.1 dL_refuses_188 (lv_at hl 5 rfl) ?_
  refine zi_const hC.1.1 hC.1.2.1 dL_refuses_190 ?_
  refine hx_act1_2 hst hC hP hS hG (by decide) (by decide) (by decide) dL_refuses_191 hl.1 (Nat.le_of_ble_eq_true rfl) ⟨(Nat.le_of_ble_eq_true rfl), (Nat.le_of_ble_eq_true rfl)⟩ ⟨(Nat.le_of_ble_eq_true rfl), (Nat.le_of_ble_eq_true rfl)⟩ (fun H locs hP hS => ?_)
  refine zi_bipush hC.1.1 hC.1.2.1 dL_refuses_194 rfl ?_
  refine zi_icmp_ne (tgt := 529) hC.1.1 hC.1.2.1 dL_refuses_196 (by decide) (by decide) (by decide) (fun q => absurd q (by decide)) (fun _ => ?_)
  refine lv_aload_n hC.1.1 hC.1.2.1 dL_refuses_199 rfl (lv_at hl 12 rfl) ?_
  refine zi_const hC.1.1 hC.1.2.1 dL_refuses_200 ?_
  refine lv_iload hC.1.1 hC.1.2.1 dL_refuses_201 (lv_at hl 4 rfl) ?_
  refine zi_const hC.1.1 hC.1.2.1 dL_refuses_203 ?_
  refine zi_const hC.1.1 hC.1.2.1 dL_refuses_204 ?_
  refine hx_act2_1 hst hC hP hS hG (by decide) (by decide) (by decide) dL_refuses_205 hl.1 (Nat.le_of_ble_eq_true rfl) ⟨(Nat.le_of_ble_eq_true rfl), (Nat.le_of_ble_eq_true rfl)⟩ ⟨(Nat.le_of_ble_eq_true rfl), (Nat.le_of_ble_eq_true rfl)⟩ (fun H locs hP hS => ?_)
  refine zi_bipush hC.1.1 hC.1.2.1 dL_refuses_208 rfl ?_
  refine zi_icmp_ne (tgt := 529) hC.1.1 hC.1.2.1 dL_refuses_210 (by decide) (by decide) (by decide) (fun q => absurd q (by decide)) (fun _ => ?_)
  refine lv_aload_n hC.1.1 hC.1.2.1 dL_refuses_213 rfl (lv_at hl 12 rfl) ?_
  refine zi_const hC.1.1 hC.1.2.1 dL_refuses_214 ?_
  refine zi_const hC.1.1 hC.1.2.1 dL_refuses_215 ?_
  refine lv_iload hC.1.1 hC.1.2.1 dL_refuses_216 (lv_at hl 6 rfl) ?_
  refine zi_if_ne (tgt := 226) hC.1.1 hC.1.2.1 dL_refuses_218 (by decide) (by decide) (fun _ => ?_) (fun q => absurd q (by decide))
  refine lv_iload hC.1.1 hC.1.2.1 dL_refuses_226 (lv_at hl 6 rfl) ?_
  refine zi_const hC.1.1 hC.1.2.1 dL_refuses_228 ?_
  refine zi_icmp_ne (tgt := 238) hC.1.1 hC.1.2.1 dL_refuses_229 (by decide) (by decide) (by decide) (fun _ => ?_) (fun q => absurd q (by decide))
  refine lv_iload hC.1.1 hC.1.2.1 dL_refuses_238 (lv_at hl 5 rfl) ?_
  refine zi_const hC.1.1 hC.1.2.1 dL_refuses_240 ?_
  refine hx_act2_2 hst hC hP hS hG (by decide) (by decide) (by decide) dL_refuses_241 hl.1 (Nat.le_of_ble_eq_true rfl) ⟨(Nat.le_of_ble_eq_true rfl), (Nat.le_of_ble_eq_true rfl)⟩ ⟨(Nat.le_of_ble_eq_true rfl), (Nat.le_of_ble_eq_true rfl)⟩ (fun H locs hP hS => ?_)
  refine zi_bipush hC.1.1 hC.1.2.1 dL_refuses_244 rfl ?_
  refine zi_icmp_ne (tgt := 529) hC.1.1 hC.1.2.1 dL_refuses_246 (by decide) (by decide) (by decide) (fun q => absurd q (by decide)) (fun _ => ?_)
  refine lv_aload_n hC.1.1 hC.1.2.1 dL_refuses_249 rfl (lv_at hl 12 rfl) ?_
  refine zi_const hC.1.1 hC.1.2.1 dL_refuses_250 ?_
  refine lv_iload hC.1.1 hC.1.2.1 dL_refuses_251 (lv_at hl 6 rfl) ?_
  refine zi_const hC.1.1 hC.1.2.1 dL_refuses_253 ?_
  refine zi_icmp_ne (tgt := 262) hC.1.1 hC.1.2.1 dL_refuses_254 (by decide) (by decide) (by decide) (fun _ => ?_) (fun q => absurd q (by decide))
  refine lv_iload hC.1.1 hC.1.2.1 dL_refuses_262 (lv_at hl 5 rfl) ?_
  refine zi_bipush hC.1.1 hC.1.2.1 dL_refuses_264 rfl ?_
  refine zi_const hC.1.1 hC.1.2.1 dL_refuses_266 ?_
  refine hx_act3_1 hst hC hP hS hG (by decide) (by decide) (by decide) dL_refuses_267 hl.1 (Nat.le_of_ble_eq_true rfl) ⟨(Nat.le_of_ble_eq_true rfl), (Nat.le_of_ble_eq_true rfl)⟩ ⟨(Nat.le_of_ble_eq_true rfl), (Nat.le_of_ble_eq_true rfl)⟩ (fun H locs hP hS => ?_)
  refine zi_bipush hC.1.1 hC.1.2.1 dL_refuses_270 rfl ?_
  refine zi_icmp_ne (tgt := 529) hC.1.1 hC.1.2.1 dL_refuses_272 (by decide) (by decide) (by decide) (fun q => absurd q (by decide)) (fun _ => ?_)
  refine lv_aload_n hC.1.1 hC.1.2.1 dL_refuses_275 rfl (lv_at hl 12 rfl) ?_
  refine zi_const hC.1.1 hC.1.2.1 dL_refuses_276 ?_
  refine zi_const hC.1.1 hC.1.2.1 dL_refuses_277 ?_
  refine lv_iload hC.1.1 hC.1.2.1 dL_refuses_278 (lv_at hl 6 rfl) ?_
  refine zi_if_ne (tgt := 288) hC.1.1 hC.1.2.1 dL_refuses_280 (by decide) (by decide) (fun _ => ?_) (fun q => absurd q (by decide))
  refine lv_iload hC.1.1 hC.1.2.1 dL_refuses_288 (lv_at hl 6 rfl) ?_
  refine zi_const hC.1.1 hC.1.2.1 dL_refuses_290 ?_
  refine zi_icmp_ne (tgt := 299) hC.1.1 hC.1.2.1 dL_refuses_291 (by decide) (by decide) (by decide) (fun _ => ?_) (fun q => absurd q (by decide))
  refine lv_iload hC.1.1 hC.1.2.1 dL_refuses_299 (lv_at hl 5 rfl) ?_
  refine zi_const hC.1.1 hC.1.2.1 dL_refuses_301 ?_
  refine hx_act3_2 hst hC hP hS hG (by decide) (by decide) (by decide) dL_refuses_302 hl.1 (Nat.le_of_ble_eq_true rfl) ⟨(Nat.le_of_ble_eq_true rfl), (Nat.le_of_ble_eq_true rfl)⟩ ⟨(Nat.le_of_ble_eq_true rfl), (Nat.le_of_ble_eq_true rfl)⟩ (fun H locs hP hS => ?_)
  refine zi_bipush hC.1.1 hC.1.2.1 dL_refuses_305 rfl ?_
  refine zi_icmp_ne (tgt := 529) hC.1.1 hC.1.2.1 dL_refuses_307 (by decide) (by decide) (by decide) (fun q => absurd q (by decide)) (fun _ => ?_)
  refine lv_aload_n hC.1.1 hC.1.2.1 dL_refuses_310 rfl (lv_at hl 12 rfl) ?_
  refine zi_const hC.1.1 hC.1.2.1 dL_refuses_311 ?_
  refine lv_iload hC.1.1 hC.1.2.1 dL_refuses_312 (lv_at hl 1 rfl) ?_
  refine zi_const hC.1.1 hC.1.2.1 dL_refuses_314 ?_
  refine zi_const hC.1.1 hC.1.2.1 dL_refuses_315 ?_
  refine hx_act4_1 hst hC hP hS hG (by decide) (by decide) (by unfold thM; rw [if_neg (by omega)]) dL_refuses_316 hl.1 (Nat.le_of_ble_eq_true rfl) ⟨(Nat.le_of_ble_eq_true rfl), (Nat.le_of_ble_eq_true rfl)⟩ ⟨(Nat.le_of_ble_eq_true rfl), (Nat.le_of_ble_eq_true rfl)⟩ (fun H locs hP hS => ?_)
  refine zi_bipush hC.1.1 hC.1.2.1 dL_refuses_319 rfl ?_
  refine zi_icmp_ne (tgt := 529) hC.1.1 hC.1.2.1 dL_refuses_321 (by decide) (by decide) (by decide) (fun q => absurd q (by decide)) (fun _ => ?_)
  refine lv_aload_n hC.1.1 hC.1.2.1 dL_refuses_324 rfl (lv_at hl 12 rfl) ?_
  refine zi_const hC.1.1 hC.1.2.1 dL_refuses_325 ?_
  refine lv_iload hC.1.1 hC.1.2.1 dL_refuses_326 (lv_at hl 1 rfl) ?_
  refine zi_const hC.1.1 hC.1.2.1 dL_refuses_328 ?_
  refine zi_const hC.1.1 hC.1.2.1 dL_refuses_329 ?_
  refine hx_act5_1 hst hC hP hS hG (by decide) (by unfold th1; rw [if_neg (by omega)]) dL_refuses_330 hl.1 (Nat.le_of_ble_eq_true rfl) ⟨(Nat.le_of_ble_eq_true rfl), (Nat.le_of_ble_eq_true rfl)⟩ ⟨(Nat.le_of_ble_eq_true rfl), (Nat.le_of_ble_eq_true rfl)⟩ (fun H locs hP hS => ?_)
  refine zi_bipush hC.1.1 hC.1.2.1 dL_refuses_333 rfl ?_
  refine zi_icmp_ne (tgt := 529) hC.1.1 hC.1.2.1 dL_refuses_335 (by decide) (by decide) (by decide) (fun q => absurd q (by decide)) (fun _ => ?_)
  refine lv_aload_n hC.1.1 hC.1.2.1 dL_refuses_338 rfl (lv_at hl 12 rfl) ?_
  refine zi_bipush hC.1.1 hC.1.2.1 dL_refuses_339 rfl ?_
  refine lv_iload hC.1.1 hC.1.2.1 dL_refuses_341 (lv_at hl 1 rfl) ?_
  refine zi_const hC.1.1 hC.1.2.1 dL_refuses_343 ?_
  refine zi_const hC.1.1 hC.1.2.1 dL_refuses_344 ?_
  refine hx_act6_1 hst hC hP hS hG (by decide) (by decide) hlen (by unfold thM; rw [if_neg (by omega)]) dL_refuses_345 hl.1 (Nat.le_of_ble_eq_true rfl) ⟨(Nat.le_of_ble_eq_true rfl), (Nat.le_of_ble_eq_true rfl)⟩ ⟨(Nat.le_of_ble_eq_true rfl), (Nat.le_of_ble_eq_true rfl)⟩ (fun H locs hP hS => ?_)
  refine zi_bipush hC.1.1 hC.1.2.1 dL_refuses_348 rfl ?_
  refine zi_icmp_ne (tgt := 529) hC.1.1 hC.1.2.1 dL_refuses_350 (by decide) (by decide) (by decide) (fun q => absurd q (by decide)) (fun _ => ?_)
  refine lv_aload_n hC.1.1 hC.1.2.1 dL_refuses_353 rfl (lv_at hl 12 rfl) ?_
  refine lv_iload hC.1.1 hC.1.2.1 dL_refuses_354 (lv_at hl 1 rfl) ?_
  refine hx_drop_1 hst hC hP hS hG (by decide) (by unfold thD; rw [if_neg (by omega)]) dL_refuses_356 hl.1 (Nat.le_of_ble_eq_true rfl) ⟨(Nat.le_of_ble_eq_true rfl), (Nat.le_of_ble_eq_true rfl)⟩ ⟨(Nat.le_of_ble_eq_true rfl), (Nat.le_of_ble_eq_true rfl)⟩ (fun H locs hP hS => ?_)
  refine zi_bipush hC.1.1 hC.1.2.1 dL_refuses_359 rfl ?_
  refine zi_icmp_ne (tgt := 529) hC.1.1 hC.1.2.1 dL_refuses_361 (by decide) (by decide) (by decide) (fun q => absurd q (by decide)) (fun _ => ?_)
  refine lv_aload_n hC.1.1 hC.1.2.1 dL_refuses_364 rfl (lv_at hl 12 rfl) ?_
  refine zi_bipush hC.1.1 hC.1.2.1 dL_refuses_365 rfl ?_
  refine lv_iload hC.1.1 hC.1.2.1 dL_refuses_367 (lv_at hl 1 rfl) ?_
  refine zi_const hC.1.1 hC.1.2.1 dL_refuses_369 ?_
  refine zi_const hC.1.1 hC.1.2.1 dL_refuses_370 ?_
  refine hx_act7_1 hst hC hP hS hG (by decide) hn hby (by omega) dL_refuses_371 hl.1 (Nat.le_of_ble_eq_true rfl) ⟨(Nat.le_of_ble_eq_true rfl), (Nat.le_of_ble_eq_true rfl)⟩ ⟨(Nat.le_of_ble_eq_true rfl), (Nat.le_of_ble_eq_true rfl)⟩ (fun H locs hP hS => ?_)
  refine zi_bipush hC.1.1 hC.1.2.1 dL_refuses_374 rfl ?_
  refine zi_icmp_ne (tgt := 529) hC.1.1 hC.1.2.1 dL_refuses_376 (by decide) (by decide) (by decide) (fun q => absurd q (by decide)) (fun _ => ?_)
  refine lv_aload_n hC.1.1 hC.1.2.1 dL_refuses_379 rfl (lv_at hl 12 rfl) ?_
  refine zi_bipush hC.1.1 hC.1.2.1 dL_refuses_380 rfl ?_
  refine lv_iload hC.1.1 hC.1.2.1 dL_refuses_382 (lv_at hl 1 rfl) ?_
  refine zi_const hC.1.1 hC.1.2.1 dL_refuses_384 ?_
  refine zi_const hC.1.1 hC.1.2.1 dL_refuses_385 ?_
  refine hx_act8_1 hst hC hP hS hG (by decide) (by decide) (by unfold thO; rw [if_neg (by omega)]) dL_refuses_386 hl.1 (Nat.le_of_ble_eq_true rfl) ⟨(Nat.le_of_ble_eq_true rfl), (Nat.le_of_ble_eq_true rfl)⟩ ⟨(Nat.le_of_ble_eq_true rfl), (Nat.le_of_ble_eq_true rfl)⟩ (fun H locs hP hS => ?_)
  refine zi_bipush hC.1.1 hC.1.2.1 dL_refuses_389 rfl ?_
  refine zi_icmp_ne (tgt := 529) hC.1.1 hC.1.2.1 dL_refuses_391 (by decide) (by decide) (by decide) (fun q => absurd q (by decide)) (fun _ => ?_)
  refine lv_aload_n hC.1.1 hC.1.2.1 dL_refuses_394 rfl (lv_at hl 12 rfl) ?_
  refine zi_bipush hC.1.1 hC.1.2.1 dL_refuses_395 rfl ?_
  refine lv_iload hC.1.1 hC.1.2.1 dL_refuses_397 (lv_at hl 4 rfl) ?_
  refine zi_const hC.1.1 hC.1.2.1 dL_refuses_399 ?_
  refine zi_const hC.1.1 hC.1.2.1 dL_refuses_400 ?_
  refine hx_act9_1 hst hC hP hS hG (by decide) (by decide) (by decide) hlen hwt (by unfold thX; rw [if_neg (by omega)]) dL_refuses_401 hl.1 (Nat.le_of_ble_eq_true rfl) ⟨(Nat.le_of_ble_eq_true rfl), (Nat.le_of_ble_eq_true rfl)⟩ ⟨(Nat.le_of_ble_eq_true rfl), (Nat.le_of_ble_eq_true rfl)⟩ (fun H locs hP hS => ?_)
  refine zi_bipush hC.1.1 hC.1.2.1 dL_refuses_404 rfl ?_
  refine zi_icmp_ne (tgt := 529) hC.1.1 hC.1.2.1 dL_refuses_406 (by decide) (by decide) (by decide) (fun q => absurd q (by decide)) (fun _ => ?_)
  refine lv_aload_n hC.1.1 hC.1.2.1 dL_refuses_409 rfl (lv_at hl 12 rfl) ?_
  refine zi_bipush hC.1.1 hC.1.2.1 dL_refuses_410 rfl ?_
  refine zi_const hC.1.1 hC.1.2.1 dL_refuses_412 ?_
  refine lv_iload hC.1.1 hC.1.2.1 dL_refuses_413 (lv_at hl 3 rfl) ?_
  refine zi_const hC.1.1 hC.1.2.1 dL_refuses_415 ?_
  refine hx_act9_2 hst hC hP hS hG (by decide) (by decide) (by decide) hlen hwt (by unfold thX; rw [if_pos (by omega), if_neg (by omega)]) dL_refuses_416 hl.1 (Nat.le_of_ble_eq_true rfl) ⟨(Nat.le_of_ble_eq_true rfl), (Nat.le_of_ble_eq_true rfl)⟩ ⟨(Nat.le_of_ble_eq_true rfl), (Nat.le_of_ble_eq_true rfl)⟩ (fun H locs hP hS => ?_)
  refine zi_bipush hC.1.1 hC.1.2.1 dL_refuses_419 rfl ?_
  refine zi_icmp_ne (tgt := 529) hC.1.1 hC.1.2.1 dL_refuses_421 (by decide) (by decide) (by decide) (fun q => absurd q (by decide)) (fun _ => ?_)
  refine lv_aload_n hC.1.1 hC.1.2.1 dL_refuses_424 rfl (lv_at hl 12 rfl) ?_
  refine zi_bipush hC.1.1 hC.1.2.1 dL_refuses_425 rfl ?_
  refine zi_const hC.1.1 hC.1.2.1 dL_refuses_427 ?_
  refine zi_const hC.1.1 hC.1.2.1 dL_refuses_428 ?_
  refine lv_iload hC.1.1 hC.1.2.1 dL_refuses_429 (lv_at hl 6 rfl) ?_
  refine zi_if_ne (tgt := 438) hC.1.1 hC.1.2.1 dL_refuses_431 (by decide) (by decide) (fun _ => ?_) (fun q => absurd q (by decide))
  refine lv_iload hC.1.1 hC.1.2.1 dL_refuses_438 (lv_at hl 2 rfl) ?_
  refine hx_act9_2 hst hC hP hS hG (by decide) (by decide) (by decide) hlen hwt (by unfold thX; rw [if_pos (by omega), if_neg (by omega)]) dL_refuses_440 hl.1 (Nat.le_of_ble_eq_true rfl) ⟨(Nat.le_of_ble_eq_true rfl), (Nat.le_of_ble_eq_true rfl)⟩ ⟨(Nat.le_of_ble_eq_true rfl), (Nat.le_of_ble_eq_true rfl)⟩ (fun H locs hP hS => ?_)
  refine zi_bipush hC.1.1 hC.1.2.1 dL_refuses_443 rfl ?_
  refine zi_icmp_ne (tgt := 529) hC.1.1 hC.1.2.1 dL_refuses_445 (by decide) (by decide) (by decide) (fun q => absurd q (by decide)) (fun _ => ?_)
  refine lv_aload_n hC.1.1 hC.1.2.1 dL_refuses_448 rfl (lv_at hl 12 rfl) ?_
  refine zi_bipush hC.1.1 hC.1.2.1 dL_refuses_449 rfl ?_
  refine lv_iload hC.1.1 hC.1.2.1 dL_refuses_451 (lv_at hl 3 rfl) ?_
  refine lv_iload hC.1.1 hC.1.2.1 dL_refuses_453 (lv_at hl 4 rfl) ?_
  refine zi_const hC.1.1 hC.1.2.1 dL_refuses_455 ?_
  refine hx_act10_1 hst hC hP hS hG (by decide) (by decide) (by decide) dL_refuses_456 hl.1 (Nat.le_of_ble_eq_true rfl) ⟨(Nat.le_of_ble_eq_true rfl), (Nat.le_of_ble_eq_true rfl)⟩ ⟨(Nat.le_of_ble_eq_true rfl), (Nat.le_of_ble_eq_true rfl)⟩ (fun H locs hP hS => ?_)
  refine zi_bipush hC.1.1 hC.1.2.1 dL_refuses_459 rfl ?_
  refine zi_icmp_ne (tgt := 529) hC.1.1 hC.1.2.1 dL_refuses_461 (by decide) (by decide) (by decide) (fun q => absurd q (by decide)) (fun _ => ?_)
  refine lv_aload_n hC.1.1 hC.1.2.1 dL_refuses_464 rfl (lv_at hl 12 rfl) ?_
  refine zi_bipush hC.1.1 hC.1.2.1 dL_refuses_465 rfl ?_
  refine lv_iload hC.1.1 hC.1.2.1 dL_refuses_467 (lv_at hl 3 rfl) ?_
  refine zi_const hC.1.1 hC.1.2.1 dL_refuses_469 ?_
  refine zi_const hC.1.1 hC.1.2.1 dL_refuses_470 ?_
  refine hx_act10_2 hst hC hP hS hG (by decide) (by decide) (by decide) dL_refuses_471 hl.1 (Nat.le_of_ble_eq_true rfl) ⟨(Nat.le_of_ble_eq_true rfl), (Nat.le_of_ble_eq_true rfl)⟩ ⟨(Nat.le_of_ble_eq_true rfl), (Nat.le_of_ble_eq_true rfl)⟩ (fun H locs hP hS => ?_)
  refine zi_bipush hC.1.1 hC.1.2.1 dL_refuses_474 rfl ?_
  refine zi_icmp_ne (tgt := 529) hC.1.1 hC.1.2.1 dL_refuses_476 (by decide) (by decide) (by decide) (fun q => absurd q (by decide)) (fun _ => ?_)
  refine lv_aload_n hC.1.1 hC.1.2.1 dL_refuses_479 rfl (lv_at hl 12 rfl) ?_
  refine zi_bipush hC.1.1 hC.1.2.1 dL_refuses_480 rfl ?_
  refine lv_iload hC.1.1 hC.1.2.1 dL_refuses_482 (lv_at hl 3 rfl) ?_
  refine lv_iload hC.1.1 hC.1.2.1 dL_refuses_484 (lv_at hl 4 rfl) ?_
  refine zi_const hC.1.1 hC.1.2.1 dL_refuses_486 ?_
  refine hx_act11_1 hst hC hP hS hG (by decide) (by decide) (by decide) dL_refuses_487 hl.1 (Nat.le_of_ble_eq_true rfl) ⟨(Nat.le_of_ble_eq_true rfl), (Nat.le_of_ble_eq_true rfl)⟩ ⟨(Nat.le_of_ble_eq_true rfl), (Nat.le_of_ble_eq_true rfl)⟩ (fun H locs hP hS => ?_)
  refine zi_bipush hC.1.1 hC.1.2.1 dL_refuses_490 rfl ?_
  refine zi_icmp_ne (tgt := 529) hC.1.1 hC.1.2.1 dL_refuses_492 (by decide) (by decide) (by decide) (fun q => absurd q (by decide)) (fun _ => ?_)
  refine lv_aload_n hC.1.1 hC.1.2.1 dL_refuses_495 rfl (lv_at hl 12 rfl) ?_
  refine zi_bipush hC.1.1 hC.1.2.1 dL_refuses_496 rfl ?_
  refine lv_iload hC.1.1 hC.1.2.1 dL_refuses_498 (lv_at hl 3 rfl) ?_
  refine zi_const hC.1.1 hC.1.2.1 dL_refuses_500 ?_
  refine zi_const hC.1.1 hC.1.2.1 dL_refuses_501 ?_
  refine hx_act11_2 hst hC hP hS hG (by decide) (by decide) (by decide) dL_refuses_502 hl.1 (Nat.le_of_ble_eq_true rfl) ⟨(Nat.le_of_ble_eq_true rfl), (Nat.le_of_ble_eq_true rfl)⟩ ⟨(Nat.le_of_ble_eq_true rfl), (Nat.le_of_ble_eq_true rfl)⟩ (fun H locs hP hS => ?_)
  refine zi_bipush hC.1.1 hC.1.2.1 dL_refuses_505 rfl ?_
  refine zi_icmp_ne (tgt := 529) hC.1.1 hC.1.2.1 dL_refuses_507 (by decide) (by decide) (by decide) (fun q => absurd q (by decide)) (fun _ => ?_)
  refine lv_aload_n hC.1.1 hC.1.2.1 dL_refuses_510 rfl (lv_at hl 12 rfl) ?_
  refine zi_bipush hC.1.1 hC.1.2.1 dL_refuses_511 rfl ?_
  refine lv_iload hC.1.1 hC.1.2.1 dL_refuses_513 (lv_at hl 3 rfl) ?_
  refine zi_const hC.1.1 hC.1.2.1 dL_refuses_515 ?_
  refine zi_const hC.1.1 hC.1.2.1 dL_refuses_516 ?_
  refine hx_act12_1 hst hC hP hS hG (by decide) (by decide) dL_refuses_517 hl.1 (Nat.le_of_ble_eq_true rfl) ⟨(Nat.le_of_ble_eq_true rfl), (Nat.le_of_ble_eq_true rfl)⟩ ⟨(Nat.le_of_ble_eq_true rfl), (Nat.le_of_ble_eq_true rfl)⟩ (fun H locs hP hS => ?_)
  refine zi_bipush hC.1.1 hC.1.2.1 dL_refuses_520 rfl ?_
  refine zi_icmp_ne (tgt := 529) hC.1.1 hC.1.2.1 dL_refuses_522 (by decide) (by decide) (by decide) (fun q => absurd q (by decide)) (fun _ => ?_)
  refine zi_const hC.1.1 hC.1.2.1 dL_refuses_525 ?_
  refine lv_goto (tgt := 530) hC.1.1 hC.1.2.1 dL_refuses_526 (by decide) ?_
  refine lv_istore (lv' := [(13, .int (iz 1)), (12, .int (iz 2147483647)), (11, .int (iz 2147483647)), (10, .int (iz 2147483647)), (9, .int (iz 2147483647)), (8, .int (iz 2147483647)), (7, .int (iz 2147483647)), (6, .int (iz 2)), (5, .int (iz 2147483647)), (4, .int (iz (b2i (fineM σ)))), (3, .int (iz (chS σ 500 16))), (2, .int (iz (ldS σ 0 0 16))), (1, .int (iz ac)), (0, .ref (h 0))]) hC.1.1 hC.1.2.1 dL_refuses_530 hl (by decide) rfl (fun ls hl => ?_)
  refine lv_iload hC.1.1 hC.1.2.1 dL_refuses_532 (lv_at hl 0 rfl) ?_
  refine zi_if_eq (tgt := 589) hC.1.1 hC.1.2.1 dL_refuses_534 (by decide) (by decide) (fun q => absurd q (by decide)) (fun _ => ?_)
  refine lv_iload_n hC.1.1 hC.1.2.1 dL_refuses_537 rfl (lv_at hl 12 rfl) ?_
  have j585 : ∀ (H : Heap) (locs : List Loc), zB 32 h D (gC c h σ κ ω) H → va_S A s.heap H locs → W p l e { frames := 11, cells := 900, slots := 6 * 900, locals := 240 } s m args below meth cd H locs 420 (6 * 420) (MQ below (va_Qi (fun r (u : Int × S3) => r = iz u.1 ∧ (fun (z : Int) (u : S3) => z = 1 ∧ u.1 = σ ∧ u.2.2 = ω) u.1 u.2) (fun u t => zB 32 h D (gS c h u.2) t.heap) A) args s 900 (6 * 900) A) (F0 m 585 ls []) := fun H locs hP hS => by
    refine zi_const hC.1.1 hC.1.2.1 dL_refuses_585 ?_
    refine lv_goto (tgt := 590) hC.1.1 hC.1.2.1 dL_refuses_586 (by decide) ?_
    refine lv_istore (lv' := [(13, .int (iz 1)), (12, .int (iz 2147483647)), (11, .int (iz 2147483647)), (10, .int (iz 2147483647)), (9, .int (iz 2147483647)), (8, .int (iz 2147483647)), (7, .int (iz 2147483647)), (6, .int (iz 2)), (5, .int (iz 2147483647)), (4, .int (iz (b2i (fineM σ)))), (3, .int (iz (chS σ 500 16))), (2, .int (iz (ldS σ 0 0 16))), (1, .int (iz ac)), (0, .ref (h 0))]) hC.1.1 hC.1.2.1 dL_refuses_590 hl (by decide) rfl (fun ls hl => ?_)
    refine zi_const hC.1.1 hC.1.2.1 dL_refuses_592 ?_
    refine lv_istore (lv' := [(14, .int (iz 0)), (13, .int (iz 1)), (12, .int (iz 2147483647)), (11, .int (iz 2147483647)), (10, .int (iz 2147483647)), (9, .int (iz 2147483647)), (8, .int (iz 2147483647)), (7, .int (iz 2147483647)), (6, .int (iz 2)), (5, .int (iz 2147483647)), (4, .int (iz (b2i (fineM σ)))), (3, .int (iz (chS σ 500 16))), (2, .int (iz (ldS σ 0 0 16))), (1, .int (iz ac)), (0, .ref (h 0))]) hC.1.1 hC.1.2.1 dL_refuses_593 hl (by decide) rfl (fun ls hl => ?_)
    refine lv_iload hC.1.1 hC.1.2.1 dL_refuses_595 (lv_at hl 0 rfl) ?_
    refine zi_const hC.1.1 hC.1.2.1 dL_refuses_597 ?_
    refine zi_icmp_ge (tgt := 773) hC.1.1 hC.1.2.1 dL_refuses_598 (by decide) (by decide) (by decide) (fun q => absurd q (by decide)) (fun _ => ?_)
    refine lv_iload hC.1.1 hC.1.2.1 dL_refuses_601 (lv_at hl 0 rfl) ?_
    refine zi_if_ne (tgt := 610) hC.1.1 hC.1.2.1 dL_refuses_603 (by decide) (by decide) (fun q => absurd q (by decide)) (fun _ => ?_)
    refine zi_const hC.1.1 hC.1.2.1 dL_refuses_606 ?_
    refine lv_goto (tgt := 611) hC.1.1 hC.1.2.1 dL_refuses_607 (by decide) ?_
    refine lv_istore (lv' := [(15, .int (iz 1)), (14, .int (iz 0)), (13, .int (iz 1)), (12, .int (iz 2147483647)), (11, .int (iz 2147483647)), (10, .int (iz 2147483647)), (9, .int (iz 2147483647)), (8, .int (iz 2147483647)), (7, .int (iz 2147483647)), (6, .int (iz 2)), (5, .int (iz 2147483647)), (4, .int (iz (b2i (fineM σ)))), (3, .int (iz (chS σ 500 16))), (2, .int (iz (ldS σ 0 0 16))), (1, .int (iz ac)), (0, .ref (h 0))]) hC.1.1 hC.1.2.1 dL_refuses_611 hl (by decide) rfl (fun ls hl => ?_)
    refine lv_iload hC.1.1 hC.1.2.1 dL_refuses_613 (lv_at hl 2 rfl) ?_
    refine zi_if_eq (tgt := 764) hC.1.1 hC.1.2.1 dL_refuses_615 (by decide) (by decide) (fun q => absurd q (by decide)) (fun _ => ?_)
    refine lv_aload_n hC.1.1 hC.1.2.1 dL_refuses_618 rfl (lv_at hl 15 rfl) ?_
    refine lv_iload hC.1.1 hC.1.2.1 dL_refuses_619 (lv_at hl 0 rfl) ?_
    refine lv_iload hC.1.1 hC.1.2.1 dL_refuses_621 (lv_at hl 7 rfl) ?_
    refine zi_const hC.1.1 hC.1.2.1 dL_refuses_623 ?_
    refine zi_const hC.1.1 hC.1.2.1 dL_refuses_624 ?_
    refine zi_const hC.1.1 hC.1.2.1 dL_refuses_625 ?_
    refine zi_const hC.1.1 hC.1.2.1 dL_refuses_626 ?_
    refine zi_const hC.1.1 hC.1.2.1 dL_refuses_627 ?_
    refine zi_const hC.1.1 hC.1.2.1 dL_refuses_628 ?_
    refine hx_plan1_1 hst hC hP hS hG (by decide) (by decide) (by decide) (by decide) (by decide) (by decide) (by decide) (by unfold thL; rw [if_neg (by omega)]) dL_refuses_629 hl.1 (Nat.le_of_ble_eq_true rfl) ⟨(Nat.le_of_ble_eq_true rfl), (Nat.le_of_ble_eq_true rfl)⟩ ⟨(Nat.le_of_ble_eq_true rfl), (Nat.le_of_ble_eq_true rfl)⟩ (fun H locs hP hS => ?_)
    refine zi_bipush hC.1.1 hC.1.2.1 dL_refuses_632 rfl ?_
    refine zi_icmp_ne (tgt := 764) hC.1.1 hC.1.2.1 dL_refuses_634 (by decide) (by decide) (by decide) (fun q => absurd q (by decide)) (fun _ => ?_)
    refine lv_aload_n hC.1.1 hC.1.2.1 dL_refuses_637 rfl (lv_at hl 15 rfl) ?_
    refine lv_iload hC.1.1 hC.1.2.1 dL_refuses_638 (lv_at hl 0 rfl) ?_
    refine zi_const hC.1.1 hC.1.2.1 dL_refuses_640 ?_
    refine zi_const hC.1.1 hC.1.2.1 dL_refuses_641 ?_
    refine zi_const hC.1.1 hC.1.2.1 dL_refuses_642 ?_
    refine lv_iload hC.1.1 hC.1.2.1 dL_refuses_643 (lv_at hl 7 rfl) ?_
    refine zi_const hC.1.1 hC.1.2.1 dL_refuses_645 ?_
    refine zi_const hC.1.1 hC.1.2.1 dL_refuses_646 ?_
    refine zi_const hC.1.1 hC.1.2.1 dL_refuses_647 ?_
    refine hx_plan1_1 hst hC hP hS hG (by decide) (by decide) (by decide) (by decide) (by decide) (by decide) (by decide) (by unfold thL; rw [if_neg (by omega)]) dL_refuses_648 hl.1 (Nat.le_of_ble_eq_true rfl) ⟨(Nat.le_of_ble_eq_true rfl), (Nat.le_of_ble_eq_true rfl)⟩ ⟨(Nat.le_of_ble_eq_true rfl), (Nat.le_of_ble_eq_true rfl)⟩ (fun H locs hP hS => ?_)
    refine zi_bipush hC.1.1 hC.1.2.1 dL_refuses_651 rfl ?_
    refine zi_icmp_ne (tgt := 764) hC.1.1 hC.1.2.1 dL_refuses_653 (by decide) (by decide) (by decide) (fun q => absurd q (by decide)) (fun _ => ?_)
    refine lv_aload_n hC.1.1 hC.1.2.1 dL_refuses_656 rfl (lv_at hl 15 rfl) ?_
    refine lv_iload hC.1.1 hC.1.2.1 dL_refuses_657 (lv_at hl 0 rfl) ?_
    refine zi_const hC.1.1 hC.1.2.1 dL_refuses_659 ?_
    refine lv_iload hC.1.1 hC.1.2.1 dL_refuses_660 (lv_at hl 6 rfl) ?_
    refine zi_const hC.1.1 hC.1.2.1 dL_refuses_662 ?_
    refine zi_const hC.1.1 hC.1.2.1 dL_refuses_663 ?_
    refine zi_const hC.1.1 hC.1.2.1 dL_refuses_664 ?_
    refine zi_const hC.1.1 hC.1.2.1 dL_refuses_665 ?_
    refine zi_const hC.1.1 hC.1.2.1 dL_refuses_666 ?_
    refine hx_plan1_2 hst hC hP hS hG (by decide) (by decide) (by decide) (by decide) (by decide) (by decide) (by decide) (by unfold thL; rw [if_pos (by omega), if_neg (by omega)]) dL_refuses_667 hl.1 (Nat.le_of_ble_eq_true rfl) ⟨(Nat.le_of_ble_eq_true rfl), (Nat.le_of_ble_eq_true rfl)⟩ ⟨(Nat.le_of_ble_eq_true rfl), (Nat.le_of_ble_eq_true rfl)⟩ (fun H locs hP hS => ?_)
    refine zi_bipush hC.1.1 hC.1.2.1 dL_refuses_670 rfl ?_
    refine zi_icmp_ne (tgt := 764) hC.1.1 hC.1.2.1 dL_refuses_672 (by decide) (by decide) (by decide) (fun q => absurd q (by decide)) (fun _ => ?_)
    refine lv_aload_n hC.1.1 hC.1.2.1 dL_refuses_675 rfl (lv_at hl 15 rfl) ?_
    refine lv_iload hC.1.1 hC.1.2.1 dL_refuses_676 (lv_at hl 0 rfl) ?_
    refine zi_const hC.1.1 hC.1.2.1 dL_refuses_678 ?_
    refine zi_const hC.1.1 hC.1.2.1 dL_refuses_679 ?_
    refine lv_iload hC.1.1 hC.1.2.1 dL_refuses_680 (lv_at hl 9 rfl) ?_
    refine zi_if_ne (tgt := 689) hC.1.1 hC.1.2.1 dL_refuses_682 (by decide) (by decide) (fun _ => ?_) (fun q => absurd q (by decide))
    refine lv_iload hC.1.1 hC.1.2.1 dL_refuses_689 (lv_at hl 5 rfl) ?_
    refine zi_const hC.1.1 hC.1.2.1 dL_refuses_691 ?_
    refine zi_const hC.1.1 hC.1.2.1 dL_refuses_692 ?_
    refine zi_const hC.1.1 hC.1.2.1 dL_refuses_693 ?_
    refine zi_const hC.1.1 hC.1.2.1 dL_refuses_694 ?_
    refine hx_plan1_2 hst hC hP hS hG (by decide) (by decide) (by decide) (by decide) (by decide) (by decide) (by decide) (by unfold thL; rw [if_pos (by omega), if_neg (by omega)]) dL_refuses_695 hl.1 (Nat.le_of_ble_eq_true rfl) ⟨(Nat.le_of_ble_eq_true rfl), (Nat.le_of_ble_eq_true rfl)⟩ ⟨(Nat.le_of_ble_eq_true rfl), (Nat.le_of_ble_eq_true rfl)⟩ (fun H locs hP hS => ?_)
    refine zi_bipush hC.1.1 hC.1.2.1 dL_refuses_698 rfl ?_
    refine zi_icmp_ne (tgt := 764) hC.1.1 hC.1.2.1 dL_refuses_700 (by decide) (by decide) (by decide) (fun q => absurd q (by decide)) (fun _ => ?_)
    refine lv_aload_n hC.1.1 hC.1.2.1 dL_refuses_703 rfl (lv_at hl 15 rfl) ?_
    refine lv_iload hC.1.1 hC.1.2.1 dL_refuses_704 (lv_at hl 0 rfl) ?_
    refine zi_const hC.1.1 hC.1.2.1 dL_refuses_706 ?_
    refine zi_const hC.1.1 hC.1.2.1 dL_refuses_707 ?_
    refine zi_const hC.1.1 hC.1.2.1 dL_refuses_708 ?_
    refine zi_const hC.1.1 hC.1.2.1 dL_refuses_709 ?_
    refine lv_iload hC.1.1 hC.1.2.1 dL_refuses_710 (lv_at hl 5 rfl) ?_
    refine zi_const hC.1.1 hC.1.2.1 dL_refuses_712 ?_
    refine zi_const hC.1.1 hC.1.2.1 dL_refuses_713 ?_
    refine hx_plan1_2 hst hC hP hS hG (by decide) (by decide) (by decide) (by decide) (by decide) (by decide) (by decide) (by unfold thL; rw [if_pos (by omega), if_neg (by omega)]) dL_refuses_714 hl.1 (Nat.le_of_ble_eq_true rfl) ⟨(Nat.le_of_ble_eq_true rfl), (Nat.le_of_ble_eq_true rfl)⟩ ⟨(Nat.le_of_ble_eq_true rfl), (Nat.le_of_ble_eq_true rfl)⟩ (fun H locs hP hS => ?_)
    refine zi_bipush hC.1.1 hC.1.2.1 dL_refuses_717 rfl ?_
    refine zi_icmp_ne (tgt := 764) hC.1.1 hC.1.2.1 dL_refuses_719 (by decide) (by decide) (by decide) (fun q => absurd q (by decide)) (fun _ => ?_)
    refine lv_aload_n hC.1.1 hC.1.2.1 dL_refuses_722 rfl (lv_at hl 15 rfl) ?_
    refine lv_iload hC.1.1 hC.1.2.1 dL_refuses_723 (lv_at hl 0 rfl) ?_
    refine zi_const hC.1.1 hC.1.2.1 dL_refuses_725 ?_
    refine zi_const hC.1.1 hC.1.2.1 dL_refuses_726 ?_
    refine zi_const hC.1.1 hC.1.2.1 dL_refuses_727 ?_
    refine zi_const hC.1.1 hC.1.2.1 dL_refuses_728 ?_
    refine zi_const hC.1.1 hC.1.2.1 dL_refuses_729 ?_
    refine lv_iload hC.1.1 hC.1.2.1 dL_refuses_730 (lv_at hl 5 rfl) ?_
    refine zi_const hC.1.1 hC.1.2.1 dL_refuses_732 ?_
    refine hx_plan1_2 hst hC hP hS hG (by decide) (by decide) (by decide) (by decide) (by decide) (by decide) (by decide) (by unfold thL; rw [if_pos (by omega), if_neg (by omega)]) dL_refuses_733 hl.1 (Nat.le_of_ble_eq_true rfl) ⟨(Nat.le_of_ble_eq_true rfl), (Nat.le_of_ble_eq_true rfl)⟩ ⟨(Nat.le_of_ble_eq_true rfl), (Nat.le_of_ble_eq_true rfl)⟩ (fun H locs hP hS => ?_)
    refine zi_bipush hC.1.1 hC.1.2.1 dL_refuses_736 rfl ?_
    refine zi_icmp_ne (tgt := 764) hC.1.1 hC.1.2.1 dL_refuses_738 (by decide) (by decide) (by decide) (fun q => absurd q (by decide)) (fun _ => ?_)
    refine lv_aload_n hC.1.1 hC.1.2.1 dL_refuses_741 rfl (lv_at hl 15 rfl) ?_
    refine lv_iload hC.1.1 hC.1.2.1 dL_refuses_742 (lv_at hl 0 rfl) ?_
    refine zi_const hC.1.1 hC.1.2.1 dL_refuses_744 ?_
    refine zi_const hC.1.1 hC.1.2.1 dL_refuses_745 ?_
    refine zi_const hC.1.1 hC.1.2.1 dL_refuses_746 ?_
    refine zi_const hC.1.1 hC.1.2.1 dL_refuses_747 ?_
    refine zi_const hC.1.1 hC.1.2.1 dL_refuses_748 ?_
    refine zi_const hC.1.1 hC.1.2.1 dL_refuses_749 ?_
    refine lv_iload hC.1.1 hC.1.2.1 dL_refuses_750 (lv_at hl 3 rfl) ?_
    refine hx_plan1_2 hst hC hP hS hG (by decide) (by decide) (by decide) (by decide) (by decide) (by decide) (by decide) (by unfold thL; rw [if_pos (by omega), if_neg (by omega)]) dL_refuses_752 hl.1 (Nat.le_of_ble_eq_true rfl) ⟨(Nat.le_of_ble_eq_true rfl), (Nat.le_of_ble_eq_true rfl)⟩ ⟨(Nat.le_of_ble_eq_true rfl), (Nat.le_of_ble_eq_true rfl)⟩ (fun H locs hP hS => ?_)
    refine zi_bipush hC.1.1 hC.1.2.1 dL_refuses_755 rfl ?_
    refine zi_icmp_ne (tgt := 764) hC.1.1 hC.1.2.1 dL_refuses_757 (by decide) (by decide) (by decide) (fun q => absurd q (by decide)) (fun _ => ?_)
    refine zi_const hC.1.1 hC.1.2.1 dL_refuses_760 ?_
    refine lv_goto (tgt := 765) hC.1.1 hC.1.2.1 dL_refuses_761 (by decide) ?_
    refine lv_istore (lv' := [(13, .int (iz 1)), (15, .int (iz 1)), (14, .int (iz 0)), (12, .int (iz 2147483647)), (11, .int (iz 2147483647)), (10, .int (iz 2147483647)), (9, .int (iz 2147483647)), (8, .int (iz 2147483647)), (7, .int (iz 2147483647)), (6, .int (iz 2)), (5, .int (iz 2147483647)), (4, .int (iz (b2i (fineM σ)))), (3, .int (iz (chS σ 500 16))), (2, .int (iz (ldS σ 0 0 16))), (1, .int (iz ac)), (0, .ref (h 0))]) hC.1.1 hC.1.2.1 dL_refuses_765 hl (by decide) rfl (fun ls hl => ?_)
    refine lv_iinc (v := iz 1) (lv' := [(14, .int (iz 1)), (13, .int (iz 1)), (15, .int (iz 1)), (12, .int (iz 2147483647)), (11, .int (iz 2147483647)), (10, .int (iz 2147483647)), (9, .int (iz 2147483647)), (8, .int (iz 2147483647)), (7, .int (iz 2147483647)), (6, .int (iz 2)), (5, .int (iz 2147483647)), (4, .int (iz (b2i (fineM σ)))), (3, .int (iz (chS σ 500 16))), (2, .int (iz (ldS σ 0 0 16))), (1, .int (iz ac)), (0, .ref (h 0))]) hC.1.1 hC.1.2.1 dL_refuses_767 hl (k := 2) rfl rfl (by decide) rfl (fun ls hl => ?_)
    refine lv_goto (tgt := 595) hC.1.1 hC.1.2.1 dL_refuses_770 (by decide) ?_
    refine lv_iload hC.1.1 hC.1.2.1 dL_refuses_595 (lv_at hl 0 rfl) ?_
    refine zi_const hC.1.1 hC.1.2.1 dL_refuses_597 ?_
    refine zi_icmp_ge (tgt := 773) hC.1.1 hC.1.2.1 dL_refuses_598 (by decide) (by decide) (by decide) (fun q => absurd q (by decide)) (fun _ => ?_)
    refine lv_iload hC.1.1 hC.1.2.1 dL_refuses_601 (lv_at hl 0 rfl) ?_
    refine zi_if_ne (tgt := 610) hC.1.1 hC.1.2.1 dL_refuses_603 (by decide) (by decide) (fun _ => ?_) (fun q => absurd q (by decide))
    refine zi_const hC.1.1 hC.1.2.1 dL_refuses_610 ?_
    refine lv_istore (lv' := [(15, .int (iz 0)), (14, .int (iz 1)), (13, .int (iz 1)), (12, .int (iz 2147483647)), (11, .int (iz 2147483647)), (10, .int (iz 2147483647)), (9, .int (iz 2147483647)), (8, .int (iz 2147483647)), (7, .int (iz 2147483647)), (6, .int (iz 2)), (5, .int (iz 2147483647)), (4, .int (iz (b2i (fineM σ)))), (3, .int (iz (chS σ 500 16))), (2, .int (iz (ldS σ 0 0 16))), (1, .int (iz ac)), (0, .ref (h 0))]) hC.1.1 hC.1.2.1 dL_refuses_611 hl (by decide) rfl (fun ls hl => ?_)
    refine lv_iload hC.1.1 hC.1.2.1 dL_refuses_613 (lv_at hl 2 rfl) ?_
    refine zi_if_eq (tgt := 764) hC.1.1 hC.1.2.1 dL_refuses_615 (by decide) (by decide) (fun q => absurd q (by decide)) (fun _ => ?_)
    refine lv_aload_n hC.1.1 hC.1.2.1 dL_refuses_618 rfl (lv_at hl 15 rfl) ?_
    refine lv_iload hC.1.1 hC.1.2.1 dL_refuses_619 (lv_at hl 0 rfl) ?_
    refine lv_iload hC.1.1 hC.1.2.1 dL_refuses_621 (lv_at hl 7 rfl) ?_
    refine zi_const hC.1.1 hC.1.2.1 dL_refuses_623 ?_
    refine zi_const hC.1.1 hC.1.2.1 dL_refuses_624 ?_
    refine zi_const hC.1.1 hC.1.2.1 dL_refuses_625 ?_
    refine zi_const hC.1.1 hC.1.2.1 dL_refuses_626 ?_
    refine zi_const hC.1.1 hC.1.2.1 dL_refuses_627 ?_
    refine zi_const hC.1.1 hC.1.2.1 dL_refuses_628 ?_
    refine hx_plan0_1 hst hC hP hS hG (by decide) (by decide) (by decide) (by decide) (by decide) (by decide) (by decide) (by unfold thL; rw [if_neg (by omega)]) dL_refuses_629 hl.1 (Nat.le_of_ble_eq_true rfl) ⟨(Nat.le_of_ble_eq_true rfl), (Nat.le_of_ble_eq_true rfl)⟩ ⟨(Nat.le_of_ble_eq_true rfl), (Nat.le_of_ble_eq_true rfl)⟩ (fun H locs hP hS => ?_)
    refine zi_bipush hC.1.1 hC.1.2.1 dL_refuses_632 rfl ?_
    refine zi_icmp_ne (tgt := 764) hC.1.1 hC.1.2.1 dL_refuses_634 (by decide) (by decide) (by decide) (fun q => absurd q (by decide)) (fun _ => ?_)
    refine lv_aload_n hC.1.1 hC.1.2.1 dL_refuses_637 rfl (lv_at hl 15 rfl) ?_
    refine lv_iload hC.1.1 hC.1.2.1 dL_refuses_638 (lv_at hl 0 rfl) ?_
    refine zi_const hC.1.1 hC.1.2.1 dL_refuses_640 ?_
    refine zi_const hC.1.1 hC.1.2.1 dL_refuses_641 ?_
    refine zi_const hC.1.1 hC.1.2.1 dL_refuses_642 ?_
    refine lv_iload hC.1.1 hC.1.2.1 dL_refuses_643 (lv_at hl 7 rfl) ?_
    refine zi_const hC.1.1 hC.1.2.1 dL_refuses_645 ?_
    refine zi_const hC.1.1 hC.1.2.1 dL_refuses_646 ?_
    refine zi_const hC.1.1 hC.1.2.1 dL_refuses_647 ?_
    refine hx_plan0_1 hst hC hP hS hG (by decide) (by decide) (by decide) (by decide) (by decide) (by decide) (by decide) (by unfold thL; rw [if_neg (by omega)]) dL_refuses_648 hl.1 (Nat.le_of_ble_eq_true rfl) ⟨(Nat.le_of_ble_eq_true rfl), (Nat.le_of_ble_eq_true rfl)⟩ ⟨(Nat.le_of_ble_eq_true rfl), (Nat.le_of_ble_eq_true rfl)⟩ (fun H locs hP hS => ?_)
    refine zi_bipush hC.1.1 hC.1.2.1 dL_refuses_651 rfl ?_
    refine zi_icmp_ne (tgt := 764) hC.1.1 hC.1.2.1 dL_refuses_653 (by decide) (by decide) (by decide) (fun q => absurd q (by decide)) (fun _ => ?_)
    refine lv_aload_n hC.1.1 hC.1.2.1 dL_refuses_656 rfl (lv_at hl 15 rfl) ?_
    refine lv_iload hC.1.1 hC.1.2.1 dL_refuses_657 (lv_at hl 0 rfl) ?_
    refine zi_const hC.1.1 hC.1.2.1 dL_refuses_659 ?_
    refine lv_iload hC.1.1 hC.1.2.1 dL_refuses_660 (lv_at hl 6 rfl) ?_
    refine zi_const hC.1.1 hC.1.2.1 dL_refuses_662 ?_
    refine zi_const hC.1.1 hC.1.2.1 dL_refuses_663 ?_
    refine zi_const hC.1.1 hC.1.2.1 dL_refuses_664 ?_
    refine zi_const hC.1.1 hC.1.2.1 dL_refuses_665 ?_
    refine zi_const hC.1.1 hC.1.2.1 dL_refuses_666 ?_
    refine hx_plan0_2 hst hC hP hS hG (by decide) (by decide) (by decide) (by decide) (by decide) (by decide) (by decide) (by unfold thL; rw [if_pos (by omega), if_neg (by omega)]) dL_refuses_667 hl.1 (Nat.le_of_ble_eq_true rfl) ⟨(Nat.le_of_ble_eq_true rfl), (Nat.le_of_ble_eq_true rfl)⟩ ⟨(Nat.le_of_ble_eq_true rfl), (Nat.le_of_ble_eq_true rfl)⟩ (fun H locs hP hS => ?_)
    refine zi_bipush hC.1.1 hC.1.2.1 dL_refuses_670 rfl ?_
    refine zi_icmp_ne (tgt := 764) hC.1.1 hC.1.2.1 dL_refuses_672 (by decide) (by decide) (by decide) (fun q => absurd q (by decide)) (fun _ => ?_)
    refine lv_aload_n hC.1.1 hC.1.2.1 dL_refuses_675 rfl (lv_at hl 15 rfl) ?_
    refine lv_iload hC.1.1 hC.1.2.1 dL_refuses_676 (lv_at hl 0 rfl) ?_
    refine zi_const hC.1.1 hC.1.2.1 dL_refuses_678 ?_
    refine zi_const hC.1.1 hC.1.2.1 dL_refuses_679 ?_
    refine lv_iload hC.1.1 hC.1.2.1 dL_refuses_680 (lv_at hl 9 rfl) ?_
    refine zi_if_ne (tgt := 689) hC.1.1 hC.1.2.1 dL_refuses_682 (by decide) (by decide) (fun _ => ?_) (fun q => absurd q (by decide))
    refine lv_iload hC.1.1 hC.1.2.1 dL_refuses_689 (lv_at hl 5 rfl) ?_
    refine zi_const hC.1.1 hC.1.2.1 dL_refuses_691 ?_
    refine zi_const hC.1.1 hC.1.2.1 dL_refuses_692 ?_
    refine zi_const hC.1.1 hC.1.2.1 dL_refuses_693 ?_
    refine zi_const hC.1.1 hC.1.2.1 dL_refuses_694 ?_
    refine hx_plan0_2 hst hC hP hS hG (by decide) (by decide) (by decide) (by decide) (by decide) (by decide) (by decide) (by unfold thL; rw [if_pos (by omega), if_neg (by omega)]) dL_refuses_695 hl.1 (Nat.le_of_ble_eq_true rfl) ⟨(Nat.le_of_ble_eq_true rfl), (Nat.le_of_ble_eq_true rfl)⟩ ⟨(Nat.le_of_ble_eq_true rfl), (Nat.le_of_ble_eq_true rfl)⟩ (fun H locs hP hS => ?_)
    refine zi_bipush hC.1.1 hC.1.2.1 dL_refuses_698 rfl ?_
    refine zi_icmp_ne (tgt := 764) hC.1.1 hC.1.2.1 dL_refuses_700 (by decide) (by decide) (by decide) (fun q => absurd q (by decide)) (fun _ => ?_)
    refine lv_aload_n hC.1.1 hC.1.2.1 dL_refuses_703 rfl (lv_at hl 15 rfl) ?_
    refine lv_iload hC.1.1 hC.1.2.1 dL_refuses_704 (lv_at hl 0 rfl) ?_
    refine zi_const hC.1.1 hC.1.2.1 dL_refuses_706 ?_
    refine zi_const hC.1.1 hC.1.2.1 dL_refuses_707 ?_
    refine zi_const hC.1.1 hC.1.2.1 dL_refuses_708 ?_
    refine zi_const hC.1.1 hC.1.2.1 dL_refuses_709 ?_
    refine lv_iload hC.1.1 hC.1.2.1 dL_refuses_710 (lv_at hl 5 rfl) ?_
    refine zi_const hC.1.1 hC.1.2.1 dL_refuses_712 ?_
    refine zi_const hC.1.1 hC.1.2.1 dL_refuses_713 ?_
    refine hx_plan0_2 hst hC hP hS hG (by decide) (by decide) (by decide) (by decide) (by decide) (by decide) (by decide) (by unfold thL; rw [if_pos (by omega), if_neg (by omega)]) dL_refuses_714 hl.1 (Nat.le_of_ble_eq_true rfl) ⟨(Nat.le_of_ble_eq_true rfl), (Nat.le_of_ble_eq_true rfl)⟩ ⟨(Nat.le_of_ble_eq_true rfl), (Nat.le_of_ble_eq_true rfl)⟩ (fun H locs hP hS => ?_)
    refine zi_bipush hC.1.1 hC.1.2.1 dL_refuses_717 rfl ?_
    refine zi_icmp_ne (tgt := 764) hC.1.1 hC.1.2.1 dL_refuses_719 (by decide) (by decide) (by decide) (fun q => absurd q (by decide)) (fun _ => ?_)
    refine lv_aload_n hC.1.1 hC.1.2.1 dL_refuses_722 rfl (lv_at hl 15 rfl) ?_
    refine lv_iload hC.1.1 hC.1.2.1 dL_refuses_723 (lv_at hl 0 rfl) ?_
    refine zi_const hC.1.1 hC.1.2.1 dL_refuses_725 ?_
    refine zi_const hC.1.1 hC.1.2.1 dL_refuses_726 ?_
    refine zi_const hC.1.1 hC.1.2.1 dL_refuses_727 ?_
    refine zi_const hC.1.1 hC.1.2.1 dL_refuses_728 ?_
    refine zi_const hC.1.1 hC.1.2.1 dL_refuses_729 ?_
    refine lv_iload hC.1.1 hC.1.2.1 dL_refuses_730 (lv_at hl 5 rfl) ?_
    refine zi_const hC.1.1 hC.1.2.1 dL_refuses_732 ?_
    refine hx_plan0_2 hst hC hP hS hG (by decide) (by decide) (by decide) (by decide) (by decide) (by decide) (by decide) (by unfold thL; rw [if_pos (by omega), if_neg (by omega)]) dL_refuses_733 hl.1 (Nat.le_of_ble_eq_true rfl) ⟨(Nat.le_of_ble_eq_true rfl), (Nat.le_of_ble_eq_true rfl)⟩ ⟨(Nat.le_of_ble_eq_true rfl), (Nat.le_of_ble_eq_true rfl)⟩ (fun H locs hP hS => ?_)
    refine zi_bipush hC.1.1 hC.1.2.1 dL_refuses_736 rfl ?_
    refine zi_icmp_ne (tgt := 764) hC.1.1 hC.1.2.1 dL_refuses_738 (by decide) (by decide) (by decide) (fun q => absurd q (by decide)) (fun _ => ?_)
    refine lv_aload_n hC.1.1 hC.1.2.1 dL_refuses_741 rfl (lv_at hl 15 rfl) ?_
    refine lv_iload hC.1.1 hC.1.2.1 dL_refuses_742 (lv_at hl 0 rfl) ?_
    refine zi_const hC.1.1 hC.1.2.1 dL_refuses_744 ?_
    refine zi_const hC.1.1 hC.1.2.1 dL_refuses_745 ?_
    refine zi_const hC.1.1 hC.1.2.1 dL_refuses_746 ?_
    refine zi_const hC.1.1 hC.1.2.1 dL_refuses_747 ?_
    refine zi_const hC.1.1 hC.1.2.1 dL_refuses_748 ?_
    refine zi_const hC.1.1 hC.1.2.1 dL_refuses_749 ?_
    refine lv_iload hC.1.1 hC.1.2.1 dL_refuses_750 (lv_at hl 3 rfl) ?_
    refine hx_plan0_2 hst hC hP hS hG (by decide) (by decide) (by decide) (by decide) (by decide) (by decide) (by decide) (by unfold thL; rw [if_pos (by omega), if_neg (by omega)]) dL_refuses_752 hl.1 (Nat.le_of_ble_eq_true rfl) ⟨(Nat.le_of_ble_eq_true rfl), (Nat.le_of_ble_eq_true rfl)⟩ ⟨(Nat.le_of_ble_eq_true rfl), (Nat.le_of_ble_eq_true rfl)⟩ (fun H locs hP hS => ?_)
    refine zi_bipush hC.1.1 hC.1.2.1 dL_refuses_755 rfl ?_
    refine zi_icmp_ne (tgt := 764) hC.1.1 hC.1.2.1 dL_refuses_757 (by decide) (by decide) (by decide) (fun q => absurd q (by decide)) (fun _ => ?_)
    refine zi_const hC.1.1 hC.1.2.1 dL_refuses_760 ?_
    refine lv_goto (tgt := 765) hC.1.1 hC.1.2.1 dL_refuses_761 (by decide) ?_
    refine lv_istore (lv' := [(13, .int (iz 1)), (15, .int (iz 0)), (14, .int (iz 1)), (12, .int (iz 2147483647)), (11, .int (iz 2147483647)), (10, .int (iz 2147483647)), (9, .int (iz 2147483647)), (8, .int (iz 2147483647)), (7, .int (iz 2147483647)), (6, .int (iz 2)), (5, .int (iz 2147483647)), (4, .int (iz (b2i (fineM σ)))), (3, .int (iz (chS σ 500 16))), (2, .int (iz (ldS σ 0 0 16))), (1, .int (iz ac)), (0, .ref (h 0))]) hC.1.1 hC.1.2.1 dL_refuses_765 hl (by decide) rfl (fun ls hl => ?_)
    refine lv_iinc (v := iz 2) (lv' := [(14, .int (iz 2)), (13, .int (iz 1)), (15, .int (iz 0)), (12, .int (iz 2147483647)), (11, .int (iz 2147483647)), (10, .int (iz 2147483647)), (9, .int (iz 2147483647)), (8, .int (iz 2147483647)), (7, .int (iz 2147483647)), (6, .int (iz 2)), (5, .int (iz 2147483647)), (4, .int (iz (b2i (fineM σ)))), (3, .int (iz (chS σ 500 16))), (2, .int (iz (ldS σ 0 0 16))), (1, .int (iz ac)), (0, .ref (h 0))]) hC.1.1 hC.1.2.1 dL_refuses_767 hl (k := 2) rfl rfl (by decide) rfl (fun ls hl => ?_)
    refine lv_goto (tgt := 595) hC.1.1 hC.1.2.1 dL_refuses_770 (by decide) ?_
    refine lv_iload hC.1.1 hC.1.2.1 dL_refuses_595 (lv_at hl 0 rfl) ?_
    refine zi_const hC.1.1 hC.1.2.1 dL_refuses_597 ?_
    refine zi_icmp_ge (tgt := 773) hC.1.1 hC.1.2.1 dL_refuses_598 (by decide) (by decide) (by decide) (fun _ => ?_) (fun q => absurd q (by decide))
    refine lv_iload hC.1.1 hC.1.2.1 dL_refuses_773 (lv_at hl 1 rfl) ?_
    refine zi_if_eq (tgt := 821) hC.1.1 hC.1.2.1 dL_refuses_775 (by decide) (by decide) (fun q => absurd q (by decide)) (fun _ => ?_)
    refine lv_aload_n hC.1.1 hC.1.2.1 dL_refuses_778 rfl (lv_at hl 15 rfl) ?_
    refine lv_iload hC.1.1 hC.1.2.1 dL_refuses_779 (lv_at hl 9 rfl) ?_
    refine zi_if_ne (tgt := 789) hC.1.1 hC.1.2.1 dL_refuses_781 (by decide) (by decide) (fun _ => ?_) (fun q => absurd q (by decide))
    refine lv_iload hC.1.1 hC.1.2.1 dL_refuses_789 (lv_at hl 9 rfl) ?_
    refine zi_const hC.1.1 hC.1.2.1 dL_refuses_791 ?_
    refine zi_icmp_ne (tgt := 800) hC.1.1 hC.1.2.1 dL_refuses_792 (by decide) (by decide) (by decide) (fun _ => ?_) (fun q => absurd q (by decide))
    refine lv_iload hC.1.1 hC.1.2.1 dL_refuses_800 (lv_at hl 9 rfl) ?_
    refine zi_const hC.1.1 hC.1.2.1 dL_refuses_802 ?_
    refine zi_icmp_ne (tgt := 811) hC.1.1 hC.1.2.1 dL_refuses_803 (by decide) (by decide) (by decide) (fun q => absurd q (by decide)) (fun _ => ?_)
    refine zl_ldc (x := 65535) (n := 65535) hC.1 (UW_mem (by decide +kernel) (by decide +kernel)) rfl dL_refuses_806 ?_
    refine lv_goto (tgt := 812) hC.1.1 hC.1.2.1 dL_refuses_808 (by decide) ?_
    refine zl_i2c (v := 65535) hC.1.1 hC.1.2.1 rfl dL_refuses_812 ?_
    refine hx_type_1 hst hC hP hS hG (by decide) hn (by decide) dL_refuses_813 hl.1 (Nat.le_of_ble_eq_true rfl) ⟨(Nat.le_of_ble_eq_true rfl), (Nat.le_of_ble_eq_true rfl)⟩ ⟨(Nat.le_of_ble_eq_true rfl), (Nat.le_of_ble_eq_true rfl)⟩ (fun H locs hP hS => ?_)
    refine zi_bipush hC.1.1 hC.1.2.1 dL_refuses_816 rfl ?_
    refine zi_icmp_eq (tgt := 823) hC.1.1 hC.1.2.1 dL_refuses_818 (by decide) (by decide) (by decide) (fun _ => ?_) (fun q => absurd q (by decide))
    refine lv_iinc (v := iz 3) (lv' := [(6, .int (iz 3)), (14, .int (iz 2)), (13, .int (iz 1)), (15, .int (iz 0)), (12, .int (iz 2147483647)), (11, .int (iz 2147483647)), (10, .int (iz 2147483647)), (9, .int (iz 2147483647)), (8, .int (iz 2147483647)), (7, .int (iz 2147483647)), (5, .int (iz 2147483647)), (4, .int (iz (b2i (fineM σ)))), (3, .int (iz (chS σ 500 16))), (2, .int (iz (ldS σ 0 0 16))), (1, .int (iz ac)), (0, .ref (h 0))]) hC.1.1 hC.1.2.1 dL_refuses_823 hl (k := 9) rfl rfl (by decide) rfl (fun ls hl => ?_)
    refine lv_goto (tgt := 28) hC.1.1 hC.1.2.1 dL_refuses_826 (by decide) ?_
    exact (rf_3 l hst hC hr hlocks hG hac ha hlen hwt hn hby κ H locs ls hP hS (lv_sub hl [0, 10, 11, 12, 13, 14, 15] rfl)).wide (by decide) (by decide)
  refine W.wide (cells' := 412) (slots' := 6 * 412) ?_ (by decide) (by decide)
  refine zi_if_eq (tgt := 585) hC.1.1 hC.1.2.1 dL_refuses_538 (by decide) hac (fun _ => (j585 H locs hP hS).wide (by decide) (by decide)) (fun hnz => ?_)
  have g01 := GI_01 hG
  refine lv_aload_n hC.1.1 hC.1.2.1 dL_refuses_541 rfl (lv_at hl 13 rfl) ?_
  refine zi_const hC.1.1 hC.1.2.1 dL_refuses_542 ?_
  refine zi_const hC.1.1 hC.1.2.1 dL_refuses_543 ?_
  refine lv_iload hC.1.1 hC.1.2.1 dL_refuses_544 (lv_at hl 4 rfl) ?_
  refine zi_const hC.1.1 hC.1.2.1 dL_refuses_546 ?_
  refine hx_act4_2 hst hC hP hS hG (by decide) (by decide) (by unfold thM; rw [if_pos (by omega), if_neg (by omega)]) dL_refuses_547 hl.1 (Nat.le_of_ble_eq_true rfl) ⟨(Nat.le_of_ble_eq_true rfl), (Nat.le_of_ble_eq_true rfl)⟩ ⟨(Nat.le_of_ble_eq_true rfl), (Nat.le_of_ble_eq_true rfl)⟩ (fun H locs hP hS => ?_)
  refine zi_bipush hC.1.1 hC.1.2.1 dL_refuses_550 rfl ?_
  refine zi_icmp_ne (tgt := 589) hC.1.1 hC.1.2.1 dL_refuses_552 (by decide) (by decide) (by decide) (fun q => absurd q (by decide)) (fun _ => ?_)
  refine lv_aload_n hC.1.1 hC.1.2.1 dL_refuses_555 rfl (lv_at hl 13 rfl) ?_
  refine zi_bipush hC.1.1 hC.1.2.1 dL_refuses_556 rfl ?_
  refine zi_const hC.1.1 hC.1.2.1 dL_refuses_558 ?_
  refine lv_iload hC.1.1 hC.1.2.1 dL_refuses_559 (lv_at hl 4 rfl) ?_
  refine zi_const hC.1.1 hC.1.2.1 dL_refuses_561 ?_
  refine hx_act6_2 hst hC hP hS hG (by decide) (by decide) hlen (by unfold thM; rw [if_pos (by omega), if_neg (by omega)]) dL_refuses_562 hl.1 (Nat.le_of_ble_eq_true rfl) ⟨(Nat.le_of_ble_eq_true rfl), (Nat.le_of_ble_eq_true rfl)⟩ ⟨(Nat.le_of_ble_eq_true rfl), (Nat.le_of_ble_eq_true rfl)⟩ (fun H locs hP hS => ?_)
  refine zi_bipush hC.1.1 hC.1.2.1 dL_refuses_565 rfl ?_
  refine zi_icmp_ne (tgt := 589) hC.1.1 hC.1.2.1 dL_refuses_567 (by decide) (by decide) (by decide) (fun q => absurd q (by decide)) (fun _ => ?_)
  refine lv_aload_n hC.1.1 hC.1.2.1 dL_refuses_570 rfl (lv_at hl 13 rfl) ?_
  refine zi_bipush hC.1.1 hC.1.2.1 dL_refuses_571 rfl ?_
  refine zi_const hC.1.1 hC.1.2.1 dL_refuses_573 ?_
  refine lv_iload hC.1.1 hC.1.2.1 dL_refuses_574 (lv_at hl 5 rfl) ?_
  refine zi_const hC.1.1 hC.1.2.1 dL_refuses_576 ?_
  refine hx_act8_1 hst hC hP hS hG (by decide) (by decide) (by unfold thO; rw [if_neg (by omega)]) dL_refuses_577 hl.1 (Nat.le_of_ble_eq_true rfl) ⟨(Nat.le_of_ble_eq_true rfl), (Nat.le_of_ble_eq_true rfl)⟩ ⟨(Nat.le_of_ble_eq_true rfl), (Nat.le_of_ble_eq_true rfl)⟩ (fun H locs hP hS => ?_)
  refine zi_bipush hC.1.1 hC.1.2.1 dL_refuses_580 rfl ?_
  refine zi_icmp_ne (tgt := 589) hC.1.1 hC.1.2.1 dL_refuses_582 (by decide) (by decide) (by decide) (fun q => absurd q (by decide)) (fun _ => ?_)
  exact (j585 H locs hP hS).wide (by decide) (by decide)
set_option maxRecDepth 100000 in
set_option maxHeartbeats 4000000 in
theorem rf_1 (l : Launch) (hst : l.stackTraces = false) {p : Program} {e : Env} {s : State} {m : MethodId} {args : Array Value} {below : List Frame} {meth : Method} {cd : Code} {A : Nat → Prop} {h : Nat → Nat} {D : va_G} {c : Nat → ClassId} {σ : Nat → Nat → Int} {ω : Nat × (Nat → Int32) × Int32} {ac : Int} (hC : CX p m cd cL_refuses 16 s args h D c A) (hr : meth.sig.returnType = some .boolean) (hlocks : meth.locks = false) (hG : GI σ) (hac : -2147483648 ≤ ac ∧ ac ≤ 2147483647) (ha : ac = σ 0 1) (hlen : ∀ k, k < 16 → σ 14 k ≠ 0 → 1 ≤ σ 9 k) (hwt : ∀ k, k < 16 → σ 15 k = 0) (hn : ω.1 ≤ 6) (hby : ∀ j, j < ω.1 → ∃ x : Int, (97 ≤ x ∧ x ≤ 122) ∧ ω.2.1 j = iz x) : ∀ (κ : Nat → Nat → Int) (H : Heap) (locs : List Loc) (ls : Array Slot), zB 32 h D (gC c h σ κ ω) H → va_S A s.heap H locs → lv_has ls 16 [(6, .int (iz 1)), (5, .int (iz 2147483647)), (4, .int (iz (b2i (fineM σ)))), (3, .int (iz (chS σ 500 16))), (2, .int (iz (ldS σ 0 0 16))), (1, .int (iz ac)), (0, .ref (h 0))] → W p l e { frames := 11, cells := 900, slots := 6 * 900, locals := 240 } s m args below meth cd H locs 183 (6 * 183) (MQ below (va_Qi (fun r (u : Int × S3) => r = iz u.1 ∧ (fun (z : Int) (u : S3) => z = 1 ∧ u.1 = σ ∧ u.2.2 = ω) u.1 u.2) (fun u t => zB 32 h D (gS c h u.2) t.heap) A) args s 900 (6 * 900) A) (F0 m 28 ls []) := by
  intro κ H locs ls hP hS hl
  refine lv_iload hC.1.1 hC.1.2.1 dL_refuses_28 (lv_at hl 0 rfl) ?_
  refine zi_const hC.1.1 hC.1.2.1 dL_refuses_30 ?_
  refine zi_icmp_ge (tgt := 829) hC.1.1 hC.1.2.1 dL_refuses_31 (by decide) (by decide) (by decide) (fun q => absurd q (by decide)) (fun _ => ?_)
  refine lv_iload hC.1.1 hC.1.2.1 dL_refuses_34 (lv_at hl 0 rfl) ?_
  refine zi_if_ne (tgt := 43) hC.1.1 hC.1.2.1 dL_refuses_36 (by decide) (by decide) (fun _ => ?_) (fun q => absurd q (by decide))
  refine lv_iload hC.1.1 hC.1.2.1 dL_refuses_43 (lv_at hl 0 rfl) ?_
  refine zi_const hC.1.1 hC.1.2.1 dL_refuses_45 ?_
  refine zi_icmp_ne (tgt := 54) hC.1.1 hC.1.2.1 dL_refuses_46 (by decide) (by decide) (by decide) (fun _ => ?_) (fun q => absurd q (by decide))
  refine lv_iload hC.1.1 hC.1.2.1 dL_refuses_54 (lv_at hl 1 rfl) ?_
  refine zl_neg (v := (-2147483647)) hC.1.1 hC.1.2.1 (by decide) dL_refuses_56 ?_
  refine zi_const hC.1.1 hC.1.2.1 dL_refuses_57 ?_
  refine zl_sub (v := (-2147483648)) hC.1.1 hC.1.2.1 (by decide) dL_refuses_58 ?_
  refine lv_istore (lv' := [(7, .int (iz (-2147483648))), (6, .int (iz 1)), (5, .int (iz 2147483647)), (4, .int (iz (b2i (fineM σ)))), (3, .int (iz (chS σ 500 16))), (2, .int (iz (ldS σ 0 0 16))), (1, .int (iz ac)), (0, .ref (h 0))]) hC.1.1 hC.1.2.1 dL_refuses_59 hl (by decide) rfl (fun ls hl => ?_)
  refine lv_iload hC.1.1 hC.1.2.1 dL_refuses_61 (lv_at hl 1 rfl) ?_
  refine zi_const hC.1.1 hC.1.2.1 dL_refuses_63 ?_
  refine zi_icmp_ne (tgt := 71) hC.1.1 hC.1.2.1 dL_refuses_64 (by decide) (by decide) (by decide) (fun q => absurd q (by decide)) (fun _ => ?_)
  refine zi_const hC.1.1 hC.1.2.1 dL_refuses_67 ?_
  refine lv_goto (tgt := 73) hC.1.1 hC.1.2.1 dL_refuses_68 (by decide) ?_
  refine lv_istore (lv' := [(8, .int (iz 3)), (7, .int (iz (-2147483648))), (6, .int (iz 1)), (5, .int (iz 2147483647)), (4, .int (iz (b2i (fineM σ)))), (3, .int (iz (chS σ 500 16))), (2, .int (iz (ldS σ 0 0 16))), (1, .int (iz ac)), (0, .ref (h 0))]) hC.1.1 hC.1.2.1 dL_refuses_73 hl (by decide) rfl (fun ls hl => ?_)
  refine lv_iload hC.1.1 hC.1.2.1 dL_refuses_75 (lv_at hl 2 rfl) ?_
  refine zi_const hC.1.1 hC.1.2.1 dL_refuses_77 ?_
  refine zi_icmp_ne (tgt := 87) hC.1.1 hC.1.2.1 dL_refuses_78 (by decide) (by decide) (by decide) (fun q => absurd q (by decide)) (fun _ => ?_)
  refine zi_sipush hC.1.1 hC.1.2.1 dL_refuses_81 rfl ?_
  refine lv_goto (tgt := 89) hC.1.1 hC.1.2.1 dL_refuses_84 (by decide) ?_
  refine lv_istore (lv' := [(9, .int (iz 1000)), (8, .int (iz 3)), (7, .int (iz (-2147483648))), (6, .int (iz 1)), (5, .int (iz 2147483647)), (4, .int (iz (b2i (fineM σ)))), (3, .int (iz (chS σ 500 16))), (2, .int (iz (ldS σ 0 0 16))), (1, .int (iz ac)), (0, .ref (h 0))]) hC.1.1 hC.1.2.1 dL_refuses_89 hl (by decide) rfl (fun ls hl => ?_)
  refine lv_iload hC.1.1 hC.1.2.1 dL_refuses_91 (lv_at hl 3 rfl) ?_
  refine zi_const hC.1.1 hC.1.2.1 dL_refuses_93 ?_
  refine zi_icmp_ne (tgt := 103) hC.1.1 hC.1.2.1 dL_refuses_94 (by decide) (by decide) (by decide) (fun q => absurd q (by decide)) (fun _ => ?_)
  refine zi_sipush hC.1.1 hC.1.2.1 dL_refuses_97 rfl ?_
  refine lv_goto (tgt := 105) hC.1.1 hC.1.2.1 dL_refuses_100 (by decide) ?_
  refine lv_istore (lv' := [(10, .int (iz 201)), (9, .int (iz 1000)), (8, .int (iz 3)), (7, .int (iz (-2147483648))), (6, .int (iz 1)), (5, .int (iz 2147483647)), (4, .int (iz (b2i (fineM σ)))), (3, .int (iz (chS σ 500 16))), (2, .int (iz (ldS σ 0 0 16))), (1, .int (iz ac)), (0, .ref (h 0))]) hC.1.1 hC.1.2.1 dL_refuses_105 hl (by decide) rfl (fun ls hl => ?_)
  refine lv_iload hC.1.1 hC.1.2.1 dL_refuses_107 (lv_at hl 4 rfl) ?_
  refine zi_const hC.1.1 hC.1.2.1 dL_refuses_109 ?_
  refine zi_icmp_ne (tgt := 117) hC.1.1 hC.1.2.1 dL_refuses_110 (by decide) (by decide) (by decide) (fun q => absurd q (by decide)) (fun _ => ?_)
  refine lv_iload_n hC.1.1 hC.1.2.1 dL_refuses_113 rfl (lv_at hl 9 rfl) ?_
  refine lv_goto (tgt := 119) hC.1.1 hC.1.2.1 dL_refuses_114 (by decide) ?_
  refine lv_istore (lv' := [(11, .int (iz ac)), (10, .int (iz 201)), (9, .int (iz 1000)), (8, .int (iz 3)), (7, .int (iz (-2147483648))), (6, .int (iz 1)), (5, .int (iz 2147483647)), (4, .int (iz (b2i (fineM σ)))), (3, .int (iz (chS σ 500 16))), (2, .int (iz (ldS σ 0 0 16))), (1, .int (iz ac)), (0, .ref (h 0))]) hC.1.1 hC.1.2.1 dL_refuses_119 hl (by decide) rfl (fun ls hl => ?_)
  refine lv_iload hC.1.1 hC.1.2.1 dL_refuses_121 (lv_at hl 5 rfl) ?_
  refine zi_if_ne (tgt := 131) hC.1.1 hC.1.2.1 dL_refuses_123 (by decide) (by decide) (fun _ => ?_) (fun q => absurd q (by decide))
  refine lv_iload hC.1.1 hC.1.2.1 dL_refuses_131 (lv_at hl 5 rfl) ?_
  refine zi_const hC.1.1 hC.1.2.1 dL_refuses_133 ?_
  refine zi_icmp_ne (tgt := 142) hC.1.1 hC.1.2.1 dL_refuses_134 (by decide) (by decide) (by decide) (fun q => absurd q (by decide)) (fun _ => ?_)
  refine zi_bipush hC.1.1 hC.1.2.1 dL_refuses_137 rfl ?_
  refine lv_goto (tgt := 144) hC.1.1 hC.1.2.1 dL_refuses_139 (by decide) ?_
  refine lv_istore (lv' := [(12, .int (iz 32)), (11, .int (iz ac)), (10, .int (iz 201)), (9, .int (iz 1000)), (8, .int (iz 3)), (7, .int (iz (-2147483648))), (6, .int (iz 1)), (5, .int (iz 2147483647)), (4, .int (iz (b2i (fineM σ)))), (3, .int (iz (chS σ 500 16))), (2, .int (iz (ldS σ 0 0 16))), (1, .int (iz ac)), (0, .ref (h 0))]) hC.1.1 hC.1.2.1 dL_refuses_144 hl (by decide) rfl (fun ls hl => ?_)
  refine lv_aload_n hC.1.1 hC.1.2.1 dL_refuses_146 rfl (lv_at hl 12 rfl) ?_
  refine zi_const hC.1.1 hC.1.2.1 dL_refuses_147 ?_
  refine lv_iload hC.1.1 hC.1.2.1 dL_refuses_148 (lv_at hl 3 rfl) ?_
  refine zi_const hC.1.1 hC.1.2.1 dL_refuses_150 ?_
  refine zi_const hC.1.1 hC.1.2.1 dL_refuses_151 ?_
  refine hx_act0_1 hst hC hP hS hG (by decide) (by unfold thS; rw [if_neg (by omega)]) dL_refuses_152 hl.1 (Nat.le_of_ble_eq_true rfl) ⟨(Nat.le_of_ble_eq_true rfl), (Nat.le_of_ble_eq_true rfl)⟩ ⟨(Nat.le_of_ble_eq_true rfl), (Nat.le_of_ble_eq_true rfl)⟩ (fun H locs hP hS => ?_)
  refine zi_bipush hC.1.1 hC.1.2.1 dL_refuses_155 rfl ?_
  refine zi_icmp_ne (tgt := 529) hC.1.1 hC.1.2.1 dL_refuses_157 (by decide) (by decide) (by decide) (fun q => absurd q (by decide)) (fun _ => ?_)
  refine lv_aload_n hC.1.1 hC.1.2.1 dL_refuses_160 rfl (lv_at hl 12 rfl) ?_
  refine zi_const hC.1.1 hC.1.2.1 dL_refuses_161 ?_
  refine lv_iload hC.1.1 hC.1.2.1 dL_refuses_162 (lv_at hl 4 rfl) ?_
  refine zi_const hC.1.1 hC.1.2.1 dL_refuses_164 ?_
  refine zi_const hC.1.1 hC.1.2.1 dL_refuses_165 ?_
  refine hx_act1_1 hst hC hP hS hG (by decide) (by decide) (by decide) dL_refuses_166 hl.1 (Nat.le_of_ble_eq_true rfl) ⟨(Nat.le_of_ble_eq_true rfl), (Nat.le_of_ble_eq_true rfl)⟩ ⟨(Nat.le_of_ble_eq_true rfl), (Nat.le_of_ble_eq_true rfl)⟩ (fun H locs hP hS => ?_)
  refine zi_bipush hC.1.1 hC.1.2.1 dL_refuses_169 rfl ?_
  refine zi_icmp_ne (tgt := 529) hC.1.1 hC.1.2.1 dL_refuses_171 (by decide) (by decide) (by decide) (fun q => absurd q (by decide)) (fun _ => ?_)
  refine lv_aload_n hC.1.1 hC.1.2.1 dL_refuses_174 rfl (lv_at hl 12 rfl) ?_
  refine zi_const hC.1.1 hC.1.2.1 dL_refuses_175 ?_
  refine zi_const hC.1.1 hC.1.2.1 dL_refuses_176 ?_
  refine lv_iload hC.1.1 hC.1.2.1 dL_refuses_177 (lv_at hl 6 rfl) ?_
  refine zi_const hC.1.1 hC.1.2.1 dL_refuses_179 ?_
  refine zi_icmp_ne (tgt := 188) hC.1.1 hC.1.2.1 dL_refuses_180 (by decide) (by decide) (by decide) (fun q => absurd q (by decide)) (fun _ => ?_)
  refine zi_bipush hC.1.1 hC.1.2.1 dL_refuses_183 rfl ?_
  refine lv_goto (tgt := 190) hC.1.1 hC.1.2.1 dL_refuses_185 (by decide) ?_
  refine zi_const hC.1.1 hC.1.2.1 dL_refuses_190 ?_
  refine hx_act1_2 hst hC hP hS hG (by decide) (by decide) (by decide) dL_refuses_191 hl.1 (Nat.le_of_ble_eq_true rfl) ⟨(Nat.le_of_ble_eq_true rfl), (Nat.le_of_ble_eq_true rfl)⟩ ⟨(Nat.le_of_ble_eq_true rfl), (Nat.le_of_ble_eq_true rfl)⟩ (fun H locs hP hS => ?_)
  refine zi_bipush hC.1.1 hC.1.2.1 dL_refuses_194 rfl ?_
  refine zi_icmp_ne (tgt := 529) hC.1.1 hC.1.2.1 dL_refuses_196 (by decide) (by decide) (by decide) (fun q => absurd q (by decide)) (fun _ => ?_)
  refine lv_aload_n hC.1.1 hC.1.2.1 dL_refuses_199 rfl (lv_at hl 12 rfl) ?_
  refine zi_const hC.1.1 hC.1.2.1 dL_refuses_200 ?_
  refine lv_iload hC.1.1 hC.1.2.1 dL_refuses_201 (lv_at hl 4 rfl) ?_
  refine zi_const hC.1.1 hC.1.2.1 dL_refuses_203 ?_
  refine zi_const hC.1.1 hC.1.2.1 dL_refuses_204 ?_
  refine hx_act2_1 hst hC hP hS hG (by decide) (by decide) (by decide) dL_refuses_205 hl.1 (Nat.le_of_ble_eq_true rfl) ⟨(Nat.le_of_ble_eq_true rfl), (Nat.le_of_ble_eq_true rfl)⟩ ⟨(Nat.le_of_ble_eq_true rfl), (Nat.le_of_ble_eq_true rfl)⟩ (fun H locs hP hS => ?_)
  refine zi_bipush hC.1.1 hC.1.2.1 dL_refuses_208 rfl ?_
  refine zi_icmp_ne (tgt := 529) hC.1.1 hC.1.2.1 dL_refuses_210 (by decide) (by decide) (by decide) (fun q => absurd q (by decide)) (fun _ => ?_)
  refine lv_aload_n hC.1.1 hC.1.2.1 dL_refuses_213 rfl (lv_at hl 12 rfl) ?_
  refine zi_const hC.1.1 hC.1.2.1 dL_refuses_214 ?_
  refine zi_const hC.1.1 hC.1.2.1 dL_refuses_215 ?_
  refine lv_iload hC.1.1 hC.1.2.1 dL_refuses_216 (lv_at hl 6 rfl) ?_
  refine zi_if_ne (tgt := 226) hC.1.1 hC.1.2.1 dL_refuses_218 (by decide) (by decide) (fun _ => ?_) (fun q => absurd q (by decide))
  refine lv_iload hC.1.1 hC.1.2.1 dL_refuses_226 (lv_at hl 6 rfl) ?_
  refine zi_const hC.1.1 hC.1.2.1 dL_refuses_228 ?_
  refine zi_icmp_ne (tgt := 238) hC.1.1 hC.1.2.1 dL_refuses_229 (by decide) (by decide) (by decide) (fun q => absurd q (by decide)) (fun _ => ?_)
  refine zi_sipush hC.1.1 hC.1.2.1 dL_refuses_232 rfl ?_
  refine lv_goto (tgt := 240) hC.1.1 hC.1.2.1 dL_refuses_235 (by decide) ?_
  refine zi_const hC.1.1 hC.1.2.1 dL_refuses_240 ?_
  refine hx_act2_2 hst hC hP hS hG (by decide) (by decide) (by decide) dL_refuses_241 hl.1 (Nat.le_of_ble_eq_true rfl) ⟨(Nat.le_of_ble_eq_true rfl), (Nat.le_of_ble_eq_true rfl)⟩ ⟨(Nat.le_of_ble_eq_true rfl), (Nat.le_of_ble_eq_true rfl)⟩ (fun H locs hP hS => ?_)
  refine zi_bipush hC.1.1 hC.1.2.1 dL_refuses_244 rfl ?_
  refine zi_icmp_ne (tgt := 529) hC.1.1 hC.1.2.1 dL_refuses_246 (by decide) (by decide) (by decide) (fun q => absurd q (by decide)) (fun _ => ?_)
  refine lv_aload_n hC.1.1 hC.1.2.1 dL_refuses_249 rfl (lv_at hl 12 rfl) ?_
  refine zi_const hC.1.1 hC.1.2.1 dL_refuses_250 ?_
  refine lv_iload hC.1.1 hC.1.2.1 dL_refuses_251 (lv_at hl 6 rfl) ?_
  refine zi_const hC.1.1 hC.1.2.1 dL_refuses_253 ?_
  refine zi_icmp_ne (tgt := 262) hC.1.1 hC.1.2.1 dL_refuses_254 (by decide) (by decide) (by decide) (fun q => absurd q (by decide)) (fun _ => ?_)
  refine zi_bipush hC.1.1 hC.1.2.1 dL_refuses_257 rfl ?_
  refine lv_goto (tgt := 264) hC.1.1 hC.1.2.1 dL_refuses_259 (by decide) ?_
  refine zi_bipush hC.1.1 hC.1.2.1 dL_refuses_264 rfl ?_
  refine zi_const hC.1.1 hC.1.2.1 dL_refuses_266 ?_
  refine hx_act3_1 hst hC hP hS hG (by decide) (by decide) (by decide) dL_refuses_267 hl.1 (Nat.le_of_ble_eq_true rfl) ⟨(Nat.le_of_ble_eq_true rfl), (Nat.le_of_ble_eq_true rfl)⟩ ⟨(Nat.le_of_ble_eq_true rfl), (Nat.le_of_ble_eq_true rfl)⟩ (fun H locs hP hS => ?_)
  refine zi_bipush hC.1.1 hC.1.2.1 dL_refuses_270 rfl ?_
  refine zi_icmp_ne (tgt := 529) hC.1.1 hC.1.2.1 dL_refuses_272 (by decide) (by decide) (by decide) (fun q => absurd q (by decide)) (fun _ => ?_)
  refine lv_aload_n hC.1.1 hC.1.2.1 dL_refuses_275 rfl (lv_at hl 12 rfl) ?_
  refine zi_const hC.1.1 hC.1.2.1 dL_refuses_276 ?_
  refine zi_const hC.1.1 hC.1.2.1 dL_refuses_277 ?_
  refine lv_iload hC.1.1 hC.1.2.1 dL_refuses_278 (lv_at hl 6 rfl) ?_
  refine zi_if_ne (tgt := 288) hC.1.1 hC.1.2.1 dL_refuses_280 (by decide) (by decide) (fun _ => ?_) (fun q => absurd q (by decide))
  refine lv_iload hC.1.1 hC.1.2.1 dL_refuses_288 (lv_at hl 6 rfl) ?_
  refine zi_const hC.1.1 hC.1.2.1 dL_refuses_290 ?_
  refine zi_icmp_ne (tgt := 299) hC.1.1 hC.1.2.1 dL_refuses_291 (by decide) (by decide) (by decide) (fun q => absurd q (by decide)) (fun _ => ?_)
  refine zi_bipush hC.1.1 hC.1.2.1 dL_refuses_294 rfl ?_
  refine lv_goto (tgt := 301) hC.1.1 hC.1.2.1 dL_refuses_296 (by decide) ?_
  refine zi_const hC.1.1 hC.1.2.1 dL_refuses_301 ?_
  refine hx_act3_2 hst hC hP hS hG (by decide) (by decide) (by decide) dL_refuses_302 hl.1 (Nat.le_of_ble_eq_true rfl) ⟨(Nat.le_of_ble_eq_true rfl), (Nat.le_of_ble_eq_true rfl)⟩ ⟨(Nat.le_of_ble_eq_true rfl), (Nat.le_of_ble_eq_true rfl)⟩ (fun H locs hP hS => ?_)
  refine zi_bipush hC.1.1 hC.1.2.1 dL_refuses_305 rfl ?_
  refine zi_icmp_ne (tgt := 529) hC.1.1 hC.1.2.1 dL_refuses_307 (by decide) (by decide) (by decide) (fun q => absurd q (by decide)) (fun _ => ?_)
  refine lv_aload_n hC.1.1 hC.1.2.1 dL_refuses_310 rfl (lv_at hl 12 rfl) ?_
  refine zi_const hC.1.1 hC.1.2.1 dL_refuses_311 ?_
  refine lv_iload hC.1.1 hC.1.2.1 dL_refuses_312 (lv_at hl 1 rfl) ?_
  refine zi_const hC.1.1 hC.1.2.1 dL_refuses_314 ?_
  refine zi_const hC.1.1 hC.1.2.1 dL_refuses_315 ?_
  refine hx_act4_1 hst hC hP hS hG hac (by decide) (by unfold thM; rw [if_neg (by omega)]) dL_refuses_316 hl.1 (Nat.le_of_ble_eq_true rfl) ⟨(Nat.le_of_ble_eq_true rfl), (Nat.le_of_ble_eq_true rfl)⟩ ⟨(Nat.le_of_ble_eq_true rfl), (Nat.le_of_ble_eq_true rfl)⟩ (fun H locs hP hS => ?_)
  refine zi_bipush hC.1.1 hC.1.2.1 dL_refuses_319 rfl ?_
  refine zi_icmp_ne (tgt := 529) hC.1.1 hC.1.2.1 dL_refuses_321 (by decide) (by decide) (by decide) (fun q => absurd q (by decide)) (fun _ => ?_)
  refine lv_aload_n hC.1.1 hC.1.2.1 dL_refuses_324 rfl (lv_at hl 12 rfl) ?_
  refine zi_const hC.1.1 hC.1.2.1 dL_refuses_325 ?_
  refine lv_iload hC.1.1 hC.1.2.1 dL_refuses_326 (lv_at hl 1 rfl) ?_
  refine zi_const hC.1.1 hC.1.2.1 dL_refuses_328 ?_
  refine zi_const hC.1.1 hC.1.2.1 dL_refuses_329 ?_
  refine hx_act5_1 hst hC hP hS hG hac (by unfold th1; rw [if_neg (by omega)]) dL_refuses_330 hl.1 (Nat.le_of_ble_eq_true rfl) ⟨(Nat.le_of_ble_eq_true rfl), (Nat.le_of_ble_eq_true rfl)⟩ ⟨(Nat.le_of_ble_eq_true rfl), (Nat.le_of_ble_eq_true rfl)⟩ (fun H locs hP hS => ?_)
  refine zi_bipush hC.1.1 hC.1.2.1 dL_refuses_333 rfl ?_
  refine zi_icmp_ne (tgt := 529) hC.1.1 hC.1.2.1 dL_refuses_335 (by decide) (by decide) (by decide) (fun q => absurd q (by decide)) (fun _ => ?_)
  refine lv_aload_n hC.1.1 hC.1.2.1 dL_refuses_338 rfl (lv_at hl 12 rfl) ?_
  refine zi_bipush hC.1.1 hC.1.2.1 dL_refuses_339 rfl ?_
  refine lv_iload hC.1.1 hC.1.2.1 dL_refuses_341 (lv_at hl 1 rfl) ?_
  refine zi_const hC.1.1 hC.1.2.1 dL_refuses_343 ?_
  refine zi_const hC.1.1 hC.1.2.1 dL_refuses_344 ?_
  refine hx_act6_1 hst hC hP hS hG hac (by decide) hlen (by unfold thM; rw [if_neg (by omega)]) dL_refuses_345 hl.1 (Nat.le_of_ble_eq_true rfl) ⟨(Nat.le_of_ble_eq_true rfl), (Nat.le_of_ble_eq_true rfl)⟩ ⟨(Nat.le_of_ble_eq_true rfl), (Nat.le_of_ble_eq_true rfl)⟩ (fun H locs hP hS => ?_)
  refine zi_bipush hC.1.1 hC.1.2.1 dL_refuses_348 rfl ?_
  refine zi_icmp_ne (tgt := 529) hC.1.1 hC.1.2.1 dL_refuses_350 (by decide) (by decide) (by decide) (fun q => absurd q (by decide)) (fun _ => ?_)
  refine lv_aload_n hC.1.1 hC.1.2.1 dL_refuses_353 rfl (lv_at hl 12 rfl) ?_
  refine lv_iload hC.1.1 hC.1.2.1 dL_refuses_354 (lv_at hl 1 rfl) ?_
  refine hx_drop_1 hst hC hP hS hG hac (by unfold thD; rw [if_neg (by omega)]) dL_refuses_356 hl.1 (Nat.le_of_ble_eq_true rfl) ⟨(Nat.le_of_ble_eq_true rfl), (Nat.le_of_ble_eq_true rfl)⟩ ⟨(Nat.le_of_ble_eq_true rfl), (Nat.le_of_ble_eq_true rfl)⟩ (fun H locs hP hS => ?_)
  refine zi_bipush hC.1.1 hC.1.2.1 dL_refuses_359 rfl ?_
  refine zi_icmp_ne (tgt := 529) hC.1.1 hC.1.2.1 dL_refuses_361 (by decide) (by decide) (by decide) (fun q => absurd q (by decide)) (fun _ => ?_)
  refine lv_aload_n hC.1.1 hC.1.2.1 dL_refuses_364 rfl (lv_at hl 12 rfl) ?_
  refine zi_bipush hC.1.1 hC.1.2.1 dL_refuses_365 rfl ?_
  refine lv_iload hC.1.1 hC.1.2.1 dL_refuses_367 (lv_at hl 1 rfl) ?_
  refine zi_const hC.1.1 hC.1.2.1 dL_refuses_369 ?_
  refine zi_const hC.1.1 hC.1.2.1 dL_refuses_370 ?_
  refine hx_act7_1 hst hC hP hS hG hac hn hby (by omega) dL_refuses_371 hl.1 (Nat.le_of_ble_eq_true rfl) ⟨(Nat.le_of_ble_eq_true rfl), (Nat.le_of_ble_eq_true rfl)⟩ ⟨(Nat.le_of_ble_eq_true rfl), (Nat.le_of_ble_eq_true rfl)⟩ (fun H locs hP hS => ?_)
  refine zi_bipush hC.1.1 hC.1.2.1 dL_refuses_374 rfl ?_
  refine zi_icmp_ne (tgt := 529) hC.1.1 hC.1.2.1 dL_refuses_376 (by decide) (by decide) (by decide) (fun q => absurd q (by decide)) (fun _ => ?_)
  refine lv_aload_n hC.1.1 hC.1.2.1 dL_refuses_379 rfl (lv_at hl 12 rfl) ?_
  refine zi_bipush hC.1.1 hC.1.2.1 dL_refuses_380 rfl ?_
  refine lv_iload hC.1.1 hC.1.2.1 dL_refuses_382 (lv_at hl 1 rfl) ?_
  refine zi_const hC.1.1 hC.1.2.1 dL_refuses_384 ?_
  refine zi_const hC.1.1 hC.1.2.1 dL_refuses_385 ?_
  refine hx_act8_1 hst hC hP hS hG hac (by decide) (by unfold thO; rw [if_neg (by omega)]) dL_refuses_386 hl.1 (Nat.le_of_ble_eq_true rfl) ⟨(Nat.le_of_ble_eq_true rfl), (Nat.le_of_ble_eq_true rfl)⟩ ⟨(Nat.le_of_ble_eq_true rfl), (Nat.le_of_ble_eq_true rfl)⟩ (fun H locs hP hS => ?_)
  refine zi_bipush hC.1.1 hC.1.2.1 dL_refuses_389 rfl ?_
  refine zi_icmp_ne (tgt := 529) hC.1.1 hC.1.2.1 dL_refuses_391 (by decide) (by decide) (by decide) (fun q => absurd q (by decide)) (fun _ => ?_)
  refine lv_aload_n hC.1.1 hC.1.2.1 dL_refuses_394 rfl (lv_at hl 12 rfl) ?_
  refine zi_bipush hC.1.1 hC.1.2.1 dL_refuses_395 rfl ?_
  refine lv_iload hC.1.1 hC.1.2.1 dL_refuses_397 (lv_at hl 4 rfl) ?_
  refine zi_const hC.1.1 hC.1.2.1 dL_refuses_399 ?_
  refine zi_const hC.1.1 hC.1.2.1 dL_refuses_400 ?_
  refine hx_act9_1 hst hC hP hS hG (by decide) (by decide) (by decide) hlen hwt (by unfold thX; rw [if_neg (by omega)]) dL_refuses_401 hl.1 (Nat.le_of_ble_eq_true rfl) ⟨(Nat.le_of_ble_eq_true rfl), (Nat.le_of_ble_eq_true rfl)⟩ ⟨(Nat.le_of_ble_eq_true rfl), (Nat.le_of_ble_eq_true rfl)⟩ (fun H locs hP hS => ?_)
  refine zi_bipush hC.1.1 hC.1.2.1 dL_refuses_404 rfl ?_
  refine zi_icmp_ne (tgt := 529) hC.1.1 hC.1.2.1 dL_refuses_406 (by decide) (by decide) (by decide) (fun q => absurd q (by decide)) (fun _ => ?_)
  refine lv_aload_n hC.1.1 hC.1.2.1 dL_refuses_409 rfl (lv_at hl 12 rfl) ?_
  refine zi_bipush hC.1.1 hC.1.2.1 dL_refuses_410 rfl ?_
  refine zi_const hC.1.1 hC.1.2.1 dL_refuses_412 ?_
  refine lv_iload hC.1.1 hC.1.2.1 dL_refuses_413 (lv_at hl 3 rfl) ?_
  refine zi_const hC.1.1 hC.1.2.1 dL_refuses_415 ?_
  refine hx_act9_2 hst hC hP hS hG (by decide) (by decide) (by decide) hlen hwt (by unfold thX; rw [if_pos (by omega), if_neg (by omega)]) dL_refuses_416 hl.1 (Nat.le_of_ble_eq_true rfl) ⟨(Nat.le_of_ble_eq_true rfl), (Nat.le_of_ble_eq_true rfl)⟩ ⟨(Nat.le_of_ble_eq_true rfl), (Nat.le_of_ble_eq_true rfl)⟩ (fun H locs hP hS => ?_)
  refine zi_bipush hC.1.1 hC.1.2.1 dL_refuses_419 rfl ?_
  refine zi_icmp_ne (tgt := 529) hC.1.1 hC.1.2.1 dL_refuses_421 (by decide) (by decide) (by decide) (fun q => absurd q (by decide)) (fun _ => ?_)
  refine lv_aload_n hC.1.1 hC.1.2.1 dL_refuses_424 rfl (lv_at hl 12 rfl) ?_
  refine zi_bipush hC.1.1 hC.1.2.1 dL_refuses_425 rfl ?_
  refine zi_const hC.1.1 hC.1.2.1 dL_refuses_427 ?_
  refine zi_const hC.1.1 hC.1.2.1 dL_refuses_428 ?_
  refine lv_iload hC.1.1 hC.1.2.1 dL_refuses_429 (lv_at hl 6 rfl) ?_
  refine zi_if_ne (tgt := 438) hC.1.1 hC.1.2.1 dL_refuses_431 (by decide) (by decide) (fun _ => ?_) (fun q => absurd q (by decide))
  refine lv_iload hC.1.1 hC.1.2.1 dL_refuses_438 (lv_at hl 2 rfl) ?_
  refine hx_act9_2 hst hC hP hS hG (by decide) (by decide) (by decide) hlen hwt (by unfold thX; rw [if_pos (by omega), if_neg (by omega)]) dL_refuses_440 hl.1 (Nat.le_of_ble_eq_true rfl) ⟨(Nat.le_of_ble_eq_true rfl), (Nat.le_of_ble_eq_true rfl)⟩ ⟨(Nat.le_of_ble_eq_true rfl), (Nat.le_of_ble_eq_true rfl)⟩ (fun H locs hP hS => ?_)
  refine zi_bipush hC.1.1 hC.1.2.1 dL_refuses_443 rfl ?_
  refine zi_icmp_ne (tgt := 529) hC.1.1 hC.1.2.1 dL_refuses_445 (by decide) (by decide) (by decide) (fun q => absurd q (by decide)) (fun _ => ?_)
  refine lv_aload_n hC.1.1 hC.1.2.1 dL_refuses_448 rfl (lv_at hl 12 rfl) ?_
  refine zi_bipush hC.1.1 hC.1.2.1 dL_refuses_449 rfl ?_
  refine lv_iload hC.1.1 hC.1.2.1 dL_refuses_451 (lv_at hl 3 rfl) ?_
  refine lv_iload hC.1.1 hC.1.2.1 dL_refuses_453 (lv_at hl 4 rfl) ?_
  refine zi_const hC.1.1 hC.1.2.1 dL_refuses_455 ?_
  refine hx_act10_1 hst hC hP hS hG (by decide) (by decide) (by decide) dL_refuses_456 hl.1 (Nat.le_of_ble_eq_true rfl) ⟨(Nat.le_of_ble_eq_true rfl), (Nat.le_of_ble_eq_true rfl)⟩ ⟨(Nat.le_of_ble_eq_true rfl), (Nat.le_of_ble_eq_true rfl)⟩ (fun H locs hP hS => ?_)
  refine zi_bipush hC.1.1 hC.1.2.1 dL_refuses_459 rfl ?_
  refine zi_icmp_ne (tgt := 529) hC.1.1 hC.1.2.1 dL_refuses_461 (by decide) (by decide) (by decide) (fun q => absurd q (by decide)) (fun _ => ?_)
  refine lv_aload_n hC.1.1 hC.1.2.1 dL_refuses_464 rfl (lv_at hl 12 rfl) ?_
  refine zi_bipush hC.1.1 hC.1.2.1 dL_refuses_465 rfl ?_
  refine lv_iload hC.1.1 hC.1.2.1 dL_refuses_467 (lv_at hl 3 rfl) ?_
  refine zi_const hC.1.1 hC.1.2.1 dL_refuses_469 ?_
  refine zi_const hC.1.1 hC.1.2.1 dL_refuses_470 ?_
  refine hx_act10_2 hst hC hP hS hG (by decide) (by decide) (by decide) dL_refuses_471 hl.1 (Nat.le_of_ble_eq_true rfl) ⟨(Nat.le_of_ble_eq_true rfl), (Nat.le_of_ble_eq_true rfl)⟩ ⟨(Nat.le_of_ble_eq_true rfl), (Nat.le_of_ble_eq_true rfl)⟩ (fun H locs hP hS => ?_)
  refine zi_bipush hC.1.1 hC.1.2.1 dL_refuses_474 rfl ?_
  refine zi_icmp_ne (tgt := 529) hC.1.1 hC.1.2.1 dL_refuses_476 (by decide) (by decide) (by decide) (fun q => absurd q (by decide)) (fun _ => ?_)
  refine lv_aload_n hC.1.1 hC.1.2.1 dL_refuses_479 rfl (lv_at hl 12 rfl) ?_
  refine zi_bipush hC.1.1 hC.1.2.1 dL_refuses_480 rfl ?_
  refine lv_iload hC.1.1 hC.1.2.1 dL_refuses_482 (lv_at hl 3 rfl) ?_
  refine lv_iload hC.1.1 hC.1.2.1 dL_refuses_484 (lv_at hl 4 rfl) ?_
  refine zi_const hC.1.1 hC.1.2.1 dL_refuses_486 ?_
  refine hx_act11_1 hst hC hP hS hG (by decide) (by decide) (by decide) dL_refuses_487 hl.1 (Nat.le_of_ble_eq_true rfl) ⟨(Nat.le_of_ble_eq_true rfl), (Nat.le_of_ble_eq_true rfl)⟩ ⟨(Nat.le_of_ble_eq_true rfl), (Nat.le_of_ble_eq_true rfl)⟩ (fun H locs hP hS => ?_)
  refine zi_bipush hC.1.1 hC.1.2.1 dL_refuses_490 rfl ?_
  refine zi_icmp_ne (tgt := 529) hC.1.1 hC.1.2.1 dL_refuses_492 (by decide) (by decide) (by decide) (fun q => absurd q (by decide)) (fun _ => ?_)
  refine lv_aload_n hC.1.1 hC.1.2.1 dL_refuses_495 rfl (lv_at hl 12 rfl) ?_
  refine zi_bipush hC.1.1 hC.1.2.1 dL_refuses_496 rfl ?_
  refine lv_iload hC.1.1 hC.1.2.1 dL_refuses_498 (lv_at hl 3 rfl) ?_
  refine zi_const hC.1.1 hC.1.2.1 dL_refuses_500 ?_
  refine zi_const hC.1.1 hC.1.2.1 dL_refuses_501 ?_
  refine hx_act11_2 hst hC hP hS hG (by decide) (by decide) (by decide) dL_refuses_502 hl.1 (Nat.le_of_ble_eq_true rfl) ⟨(Nat.le_of_ble_eq_true rfl), (Nat.le_of_ble_eq_true rfl)⟩ ⟨(Nat.le_of_ble_eq_true rfl), (Nat.le_of_ble_eq_true rfl)⟩ (fun H locs hP hS => ?_)
  refine zi_bipush hC.1.1 hC.1.2.1 dL_refuses_505 rfl ?_
  refine zi_icmp_ne (tgt := 529) hC.1.1 hC.1.2.1 dL_refuses_507 (by decide) (by decide) (by decide) (fun q => absurd q (by decide)) (fun _ => ?_)
  refine lv_aload_n hC.1.1 hC.1.2.1 dL_refuses_510 rfl (lv_at hl 12 rfl) ?_
  refine zi_bipush hC.1.1 hC.1.2.1 dL_refuses_511 rfl ?_
  refine lv_iload hC.1.1 hC.1.2.1 dL_refuses_513 (lv_at hl 3 rfl) ?_
  refine zi_const hC.1.1 hC.1.2.1 dL_refuses_515 ?_
  refine zi_const hC.1.1 hC.1.2.1 dL_refuses_516 ?_
  refine hx_act12_1 hst hC hP hS hG (by decide) (by decide) dL_refuses_517 hl.1 (Nat.le_of_ble_eq_true rfl) ⟨(Nat.le_of_ble_eq_true rfl), (Nat.le_of_ble_eq_true rfl)⟩ ⟨(Nat.le_of_ble_eq_true rfl), (Nat.le_of_ble_eq_true rfl)⟩ (fun H locs hP hS => ?_)
  refine zi_bipush hC.1.1 hC.1.2.1 dL_refuses_520 rfl ?_
  refine zi_icmp_ne (tgt := 529) hC.1.1 hC.1.2.1 dL_refuses_522 (by decide) (by decide) (by decide) (fun q => absurd q (by decide)) (fun _ => ?_)
  refine zi_const hC.1.1 hC.1.2.1 dL_refuses_525 ?_
  refine lv_goto (tgt := 530) hC.1.1 hC.1.2.1 dL_refuses_526 (by decide) ?_
  refine lv_istore (lv' := [(13, .int (iz 1)), (12, .int (iz 32)), (11, .int (iz ac)), (10, .int (iz 201)), (9, .int (iz 1000)), (8, .int (iz 3)), (7, .int (iz (-2147483648))), (6, .int (iz 1)), (5, .int (iz 2147483647)), (4, .int (iz (b2i (fineM σ)))), (3, .int (iz (chS σ 500 16))), (2, .int (iz (ldS σ 0 0 16))), (1, .int (iz ac)), (0, .ref (h 0))]) hC.1.1 hC.1.2.1 dL_refuses_530 hl (by decide) rfl (fun ls hl => ?_)
  refine lv_iload hC.1.1 hC.1.2.1 dL_refuses_532 (lv_at hl 0 rfl) ?_
  refine zi_if_eq (tgt := 589) hC.1.1 hC.1.2.1 dL_refuses_534 (by decide) (by decide) (fun q => absurd q (by decide)) (fun _ => ?_)
  refine lv_iload_n hC.1.1 hC.1.2.1 dL_refuses_537 rfl (lv_at hl 12 rfl) ?_
  have j585 : ∀ (H : Heap) (locs : List Loc), zB 32 h D (gC c h σ κ ω) H → va_S A s.heap H locs → W p l e { frames := 11, cells := 900, slots := 6 * 900, locals := 240 } s m args below meth cd H locs 240 (6 * 240) (MQ below (va_Qi (fun r (u : Int × S3) => r = iz u.1 ∧ (fun (z : Int) (u : S3) => z = 1 ∧ u.1 = σ ∧ u.2.2 = ω) u.1 u.2) (fun u t => zB 32 h D (gS c h u.2) t.heap) A) args s 900 (6 * 900) A) (F0 m 585 ls []) := fun H locs hP hS => by
    refine zi_const hC.1.1 hC.1.2.1 dL_refuses_585 ?_
    refine lv_goto (tgt := 590) hC.1.1 hC.1.2.1 dL_refuses_586 (by decide) ?_
    refine lv_istore (lv' := [(13, .int (iz 1)), (12, .int (iz 32)), (11, .int (iz ac)), (10, .int (iz 201)), (9, .int (iz 1000)), (8, .int (iz 3)), (7, .int (iz (-2147483648))), (6, .int (iz 1)), (5, .int (iz 2147483647)), (4, .int (iz (b2i (fineM σ)))), (3, .int (iz (chS σ 500 16))), (2, .int (iz (ldS σ 0 0 16))), (1, .int (iz ac)), (0, .ref (h 0))]) hC.1.1 hC.1.2.1 dL_refuses_590 hl (by decide) rfl (fun ls hl => ?_)
    refine zi_const hC.1.1 hC.1.2.1 dL_refuses_592 ?_
    refine lv_istore (lv' := [(14, .int (iz 0)), (13, .int (iz 1)), (12, .int (iz 32)), (11, .int (iz ac)), (10, .int (iz 201)), (9, .int (iz 1000)), (8, .int (iz 3)), (7, .int (iz (-2147483648))), (6, .int (iz 1)), (5, .int (iz 2147483647)), (4, .int (iz (b2i (fineM σ)))), (3, .int (iz (chS σ 500 16))), (2, .int (iz (ldS σ 0 0 16))), (1, .int (iz ac)), (0, .ref (h 0))]) hC.1.1 hC.1.2.1 dL_refuses_593 hl (by decide) rfl (fun ls hl => ?_)
    refine lv_iload hC.1.1 hC.1.2.1 dL_refuses_595 (lv_at hl 0 rfl) ?_
    refine zi_const hC.1.1 hC.1.2.1 dL_refuses_597 ?_
    refine zi_icmp_ge (tgt := 773) hC.1.1 hC.1.2.1 dL_refuses_598 (by decide) (by decide) (by decide) (fun q => absurd q (by decide)) (fun _ => ?_)
    refine lv_iload hC.1.1 hC.1.2.1 dL_refuses_601 (lv_at hl 0 rfl) ?_
    refine zi_if_ne (tgt := 610) hC.1.1 hC.1.2.1 dL_refuses_603 (by decide) (by decide) (fun q => absurd q (by decide)) (fun _ => ?_)
    refine zi_const hC.1.1 hC.1.2.1 dL_refuses_606 ?_
    refine lv_goto (tgt := 611) hC.1.1 hC.1.2.1 dL_refuses_607 (by decide) ?_
    refine lv_istore (lv' := [(15, .int (iz 1)), (14, .int (iz 0)), (13, .int (iz 1)), (12, .int (iz 32)), (11, .int (iz ac)), (10, .int (iz 201)), (9, .int (iz 1000)), (8, .int (iz 3)), (7, .int (iz (-2147483648))), (6, .int (iz 1)), (5, .int (iz 2147483647)), (4, .int (iz (b2i (fineM σ)))), (3, .int (iz (chS σ 500 16))), (2, .int (iz (ldS σ 0 0 16))), (1, .int (iz ac)), (0, .ref (h 0))]) hC.1.1 hC.1.2.1 dL_refuses_611 hl (by decide) rfl (fun ls hl => ?_)
    refine lv_iload hC.1.1 hC.1.2.1 dL_refuses_613 (lv_at hl 2 rfl) ?_
    refine zi_if_eq (tgt := 764) hC.1.1 hC.1.2.1 dL_refuses_615 (by decide) (by decide) (fun q => absurd q (by decide)) (fun _ => ?_)
    refine lv_aload_n hC.1.1 hC.1.2.1 dL_refuses_618 rfl (lv_at hl 15 rfl) ?_
    refine lv_iload hC.1.1 hC.1.2.1 dL_refuses_619 (lv_at hl 0 rfl) ?_
    refine lv_iload hC.1.1 hC.1.2.1 dL_refuses_621 (lv_at hl 7 rfl) ?_
    refine zi_const hC.1.1 hC.1.2.1 dL_refuses_623 ?_
    refine zi_const hC.1.1 hC.1.2.1 dL_refuses_624 ?_
    refine zi_const hC.1.1 hC.1.2.1 dL_refuses_625 ?_
    refine zi_const hC.1.1 hC.1.2.1 dL_refuses_626 ?_
    refine zi_const hC.1.1 hC.1.2.1 dL_refuses_627 ?_
    refine zi_const hC.1.1 hC.1.2.1 dL_refuses_628 ?_
    refine hx_plan1_1 hst hC hP hS hG (by decide) (by decide) (by decide) (by decide) (by decide) (by decide) (by decide) (by unfold thL; rw [if_neg (by omega)]) dL_refuses_629 hl.1 (Nat.le_of_ble_eq_true rfl) ⟨(Nat.le_of_ble_eq_true rfl), (Nat.le_of_ble_eq_true rfl)⟩ ⟨(Nat.le_of_ble_eq_true rfl), (Nat.le_of_ble_eq_true rfl)⟩ (fun H locs hP hS => ?_)
    refine zi_bipush hC.1.1 hC.1.2.1 dL_refuses_632 rfl ?_
    refine zi_icmp_ne (tgt := 764) hC.1.1 hC.1.2.1 dL_refuses_634 (by decide) (by decide) (by decide) (fun q => absurd q (by decide)) (fun _ => ?_)
    refine lv_aload_n hC.1.1 hC.1.2.1 dL_refuses_637 rfl (lv_at hl 15 rfl) ?_
    refine lv_iload hC.1.1 hC.1.2.1 dL_refuses_638 (lv_at hl 0 rfl) ?_
    refine zi_const hC.1.1 hC.1.2.1 dL_refuses_640 ?_
    refine zi_const hC.1.1 hC.1.2.1 dL_refuses_641 ?_
    refine zi_const hC.1.1 hC.1.2.1 dL_refuses_642 ?_
    refine lv_iload hC.1.1 hC.1.2.1 dL_refuses_643 (lv_at hl 7 rfl) ?_
    refine zi_const hC.1.1 hC.1.2.1 dL_refuses_645 ?_
    refine zi_const hC.1.1 hC.1.2.1 dL_refuses_646 ?_
    refine zi_const hC.1.1 hC.1.2.1 dL_refuses_647 ?_
    refine hx_plan1_1 hst hC hP hS hG (by decide) (by decide) (by decide) (by decide) (by decide) (by decide) (by decide) (by unfold thL; rw [if_neg (by omega)]) dL_refuses_648 hl.1 (Nat.le_of_ble_eq_true rfl) ⟨(Nat.le_of_ble_eq_true rfl), (Nat.le_of_ble_eq_true rfl)⟩ ⟨(Nat.le_of_ble_eq_true rfl), (Nat.le_of_ble_eq_true rfl)⟩ (fun H locs hP hS => ?_)
    refine zi_bipush hC.1.1 hC.1.2.1 dL_refuses_651 rfl ?_
    refine zi_icmp_ne (tgt := 764) hC.1.1 hC.1.2.1 dL_refuses_653 (by decide) (by decide) (by decide) (fun q => absurd q (by decide)) (fun _ => ?_)
    refine lv_aload_n hC.1.1 hC.1.2.1 dL_refuses_656 rfl (lv_at hl 15 rfl) ?_
    refine lv_iload hC.1.1 hC.1.2.1 dL_refuses_657 (lv_at hl 0 rfl) ?_
    refine zi_const hC.1.1 hC.1.2.1 dL_refuses_659 ?_
    refine lv_iload hC.1.1 hC.1.2.1 dL_refuses_660 (lv_at hl 6 rfl) ?_
    refine zi_const hC.1.1 hC.1.2.1 dL_refuses_662 ?_
    refine zi_const hC.1.1 hC.1.2.1 dL_refuses_663 ?_
    refine zi_const hC.1.1 hC.1.2.1 dL_refuses_664 ?_
    refine zi_const hC.1.1 hC.1.2.1 dL_refuses_665 ?_
    refine zi_const hC.1.1 hC.1.2.1 dL_refuses_666 ?_
    refine hx_plan1_2 hst hC hP hS hG (by decide) (by decide) (by decide) (by decide) (by decide) (by decide) (by decide) (by unfold thL; rw [if_pos (by omega), if_neg (by omega)]) dL_refuses_667 hl.1 (Nat.le_of_ble_eq_true rfl) ⟨(Nat.le_of_ble_eq_true rfl), (Nat.le_of_ble_eq_true rfl)⟩ ⟨(Nat.le_of_ble_eq_true rfl), (Nat.le_of_ble_eq_true rfl)⟩ (fun H locs hP hS => ?_)
    refine zi_bipush hC.1.1 hC.1.2.1 dL_refuses_670 rfl ?_
    refine zi_icmp_ne (tgt := 764) hC.1.1 hC.1.2.1 dL_refuses_672 (by decide) (by decide) (by decide) (fun q => absurd q (by decide)) (fun _ => ?_)
    refine lv_aload_n hC.1.1 hC.1.2.1 dL_refuses_675 rfl (lv_at hl 15 rfl) ?_
    refine lv_iload hC.1.1 hC.1.2.1 dL_refuses_676 (lv_at hl 0 rfl) ?_
    refine zi_const hC.1.1 hC.1.2.1 dL_refuses_678 ?_
    refine zi_const hC.1.1 hC.1.2.1 dL_refuses_679 ?_
    refine lv_iload hC.1.1 hC.1.2.1 dL_refuses_680 (lv_at hl 9 rfl) ?_
    refine zi_if_ne (tgt := 689) hC.1.1 hC.1.2.1 dL_refuses_682 (by decide) (by decide) (fun _ => ?_) (fun q => absurd q (by decide))
    refine lv_iload hC.1.1 hC.1.2.1 dL_refuses_689 (lv_at hl 5 rfl) ?_
    refine zi_const hC.1.1 hC.1.2.1 dL_refuses_691 ?_
    refine zi_const hC.1.1 hC.1.2.1 dL_refuses_692 ?_
    refine zi_const hC.1.1 hC.1.2.1 dL_refuses_693 ?_
    refine zi_const hC.1.1 hC.1.2.1 dL_refuses_694 ?_
    refine hx_plan1_2 hst hC hP hS hG (by decide) (by decide) (by decide) (by decide) (by decide) (by decide) (by decide) (by unfold thL; rw [if_pos (by omega), if_neg (by omega)]) dL_refuses_695 hl.1 (Nat.le_of_ble_eq_true rfl) ⟨(Nat.le_of_ble_eq_true rfl), (Nat.le_of_ble_eq_true rfl)⟩ ⟨(Nat.le_of_ble_eq_true rfl), (Nat.le_of_ble_eq_true rfl)⟩ (fun H locs hP hS => ?_)
    refine zi_bipush hC.1.1 hC.1.2.1 dL_refuses_698 rfl ?_
    refine zi_icmp_ne (tgt := 764) hC.1.1 hC.1.2.1 dL_refuses_700 (by decide) (by decide) (by decide) (fun q => absurd q (by decide)) (fun _ => ?_)
    refine lv_aload_n hC.1.1 hC.1.2.1 dL_refuses_703 rfl (lv_at hl 15 rfl) ?_
    refine lv_iload hC.1.1 hC.1.2.1 dL_refuses_704 (lv_at hl 0 rfl) ?_
    refine zi_const hC.1.1 hC.1.2.1 dL_refuses_706 ?_
    refine zi_const hC.1.1 hC.1.2.1 dL_refuses_707 ?_
    refine zi_const hC.1.1 hC.1.2.1 dL_refuses_708 ?_
    refine zi_const hC.1.1 hC.1.2.1 dL_refuses_709 ?_
    refine lv_iload hC.1.1 hC.1.2.1 dL_refuses_710 (lv_at hl 5 rfl) ?_
    refine zi_const hC.1.1 hC.1.2.1 dL_refuses_712 ?_
    refine zi_const hC.1.1 hC.1.2.1 dL_refuses_713 ?_
    refine hx_plan1_2 hst hC hP hS hG (by decide) (by decide) (by decide) (by decide) (by decide) (by decide) (by decide) (by unfold thL; rw [if_pos (by omega), if_neg (by omega)]) dL_refuses_714 hl.1 (Nat.le_of_ble_eq_true rfl) ⟨(Nat.le_of_ble_eq_true rfl), (Nat.le_of_ble_eq_true rfl)⟩ ⟨(Nat.le_of_ble_eq_true rfl), (Nat.le_of_ble_eq_true rfl)⟩ (fun H locs hP hS => ?_)
    refine zi_bipush hC.1.1 hC.1.2.1 dL_refuses_717 rfl ?_
    refine zi_icmp_ne (tgt := 764) hC.1.1 hC.1.2.1 dL_refuses_719 (by decide) (by decide) (by decide) (fun q => absurd q (by decide)) (fun _ => ?_)
    refine lv_aload_n hC.1.1 hC.1.2.1 dL_refuses_722 rfl (lv_at hl 15 rfl) ?_
    refine lv_iload hC.1.1 hC.1.2.1 dL_refuses_723 (lv_at hl 0 rfl) ?_
    refine zi_const hC.1.1 hC.1.2.1 dL_refuses_725 ?_
    refine zi_const hC.1.1 hC.1.2.1 dL_refuses_726 ?_
    refine zi_const hC.1.1 hC.1.2.1 dL_refuses_727 ?_
    refine zi_const hC.1.1 hC.1.2.1 dL_refuses_728 ?_
    refine zi_const hC.1.1 hC.1.2.1 dL_refuses_729 ?_
    refine lv_iload hC.1.1 hC.1.2.1 dL_refuses_730 (lv_at hl 5 rfl) ?_
    refine zi_const hC.1.1 hC.1.2.1 dL_refuses_732 ?_
    refine hx_plan1_2 hst hC hP hS hG (by decide) (by decide) (by decide) (by decide) (by decide) (by decide) (by decide) (by unfold thL; rw [if_pos (by omega), if_neg (by omega)]) dL_refuses_733 hl.1 (Nat.le_of_ble_eq_true rfl) ⟨(Nat.le_of_ble_eq_true rfl), (Nat.le_of_ble_eq_true rfl)⟩ ⟨(Nat.le_of_ble_eq_true rfl), (Nat.le_of_ble_eq_true rfl)⟩ (fun H locs hP hS => ?_)
    refine zi_bipush hC.1.1 hC.1.2.1 dL_refuses_736 rfl ?_
    refine zi_icmp_ne (tgt := 764) hC.1.1 hC.1.2.1 dL_refuses_738 (by decide) (by decide) (by decide) (fun q => absurd q (by decide)) (fun _ => ?_)
    refine lv_aload_n hC.1.1 hC.1.2.1 dL_refuses_741 rfl (lv_at hl 15 rfl) ?_
    refine lv_iload hC.1.1 hC.1.2.1 dL_refuses_742 (lv_at hl 0 rfl) ?_
    refine zi_const hC.1.1 hC.1.2.1 dL_refuses_744 ?_
    refine zi_const hC.1.1 hC.1.2.1 dL_refuses_745 ?_
    refine zi_const hC.1.1 hC.1.2.1 dL_refuses_746 ?_
    refine zi_const hC.1.1 hC.1.2.1 dL_refuses_747 ?_
    refine zi_const hC.1.1 hC.1.2.1 dL_refuses_748 ?_
    refine zi_const hC.1.1 hC.1.2.1 dL_refuses_749 ?_
    refine lv_iload hC.1.1 hC.1.2.1 dL_refuses_750 (lv_at hl 3 rfl) ?_
    refine hx_plan1_2 hst hC hP hS hG (by decide) (by decide) (by decide) (by decide) (by decide) (by decide) (by decide) (by unfold thL; rw [if_pos (by omega), if_neg (by omega)]) dL_refuses_752 hl.1 (Nat.le_of_ble_eq_true rfl) ⟨(Nat.le_of_ble_eq_true rfl), (Nat.le_of_ble_eq_true rfl)⟩ ⟨(Nat.le_of_ble_eq_true rfl), (Nat.le_of_ble_eq_true rfl)⟩ (fun H locs hP hS => ?_)
    refine zi_bipush hC.1.1 hC.1.2.1 dL_refuses_755 rfl ?_
    refine zi_icmp_ne (tgt := 764) hC.1.1 hC.1.2.1 dL_refuses_757 (by decide) (by decide) (by decide) (fun q => absurd q (by decide)) (fun _ => ?_)
    refine zi_const hC.1.1 hC.1.2.1 dL_refuses_760 ?_
    refine lv_goto (tgt := 765) hC.1.1 hC.1.2.1 dL_refuses_761 (by decide) ?_
    refine lv_istore (lv' := [(13, .int (iz 1)), (15, .int (iz 1)), (14, .int (iz 0)), (12, .int (iz 32)), (11, .int (iz ac)), (10, .int (iz 201)), (9, .int (iz 1000)), (8, .int (iz 3)), (7, .int (iz (-2147483648))), (6, .int (iz 1)), (5, .int (iz 2147483647)), (4, .int (iz (b2i (fineM σ)))), (3, .int (iz (chS σ 500 16))), (2, .int (iz (ldS σ 0 0 16))), (1, .int (iz ac)), (0, .ref (h 0))]) hC.1.1 hC.1.2.1 dL_refuses_765 hl (by decide) rfl (fun ls hl => ?_)
    refine lv_iinc (v := iz 1) (lv' := [(14, .int (iz 1)), (13, .int (iz 1)), (15, .int (iz 1)), (12, .int (iz 32)), (11, .int (iz ac)), (10, .int (iz 201)), (9, .int (iz 1000)), (8, .int (iz 3)), (7, .int (iz (-2147483648))), (6, .int (iz 1)), (5, .int (iz 2147483647)), (4, .int (iz (b2i (fineM σ)))), (3, .int (iz (chS σ 500 16))), (2, .int (iz (ldS σ 0 0 16))), (1, .int (iz ac)), (0, .ref (h 0))]) hC.1.1 hC.1.2.1 dL_refuses_767 hl (k := 2) rfl rfl (by decide) rfl (fun ls hl => ?_)
    refine lv_goto (tgt := 595) hC.1.1 hC.1.2.1 dL_refuses_770 (by decide) ?_
    refine lv_iload hC.1.1 hC.1.2.1 dL_refuses_595 (lv_at hl 0 rfl) ?_
    refine zi_const hC.1.1 hC.1.2.1 dL_refuses_597 ?_
    refine zi_icmp_ge (tgt := 773) hC.1.1 hC.1.2.1 dL_refuses_598 (by decide) (by decide) (by decide) (fun q => absurd q (by decide)) (fun _ => ?_)
    refine lv_iload hC.1.1 hC.1.2.1 dL_refuses_601 (lv_at hl 0 rfl) ?_
    refine zi_if_ne (tgt := 610) hC.1.1 hC.1.2.1 dL_refuses_603 (by decide) (by decide) (fun _ => ?_) (fun q => absurd q (by decide))
    refine zi_const hC.1.1 hC.1.2.1 dL_refuses_610 ?_
    refine lv_istore (lv' := [(15, .int (iz 0)), (14, .int (iz 1)), (13, .int (iz 1)), (12, .int (iz 32)), (11, .int (iz ac)), (10, .int (iz 201)), (9, .int (iz 1000)), (8, .int (iz 3)), (7, .int (iz (-2147483648))), (6, .int (iz 1)), (5, .int (iz 2147483647)), (4, .int (iz (b2i (fineM σ)))), (3, .int (iz (chS σ 500 16))), (2, .int (iz (ldS σ 0 0 16))), (1, .int (iz ac)), (0, .ref (h 0))]) hC.1.1 hC.1.2.1 dL_refuses_611 hl (by decide) rfl (fun ls hl => ?_)
    refine lv_iload hC.1.1 hC.1.2.1 dL_refuses_613 (lv_at hl 2 rfl) ?_
    refine zi_if_eq (tgt := 764) hC.1.1 hC.1.2.1 dL_refuses_615 (by decide) (by decide) (fun q => absurd q (by decide)) (fun _ => ?_)
    refine lv_aload_n hC.1.1 hC.1.2.1 dL_refuses_618 rfl (lv_at hl 15 rfl) ?_
    refine lv_iload hC.1.1 hC.1.2.1 dL_refuses_619 (lv_at hl 0 rfl) ?_
    refine lv_iload hC.1.1 hC.1.2.1 dL_refuses_621 (lv_at hl 7 rfl) ?_
    refine zi_const hC.1.1 hC.1.2.1 dL_refuses_623 ?_
    refine zi_const hC.1.1 hC.1.2.1 dL_refuses_624 ?_
    refine zi_const hC.1.1 hC.1.2.1 dL_refuses_625 ?_
    refine zi_const hC.1.1 hC.1.2.1 dL_refuses_626 ?_
    refine zi_const hC.1.1 hC.1.2.1 dL_refuses_627 ?_
    refine zi_const hC.1.1 hC.1.2.1 dL_refuses_628 ?_
    refine hx_plan0_1 hst hC hP hS hG (by decide) (by decide) (by decide) (by decide) (by decide) (by decide) (by decide) (by unfold thL; rw [if_neg (by omega)]) dL_refuses_629 hl.1 (Nat.le_of_ble_eq_true rfl) ⟨(Nat.le_of_ble_eq_true rfl), (Nat.le_of_ble_eq_true rfl)⟩ ⟨(Nat.le_of_ble_eq_true rfl), (Nat.le_of_ble_eq_true rfl)⟩ (fun H locs hP hS => ?_)
    refine zi_bipush hC.1.1 hC.1.2.1 dL_refuses_632 rfl ?_
    refine zi_icmp_ne (tgt := 764) hC.1.1 hC.1.2.1 dL_refuses_634 (by decide) (by decide) (by decide) (fun q => absurd q (by decide)) (fun _ => ?_)
    refine lv_aload_n hC.1.1 hC.1.2.1 dL_refuses_637 rfl (lv_at hl 15 rfl) ?_
    refine lv_iload hC.1.1 hC.1.2.1 dL_refuses_638 (lv_at hl 0 rfl) ?_
    refine zi_const hC.1.1 hC.1.2.1 dL_refuses_640 ?_
    refine zi_const hC.1.1 hC.1.2.1 dL_refuses_641 ?_
    refine zi_const hC.1.1 hC.1.2.1 dL_refuses_642 ?_
    refine lv_iload hC.1.1 hC.1.2.1 dL_refuses_643 (lv_at hl 7 rfl) ?_
    refine zi_const hC.1.1 hC.1.2.1 dL_refuses_645 ?_
    refine zi_const hC.1.1 hC.1.2.1 dL_refuses_646 ?_
    refine zi_const hC.1.1 hC.1.2.1 dL_refuses_647 ?_
    refine hx_plan0_1 hst hC hP hS hG (by decide) (by decide) (by decide) (by decide) (by decide) (by decide) (by decide) (by unfold thL; rw [if_neg (by omega)]) dL_refuses_648 hl.1 (Nat.le_of_ble_eq_true rfl) ⟨(Nat.le_of_ble_eq_true rfl), (Nat.le_of_ble_eq_true rfl)⟩ ⟨(Nat.le_of_ble_eq_true rfl), (Nat.le_of_ble_eq_true rfl)⟩ (fun H locs hP hS => ?_)
    refine zi_bipush hC.1.1 hC.1.2.1 dL_refuses_651 rfl ?_
    refine zi_icmp_ne (tgt := 764) hC.1.1 hC.1.2.1 dL_refuses_653 (by decide) (by decide) (by decide) (fun q => absurd q (by decide)) (fun _ => ?_)
    refine lv_aload_n hC.1.1 hC.1.2.1 dL_refuses_656 rfl (lv_at hl 15 rfl) ?_
    refine lv_iload hC.1.1 hC.1.2.1 dL_refuses_657 (lv_at hl 0 rfl) ?_
    refine zi_const hC.1.1 hC.1.2.1 dL_refuses_659 ?_
    refine lv_iload hC.1.1 hC.1.2.1 dL_refuses_660 (lv_at hl 6 rfl) ?_
    refine zi_const hC.1.1 hC.1.2.1 dL_refuses_662 ?_
    refine zi_const hC.1.1 hC.1.2.1 dL_refuses_663 ?_
    refine zi_const hC.1.1 hC.1.2.1 dL_refuses_664 ?_
    refine zi_const hC.1.1 hC.1.2.1 dL_refuses_665 ?_
    refine zi_const hC.1.1 hC.1.2.1 dL_refuses_666 ?_
    refine hx_plan0_2 hst hC hP hS hG (by decide) (by decide) (by decide) (by decide) (by decide) (by decide) (by decide) (by unfold thL; rw [if_pos (by omega), if_neg (by omega)]) dL_refuses_667 hl.1 (Nat.le_of_ble_eq_true rfl) ⟨(Nat.le_of_ble_eq_true rfl), (Nat.le_of_ble_eq_true rfl)⟩ ⟨(Nat.le_of_ble_eq_true rfl), (Nat.le_of_ble_eq_true rfl)⟩ (fun H locs hP hS => ?_)
    refine zi_bipush hC.1.1 hC.1.2.1 dL_refuses_670 rfl ?_
    refine zi_icmp_ne (tgt := 764) hC.1.1 hC.1.2.1 dL_refuses_672 (by decide) (by decide) (by decide) (fun q => absurd q (by decide)) (fun _ => ?_)
    refine lv_aload_n hC.1.1 hC.1.2.1 dL_refuses_675 rfl (lv_at hl 15 rfl) ?_
    refine lv_iload hC.1.1 hC.1.2.1 dL_refuses_676 (lv_at hl 0 rfl) ?_
    refine zi_const hC.1.1 hC.1.2.1 dL_refuses_678 ?_
    refine zi_const hC.1.1 hC.1.2.1 dL_refuses_679 ?_
    refine lv_iload hC.1.1 hC.1.2.1 dL_refuses_680 (lv_at hl 9 rfl) ?_
    refine zi_if_ne (tgt := 689) hC.1.1 hC.1.2.1 dL_refuses_682 (by decide) (by decide) (fun _ => ?_) (fun q => absurd q (by decide))
    refine lv_iload hC.1.1 hC.1.2.1 dL_refuses_689 (lv_at hl 5 rfl) ?_
    refine zi_const hC.1.1 hC.1.2.1 dL_refuses_691 ?_
    refine zi_const hC.1.1 hC.1.2.1 dL_refuses_692 ?_
    refine zi_const hC.1.1 hC.1.2.1 dL_refuses_693 ?_
    refine zi_const hC.1.1 hC.1.2.1 dL_refuses_694 ?_
    refine hx_plan0_2 hst hC hP hS hG (by decide) (by decide) (by decide) (by decide) (by decide) (by decide) (by decide) (by unfold thL; rw [if_pos (by omega), if_neg (by omega)]) dL_refuses_695 hl.1 (Nat.le_of_ble_eq_true rfl) ⟨(Nat.le_of_ble_eq_true rfl), (Nat.le_of_ble_eq_true rfl)⟩ ⟨(Nat.le_of_ble_eq_true rfl), (Nat.le_of_ble_eq_true rfl)⟩ (fun H locs hP hS => ?_)
    refine zi_bipush hC.1.1 hC.1.2.1 dL_refuses_698 rfl ?_
    refine zi_icmp_ne (tgt := 764) hC.1.1 hC.1.2.1 dL_refuses_700 (by decide) (by decide) (by decide) (fun q => absurd q (by decide)) (fun _ => ?_)
    refine lv_aload_n hC.1.1 hC.1.2.1 dL_refuses_703 rfl (lv_at hl 15 rfl) ?_
    refine lv_iload hC.1.1 hC.1.2.1 dL_refuses_704 (lv_at hl 0 rfl) ?_
    refine zi_const hC.1.1 hC.1.2.1 dL_refuses_706 ?_
    refine zi_const hC.1.1 hC.1.2.1 dL_refuses_707 ?_
    refine zi_const hC.1.1 hC.1.2.1 dL_refuses_708 ?_
    refine zi_const hC.1.1 hC.1.2.1 dL_refuses_709 ?_
    refine lv_iload hC.1.1 hC.1.2.1 dL_refuses_710 (lv_at hl 5 rfl) ?_
    refine zi_const hC.1.1 hC.1.2.1 dL_refuses_712 ?_
    refine zi_const hC.1.1 hC.1.2.1 dL_refuses_713 ?_
    refine hx_plan0_2 hst hC hP hS hG (by decide) (by decide) (by decide) (by decide) (by decide) (by decide) (by decide) (by unfold thL; rw [if_pos (by omega), if_neg (by omega)]) dL_refuses_714 hl.1 (Nat.le_of_ble_eq_true rfl) ⟨(Nat.le_of_ble_eq_true rfl), (Nat.le_of_ble_eq_true rfl)⟩ ⟨(Nat.le_of_ble_eq_true rfl), (Nat.le_of_ble_eq_true rfl)⟩ (fun H locs hP hS => ?_)
    refine zi_bipush hC.1.1 hC.1.2.1 dL_refuses_717 rfl ?_
    refine zi_icmp_ne (tgt := 764) hC.1.1 hC.1.2.1 dL_refuses_719 (by decide) (by decide) (by decide) (fun q => absurd q (by decide)) (fun _ => ?_)
    refine lv_aload_n hC.1.1 hC.1.2.1 dL_refuses_722 rfl (lv_at hl 15 rfl) ?_
    refine lv_iload hC.1.1 hC.1.2.1 dL_refuses_723 (lv_at hl 0 rfl) ?_
    refine zi_const hC.1.1 hC.1.2.1 dL_refuses_725 ?_
    refine zi_const hC.1.1 hC.1.2.1 dL_refuses_726 ?_
    refine zi_const hC.1.1 hC.1.2.1 dL_refuses_727 ?_
    refine zi_const hC.1.1 hC.1.2.1 dL_refuses_728 ?_
    refine zi_const hC.1.1 hC.1.2.1 dL_refuses_729 ?_
    refine lv_iload hC.1.1 hC.1.2.1 dL_refuses_730 (lv_at hl 5 rfl) ?_
    refine zi_const hC.1.1 hC.1.2.1 dL_refuses_732 ?_
    refine hx_plan0_2 hst hC hP hS hG (by decide) (by decide) (by decide) (by decide) (by decide) (by decide) (by decide) (by unfold thL; rw [if_pos (by omega), if_neg (by omega)]) dL_refuses_733 hl.1 (Nat.le_of_ble_eq_true rfl) ⟨(Nat.le_of_ble_eq_true rfl), (Nat.le_of_ble_eq_true rfl)⟩ ⟨(Nat.le_of_ble_eq_true rfl), (Nat.le_of_ble_eq_true rfl)⟩ (fun H locs hP hS => ?_)
    refine zi_bipush hC.1.1 hC.1.2.1 dL_refuses_736 rfl ?_
    refine zi_icmp_ne (tgt := 764) hC.1.1 hC.1.2.1 dL_refuses_738 (by decide) (by decide) (by decide) (fun q => absurd q (by decide)) (fun _ => ?_)
    refine lv_aload_n hC.1.1 hC.1.2.1 dL_refuses_741 rfl (lv_at hl 15 rfl) ?_
    refine lv_iload hC.1.1 hC.1.2.1 dL_refuses_742 (lv_at hl 0 rfl) ?_
    refine zi_const hC.1.1 hC.1.2.1 dL_refuses_744 ?_
    refine zi_const hC.1.1 hC.1.2.1 dL_refuses_745 ?_
    refine zi_const hC.1.1 hC.1.2.1 dL_refuses_746 ?_
    refine zi_const hC.1.1 hC.1.2.1 dL_refuses_747 ?_
    refine zi_const hC.1.1 hC.1.2.1 dL_refuses_748 ?_
    refine zi_const hC.1.1 hC.1.2.1 dL_refuses_749 ?_
    refine lv_iload hC.1.1 hC.1.2.1 dL_refuses_750 (lv_at hl 3 rfl) ?_
    refine hx_plan0_2 hst hC hP hS hG (by decide) (by decide) (by decide) (by decide) (by decide) (by decide) (by decide) (by unfold thL; rw [if_pos (by omega), if_neg (by omega)]) dL_refuses_752 hl.1 (Nat.le_of_ble_eq_true rfl) ⟨(Nat.le_of_ble_eq_true rfl), (Nat.le_of_ble_eq_true rfl)⟩ ⟨(Nat.le_of_ble_eq_true rfl), (Nat.le_of_ble_eq_true rfl)⟩ (fun H locs hP hS => ?_)
    refine zi_bipush hC.1.1 hC.1.2.1 dL_refuses_755 rfl ?_
    refine zi_icmp_ne (tgt := 764) hC.1.1 hC.1.2.1 dL_refuses_757 (by decide) (by decide) (by decide) (fun q => absurd q (by decide)) (fun _ => ?_)
    refine zi_const hC.1.1 hC.1.2.1 dL_refuses_760 ?_
    refine lv_goto (tgt := 765) hC.1.1 hC.1.2.1 dL_refuses_761 (by decide) ?_
    refine lv_istore (lv' := [(13, .int (iz 1)), (15, .int (iz 0)), (14, .int (iz 1)), (12, .int (iz 32)), (11, .int (iz ac)), (10, .int (iz 201)), (9, .int (iz 1000)), (8, .int (iz 3)), (7, .int (iz (-2147483648))), (6, .int (iz 1)), (5, .int (iz 2147483647)), (4, .int (iz (b2i (fineM σ)))), (3, .int (iz (chS σ 500 16))), (2, .int (iz (ldS σ 0 0 16))), (1, .int (iz ac)), (0, .ref (h 0))]) hC.1.1 hC.1.2.1 dL_refuses_765 hl (by decide) rfl (fun ls hl => ?_)
    refine lv_iinc (v := iz 2) (lv' := [(14, .int (iz 2)), (13, .int (iz 1)), (15, .int (iz 0)), (12, .int (iz 32)), (11, .int (iz ac)), (10, .int (iz 201)), (9, .int (iz 1000)), (8, .int (iz 3)), (7, .int (iz (-2147483648))), (6, .int (iz 1)), (5, .int (iz 2147483647)), (4, .int (iz (b2i (fineM σ)))), (3, .int (iz (chS σ 500 16))), (2, .int (iz (ldS σ 0 0 16))), (1, .int (iz ac)), (0, .ref (h 0))]) hC.1.1 hC.1.2.1 dL_refuses_767 hl (k := 2) rfl rfl (by decide) rfl (fun ls hl => ?_)
    refine lv_goto (tgt := 595) hC.1.1 hC.1.2.1 dL_refuses_770 (by decide) ?_
    refine lv_iload hC.1.1 hC.1.2.1 dL_refuses_595 (lv_at hl 0 rfl) ?_
    refine zi_const hC.1.1 hC.1.2.1 dL_refuses_597 ?_
    refine zi_icmp_ge (tgt := 773) hC.1.1 hC.1.2.1 dL_refuses_598 (by decide) (by decide) (by decide) (fun _ => ?_) (fun q => absurd q (by decide))
    refine lv_iload hC.1.1 hC.1.2.1 dL_refuses_773 (lv_at hl 1 rfl) ?_
    refine zi_if_eq (tgt := 821) hC.1.1 hC.1.2.1 dL_refuses_775 (by decide) (by decide) (fun q => absurd q (by decide)) (fun _ => ?_)
    refine lv_aload_n hC.1.1 hC.1.2.1 dL_refuses_778 rfl (lv_at hl 15 rfl) ?_
    refine lv_iload hC.1.1 hC.1.2.1 dL_refuses_779 (lv_at hl 9 rfl) ?_
    refine zi_if_ne (tgt := 789) hC.1.1 hC.1.2.1 dL_refuses_781 (by decide) (by decide) (fun _ => ?_) (fun q => absurd q (by decide))
    refine lv_iload hC.1.1 hC.1.2.1 dL_refuses_789 (lv_at hl 9 rfl) ?_
    refine zi_const hC.1.1 hC.1.2.1 dL_refuses_791 ?_
    refine zi_icmp_ne (tgt := 800) hC.1.1 hC.1.2.1 dL_refuses_792 (by decide) (by decide) (by decide) (fun q => absurd q (by decide)) (fun _ => ?_)
    refine zi_bipush hC.1.1 hC.1.2.1 dL_refuses_795 rfl ?_
    refine lv_goto (tgt := 812) hC.1.1 hC.1.2.1 dL_refuses_797 (by decide) ?_
    refine zl_i2c (v := 123) hC.1.1 hC.1.2.1 rfl dL_refuses_812 ?_
    refine hx_type_1 hst hC hP hS hG (by decide) hn (by decide) dL_refuses_813 hl.1 (Nat.le_of_ble_eq_true rfl) ⟨(Nat.le_of_ble_eq_true rfl), (Nat.le_of_ble_eq_true rfl)⟩ ⟨(Nat.le_of_ble_eq_true rfl), (Nat.le_of_ble_eq_true rfl)⟩ (fun H locs hP hS => ?_)
    refine zi_bipush hC.1.1 hC.1.2.1 dL_refuses_816 rfl ?_
    refine zi_icmp_eq (tgt := 823) hC.1.1 hC.1.2.1 dL_refuses_818 (by decide) (by decide) (by decide) (fun _ => ?_) (fun q => absurd q (by decide))
    refine lv_iinc (v := iz 2) (lv' := [(6, .int (iz 2)), (14, .int (iz 2)), (13, .int (iz 1)), (15, .int (iz 0)), (12, .int (iz 32)), (11, .int (iz ac)), (10, .int (iz 201)), (9, .int (iz 1000)), (8, .int (iz 3)), (7, .int (iz (-2147483648))), (5, .int (iz 2147483647)), (4, .int (iz (b2i (fineM σ)))), (3, .int (iz (chS σ 500 16))), (2, .int (iz (ldS σ 0 0 16))), (1, .int (iz ac)), (0, .ref (h 0))]) hC.1.1 hC.1.2.1 dL_refuses_823 hl (k := 9) rfl rfl (by decide) rfl (fun ls hl => ?_)
    refine lv_goto (tgt := 28) hC.1.1 hC.1.2.1 dL_refuses_826 (by decide) ?_
    exact (rf_2 l hst hC hr hlocks hG hac ha hlen hwt hn hby κ H locs ls hP hS (lv_sub hl [0, 10, 11, 12, 13, 14, 15] rfl)).wide (by decide) (by decide)
  refine W.wide (cells' := 232) (slots' := 6 * 232) ?_ (by decide) (by decide)
  refine zi_if_eq (tgt := 585) hC.1.1 hC.1.2.1 dL_refuses_538 (by decide) hac (fun _ => (j585 H locs hP hS).wide (by decide) (by decide)) (fun hnz => ?_)
  have g01 := GI_01 hG
  refine lv_aload_n hC.1.1 hC.1.2.1 dL_refuses_541 rfl (lv_at hl 13 rfl) ?_
  refine zi_const hC.1.1 hC.1.2.1 dL_refuses_542 ?_
  refine zi_const hC.1.1 hC.1.2.1 dL_refuses_543 ?_
  refine lv_iload hC.1.1 hC.1.2.1 dL_refuses_544 (lv_at hl 4 rfl) ?_
  refine zi_const hC.1.1 hC.1.2.1 dL_refuses_546 ?_
  refine hx_act4_2 hst hC hP hS hG (by decide) (by decide) (by unfold thM; rw [if_pos (by omega), if_neg (by omega)]) dL_refuses_547 hl.1 (Nat.le_of_ble_eq_true rfl) ⟨(Nat.le_of_ble_eq_true rfl), (Nat.le_of_ble_eq_true rfl)⟩ ⟨(Nat.le_of_ble_eq_true rfl), (Nat.le_of_ble_eq_true rfl)⟩ (fun H locs hP hS => ?_)
  refine zi_bipush hC.1.1 hC.1.2.1 dL_refuses_550 rfl ?_
  refine zi_icmp_ne (tgt := 589) hC.1.1 hC.1.2.1 dL_refuses_552 (by decide) (by decide) (by decide) (fun q => absurd q (by decide)) (fun _ => ?_)
  refine lv_aload_n hC.1.1 hC.1.2.1 dL_refuses_555 rfl (lv_at hl 13 rfl) ?_
  refine zi_bipush hC.1.1 hC.1.2.1 dL_refuses_556 rfl ?_
  refine zi_const hC.1.1 hC.1.2.1 dL_refuses_558 ?_
  refine lv_iload hC.1.1 hC.1.2.1 dL_refuses_559 (lv_at hl 4 rfl) ?_
  refine zi_const hC.1.1 hC.1.2.1 dL_refuses_561 ?_
  refine hx_act6_2 hst hC hP hS hG (by decide) (by decide) hlen (by unfold thM; rw [if_pos (by omega), if_neg (by omega)]) dL_refuses_562 hl.1 (Nat.le_of_ble_eq_true rfl) ⟨(Nat.le_of_ble_eq_true rfl), (Nat.le_of_ble_eq_true rfl)⟩ ⟨(Nat.le_of_ble_eq_true rfl), (Nat.le_of_ble_eq_true rfl)⟩ (fun H locs hP hS => ?_)
  refine zi_bipush hC.1.1 hC.1.2.1 dL_refuses_565 rfl ?_
  refine zi_icmp_ne (tgt := 589) hC.1.1 hC.1.2.1 dL_refuses_567 (by decide) (by decide) (by decide) (fun q => absurd q (by decide)) (fun _ => ?_)
  refine lv_aload_n hC.1.1 hC.1.2.1 dL_refuses_570 rfl (lv_at hl 13 rfl) ?_
  refine zi_bipush hC.1.1 hC.1.2.1 dL_refuses_571 rfl ?_
  refine zi_const hC.1.1 hC.1.2.1 dL_refuses_573 ?_
  refine lv_iload hC.1.1 hC.1.2.1 dL_refuses_574 (lv_at hl 5 rfl) ?_
  refine zi_const hC.1.1 hC.1.2.1 dL_refuses_576 ?_
  refine hx_act8_1 hst hC hP hS hG (by decide) (by decide) (by unfold thO; rw [if_neg (by omega)]) dL_refuses_577 hl.1 (Nat.le_of_ble_eq_true rfl) ⟨(Nat.le_of_ble_eq_true rfl), (Nat.le_of_ble_eq_true rfl)⟩ ⟨(Nat.le_of_ble_eq_true rfl), (Nat.le_of_ble_eq_true rfl)⟩ (fun H locs hP hS => ?_)
  refine zi_bipush hC.1.1 hC.1.2.1 dL_refuses_580 rfl ?_
  refine zi_icmp_ne (tgt := 589) hC.1.1 hC.1.2.1 dL_refuses_582 (by decide) (by decide) (by decide) (fun q => absurd q (by decide)) (fun _ => ?_)
  exact (j585 H locs hP hS).wide (by decide) (by decide)
set_option maxRecDepth 100000 in
set_option maxHeartbeats 4000000 in
theorem rf_0 (l : Launch) (hst : l.stackTraces = false) {p : Program} {e : Env} {s : State} {m : MethodId} {args : Array Value} {below : List Frame} {meth : Method} {cd : Code} {A : Nat → Prop} {h : Nat → Nat} {D : va_G} {c : Nat → ClassId} {σ : Nat → Nat → Int} {ω : Nat × (Nat → Int32) × Int32} {ac : Int} (hC : CX p m cd cL_refuses 16 s args h D c A) (hr : meth.sig.returnType = some .boolean) (hlocks : meth.locks = false) (hG : GI σ) (hac : -2147483648 ≤ ac ∧ ac ≤ 2147483647) (ha : ac = σ 0 1) (hlen : ∀ k, k < 16 → σ 14 k ≠ 0 → 1 ≤ σ 9 k) (hwt : ∀ k, k < 16 → σ 15 k = 0) (hn : ω.1 ≤ 6) (hby : ∀ j, j < ω.1 → ∃ x : Int, (97 ≤ x ∧ x ≤ 122) ∧ ω.2.1 j = iz x) : ∀ (κ : Nat → Nat → Int) (H : Heap) (locs : List Loc) (ls : Array Slot), zB 32 h D (gC c h σ κ ω) H → va_S A s.heap H locs → lv_has ls 16 [(6, .int (iz 0)), (5, .int (iz 2147483647)), (4, .int (iz (b2i (fineM σ)))), (3, .int (iz (chS σ 500 16))), (2, .int (iz (ldS σ 0 0 16))), (1, .int (iz ac)), (0, .ref (h 0))] → W p l e { frames := 11, cells := 900, slots := 6 * 900, locals := 240 } s m args below meth cd H locs 3 (6 * 3) (MQ below (va_Qi (fun r (u : Int × S3) => r = iz u.1 ∧ (fun (z : Int) (u : S3) => z = 1 ∧ u.1 = σ ∧ u.2.2 = ω) u.1 u.2) (fun u t => zB 32 h D (gS c h u.2) t.heap) A) args s 900 (6 * 900) A) (F0 m 28 ls []) := by
  intro κ H locs ls hP hS hl
  refine lv_iload hC.1.1 hC.1.2.1 dL_refuses_28 (lv_at hl 0 rfl) ?_
  refine zi_const hC.1.1 hC.1.2.1 dL_refuses_30 ?_
  refine zi_icmp_ge (tgt := 829) hC.1.1 hC.1.2.1 dL_refuses_31 (by decide) (by decide) (by decide) (fun q => absurd q (by decide)) (fun _ => ?_)
  refine lv_iload hC.1.1 hC.1.2.1 dL_refuses_34 (lv_at hl 0 rfl) ?_
  refine zi_if_ne (tgt := 43) hC.1.1 hC.1.2.1 dL_refuses_36 (by decide) (by decide) (fun q => absurd q (by decide)) (fun _ => ?_)
  refine zi_const hC.1.1 hC.1.2.1 dL_refuses_39 ?_
  refine lv_goto (tgt := 59) hC.1.1 hC.1.2.1 dL_refuses_40 (by decide) ?_
  refine lv_istore (lv' := [(7, .int (iz (-1))), (6, .int (iz 0)), (5, .int (iz 2147483647)), (4, .int (iz (b2i (fineM σ)))), (3, .int (iz (chS σ 500 16))), (2, .int (iz (ldS σ 0 0 16))), (1, .int (iz ac)), (0, .ref (h 0))]) hC.1.1 hC.1.2.1 dL_refuses_59 hl (by decide) rfl (fun ls hl => ?_)
  refine lv_iload hC.1.1 hC.1.2.1 dL_refuses_61 (lv_at hl 1 rfl) ?_
  refine zi_const hC.1.1 hC.1.2.1 dL_refuses_63 ?_
  refine zi_icmp_ne (tgt := 71) hC.1.1 hC.1.2.1 dL_refuses_64 (by decide) (by decide) (by decide) (fun _ => ?_) (fun q => absurd q (by decide))
  refine lv_iload hC.1.1 hC.1.2.1 dL_refuses_71 (lv_at hl 0 rfl) ?_
  refine lv_istore (lv' := [(8, .int (iz (-1))), (7, .int (iz (-1))), (6, .int (iz 0)), (5, .int (iz 2147483647)), (4, .int (iz (b2i (fineM σ)))), (3, .int (iz (chS σ 500 16))), (2, .int (iz (ldS σ 0 0 16))), (1, .int (iz ac)), (0, .ref (h 0))]) hC.1.1 hC.1.2.1 dL_refuses_73 hl (by decide) rfl (fun ls hl => ?_)
  refine lv_iload hC.1.1 hC.1.2.1 dL_refuses_75 (lv_at hl 2 rfl) ?_
  refine zi_const hC.1.1 hC.1.2.1 dL_refuses_77 ?_
  refine zi_icmp_ne (tgt := 87) hC.1.1 hC.1.2.1 dL_refuses_78 (by decide) (by decide) (by decide) (fun _ => ?_) (fun q => absurd q (by decide))
  refine lv_iload hC.1.1 hC.1.2.1 dL_refuses_87 (lv_at hl 1 rfl) ?_
  refine lv_istore (lv' := [(9, .int (iz (-1))), (8, .int (iz (-1))), (7, .int (iz (-1))), (6, .int (iz 0)), (5, .int (iz 2147483647)), (4, .int (iz (b2i (fineM σ)))), (3, .int (iz (chS σ 500 16))), (2, .int (iz (ldS σ 0 0 16))), (1, .int (iz ac)), (0, .ref (h 0))]) hC.1.1 hC.1.2.1 dL_refuses_89 hl (by decide) rfl (fun ls hl => ?_)
  refine lv_iload hC.1.1 hC.1.2.1 dL_refuses_91 (lv_at hl 3 rfl) ?_
  refine zi_const hC.1.1 hC.1.2.1 dL_refuses_93 ?_
  refine zi_icmp_ne (tgt := 103) hC.1.1 hC.1.2.1 dL_refuses_94 (by decide) (by decide) (by decide) (fun _ => ?_) (fun q => absurd q (by decide))
  refine lv_iload hC.1.1 hC.1.2.1 dL_refuses_103 (lv_at hl 2 rfl) ?_
  refine lv_istore (lv' := [(10, .int (iz (-1))), (9, .int (iz (-1))), (8, .int (iz (-1))), (7, .int (iz (-1))), (6, .int (iz 0)), (5, .int (iz 2147483647)), (4, .int (iz (b2i (fineM σ)))), (3, .int (iz (chS σ 500 16))), (2, .int (iz (ldS σ 0 0 16))), (1, .int (iz ac)), (0, .ref (h 0))]) hC.1.1 hC.1.2.1 dL_refuses_105 hl (by decide) rfl (fun ls hl => ?_)
  refine lv_iload hC.1.1 hC.1.2.1 dL_refuses_107 (lv_at hl 4 rfl) ?_
  refine zi_const hC.1.1 hC.1.2.1 dL_refuses_109 ?_
  refine zi_icmp_ne (tgt := 117) hC.1.1 hC.1.2.1 dL_refuses_110 (by decide) (by decide) (by decide) (fun _ => ?_) (fun q => absurd q (by decide))
  refine lv_iload hC.1.1 hC.1.2.1 dL_refuses_117 (lv_at hl 3 rfl) ?_
  refine lv_istore (lv' := [(11, .int (iz (-1))), (10, .int (iz (-1))), (9, .int (iz (-1))), (8, .int (iz (-1))), (7, .int (iz (-1))), (6, .int (iz 0)), (5, .int (iz 2147483647)), (4, .int (iz (b2i (fineM σ)))), (3, .int (iz (chS σ 500 16))), (2, .int (iz (ldS σ 0 0 16))), (1, .int (iz ac)), (0, .ref (h 0))]) hC.1.1 hC.1.2.1 dL_refuses_119 hl (by decide) rfl (fun ls hl => ?_)
  refine lv_iload hC.1.1 hC.1.2.1 dL_refuses_121 (lv_at hl 5 rfl) ?_
  refine zi_if_ne (tgt := 131) hC.1.1 hC.1.2.1 dL_refuses_123 (by decide) (by decide) (fun q => absurd q (by decide)) (fun _ => ?_)
  refine zi_bipush hC.1.1 hC.1.2.1 dL_refuses_126 rfl ?_
  refine lv_goto (tgt := 144) hC.1.1 hC.1.2.1 dL_refuses_128 (by decide) ?_
  refine lv_istore (lv' := [(12, .int (iz (-2))), (11, .int (iz (-1))), (10, .int (iz (-1))), (9, .int (iz (-1))), (8, .int (iz (-1))), (7, .int (iz (-1))), (6, .int (iz 0)), (5, .int (iz 2147483647)), (4, .int (iz (b2i (fineM σ)))), (3, .int (iz (chS σ 500 16))), (2, .int (iz (ldS σ 0 0 16))), (1, .int (iz ac)), (0, .ref (h 0))]) hC.1.1 hC.1.2.1 dL_refuses_144 hl (by decide) rfl (fun ls hl => ?_)
  refine lv_aload_n hC.1.1 hC.1.2.1 dL_refuses_146 rfl (lv_at hl 12 rfl) ?_
  refine zi_const hC.1.1 hC.1.2.1 dL_refuses_147 ?_
  refine lv_iload hC.1.1 hC.1.2.1 dL_refuses_148 (lv_at hl 3 rfl) ?_
  refine zi_const hC.1.1 hC.1.2.1 dL_refuses_150 ?_
  refine zi_const hC.1.1 hC.1.2.1 dL_refuses_151 ?_
  refine hx_act0_1 hst hC hP hS hG (by decide) (by unfold thS; rw [if_neg (by omega)]) dL_refuses_152 hl.1 (Nat.le_of_ble_eq_true rfl) ⟨(Nat.le_of_ble_eq_true rfl), (Nat.le_of_ble_eq_true rfl)⟩ ⟨(Nat.le_of_ble_eq_true rfl), (Nat.le_of_ble_eq_true rfl)⟩ (fun H locs hP hS => ?_)
  refine zi_bipush hC.1.1 hC.1.2.1 dL_refuses_155 rfl ?_
  refine zi_icmp_ne (tgt := 529) hC.1.1 hC.1.2.1 dL_refuses_157 (by decide) (by decide) (by decide) (fun q => absurd q (by decide)) (fun _ => ?_)
  refine lv_aload_n hC.1.1 hC.1.2.1 dL_refuses_160 rfl (lv_at hl 12 rfl) ?_
  refine zi_const hC.1.1 hC.1.2.1 dL_refuses_161 ?_
  refine lv_iload hC.1.1 hC.1.2.1 dL_refuses_162 (lv_at hl 4 rfl) ?_
  refine zi_const hC.1.1 hC.1.2.1 dL_refuses_164 ?_
  refine zi_const hC.1.1 hC.1.2.1 dL_refuses_165 ?_
  refine hx_act1_1 hst hC hP hS hG (by decide) (by decide) (by decide) dL_refuses_166 hl.1 (Nat.le_of_ble_eq_true rfl) ⟨(Nat.le_of_ble_eq_true rfl), (Nat.le_of_ble_eq_true rfl)⟩ ⟨(Nat.le_of_ble_eq_true rfl), (Nat.le_of_ble_eq_true rfl)⟩ (fun H locs hP hS => ?_)
  refine zi_bipush hC.1.1 hC.1.2.1 dL_refuses_169 rfl ?_
  refine zi_icmp_ne (tgt := 529) hC.1.1 hC.1.2.1 dL_refuses_171 (by decide) (by decide) (by decide) (fun q => absurd q (by decide)) (fun _ => ?_)
  refine lv_aload_n hC.1.1 hC.1.2.1 dL_refuses_174 rfl (lv_at hl 12 rfl) ?_
  refine zi_const hC.1.1 hC.1.2.1 dL_refuses_175 ?_
  refine zi_const hC.1.1 hC.1.2.1 dL_refuses_176 ?_
  refine lv_iload hC.1.1 hC.1.2.1 dL_refuses_177 (lv_at hl 6 rfl) ?_
  refine zi_const hC.1.1 hC.1.2.1 dL_refuses_179 ?_
  refine zi_icmp_ne (tgt := 188) hC.1.1 hC.1.2.1 dL_refuses_180 (by decide) (by decide) (by decide) (fun _ => ?_) (fun q => absurd q (by decide))
  refine lv_iload hC.1.1 hC.1.2.1 dL_refuses_188 (lv_at hl 5 rfl) ?_
  refine zi_const hC.1.1 hC.1.2.1 dL_refuses_190 ?_
  refine hx_act1_2 hst hC hP hS hG (by decide) (by decide) (by decide) dL_refuses_191 hl.1 (Nat.le_of_ble_eq_true rfl) ⟨(Nat.le_of_ble_eq_true rfl), (Nat.le_of_ble_eq_true rfl)⟩ ⟨(Nat.le_of_ble_eq_true rfl), (Nat.le_of_ble_eq_true rfl)⟩ (fun H locs hP hS => ?_)
  refine zi_bipush hC.1.1 hC.1.2.1 dL_refuses_194 rfl ?_
  refine zi_icmp_ne (tgt := 529) hC.1.1 hC.1.2.1 dL_refuses_196 (by decide) (by decide) (by decide) (fun q => absurd q (by decide)) (fun _ => ?_)
  refine lv_aload_n hC.1.1 hC.1.2.1 dL_refuses_199 rfl (lv_at hl 12 rfl) ?_
  refine zi_const hC.1.1 hC.1.2.1 dL_refuses_200 ?_
  refine lv_iload hC.1.1 hC.1.2.1 dL_refuses_201 (lv_at hl 4 rfl) ?_
  refine zi_const hC.1.1 hC.1.2.1 dL_refuses_203 ?_
  refine zi_const hC.1.1 hC.1.2.1 dL_refuses_204 ?_
  refine hx_act2_1 hst hC hP hS hG (by decide) (by decide) (by decide) dL_refuses_205 hl.1 (Nat.le_of_ble_eq_true rfl) ⟨(Nat.le_of_ble_eq_true rfl), (Nat.le_of_ble_eq_true rfl)⟩ ⟨(Nat.le_of_ble_eq_true rfl), (Nat.le_of_ble_eq_true rfl)⟩ (fun H locs hP hS => ?_)
  refine zi_bipush hC.1.1 hC.1.2.1 dL_refuses_208 rfl ?_
  refine zi_icmp_ne (tgt := 529) hC.1.1 hC.1.2.1 dL_refuses_210 (by decide) (by decide) (by decide) (fun q => absurd q (by decide)) (fun _ => ?_)
  refine lv_aload_n hC.1.1 hC.1.2.1 dL_refuses_213 rfl (lv_at hl 12 rfl) ?_
  refine zi_const hC.1.1 hC.1.2.1 dL_refuses_214 ?_
  refine zi_const hC.1.1 hC.1.2.1 dL_refuses_215 ?_
  refine lv_iload hC.1.1 hC.1.2.1 dL_refuses_216 (lv_at hl 6 rfl) ?_
  refine zi_if_ne (tgt := 226) hC.1.1 hC.1.2.1 dL_refuses_218 (by decide) (by decide) (fun q => absurd q (by decide)) (fun _ => ?_)
  refine zi_bipush hC.1.1 hC.1.2.1 dL_refuses_221 rfl ?_
  refine lv_goto (tgt := 240) hC.1.1 hC.1.2.1 dL_refuses_223 (by decide) ?_
  refine zi_const hC.1.1 hC.1.2.1 dL_refuses_240 ?_
  refine hx_act2_2 hst hC hP hS hG (by decide) (by decide) (by decide) dL_refuses_241 hl.1 (Nat.le_of_ble_eq_true rfl) ⟨(Nat.le_of_ble_eq_true rfl), (Nat.le_of_ble_eq_true rfl)⟩ ⟨(Nat.le_of_ble_eq_true rfl), (Nat.le_of_ble_eq_true rfl)⟩ (fun H locs hP hS => ?_)
  refine zi_bipush hC.1.1 hC.1.2.1 dL_refuses_244 rfl ?_
  refine zi_icmp_ne (tgt := 529) hC.1.1 hC.1.2.1 dL_refuses_246 (by decide) (by decide) (by decide) (fun q => absurd q (by decide)) (fun _ => ?_)
  refine lv_aload_n hC.1.1 hC.1.2.1 dL_refuses_249 rfl (lv_at hl 12 rfl) ?_
  refine zi_const hC.1.1 hC.1.2.1 dL_refuses_250 ?_
  refine lv_iload hC.1.1 hC.1.2.1 dL_refuses_251 (lv_at hl 6 rfl) ?_
  refine zi_const hC.1.1 hC.1.2.1 dL_refuses_253 ?_
  refine zi_icmp_ne (tgt := 262) hC.1.1 hC.1.2.1 dL_refuses_254 (by decide) (by decide) (by decide) (fun _ => ?_) (fun q => absurd q (by decide))
  refine lv_iload hC.1.1 hC.1.2.1 dL_refuses_262 (lv_at hl 5 rfl) ?_
  refine zi_bipush hC.1.1 hC.1.2.1 dL_refuses_264 rfl ?_
  refine zi_const hC.1.1 hC.1.2.1 dL_refuses_266 ?_
  refine hx_act3_1 hst hC hP hS hG (by decide) (by decide) (by decide) dL_refuses_267 hl.1 (Nat.le_of_ble_eq_true rfl) ⟨(Nat.le_of_ble_eq_true rfl), (Nat.le_of_ble_eq_true rfl)⟩ ⟨(Nat.le_of_ble_eq_true rfl), (Nat.le_of_ble_eq_true rfl)⟩ (fun H locs hP hS => ?_)
  refine zi_bipush hC.1.1 hC.1.2.1 dL_refuses_270 rfl ?_
  refine zi_icmp_ne (tgt := 529) hC.1.1 hC.1.2.1 dL_refuses_272 (by decide) (by decide) (by decide) (fun q => absurd q (by decide)) (fun _ => ?_)
  refine lv_aload_n hC.1.1 hC.1.2.1 dL_refuses_275 rfl (lv_at hl 12 rfl) ?_
  refine zi_const hC.1.1 hC.1.2.1 dL_refuses_276 ?_
  refine zi_const hC.1.1 hC.1.2.1 dL_refuses_277 ?_
  refine lv_iload hC.1.1 hC.1.2.1 dL_refuses_278 (lv_at hl 6 rfl) ?_
  refine zi_if_ne (tgt := 288) hC.1.1 hC.1.2.1 dL_refuses_280 (by decide) (by decide) (fun q => absurd q (by decide)) (fun _ => ?_)
  refine zi_bipush hC.1.1 hC.1.2.1 dL_refuses_283 rfl ?_
  refine lv_goto (tgt := 301) hC.1.1 hC.1.2.1 dL_refuses_285 (by decide) ?_
  refine zi_const hC.1.1 hC.1.2.1 dL_refuses_301 ?_
  refine hx_act3_2 hst hC hP hS hG (by decide) (by decide) (by decide) dL_refuses_302 hl.1 (Nat.le_of_ble_eq_true rfl) ⟨(Nat.le_of_ble_eq_true rfl), (Nat.le_of_ble_eq_true rfl)⟩ ⟨(Nat.le_of_ble_eq_true rfl), (Nat.le_of_ble_eq_true rfl)⟩ (fun H locs hP hS => ?_)
  refine zi_bipush hC.1.1 hC.1.2.1 dL_refuses_305 rfl ?_
  refine zi_icmp_ne (tgt := 529) hC.1.1 hC.1.2.1 dL_refuses_307 (by decide) (by decide) (by decide) (fun q => absurd q (by decide)) (fun _ => ?_)
  refine lv_aload_n hC.1.1 hC.1.2.1 dL_refuses_310 rfl (lv_at hl 12 rfl) ?_
  refine zi_const hC.1.1 hC.1.2.1 dL_refuses_311 ?_
  refine lv_iload hC.1.1 hC.1.2.1 dL_refuses_312 (lv_at hl 1 rfl) ?_
  refine zi_const hC.1.1 hC.1.2.1 dL_refuses_314 ?_
  refine zi_const hC.1.1 hC.1.2.1 dL_refuses_315 ?_
  refine hx_act4_1 hst hC hP hS hG (by decide) (by decide) (by unfold thM; rw [if_neg (by omega)]) dL_refuses_316 hl.1 (Nat.le_of_ble_eq_true rfl) ⟨(Nat.le_of_ble_eq_true rfl), (Nat.le_of_ble_eq_true rfl)⟩ ⟨(Nat.le_of_ble_eq_true rfl), (Nat.le_of_ble_eq_true rfl)⟩ (fun H locs hP hS => ?_)
  refine zi_bipush hC.1.1 hC.1.2.1 dL_refuses_319 rfl ?_
  refine zi_icmp_ne (tgt := 529) hC.1.1 hC.1.2.1 dL_refuses_321 (by decide) (by decide) (by decide) (fun q => absurd q (by decide)) (fun _ => ?_)
  refine lv_aload_n hC.1.1 hC.1.2.1 dL_refuses_324 rfl (lv_at hl 12 rfl) ?_
  refine zi_const hC.1.1 hC.1.2.1 dL_refuses_325 ?_
  refine lv_iload hC.1.1 hC.1.2.1 dL_refuses_326 (lv_at hl 1 rfl) ?_
  refine zi_const hC.1.1 hC.1.2.1 dL_refuses_328 ?_
  refine zi_const hC.1.1 hC.1.2.1 dL_refuses_329 ?_
  refine hx_act5_1 hst hC hP hS hG (by decide) (by unfold th1; rw [if_neg (by omega)]) dL_refuses_330 hl.1 (Nat.le_of_ble_eq_true rfl) ⟨(Nat.le_of_ble_eq_true rfl), (Nat.le_of_ble_eq_true rfl)⟩ ⟨(Nat.le_of_ble_eq_true rfl), (Nat.le_of_ble_eq_true rfl)⟩ (fun H locs hP hS => ?_)
  refine zi_bipush hC.1.1 hC.1.2.1 dL_refuses_333 rfl ?_
  refine zi_icmp_ne (tgt := 529) hC.1.1 hC.1.2.1 dL_refuses_335 (by decide) (by decide) (by decide) (fun q => absurd q (by decide)) (fun _ => ?_)
  refine lv_aload_n hC.1.1 hC.1.2.1 dL_refuses_338 rfl (lv_at hl 12 rfl) ?_
  refine zi_bipush hC.1.1 hC.1.2.1 dL_refuses_339 rfl ?_
  refine lv_iload hC.1.1 hC.1.2.1 dL_refuses_341 (lv_at hl 1 rfl) ?_
  refine zi_const hC.1.1 hC.1.2.1 dL_refuses_343 ?_
  refine zi_const hC.1.1 hC.1.2.1 dL_refuses_344 ?_
  refine hx_act6_1 hst hC hP hS hG (by decide) (by decide) hlen (by unfold thM; rw [if_neg (by omega)]) dL_refuses_345 hl.1 (Nat.le_of_ble_eq_true rfl) ⟨(Nat.le_of_ble_eq_true rfl), (Nat.le_of_ble_eq_true rfl)⟩ ⟨(Nat.le_of_ble_eq_true rfl), (Nat.le_of_ble_eq_true rfl)⟩ (fun H locs hP hS => ?_)
  refine zi_bipush hC.1.1 hC.1.2.1 dL_refuses_348 rfl ?_
  refine zi_icmp_ne (tgt := 529) hC.1.1 hC.1.2.1 dL_refuses_350 (by decide) (by decide) (by decide) (fun q => absurd q (by decide)) (fun _ => ?_)
  refine lv_aload_n hC.1.1 hC.1.2.1 dL_refuses_353 rfl (lv_at hl 12 rfl) ?_
  refine lv_iload hC.1.1 hC.1.2.1 dL_refuses_354 (lv_at hl 1 rfl) ?_
  refine hx_drop_1 hst hC hP hS hG (by decide) (by unfold thD; rw [if_neg (by omega)]) dL_refuses_356 hl.1 (Nat.le_of_ble_eq_true rfl) ⟨(Nat.le_of_ble_eq_true rfl), (Nat.le_of_ble_eq_true rfl)⟩ ⟨(Nat.le_of_ble_eq_true rfl), (Nat.le_of_ble_eq_true rfl)⟩ (fun H locs hP hS => ?_)
  refine zi_bipush hC.1.1 hC.1.2.1 dL_refuses_359 rfl ?_
  refine zi_icmp_ne (tgt := 529) hC.1.1 hC.1.2.1 dL_refuses_361 (by decide) (by decide) (by decide) (fun q => absurd q (by decide)) (fun _ => ?_)
  refine lv_aload_n hC.1.1 hC.1.2.1 dL_refuses_364 rfl (lv_at hl 12 rfl) ?_
  refine zi_bipush hC.1.1 hC.1.2.1 dL_refuses_365 rfl ?_
  refine lv_iload hC.1.1 hC.1.2.1 dL_refuses_367 (lv_at hl 1 rfl) ?_
  refine zi_const hC.1.1 hC.1.2.1 dL_refuses_369 ?_
  refine zi_const hC.1.1 hC.1.2.1 dL_refuses_370 ?_
  refine hx_act7_1 hst hC hP hS hG (by decide) hn hby (by omega) dL_refuses_371 hl.1 (Nat.le_of_ble_eq_true rfl) ⟨(Nat.le_of_ble_eq_true rfl), (Nat.le_of_ble_eq_true rfl)⟩ ⟨(Nat.le_of_ble_eq_true rfl), (Nat.le_of_ble_eq_true rfl)⟩ (fun H locs hP hS => ?_)
  refine zi_bipush hC.1.1 hC.1.2.1 dL_refuses_374 rfl ?_
  refine zi_icmp_ne (tgt := 529) hC.1.1 hC.1.2.1 dL_refuses_376 (by decide) (by decide) (by decide) (fun q => absurd q (by decide)) (fun _ => ?_)
  refine lv_aload_n hC.1.1 hC.1.2.1 dL_refuses_379 rfl (lv_at hl 12 rfl) ?_
  refine zi_bipush hC.1.1 hC.1.2.1 dL_refuses_380 rfl ?_
  refine lv_iload hC.1.1 hC.1.2.1 dL_refuses_382 (lv_at hl 1 rfl) ?_
  refine zi_const hC.1.1 hC.1.2.1 dL_refuses_384 ?_
  refine zi_const hC.1.1 hC.1.2.1 dL_refuses_385 ?_
  refine hx_act8_1 hst hC hP hS hG (by decide) (by decide) (by unfold thO; rw [if_neg (by omega)]) dL_refuses_386 hl.1 (Nat.le_of_ble_eq_true rfl) ⟨(Nat.le_of_ble_eq_true rfl), (Nat.le_of_ble_eq_true rfl)⟩ ⟨(Nat.le_of_ble_eq_true rfl), (Nat.le_of_ble_eq_true rfl)⟩ (fun H locs hP hS => ?_)
  refine zi_bipush hC.1.1 hC.1.2.1 dL_refuses_389 rfl ?_
  refine zi_icmp_ne (tgt := 529) hC.1.1 hC.1.2.1 dL_refuses_391 (by decide) (by decide) (by decide) (fun q => absurd q (by decide)) (fun _ => ?_)
  refine lv_aload_n hC.1.1 hC.1.2.1 dL_refuses_394 rfl (lv_at hl 12 rfl) ?_
  refine zi_bipush hC.1.1 hC.1.2.1 dL_refuses_395 rfl ?_
  refine lv_iload hC.1.1 hC.1.2.1 dL_refuses_397 (lv_at hl 4 rfl) ?_
  refine zi_const hC.1.1 hC.1.2.1 dL_refuses_399 ?_
  refine zi_const hC.1.1 hC.1.2.1 dL_refuses_400 ?_
  refine hx_act9_1 hst hC hP hS hG (by decide) (by decide) (by decide) hlen hwt (by unfold thX; rw [if_neg (by omega)]) dL_refuses_401 hl.1 (Nat.le_of_ble_eq_true rfl) ⟨(Nat.le_of_ble_eq_true rfl), (Nat.le_of_ble_eq_true rfl)⟩ ⟨(Nat.le_of_ble_eq_true rfl), (Nat.le_of_ble_eq_true rfl)⟩ (fun H locs hP hS => ?_)
  refine zi_bipush hC.1.1 hC.1.2.1 dL_refuses_404 rfl ?_
  refine zi_icmp_ne (tgt := 529) hC.1.1 hC.1.2.1 dL_refuses_406 (by decide) (by decide) (by decide) (fun q => absurd q (by decide)) (fun _ => ?_)
  refine lv_aload_n hC.1.1 hC.1.2.1 dL_refuses_409 rfl (lv_at hl 12 rfl) ?_
  refine zi_bipush hC.1.1 hC.1.2.1 dL_refuses_410 rfl ?_
  refine zi_const hC.1.1 hC.1.2.1 dL_refuses_412 ?_
  refine lv_iload hC.1.1 hC.1.2.1 dL_refuses_413 (lv_at hl 3 rfl) ?_
  refine zi_const hC.1.1 hC.1.2.1 dL_refuses_415 ?_
  refine hx_act9_2 hst hC hP hS hG (by decide) (by decide) (by decide) hlen hwt (by unfold thX; rw [if_pos (by omega), if_neg (by omega)]) dL_refuses_416 hl.1 (Nat.le_of_ble_eq_true rfl) ⟨(Nat.le_of_ble_eq_true rfl), (Nat.le_of_ble_eq_true rfl)⟩ ⟨(Nat.le_of_ble_eq_true rfl), (Nat.le_of_ble_eq_true rfl)⟩ (fun H locs hP hS => ?_)
  refine zi_bipush hC.1.1 hC.1.2.1 dL_refuses_419 rfl ?_
  refine zi_icmp_ne (tgt := 529) hC.1.1 hC.1.2.1 dL_refuses_421 (by decide) (by decide) (by decide) (fun q => absurd q (by decide)) (fun _ => ?_)
  refine lv_aload_n hC.1.1 hC.1.2.1 dL_refuses_424 rfl (lv_at hl 12 rfl) ?_
  refine zi_bipush hC.1.1 hC.1.2.1 dL_refuses_425 rfl ?_
  refine zi_const hC.1.1 hC.1.2.1 dL_refuses_427 ?_
  refine zi_const hC.1.1 hC.1.2.1 dL_refuses_428 ?_
  refine lv_iload hC.1.1 hC.1.2.1 dL_refuses_429 (lv_at hl 6 rfl) ?_
  refine zi_if_ne (tgt := 438) hC.1.1 hC.1.2.1 dL_refuses_431 (by decide) (by decide) (fun q => absurd q (by decide)) (fun _ => ?_)
  refine zi_const hC.1.1 hC.1.2.1 dL_refuses_434 ?_
  refine lv_goto (tgt := 440) hC.1.1 hC.1.2.1 dL_refuses_435 (by decide) ?_
  refine hx_act9_2 hst hC hP hS hG (by decide) (by decide) (by decide) hlen hwt (by unfold thX; rw [if_pos (by omega), if_neg (by omega)]) dL_refuses_440 hl.1 (Nat.le_of_ble_eq_true rfl) ⟨(Nat.le_of_ble_eq_true rfl), (Nat.le_of_ble_eq_true rfl)⟩ ⟨(Nat.le_of_ble_eq_true rfl), (Nat.le_of_ble_eq_true rfl)⟩ (fun H locs hP hS => ?_)
  refine zi_bipush hC.1.1 hC.1.2.1 dL_refuses_443 rfl ?_
  refine zi_icmp_ne (tgt := 529) hC.1.1 hC.1.2.1 dL_refuses_445 (by decide) (by decide) (by decide) (fun q => absurd q (by decide)) (fun _ => ?_)
  refine lv_aload_n hC.1.1 hC.1.2.1 dL_refuses_448 rfl (lv_at hl 12 rfl) ?_
  refine zi_bipush hC.1.1 hC.1.2.1 dL_refuses_449 rfl ?_
  refine lv_iload hC.1.1 hC.1.2.1 dL_refuses_451 (lv_at hl 3 rfl) ?_
  refine lv_iload hC.1.1 hC.1.2.1 dL_refuses_453 (lv_at hl 4 rfl) ?_
  refine zi_const hC.1.1 hC.1.2.1 dL_refuses_455 ?_
  refine hx_act10_1 hst hC hP hS hG (by decide) (by decide) (by decide) dL_refuses_456 hl.1 (Nat.le_of_ble_eq_true rfl) ⟨(Nat.le_of_ble_eq_true rfl), (Nat.le_of_ble_eq_true rfl)⟩ ⟨(Nat.le_of_ble_eq_true rfl), (Nat.le_of_ble_eq_true rfl)⟩ (fun H locs hP hS => ?_)
  refine zi_bipush hC.1.1 hC.1.2.1 dL_refuses_459 rfl ?_
  refine zi_icmp_ne (tgt := 529) hC.1.1 hC.1.2.1 dL_refuses_461 (by decide) (by decide) (by decide) (fun q => absurd q (by decide)) (fun _ => ?_)
  refine lv_aload_n hC.1.1 hC.1.2.1 dL_refuses_464 rfl (lv_at hl 12 rfl) ?_
  refine zi_bipush hC.1.1 hC.1.2.1 dL_refuses_465 rfl ?_
  refine lv_iload hC.1.1 hC.1.2.1 dL_refuses_467 (lv_at hl 3 rfl) ?_
  refine zi_const hC.1.1 hC.1.2.1 dL_refuses_469 ?_
  refine zi_const hC.1.1 hC.1.2.1 dL_refuses_470 ?_
  refine hx_act10_2 hst hC hP hS hG (by decide) (by decide) (by decide) dL_refuses_471 hl.1 (Nat.le_of_ble_eq_true rfl) ⟨(Nat.le_of_ble_eq_true rfl), (Nat.le_of_ble_eq_true rfl)⟩ ⟨(Nat.le_of_ble_eq_true rfl), (Nat.le_of_ble_eq_true rfl)⟩ (fun H locs hP hS => ?_)
  refine zi_bipush hC.1.1 hC.1.2.1 dL_refuses_474 rfl ?_
  refine zi_icmp_ne (tgt := 529) hC.1.1 hC.1.2.1 dL_refuses_476 (by decide) (by decide) (by decide) (fun q => absurd q (by decide)) (fun _ => ?_)
  refine lv_aload_n hC.1.1 hC.1.2.1 dL_refuses_479 rfl (lv_at hl 12 rfl) ?_
  refine zi_bipush hC.1.1 hC.1.2.1 dL_refuses_480 rfl ?_
  refine lv_iload hC.1.1 hC.1.2.1 dL_refuses_482 (lv_at hl 3 rfl) ?_
  refine lv_iload hC.1.1 hC.1.2.1 dL_refuses_484 (lv_at hl 4 rfl) ?_
  refine zi_const hC.1.1 hC.1.2.1 dL_refuses_486 ?_
  refine hx_act11_1 hst hC hP hS hG (by decide) (by decide) (by decide) dL_refuses_487 hl.1 (Nat.le_of_ble_eq_true rfl) ⟨(Nat.le_of_ble_eq_true rfl), (Nat.le_of_ble_eq_true rfl)⟩ ⟨(Nat.le_of_ble_eq_true rfl), (Nat.le_of_ble_eq_true rfl)⟩ (fun H locs hP hS => ?_)
  refine zi_bipush hC.1.1 hC.1.2.1 dL_refuses_490 rfl ?_
  refine zi_icmp_ne (tgt := 529) hC.1.1 hC.1.2.1 dL_refuses_492 (by decide) (by decide) (by decide) (fun q => absurd q (by decide)) (fun _ => ?_)
  refine lv_aload_n hC.1.1 hC.1.2.1 dL_refuses_495 rfl (lv_at hl 12 rfl) ?_
  refine zi_bipush hC.1.1 hC.1.2.1 dL_refuses_496 rfl ?_
  refine lv_iload hC.1.1 hC.1.2.1 dL_refuses_498 (lv_at hl 3 rfl) ?_
  refine zi_const hC.1.1 hC.1.2.1 dL_refuses_500 ?_
  refine zi_const hC.1.1 hC.1.2.1 dL_refuses_501 ?_
  refine hx_act11_2 hst hC hP hS hG (by decide) (by decide) (by decide) dL_refuses_502 hl.1 (Nat.le_of_ble_eq_true rfl) ⟨(Nat.le_of_ble_eq_true rfl), (Nat.le_of_ble_eq_true rfl)⟩ ⟨(Nat.le_of_ble_eq_true rfl), (Nat.le_of_ble_eq_true rfl)⟩ (fun H locs hP hS => ?_)
  refine zi_bipush hC.1.1 hC.1.2.1 dL_refuses_505 rfl ?_
  refine zi_icmp_ne (tgt := 529) hC.1.1 hC.1.2.1 dL_refuses_507 (by decide) (by decide) (by decide) (fun q => absurd q (by decide)) (fun _ => ?_)
  refine lv_aload_n hC.1.1 hC.1.2.1 dL_refuses_510 rfl (lv_at hl 12 rfl) ?_
  refine zi_bipush hC.1.1 hC.1.2.1 dL_refuses_511 rfl ?_
  refine lv_iload hC.1.1 hC.1.2.1 dL_refuses_513 (lv_at hl 3 rfl) ?_
  refine zi_const hC.1.1 hC.1.2.1 dL_refuses_515 ?_
  refine zi_const hC.1.1 hC.1.2.1 dL_refuses_516 ?_
  refine hx_act12_1 hst hC hP hS hG (by decide) (by decide) dL_refuses_517 hl.1 (Nat.le_of_ble_eq_true rfl) ⟨(Nat.le_of_ble_eq_true rfl), (Nat.le_of_ble_eq_true rfl)⟩ ⟨(Nat.le_of_ble_eq_true rfl), (Nat.le_of_ble_eq_true rfl)⟩ (fun H locs hP hS => ?_)
  refine zi_bipush hC.1.1 hC.1.2.1 dL_refuses_520 rfl ?_
  refine zi_icmp_ne (tgt := 529) hC.1.1 hC.1.2.1 dL_refuses_522 (by decide) (by decide) (by decide) (fun q => absurd q (by decide)) (fun _ => ?_)
  refine zi_const hC.1.1 hC.1.2.1 dL_refuses_525 ?_
  refine lv_goto (tgt := 530) hC.1.1 hC.1.2.1 dL_refuses_526 (by decide) ?_
  refine lv_istore (lv' := [(13, .int (iz 1)), (12, .int (iz (-2))), (11, .int (iz (-1))), (10, .int (iz (-1))), (9, .int (iz (-1))), (8, .int (iz (-1))), (7, .int (iz (-1))), (6, .int (iz 0)), (5, .int (iz 2147483647)), (4, .int (iz (b2i (fineM σ)))), (3, .int (iz (chS σ 500 16))), (2, .int (iz (ldS σ 0 0 16))), (1, .int (iz ac)), (0, .ref (h 0))]) hC.1.1 hC.1.2.1 dL_refuses_530 hl (by decide) rfl (fun ls hl => ?_)
  refine lv_iload hC.1.1 hC.1.2.1 dL_refuses_532 (lv_at hl 0 rfl) ?_
  refine zi_if_eq (tgt := 589) hC.1.1 hC.1.2.1 dL_refuses_534 (by decide) (by decide) (fun q => absurd q (by decide)) (fun _ => ?_)
  refine lv_iload_n hC.1.1 hC.1.2.1 dL_refuses_537 rfl (lv_at hl 12 rfl) ?_
  have j585 : ∀ (H : Heap) (locs : List Loc), zB 32 h D (gC c h σ κ ω) H → va_S A s.heap H locs → W p l e { frames := 11, cells := 900, slots := 6 * 900, locals := 240 } s m args below meth cd H locs 60 (6 * 60) (MQ below (va_Qi (fun r (u : Int × S3) => r = iz u.1 ∧ (fun (z : Int) (u : S3) => z = 1 ∧ u.1 = σ ∧ u.2.2 = ω) u.1 u.2) (fun u t => zB 32 h D (gS c h u.2) t.heap) A) args s 900 (6 * 900) A) (F0 m 585 ls []) := fun H locs hP hS => by
    refine zi_const hC.1.1 hC.1.2.1 dL_refuses_585 ?_
    refine lv_goto (tgt := 590) hC.1.1 hC.1.2.1 dL_refuses_586 (by decide) ?_
    refine lv_istore (lv' := [(13, .int (iz 1)), (12, .int (iz (-2))), (11, .int (iz (-1))), (10, .int (iz (-1))), (9, .int (iz (-1))), (8, .int (iz (-1))), (7, .int (iz (-1))), (6, .int (iz 0)), (5, .int (iz 2147483647)), (4, .int (iz (b2i (fineM σ)))), (3, .int (iz (chS σ 500 16))), (2, .int (iz (ldS σ 0 0 16))), (1, .int (iz ac)), (0, .ref (h 0))]) hC.1.1 hC.1.2.1 dL_refuses_590 hl (by decide) rfl (fun ls hl => ?_)
    refine zi_const hC.1.1 hC.1.2.1 dL_refuses_592 ?_
    refine lv_istore (lv' := [(14, .int (iz 0)), (13, .int (iz 1)), (12, .int (iz (-2))), (11, .int (iz (-1))), (10, .int (iz (-1))), (9, .int (iz (-1))), (8, .int (iz (-1))), (7, .int (iz (-1))), (6, .int (iz 0)), (5, .int (iz 2147483647)), (4, .int (iz (b2i (fineM σ)))), (3, .int (iz (chS σ 500 16))), (2, .int (iz (ldS σ 0 0 16))), (1, .int (iz ac)), (0, .ref (h 0))]) hC.1.1 hC.1.2.1 dL_refuses_593 hl (by decide) rfl (fun ls hl => ?_)
    refine lv_iload hC.1.1 hC.1.2.1 dL_refuses_595 (lv_at hl 0 rfl) ?_
    refine zi_const hC.1.1 hC.1.2.1 dL_refuses_597 ?_
    refine zi_icmp_ge (tgt := 773) hC.1.1 hC.1.2.1 dL_refuses_598 (by decide) (by decide) (by decide) (fun q => absurd q (by decide)) (fun _ => ?_)
    refine lv_iload hC.1.1 hC.1.2.1 dL_refuses_601 (lv_at hl 0 rfl) ?_
    refine zi_if_ne (tgt := 610) hC.1.1 hC.1.2.1 dL_refuses_603 (by decide) (by decide) (fun q => absurd q (by decide)) (fun _ => ?_)
    refine zi_const hC.1.1 hC.1.2.1 dL_refuses_606 ?_
    refine lv_goto (tgt := 611) hC.1.1 hC.1.2.1 dL_refuses_607 (by decide) ?_
    refine lv_istore (lv' := [(15, .int (iz 1)), (14, .int (iz 0)), (13, .int (iz 1)), (12, .int (iz (-2))), (11, .int (iz (-1))), (10, .int (iz (-1))), (9, .int (iz (-1))), (8, .int (iz (-1))), (7, .int (iz (-1))), (6, .int (iz 0)), (5, .int (iz 2147483647)), (4, .int (iz (b2i (fineM σ)))), (3, .int (iz (chS σ 500 16))), (2, .int (iz (ldS σ 0 0 16))), (1, .int (iz ac)), (0, .ref (h 0))]) hC.1.1 hC.1.2.1 dL_refuses_611 hl (by decide) rfl (fun ls hl => ?_)
    refine lv_iload hC.1.1 hC.1.2.1 dL_refuses_613 (lv_at hl 2 rfl) ?_
    refine zi_if_eq (tgt := 764) hC.1.1 hC.1.2.1 dL_refuses_615 (by decide) (by decide) (fun q => absurd q (by decide)) (fun _ => ?_)
    refine lv_aload_n hC.1.1 hC.1.2.1 dL_refuses_618 rfl (lv_at hl 15 rfl) ?_
    refine lv_iload hC.1.1 hC.1.2.1 dL_refuses_619 (lv_at hl 0 rfl) ?_
    refine lv_iload hC.1.1 hC.1.2.1 dL_refuses_621 (lv_at hl 7 rfl) ?_
    refine zi_const hC.1.1 hC.1.2.1 dL_refuses_623 ?_
    refine zi_const hC.1.1 hC.1.2.1 dL_refuses_624 ?_
    refine zi_const hC.1.1 hC.1.2.1 dL_refuses_625 ?_
    refine zi_const hC.1.1 hC.1.2.1 dL_refuses_626 ?_
    refine zi_const hC.1.1 hC.1.2.1 dL_refuses_627 ?_
    refine zi_const hC.1.1 hC.1.2.1 dL_refuses_628 ?_
    refine hx_plan1_1 hst hC hP hS hG (by decide) (by decide) (by decide) (by decide) (by decide) (by decide) (by decide) (by unfold thL; rw [if_neg (by omega)]) dL_refuses_629 hl.1 (Nat.le_of_ble_eq_true rfl) ⟨(Nat.le_of_ble_eq_true rfl), (Nat.le_of_ble_eq_true rfl)⟩ ⟨(Nat.le_of_ble_eq_true rfl), (Nat.le_of_ble_eq_true rfl)⟩ (fun H locs hP hS => ?_)
    refine zi_bipush hC.1.1 hC.1.2.1 dL_refuses_632 rfl ?_
    refine zi_icmp_ne (tgt := 764) hC.1.1 hC.1.2.1 dL_refuses_634 (by decide) (by decide) (by decide) (fun q => absurd q (by decide)) (fun _ => ?_)
    refine lv_aload_n hC.1.1 hC.1.2.1 dL_refuses_637 rfl (lv_at hl 15 rfl) ?_
    refine lv_iload hC.1.1 hC.1.2.1 dL_refuses_638 (lv_at hl 0 rfl) ?_
    refine zi_const hC.1.1 hC.1.2.1 dL_refuses_640 ?_
    refine zi_const hC.1.1 hC.1.2.1 dL_refuses_641 ?_
    refine zi_const hC.1.1 hC.1.2.1 dL_refuses_642 ?_
    refine lv_iload hC.1.1 hC.1.2.1 dL_refuses_643 (lv_at hl 7 rfl) ?_
    refine zi_const hC.1.1 hC.1.2.1 dL_refuses_645 ?_
    refine zi_const hC.1.1 hC.1.2.1 dL_refuses_646 ?_
    refine zi_const hC.1.1 hC.1.2.1 dL_refuses_647 ?_
    refine hx_plan1_1 hst hC hP hS hG (by decide) (by decide) (by decide) (by decide) (by decide) (by decide) (by decide) (by unfold thL; rw [if_neg (by omega)]) dL_refuses_648 hl.1 (Nat.le_of_ble_eq_true rfl) ⟨(Nat.le_of_ble_eq_true rfl), (Nat.le_of_ble_eq_true rfl)⟩ ⟨(Nat.le_of_ble_eq_true rfl), (Nat.le_of_ble_eq_true rfl)⟩ (fun H locs hP hS => ?_)
    refine zi_bipush hC.1.1 hC.1.2.1 dL_refuses_651 rfl ?_
    refine zi_icmp_ne (tgt := 764) hC.1.1 hC.1.2.1 dL_refuses_653 (by decide) (by decide) (by decide) (fun q => absurd q (by decide)) (fun _ => ?_)
    refine lv_aload_n hC.1.1 hC.1.2.1 dL_refuses_656 rfl (lv_at hl 15 rfl) ?_
    refine lv_iload hC.1.1 hC.1.2.1 dL_refuses_657 (lv_at hl 0 rfl) ?_
    refine zi_const hC.1.1 hC.1.2.1 dL_refuses_659 ?_
    refine lv_iload hC.1.1 hC.1.2.1 dL_refuses_660 (lv_at hl 6 rfl) ?_
    refine zi_const hC.1.1 hC.1.2.1 dL_refuses_662 ?_
    refine zi_const hC.1.1 hC.1.2.1 dL_refuses_663 ?_
    refine zi_const hC.1.1 hC.1.2.1 dL_refuses_664 ?_
    refine zi_const hC.1.1 hC.1.2.1 dL_refuses_665 ?_
    refine zi_const hC.1.1 hC.1.2.1 dL_refuses_666 ?_
    refine hx_plan1_2 hst hC hP hS hG (by decide) (by decide) (by decide) (by decide) (by decide) (by decide) (by decide) (by unfold thL; rw [if_pos (by omega), if_neg (by omega)]) dL_refuses_667 hl.1 (Nat.le_of_ble_eq_true rfl) ⟨(Nat.le_of_ble_eq_true rfl), (Nat.le_of_ble_eq_true rfl)⟩ ⟨(Nat.le_of_ble_eq_true rfl), (Nat.le_of_ble_eq_true rfl)⟩ (fun H locs hP hS => ?_)
    refine zi_bipush hC.1.1 hC.1.2.1 dL_refuses_670 rfl ?_
    refine zi_icmp_ne (tgt := 764) hC.1.1 hC.1.2.1 dL_refuses_672 (by decide) (by decide) (by decide) (fun q => absurd q (by decide)) (fun _ => ?_)
    refine lv_aload_n hC.1.1 hC.1.2.1 dL_refuses_675 rfl (lv_at hl 15 rfl) ?_
    refine lv_iload hC.1.1 hC.1.2.1 dL_refuses_676 (lv_at hl 0 rfl) ?_
    refine zi_const hC.1.1 hC.1.2.1 dL_refuses_678 ?_
    refine zi_const hC.1.1 hC.1.2.1 dL_refuses_679 ?_
    refine lv_iload hC.1.1 hC.1.2.1 dL_refuses_680 (lv_at hl 9 rfl) ?_
    refine zi_if_ne (tgt := 689) hC.1.1 hC.1.2.1 dL_refuses_682 (by decide) (by decide) (fun q => absurd q (by decide)) (fun _ => ?_)
    refine zi_const hC.1.1 hC.1.2.1 dL_refuses_685 ?_
    refine lv_goto (tgt := 691) hC.1.1 hC.1.2.1 dL_refuses_686 (by decide) ?_
    refine zi_const hC.1.1 hC.1.2.1 dL_refuses_691 ?_
    refine zi_const hC.1.1 hC.1.2.1 dL_refuses_692 ?_
    refine zi_const hC.1.1 hC.1.2.1 dL_refuses_693 ?_
    refine zi_const hC.1.1 hC.1.2.1 dL_refuses_694 ?_
    refine hx_plan1_2 hst hC hP hS hG (by decide) (by decide) (by decide) (by decide) (by decide) (by decide) (by decide) (by unfold thL; rw [if_pos (by omega), if_neg (by omega)]) dL_refuses_695 hl.1 (Nat.le_of_ble_eq_true rfl) ⟨(Nat.le_of_ble_eq_true rfl), (Nat.le_of_ble_eq_true rfl)⟩ ⟨(Nat.le_of_ble_eq_true rfl), (Nat.le_of_ble_eq_true rfl)⟩ (fun H locs hP hS => ?_)
    refine zi_bipush hC.1.1 hC.1.2.1 dL_refuses_698 rfl ?_
    refine zi_icmp_ne (tgt := 764) hC.1.1 hC.1.2.1 dL_refuses_700 (by decide) (by decide) (by decide) (fun q => absurd q (by decide)) (fun _ => ?_)
    refine lv_aload_n hC.1.1 hC.1.2.1 dL_refuses_703 rfl (lv_at hl 15 rfl) ?_
    refine lv_iload hC.1.1 hC.1.2.1 dL_refuses_704 (lv_at hl 0 rfl) ?_
    refine zi_const hC.1.1 hC.1.2.1 dL_refuses_706 ?_
    refine zi_const hC.1.1 hC.1.2.1 dL_refuses_707 ?_
    refine zi_const hC.1.1 hC.1.2.1 dL_refuses_708 ?_
    refine zi_const hC.1.1 hC.1.2.1 dL_refuses_709 ?_
    refine lv_iload hC.1.1 hC.1.2.1 dL_refuses_710 (lv_at hl 5 rfl) ?_
    refine zi_const hC.1.1 hC.1.2.1 dL_refuses_712 ?_
    refine zi_const hC.1.1 hC.1.2.1 dL_refuses_713 ?_
    refine hx_plan1_2 hst hC hP hS hG (by decide) (by decide) (by decide) (by decide) (by decide) (by decide) (by decide) (by unfold thL; rw [if_pos (by omega), if_neg (by omega)]) dL_refuses_714 hl.1 (Nat.le_of_ble_eq_true rfl) ⟨(Nat.le_of_ble_eq_true rfl), (Nat.le_of_ble_eq_true rfl)⟩ ⟨(Nat.le_of_ble_eq_true rfl), (Nat.le_of_ble_eq_true rfl)⟩ (fun H locs hP hS => ?_)
    refine zi_bipush hC.1.1 hC.1.2.1 dL_refuses_717 rfl ?_
    refine zi_icmp_ne (tgt := 764) hC.1.1 hC.1.2.1 dL_refuses_719 (by decide) (by decide) (by decide) (fun q => absurd q (by decide)) (fun _ => ?_)
    refine lv_aload_n hC.1.1 hC.1.2.1 dL_refuses_722 rfl (lv_at hl 15 rfl) ?_
    refine lv_iload hC.1.1 hC.1.2.1 dL_refuses_723 (lv_at hl 0 rfl) ?_
    refine zi_const hC.1.1 hC.1.2.1 dL_refuses_725 ?_
    refine zi_const hC.1.1 hC.1.2.1 dL_refuses_726 ?_
    refine zi_const hC.1.1 hC.1.2.1 dL_refuses_727 ?_
    refine zi_const hC.1.1 hC.1.2.1 dL_refuses_728 ?_
    refine zi_const hC.1.1 hC.1.2.1 dL_refuses_729 ?_
    refine lv_iload hC.1.1 hC.1.2.1 dL_refuses_730 (lv_at hl 5 rfl) ?_
    refine zi_const hC.1.1 hC.1.2.1 dL_refuses_732 ?_
    refine hx_plan1_2 hst hC hP hS hG (by decide) (by decide) (by decide) (by decide) (by decide) (by decide) (by decide) (by unfold thL; rw [if_pos (by omega), if_neg (by omega)]) dL_refuses_733 hl.1 (Nat.le_of_ble_eq_true rfl) ⟨(Nat.le_of_ble_eq_true rfl), (Nat.le_of_ble_eq_true rfl)⟩ ⟨(Nat.le_of_ble_eq_true rfl), (Nat.le_of_ble_eq_true rfl)⟩ (fun H locs hP hS => ?_)
    refine zi_bipush hC.1.1 hC.1.2.1 dL_refuses_736 rfl ?_
    refine zi_icmp_ne (tgt := 764) hC.1.1 hC.1.2.1 dL_refuses_738 (by decide) (by decide) (by decide) (fun q => absurd q (by decide)) (fun _ => ?_)
    refine lv_aload_n hC.1.1 hC.1.2.1 dL_refuses_741 rfl (lv_at hl 15 rfl) ?_
    refine lv_iload hC.1.1 hC.1.2.1 dL_refuses_742 (lv_at hl 0 rfl) ?_
    refine zi_const hC.1.1 hC.1.2.1 dL_refuses_744 ?_
    refine zi_const hC.1.1 hC.1.2.1 dL_refuses_745 ?_
    refine zi_const hC.1.1 hC.1.2.1 dL_refuses_746 ?_
    refine zi_const hC.1.1 hC.1.2.1 dL_refuses_747 ?_
    refine zi_const hC.1.1 hC.1.2.1 dL_refuses_748 ?_
    refine zi_const hC.1.1 hC.1.2.1 dL_refuses_749 ?_
    refine lv_iload hC.1.1 hC.1.2.1 dL_refuses_750 (lv_at hl 3 rfl) ?_
    refine hx_plan1_2 hst hC hP hS hG (by decide) (by decide) (by decide) (by decide) (by decide) (by decide) (by decide) (by unfold thL; rw [if_pos (by omega), if_neg (by omega)]) dL_refuses_752 hl.1 (Nat.le_of_ble_eq_true rfl) ⟨(Nat.le_of_ble_eq_true rfl), (Nat.le_of_ble_eq_true rfl)⟩ ⟨(Nat.le_of_ble_eq_true rfl), (Nat.le_of_ble_eq_true rfl)⟩ (fun H locs hP hS => ?_)
    refine zi_bipush hC.1.1 hC.1.2.1 dL_refuses_755 rfl ?_
    refine zi_icmp_ne (tgt := 764) hC.1.1 hC.1.2.1 dL_refuses_757 (by decide) (by decide) (by decide) (fun q => absurd q (by decide)) (fun _ => ?_)
    refine zi_const hC.1.1 hC.1.2.1 dL_refuses_760 ?_
    refine lv_goto (tgt := 765) hC.1.1 hC.1.2.1 dL_refuses_761 (by decide) ?_
    refine lv_istore (lv' := [(13, .int (iz 1)), (15, .int (iz 1)), (14, .int (iz 0)), (12, .int (iz (-2))), (11, .int (iz (-1))), (10, .int (iz (-1))), (9, .int (iz (-1))), (8, .int (iz (-1))), (7, .int (iz (-1))), (6, .int (iz 0)), (5, .int (iz 2147483647)), (4, .int (iz (b2i (fineM σ)))), (3, .int (iz (chS σ 500 16))), (2, .int (iz (ldS σ 0 0 16))), (1, .int (iz ac)), (0, .ref (h 0))]) hC.1.1 hC.1.2.1 dL_refuses_765 hl (by decide) rfl (fun ls hl => ?_)
    refine lv_iinc (v := iz 1) (lv' := [(14, .int (iz 1)), (13, .int (iz 1)), (15, .int (iz 1)), (12, .int (iz (-2))), (11, .int (iz (-1))), (10, .int (iz (-1))), (9, .int (iz (-1))), (8, .int (iz (-1))), (7, .int (iz (-1))), (6, .int (iz 0)), (5, .int (iz 2147483647)), (4, .int (iz (b2i (fineM σ)))), (3, .int (iz (chS σ 500 16))), (2, .int (iz (ldS σ 0 0 16))), (1, .int (iz ac)), (0, .ref (h 0))]) hC.1.1 hC.1.2.1 dL_refuses_767 hl (k := 2) rfl rfl (by decide) rfl (fun ls hl => ?_)
    refine lv_goto (tgt := 595) hC.1.1 hC.1.2.1 dL_refuses_770 (by decide) ?_
    refine lv_iload hC.1.1 hC.1.2.1 dL_refuses_595 (lv_at hl 0 rfl) ?_
    refine zi_const hC.1.1 hC.1.2.1 dL_refuses_597 ?_
    refine zi_icmp_ge (tgt := 773) hC.1.1 hC.1.2.1 dL_refuses_598 (by decide) (by decide) (by decide) (fun q => absurd q (by decide)) (fun _ => ?_)
    refine lv_iload hC.1.1 hC.1.2.1 dL_refuses_601 (lv_at hl 0 rfl) ?_
    refine zi_if_ne (tgt := 610) hC.1.1 hC.1.2.1 dL_refuses_603 (by decide) (by decide) (fun _ => ?_) (fun q => absurd q (by decide))
    refine zi_const hC.1.1 hC.1.2.1 dL_refuses_610 ?_
    refine lv_istore (lv' := [(15, .int (iz 0)), (14, .int (iz 1)), (13, .int (iz 1)), (12, .int (iz (-2))), (11, .int (iz (-1))), (10, .int (iz (-1))), (9, .int (iz (-1))), (8, .int (iz (-1))), (7, .int (iz (-1))), (6, .int (iz 0)), (5, .int (iz 2147483647)), (4, .int (iz (b2i (fineM σ)))), (3, .int (iz (chS σ 500 16))), (2, .int (iz (ldS σ 0 0 16))), (1, .int (iz ac)), (0, .ref (h 0))]) hC.1.1 hC.1.2.1 dL_refuses_611 hl (by decide) rfl (fun ls hl => ?_)
    refine lv_iload hC.1.1 hC.1.2.1 dL_refuses_613 (lv_at hl 2 rfl) ?_
    refine zi_if_eq (tgt := 764) hC.1.1 hC.1.2.1 dL_refuses_615 (by decide) (by decide) (fun q => absurd q (by decide)) (fun _ => ?_)
    refine lv_aload_n hC.1.1 hC.1.2.1 dL_refuses_618 rfl (lv_at hl 15 rfl) ?_
    refine lv_iload hC.1.1 hC.1.2.1 dL_refuses_619 (lv_at hl 0 rfl) ?_
    refine lv_iload hC.1.1 hC.1.2.1 dL_refuses_621 (lv_at hl 7 rfl) ?_
    refine zi_const hC.1.1 hC.1.2.1 dL_refuses_623 ?_
    refine zi_const hC.1.1 hC.1.2.1 dL_refuses_624 ?_
    refine zi_const hC.1.1 hC.1.2.1 dL_refuses_625 ?_
    refine zi_const hC.1.1 hC.1.2.1 dL_refuses_626 ?_
    refine zi_const hC.1.1 hC.1.2.1 dL_refuses_627 ?_
    refine zi_const hC.1.1 hC.1.2.1 dL_refuses_628 ?_
    refine hx_plan0_1 hst hC hP hS hG (by decide) (by decide) (by decide) (by decide) (by decide) (by decide) (by decide) (by unfold thL; rw [if_neg (by omega)]) dL_refuses_629 hl.1 (Nat.le_of_ble_eq_true rfl) ⟨(Nat.le_of_ble_eq_true rfl), (Nat.le_of_ble_eq_true rfl)⟩ ⟨(Nat.le_of_ble_eq_true rfl), (Nat.le_of_ble_eq_true rfl)⟩ (fun H locs hP hS => ?_)
    refine zi_bipush hC.1.1 hC.1.2.1 dL_refuses_632 rfl ?_
    refine zi_icmp_ne (tgt := 764) hC.1.1 hC.1.2.1 dL_refuses_634 (by decide) (by decide) (by decide) (fun q => absurd q (by decide)) (fun _ => ?_)
    refine lv_aload_n hC.1.1 hC.1.2.1 dL_refuses_637 rfl (lv_at hl 15 rfl) ?_
    refine lv_iload hC.1.1 hC.1.2.1 dL_refuses_638 (lv_at hl 0 rfl) ?_
    refine zi_const hC.1.1 hC.1.2.1 dL_refuses_640 ?_
    refine zi_const hC.1.1 hC.1.2.1 dL_refuses_641 ?_
    refine zi_const hC.1.1 hC.1.2.1 dL_refuses_642 ?_
    refine lv_iload hC.1.1 hC.1.2.1 dL_refuses_643 (lv_at hl 7 rfl) ?_
    refine zi_const hC.1.1 hC.1.2.1 dL_refuses_645 ?_
    refine zi_const hC.1.1 hC.1.2.1 dL_refuses_646 ?_
    refine zi_const hC.1.1 hC.1.2.1 dL_refuses_647 ?_
    refine hx_plan0_1 hst hC hP hS hG (by decide) (by decide) (by decide) (by decide) (by decide) (by decide) (by decide) (by unfold thL; rw [if_neg (by omega)]) dL_refuses_648 hl.1 (Nat.le_of_ble_eq_true rfl) ⟨(Nat.le_of_ble_eq_true rfl), (Nat.le_of_ble_eq_true rfl)⟩ ⟨(Nat.le_of_ble_eq_true rfl), (Nat.le_of_ble_eq_true rfl)⟩ (fun H locs hP hS => ?_)
    refine zi_bipush hC.1.1 hC.1.2.1 dL_refuses_651 rfl ?_
    refine zi_icmp_ne (tgt := 764) hC.1.1 hC.1.2.1 dL_refuses_653 (by decide) (by decide) (by decide) (fun q => absurd q (by decide)) (fun _ => ?_)
    refine lv_aload_n hC.1.1 hC.1.2.1 dL_refuses_656 rfl (lv_at hl 15 rfl) ?_
    refine lv_iload hC.1.1 hC.1.2.1 dL_refuses_657 (lv_at hl 0 rfl) ?_
    refine zi_const hC.1.1 hC.1.2.1 dL_refuses_659 ?_
    refine lv_iload hC.1.1 hC.1.2.1 dL_refuses_660 (lv_at hl 6 rfl) ?_
    refine zi_const hC.1.1 hC.1.2.1 dL_refuses_662 ?_
    refine zi_const hC.1.1 hC.1.2.1 dL_refuses_663 ?_
    refine zi_const hC.1.1 hC.1.2.1 dL_refuses_664 ?_
    refine zi_const hC.1.1 hC.1.2.1 dL_refuses_665 ?_
    refine zi_const hC.1.1 hC.1.2.1 dL_refuses_666 ?_
    refine hx_plan0_2 hst hC hP hS hG (by decide) (by decide) (by decide) (by decide) (by decide) (by decide) (by decide) (by unfold thL; rw [if_pos (by omega), if_neg (by omega)]) dL_refuses_667 hl.1 (Nat.le_of_ble_eq_true rfl) ⟨(Nat.le_of_ble_eq_true rfl), (Nat.le_of_ble_eq_true rfl)⟩ ⟨(Nat.le_of_ble_eq_true rfl), (Nat.le_of_ble_eq_true rfl)⟩ (fun H locs hP hS => ?_)
    refine zi_bipush hC.1.1 hC.1.2.1 dL_refuses_670 rfl ?_
    refine zi_icmp_ne (tgt := 764) hC.1.1 hC.1.2.1 dL_refuses_672 (by decide) (by decide) (by decide) (fun q => absurd q (by decide)) (fun _ => ?_)
    refine lv_aload_n hC.1.1 hC.1.2.1 dL_refuses_675 rfl (lv_at hl 15 rfl) ?_
    refine lv_iload hC.1.1 hC.1.2.1 dL_refuses_676 (lv_at hl 0 rfl) ?_
    refine zi_const hC.1.1 hC.1.2.1 dL_refuses_678 ?_
    refine zi_const hC.1.1 hC.1.2.1 dL_refuses_679 ?_
    refine lv_iload hC.1.1 hC.1.2.1 dL_refuses_680 (lv_at hl 9 rfl) ?_
    refine zi_if_ne (tgt := 689) hC.1.1 hC.1.2.1 dL_refuses_682 (by decide) (by decide) (fun q => absurd q (by decide)) (fun _ => ?_)
    refine zi_const hC.1.1 hC.1.2.1 dL_refuses_685 ?_
    refine lv_goto (tgt := 691) hC.1.1 hC.1.2.1 dL_refuses_686 (by decide) ?_
    refine zi_const hC.1.1 hC.1.2.1 dL_refuses_691 ?_
    refine zi_const hC.1.1 hC.1.2.1 dL_refuses_692 ?_
    refine zi_const hC.1.1 hC.1.2.1 dL_refuses_693 ?_
    refine zi_const hC.1.1 hC.1.2.1 dL_refuses_694 ?_
    refine hx_plan0_2 hst hC hP hS hG (by decide) (by decide) (by decide) (by decide) (by decide) (by decide) (by decide) (by unfold thL; rw [if_pos (by omega), if_neg (by omega)]) dL_refuses_695 hl.1 (Nat.le_of_ble_eq_true rfl) ⟨(Nat.le_of_ble_eq_true rfl), (Nat.le_of_ble_eq_true rfl)⟩ ⟨(Nat.le_of_ble_eq_true rfl), (Nat.le_of_ble_eq_true rfl)⟩ (fun H locs hP hS => ?_)
    refine zi_bipush hC.1.1 hC.1.2.1 dL_refuses_698 rfl ?_
    refine zi_icmp_ne (tgt := 764) hC.1.1 hC.1.2.1 dL_refuses_700 (by decide) (by decide) (by decide) (fun q => absurd q (by decide)) (fun _ => ?_)
    refine lv_aload_n hC.1.1 hC.1.2.1 dL_refuses_703 rfl (lv_at hl 15 rfl) ?_
    refine lv_iload hC.1.1 hC.1.2.1 dL_refuses_704 (lv_at hl 0 rfl) ?_
    refine zi_const hC.1.1 hC.1.2.1 dL_refuses_706 ?_
    refine zi_const hC.1.1 hC.1.2.1 dL_refuses_707 ?_
    refine zi_const hC.1.1 hC.1.2.1 dL_refuses_708 ?_
    refine zi_const hC.1.1 hC.1.2.1 dL_refuses_709 ?_
    refine lv_iload hC.1.1 hC.1.2.1 dL_refuses_710 (lv_at hl 5 rfl) ?_
    refine zi_const hC.1.1 hC.1.2.1 dL_refuses_712 ?_
    refine zi_const hC.1.1 hC.1.2.1 dL_refuses_713 ?_
    refine hx_plan0_2 hst hC hP hS hG (by decide) (by decide) (by decide) (by decide) (by decide) (by decide) (by decide) (by unfold thL; rw [if_pos (by omega), if_neg (by omega)]) dL_refuses_714 hl.1 (Nat.le_of_ble_eq_true rfl) ⟨(Nat.le_of_ble_eq_true rfl), (Nat.le_of_ble_eq_true rfl)⟩ ⟨(Nat.le_of_ble_eq_true rfl), (Nat.le_of_ble_eq_true rfl)⟩ (fun H locs hP hS => ?_)
    refine zi_bipush hC.1.1 hC.1.2.1 dL_refuses_717 rfl ?_
    refine zi_icmp_ne (tgt := 764) hC.1.1 hC.1.2.1 dL_refuses_719 (by decide) (by decide) (by decide) (fun q => absurd q (by decide)) (fun _ => ?_)
    refine lv_aload_n hC.1.1 hC.1.2.1 dL_refuses_722 rfl (lv_at hl 15 rfl) ?_
    refine lv_iload hC.1.1 hC.1.2.1 dL_refuses_723 (lv_at hl 0 rfl) ?_
    refine zi_const hC.1.1 hC.1.2.1 dL_refuses_725 ?_
    refine zi_const hC.1.1 hC.1.2.1 dL_refuses_726 ?_
    refine zi_const hC.1.1 hC.1.2.1 dL_refuses_727 ?_
    refine zi_const hC.1.1 hC.1.2.1 dL_refuses_728 ?_
    refine zi_const hC.1.1 hC.1.2.1 dL_refuses_729 ?_
    refine lv_iload hC.1.1 hC.1.2.1 dL_refuses_730 (lv_at hl 5 rfl) ?_
    refine zi_const hC.1.1 hC.1.2.1 dL_refuses_732 ?_
    refine hx_plan0_2 hst hC hP hS hG (by decide) (by decide) (by decide) (by decide) (by decide) (by decide) (by decide) (by unfold thL; rw [if_pos (by omega), if_neg (by omega)]) dL_refuses_733 hl.1 (Nat.le_of_ble_eq_true rfl) ⟨(Nat.le_of_ble_eq_true rfl), (Nat.le_of_ble_eq_true rfl)⟩ ⟨(Nat.le_of_ble_eq_true rfl), (Nat.le_of_ble_eq_true rfl)⟩ (fun H locs hP hS => ?_)
    refine zi_bipush hC.1.1 hC.1.2.1 dL_refuses_736 rfl ?_
    refine zi_icmp_ne (tgt := 764) hC.1.1 hC.1.2.1 dL_refuses_738 (by decide) (by decide) (by decide) (fun q => absurd q (by decide)) (fun _ => ?_)
    refine lv_aload_n hC.1.1 hC.1.2.1 dL_refuses_741 rfl (lv_at hl 15 rfl) ?_
    refine lv_iload hC.1.1 hC.1.2.1 dL_refuses_742 (lv_at hl 0 rfl) ?_
    refine zi_const hC.1.1 hC.1.2.1 dL_refuses_744 ?_
    refine zi_const hC.1.1 hC.1.2.1 dL_refuses_745 ?_
    refine zi_const hC.1.1 hC.1.2.1 dL_refuses_746 ?_
    refine zi_const hC.1.1 hC.1.2.1 dL_refuses_747 ?_
    refine zi_const hC.1.1 hC.1.2.1 dL_refuses_748 ?_
    refine zi_const hC.1.1 hC.1.2.1 dL_refuses_749 ?_
    refine lv_iload hC.1.1 hC.1.2.1 dL_refuses_750 (lv_at hl 3 rfl) ?_
    refine hx_plan0_2 hst hC hP hS hG (by decide) (by decide) (by decide) (by decide) (by decide) (by decide) (by decide) (by unfold thL; rw [if_pos (by omega), if_neg (by omega)]) dL_refuses_752 hl.1 (Nat.le_of_ble_eq_true rfl) ⟨(Nat.le_of_ble_eq_true rfl), (Nat.le_of_ble_eq_true rfl)⟩ ⟨(Nat.le_of_ble_eq_true rfl), (Nat.le_of_ble_eq_true rfl)⟩ (fun H locs hP hS => ?_)
    refine zi_bipush hC.1.1 hC.1.2.1 dL_refuses_755 rfl ?_
    refine zi_icmp_ne (tgt := 764) hC.1.1 hC.1.2.1 dL_refuses_757 (by decide) (by decide) (by decide) (fun q => absurd q (by decide)) (fun _ => ?_)
    refine zi_const hC.1.1 hC.1.2.1 dL_refuses_760 ?_
    refine lv_goto (tgt := 765) hC.1.1 hC.1.2.1 dL_refuses_761 (by decide) ?_
    refine lv_istore (lv' := [(13, .int (iz 1)), (15, .int (iz 0)), (14, .int (iz 1)), (12, .int (iz (-2))), (11, .int (iz (-1))), (10, .int (iz (-1))), (9, .int (iz (-1))), (8, .int (iz (-1))), (7, .int (iz (-1))), (6, .int (iz 0)), (5, .int (iz 2147483647)), (4, .int (iz (b2i (fineM σ)))), (3, .int (iz (chS σ 500 16))), (2, .int (iz (ldS σ 0 0 16))), (1, .int (iz ac)), (0, .ref (h 0))]) hC.1.1 hC.1.2.1 dL_refuses_765 hl (by decide) rfl (fun ls hl => ?_)
    refine lv_iinc (v := iz 2) (lv' := [(14, .int (iz 2)), (13, .int (iz 1)), (15, .int (iz 0)), (12, .int (iz (-2))), (11, .int (iz (-1))), (10, .int (iz (-1))), (9, .int (iz (-1))), (8, .int (iz (-1))), (7, .int (iz (-1))), (6, .int (iz 0)), (5, .int (iz 2147483647)), (4, .int (iz (b2i (fineM σ)))), (3, .int (iz (chS σ 500 16))), (2, .int (iz (ldS σ 0 0 16))), (1, .int (iz ac)), (0, .ref (h 0))]) hC.1.1 hC.1.2.1 dL_refuses_767 hl (k := 2) rfl rfl (by decide) rfl (fun ls hl => ?_)
    refine lv_goto (tgt := 595) hC.1.1 hC.1.2.1 dL_refuses_770 (by decide) ?_
    refine lv_iload hC.1.1 hC.1.2.1 dL_refuses_595 (lv_at hl 0 rfl) ?_
    refine zi_const hC.1.1 hC.1.2.1 dL_refuses_597 ?_
    refine zi_icmp_ge (tgt := 773) hC.1.1 hC.1.2.1 dL_refuses_598 (by decide) (by decide) (by decide) (fun _ => ?_) (fun q => absurd q (by decide))
    refine lv_iload hC.1.1 hC.1.2.1 dL_refuses_773 (lv_at hl 1 rfl) ?_
    refine zi_if_eq (tgt := 821) hC.1.1 hC.1.2.1 dL_refuses_775 (by decide) (by decide) (fun q => absurd q (by decide)) (fun _ => ?_)
    refine lv_aload_n hC.1.1 hC.1.2.1 dL_refuses_778 rfl (lv_at hl 15 rfl) ?_
    refine lv_iload hC.1.1 hC.1.2.1 dL_refuses_779 (lv_at hl 9 rfl) ?_
    refine zi_if_ne (tgt := 789) hC.1.1 hC.1.2.1 dL_refuses_781 (by decide) (by decide) (fun q => absurd q (by decide)) (fun _ => ?_)
    refine zi_bipush hC.1.1 hC.1.2.1 dL_refuses_784 rfl ?_
    refine lv_goto (tgt := 812) hC.1.1 hC.1.2.1 dL_refuses_786 (by decide) ?_
    refine zl_i2c (v := 96) hC.1.1 hC.1.2.1 rfl dL_refuses_812 ?_
    refine hx_type_1 hst hC hP hS hG (by decide) hn (by decide) dL_refuses_813 hl.1 (Nat.le_of_ble_eq_true rfl) ⟨(Nat.le_of_ble_eq_true rfl), (Nat.le_of_ble_eq_true rfl)⟩ ⟨(Nat.le_of_ble_eq_true rfl), (Nat.le_of_ble_eq_true rfl)⟩ (fun H locs hP hS => ?_)
    refine zi_bipush hC.1.1 hC.1.2.1 dL_refuses_816 rfl ?_
    refine zi_icmp_eq (tgt := 823) hC.1.1 hC.1.2.1 dL_refuses_818 (by decide) (by decide) (by decide) (fun _ => ?_) (fun q => absurd q (by decide))
    refine lv_iinc (v := iz 1) (lv' := [(6, .int (iz 1)), (14, .int (iz 2)), (13, .int (iz 1)), (15, .int (iz 0)), (12, .int (iz (-2))), (11, .int (iz (-1))), (10, .int (iz (-1))), (9, .int (iz (-1))), (8, .int (iz (-1))), (7, .int (iz (-1))), (5, .int (iz 2147483647)), (4, .int (iz (b2i (fineM σ)))), (3, .int (iz (chS σ 500 16))), (2, .int (iz (ldS σ 0 0 16))), (1, .int (iz ac)), (0, .ref (h 0))]) hC.1.1 hC.1.2.1 dL_refuses_823 hl (k := 9) rfl rfl (by decide) rfl (fun ls hl => ?_)
    refine lv_goto (tgt := 28) hC.1.1 hC.1.2.1 dL_refuses_826 (by decide) ?_
    exact (rf_1 l hst hC hr hlocks hG hac ha hlen hwt hn hby κ H locs ls hP hS (lv_sub hl [0, 10, 11, 12, 13, 14, 15] rfl)).wide (by decide) (by decide)
  refine W.wide (cells' := 52) (slots' := 6 * 52) ?_ (by decide) (by decide)
  refine zi_if_eq (tgt := 585) hC.1.1 hC.1.2.1 dL_refuses_538 (by decide) hac (fun _ => (j585 H locs hP hS).wide (by decide) (by decide)) (fun hnz => ?_)
  have g01 := GI_01 hG
  refine lv_aload_n hC.1.1 hC.1.2.1 dL_refuses_541 rfl (lv_at hl 13 rfl) ?_
  refine zi_const hC.1.1 hC.1.2.1 dL_refuses_542 ?_
  refine zi_const hC.1.1 hC.1.2.1 dL_refuses_543 ?_
  refine lv_iload hC.1.1 hC.1.2.1 dL_refuses_544 (lv_at hl 4 rfl) ?_
  refine zi_const hC.1.1 hC.1.2.1 dL_refuses_546 ?_
  refine hx_act4_2 hst hC hP hS hG (by decide) (by decide) (by unfold thM; rw [if_pos (by omega), if_neg (by omega)]) dL_refuses_547 hl.1 (Nat.le_of_ble_eq_true rfl) ⟨(Nat.le_of_ble_eq_true rfl), (Nat.le_of_ble_eq_true rfl)⟩ ⟨(Nat.le_of_ble_eq_true rfl), (Nat.le_of_ble_eq_true rfl)⟩ (fun H locs hP hS => ?_)
  refine zi_bipush hC.1.1 hC.1.2.1 dL_refuses_550 rfl ?_
  refine zi_icmp_ne (tgt := 589) hC.1.1 hC.1.2.1 dL_refuses_552 (by decide) (by decide) (by decide) (fun q => absurd q (by decide)) (fun _ => ?_)
  refine lv_aload_n hC.1.1 hC.1.2.1 dL_refuses_555 rfl (lv_at hl 13 rfl) ?_
  refine zi_bipush hC.1.1 hC.1.2.1 dL_refuses_556 rfl ?_
  refine zi_const hC.1.1 hC.1.2.1 dL_refuses_558 ?_
  refine lv_iload hC.1.1 hC.1.2.1 dL_refuses_559 (lv_at hl 4 rfl) ?_
  refine zi_const hC.1.1 hC.1.2.1 dL_refuses_561 ?_
  refine hx_act6_2 hst hC hP hS hG (by decide) (by decide) hlen (by unfold thM; rw [if_pos (by omega), if_neg (by omega)]) dL_refuses_562 hl.1 (Nat.le_of_ble_eq_true rfl) ⟨(Nat.le_of_ble_eq_true rfl), (Nat.le_of_ble_eq_true rfl)⟩ ⟨(Nat.le_of_ble_eq_true rfl), (Nat.le_of_ble_eq_true rfl)⟩ (fun H locs hP hS => ?_)
  refine zi_bipush hC.1.1 hC.1.2.1 dL_refuses_565 rfl ?_
  refine zi_icmp_ne (tgt := 589) hC.1.1 hC.1.2.1 dL_refuses_567 (by decide) (by decide) (by decide) (fun q => absurd q (by decide)) (fun _ => ?_)
  refine lv_aload_n hC.1.1 hC.1.2.1 dL_refuses_570 rfl (lv_at hl 13 rfl) ?_
  refine zi_bipush hC.1.1 hC.1.2.1 dL_refuses_571 rfl ?_
  refine zi_const hC.1.1 hC.1.2.1 dL_refuses_573 ?_
  refine lv_iload hC.1.1 hC.1.2.1 dL_refuses_574 (lv_at hl 5 rfl) ?_
  refine zi_const hC.1.1 hC.1.2.1 dL_refuses_576 ?_
  refine hx_act8_1 hst hC hP hS hG (by decide) (by decide) (by unfold thO; rw [if_neg (by omega)]) dL_refuses_577 hl.1 (Nat.le_of_ble_eq_true rfl) ⟨(Nat.le_of_ble_eq_true rfl), (Nat.le_of_ble_eq_true rfl)⟩ ⟨(Nat.le_of_ble_eq_true rfl), (Nat.le_of_ble_eq_true rfl)⟩ (fun H locs hP hS => ?_)
  refine zi_bipush hC.1.1 hC.1.2.1 dL_refuses_580 rfl ?_
  refine zi_icmp_ne (tgt := 589) hC.1.1 hC.1.2.1 dL_refuses_582 (by decide) (by decide) (by decide) (fun q => absurd q (by decide)) (fun _ => ?_)
  exact (j585 H locs hP hS).wide (by decide) (by decide)
set_option maxRecDepth 100000 in
set_option maxHeartbeats 4000000 in
theorem c_L_refuses (l : Launch) (h : Nat → Nat) (D : va_G) (c : Nat → ClassId) (σ κ : Nat → Nat → Int) (ω : Nat × (Nat → Int32) × Int32) (hinj : ∀ i j, i < 32 → j < 32 → h i = h j → i = j) (hG : GI σ) (ac : Int) (hac : -2147483648 ≤ ac ∧ ac ≤ 2147483647) (ha : ac = σ 0 1) (hlen : ∀ k, k < 16 → σ 14 k ≠ 0 → 1 ≤ σ 9 k) (hwt : ∀ k, k < 16 → σ 15 k = 0) (hn : ω.1 ≤ 6) (hby : ∀ j, j < ω.1 → ∃ x : Int, (97 ≤ x ∧ x ≤ 122) ∧ ω.2.1 j = iz x) (hst : l.stackTraces = false) :
    ∀ sz, Met l yL_refuses (Cond.code yL_refuses cL_refuses 16 (some .boolean) :: UW) { frames := 11, cells := 900, slots := 6 * 900, locals := 240 } (zPE zNCx [.ref (h 0), .int (iz ac)] 32 h D (gT c) sz (gC c h σ κ ω)) (va_Qi (fun r (u : Int × S3) => r = iz u.1 ∧ (fun (z : Int) (u : S3) => z = 1 ∧ u.1 = σ ∧ u.2.2 = ω) u.1 u.2) (fun u t => zB 32 h D (gS c h u.2) t.heap) (zA 32 h sz)) 900 (6 * 900) (zA 32 h sz) := by
  refine zGM_of (by decide) rfl (Nat.le_of_ble_eq_true rfl) hinj ?_
  intro p e s m below meth cd ls hC hr hlocks hP hl
  generalize zA 32 h s.heap.size = A at hC ⊢
  have hS : va_S A s.heap s.heap [] := va_S.rf
  have hl : lv_has ls 16 [(0, .ref (h 0)), (1, .int (iz ac))] := hl
  refine lv_aload_n hC.1.1 hC.1.2.1 dL_refuses_0 rfl (lv_at hl 0 rfl) ?_
  refine zi_const hC.1.1 hC.1.2.1 dL_refuses_1 ?_
  refine zi_const hC.1.1 hC.1.2.1 dL_refuses_2 ?_
  refine g_load hst hC hP hS hG dL_refuses_3 hl.1 (Nat.le_of_ble_eq_true rfl) ⟨(Nat.le_of_ble_eq_true rfl), (Nat.le_of_ble_eq_true rfl)⟩ ⟨(Nat.le_of_ble_eq_true rfl), (Nat.le_of_ble_eq_true rfl)⟩ (fun κ H locs hP hS => ?_)
  refine lv_istore_n (lv' := [(2, .int (iz (ldS σ 0 0 16))), (0, .ref (h 0)), (1, .int (iz ac))]) hC.1.1 hC.1.2.1 dL_refuses_6 rfl hl (by decide) rfl (fun ls hl => ?_)
  refine lv_aload_n hC.1.1 hC.1.2.1 dL_refuses_7 rfl (lv_at hl 1 rfl) ?_
  refine zi_sipush hC.1.1 hC.1.2.1 dL_refuses_8 rfl ?_
  refine g_chan hst hC hP hS hG dL_refuses_11 hl.1 (Nat.le_of_ble_eq_true rfl) ⟨(Nat.le_of_ble_eq_true rfl), (Nat.le_of_ble_eq_true rfl)⟩ ⟨(Nat.le_of_ble_eq_true rfl), (Nat.le_of_ble_eq_true rfl)⟩ (fun κ H locs hP hS => ?_)
  refine lv_istore_n (lv' := [(3, .int (iz (chS σ 500 16))), (2, .int (iz (ldS σ 0 0 16))), (0, .ref (h 0)), (1, .int (iz ac))]) hC.1.1 hC.1.2.1 dL_refuses_14 rfl hl (by decide) rfl (fun ls hl => ?_)
  refine lv_aload_n hC.1.1 hC.1.2.1 dL_refuses_15 rfl (lv_at hl 2 rfl) ?_
  refine d_fine0 hC hP hS hG dL_refuses_16 hl.1 (Nat.le_of_ble_eq_true rfl) ⟨(Nat.le_of_ble_eq_true rfl), (Nat.le_of_ble_eq_true rfl)⟩ ⟨(Nat.le_of_ble_eq_true rfl), (Nat.le_of_ble_eq_true rfl)⟩ (fun κ H locs hP hS => ?_)
  refine lv_istore (lv' := [(4, .int (iz (b2i (fineM σ)))), (3, .int (iz (chS σ 500 16))), (2, .int (iz (ldS σ 0 0 16))), (0, .ref (h 0)), (1, .int (iz ac))]) hC.1.1 hC.1.2.1 dL_refuses_19 hl (by decide) rfl (fun ls hl => ?_)
  refine zl_ldc (x := 2147483647) (n := 2147483647) hC.1 (UW_mem (by decide +kernel) (by decide +kernel)) rfl dL_refuses_21 ?_
  refine lv_istore (lv' := [(5, .int (iz 2147483647)), (4, .int (iz (b2i (fineM σ)))), (3, .int (iz (chS σ 500 16))), (2, .int (iz (ldS σ 0 0 16))), (0, .ref (h 0)), (1, .int (iz ac))]) hC.1.1 hC.1.2.1 dL_refuses_23 hl (by decide) rfl (fun ls hl => ?_)
  refine zi_const hC.1.1 hC.1.2.1 dL_refuses_25 ?_
  refine lv_istore (lv' := [(6, .int (iz 0)), (5, .int (iz 2147483647)), (4, .int (iz (b2i (fineM σ)))), (3, .int (iz (chS σ 500 16))), (2, .int (iz (ldS σ 0 0 16))), (0, .ref (h 0)), (1, .int (iz ac))]) hC.1.1 hC.1.2.1 dL_refuses_26 hl (by decide) rfl (fun ls hl => ?_)
  exact (rf_0 l hst hC hr hlocks hG hac ha hlen hwt hn hby κ H locs ls hP hS (lv_sub hl [0, 1, 2, 3, 4, 6, 5] rfl)).wide (by decide) (by decide)
