theorem mwc_1 : Cond.constant RJ6 265 1431655765 ∈ UW := UW_mem (by decide +kernel) (by decide +kernel)
theorem mwc_2 : Cond.constant RJ6 266 858993459 ∈ UW := UW_mem (by decide +kernel) (by decide +kernel)
theorem mwc_3 : Cond.constant RJ6 267 252645135 ∈ UW := UW_mem (by decide +kernel) (by decide +kernel)
theorem zi_ldcw {p : Program} {l : Launch} {e : Env} {R : Room} {s : State} {m : MethodId} {args : Array Value} {below : List Frame} {meth : Method} {c : Code} {H : Heap} {locs : List Loc} {cells slots : Nat} {Q : State → Prop} {cc : ByteArray} {nL pc : Nat} {own : String} {ls : Array Slot} {rest : List Value} (hF : CallFix p m c cc nL s args UW own) {idx : Nat} {v : Int32} {z : Int} (h1 : Cond.constant own idx v ∈ UW) (hv : v = iz z) (hd : decode cc pc = .ok (.ldc_w idx, 3))
    (k : W p l e R s m args below meth c H locs cells slots Q (F0 m (pc + 3) ls (.int (iz z) :: rest))) : W p l e R s m args below meth c H locs cells slots Q (F0 m pc ls rest) := by
  subst hv
  exact lv_ldcw hF.1 hF.2.1 hF.2.2.2.1 (hF.2.2.2.2 _ h1) hd k

set_option maxRecDepth 100000 in
set_option maxHeartbeats 4000000 in
theorem c_bitCount (l : Launch) (h : Nat → Nat) (D : va_G) (c : Nat → ClassId) (σ κ : Nat → Nat → Int) (ω : Nat × (Nat → Int32) × Int32) (hinj : ∀ i j, i < 32 → j < 32 → h i = h j → i = j) (hG : GI σ) (z : Int) :
    zMi (S := Unit) l yJ6_bitCount_0f7a4 cJ6_bitCount_0f7a4 1 (some .int) 0 0 [.int (iz (z))] 32 h D (gT c) (gC c h (σ) (κ) (ω)) (fun _ => gC c h σ κ ω) (fun r _ => r = pcn z) := by
  refine zM_of (by decide) (Nat.le_of_ble_eq_true rfl) ?_
  intro p e s m below meth cd ls ⟨hF, hr, hlocks, hK⟩ hP hl
  have hz : zD (zA 32 h s.heap.size) 32 h := zD.self hinj s.heap.size
  have hA : ∀ q, s.heap.size ≤ q → zA 32 h s.heap.size q := zA_new
  generalize zA 32 h s.heap.size = A at hz hA ⊢
  have hS : va_S A s.heap s.heap [] := va_S.rf
  have hl : lv_has ls 1 [(0, .int (iz (z)))] := hl
  refine lv_iload_n hF.1 hF.2.1 dJ6_bitCount_0f7a4_0 rfl (lv_at hl 0 rfl) ?_
  refine lv_iload_n hF.1 hF.2.1 dJ6_bitCount_0f7a4_1 rfl (lv_at hl 0 rfl) ?_
  refine zi_const hF.1 hF.2.1 dJ6_bitCount_0f7a4_2 ?_
  refine zi_iushr hF.1 hF.2.1 (a := z) (b := 1) dJ6_bitCount_0f7a4_3 ?_
  have q_1 : -2147483648 ≤ ius z 1 ∧ ius z 1 ≤ 2147483647 := ti_rg _
  refine zi_ldcw hF mwc_1 (z := 1431655765) (by decide) dJ6_bitCount_0f7a4_4 ?_
  refine zi_iand hF.1 hF.2.1 (a := ius z 1) (b := 1431655765) dJ6_bitCount_0f7a4_7 ?_
  have q_2 : -2147483648 ≤ ian (ius z 1) 1431655765 ∧ ian (ius z 1) 1431655765 ≤ 2147483647 := ti_rg _
  refine zi_sub hF.1 hF.2.1 dJ6_bitCount_0f7a4_8 ?_
  refine lv_istore_n (lv' := [(0, .int (iz (z - (ian (ius z 1) 1431655765))))]) hF.1 hF.2.1 dJ6_bitCount_0f7a4_9 rfl hl (by decide) rfl (fun ls hl => ?_)
  refine lv_iload_n hF.1 hF.2.1 dJ6_bitCount_0f7a4_10 rfl (lv_at hl 0 rfl) ?_
  refine zi_ldcw hF mwc_2 (z := 858993459) (by decide) dJ6_bitCount_0f7a4_11 ?_
  refine zi_iand hF.1 hF.2.1 (a := z - (ian (ius z 1) 1431655765)) (b := 858993459) dJ6_bitCount_0f7a4_14 ?_
  have q_3 : -2147483648 ≤ ian (z - (ian (ius z 1) 1431655765)) 858993459 ∧ ian (z - (ian (ius z 1) 1431655765)) 858993459 ≤ 2147483647 := ti_rg _
  refine lv_iload_n hF.1 hF.2.1 dJ6_bitCount_0f7a4_15 rfl (lv_at hl 0 rfl) ?_
  refine zi_const hF.1 hF.2.1 dJ6_bitCount_0f7a4_16 ?_
  refine zi_iushr hF.1 hF.2.1 (a := z - (ian (ius z 1) 1431655765)) (b := 2) dJ6_bitCount_0f7a4_17 ?_
  have q_4 : -2147483648 ≤ ius (z - (ian (ius z 1) 1431655765)) 2 ∧ ius (z - (ian (ius z 1) 1431655765)) 2 ≤ 2147483647 := ti_rg _
  refine zi_ldcw hF mwc_2 (z := 858993459) (by decide) dJ6_bitCount_0f7a4_18 ?_
  refine zi_iand hF.1 hF.2.1 (a := ius (z - (ian (ius z 1) 1431655765)) 2) (b := 858993459) dJ6_bitCount_0f7a4_21 ?_
  have q_5 : -2147483648 ≤ ian (ius (z - (ian (ius z 1) 1431655765)) 2) 858993459 ∧ ian (ius (z - (ian (ius z 1) 1431655765)) 2) 858993459 ≤ 2147483647 := ti_rg _
  refine zi_add hF.1 hF.2.1 dJ6_bitCount_0f7a4_22 ?_
  refine lv_istore_n (lv' := [(0, .int (iz ((ian (z - (ian (ius z 1) 1431655765)) 858993459) + (ian (ius (z - (ian (ius z 1) 1431655765)) 2) 858993459))))]) hF.1 hF.2.1 dJ6_bitCount_0f7a4_23 rfl hl (by decide) rfl (fun ls hl => ?_)
  refine lv_iload_n hF.1 hF.2.1 dJ6_bitCount_0f7a4_24 rfl (lv_at hl 0 rfl) ?_
  refine lv_iload_n hF.1 hF.2.1 dJ6_bitCount_0f7a4_25 rfl (lv_at hl 0 rfl) ?_
  refine zi_const hF.1 hF.2.1 dJ6_bitCount_0f7a4_26 ?_
  refine zi_iushr hF.1 hF.2.1 (a := (ian (z - (ian (ius z 1) 1431655765)) 858993459) + (ian (ius (z - (ian (ius z 1) 1431655765)) 2) 858993459)) (b := 4) dJ6_bitCount_0f7a4_27 ?_
  have q_6 : -2147483648 ≤ ius ((ian (z - (ian (ius z 1) 1431655765)) 858993459) + (ian (ius (z - (ian (ius z 1) 1431655765)) 2) 858993459)) 4 ∧ ius ((ian (z - (ian (ius z 1) 1431655765)) 858993459) + (ian (ius (z - (ian (ius z 1) 1431655765)) 2) 858993459)) 4 ≤ 2147483647 := ti_rg _
  refine zi_add hF.1 hF.2.1 dJ6_bitCount_0f7a4_28 ?_
  refine zi_ldcw hF mwc_3 (z := 252645135) (by decide) dJ6_bitCount_0f7a4_29 ?_
  refine zi_iand hF.1 hF.2.1 (a := ((ian (z - (ian (ius z 1) 1431655765)) 858993459) + (ian (ius (z - (ian (ius z 1) 1431655765)) 2) 858993459)) + (ius ((ian (z - (ian (ius z 1) 1431655765)) 858993459) + (ian (ius (z - (ian (ius z 1) 1431655765)) 2) 858993459)) 4)) (b := 252645135) dJ6_bitCount_0f7a4_32 ?_
  have q_7 : -2147483648 ≤ ian (((ian (z - (ian (ius z 1) 1431655765)) 858993459) + (ian (ius (z - (ian (ius z 1) 1431655765)) 2) 858993459)) + (ius ((ian (z - (ian (ius z 1) 1431655765)) 858993459) + (ian (ius (z - (ian (ius z 1) 1431655765)) 2) 858993459)) 4)) 252645135 ∧ ian (((ian (z - (ian (ius z 1) 1431655765)) 858993459) + (ian (ius (z - (ian (ius z 1) 1431655765)) 2) 858993459)) + (ius ((ian (z - (ian (ius z 1) 1431655765)) 858993459) + (ian (ius (z - (ian (ius z 1) 1431655765)) 2) 858993459)) 4)) 252645135 ≤ 2147483647 := ti_rg _
  refine lv_istore_n (lv' := [(0, .int (iz (ian (((ian (z - (ian (ius z 1) 1431655765)) 858993459) + (ian (ius (z - (ian (ius z 1) 1431655765)) 2) 858993459)) + (ius ((ian (z - (ian (ius z 1) 1431655765)) 858993459) + (ian (ius (z - (ian (ius z 1) 1431655765)) 2) 858993459)) 4)) 252645135)))]) hF.1 hF.2.1 dJ6_bitCount_0f7a4_33 rfl hl (by decide) rfl (fun ls hl => ?_)
  refine lv_iload_n hF.1 hF.2.1 dJ6_bitCount_0f7a4_34 rfl (lv_at hl 0 rfl) ?_
  refine lv_iload_n hF.1 hF.2.1 dJ6_bitCount_0f7a4_35 rfl (lv_at hl 0 rfl) ?_
  refine zi_bipush hF.1 hF.2.1 dJ6_bitCount_0f7a4_36 (by decide) ?_
  refine zi_iushr hF.1 hF.2.1 (a := ian (((ian (z - (ian (ius z 1) 1431655765)) 858993459) + (ian (ius (z - (ian (ius z 1) 1431655765)) 2) 858993459)) + (ius ((ian (z - (ian (ius z 1) 1431655765)) 858993459) + (ian (ius (z - (ian (ius z 1) 1431655765)) 2) 858993459)) 4)) 252645135) (b := 8) dJ6_bitCount_0f7a4_38 ?_
  have q_8 : -2147483648 ≤ ius (ian (((ian (z - (ian (ius z 1) 1431655765)) 858993459) + (ian (ius (z - (ian (ius z 1) 1431655765)) 2) 858993459)) + (ius ((ian (z - (ian (ius z 1) 1431655765)) 858993459) + (ian (ius (z - (ian (ius z 1) 1431655765)) 2) 858993459)) 4)) 252645135) 8 ∧ ius (ian (((ian (z - (ian (ius z 1) 1431655765)) 858993459) + (ian (ius (z - (ian (ius z 1) 1431655765)) 2) 858993459)) + (ius ((ian (z - (ian (ius z 1) 1431655765)) 858993459) + (ian (ius (z - (ian (ius z 1) 1431655765)) 2) 858993459)) 4)) 252645135) 8 ≤ 2147483647 := ti_rg _
  refine zi_add hF.1 hF.2.1 dJ6_bitCount_0f7a4_39 ?_
  refine lv_istore_n (lv' := [(0, .int (iz ((ian (((ian (z - (ian (ius z 1) 1431655765)) 858993459) + (ian (ius (z - (ian (ius z 1) 1431655765)) 2) 858993459)) + (ius ((ian (z - (ian (ius z 1) 1431655765)) 858993459) + (ian (ius (z - (ian (ius z 1) 1431655765)) 2) 858993459)) 4)) 252645135) + (ius (ian (((ian (z - (ian (ius z 1) 1431655765)) 858993459) + (ian (ius (z - (ian (ius z 1) 1431655765)) 2) 858993459)) + (ius ((ian (z - (ian (ius z 1) 1431655765)) 858993459) + (ian (ius (z - (ian (ius z 1) 1431655765)) 2) 858993459)) 4)) 252645135) 8))))]) hF.1 hF.2.1 dJ6_bitCount_0f7a4_40 rfl hl (by decide) rfl (fun ls hl => ?_)
  refine lv_iload_n hF.1 hF.2.1 dJ6_bitCount_0f7a4_41 rfl (lv_at hl 0 rfl) ?_
  refine lv_iload_n hF.1 hF.2.1 dJ6_bitCount_0f7a4_42 rfl (lv_at hl 0 rfl) ?_
  refine zi_bipush hF.1 hF.2.1 dJ6_bitCount_0f7a4_43 (by decide) ?_
  refine zi_iushr hF.1 hF.2.1 (a := (ian (((ian (z - (ian (ius z 1) 1431655765)) 858993459) + (ian (ius (z - (ian (ius z 1) 1431655765)) 2) 858993459)) + (ius ((ian (z - (ian (ius z 1) 1431655765)) 858993459) + (ian (ius (z - (ian (ius z 1) 1431655765)) 2) 858993459)) 4)) 252645135) + (ius (ian (((ian (z - (ian (ius z 1) 1431655765)) 858993459) + (ian (ius (z - (ian (ius z 1) 1431655765)) 2) 858993459)) + (ius ((ian (z - (ian (ius z 1) 1431655765)) 858993459) + (ian (ius (z - (ian (ius z 1) 1431655765)) 2) 858993459)) 4)) 252645135) 8)) (b := 16) dJ6_bitCount_0f7a4_45 ?_
  have q_9 : -2147483648 ≤ ius ((ian (((ian (z - (ian (ius z 1) 1431655765)) 858993459) + (ian (ius (z - (ian (ius z 1) 1431655765)) 2) 858993459)) + (ius ((ian (z - (ian (ius z 1) 1431655765)) 858993459) + (ian (ius (z - (ian (ius z 1) 1431655765)) 2) 858993459)) 4)) 252645135) + (ius (ian (((ian (z - (ian (ius z 1) 1431655765)) 858993459) + (ian (ius (z - (ian (ius z 1) 1431655765)) 2) 858993459)) + (ius ((ian (z - (ian (ius z 1) 1431655765)) 858993459) + (ian (ius (z - (ian (ius z 1) 1431655765)) 2) 858993459)) 4)) 252645135) 8)) 16 ∧ ius ((ian (((ian (z - (ian (ius z 1) 1431655765)) 858993459) + (ian (ius (z - (ian (ius z 1) 1431655765)) 2) 858993459)) + (ius ((ian (z - (ian (ius z 1) 1431655765)) 858993459) + (ian (ius (z - (ian (ius z 1) 1431655765)) 2) 858993459)) 4)) 252645135) + (ius (ian (((ian (z - (ian (ius z 1) 1431655765)) 858993459) + (ian (ius (z - (ian (ius z 1) 1431655765)) 2) 858993459)) + (ius ((ian (z - (ian (ius z 1) 1431655765)) 858993459) + (ian (ius (z - (ian (ius z 1) 1431655765)) 2) 858993459)) 4)) 252645135) 8)) 16 ≤ 2147483647 := ti_rg _
  refine zi_add hF.1 hF.2.1 dJ6_bitCount_0f7a4_46 ?_
  refine lv_istore_n (lv' := [(0, .int (iz (((ian (((ian (z - (ian (ius z 1) 1431655765)) 858993459) + (ian (ius (z - (ian (ius z 1) 1431655765)) 2) 858993459)) + (ius ((ian (z - (ian (ius z 1) 1431655765)) 858993459) + (ian (ius (z - (ian (ius z 1) 1431655765)) 2) 858993459)) 4)) 252645135) + (ius (ian (((ian (z - (ian (ius z 1) 1431655765)) 858993459) + (ian (ius (z - (ian (ius z 1) 1431655765)) 2) 858993459)) + (ius ((ian (z - (ian (ius z 1) 1431655765)) 858993459) + (ian (ius (z - (ian (ius z 1) 1431655765)) 2) 858993459)) 4)) 252645135) 8)) + (ius ((ian (((ian (z - (ian (ius z 1) 1431655765)) 858993459) + (ian (ius (z - (ian (ius z 1) 1431655765)) 2) 858993459)) + (ius ((ian (z - (ian (ius z 1) 1431655765)) 858993459) + (ian (ius (z - (ian (ius z 1) 1431655765)) 2) 858993459)) 4)) 252645135) + (ius (ian (((ian (z - (ian (ius z 1) 1431655765)) 858993459) + (ian (ius (z - (ian (ius z 1) 1431655765)) 2) 858993459)) + (ius ((ian (z - (ian (ius z 1) 1431655765)) 858993459) + (ian (ius (z - (ian (ius z 1) 1431655765)) 2) 858993459)) 4)) 252645135) 8)) 16))))]) hF.1 hF.2.1 dJ6_bitCount_0f7a4_47 rfl hl (by decide) rfl (fun ls hl => ?_)
  refine lv_iload_n hF.1 hF.2.1 dJ6_bitCount_0f7a4_48 rfl (lv_at hl 0 rfl) ?_
  refine zi_bipush hF.1 hF.2.1 dJ6_bitCount_0f7a4_49 (by decide) ?_
  refine zi_iand hF.1 hF.2.1 (a := ((ian (((ian (z - (ian (ius z 1) 1431655765)) 858993459) + (ian (ius (z - (ian (ius z 1) 1431655765)) 2) 858993459)) + (ius ((ian (z - (ian (ius z 1) 1431655765)) 858993459) + (ian (ius (z - (ian (ius z 1) 1431655765)) 2) 858993459)) 4)) 252645135) + (ius (ian (((ian (z - (ian (ius z 1) 1431655765)) 858993459) + (ian (ius (z - (ian (ius z 1) 1431655765)) 2) 858993459)) + (ius ((ian (z - (ian (ius z 1) 1431655765)) 858993459) + (ian (ius (z - (ian (ius z 1) 1431655765)) 2) 858993459)) 4)) 252645135) 8)) + (ius ((ian (((ian (z - (ian (ius z 1) 1431655765)) 858993459) + (ian (ius (z - (ian (ius z 1) 1431655765)) 2) 858993459)) + (ius ((ian (z - (ian (ius z 1) 1431655765)) 858993459) + (ian (ius (z - (ian (ius z 1) 1431655765)) 2) 858993459)) 4)) 252645135) + (ius (ian (((ian (z - (ian (ius z 1) 1431655765)) 858993459) + (ian (ius (z - (ian (ius z 1) 1431655765)) 2) 858993459)) + (ius ((ian (z - (ian (ius z 1) 1431655765)) 858993459) + (ian (ius (z - (ian (ius z 1) 1431655765)) 2) 858993459)) 4)) 252645135) 8)) 16)) (b := 63) dJ6_bitCount_0f7a4_51 ?_
  have q_10 : -2147483648 ≤ ian (((ian (((ian (z - (ian (ius z 1) 1431655765)) 858993459) + (ian (ius (z - (ian (ius z 1) 1431655765)) 2) 858993459)) + (ius ((ian (z - (ian (ius z 1) 1431655765)) 858993459) + (ian (ius (z - (ian (ius z 1) 1431655765)) 2) 858993459)) 4)) 252645135) + (ius (ian (((ian (z - (ian (ius z 1) 1431655765)) 858993459) + (ian (ius (z - (ian (ius z 1) 1431655765)) 2) 858993459)) + (ius ((ian (z - (ian (ius z 1) 1431655765)) 858993459) + (ian (ius (z - (ian (ius z 1) 1431655765)) 2) 858993459)) 4)) 252645135) 8)) + (ius ((ian (((ian (z - (ian (ius z 1) 1431655765)) 858993459) + (ian (ius (z - (ian (ius z 1) 1431655765)) 2) 858993459)) + (ius ((ian (z - (ian (ius z 1) 1431655765)) 858993459) + (ian (ius (z - (ian (ius z 1) 1431655765)) 2) 858993459)) 4)) 252645135) + (ius (ian (((ian (z - (ian (ius z 1) 1431655765)) 858993459) + (ian (ius (z - (ian (ius z 1) 1431655765)) 2) 858993459)) + (ius ((ian (z - (ian (ius z 1) 1431655765)) 858993459) + (ian (ius (z - (ian (ius z 1) 1431655765)) 2) 858993459)) 4)) 252645135) 8)) 16)) 63 ∧ ian (((ian (((ian (z - (ian (ius z 1) 1431655765)) 858993459) + (ian (ius (z - (ian (ius z 1) 1431655765)) 2) 858993459)) + (ius ((ian (z - (ian (ius z 1) 1431655765)) 858993459) + (ian (ius (z - (ian (ius z 1) 1431655765)) 2) 858993459)) 4)) 252645135) + (ius (ian (((ian (z - (ian (ius z 1) 1431655765)) 858993459) + (ian (ius (z - (ian (ius z 1) 1431655765)) 2) 858993459)) + (ius ((ian (z - (ian (ius z 1) 1431655765)) 858993459) + (ian (ius (z - (ian (ius z 1) 1431655765)) 2) 858993459)) 4)) 252645135) 8)) + (ius ((ian (((ian (z - (ian (ius z 1) 1431655765)) 858993459) + (ian (ius (z - (ian (ius z 1) 1431655765)) 2) 858993459)) + (ius ((ian (z - (ian (ius z 1) 1431655765)) 858993459) + (ian (ius (z - (ian (ius z 1) 1431655765)) 2) 858993459)) 4)) 252645135) + (ius (ian (((ian (z - (ian (ius z 1) 1431655765)) 858993459) + (ian (ius (z - (ian (ius z 1) 1431655765)) 2) 858993459)) + (ius ((ian (z - (ian (ius z 1) 1431655765)) 858993459) + (ian (ius (z - (ian (ius z 1) 1431655765)) 2) 858993459)) 4)) 252645135) 8)) 16)) 63 ≤ 2147483647 := ti_rg _
  exact z_reti (P := fun r _ => r = pcn z) (z := ian (((ian (((ian (z - (ian (ius z 1) 1431655765)) 858993459) + (ian (ius (z - (ian (ius z 1) 1431655765)) 2) 858993459)) + (ius ((ian (z - (ian (ius z 1) 1431655765)) 858993459) + (ian (ius (z - (ian (ius z 1) 1431655765)) 2) 858993459)) 4)) 252645135) + (ius (ian (((ian (z - (ian (ius z 1) 1431655765)) 858993459) + (ian (ius (z - (ian (ius z 1) 1431655765)) 2) 858993459)) + (ius ((ian (z - (ian (ius z 1) 1431655765)) 858993459) + (ian (ius (z - (ian (ius z 1) 1431655765)) 2) 858993459)) 4)) 252645135) 8)) + (ius ((ian (((ian (z - (ian (ius z 1) 1431655765)) 858993459) + (ian (ius (z - (ian (ius z 1) 1431655765)) 2) 858993459)) + (ius ((ian (z - (ian (ius z 1) 1431655765)) 858993459) + (ian (ius (z - (ian (ius z 1) 1431655765)) 2) 858993459)) 4)) 252645135) + (ius (ian (((ian (z - (ian (ius z 1) 1431655765)) 858993459) + (ian (ius (z - (ian (ius z 1) 1431655765)) 2) 858993459)) + (ius ((ian (z - (ian (ius z 1) 1431655765)) 858993459) + (ian (ius (z - (ian (ius z 1) 1431655765)) 2) 858993459)) 4)) 252645135) 8)) 16)) 63) (u := ()) (w := fun _ => gC c h σ κ ω) hF hr hlocks hP hS (rfl) (rfl) dJ6_bitCount_0f7a4_52

set_option maxRecDepth 100000 in
set_option maxHeartbeats 4000000 in
theorem c_X3_hasPairAround (l : Launch) (h : Nat → Nat) (D : va_G) (c : Nat → ClassId) (σ κ : Nat → Nat → Int) (ω : Nat × (Nat → Int32) × Int32) (hinj : ∀ i j, i < 32 → j < 32 → h i = h j → i = j) (hG : GI σ) (z : Int) (mc : Int) (hmc : 1 ≤ mc ∧ mc ≤ 30) :
    zMi (S := Unit) l yX3_hasPairAround cX3_hasPairAround 3 (some .boolean) 1 21 [.int (iz (z)), .int (iz (mc))] 32 h D (gT c) (gC c h (σ) (κ) (ω)) (fun _ => gC c h σ κ ω) (fun r _ => r = b2i (pr z mc)) := by
  refine zM_of (by decide) (Nat.le_of_ble_eq_true rfl) ?_
  intro p e s m below meth cd ls ⟨hF, hr, hlocks, hK⟩ hP hl
  have hz : zD (zA 32 h s.heap.size) 32 h := zD.self hinj s.heap.size
  have hA : ∀ q, s.heap.size ≤ q → zA 32 h s.heap.size q := zA_new
  generalize zA 32 h s.heap.size = A at hz hA ⊢
  have hS : va_S A s.heap s.heap [] := va_S.rf
  have hl : lv_has ls 3 [(0, .int (iz (z))), (1, .int (iz (mc)))] := hl
  refine zi_const hF.1 hF.2.1 dX3_hasPairAround_0 ?_
  refine lv_istore_n (lv' := [(2, .int (iz (1))), (0, .int (iz (z))), (1, .int (iz (mc)))]) hF.1 hF.2.1 dX3_hasPairAround_1 rfl hl (by decide) rfl (fun ls hl => ?_)
  have nv_2 : (1 ≤ (1) ∧ (1) ≤ 33) ∧ (∀ b : Nat, 1 ≤ b → b < (1) → ¬ (hc z (mc - b) ∧ hc z (mc + b))) := ⟨by omega, fun b q1 q2 => absurd q1 (by omega)⟩
  refine z_loop (V := Nat) (nL := 3) (wd := fun v_1 => gC c h (σ) (κ) (ω)) (lv := fun v_1 => [(0, .int (iz (z))), (1, .int (iz (mc))), (2, .int (iz ((v_1 : Int))))]) (stk := fun v_1 => []) (mu := fun v_1 => 40 - v_1) (inv := fun v_1 => (1 ≤ v_1 ∧ v_1 ≤ 33) ∧ (∀ b : Nat, 1 ≤ b → b < v_1 → ¬ (hc z (mc - b) ∧ hc z (mc + b)))) ?_ 1 nv_2 hP hS (lv_sub hl [1, 2, 0] rfl)
  intro a hv ih_2 H locs ls hP hS hl
  have hP : zB 32 h D (gC c h (σ) (κ) (ω)) H := hP
  have hl : lv_has ls 3 [(0, .int (iz (z))), (1, .int (iz (mc))), (2, .int (iz ((a : Int))))] := hl
  obtain ⟨ha, hv1⟩ : (1 ≤ a ∧ a ≤ 33) ∧ (∀ b : Nat, 1 ≤ b → b < a → ¬ (hc z (mc - b) ∧ hc z (mc + b))) := hv
  refine lv_iload_n hF.1 hF.2.1 dX3_hasPairAround_2 rfl (lv_at hl 2 rfl) ?_
  refine lv_iload_n hF.1 hF.2.1 dX3_hasPairAround_3 rfl (lv_at hl 1 rfl) ?_
  refine zi_icmp_gt (tgt := 43) hF.1 hF.2.1 (a := (a : Int)) (b := mc) dX3_hasPairAround_4 (by decide) (by omega) (by omega) (fun c_4 => ?_) (fun c_4 => ?_)
  · skip
    refine zi_const hF.1 hF.2.1 dX3_hasPairAround_43 ?_
    exact z_reti (P := fun r _ => r = b2i (pr z mc)) (z := 0) (u := ()) (w := fun _ => gC c h σ κ ω) hF hr hlocks hP hS ((iz_nar_z (by first | omega | exact b2i_rg)).1) ((b2i_f (by rintro ⟨b, q1, q2, q3⟩; by_cases q : b < a; exact hv1 b q1 q ⟨q2, q3⟩; unfold hc at q2 q3; omega)).symm) dX3_hasPairAround_44
  · skip
    refine lv_iload_n hF.1 hF.2.1 dX3_hasPairAround_7 rfl (lv_at hl 1 rfl) ?_
    refine lv_iload_n hF.1 hF.2.1 dX3_hasPairAround_8 rfl (lv_at hl 2 rfl) ?_
    refine zi_add hF.1 hF.2.1 dX3_hasPairAround_9 ?_
    refine zi_bipush hF.1 hF.2.1 dX3_hasPairAround_10 (by decide) ?_
    refine zi_icmp_ge (tgt := 43) hF.1 hF.2.1 (a := mc + ((a : Int))) (b := 32) dX3_hasPairAround_12 (by decide) (by omega) (by omega) (fun c_12 => ?_) (fun c_12 => ?_)
    · skip
      refine zi_const hF.1 hF.2.1 dX3_hasPairAround_43 ?_
      exact z_reti (P := fun r _ => r = b2i (pr z mc)) (z := 0) (u := ()) (w := fun _ => gC c h σ κ ω) hF hr hlocks hP hS ((iz_nar_z (by first | omega | exact b2i_rg)).1) ((b2i_f (by rintro ⟨b, q1, q2, q3⟩; by_cases q : b < a; exact hv1 b q1 q ⟨q2, q3⟩; unfold hc at q2 q3; omega)).symm) dX3_hasPairAround_44
    · skip
      refine lv_iload_n hF.1 hF.2.1 dX3_hasPairAround_15 rfl (lv_at hl 0 rfl) ?_
      refine lv_iload_n hF.1 hF.2.1 dX3_hasPairAround_16 rfl (lv_at hl 1 rfl) ?_
      refine lv_iload_n hF.1 hF.2.1 dX3_hasPairAround_17 rfl (lv_at hl 2 rfl) ?_
      refine zi_sub hF.1 hF.2.1 dX3_hasPairAround_18 ?_
      refine z_ci (S := Unit) (w := fun _ => gC c h σ κ ω) (P := fun r _ => r = b2i (hc z (mc - ((a : Int))))) (z_runS (rm := { frames := 0, cells := 0, slots := 0, locals := 0 }) hF hK hP (c_X3_hasChannel l h D c σ κ ω hinj hG z (mc - ((a : Int))) (by omega) _) (gIn_S mw_120 mw_121 mw_86 mw_115) rfl rfl ⟨rfl, by decide, by decide, rfl⟩ ⟨Nat.le_of_ble_eq_true rfl, Nat.le_of_ble_eq_true rfl⟩ (As := [.int (iz (z)), .int (iz (mc - ((a : Int))))]) (rest := []) rfl hl.1 rfl (Nat.le_of_ble_eq_true rfl) dX3_hasPairAround_19 ⟨Nat.le_refl _, Nat.le_refl _⟩) hz hA hS (fun z_3 u_4 H locs hp hP hS => ?_)
      obtain rfl : z_3 = b2i (hc z (mc - ((a : Int)))) := hp
      refine zi_ifb_eq (tgt := 37) hF.1 hF.2.1 (P := hc z (mc - ((a : Int)))) dX3_hasPairAround_22 (by decide) (fun c_22 => ?_) (fun c_22 => ?_)
      · skip
        refine lv_iinc (v := iz (((a + 1 : Nat) : Int))) (lv' := [(2, .int (iz (((a + 1 : Nat) : Int)))), (0, .int (iz (z))), (1, .int (iz (mc)))]) hF.1 hF.2.1 dX3_hasPairAround_37 hl (k := 2) rfl ((iz_add _ _).trans (congrArg iz (by omega))) (by decide) rfl (fun ls hl => ?_)
        refine lv_goto (tgt := 2) hF.1 hF.2.1 dX3_hasPairAround_40 (by decide) ?_
        have nv_5 : (1 ≤ ((a + 1)) ∧ ((a + 1)) ≤ 33) ∧ (∀ b : Nat, 1 ≤ b → b < ((a + 1)) → ¬ (hc z (mc - b) ∧ hc z (mc + b))) := ⟨by omega, fun b q1 q2 => by rcases Nat.lt_or_ge b a with q | q; exact hv1 b q1 q; rw [show b = a by omega]; first | exact fun q => c_22 q.1 | exact fun q => c_32 q.2⟩
        exact ih_2 (a + 1) nv_5 (by show 40 - ((a + 1)) < 40 - a; omega) _ _ _ hP hS (lv_sub hl [1, 2, 0] rfl)
      · skip
        refine lv_iload_n hF.1 hF.2.1 dX3_hasPairAround_25 rfl (lv_at hl 0 rfl) ?_
        refine lv_iload_n hF.1 hF.2.1 dX3_hasPairAround_26 rfl (lv_at hl 1 rfl) ?_
        refine lv_iload_n hF.1 hF.2.1 dX3_hasPairAround_27 rfl (lv_at hl 2 rfl) ?_
        refine zi_add hF.1 hF.2.1 dX3_hasPairAround_28 ?_
        refine z_ci (S := Unit) (w := fun _ => gC c h σ κ ω) (P := fun r _ => r = b2i (hc z (mc + ((a : Int))))) (z_runS (rm := { frames := 0, cells := 0, slots := 0, locals := 0 }) hF hK hP (c_X3_hasChannel l h D c σ κ ω hinj hG z (mc + ((a : Int))) (by omega) _) (gIn_S mw_120 mw_121 mw_86 mw_115) rfl rfl ⟨rfl, by decide, by decide, rfl⟩ ⟨Nat.le_of_ble_eq_true rfl, Nat.le_of_ble_eq_true rfl⟩ (As := [.int (iz (z)), .int (iz (mc + ((a : Int))))]) (rest := []) rfl hl.1 rfl (Nat.le_of_ble_eq_true rfl) dX3_hasPairAround_29 ⟨Nat.le_refl _, Nat.le_refl _⟩) hz hA hS (fun z_6 u_7 H locs hp hP hS => ?_)
        obtain rfl : z_6 = b2i (hc z (mc + ((a : Int)))) := hp
        refine zi_ifb_eq (tgt := 37) hF.1 hF.2.1 (P := hc z (mc + ((a : Int)))) dX3_hasPairAround_32 (by decide) (fun c_32 => ?_) (fun c_32 => ?_)
        · skip
          refine lv_iinc (v := iz (((a + 1 : Nat) : Int))) (lv' := [(2, .int (iz (((a + 1 : Nat) : Int)))), (0, .int (iz (z))), (1, .int (iz (mc)))]) hF.1 hF.2.1 dX3_hasPairAround_37 hl (k := 2) rfl ((iz_add _ _).trans (congrArg iz (by omega))) (by decide) rfl (fun ls hl => ?_)
          refine lv_goto (tgt := 2) hF.1 hF.2.1 dX3_hasPairAround_40 (by decide) ?_
          have nv_8 : (1 ≤ ((a + 1)) ∧ ((a + 1)) ≤ 33) ∧ (∀ b : Nat, 1 ≤ b → b < ((a + 1)) → ¬ (hc z (mc - b) ∧ hc z (mc + b))) := ⟨by omega, fun b q1 q2 => by rcases Nat.lt_or_ge b a with q | q; exact hv1 b q1 q; rw [show b = a by omega]; first | exact fun q => c_22 q.1 | exact fun q => c_32 q.2⟩
          exact ih_2 (a + 1) nv_8 (by show 40 - ((a + 1)) < 40 - a; omega) _ _ _ hP hS (lv_sub hl [1, 2, 0] rfl)
        · skip
          refine zi_const hF.1 hF.2.1 dX3_hasPairAround_35 ?_
          exact z_reti (P := fun r _ => r = b2i (pr z mc)) (z := 1) (u := ()) (w := fun _ => gC c h σ κ ω) hF hr hlocks hP hS ((iz_nar_z (by first | omega | exact b2i_rg)).1) ((b2i_t ⟨a, by omega, c_22, c_32⟩).symm) dX3_hasPairAround_36

set_option maxRecDepth 100000 in
set_option maxHeartbeats 4000000 in
theorem c_X3_hasMiddleChannel (l : Launch) (h : Nat → Nat) (D : va_G) (c : Nat → ClassId) (σ κ : Nat → Nat → Int) (ω : Nat × (Nat → Int32) × Int32) (hinj : ∀ i j, i < 32 → j < 32 → h i = h j → i = j) (hG : GI σ) (z : Int) :
    zMi (S := Unit) l yX3_hasMiddleChannel cX3_hasMiddleChannel 2 (some .boolean) 2 43 [.int (iz (z))] 32 h D (gT c) (gC c h (σ) (κ) (ω)) (fun _ => gC c h σ κ ω) (fun r _ => r = b2i (mid z)) := by
  refine zM_of (by decide) (Nat.le_of_ble_eq_true rfl) ?_
  intro p e s m below meth cd ls ⟨hF, hr, hlocks, hK⟩ hP hl
  have hz : zD (zA 32 h s.heap.size) 32 h := zD.self hinj s.heap.size
  have hA : ∀ q, s.heap.size ≤ q → zA 32 h s.heap.size q := zA_new
  generalize zA 32 h s.heap.size = A at hz hA ⊢
  have hS : va_S A s.heap s.heap [] := va_S.rf
  have hl : lv_has ls 2 [(0, .int (iz (z)))] := hl
  refine lv_iload_n hF.1 hF.2.1 dX3_hasMiddleChannel_0 rfl (lv_at hl 0 rfl) ?_
  refine z_ci (S := Unit) (w := fun _ => gC c h σ κ ω) (P := fun r _ => r = pcn z) (z_runSO (rm := { frames := 0, cells := 0, slots := 0, locals := 0 }) hF hK hP (c_bitCount l h D c σ κ ω hinj hG z _) mw_135 mw_136 mw_137 mw_129 rfl rfl ⟨by decide, by decide, rfl⟩ ⟨Nat.le_of_ble_eq_true rfl, Nat.le_of_ble_eq_true rfl⟩ (As := [.int (iz (z))]) (rest := []) rfl hl.1 rfl (Nat.le_of_ble_eq_true rfl) dX3_hasMiddleChannel_1 ⟨Nat.le_refl _, Nat.le_refl _⟩) hz hA hS (fun z_1 u_2 H locs hp hP hS => ?_)
  obtain rfl : z_1 = pcn z := hp
  have q_3 : -2147483648 ≤ pcn z ∧ pcn z ≤ 2147483647 := ti_rg _
  refine zi_const hF.1 hF.2.1 dX3_hasMiddleChannel_4 ?_
  refine zi_icmp_ge (tgt := 10) hF.1 hF.2.1 (a := pcn z) (b := 3) dX3_hasMiddleChannel_5 (by decide) (by omega) (by omega) (fun c_5 => ?_) (fun c_5 => ?_)
  · skip
    refine zi_const hF.1 hF.2.1 dX3_hasMiddleChannel_10 ?_
    refine lv_istore_n (lv' := [(1, .int (iz (1))), (0, .int (iz (z)))]) hF.1 hF.2.1 dX3_hasMiddleChannel_11 rfl hl (by decide) rfl (fun ls hl => ?_)
    have nv_5 : (1 ≤ (1) ∧ (1) ≤ 31) ∧ (∀ b : Nat, 1 ≤ b → b < (1) → ¬ (hc z b ∧ pr z b)) := ⟨by omega, fun b q1 q2 => absurd q1 (by omega)⟩
    refine z_loop (V := Nat) (nL := 2) (wd := fun v_4 => gC c h (σ) (κ) (ω)) (lv := fun v_4 => [(0, .int (iz (z))), (1, .int (iz ((v_4 : Int))))]) (stk := fun v_4 => []) (mu := fun v_4 => 40 - v_4) (inv := fun v_4 => (1 ≤ v_4 ∧ v_4 ≤ 31) ∧ (∀ b : Nat, 1 ≤ b → b < v_4 → ¬ (hc z b ∧ pr z b))) ?_ 1 nv_5 hP hS (lv_sub hl [1, 0] rfl)
    intro a hv ih_12 H locs ls hP hS hl
    have hP : zB 32 h D (gC c h (σ) (κ) (ω)) H := hP
    have hl : lv_has ls 2 [(0, .int (iz (z))), (1, .int (iz ((a : Int))))] := hl
    obtain ⟨ha, hv1⟩ : (1 ≤ a ∧ a ≤ 31) ∧ (∀ b : Nat, 1 ≤ b → b < a → ¬ (hc z b ∧ pr z b)) := hv
    refine lv_iload_n hF.1 hF.2.1 dX3_hasMiddleChannel_12 rfl (lv_at hl 1 rfl) ?_
    refine zi_bipush hF.1 hF.2.1 dX3_hasMiddleChannel_13 (by decide) ?_
    refine zi_icmp_ge (tgt := 42) hF.1 hF.2.1 (a := (a : Int)) (b := 31) dX3_hasMiddleChannel_15 (by decide) (by omega) (by omega) (fun c_15 => ?_) (fun c_15 => ?_)
    · skip
      refine zi_const hF.1 hF.2.1 dX3_hasMiddleChannel_42 ?_
      exact z_reti (P := fun r _ => r = b2i (mid z)) (z := 0) (u := ()) (w := fun _ => gC c h σ κ ω) hF hr hlocks hP hS ((iz_nar_z (by first | omega | exact b2i_rg)).1) ((b2i_f (by rintro ⟨b, q1, q2, q3, q4⟩; exact hv1 b q1 (by omega) ⟨q3, q4⟩)).symm) dX3_hasMiddleChannel_43
    · skip
      refine lv_iload_n hF.1 hF.2.1 dX3_hasMiddleChannel_18 rfl (lv_at hl 0 rfl) ?_
      refine lv_iload_n hF.1 hF.2.1 dX3_hasMiddleChannel_19 rfl (lv_at hl 1 rfl) ?_
      refine z_ci (S := Unit) (w := fun _ => gC c h σ κ ω) (P := fun r _ => r = b2i (hc z ((a : Int)))) (z_runS (rm := { frames := 0, cells := 0, slots := 0, locals := 0 }) hF hK hP (c_X3_hasChannel l h D c σ κ ω hinj hG z ((a : Int)) (by omega) _) (gIn_S mw_120 mw_121 mw_86 mw_115) rfl rfl ⟨rfl, by decide, by decide, rfl⟩ ⟨Nat.le_of_ble_eq_true rfl, Nat.le_of_ble_eq_true rfl⟩ (As := [.int (iz (z)), .int (iz ((a : Int)))]) (rest := []) rfl hl.1 rfl (Nat.le_of_ble_eq_true rfl) dX3_hasMiddleChannel_20 ⟨Nat.le_refl _, Nat.le_refl _⟩) hz hA hS (fun z_6 u_7 H locs hp hP hS => ?_)
      obtain rfl : z_6 = b2i (hc z ((a : Int))) := hp
      refine zi_ifb_eq (tgt := 36) hF.1 hF.2.1 (P := hc z ((a : Int))) dX3_hasMiddleChannel_23 (by decide) (fun c_23 => ?_) (fun c_23 => ?_)
      · skip
        refine lv_iinc (v := iz (((a + 1 : Nat) : Int))) (lv' := [(1, .int (iz (((a + 1 : Nat) : Int)))), (0, .int (iz (z)))]) hF.1 hF.2.1 dX3_hasMiddleChannel_36 hl (k := 1) rfl ((iz_add _ _).trans (congrArg iz (by omega))) (by decide) rfl (fun ls hl => ?_)
        refine lv_goto (tgt := 12) hF.1 hF.2.1 dX3_hasMiddleChannel_39 (by decide) ?_
        have nv_8 : (1 ≤ ((a + 1)) ∧ ((a + 1)) ≤ 31) ∧ (∀ b : Nat, 1 ≤ b → b < ((a + 1)) → ¬ (hc z b ∧ pr z b)) := ⟨by omega, fun b q1 q2 => by rcases Nat.lt_or_ge b a with q | q; exact hv1 b q1 q; rw [show b = a by omega]; first | exact fun q => c_23 q.1 | exact fun q => c_31 q.2⟩
        exact ih_12 (a + 1) nv_8 (by show 40 - ((a + 1)) < 40 - a; omega) _ _ _ hP hS (lv_sub hl [1, 0] rfl)
      · skip
        refine lv_iload_n hF.1 hF.2.1 dX3_hasMiddleChannel_26 rfl (lv_at hl 0 rfl) ?_
        refine lv_iload_n hF.1 hF.2.1 dX3_hasMiddleChannel_27 rfl (lv_at hl 1 rfl) ?_
        refine z_ci (S := Unit) (w := fun _ => gC c h σ κ ω) (P := fun r _ => r = b2i (pr z ((a : Int)))) (z_runS (rm := { frames := 1, cells := 0, slots := 0, locals := 21 }) hF hK hP (c_X3_hasPairAround l h D c σ κ ω hinj hG z ((a : Int)) (by omega) _) (gIn_S mw_138 mw_139 mw_86 mw_133) rfl rfl ⟨rfl, by decide, by decide, rfl⟩ ⟨Nat.le_of_ble_eq_true rfl, Nat.le_of_ble_eq_true rfl⟩ (As := [.int (iz (z)), .int (iz ((a : Int)))]) (rest := []) rfl hl.1 rfl (Nat.le_of_ble_eq_true rfl) dX3_hasMiddleChannel_28 ⟨Nat.le_refl _, Nat.le_refl _⟩) hz hA hS (fun z_9 u_10 H locs hp hP hS => ?_)
        obtain rfl : z_9 = b2i (pr z ((a : Int))) := hp
        refine zi_ifb_eq (tgt := 36) hF.1 hF.2.1 (P := pr z ((a : Int))) dX3_hasMiddleChannel_31 (by decide) (fun c_31 => ?_) (fun c_31 => ?_)
        · skip
          refine lv_iinc (v := iz (((a + 1 : Nat) : Int))) (lv' := [(1, .int (iz (((a + 1 : Nat) : Int)))), (0, .int (iz (z)))]) hF.1 hF.2.1 dX3_hasMiddleChannel_36 hl (k := 1) rfl ((iz_add _ _).trans (congrArg iz (by omega))) (by decide) rfl (fun ls hl => ?_)
          refine lv_goto (tgt := 12) hF.1 hF.2.1 dX3_hasMiddleChannel_39 (by decide) ?_
          have nv_11 : (1 ≤ ((a + 1)) ∧ ((a + 1)) ≤ 31) ∧ (∀ b : Nat, 1 ≤ b → b < ((a + 1)) → ¬ (hc z b ∧ pr z b)) := ⟨by omega, fun b q1 q2 => by rcases Nat.lt_or_ge b a with q | q; exact hv1 b q1 q; rw [show b = a by omega]; first | exact fun q => c_23 q.1 | exact fun q => c_31 q.2⟩
          exact ih_12 (a + 1) nv_11 (by show 40 - ((a + 1)) < 40 - a; omega) _ _ _ hP hS (lv_sub hl [1, 0] rfl)
        · skip
          refine zi_const hF.1 hF.2.1 dX3_hasMiddleChannel_34 ?_
          exact z_reti (P := fun r _ => r = b2i (mid z)) (z := 1) (u := ()) (w := fun _ => gC c h σ κ ω) hF hr hlocks hP hS ((iz_nar_z (by first | omega | exact b2i_rg)).1) ((b2i_t ⟨a, by omega, by omega, c_23, c_31⟩).symm) dX3_hasMiddleChannel_35
  · skip
    refine zi_const hF.1 hF.2.1 dX3_hasMiddleChannel_8 ?_
    exact z_reti (P := fun r _ => r = b2i (mid z)) (z := 0) (u := ()) (w := fun _ => gC c h σ κ ω) hF hr hlocks hP hS ((iz_nar_z (by first | omega | exact b2i_rg)).1) ((b2i_f (fun q => by have := pcn_mid q; omega)).symm) dX3_hasMiddleChannel_9
