/-! the word as a text: its bytes copied, a text made of them -/
def cpB (f : Nat → Int32) (m : Nat) : Nat → Int32 := va_cpy f (fun _ => 0) 0 0 m
section ZTOP
variable {p : Program} {l : Launch} {e : Env} {R : Room} {s : State} {m : MethodId} {args : Array Value} {below : List Frame} {meth : Method} {c : Code} {H : Heap} {locs : List Loc} {cells slots : Nat} {Q : State → Prop} {pc : Nat} {ls : Array Slot} {rest : List Value}
theorem W_top {b b' : Nat} (e1 : b = b') (k : W p l e R s m args below meth c H locs cells slots Q (F0 m pc ls (.ref b' :: rest))) : W p l e R s m args below meth c H locs cells slots Q (F0 m pc ls (.ref b :: rest)) := by
  subst e1; exact k
theorem W_top2 {b b' : Nat} {v : Value} (e1 : b = b') (k : W p l e R s m args below meth c H locs cells slots Q (F0 m pc ls (v :: .ref b' :: rest))) : W p l e R s m args below meth c H locs cells slots Q (F0 m pc ls (v :: .ref b :: rest)) := by
  subst e1; exact k
theorem W_top3 {b b' : Nat} {v v' : Value} (e1 : b = b') (k : W p l e R s m args below meth c H locs cells slots Q (F0 m pc ls (v :: v' :: .ref b' :: rest))) : W p l e R s m args below meth c H locs cells slots Q (F0 m pc ls (v :: v' :: .ref b :: rest)) := by
  subst e1; exact k
end ZTOP
theorem cpB_at {f : Nat → Int32} {m j : Nat} (hj : j < m) : cpB f m j = f j := by
  unfold cpB va_cpy
  rw [if_pos ⟨Nat.zero_le _, by omega⟩]
  simp
theorem na_copy : Cond.native arraycopyName ∈ UW := UW_mem (by decide +kernel) (by decide +kernel)
theorem se_lengthO : Cond.selects RJ4 yJ5_length_8abf5 yJ4_length_8abf5 ∈ UW := UW_mem (by decide +kernel) (by decide +kernel)
set_option maxRecDepth 100000 in
set_option maxHeartbeats 4000000 in
theorem cg_checkLength (l : Launch) (n : Nat) (h : Nat → Nat) (D : va_G) (c : Nat → ClassId) (g : Nat → va_E) (hinj : ∀ i j, i < n → j < n → h i = h j → i = j) (a b : Int) (hab : 0 ≤ a ∧ a ≤ b ∧ b ≤ 1000) :
    zMv (S := Unit) l yJ7_checkLength_df160 cJ7_checkLength_df160 2 none 0 0 [.int (iz a), .int (iz b)] n h D (gT c) g (fun _ => g) (fun _ => True) := by
  refine zM_of (by decide) (Nat.le_of_ble_eq_true rfl) ?_
  intro p e s m below meth cd ls ⟨hF, hr, hlocks, hK⟩ hP hl
  have hz : zD (zA n h s.heap.size) n h := zD.self hinj s.heap.size
  have hA : ∀ q, s.heap.size ≤ q → zA n h s.heap.size q := zA_new
  generalize zA n h s.heap.size = A at hz hA ⊢
  have hS : va_S A s.heap s.heap [] := va_S.rf
  have hl : lv_has ls 2 [(0, .int (iz a)), (1, .int (iz b))] := hl
  refine lv_iload_n hF.1 hF.2.1 dJ7_checkLength_df160_0 rfl (lv_at hl 1 rfl) ?_
  refine lv_iload_n hF.1 hF.2.1 dJ7_checkLength_df160_1 rfl (lv_at hl 0 rfl) ?_
  refine zi_icmp_ge (tgt := 37) hF.1 hF.2.1 (a := b) (b := a) dJ7_checkLength_df160_2 (by decide) (by omega) (by omega) (fun c_2 => ?_) (fun c_2 => by omega)
  exact z_retv (P := fun _ => True) (u := ()) (w := fun _ => g) hF hr hlocks hP hS trivial dJ7_checkLength_df160_37

set_option maxRecDepth 100000 in
set_option maxHeartbeats 4000000 in
theorem cg_copyOfRangeByte (l : Launch) (n : Nat) (h : Nat → Nat) (D : va_G) (c : Nat → ClassId) (g : Nat → va_E) (hinj : ∀ i j, i < n → j < n → h i = h j → i = j) (k : Nat) (hk : k < n) (f : Nat → Int32) (hg : g k = .inl (c 1, 16, .inl f)) (m9 : Nat) (hm : m9 ≤ 6) (hfit : ∀ j, j < m9 → fits .byte (.int (f j)) = true) :
    zNr (S := Unit) l yJ7_copyOfRangeByte_39247 cJ7_copyOfRangeByte_39247 5 (some (.array .byte)) 1 40 1 [.ref (h k), .int (iz 0), .int (iz m9)] n h D (gT c) g (n + 1) (fun (_ : Unit) ra => hx h n ra) (fun (_ : Unit) _ => gx g n (.inl (c 1, m9, .inl (cpB f m9)))) (fun _ => True) := by
  refine zSM_of (by decide) (Nat.le_of_ble_eq_true rfl) ?_
  intro p e s m below meth cd ls ⟨hF, hr, hlocks, hK, hX⟩ hP hl
  have hz : zD (zA n h s.heap.size) n h := zD.self hinj s.heap.size
  have hA : ∀ q, s.heap.size ≤ q → zA n h s.heap.size q := zA_new
  generalize zA n h s.heap.size = A at hz hA hX ⊢
  have hS : va_S A s.heap s.heap [] := va_S.rf
  have hl : lv_has ls 5 [(0, .ref (h k)), (1, .int (iz 0)), (2, .int (iz m9))] := hl
  refine lv_iload_n hF.1 hF.2.1 dJ7_copyOfRangeByte_39247_0 rfl (lv_at hl 1 rfl) ?_
  refine lv_iload_n hF.1 hF.2.1 dJ7_copyOfRangeByte_39247_1 rfl (lv_at hl 2 rfl) ?_
  refine z_cv (S := Unit) (w := fun _ => g) (P := fun _ => True) (z_runSO (na := 2) (rm := { frames := 0, cells := 0, slots := 0, locals := 0 }) hF hK hP (cg_checkLength l n h D c g hinj 0 m9 (by omega) _) mw_330 mw_331 mw_76 mw_328 rfl rfl ⟨by decide, by decide, rfl⟩ ⟨(Nat.le_of_ble_eq_true rfl), (Nat.le_of_ble_eq_true rfl)⟩ (As := [.int (iz 0), .int (iz m9)]) (rest := []) rfl hl.1 rfl (Nat.le_of_ble_eq_true rfl) dJ7_copyOfRangeByte_39247_2 ⟨(Nat.le_of_ble_eq_true rfl), (Nat.le_of_ble_eq_true rfl)⟩) hz hA hS (fun u_2 H locs hp hP hS => ?_)
  refine lv_iload_n hF.1 hF.2.1 dJ7_copyOfRangeByte_39247_5 rfl (lv_at hl 2 rfl) ?_
  refine lv_iload_n hF.1 hF.2.1 dJ7_copyOfRangeByte_39247_6 rfl (lv_at hl 1 rfl) ?_
  refine zi_sub hF.1 hF.2.1 dJ7_copyOfRangeByte_39247_7 ?_
  rw [show (m9 : Int) - 0 = m9 from Int.sub_zero _]
  refine lv_istore_n (lv' := [(3, .int (iz m9)), (0, .ref (h k)), (1, .int (iz 0)), (2, .int (iz m9))]) hF.1 hF.2.1 dJ7_copyOfRangeByte_39247_8 rfl hl (by decide) rfl (fun ls hl => ?_)
  refine lv_iload_n hF.1 hF.2.1 dJ7_copyOfRangeByte_39247_9 rfl (lv_at hl 0 rfl) ?_
  refine z_newa hF hK hz hA hP hS (atype := .byte) mw_37 rfl 1 rfl (N' := m9) (fun cA => rfl) rfl (by omega) (by show m9 * 1 ≤ 536870912; omega) (Nat.le_of_ble_eq_true rfl) (by show 0 + m9 ≤ 6; omega) dJ7_copyOfRangeByte_39247_10 (fun q H hP hz1 hS => ?_)
  refine lv_astore (lv' := [(4, .ref q), (3, .int (iz m9)), (0, .ref (h k)), (1, .int (iz 0)), (2, .int (iz m9))]) hF.1 hF.2.1 dJ7_copyOfRangeByte_39247_12 hl (by decide) rfl (fun ls hl => ?_)
  refine lv_aload_n hF.1 hF.2.1 dJ7_copyOfRangeByte_39247_14 rfl (lv_at hl 2 rfl) ?_
  refine lv_iload_n hF.1 hF.2.1 dJ7_copyOfRangeByte_39247_15 rfl (lv_at hl 3 rfl) ?_
  refine lv_aload hF.1 hF.2.1 dJ7_copyOfRangeByte_39247_16 (lv_at hl 0 rfl) ?_
  refine zi_const hF.1 hF.2.1 dJ7_copyOfRangeByte_39247_18 ?_
  refine lv_aload_n hF.1 hF.2.1 dJ7_copyOfRangeByte_39247_19 rfl (lv_at hl 2 rfl) ?_
  have hkn : k ≠ n := by omega
  have hgk : gx g n (.inl (c 1, m9, .inl fun _ => 0)) k = .inl (c 1, 16, .inl f) := by rw [gx_ne hkn, hg]
  have ehk : hx h n q k = h k := hx_ne hkn
  refine W_top ehk.symm ?_
  refine z_alen hF hK hP (k := k) (by omega) hgk 1 rfl (z := 16) rfl dJ7_copyOfRangeByte_39247_20 ?_
  refine lv_iload_n hF.1 hF.2.1 dJ7_copyOfRangeByte_39247_21 rfl (lv_at hl 3 rfl) ?_
  refine zi_sub hF.1 hF.2.1 dJ7_copyOfRangeByte_39247_22 ?_
  refine lv_iload_n hF.1 hF.2.1 dJ7_copyOfRangeByte_39247_23 rfl (lv_at hl 1 rfl) ?_
  refine zi_min hF hl.1 mw_216 mw_16 mw_17 mw_18 (Nat.le_of_ble_eq_true rfl) (Nat.le_of_ble_eq_true rfl) (Nat.le_of_ble_eq_true rfl) (by show 0 + m9 ≤ 6; omega) (a := 16 - 0) (b := (m9 : Int)) (by omega) (by omega) dJ7_copyOfRangeByte_39247_24 ?_
  rw [show min (16 - 0) (m9 : Int) = m9 from by omega]
  have cl0 : (iz 0).toNatClampNeg = 0 := by rw [iz_clamp (by omega)]; rfl
  have clm : (iz (m9 : Int)).toNatClampNeg = m9 := by rw [iz_clamp (by omega)]; rfl
  have nn : ∀ z : Int, 0 ≤ z → z ≤ 1000 → ¬ iz z < 0 := fun z h1 h2 q => by have := (iz_lt (a := z) (b := 0) (by omega) (by omega)).mp q; omega
  refine va_copyi hF.1 hF.2.1 (hF.2.2.1.trans hl.1.symm) hF.2.2.2.1 (hF.2.2.2.2 _ mw_217) (hF.2.2.2.2 _ na_copy) (hF.2.2.2.2 _ mw_219) (hF.2.2.2.2 _ mw_220) hK.1 hP (hz1.va _) hS k n 1 1 (ty := .byte) (n0 := 16) (f := f) (by rw [wN_at (by omega), hgk, ehk]) (by rw [wN_at (by omega), gx_at, hx_at]) rfl rfl rfl (nn 0 (by omega) (by omega)) (nn 0 (by omega) (by omega)) (nn m9 (by omega) (by omega)) (by rw [cl0, clm]; omega) (by rw [cl0, clm]; omega) (fun i hi => by rw [clm] at hi; rw [cl0, Nat.zero_add]; exact hfit i hi) (Nat.le_of_ble_eq_true rfl) (Nat.le_of_ble_eq_true rfl) dJ7_copyOfRangeByte_39247_27 (fun H locs hP _ hS => ?_)
  rw [cl0, clm] at hP
  have hP : zB (n + 1) (hx h n q) D (gx g n (.inl (c 1, m9, .inl (cpB f m9)))) H := by
    unfold zB
    rw [← wN_set (g := gx g n (.inl (c 1, m9, .inl fun _ => 0))) (k := n) (by omega) gx_at (fun j hj hn => by rw [gx_ne hn, gx_ne hn]), hx_at]
    exact hP
  refine lv_aload hF.1 hF.2.1 dJ7_copyOfRangeByte_39247_30 (lv_at hl 0 rfl) ?_
  exact (W.aret (free := A) hF.1 hF.2.1 hr (Or.inr ⟨_, rfl⟩) (Or.inr ⟨q, rfl⟩) (fun t ht hW => ⟨⟨(), q, rfl, trivial, by rw [ht]; exact hP, hz1⟩, hS.F ht⟩) hS.2.2 dJ7_copyOfRangeByte_39247_32 hlocks).wide (Nat.le_of_ble_eq_true rfl) (by show 0 + m9 ≤ 6; omega)

set_option maxRecDepth 100000 in
set_option maxHeartbeats 4000000 in
theorem cg_copyOfRange (l : Launch) (n : Nat) (h : Nat → Nat) (D : va_G) (c : Nat → ClassId) (g : Nat → va_E) (hinj : ∀ i j, i < n → j < n → h i = h j → i = j) (k : Nat) (hk : k < n) (f : Nat → Int32) (hg : g k = .inl (c 1, 16, .inl f)) (m9 : Nat) (hm : m9 ≤ 6) (hfit : ∀ j, j < m9 → fits .byte (.int (f j)) = true) :
    zNr (S := Unit) l yJ7_copyOfRange_39247 cJ7_copyOfRange_39247 3 (some (.array .byte)) 2 64 1 [.ref (h k), .int (iz 0), .int (iz m9)] n h D (gT c) g (n + 1) (fun (_ : Unit) ra => hx h n ra) (fun (_ : Unit) _ => gx g n (.inl (c 1, m9, .inl (cpB f m9)))) (fun _ => True) := by
  refine zSM_of (by decide) (Nat.le_of_ble_eq_true rfl) ?_
  intro p e s m below meth cd ls ⟨hF, hr, hlocks, hK, hX⟩ hP hl
  have hz : zD (zA n h s.heap.size) n h := zD.self hinj s.heap.size
  have hA : ∀ q, s.heap.size ≤ q → zA n h s.heap.size q := zA_new
  generalize zA n h s.heap.size = A at hz hA hX ⊢
  have hS : va_S A s.heap s.heap [] := va_S.rf
  have hl : lv_has ls 3 [(0, .ref (h k)), (1, .int (iz 0)), (2, .int (iz m9))] := hl
  refine lv_iload_n hF.1 hF.2.1 dJ7_copyOfRange_39247_0 rfl (lv_at hl 1 rfl) ?_
  refine zi_if_ne (tgt := 10) hF.1 hF.2.1 (a := 0) dJ7_copyOfRange_39247_1 (by decide) (by omega) (fun c_1 => absurd rfl c_1) (fun c_1 => ?_)
  refine lv_iload_n hF.1 hF.2.1 dJ7_copyOfRange_39247_4 rfl (lv_at hl 2 rfl) ?_
  refine lv_aload_n hF.1 hF.2.1 dJ7_copyOfRange_39247_5 rfl (lv_at hl 0 rfl) ?_
  refine z_alen hF hK hP (k := k) hk hg 1 rfl (z := 16) rfl dJ7_copyOfRange_39247_6 ?_
  refine zi_icmp_eq (tgt := 17) hF.1 hF.2.1 (a := (m9 : Int)) (b := 16) dJ7_copyOfRange_39247_7 (by decide) (by omega) (by omega) (fun c_7 => by omega) (fun c_7 => ?_)
  refine lv_aload_n hF.1 hF.2.1 dJ7_copyOfRange_39247_10 rfl (lv_at hl 0 rfl) ?_
  refine lv_iload_n hF.1 hF.2.1 dJ7_copyOfRange_39247_11 rfl (lv_at hl 1 rfl) ?_
  refine lv_iload_n hF.1 hF.2.1 dJ7_copyOfRange_39247_12 rfl (lv_at hl 2 rfl) ?_
  refine z_crN (S := Unit) (n' := n + 1) (hh := fun _ ra => hx h n ra) (w := fun _ _ => gx g n (.inl (c 1, m9, .inl (cpB f m9)))) (P := fun _ => True) (z_rS (na := 3) (rm := { frames := 1, cells := 1, slots := 6 * 1, locals := 40 }) hF (z_preX hK hX hz hA hP hS) (cg_copyOfRangeByte l n h D c g hinj k hk f hg m9 hm hfit _) mw_332 mw_333 mw_76 mw_329 rfl rfl ⟨by decide, by decide, rfl⟩ ⟨(Nat.le_of_ble_eq_true rfl), (Nat.le_of_ble_eq_true rfl)⟩ (As := [.ref (h k), .int (iz 0), .int (iz m9)]) (rest := []) rfl hl.1 rfl (Nat.le_of_ble_eq_true rfl) dJ7_copyOfRange_39247_13 ⟨(Nat.le_of_ble_eq_true rfl), (Nat.le_of_ble_eq_true rfl)⟩) hz hA hS (fun u_13 q H locs hp hP hz1 hS => ?_)
  exact (W.aret (free := A) hF.1 hF.2.1 hr (Or.inr ⟨_, rfl⟩) (Or.inr ⟨q, rfl⟩) (fun t ht hW => ⟨⟨(), q, rfl, trivial, by rw [ht]; exact hP, hz1⟩, hS.F ht⟩) hS.2.2 dJ7_copyOfRange_39247_16 hlocks).wide (Nat.le_of_ble_eq_true rfl) (Nat.le_of_ble_eq_true rfl)

set_option maxRecDepth 100000 in
set_option maxHeartbeats 4000000 in
theorem cg_getValue (l : Launch) (n : Nat) (h : Nat → Nat) (D : va_G) (c : Nat → ClassId) (g : Nat → va_E) (hinj : ∀ i j, i < n → j < n → h i = h j → i = j) (k6 : Nat) (hk6 : k6 < n) (v : Nat) (fl : Int32) (m9 : Nat) (hg6 : g k6 = .inr (1, [.ref v, .int 0, .int fl, .int (nI m9)])) (k10 : Nat) (hv : v = h k10) :
    zMq (S := Unit) l yJ5_getValue_6d5f1 cJ5_getValue_6d5f1 1 (some (.array .byte)) 0 0 [.ref (h k6)] n h D (gT c) g (fun _ => g) (fun r _ => r = some k10) := by
  refine zM_of (by decide) (Nat.le_of_ble_eq_true rfl) ?_
  intro p e s m below meth cd ls ⟨hF, hr, hlocks, hK⟩ hP hl
  have hz : zD (zA n h s.heap.size) n h := zD.self hinj s.heap.size
  have hA : ∀ q, s.heap.size ≤ q → zA n h s.heap.size q := zA_new
  generalize zA n h s.heap.size = A at hz hA ⊢
  have hS : va_S A s.heap s.heap [] := va_S.rf
  have hl : lv_has ls 1 [(0, .ref (h k6))] := hl
  refine lv_aload_n hF.1 hF.2.1 dJ5_getValue_6d5f1_0 rfl (lv_at hl 0 rfl) ?_
  refine z_get hF hK hP (k := k6) (C := RJ4) (T := TJ4) (N := 4) hk6 hg6 rfl uin_J4 0 (by decide) mw_44 (v := .ref v) rfl dJ5_getValue_6d5f1_1 ?_
  exact (W.aret (free := A) hF.1 hF.2.1 hr (Or.inr ⟨_, rfl⟩) (Or.inr ⟨v, rfl⟩) (fun t ht hW => ⟨⟨some v, (some k10, ()), rfl, ⟨by rw [hv]; rfl, rfl⟩, by show zB _ _ _ _ t.heap; rw [ht]; exact hP⟩, hS.F ht⟩) hS.2.2 dJ5_getValue_6d5f1_4 hlocks)

set_option maxRecDepth 100000 in
set_option maxHeartbeats 4000000 in
theorem cg_J5_length (l : Launch) (n : Nat) (h : Nat → Nat) (D : va_G) (c : Nat → ClassId) (g : Nat → va_E) (hinj : ∀ i j, i < n → j < n → h i = h j → i = j) (k6 : Nat) (hk6 : k6 < n) (v : Nat) (fl : Int32) (m9 : Nat) (hg6 : g k6 = .inr (1, [.ref v, .int 0, .int fl, .int (nI m9)])) :
    zMi (S := Unit) l yJ5_length_8abf5 cJ5_length_8abf5 1 (some .int) 0 0 [.ref (h k6)] n h D (gT c) g (fun _ => g) (fun z _ => z = (m9 : Int)) := by
  refine zM_of (by decide) (Nat.le_of_ble_eq_true rfl) ?_
  intro p e s m below meth cd ls ⟨hF, hr, hlocks, hK⟩ hP hl
  have hz : zD (zA n h s.heap.size) n h := zD.self hinj s.heap.size
  have hA : ∀ q, s.heap.size ≤ q → zA n h s.heap.size q := zA_new
  generalize zA n h s.heap.size = A at hz hA ⊢
  have hS : va_S A s.heap s.heap [] := va_S.rf
  have hl : lv_has ls 1 [(0, .ref (h k6))] := hl
  refine lv_aload_n hF.1 hF.2.1 dJ5_length_8abf5_0 rfl (lv_at hl 0 rfl) ?_
  refine z_get hF hK hP (k := k6) (C := RJ4) (T := TJ4) (N := 4) hk6 hg6 rfl uin_J4 3 (by decide) mw_192 (v := .int (nI m9)) rfl dJ5_length_8abf5_1 ?_
  rw [iz_nI]
  exact z_reti (P := fun z _ => z = (m9 : Int)) (z := (m9 : Int)) (u := ()) (w := fun _ => g) hF hr hlocks hP hS rfl rfl dJ5_length_8abf5_4

set_option maxRecDepth 100000 in
set_option maxHeartbeats 4000000 in
theorem cg_J4_length (l : Launch) (n : Nat) (h : Nat → Nat) (D : va_G) (c : Nat → ClassId) (g : Nat → va_E) (hinj : ∀ i j, i < n → j < n → h i = h j → i = j) (k6 : Nat) (hk6 : k6 < n) (v : Nat) (fl : Int32) (m9 : Nat) (hg6 : g k6 = .inr (1, [.ref v, .int 0, .int fl, .int (nI m9)])) :
    zMi (S := Unit) l yJ4_length_8abf5 cJ4_length_8abf5 1 (some .int) 1 20 [.ref (h k6)] n h D (gT c) g (fun _ => g) (fun z _ => z = (m9 : Int)) := by
  refine zM_of (by decide) (Nat.le_of_ble_eq_true rfl) ?_
  intro p e s m below meth cd ls ⟨hF, hr, hlocks, hK⟩ hP hl
  have hz : zD (zA n h s.heap.size) n h := zD.self hinj s.heap.size
  have hA : ∀ q, s.heap.size ≤ q → zA n h s.heap.size q := zA_new
  generalize zA n h s.heap.size = A at hz hA ⊢
  have hS : va_S A s.heap s.heap [] := va_S.rf
  have hl : lv_has ls 1 [(0, .ref (h k6))] := hl
  refine lv_aload_n hF.1 hF.2.1 dJ4_length_8abf5_0 rfl (lv_at hl 0 rfl) ?_
  refine z_ci (S := Unit) (w := fun _ => g) (P := fun z _ => z = (m9 : Int)) (z_runSU (rm := { frames := 0, cells := 0, slots := 0, locals := 0 }) hF hK hP (cg_J5_length l n h D c g hinj k6 hk6 v fl m9 hg6 _) (gIn_SU mw_194 sm_len sm_sup mw_197 mw_51 mw_191) rfl rfl ⟨by decide, rfl⟩ ⟨(Nat.le_of_ble_eq_true rfl), (Nat.le_of_ble_eq_true rfl)⟩ (k := k6) (T := TJ4) (N := 4) hk6 rfl hg6 rfl (As := []) (rest := []) rfl hl.1 rfl (Nat.le_of_ble_eq_true rfl) dJ4_length_8abf5_1 ⟨(Nat.le_of_ble_eq_true rfl), (Nat.le_of_ble_eq_true rfl)⟩) hz hA hS (fun z_1 u_1 H locs hp hP hS => ?_)
  obtain rfl : z_1 = (m9 : Int) := hp
  exact z_reti (P := fun z _ => z = (m9 : Int)) (z := (m9 : Int)) (u := ()) (w := fun _ => g) hF hr hlocks hP hS rfl rfl dJ4_length_8abf5_4

set_option maxRecDepth 100000 in
set_option maxHeartbeats 4000000 in
theorem cg_isLatin1 (l : Launch) (n : Nat) (h : Nat → Nat) (D : va_G) (c : Nat → ClassId) (g : Nat → va_E) (hinj : ∀ i j, i < n → j < n → h i = h j → i = j) (k6 : Nat) (hk6 : k6 < n) (v : Nat) (fl : Int32) (m9 : Nat) (hg6 : g k6 = .inr (1, [.ref v, .int 0, .int fl, .int (nI m9)])) :
    zSi (S := Unit) l yJ5_isLatin1_aae02 cJ5_isLatin1_aae02 1 (some .boolean) 0 0 0 [.ref (h k6)] n h D (gT c) g (fun _ => g) (fun z _ => z = 1) := by
  refine zSM_of (by decide) (Nat.le_of_ble_eq_true rfl) ?_
  intro p e s m below meth cd ls ⟨hF, hr, hlocks, hK, hX⟩ hP hl
  have hz : zD (zA n h s.heap.size) n h := zD.self hinj s.heap.size
  have hA : ∀ q, s.heap.size ≤ q → zA n h s.heap.size q := zA_new
  generalize zA n h s.heap.size = A at hz hA hX ⊢
  have hS : va_S A s.heap s.heap [] := va_S.rf
  have hl : lv_has ls 1 [(0, .ref (h k6))] := hl
  refine z_compact hF hX hS mw_43 dJ5_isLatin1_aae02_0 ?_
  refine zi_if_eq (tgt := 17) hF.1 hF.2.1 (a := 1) dJ5_isLatin1_aae02_3 (by decide) (by omega) (fun c_3 => absurd c_3 (by decide)) (fun c_3 => ?_)
  refine lv_aload_n hF.1 hF.2.1 dJ5_isLatin1_aae02_6 rfl (lv_at hl 0 rfl) ?_
  refine z_get hF hK hP (k := k6) (C := RJ4) (T := TJ4) (N := 4) hk6 hg6 rfl uin_J4 1 (by decide) mw_45 (v := .int (iz 0)) rfl dJ5_isLatin1_aae02_7 ?_
  refine zi_if_ne (tgt := 17) hF.1 hF.2.1 (a := 0) dJ5_isLatin1_aae02_10 (by decide) (by omega) (fun c_10 => absurd rfl c_10) (fun c_10 => ?_)
  refine zi_const hF.1 hF.2.1 dJ5_isLatin1_aae02_13 ?_
  refine lv_goto (tgt := 18) hF.1 hF.2.1 dJ5_isLatin1_aae02_14 (by decide) ?_
  exact z_sreti (K := 0) (P := fun z _ => z = 1) (z := 1) (u := ()) (w := fun _ => g) hF hr hlocks hP hS (Nat.le_refl _) (Nat.le_refl _) (by decide) rfl dJ5_isLatin1_aae02_18

set_option maxRecDepth 100000 in
set_option maxHeartbeats 4000000 in
theorem cg_J0_init2 (l : Launch) (n : Nat) (h : Nat → Nat) (D : va_G) (c : Nat → ClassId) (g : Nat → va_E) (hinj : ∀ i j, i < n → j < n → h i = h j → i = j) (k6 k10 ks : Nat) (hk6 : k6 < n) (hk10 : k10 < n) (hks : ks < n) (fl : Int32) (f : Nat → Int32) (m9 : Nat) (hm : m9 ≤ 6) (hfit : ∀ j, j < m9 → fits .byte (.int (f j)) = true) (hg6 : g k6 = .inr (1, [.ref (h k10), .int 0, .int fl, .int (nI m9)])) (hg10 : g k10 = .inl (c 1, 16, .inl f)) (hgs : g ks = .inr (0, [.null, .int 0, .int 0, .int 0])) :
    zNv (S := Nat) l yJ0_init_db425 cJ0_init_db425 5 3 86 1 6 [.ref (h ks), .ref (h k6), .null] n h D (gT c) g (n + 1) (fun q => hx h n q) (fun q => gx (gx g n (.inl (c 1, m9, .inl (cpB f m9)))) ks (.inr (0, [.ref q, .int 0, .int 0, .int 0]))) (fun _ => True) := by
  refine zIM_of (by decide) (Nat.le_of_ble_eq_true rfl) rfl ?_
  intro p e s m below meth cd ls ⟨hF, hr, hlocks, hK, hX⟩ hmn hP hl
  have hz : zD (zA n h s.heap.size) n h := zD.self hinj s.heap.size
  have hA : ∀ q, s.heap.size ≤ q → zA n h s.heap.size q := zA_new
  generalize zA n h s.heap.size = A at hz hA hX ⊢
  have hS : va_S A s.heap s.heap [] := va_S.rf
  have hl : lv_has ls 5 [(0, .ref (h ks)), (1, .ref (h k6)), (2, .null)] := hl
  refine lv_aload_n hF.1 hF.2.1 dJ0_init_db425_0 rfl (lv_at hl 0 rfl) ?_
  refine W.objInit hF.1 hF.2.1 hF.2.2.2.1 (hF.2.2.2.2 _ mw_345) (hF.2.2.2.2 _ mw_2) (hF.2.2.2.2 _ mw_3) rfl (hl.1.trans hF.2.2.1.symm) rfl dJ0_init_db425_1 (Nat.le_of_ble_eq_true rfl) (Nat.le_of_ble_eq_true rfl) ?_
  show W p l e _ s m _ below meth cd _ _ _ _ _ (F0 m 4 ls [])
  refine lv_aload_n hF.1 hF.2.1 dJ0_init_db425_4 rfl (lv_at hl 1 rfl) ?_
  refine z_cqK (S := Unit) (w := fun _ => g) (P := fun r _ => r = some k10) (z_rU (C := RJ4) (x := yJ5_getValue_6d5f1) (na := 0) (rm := { frames := 0, cells := 0, slots := 0, locals := 0 }) hF (z_recv hK hP hk6 hg6 rfl) (z_pre hK hP) (cg_getValue l n h D c g hinj k6 hk6 (h k10) fl m9 hg6 k10 rfl _) mw_350 sm_getValue (hF.2.2.2.2 _ se_getValue) mw_353 mw_51 mw_327 mw_353 mw_327 rfl rfl ⟨by decide, by decide, rfl⟩ ⟨(Nat.le_of_ble_eq_true rfl), (Nat.le_of_ble_eq_true rfl)⟩ (As := []) (rest := []) rfl hl.1 rfl (Nat.le_of_ble_eq_true rfl) dJ0_init_db425_5 ⟨(Nat.le_of_ble_eq_true rfl), (Nat.le_of_ble_eq_true rfl)⟩) hz hA hS (fun r_5 u_5 H locs hp hP hS => ?_)
  obtain rfl : r_5 = some k10 := hp
  refine lv_astore_n (lv' := [(3, .ref (h k10)), (0, .ref (h ks)), (1, .ref (h k6)), (2, .null)]) hF.1 hF.2.1 dJ0_init_db425_8 rfl hl (by decide) rfl (fun ls hl => ?_)
  refine lv_aload_n hF.1 hF.2.1 dJ0_init_db425_9 rfl (lv_at hl 2 rfl) ?_
  refine z_ciK (S := Unit) (w := fun _ => g) (P := fun z _ => z = (m9 : Int)) (z_rU (C := RJ4) (x := yJ5_length_8abf5) (na := 0) (rm := { frames := 1, cells := 0, slots := 0, locals := 20 }) hF (z_recv hK hP hk6 hg6 rfl) (z_pre hK hP) (cg_J4_length l n h D c g hinj k6 hk6 (h k10) fl m9 hg6 _) mw_354 sm_len (hF.2.2.2.2 _ se_lengthO) mw_291 mw_63 mw_193 mw_197 mw_191 rfl rfl ⟨by decide, by decide, rfl⟩ ⟨(Nat.le_of_ble_eq_true rfl), (Nat.le_of_ble_eq_true rfl)⟩ (As := []) (rest := []) rfl hl.1 rfl (Nat.le_of_ble_eq_true rfl) dJ0_init_db425_10 ⟨(Nat.le_of_ble_eq_true rfl), (Nat.le_of_ble_eq_true rfl)⟩) hz hA hS (fun z_10 u_10 H locs hp hP hS => ?_)
  obtain rfl : z_10 = (m9 : Int) := hp
  refine lv_istore (lv' := [(4, .int (iz m9)), (3, .ref (h k10)), (0, .ref (h ks)), (1, .ref (h k6)), (2, .null)]) hF.1 hF.2.1 dJ0_init_db425_13 hl (by decide) rfl (fun ls hl => ?_)
  refine lv_aload_n hF.1 hF.2.1 dJ0_init_db425_15 rfl (lv_at hl 3 rfl) ?_
  refine z_ciK (S := Unit) (w := fun _ => g) (P := fun z _ => z = 1) (z_rU (C := RJ4) (x := yJ5_isLatin1_aae02) (na := 0) (rm := { frames := 0, cells := 0, slots := 0, locals := 0 }) hF (z_recv hK hP hk6 hg6 rfl) (z_preX hK hX hz hA hP hS) (cg_isLatin1 l n h D c g hinj k6 hk6 (h k10) fl m9 hg6 _) mw_357 sm_isLatin1 (hF.2.2.2.2 _ se_isLatin1) mw_258 mw_51 mw_228 mw_258 mw_228 rfl rfl ⟨by decide, by decide, rfl⟩ ⟨(Nat.le_of_ble_eq_true rfl), (Nat.le_of_ble_eq_true rfl)⟩ (As := []) (rest := []) rfl hl.1 rfl (Nat.le_of_ble_eq_true rfl) dJ0_init_db425_16 ⟨(Nat.le_of_ble_eq_true rfl), (Nat.le_of_ble_eq_true rfl)⟩) hz hA hS (fun z_16 u_16 H locs hp hP hS => ?_)
  obtain rfl : z_16 = 1 := hp
  refine zi_if_eq (tgt := 41) hF.1 hF.2.1 (a := 1) dJ0_init_db425_19 (by decide) (by omega) (fun c_19 => absurd c_19 (by decide)) (fun c_19 => ?_)
  refine lv_aload_n hF.1 hF.2.1 dJ0_init_db425_22 rfl (lv_at hl 2 rfl) ?_
  refine zi_const hF.1 hF.2.1 dJ0_init_db425_23 ?_
  refine z_putF hF hK hz hP hS hmn (k := ks) (C := RJ0) (T := TJ0) (N := 4) hks hgs rfl uin_J0 tyJ0_ok nmJ0 1 (by decide) mw_346 rfl rfl (by decide) (Nat.le_of_ble_eq_true rfl) (g' := g) (by rw [hgs]; rfl) (fun i hi hne => rfl) dJ0_init_db425_24 (fun H locs hP hS => ?_)
  refine lv_aload_n hF.1 hF.2.1 dJ0_init_db425_27 rfl (lv_at hl 2 rfl) ?_
  refine lv_aload_n hF.1 hF.2.1 dJ0_init_db425_28 rfl (lv_at hl 1 rfl) ?_
  refine zi_const hF.1 hF.2.1 dJ0_init_db425_29 ?_
  refine lv_iload hF.1 hF.2.1 dJ0_init_db425_30 (lv_at hl 0 rfl) ?_
  refine z_crN (S := Unit) (n' := n + 1) (hh := fun _ ra => hx h n ra) (w := fun _ _ => gx g n (.inl (c 1, m9, .inl (cpB f m9)))) (P := fun _ => True) (z_rS (na := 3) (rm := { frames := 2, cells := 1, slots := 6 * 1, locals := 64 }) hF (z_preX hK hX hz hA hP hS) (cg_copyOfRange l n h D c g hinj k10 hk10 f hg10 m9 hm hfit _) mw_358 mw_342 mw_76 mw_334 rfl rfl ⟨by decide, by decide, rfl⟩ ⟨(Nat.le_of_ble_eq_true rfl), (Nat.le_of_ble_eq_true rfl)⟩ (As := [.ref (h k10), .int (iz 0), .int (iz m9)]) (rest := [.ref (h ks)]) rfl hl.1 rfl (Nat.le_of_ble_eq_true rfl) dJ0_init_db425_32 ⟨(Nat.le_of_ble_eq_true rfl), (Nat.le_of_ble_eq_true rfl)⟩) hz hA hS (fun u_32 q H locs hp hP hz1 hS => ?_)
  have hkn : ks ≠ n := by omega
  have ehk : hx h n q ks = h ks := hx_ne hkn
  refine W_top2 ehk.symm ?_
  refine z_putF hF hK hz1 hP hS hmn (k := ks) (C := RJ0) (T := TJ0) (N := 4) (by omega) (by rw [gx_ne hkn]; exact hgs) rfl uin_J0 tyJ0_ok nmJ0 0 (by decide) mw_347 rfl rfl ⟨rfl, rfl⟩ (Nat.le_of_ble_eq_true rfl) (g' := gx (gx g n (.inl (c 1, m9, .inl (cpB f m9)))) ks (.inr (0, [.ref q, .int 0, .int 0, .int 0]))) (by rw [gx_at]; rfl) (fun i hi hne => gx_ne hne) dJ0_init_db425_35 (fun H locs hP hS => ?_)
  refine lv_goto (tgt := 97) hF.1 hF.2.1 dJ0_init_db425_38 (by decide) ?_
  exact (W.vret (free := A) hF.1 hF.2.1 hr (fun t ht hW => ⟨⟨q, rfl, trivial, by rw [ht]; exact hP, hz1⟩, hS.F ht⟩) hS.2.2 dJ0_init_db425_97 hlocks).wide (Nat.le_of_ble_eq_true rfl) (Nat.le_of_ble_eq_true rfl)

set_option maxRecDepth 100000 in
set_option maxHeartbeats 4000000 in
theorem cg_J0_init1 (l : Launch) (n : Nat) (h : Nat → Nat) (D : va_G) (c : Nat → ClassId) (g : Nat → va_E) (hinj : ∀ i j, i < n → j < n → h i = h j → i = j) (k6 k10 ks : Nat) (hk6 : k6 < n) (hk10 : k10 < n) (hks : ks < n) (fl : Int32) (f : Nat → Int32) (m9 : Nat) (hm : m9 ≤ 6) (hfit : ∀ j, j < m9 → fits .byte (.int (f j)) = true) (hg6 : g k6 = .inr (1, [.ref (h k10), .int 0, .int fl, .int (nI m9)])) (hg10 : g k10 = .inl (c 1, 16, .inl f)) (hgs : g ks = .inr (0, [.null, .int 0, .int 0, .int 0])) :
    zNv (S := Nat) l yJ0_init_81219 cJ0_init_81219 2 4 110 1 6 [.ref (h ks), .ref (h k6)] n h D (gT c) g (n + 1) (fun q => hx h n q) (fun q => gx (gx g n (.inl (c 1, m9, .inl (cpB f m9)))) ks (.inr (0, [.ref q, .int 0, .int 0, .int 0]))) (fun _ => True) := by
  refine zIM_of (by decide) (Nat.le_of_ble_eq_true rfl) rfl ?_
  intro p e s m below meth cd ls ⟨hF, hr, hlocks, hK, hX⟩ hmn hP hl
  have hz : zD (zA n h s.heap.size) n h := zD.self hinj s.heap.size
  have hA : ∀ q, s.heap.size ≤ q → zA n h s.heap.size q := zA_new
  generalize zA n h s.heap.size = A at hz hA hX ⊢
  have hS : va_S A s.heap s.heap [] := va_S.rf
  have hl : lv_has ls 2 [(0, .ref (h ks)), (1, .ref (h k6))] := hl
  refine lv_aload_n hF.1 hF.2.1 dJ0_init_81219_0 rfl (lv_at hl 0 rfl) ?_
  refine lv_aload_n hF.1 hF.2.1 dJ0_init_81219_1 rfl (lv_at hl 1 rfl) ?_
  refine lv_null hF.1 hF.2.1 dJ0_init_81219_2 ?_
  refine z_cvN (S := Nat) (n' := n + 1) (hh := fun q => hx h n q) (w := fun q => gx (gx g n (.inl (c 1, m9, .inl (cpB f m9)))) ks (.inr (0, [.ref q, .int 0, .int 0, .int 0]))) (P := fun _ => True) (z_rI (na := 2) (rm := { frames := 3, cells := 1, slots := 6, locals := 86 }) hF (z_preX hK hX hz hA hP hS) (cg_J0_init2 l n h D c g hinj k6 k10 ks hk6 hk10 hks fl f m9 hm hfit hg6 hg10 hgs _) mw_364 mw_365 mw_242 mw_363 rfl rfl rfl ⟨by decide, by decide, rfl⟩ ⟨(Nat.le_of_ble_eq_true rfl), (Nat.le_of_ble_eq_true rfl)⟩ (As := [.ref (h k6), .null]) (rest := []) rfl hl.1 rfl (Nat.le_of_ble_eq_true rfl) dJ0_init_81219_3 ⟨(Nat.le_of_ble_eq_true rfl), (Nat.le_of_ble_eq_true rfl)⟩) hz hA hS (fun q H locs hp hP hz1 hS => ?_)
  exact (W.vret (free := A) hF.1 hF.2.1 hr (fun t ht hW => ⟨⟨q, rfl, trivial, by rw [ht]; exact hP, hz1⟩, hS.F ht⟩) hS.2.2 dJ0_init_81219_6 hlocks).wide (Nat.le_of_ble_eq_true rfl) (Nat.le_of_ble_eq_true rfl)

set_option maxRecDepth 100000 in
set_option maxHeartbeats 4000000 in
theorem cg_toString (l : Launch) (n : Nat) (h : Nat → Nat) (D : va_G) (c : Nat → ClassId) (g : Nat → va_E) (hinj : ∀ i j, i < n → j < n → h i = h j → i = j) (k6 k10 : Nat) (hk6 : k6 < n) (hk10 : k10 < n) (fl : Int32) (f : Nat → Int32) (m9 : Nat) (hm : m9 ≤ 6) (hfit : ∀ j, j < m9 → fits .byte (.int (f j)) = true) (hg6 : g k6 = .inr (1, [.ref (h k10), .int 0, .int fl, .int (nI m9)])) (hg10 : g k10 = .inl (c 1, 16, .inl f)) :
    zNr (S := Nat) l yJ4_toString_0e30d cJ4_toString_0e30d 1 (some (.object "java/lang/String")) 5 131 2 [.ref (h k6)] n h D (gT c) g (n + 2) (fun q ra => hx (hx h n ra) (n + 1) q) (fun q _ => gx (gx g (n + 1) (.inl (c 1, m9, .inl (cpB f m9)))) n (.inr (0, [.ref q, .int 0, .int 0, .int 0]))) (fun _ => True) := by
  refine zSM_of (by decide) (Nat.le_of_ble_eq_true rfl) ?_
  intro p e s m below meth cd ls ⟨hF, hr, hlocks, hK, hX⟩ hP hl
  have hz : zD (zA n h s.heap.size) n h := zD.self hinj s.heap.size
  have hA : ∀ q, s.heap.size ≤ q → zA n h s.heap.size q := zA_new
  generalize zA n h s.heap.size = A at hz hA hX ⊢
  have hS : va_S A s.heap s.heap [] := va_S.rf
  have hl : lv_has ls 1 [(0, .ref (h k6))] := hl
  refine z_new hF hK hz hA hP hS (C := RJ0) (T := TJ0) (N := 4) (ci := 0) uin_J0 tyJ0 tyJ0_ok mw_367 mw_368 mw_242 rfl (fs := [.null, .int 0, .int 0, .int 0]) (by decide) (Nat.le_of_ble_eq_true rfl) (Nat.le_of_ble_eq_true rfl) dJ4_toString_0e30d_0 (fun qa H hP hz1 hS => ?_)
  refine lv_dup hF.1 hF.2.1 dJ4_toString_0e30d_3 rfl ?_
  refine lv_aload_n hF.1 hF.2.1 dJ4_toString_0e30d_4 rfl (lv_at hl 0 rfl) ?_
  have e6 : hx h n qa k6 = h k6 := hx_ne (by omega)
  have e10 : hx h n qa k10 = h k10 := hx_ne (by omega)
  have es : hx h n qa n = qa := hx_at
  refine z_cvN (S := Nat) (n' := n + 1 + 1) (hh := fun q => hx (hx h n qa) (n + 1) q) (w := fun q => gx (gx (gx g n (.inr (0, [.null, .int 0, .int 0, .int 0]))) (n + 1) (.inl (c 1, m9, .inl (cpB f m9)))) n (.inr (0, [.ref q, .int 0, .int 0, .int 0]))) (P := fun _ => True) (z_rI (na := 1) (b := hx h n qa n) (rm := { frames := 4, cells := 1, slots := 6, locals := 110 }) hF (z_preX hK hX hz1 hA hP hS) (cg_J0_init1 l (n + 1) (hx h n qa) D c (gx g n (.inr (0, [.null, .int 0, .int 0, .int 0]))) hz1.1 k6 k10 n (by omega) (by omega) (by omega) fl f m9 hm hfit (by rw [gx_ne (by omega), e10]; exact hg6) (by rw [gx_ne (by omega)]; exact hg10) gx_at _) mw_369 mw_370 mw_242 mw_366 rfl rfl rfl ⟨by decide, by decide, rfl⟩ ⟨(Nat.le_of_ble_eq_true rfl), (Nat.le_of_ble_eq_true rfl)⟩ (As := [.ref (hx h n qa k6)]) (rest := [.ref qa]) rfl hl.1 (by rw [es, e6]; rfl) (Nat.le_of_ble_eq_true rfl) dJ4_toString_0e30d_5 ⟨(Nat.le_of_ble_eq_true rfl), (Nat.le_of_ble_eq_true rfl)⟩) hz1 hA hS (fun q H locs hp hP hz2 hS => ?_)
  have hP : zB (n + 2) (hx (hx h n qa) (n + 1) q) D (gx (gx g (n + 1) (.inl (c 1, m9, .inl (cpB f m9)))) n (.inr (0, [.ref q, .int 0, .int 0, .int 0]))) H := zB_congr hP (fun _ _ => rfl) (fun k hk => by
    rcases Classical.em (k = n) with q1 | q1
    · rw [q1, gx_at, gx_at]
    · rw [gx_ne q1, gx_ne q1]
      rcases Classical.em (k = n + 1) with q2 | q2
      · rw [q2, gx_at, gx_at]
      · rw [gx_ne q2, gx_ne q2, gx_ne q1])
  exact (W.aret (free := A) hF.1 hF.2.1 hr (Or.inl ⟨_, rfl⟩) (Or.inr ⟨qa, rfl⟩) (fun t ht hW => ⟨⟨q, qa, rfl, trivial, by rw [ht]; exact hP, hz2⟩, hS.F ht⟩) hS.2.2 dJ4_toString_0e30d_8 hlocks).wide (Nat.le_of_ble_eq_true rfl) (Nat.le_of_ble_eq_true rfl)
