theorem bts {z : Int} {k : Nat} (h : k < 32) : ian (isr z k) 1 = 1 ↔ bt z k := by
  have hb : ∀ i, i < 32 → xb (iz (ian (isr z k) 1)) i = ((if k + i < 32 then xb (iz z) (k + i) else xb (iz z) 31) && decide (i = 0)) := fun i hi => by rw [xi_and, xi_shr z h hi, show iz 1 = (1 : Int32) from rfl, xb_1]
  rw [bt_xb]
  constructor
  · intro q
    have h0 := hb 0 (by decide)
    rw [q, show iz 1 = (1 : Int32) from rfl, xb_1] at h0
    simpa [h] using h0.symm
  · intro q
    have e : iz (ian (isr z k) 1) = 1 := xb_ext (fun i hi => by
      rw [hb i hi, xb_1]
      by_cases h0 : i = 0
      · subst h0; simp [q, h]
      · simp [h0])
    have e2 : (iz (isr z k) &&& iz 1 : Int32) = 1 := by unfold ian at e; rw [iz_ti] at e; exact e
    unfold ian
    rw [e2]; rfl
theorem bt_or_one {z : Int} {i k : Nat} (hi : i < 32) (hk : k < 32) : bt (ior z (ish 1 i)) k ↔ bt z k ∨ k = i := by
  rw [bt_xb, xi_or, xi_one hi hk, bt_xb]; simp
theorem bt_or_0 {z : Int} {k : Nat} : bt (ior z 0) k ↔ bt z k := by
  rw [bt_xb, xi_or, show iz 0 = (0 : Int32) from rfl, xb_0, bt_xb]; simp
theorem bt_0 {k : Nat} : ¬ bt 0 k := by
  rw [bt_xb, show iz 0 = (0 : Int32) from rfl, xb_0]; simp
def cl (st : Int) (n : Nat) : Int := ian st (ixo (ish 1 n) (-1))
theorem bt_cl {z : Int} {n k : Nat} (hn : n < 32) (hk : k < 32) : bt (cl z n) k ↔ bt z k ∧ k ≠ n := by
  unfold cl
  rw [bt_xb, xi_and, xi_xor, xi_one hn hk, show iz (-1) = (-1 : Int32) from rfl, xb_m1 k hk, bt_xb]
  simp
theorem ian_1 {x : Int} (h : 0 ≤ x ∧ x ≤ 1) : ian x 1 = x := by
  rcases (show x = 0 ∨ x = 1 by omega) with rfl | rfl <;> decide
theorem ian_0 {x : Int} (h : 0 ≤ x ∧ x ≤ 1) : ian x 0 = 0 := by
  rcases (show x = 0 ∨ x = 1 by omega) with rfl | rfl <;> decide
theorem zi_iandE {p : Program} {l : Launch} {e : Env} {R : Room} {s : State} {m : MethodId} {args : Array Value} {below : List Frame} {meth : Method} {c : Code} {H : Heap} {locs : List Loc} {cells slots : Nat} {Q : State → Prop} {cc : ByteArray} {pc : Nat} {ls : Array Slot} {rest : List Value} (hx : p.tables.exec = Jvm.exec) (hb : c.code = cc) {a b r : Int} (h : ian a b = r) (hd : decode cc pc = .ok (.iand, 1))
    (k : W p l e R s m args below meth c H locs cells slots Q (F0 m (pc + 1) ls (.int (iz r) :: rest))) : W p l e R s m args below meth c H locs cells slots Q (F0 m pc ls (.int (iz b) :: .int (iz a) :: rest)) := zi_iand hx hb hd (by rw [h]; exact k)
def can (τ : Nat → Nat → Int) (st la : Int) (k : Nat) : Prop := bt st k ∧ la < τ 8 k
def MNi (τ : Nat → Nat → Int) (st la : Int) (i : Nat) (b : Int) : Prop := (b = -1 ∧ ∀ k, k < i → ¬ can τ st la k) ∨ ∃ n : Nat, b = (n : Int) ∧ n < i ∧ can τ st la n ∧ (∀ k, k < i → can τ st la k → τ 8 n ≤ τ 8 k) ∧ ∀ k, k < n → can τ st la k → τ 8 n < τ 8 k
def MN (τ : Nat → Nat → Int) (st la b : Int) : Prop := MNi τ st la (τ 0 1).toNat b
theorem MNi_rg {τ : Nat → Nat → Int} {st la b : Int} {i : Nat} (h : MNi τ st la i b) : -1 ≤ b ∧ b < (i : Int) := by
  rcases h with h | ⟨n, h1, h2, _⟩ <;> omega
theorem MNi_s {τ : Nat → Nat → Int} {st la b new : Int} {i : Nat} (h : MNi τ st la i b) (hn : (¬ can τ st la i ∧ new = b) ∨ (can τ st la i ∧ b < 0 ∧ new = (i : Int)) ∨ (can τ st la i ∧ 0 ≤ b ∧ τ 8 i < τ 8 b.toNat ∧ new = (i : Int)) ∨ (can τ st la i ∧ 0 ≤ b ∧ τ 8 b.toNat ≤ τ 8 i ∧ new = b)) : MNi τ st la (i + 1) new := by
  have e : ∀ k, k < i + 1 → k < i ∨ k = i := fun k q => by omega
  rcases hn with ⟨c, rfl⟩ | ⟨c, hb, rfl⟩ | ⟨c, hb, hl, rfl⟩ | ⟨c, hb, hl, rfl⟩
  · rcases h with ⟨h1, h2⟩ | ⟨n, h1, h2, h3, h4, h5⟩
    · exact Or.inl ⟨h1, lt_s h2 c⟩
    · exact Or.inr ⟨n, h1, by omega, h3, lt_s h4 (fun q => absurd q c), h5⟩
  · rcases h with ⟨h1, h2⟩ | ⟨n, h1, h2, h3, h4, h5⟩
    · exact Or.inr ⟨i, rfl, by omega, c, lt_s (fun k q q2 => absurd q2 (h2 k q)) (fun _ => Int.le_refl _), fun k q q2 => absurd q2 (h2 k q)⟩
    · omega
  · rcases h with ⟨h1, h2⟩ | ⟨n, h1, h2, h3, h4, h5⟩
    · omega
    · have en : b.toNat = n := by omega
      rw [en] at hl
      exact Or.inr ⟨i, rfl, by omega, c, lt_s (fun k q q2 => by have := h4 k q q2; omega) (fun _ => Int.le_refl _), fun k q q2 => by have := h4 k q q2; omega⟩
  · rcases h with ⟨h1, h2⟩ | ⟨n, h1, h2, h3, h4, h5⟩
    · omega
    · have en : new.toNat = n := by omega
      rw [en] at hl
      exact Or.inr ⟨n, h1, by omega, h3, lt_s h4 (fun _ => hl), h5⟩
def hitM (τ : Nat → Nat → Int) (sg mi en : Int) (k : Nat) : Prop := τ 14 k ≠ 0 ∧ τ 7 k = sg ∧ τ 8 k < en ∧ mi < τ 8 k + τ 9 k
def stT (τ : Nat → Nat → Int) (sg mi en : Int) : Nat → Nat → Int := u2 (u2 (u2 (u2 τ 16 (τ 0 2).toNat sg) 17 (τ 0 2).toNat mi) 18 (τ 0 2).toNat en) 0 2 (τ 0 2 + 1)
/-- the acts that were called off, one after the other; z: the next one -/
def MRz (en : Int) : Nat → (Nat → Nat → Int) → Int → Int → Int → Int → (Nat → Nat → Int) → Int → Prop
  | 0 => fun τ _ _ lo z τ' b => z < 0 ∧ τ' = τ ∧ b = lo
  | N + 1 => fun τ st la lo z τ' b => (z < 0 ∧ τ' = τ ∧ b = lo) ∨ ∃ (n : Nat) (to z2 : Int), z = (n : Int) ∧ MF (u2 τ 14 n 1) n en to ∧
      ((0 ≤ to ∧ MN (u2 (u2 τ 14 n 1) 8 n to) (cl st n) (τ 8 n) z2 ∧ MRz en N (u2 (u2 τ 14 n 1) 8 n to) (cl st n) (τ 8 n) lo z2 τ' b) ∨
       (to < 0 ∧ MN (u2 (u2 τ 14 n 0) 8 n (τ 8 n)) (cl st n) (τ 8 n) z2 ∧ MRz en N (u2 (u2 τ 14 n 0) 8 n (τ 8 n)) (cl st n) (τ 8 n) (lo + 1) z2 τ' b))
def thX (τ : Nat → Nat → Int) (sg mi du : Int) : Int := if 0 ≤ sg ∧ sg ≤ 2 then (if (0 ≤ mi ∧ mi ≤ 999) ∧ (1 ≤ du ∧ du ≤ 200) then (if τ 0 2 = 5 then 3 else 0) else 2) else 1
def MStC (τ : Nat → Nat → Int) (sg mi en z : Int) (τ' : Nat → Nat → Int) : Prop := ∃ (st z0 : Int) (τ1 : Nat → Nat → Int), (∀ r, r ≠ 14 → τ1 r = stT τ sg mi en r) ∧ (∀ k, k < 17 → τ1 14 k = ie (hitM τ sg mi en k ∧ (k : Int) < τ 0 1) 0 (τ 14 k)) ∧ (∀ k, k < 32 → (bt st k ↔ ((k : Int) < τ 0 1 ∧ hitM τ sg mi en k))) ∧ MN τ1 st (-1) z0 ∧ ∃ N, MRz en N τ1 st (-1) 0 z0 τ' z
def MSt (τ : Nat → Nat → Int) (sg mi du z : Int) (τ' : Nat → Nat → Int) (t : Int) : Prop := t = thX τ sg mi du ∧ ((0 < thX τ sg mi du ∧ z = 0 ∧ τ' = τ) ∨ (thX τ sg mi du = 0 ∧ MStC τ sg mi (min (mi + du) 1000) z τ')) ∧ GI τ'

set_option maxRecDepth 100000 in
set_option maxHeartbeats 4000000 in
theorem c_X4_next (l : Launch) (h : Nat → Nat) (D : va_G) (c : Nat → ClassId) (τ κ : Nat → Nat → Int) (hinj : ∀ i j, i < 17 → j < 17 → h i = h j → i = j) (hG : GI τ) (st : Int) (la : Int) (hla : -1 ≤ la ∧ la ≤ 1000) :
    zMi (S := Unit) l yX4_next cX4_next 6 (some .int) 0 0 [.ref (h (0)), .int (iz (st)), .int (iz (la))] 17 h D (gT c) (mC c h (τ) (κ)) (fun _ => mC c h τ κ) (fun z _ => MN τ st la z) := by
  refine zM_of (by decide) (Nat.le_of_ble_eq_true rfl) ?_
  intro p e s m below meth cd ls ⟨hF, hr, hlocks, hK⟩ hP hl
  have hz : zD (zA 17 h s.heap.size) 17 h := zD.self hinj s.heap.size
  have hA : ∀ q, s.heap.size ≤ q → zA 17 h s.heap.size q := zA_new
  generalize zA 17 h s.heap.size = A at hz hA ⊢
  have hS : va_S A s.heap s.heap [] := va_S.rf
  have hl : lv_has ls 6 [(0, .ref (h (0))), (1, .int (iz (st))), (2, .int (iz (la)))] := hl
  refine zi_const hF.1 hF.2.1 dX4_next_0 ?_
  refine lv_istore_n (lv' := [(3, .int (iz (-1))), (0, .ref (h (0))), (1, .int (iz (st))), (2, .int (iz (la)))]) hF.1 hF.2.1 dX4_next_1 rfl hl (by decide) rfl (fun ls hl => ?_)
  refine zi_const hF.1 hF.2.1 dX4_next_2 ?_
  refine lv_istore (lv' := [(4, .int (iz (0))), (3, .int (iz (-1))), (0, .ref (h (0))), (1, .int (iz (st))), (2, .int (iz (la)))]) hF.1 hF.2.1 dX4_next_3 hl (by decide) rfl (fun ls hl => ?_)
  have nv_2 : ((0) ≤ 16 ∧ ((0) : Int) ≤ τ 0 1) ∧ (MNi τ st la (0) (-1)) := ⟨by have := GI_01 hG; omega, Or.inl ⟨rfl, lt_0⟩⟩
  refine z_loop (V := Nat × Int) (nL := 6) (wd := fun v_1 => mC c h (τ) (κ)) (lv := fun v_1 => [(0, .ref (h (0))), (1, .int (iz (st))), (2, .int (iz (la))), (3, .int (iz (v_1.2))), (4, .int (iz ((v_1.1 : Int))))]) (stk := fun v_1 => []) (mu := fun v_1 => 17 - v_1.1) (inv := fun v_1 => (v_1.1 ≤ 16 ∧ (v_1.1 : Int) ≤ τ 0 1) ∧ (MNi τ st la v_1.1 v_1.2)) ?_ (0, -1) nv_2 hP hS (lv_sub hl [2, 3, 4, 1, 0] rfl)
  intro ⟨i, b9⟩ hv ih_5 H locs ls hP hS hl
  have hP : zB 17 h D (mC c h (τ) (κ)) H := hP
  have hl : lv_has ls 6 [(0, .ref (h (0))), (1, .int (iz (st))), (2, .int (iz (la))), (3, .int (iz (b9))), (4, .int (iz ((i : Int))))] := hl
  obtain ⟨hi_i, hmn⟩ : (i ≤ 16 ∧ (i : Int) ≤ τ 0 1) ∧ (MNi τ st la i b9) := hv
  have hmr := MNi_rg hmn
  refine lv_iload hF.1 hF.2.1 dX4_next_5 (lv_at hl 4 rfl) ?_
  refine lv_aload_n hF.1 hF.2.1 dX4_next_7 rfl (lv_at hl 0 rfl) ?_
  refine z_get hF hK hP (k := 0) (C := RX4) (T := TX4) (N := 22) (by omega) (rfl) rfl uin_X4 5 (by decide) mw_495 (v := .int (iz (τ 0 1))) rfl dX4_next_8 ?_
  have q_3 := GI_01 hG
  refine zi_icmp_ge (tgt := 80) hF.1 hF.2.1 (a := (i : Int)) (b := τ 0 1) dX4_next_11 (by decide) (by omega) (by omega) (fun c_11 => ?_) (fun c_11 => ?_)
  · skip
    refine lv_iload_n hF.1 hF.2.1 dX4_next_80 rfl (lv_at hl 3 rfl) ?_
    exact z_reti (P := fun z _ => MN τ st la z) (z := b9) (u := ()) (w := fun _ => mC c h τ κ) hF hr hlocks hP hS (rfl) (by unfold MN; rw [show (τ 0 1).toNat = i by omega]; exact hmn) dX4_next_81
  · skip
    refine z_join (n := 17) (h := h) (D := D) (A := A) (V := Int) (tgt := 40) (nL := 6) (wd := fun v_4 => mC c h (τ) (κ)) (lv := fun v_4 => [(0, .ref (h (0))), (1, .int (iz (st))), (2, .int (iz (la))), (3, .int (iz (b9))), (4, .int (iz ((i : Int))))]) (stk := fun v_4 => [.int (iz (v_4))]) (inv := fun v_4 => (v_4 = b2i (can τ st la i))) ?_ (fun jn_40 => ?_)
    · skip
      intro v hv H locs ls hP hS hl
      have hP : zB 17 h D (mC c h (τ) (κ)) H := hP
      have hl : lv_has ls 6 [(0, .ref (h (0))), (1, .int (iz (st))), (2, .int (iz (la))), (3, .int (iz (b9))), (4, .int (iz ((i : Int))))] := hl
      have hvq : v = b2i (can τ st la i) := hv
      obtain rfl : v = b2i (can τ st la i) := hvq
      refine lv_istore (lv' := [(5, .int (iz (b2i (can τ st la i)))), (0, .ref (h (0))), (1, .int (iz (st))), (2, .int (iz (la))), (3, .int (iz (b9))), (4, .int (iz ((i : Int))))]) hF.1 hF.2.1 dX4_next_40 hl (by decide) rfl (fun ls hl => ?_)
      refine lv_iload hF.1 hF.2.1 dX4_next_42 (lv_at hl 0 rfl) ?_
      refine zi_ifb_eq (tgt := 72) hF.1 hF.2.1 (P := can τ st la i) dX4_next_44 (by decide) (fun c_44 => ?_) (fun c_44 => ?_)
      · skip
        refine lv_iload_n hF.1 hF.2.1 dX4_next_72 rfl (lv_at hl 4 rfl) ?_
        refine lv_istore_n (lv' := [(3, .int (iz (b9))), (5, .int (iz (b2i (can τ st la i)))), (0, .ref (h (0))), (1, .int (iz (st))), (2, .int (iz (la))), (4, .int (iz ((i : Int))))]) hF.1 hF.2.1 dX4_next_73 rfl hl (by decide) rfl (fun ls hl => ?_)
        refine lv_iinc (v := iz (((i + 1 : Nat) : Int))) (lv' := [(4, .int (iz (((i + 1 : Nat) : Int)))), (3, .int (iz (b9))), (5, .int (iz (b2i (can τ st la i)))), (0, .ref (h (0))), (1, .int (iz (st))), (2, .int (iz (la)))]) hF.1 hF.2.1 dX4_next_74 hl (k := 5) rfl ((iz_add _ _).trans (congrArg iz (by omega))) (by decide) rfl (fun ls hl => ?_)
        refine lv_goto (tgt := 5) hF.1 hF.2.1 dX4_next_77 (by decide) ?_
        have nv_5 : ((i + 1) ≤ 16 ∧ ((i + 1) : Int) ≤ τ 0 1) ∧ (MNi τ st la (i + 1) (b9)) := ⟨by omega, MNi_s hmn (by first | exact Or.inl ⟨c_44, rfl⟩ | exact Or.inr (Or.inl ⟨c_44, by omega, rfl⟩) | exact Or.inr (Or.inr (Or.inl ⟨c_44, by omega, by omega, rfl⟩)) | exact Or.inr (Or.inr (Or.inr ⟨c_44, by omega, by omega, rfl⟩)))⟩
        exact ih_5 (i + 1, b9) nv_5 (by show 17 - (i + 1) < 17 - i; omega) _ _ _ hP hS (lv_sub hl [3, 4, 5, 1, 0] rfl)
      · skip
        refine lv_iload_n hF.1 hF.2.1 dX4_next_47 rfl (lv_at hl 4 rfl) ?_
        refine zi_if_lt (tgt := 67) hF.1 hF.2.1 (a := b9) dX4_next_48 (by decide) (by omega) (fun c_48 => ?_) (fun c_48 => ?_)
        · skip
          refine lv_iload hF.1 hF.2.1 dX4_next_67 (lv_at hl 5 rfl) ?_
          refine lv_goto (tgt := 73) hF.1 hF.2.1 dX4_next_69 (by decide) ?_
          refine lv_istore_n (lv' := [(3, .int (iz ((i : Int)))), (5, .int (iz (b2i (can τ st la i)))), (0, .ref (h (0))), (1, .int (iz (st))), (2, .int (iz (la))), (4, .int (iz ((i : Int))))]) hF.1 hF.2.1 dX4_next_73 rfl hl (by decide) rfl (fun ls hl => ?_)
          refine lv_iinc (v := iz (((i + 1 : Nat) : Int))) (lv' := [(4, .int (iz (((i + 1 : Nat) : Int)))), (3, .int (iz ((i : Int)))), (5, .int (iz (b2i (can τ st la i)))), (0, .ref (h (0))), (1, .int (iz (st))), (2, .int (iz (la)))]) hF.1 hF.2.1 dX4_next_74 hl (k := 5) rfl ((iz_add _ _).trans (congrArg iz (by omega))) (by decide) rfl (fun ls hl => ?_)
          refine lv_goto (tgt := 5) hF.1 hF.2.1 dX4_next_77 (by decide) ?_
          have nv_6 : ((i + 1) ≤ 16 ∧ ((i + 1) : Int) ≤ τ 0 1) ∧ (MNi τ st la (i + 1) ((i : Int))) := ⟨by omega, MNi_s hmn (by first | exact Or.inl ⟨c_44, rfl⟩ | exact Or.inr (Or.inl ⟨c_44, by omega, rfl⟩) | exact Or.inr (Or.inr (Or.inl ⟨c_44, by omega, by omega, rfl⟩)) | exact Or.inr (Or.inr (Or.inr ⟨c_44, by omega, by omega, rfl⟩)))⟩
          exact ih_5 (i + 1, (i : Int)) nv_6 (by show 17 - (i + 1) < 17 - i; omega) _ _ _ hP hS (lv_sub hl [3, 4, 5, 1, 0] rfl)
        · skip
          refine lv_aload_n hF.1 hF.2.1 dX4_next_51 rfl (lv_at hl 1 rfl) ?_
          refine z_get hF hK hP (k := 0) (C := RX4) (T := TX4) (N := 22) (by omega) (rfl) rfl uin_X4 7 (by decide) mw_429 (v := .ref (h (6))) rfl dX4_next_52 ?_
          refine lv_iload hF.1 hF.2.1 dX4_next_55 (lv_at hl 5 rfl) ?_
          refine z_iald hF hK hP (k := 6) (by decide) rfl 0 rfl (i := (i : Int)) (i) (rfl) (by omega) (by decide) (x := iz (τ 8 i)) rfl dX4_next_57 ?_
          have q_7 := GI_8 hG (i)
          refine lv_aload_n hF.1 hF.2.1 dX4_next_58 rfl (lv_at hl 1 rfl) ?_
          refine z_get hF hK hP (k := 0) (C := RX4) (T := TX4) (N := 22) (by omega) (rfl) rfl uin_X4 7 (by decide) mw_429 (v := .ref (h (6))) rfl dX4_next_59 ?_
          refine lv_iload_n hF.1 hF.2.1 dX4_next_62 rfl (lv_at hl 4 rfl) ?_
          refine z_iald hF hK hP (k := 6) (by decide) rfl 0 rfl (i := b9) ((b9).toNat) ((Int.toNat_of_nonneg (by omega)).symm) (by omega) (by decide) (x := iz (τ 8 (b9).toNat)) rfl dX4_next_63 ?_
          have q_8 := GI_8 hG ((b9).toNat)
          refine zi_icmp_ge (tgt := 72) hF.1 hF.2.1 (a := τ 8 i) (b := τ 8 (b9).toNat) dX4_next_64 (by decide) (by omega) (by omega) (fun c_64 => ?_) (fun c_64 => ?_)
          · skip
            refine lv_iload_n hF.1 hF.2.1 dX4_next_72 rfl (lv_at hl 4 rfl) ?_
            refine lv_istore_n (lv' := [(3, .int (iz (b9))), (5, .int (iz (b2i (can τ st la i)))), (0, .ref (h (0))), (1, .int (iz (st))), (2, .int (iz (la))), (4, .int (iz ((i : Int))))]) hF.1 hF.2.1 dX4_next_73 rfl hl (by decide) rfl (fun ls hl => ?_)
            refine lv_iinc (v := iz (((i + 1 : Nat) : Int))) (lv' := [(4, .int (iz (((i + 1 : Nat) : Int)))), (3, .int (iz (b9))), (5, .int (iz (b2i (can τ st la i)))), (0, .ref (h (0))), (1, .int (iz (st))), (2, .int (iz (la)))]) hF.1 hF.2.1 dX4_next_74 hl (k := 5) rfl ((iz_add _ _).trans (congrArg iz (by omega))) (by decide) rfl (fun ls hl => ?_)
            refine lv_goto (tgt := 5) hF.1 hF.2.1 dX4_next_77 (by decide) ?_
            have nv_9 : ((i + 1) ≤ 16 ∧ ((i + 1) : Int) ≤ τ 0 1) ∧ (MNi τ st la (i + 1) (b9)) := ⟨by omega, MNi_s hmn (by first | exact Or.inl ⟨c_44, rfl⟩ | exact Or.inr (Or.inl ⟨c_44, by omega, rfl⟩) | exact Or.inr (Or.inr (Or.inl ⟨c_44, by omega, by omega, rfl⟩)) | exact Or.inr (Or.inr (Or.inr ⟨c_44, by omega, by omega, rfl⟩)))⟩
            exact ih_5 (i + 1, b9) nv_9 (by show 17 - (i + 1) < 17 - i; omega) _ _ _ hP hS (lv_sub hl [3, 4, 5, 1, 0] rfl)
          · skip
            refine lv_iload hF.1 hF.2.1 dX4_next_67 (lv_at hl 5 rfl) ?_
            refine lv_goto (tgt := 73) hF.1 hF.2.1 dX4_next_69 (by decide) ?_
            refine lv_istore_n (lv' := [(3, .int (iz ((i : Int)))), (5, .int (iz (b2i (can τ st la i)))), (0, .ref (h (0))), (1, .int (iz (st))), (2, .int (iz (la))), (4, .int (iz ((i : Int))))]) hF.1 hF.2.1 dX4_next_73 rfl hl (by decide) rfl (fun ls hl => ?_)
            refine lv_iinc (v := iz (((i + 1 : Nat) : Int))) (lv' := [(4, .int (iz (((i + 1 : Nat) : Int)))), (3, .int (iz ((i : Int)))), (5, .int (iz (b2i (can τ st la i)))), (0, .ref (h (0))), (1, .int (iz (st))), (2, .int (iz (la)))]) hF.1 hF.2.1 dX4_next_74 hl (k := 5) rfl ((iz_add _ _).trans (congrArg iz (by omega))) (by decide) rfl (fun ls hl => ?_)
            refine lv_goto (tgt := 5) hF.1 hF.2.1 dX4_next_77 (by decide) ?_
            have nv_10 : ((i + 1) ≤ 16 ∧ ((i + 1) : Int) ≤ τ 0 1) ∧ (MNi τ st la (i + 1) ((i : Int))) := ⟨by omega, MNi_s hmn (by first | exact Or.inl ⟨c_44, rfl⟩ | exact Or.inr (Or.inl ⟨c_44, by omega, rfl⟩) | exact Or.inr (Or.inr (Or.inl ⟨c_44, by omega, by omega, rfl⟩)) | exact Or.inr (Or.inr (Or.inr ⟨c_44, by omega, by omega, rfl⟩)))⟩
            exact ih_5 (i + 1, (i : Int)) nv_10 (by show 17 - (i + 1) < 17 - i; omega) _ _ _ hP hS (lv_sub hl [3, 4, 5, 1, 0] rfl)
    · skip
      refine lv_iload_n hF.1 hF.2.1 dX4_next_14 rfl (lv_at hl 1 rfl) ?_
      refine lv_iload hF.1 hF.2.1 dX4_next_15 (lv_at hl 4 rfl) ?_
      refine zi_ishr hF.1 hF.2.1 (a := st) (b := (i : Int)) dX4_next_17 ?_
      have q_11 : -2147483648 ≤ isr st ((i : Int)) ∧ isr st ((i : Int)) ≤ 2147483647 := ti_rg _
      refine zi_const hF.1 hF.2.1 dX4_next_18 ?_
      refine zi_iand hF.1 hF.2.1 (a := isr st ((i : Int))) (b := 1) dX4_next_19 ?_
      have q_12 : -2147483648 ≤ ian (isr st ((i : Int))) 1 ∧ ian (isr st ((i : Int))) 1 ≤ 2147483647 := ti_rg _
      refine zi_const hF.1 hF.2.1 dX4_next_20 ?_
      refine zi_icmp_ne (tgt := 39) hF.1 hF.2.1 (a := ian (isr st ((i : Int))) 1) (b := 1) dX4_next_21 (by decide) (by omega) (by omega) (fun c_21 => ?_) (fun c_21 => ?_)
      · skip
        refine zi_const hF.1 hF.2.1 dX4_next_39 ?_
        have nv_13 : (((0)) = b2i (can τ st la i)) := (by first | exact (b2i_t ⟨(bts (by omega)).mp c_21, by omega⟩).symm | exact (b2i_f (fun q => c_21 ((bts (by omega)).mpr q.1))).symm | exact (b2i_f (fun q => by have := q.2; omega)).symm)
        exact jn_40 (0) nv_13 _ _ _ hP hS (lv_sub hl [0, 1, 2, 3, 4] rfl)
      · skip
        refine lv_aload_n hF.1 hF.2.1 dX4_next_24 rfl (lv_at hl 0 rfl) ?_
        refine z_get hF hK hP (k := 0) (C := RX4) (T := TX4) (N := 22) (by omega) (rfl) rfl uin_X4 7 (by decide) mw_429 (v := .ref (h (6))) rfl dX4_next_25 ?_
        refine lv_iload hF.1 hF.2.1 dX4_next_28 (lv_at hl 4 rfl) ?_
        refine z_iald hF hK hP (k := 6) (by decide) rfl 0 rfl (i := (i : Int)) (i) (rfl) (by omega) (by decide) (x := iz (τ 8 i)) rfl dX4_next_30 ?_
        have q_14 := GI_8 hG (i)
        refine lv_iload_n hF.1 hF.2.1 dX4_next_31 rfl (lv_at hl 2 rfl) ?_
        refine zi_icmp_le (tgt := 39) hF.1 hF.2.1 (a := τ 8 i) (b := la) dX4_next_32 (by decide) (by omega) (by omega) (fun c_32 => ?_) (fun c_32 => ?_)
        · skip
          refine zi_const hF.1 hF.2.1 dX4_next_39 ?_
          have nv_15 : (((0)) = b2i (can τ st la i)) := (by first | exact (b2i_t ⟨(bts (by omega)).mp c_21, by omega⟩).symm | exact (b2i_f (fun q => c_21 ((bts (by omega)).mpr q.1))).symm | exact (b2i_f (fun q => by have := q.2; omega)).symm)
          exact jn_40 (0) nv_15 _ _ _ hP hS (lv_sub hl [0, 1, 2, 3, 4] rfl)
        · skip
          refine zi_const hF.1 hF.2.1 dX4_next_35 ?_
          refine lv_goto (tgt := 40) hF.1 hF.2.1 dX4_next_36 (by decide) ?_
          have nv_16 : (((1)) = b2i (can τ st la i)) := (by first | exact (b2i_t ⟨(bts (by omega)).mp c_21, by omega⟩).symm | exact (b2i_f (fun q => c_21 ((bts (by omega)).mpr q.1))).symm | exact (b2i_f (fun q => by have := q.2; omega)).symm)
          exact jn_40 (1) nv_16 _ _ _ hP hS (lv_sub hl [0, 1, 2, 3, 4] rfl)
