/-! bits of an int (rows taken from the kit's laws, BITS, under other names) -/
def xb (x : Int32) (i : Nat) : Bool := x.toBitVec.getLsbD i
theorem xb_ext {x y : Int32} (h : ∀ i, i < 32 → xb x i = xb y i) : x = y := Int32.toBitVec_inj.mp (BitVec.eq_of_getLsbD_eq (fun i hi => h i hi))
theorem xb_or (x y : Int32) (i : Nat) : xb (x ||| y) i = (xb x i || xb y i) := by unfold xb; rw [Int32.toBitVec_or, BitVec.getLsbD_or]
theorem xb_and (x y : Int32) (i : Nat) : xb (x &&& y) i = (xb x i && xb y i) := by unfold xb; rw [Int32.toBitVec_and, BitVec.getLsbD_and]
theorem xb_xor (x y : Int32) (i : Nat) : xb (x ^^^ y) i = (xb x i ^^ xb y i) := by unfold xb; rw [Int32.toBitVec_xor, BitVec.getLsbD_xor]
theorem xb_big {x : Int32} {i : Nat} (h : 32 ≤ i) : xb x i = false := BitVec.getLsbD_of_ge _ _ h
theorem xb_m1 : ∀ i, i < 32 → xb (-1) i = true := by decide +kernel
theorem xb_0 (i : Nat) : xb 0 i = false := BitVec.getLsbD_zero
theorem xb_1 (i : Nat) : xb 1 i = decide (i = 0) := by
  rcases Nat.lt_or_ge i 32 with h | h
  · exact (by decide +kernel : ∀ i, i < 32 → xb 1 i = decide (i = 0)) i h
  · rw [xb_big h, decide_eq_false (by omega)]
theorem xs_l : ∀ n, n < 32 → ((nI n &&& 31).toBitVec.smod 32).toNat = n := by decide +kernel
theorem xs_u : ∀ n, n < 32 → (((nI n).toUInt32 &&& Int32.toUInt32 31).toBitVec % 32).toNat = n := by decide +kernel
theorem xb_shl (n : Nat) (hn : n < 32) (x : Int32) {i : Nat} (hi : i < 32) : xb (x <<< (nI n &&& 31)) i = (decide (n ≤ i) && xb x (i - n)) := by
  unfold xb
  rw [Int32.toBitVec_shiftLeft]
  show (x.toBitVec <<< ((nI n &&& 31).toBitVec.smod 32).toNat).getLsbD i = _
  rw [xs_l n hn, BitVec.getLsbD_shiftLeft]
  rcases Nat.lt_or_ge i n with h | h
  · simp [h, Nat.not_le.mpr h]
  · simp [hi, h, Nat.not_lt.mpr h]
theorem xb_ushr (n : Nat) (hn : n < 32) (x : Int32) (i : Nat) : xb ((x.toUInt32 >>> ((nI n).toUInt32 &&& Int32.toUInt32 31)).toInt32) i = xb x (n + i) := by
  show (x.toUInt32 >>> ((nI n).toUInt32 &&& Int32.toUInt32 31)).toBitVec.getLsbD i = x.toUInt32.toBitVec.getLsbD (n + i)
  rw [UInt32.toBitVec_shiftRight]
  show (x.toUInt32.toBitVec >>> (((nI n).toUInt32 &&& Int32.toUInt32 31).toBitVec % 32).toNat).getLsbD i = _
  rw [xs_u n hn, BitVec.getLsbD_ushiftRight]
theorem xb_sshr (n : Nat) (hn : n < 32) (x : Int32) {i : Nat} (hi : i < 32) : xb (x >>> (nI n &&& 31)) i = if n + i < 32 then xb x (n + i) else xb x 31 := by
  unfold xb
  rw [Int32.toBitVec_shiftRight]
  show (x.toBitVec.sshiftRight ((nI n &&& 31).toBitVec.smod 32).toNat).getLsbD i = _
  rw [xs_l n hn, BitVec.getLsbD_sshiftRight, BitVec.msb_eq_getLsbD_last]
  simp [hi]
theorem xi_and (a b : Int) (i : Nat) : xb (iz (ian a b)) i = (xb (iz a) i && xb (iz b) i) := by unfold ian; rw [iz_ti]; exact xb_and _ _ i
theorem xi_or (a b : Int) (i : Nat) : xb (iz (ior a b)) i = (xb (iz a) i || xb (iz b) i) := by unfold ior; rw [iz_ti]; exact xb_or _ _ i
theorem xi_xor (a b : Int) (i : Nat) : xb (iz (ixo a b)) i = (xb (iz a) i ^^ xb (iz b) i) := by unfold ixo; rw [iz_ti]; exact xb_xor _ _ i
theorem xi_ushr (a : Int) {n : Nat} (hn : n < 32) (i : Nat) : xb (iz (ius a n)) i = xb (iz a) (n + i) := by unfold ius; rw [iz_ti, ← iz_nI]; exact xb_ushr n hn _ i
theorem xi_shr (a : Int) {n : Nat} (hn : n < 32) {i : Nat} (hi : i < 32) : xb (iz (isr a n)) i = if n + i < 32 then xb (iz a) (n + i) else xb (iz a) 31 := by unfold isr; rw [iz_ti, ← iz_nI]; exact xb_sshr n hn _ hi
theorem xi_shl (a : Int) {n : Nat} (hn : n < 32) {i : Nat} (hi : i < 32) : xb (iz (ish a n)) i = (decide (n ≤ i) && xb (iz a) (i - n)) := by unfold ish; rw [iz_ti, ← iz_nI]; exact xb_shl n hn _ hi
theorem xi_one {n : Nat} (hn : n < 32) {i : Nat} (hi : i < 32) : xb (iz (ish 1 n)) i = decide (i = n) := by
  rw [xi_shl 1 hn hi, show iz 1 = (1 : Int32) from rfl, xb_1]
  by_cases h : i = n
  · subst h; simp
  · by_cases h2 : n ≤ i
    · simp [h, h2]; omega
    · simp [h, h2]
theorem bt_xb {z : Int} {i : Nat} : bt z i ↔ xb (iz z) i = true := Iff.rfl
theorem bt_iff {z cz : Int} (h : 0 ≤ cz ∧ cz < 32) : ian (ius z cz) 1 ≠ 0 ↔ bt z cz.toNat := by
  obtain ⟨n, hn⟩ : ∃ n : Nat, cz = (n : Int) := ⟨cz.toNat, (Int.toNat_of_nonneg h.1).symm⟩
  subst hn
  have hn : n < 32 := by omega
  have hb : ∀ i, xb (iz (ian (ius z n) 1)) i = (xb (iz z) (n + i) && decide (i = 0)) := fun i => by rw [xi_and, xi_ushr z hn, show iz 1 = (1 : Int32) from rfl, xb_1]
  rw [Int.toNat_natCast, bt_xb]
  constructor
  · intro q
    cases hx : xb (iz z) n with
    | true => rfl
    | false =>
      refine absurd ?_ q
      have e : iz (ian (ius z n) 1) = 0 := xb_ext (fun i hi => by
        rw [hb i, xb_0]
        by_cases h0 : i = 0
        · subst h0; simp [hx]
        · simp [h0])
      have e2 : ((iz (ius z n)) &&& iz 1 : Int32) = 0 := by unfold ian at e; rw [iz_ti] at e; exact e
      unfold ian
      rw [e2]; rfl
  · intro q e
    have hb0 := hb 0
    rw [e, show iz 0 = (0 : Int32) from rfl, xb_0] at hb0
    simp [q] at hb0
