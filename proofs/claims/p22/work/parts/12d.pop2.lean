/-! bitCount of an int (the class calls it before it looks for a middle channel) -/
def pc1 (z : Int) : Int := z - ian (ius z 1) 1431655765
def pc2 (z : Int) : Int := ian z 858993459 + ian (ius z 2) 858993459
def pc3 (z : Int) : Int := ian (z + ius z 4) 252645135
def pc4 (z : Int) : Int := z + ius z 8
def pc5 (z : Int) : Int := z + ius z 16
def pcn (z : Int) : Int := ian (pc5 (pc4 (pc3 (pc2 (pc1 z))))) 63
def nN (z : Int) : Nat := (iz z).toBitVec.toNat
theorem nN_lt (z : Int) : nN z < 4294967296 := (iz z).toBitVec.isLt
theorem nN_and (a b : Int) : nN (ian a b) = nN a &&& nN b := by unfold nN ian; rw [iz_ti, Int32.toBitVec_and, BitVec.toNat_and]
theorem nN_add (a b : Int) : nN (a + b) = (nN a + nN b) % 4294967296 := by unfold nN; rw [← iz_add, Int32.toBitVec_add, BitVec.toNat_add]
theorem nN_sub (a b : Int) : nN (a - b) = (4294967296 - nN b + nN a) % 4294967296 := by unfold nN; rw [← iz_sub, Int32.toBitVec_sub, BitVec.toNat_sub]
theorem nN_shr (a : Int) {n : Nat} (hn : n < 32) : nN (ius a n) = nN a / 2 ^ n := by
  unfold nN ius
  rw [iz_ti, ← iz_nI]
  show ((iz a).toUInt32 >>> ((nI n).toUInt32 &&& Int32.toUInt32 31)).toBitVec.toNat = _
  rw [UInt32.toBitVec_shiftRight]
  show ((iz a).toUInt32.toBitVec >>> (((nI n).toUInt32 &&& Int32.toUInt32 31).toBitVec % 32).toNat).toNat = _
  rw [xs_u n hn, BitVec.toNat_ushiftRight, Nat.shiftRight_eq_div_pow]
  rfl
theorem pN_1 {z : Int} {x x1 : Nat} (hz : nN z = x) (hl : x < 4294967296) (h : x - ((x / 2) &&& 1431655765) = x1) : nN (pc1 z) = x1 := by
  unfold pc1
  rw [nN_sub, nN_and, show ius z 1 = ius z ((1 : Nat) : Int) from rfl, nN_shr z (by decide), show nN 1431655765 = 1431655765 by decide +kernel, show (2 : Nat) ^ 1 = 2 from rfl, hz]
  have q : (x / 2) &&& 1431655765 ≤ x / 2 := Nat.and_le_left
  generalize (x / 2) &&& 1431655765 = w at *
  omega
theorem pN_2 {z : Int} {x x1 : Nat} (hz : nN z = x) (h : (x &&& 858993459) + ((x / 4) &&& 858993459) = x1) (hl : x1 < 1153105992) : nN (pc2 z) = x1 := by
  unfold pc2
  rw [nN_add, nN_and, nN_and, show ius z 2 = ius z ((2 : Nat) : Int) from rfl, nN_shr z (by decide), show nN 858993459 = 858993459 by decide +kernel, show (2 : Nat) ^ 2 = 4 from rfl, hz, h]
  exact Nat.mod_eq_of_lt (Nat.lt_trans hl (by decide))
theorem pN_3 {z : Int} {x x1 : Nat} (hz : nN z = x) (h : (x + x / 16) &&& 252645135 = x1) (hl : x < 1153105992) : nN (pc3 z) = x1 := by
  unfold pc3
  rw [nN_and, nN_add, show ius z 4 = ius z ((4 : Nat) : Int) from rfl, nN_shr z (by decide), show nN 252645135 = 252645135 by decide +kernel, show (2 : Nat) ^ 4 = 16 from rfl, hz, Nat.mod_eq_of_lt (by omega), h]
theorem pN_4 {z : Int} {x x1 : Nat} (hz : nN z = x) (h : x + x / 256 = x1) (hl : x1 < 4294967296) : nN (pc4 z) = x1 := by
  unfold pc4
  rw [nN_add, show ius z 8 = ius z ((8 : Nat) : Int) from rfl, nN_shr z (by decide), show (2 : Nat) ^ 8 = 256 from rfl, hz, h]
  exact Nat.mod_eq_of_lt hl
theorem pN_5 {z : Int} {x x1 : Nat} (hz : nN z = x) (h : x + x / 65536 = x1) (hl : x1 < 4294967296) : nN (pc5 z) = x1 := by
  unfold pc5
  rw [nN_add, show ius z 16 = ius z ((16 : Nat) : Int) from rfl, nN_shr z (by decide), show (2 : Nat) ^ 16 = 65536 from rfl, hz, h]
  exact Nat.mod_eq_of_lt hl
theorem p8 {r : Nat} (h : r < 256) : pb3 (pb2 (pb1 r)) ≤ 8 := by have := pb_ct r h; omega
theorem pcn_N (z : Int) : nN (pcn z) = cnt (nN z) 32 := by
  obtain ⟨a, b, cc, d, ha, hb, hcc, hd, hx, hcnt⟩ := cnt_32 (nN z) (nN_lt z)
  obtain ⟨x1, x2, h1, h2, h3, h4, h5⟩ := pb_all ha hb hcc hd
  obtain ⟨t, u, f1, f2, f3, f4, f5⟩ := pb_fin (p8 ha) (p8 hb) (p8 hcc) (p8 hd)
  have e5 := pN_5 (pN_4 (pN_3 (pN_2 (pN_1 rfl (nN_lt z) (by rw [hx]; exact h1)) h2 h5) h3 h5) f1 f4) f2 f5
  rw [hcnt]
  unfold pcn
  rw [nN_and, e5, show nN 63 = 63 by decide +kernel, f3]
  generalize pb3 (pb2 (pb1 a)) = A
  generalize pb3 (pb2 (pb1 b)) = B
  generalize pb3 (pb2 (pb1 cc)) = C
  generalize pb3 (pb2 (pb1 d)) = D
  rw [Nat.add_comm (A + B + C) D, Nat.add_comm (A + B) C, Nat.add_comm A B]
theorem cnt_bd {x n : Nat} : cnt x n ≤ n := by
  induction n with
  | zero => exact Nat.le_refl _
  | succ n ih => show cnt x n + x / 2 ^ n % 2 ≤ n + 1; have := Nat.mod_lt (x / 2 ^ n) (show 0 < 2 by decide); omega
theorem ti_nat {v : Int32} {n : Nat} (h : v.toBitVec.toNat = n) (hn : n ≤ 32) : v.toInt = (n : Int) := by
  show v.toBitVec.toInt = _
  rw [BitVec.toInt_eq_toNat_of_lt (by omega), h]
theorem pcn_cnt (z : Int) : pcn z = (cnt (nN z) 32 : Int) := by
  have q := pcn_N z
  have e : pcn z = (iz (pcn z)).toInt := by unfold pcn ian; rw [iz_ti]
  rw [e]
  exact ti_nat q cnt_bd
theorem pcn_mid {z : Int} (h : mid z) : 3 ≤ pcn z := by
  obtain ⟨b, hb1, hb2, hb3, a, ha1, ha2, ha3⟩ := h
  have t : ∀ k : Int, hc z k → (nN z).testBit k.toNat = true := fun k q => q.2.2
  have q1 := ha2.1
  have q2 := ha3.2.1
  have q3 := cnt_3 (n := 32) (t _ ha2) (t _ hb3) (t _ ha3) (by omega) (by omega) (by omega)
  rw [pcn_cnt]
  generalize cnt (nN z) 32 = w at *
  omega
