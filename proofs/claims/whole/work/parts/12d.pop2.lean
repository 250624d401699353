/-! bitCount of an int (the class calls it before it looks for a middle channel) -/
def pc1 (z : Int) : Int := z - ian (ius z 1) 1431655765
def pc2 (z : Int) : Int := ian z 858993459 + ian (ius z 2) 858993459
def pc3 (z : Int) : Int := ian (z + ius z 4) 252645135
def pc4 (z : Int) : Int := z + ius z 8
def pc5 (z : Int) : Int := z + ius z 16
def pcn (z : Int) : Int := ian (pc5 (pc4 (pc3 (pc2 (pc1 z))))) 63
def nN (z : Int) : Nat := (iz z).toBitVec.toNat
theorem nN_lt (z : Int) : nN z < 4294967296 := (iz z).toBitVec.isLt
theorem nN_and (a b : Int) : nN (ian a b) = nN a &&& nN b := by unfold nN ian; rw [iz_ti, Int32.toBitVec_and, BitVec.toNat_and]
theorem nN_add (a b : Int) : nN (a + b) = (nN a + nN b) % 4294967296 := by unfold nN; rw [← iz_add, Int32.toBitVec_add, BitVec.toNat_add]
theorem nN_sub (a b : Int) : nN (a - b) = (4294967296 - nN b + nN a) % 4294967296 := by unfold nN; rw [← iz_sub, Int32.toBitVec_sub, BitVec.toNat_sub]
theorem nN_shr (a : Int) {n : Nat} (hn : n < 32) : nN (ius a n) = nN a / 2 ^ n := by
  unfold nN ius
  rw [iz_ti, ← iz_nI]
  show ((iz a).toUInt32 >>> ((nI n).toUInt32 &&& Int32.toUInt32 31)).toBitVec.toNat = _
  rw [UInt32.toBitVec_shiftRight]
  show ((iz a).toUInt32.toBitVec >>> (((nI n).toUInt32 &&& Int32.toUInt32 31).toBitVec % 32).toNat).toNat = _
  rw [xs_u n hn, BitVec.toNat_ushiftRight, Nat.shiftRight_eq_div_pow]
  rfl
theorem pcn_mid {z : Int} (h : mid z) : 3 ≤ pcn z := by
  sorry
