/-! counting bits side by side (Integer.bitCount), byte by byte -/
theorem pb_and (a m b n : Nat) (hb : b < 256) (hn : n < 256) : (256 * a + b) &&& (256 * m + n) = 256 * (a &&& m) + (b &&& n) := by
  have hbn : b &&& n < 2 ^ 8 := Nat.lt_of_le_of_lt Nat.and_le_left hb
  apply Nat.eq_of_testBit_eq
  intro i
  rw [Nat.testBit_and, show (256 : Nat) = 2 ^ 8 from rfl, Nat.testBit_two_pow_mul_add a hb, Nat.testBit_two_pow_mul_add m hn, Nat.testBit_two_pow_mul_add _ hbn]
  split
  · rw [Nat.testBit_and]
  · rw [Nat.testBit_and]
theorem pb_1 {q r m : Nat} (hr : r < 256) : (256 * q + r) - (((256 * q + r) / 2) &&& (256 * m + 85)) = 256 * (q - ((q / 2) &&& m)) + (r - ((r / 2) &&& 85)) := by
  have e : (256 * q + r) / 2 = 256 * (q / 2) + (128 * (q % 2) + r / 2) := by omega
  have d : ∀ k, k < 2 → ∀ r, r < 256 → (128 * k + r / 2) &&& 85 = (r / 2) &&& 85 := by decide +kernel
  rw [e, pb_and _ _ _ _ (by omega) (by omega), d _ (by omega) r hr]
  have h1 : (q / 2) &&& m ≤ q / 2 := Nat.and_le_left
  have h2 : (r / 2) &&& 85 ≤ r / 2 := Nat.and_le_left
  omega
theorem pb_2 {q r m : Nat} (hr : r < 256) : ((256 * q + r) &&& (256 * m + 51)) + (((256 * q + r) / 4) &&& (256 * m + 51)) = 256 * ((q &&& m) + ((q / 4) &&& m)) + ((r &&& 51) + ((r / 4) &&& 51)) := by
  have e : (256 * q + r) / 4 = 256 * (q / 4) + (64 * (q % 4) + r / 4) := by omega
  have d : ∀ k, k < 4 → ∀ r, r < 256 → (64 * k + r / 4) &&& 51 = (r / 4) &&& 51 := by decide +kernel
  rw [pb_and _ _ _ _ hr (by omega), e, pb_and _ _ _ _ (by omega) (by omega), d _ (by omega) r hr]
  omega
theorem pb_3 {q r m : Nat} (hr : r % 16 ≤ 4 ∧ r / 16 ≤ 4) (hq : q % 16 ≤ 4) : ((256 * q + r) + (256 * q + r) / 16) &&& (256 * m + 15) = 256 * ((q + q / 16) &&& m) + ((r + r / 16) &&& 15) := by
  have e : (256 * q + r) + (256 * q + r) / 16 = 256 * (q + q / 16) + (r + r / 16 + 16 * (q % 16)) := by omega
  have d : ∀ k, k < 5 → ∀ r, r < 80 → (r + r / 16 + 16 * k) &&& 15 = (r + r / 16) &&& 15 := by decide +kernel
  rw [e, pb_and _ _ _ _ (by omega) (by omega), d _ (by omega) r (by omega)]
def pb1 (r : Nat) : Nat := r - ((r / 2) &&& 85)
def pb2 (r : Nat) : Nat := (r &&& 51) + ((r / 4) &&& 51)
def pb3 (r : Nat) : Nat := (r + r / 16) &&& 15
theorem pb_rg : ∀ r, r < 256 → pb1 r < 256 ∧ pb2 (pb1 r) % 16 ≤ 4 ∧ pb2 (pb1 r) / 16 ≤ 4 := by decide +kernel
theorem pb_ct : ∀ r, r < 256 → pb3 (pb2 (pb1 r)) = r % 2 + r / 2 % 2 + r / 4 % 2 + r / 8 % 2 + r / 16 % 2 + r / 32 % 2 + r / 64 % 2 + r / 128 % 2 := by decide +kernel
theorem pb_all {a b cc d : Nat} (ha : a < 256) (hb : b < 256) (hc : cc < 256) (hd : d < 256) : ∃ x1 x2, (256 * (256 * (256 * a + b) + cc) + d) - (((256 * (256 * (256 * a + b) + cc) + d) / 2) &&& 1431655765) = x1 ∧ (x1 &&& 858993459) + ((x1 / 4) &&& 858993459) = x2 ∧
    (x2 + x2 / 16) &&& 252645135 = 256 * (256 * (256 * pb3 (pb2 (pb1 a)) + pb3 (pb2 (pb1 b))) + pb3 (pb2 (pb1 cc))) + pb3 (pb2 (pb1 d)) ∧ x1 < 4294967296 ∧ x2 < 1153105992 := by
  have ra := pb_rg a ha; have rb := pb_rg b hb; have rc := pb_rg cc hc; have rd := pb_rg d hd
  refine ⟨256 * (256 * (256 * pb1 a + pb1 b) + pb1 cc) + pb1 d, 256 * (256 * (256 * pb2 (pb1 a) + pb2 (pb1 b)) + pb2 (pb1 cc)) + pb2 (pb1 d), ?_, ?_, ?_, by omega, by omega⟩
  · rw [show (1431655765 : Nat) = 256 * (256 * (256 * 85 + 85) + 85) + 85 from rfl, pb_1 hd, pb_1 hc, pb_1 hb]; rfl
  · rw [show (858993459 : Nat) = 256 * (256 * (256 * 51 + 51) + 51) + 51 from rfl, pb_2 rd.1, pb_2 rc.1, pb_2 rb.1]; rfl
  · rw [show (252645135 : Nat) = 256 * (256 * (256 * 15 + 15) + 15) + 15 from rfl, pb_3 rd.2 (by omega), pb_3 rc.2 (by omega), pb_3 rb.2 ra.2.1]; rfl
/-- the bits below n -/
def cnt (x : Nat) : Nat → Nat
  | 0 => 0
  | n + 1 => cnt x n + x / 2 ^ n % 2
theorem cnt_le {x m : Nat} : ∀ n, m ≤ n → cnt x m ≤ cnt x n := by
  intro n h
  induction n with
  | zero => rw [show m = 0 by omega]; exact Nat.le_refl _
  | succ n ih =>
    rcases Nat.lt_or_ge n m with q | q
    · rw [show m = n + 1 by omega]; exact Nat.le_refl _
    · exact Nat.le_trans (ih q) (Nat.le_add_right _ _)
theorem cnt_s {x i : Nat} (h : x.testBit i = true) : cnt x (i + 1) = cnt x i + 1 := by
  show cnt x i + x / 2 ^ i % 2 = _
  rw [Nat.testBit_eq_decide_div_mod_eq] at h
  rw [of_decide_eq_true h]
theorem cnt_3 {x i j k n : Nat} (h1 : x.testBit i = true) (h2 : x.testBit j = true) (h3 : x.testBit k = true) (hij : i < j) (hjk : j < k) (hk : k < n) : 3 ≤ cnt x n := by
  have a1 := cnt_s h1; have a2 := cnt_s h2; have a3 := cnt_s h3
  have b1 := cnt_le (x := x) (m := i + 1) j hij
  have b2 := cnt_le (x := x) (m := j + 1) k hjk
  have b3 := cnt_le (x := x) (m := k + 1) n hk
  omega
theorem by8 (y : Nat) : pb3 (pb2 (pb1 (y % 256))) = y % 2 + (y / 2 % 2 + (y / 4 % 2 + (y / 8 % 2 + (y / 16 % 2 + (y / 32 % 2 + (y / 64 % 2 + y / 128 % 2)))))) := by
  rw [pb_ct _ (by omega), show y % 256 % 2 = y % 2 by omega, show y % 256 / 2 % 2 = y / 2 % 2 by omega, show y % 256 / 4 % 2 = y / 4 % 2 by omega, show y % 256 / 8 % 2 = y / 8 % 2 by omega, show y % 256 / 16 % 2 = y / 16 % 2 by omega, show y % 256 / 32 % 2 = y / 32 % 2 by omega, show y % 256 / 64 % 2 = y / 64 % 2 by omega, show y % 256 / 128 % 2 = y / 128 % 2 by omega]
  simp only [Nat.add_assoc]
theorem cnt_32 (x : Nat) (hx : x < 4294967296) : ∃ a b cc d, a < 256 ∧ b < 256 ∧ cc < 256 ∧ d < 256 ∧ x = 256 * (256 * (256 * a + b) + cc) + d ∧ cnt x 32 = pb3 (pb2 (pb1 d)) + (pb3 (pb2 (pb1 cc)) + (pb3 (pb2 (pb1 b)) + pb3 (pb2 (pb1 a)))) := by
  refine ⟨x / 16777216 % 256, x / 65536 % 256, x / 256 % 256, x % 256, by omega, by omega, by omega, by omega, by omega, ?_⟩
  rw [by8, by8, by8, by8]
  simp only [cnt, Nat.reducePow, Nat.div_div_eq_div_mul, Nat.reduceMul, Nat.add_assoc, Nat.zero_add, Nat.div_one]
theorem pb_fin {a b cc d : Nat} (ha : a ≤ 8) (hb : b ≤ 8) (hc : cc ≤ 8) (hd : d ≤ 8) : ∃ t u : Nat, 256 * (256 * (256 * a + b) + cc) + d + (256 * (256 * (256 * a + b) + cc) + d) / 256 = t ∧ t + t / 65536 = u ∧ u &&& 63 = a + b + cc + d ∧ t < 4294967296 ∧ u < 4294967296 := by
  have e1 : (256 * (256 * (256 * a + b) + cc) + d) / 256 = 256 * (256 * a + b) + cc := by omega
  have e2 : (16777216 * a + 65536 * (a + b) + 256 * (b + cc) + (cc + d)) / 65536 = 256 * a + (a + b) := by omega
  refine ⟨16777216 * a + 65536 * (a + b) + 256 * (b + cc) + (cc + d), 16777216 * a + 65536 * (a + b) + 256 * (b + cc + a) + (cc + d + a + b), by rw [e1]; omega, by rw [e2]; omega, ?_, by omega, by omega⟩
  rw [show (63 : Nat) = 2 ^ 6 - 1 from rfl, Nat.and_two_pow_sub_one_eq_mod, show (2 : Nat) ^ 6 = 64 from rfl]
  omega
