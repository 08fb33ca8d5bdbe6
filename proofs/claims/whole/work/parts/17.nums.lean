/-! ===== ints and longs as whole numbers ===== -/
abbrev iI (z : Int) : Int32 := Int32.ofInt z
abbrev iL (z : Int) : Int64 := Int64.ofInt z
theorem iL_to {z : Int} (h1 : -9223372036854775808 ≤ z) (h2 : z < 9223372036854775808) : (iL z).toInt = z := Int64.toInt_ofInt_of_le (by omega) (by omega)
theorem iI_to {z : Int} (h1 : -2147483648 ≤ z) (h2 : z < 2147483648) : (iI z).toInt = z := Int32.toInt_ofInt_of_le (by omega) (by omega)
theorem iL_add (a b : Int) : iL a + iL b = iL (a + b) := (Int64.ofInt_add ..).symm
theorem iL_sub (a b : Int) : iL a - iL b = iL (a - b) := (Int64.ofInt_sub ..).symm
theorem iL_mul (a b : Int) : iL a * iL b = iL (a * b) := (Int64.ofInt_mul ..).symm
theorem iI_add (a b : Int) : iI a + iI b = iI (a + b) := (Int32.ofInt_add ..).symm
theorem iI_sub (a b : Int) : iI a - iI b = iI (a - b) := (Int32.ofInt_sub ..).symm
theorem iI_mul (a b : Int) : iI a * iI b = iI (a * b) := (Int32.ofInt_mul ..).symm
theorem iI_neg (a : Int) : -iI a = iI (-a) := (Int32.ofInt_neg ..).symm
theorem nI_iI (n : Nat) : nI n = iI n := rfl
theorem iL_lt {a b : Int} (ha1 : -9223372036854775808 ≤ a) (ha2 : a < 9223372036854775808) (hb1 : -9223372036854775808 ≤ b) (hb2 : b < 9223372036854775808) : iL a < iL b ↔ a < b := by
  rw [Int64.lt_iff_toInt_lt, iL_to ha1 ha2, iL_to hb1 hb2]
theorem iL_eq {a b : Int} (ha1 : -9223372036854775808 ≤ a) (ha2 : a < 9223372036854775808) (hb1 : -9223372036854775808 ≤ b) (hb2 : b < 9223372036854775808) : iL a = iL b ↔ a = b := by
  rw [← Int64.toInt_inj, iL_to ha1 ha2, iL_to hb1 hb2]
theorem iI_lt {a b : Int} (ha1 : -2147483648 ≤ a) (ha2 : a < 2147483648) (hb1 : -2147483648 ≤ b) (hb2 : b < 2147483648) : iI a < iI b ↔ a < b := by
  rw [Int32.lt_iff_toInt_lt, iI_to ha1 ha2, iI_to hb1 hb2]
theorem iI_eq {a b : Int} (ha1 : -2147483648 ≤ a) (ha2 : a < 2147483648) (hb1 : -2147483648 ≤ b) (hb2 : b < 2147483648) : iI a = iI b ↔ a = b := by
  rw [← Int32.toInt_inj, iI_to ha1 ha2, iI_to hb1 hb2]
theorem iI_L {z : Int} (h1 : -2147483648 ≤ z) (h2 : z < 2147483648) : (iI z).toInt64 = iL z := by
  rw [← Int64.toInt_inj, Int32.toInt_toInt64, iI_to h1 h2, iL_to (by omega) (by omega)]
theorem iL_I {z : Int} (h1 : -9223372036854775808 ≤ z) (h2 : z < 9223372036854775808) : (iL z).toInt32 = iI z := by
  rw [← Int32.toInt_inj, Int64.toInt_toInt32, iL_to h1 h2, Int32.toInt_ofInt]
theorem iL_ofNat (n : Nat) : Int64.ofNat n = iL n := rfl
theorem iL_and (z : Int) (k : Nat) (hk : k < 64) : iL z &&& iL (2 ^ k - 1) = iL (z % 2 ^ k) := by
  rw [← Int64.toBitVec_inj, Int64.toBitVec_and, Int64.toBitVec_ofInt, Int64.toBitVec_ofInt, Int64.toBitVec_ofInt]
  apply BitVec.eq_of_toNat_eq
  rw [BitVec.toNat_and, BitVec.toNat_ofInt, BitVec.toNat_ofInt, BitVec.toNat_ofInt]
  have hkp : (2 : Int) ^ k ≤ 2 ^ 63 := by
    have := qm_pow_le (w := 2) (by decide) k (63 - k)
    rw [show k + (63 - k) = 63 by omega] at this
    exact this
  have hp : (0 : Int) < 2 ^ k := Int.pow_pos (by decide)
  have e1 : ((2 : Int) ^ k - 1) % ((2 ^ 64 : Nat) : Int) = 2 ^ k - 1 := Int.emod_eq_of_lt (by omega) (by omega)
  have e2 : ((2 : Int) ^ k - 1).toNat = 2 ^ k - 1 := by
    have : ((2 : Int) ^ k) = ((2 ^ k : Nat) : Int) := by simp
    omega
  rw [e1, e2, Nat.and_two_pow_sub_one_eq_mod]
  have e3 : (z % 2 ^ k) % ((2 ^ 64 : Nat) : Int) = z % 2 ^ k := Int.emod_eq_of_lt (Int.emod_nonneg _ (by omega)) (by have := Int.emod_lt_of_pos z hp; omega)
  rw [e3]
  have hd : ((2 : Int) ^ k) ∣ ((2 ^ 64 : Nat) : Int) := ⟨2 ^ (64 - k), by rw [← Int.pow_add, show k + (64 - k) = 64 by omega]; rfl⟩
  have e4 : z % ((2 ^ 64 : Nat) : Int) % 2 ^ k = z % 2 ^ k := Int.emod_emod_of_dvd z hd
  have hnn : 0 ≤ z % ((2 ^ 64 : Nat) : Int) := Int.emod_nonneg _ (by decide)
  have : (((z % ((2 ^ 64 : Nat) : Int)).toNat % 2 ^ k : Nat) : Int) = ((z % 2 ^ k).toNat : Int) := by
    rw [Int.natCast_emod, Int.toNat_of_nonneg hnn, Int.toNat_of_nonneg (Int.emod_nonneg _ (by omega))]
    simpa using e4
  omega
theorem iL_shr {z : Int} (h1 : -9223372036854775808 ≤ z) (h2 : z < 9223372036854775808) (s : Int64) (k : Nat) (hs : (s.toBitVec.smod 64).toNat = k) : iL z >>> s = iL (z / 2 ^ k) := by
  rw [← Int64.toInt_inj]
  have e1 : (iL z >>> s).toInt = (iL z).toInt >>> k := by
    show (Int64.shiftRight _ _).toInt = _
    unfold Int64.shiftRight Int64.toInt
    show ((iL z).toBitVec.sshiftRight (s.toBitVec.smod 64).toNat).toInt = _
    rw [BitVec.toInt_sshiftRight, hs]
  rw [e1, iL_to h1 h2, Int.shiftRight_eq_div_pow]
  have hp : (0 : Int) < 2 ^ k := Int.pow_pos (by decide)
  have b1 : z / 2 ^ k < 9223372036854775808 := by
    rcases Int.lt_or_le z 0 with q | q
    · have := Int.ediv_neg_of_neg_of_pos q hp
      omega
    · have := Int.ediv_le_self (2 ^ k) q
      omega
  have b2 : -9223372036854775808 ≤ z / 2 ^ k := by
    rw [Int.le_ediv_iff_mul_le hp]
    have : (1 : Int) ≤ 2 ^ k := hp
    have q : 0 ≤ (9223372036854775808 : Int) * (2 ^ k - 1) := Int.mul_nonneg (by decide) (by omega)
    omega
  rw [iL_to b2 b1]
  simp
