theorem uN_sub (x y : Int64) : (x - y).toBitVec.toNat = (2 ^ 64 - y.toBitVec.toNat + x.toBitVec.toNat) % 2 ^ 64 := by rw [Int64.toBitVec_sub, BitVec.toNat_sub]
theorem uN_addb (x y : Int64) : (x + y).toBitVec.toNat = (x.toBitVec.toNat + y.toBitVec.toNat) % 2 ^ 64 := by rw [Int64.toBitVec_add, BitVec.toNat_add]
theorem uN_andb (x y : Int64) : (x &&& y).toBitVec.toNat = (x.toBitVec.toNat &&& y.toBitVec.toNat) := by rw [Int64.toBitVec_and, BitVec.toNat_and]
theorem uN_shrb (w : Int64) {k : Nat} (hk : k < 64) : ((w.toUInt64 >>> ((nI k).toInt64.toUInt64 &&& Int64.toUInt64 63)).toInt64).toBitVec.toNat = w.toBitVec.toNat / 2 ^ k := by
  show (w.toUInt64 >>> ((nI k).toInt64.toUInt64 &&& Int64.toUInt64 63)).toNat = _
  rw [UInt64.toNat_shiftRight, sh_u k hk, Nat.mod_eq_of_lt hk, Nat.shiftRight_eq_div_pow]
  rfl
