theorem fin_a {Y a : Nat} (ha : a < 256) : (a + 256 * Y) / 256 = Y := by omega
theorem fin_4 {a0 a1 a2 a3 a4 a5 a6 a7 : Nat} (g0 : a0 ≤ 8) (g1 : a1 ≤ 8) (g2 : a2 ≤ 8) (g3 : a3 ≤ 8) (g4 : a4 ≤ 8) (g5 : a5 ≤ 8) (g6 : a6 ≤ 8) (g7 : a7 ≤ 8) : (a0 + 256 * (a1 + 256 * (a2 + 256 * (a3 + 256 * (a4 + 256 * (a5 + 256 * (a6 + 256 * (a7 + 256 * 0)))))))) + (a1 + 256 * (a2 + 256 * (a3 + 256 * (a4 + 256 * (a5 + 256 * (a6 + 256 * (a7 + 256 * 0))))))) = (a0 + a1) + 256 * ((a1 + a2) + 256 * ((a2 + a3) + 256 * ((a3 + a4) + 256 * ((a4 + a5) + 256 * ((a5 + a6) + 256 * ((a6 + a7) + 256 * a7)))))) ∧ (a0 + 256 * (a1 + 256 * (a2 + 256 * (a3 + 256 * (a4 + 256 * (a5 + 256 * (a6 + 256 * (a7 + 256 * 0)))))))) + (a1 + 256 * (a2 + 256 * (a3 + 256 * (a4 + 256 * (a5 + 256 * (a6 + 256 * (a7 + 256 * 0))))))) < 2 ^ 64 := by
  refine ⟨?_, ?_⟩
  · clear g0 g1 g2 g3 g4 g5 g6 g7; omega
  · omega
theorem fin_5 {a0 a1 a2 a3 a4 a5 a6 a7 : Nat} (g0 : a0 ≤ 8) (g1 : a1 ≤ 8) (g2 : a2 ≤ 8) (g3 : a3 ≤ 8) (g4 : a4 ≤ 8) (g5 : a5 ≤ 8) (g6 : a6 ≤ 8) (g7 : a7 ≤ 8) : ((a0 + a1) + 256 * ((a1 + a2) + 256 * ((a2 + a3) + 256 * ((a3 + a4) + 256 * ((a4 + a5) + 256 * ((a5 + a6) + 256 * ((a6 + a7) + 256 * a7))))))) + ((a2 + a3) + 256 * ((a3 + a4) + 256 * ((a4 + a5) + 256 * ((a5 + a6) + 256 * ((a6 + a7) + 256 * a7))))) = (a0 + a1 + a2 + a3) + 256 * ((a1 + a2 + a3 + a4) + 256 * ((a2 + a3 + a4 + a5) + 256 * ((a3 + a4 + a5 + a6) + 256 * ((a4 + a5 + a6 + a7) + 256 * ((a5 + a6 + a7) + 256 * ((a6 + a7) + 256 * a7)))))) ∧ ((a0 + a1) + 256 * ((a1 + a2) + 256 * ((a2 + a3) + 256 * ((a3 + a4) + 256 * ((a4 + a5) + 256 * ((a5 + a6) + 256 * ((a6 + a7) + 256 * a7))))))) + ((a2 + a3) + 256 * ((a3 + a4) + 256 * ((a4 + a5) + 256 * ((a5 + a6) + 256 * ((a6 + a7) + 256 * a7))))) < 2 ^ 64 := by
  refine ⟨?_, ?_⟩
  · clear g0 g1 g2 g3 g4 g5 g6 g7; omega
  · omega
theorem fin_6 {a0 a1 a2 a3 a4 a5 a6 a7 : Nat} (g0 : a0 ≤ 8) (g1 : a1 ≤ 8) (g2 : a2 ≤ 8) (g3 : a3 ≤ 8) (g4 : a4 ≤ 8) (g5 : a5 ≤ 8) (g6 : a6 ≤ 8) (g7 : a7 ≤ 8) : ((a0 + a1 + a2 + a3) + 256 * ((a1 + a2 + a3 + a4) + 256 * ((a2 + a3 + a4 + a5) + 256 * ((a3 + a4 + a5 + a6) + 256 * ((a4 + a5 + a6 + a7) + 256 * ((a5 + a6 + a7) + 256 * ((a6 + a7) + 256 * a7))))))) + ((a4 + a5 + a6 + a7) + 256 * ((a5 + a6 + a7) + 256 * ((a6 + a7) + 256 * a7))) = (a0 + a1 + a2 + a3 + a4 + a5 + a6 + a7) + 256 * ((a1 + a2 + a3 + a4) + (a5 + a6 + a7) + 256 * ((a2 + a3 + a4 + a5) + (a6 + a7) + 256 * ((a3 + a4 + a5 + a6) + a7 + 256 * ((a4 + a5 + a6 + a7) + 256 * ((a5 + a6 + a7) + 256 * ((a6 + a7) + 256 * a7)))))) ∧ ((a0 + a1 + a2 + a3) + 256 * ((a1 + a2 + a3 + a4) + 256 * ((a2 + a3 + a4 + a5) + 256 * ((a3 + a4 + a5 + a6) + 256 * ((a4 + a5 + a6 + a7) + 256 * ((a5 + a6 + a7) + 256 * ((a6 + a7) + 256 * a7))))))) + ((a4 + a5 + a6 + a7) + 256 * ((a5 + a6 + a7) + 256 * ((a6 + a7) + 256 * a7))) < 2 ^ 64 := by
  refine ⟨?_, ?_⟩
  · clear g0 g1 g2 g3 g4 g5 g6 g7; omega
  · omega
theorem fin_7 {S R : Nat} (h : S < 128) : (S + 256 * R) % 4294967296 % 128 = S := by omega
theorem bc64_fin (q X3 : Int64) {a0 a1 a2 a3 a4 a5 a6 a7 : Nat} (s3 : X3.toBitVec.toNat = a0 + 256 * (a1 + 256 * (a2 + 256 * (a3 + 256 * (a4 + 256 * (a5 + 256 * (a6 + 256 * (a7 + 256 * 0)))))))) (g0 : a0 ≤ 8) (g1 : a1 ≤ 8) (g2 : a2 ≤ 8) (g3 : a3 ≤ 8) (g4 : a4 ≤ 8) (g5 : a5 ≤ 8) (g6 : a6 ≤ 8) (g7 : a7 ≤ 8) (e0 : X3 = bs3 (bs2 (bs1 q))) : bc64 q = nI (a0 + a1 + a2 + a3 + a4 + a5 + a6 + a7) := by
  have l : ∀ {a b : Nat}, a ≤ 8 → b ≤ 8 → a + b < 256 := by omega
  have l4 : ∀ {a b c e : Nat}, a ≤ 8 → b ≤ 8 → c ≤ 8 → e ≤ 8 → a + b + c + e < 256 := by omega
  have k4 := fin_4 g0 g1 g2 g3 g4 g5 g6 g7
  have k5 := fin_5 g0 g1 g2 g3 g4 g5 g6 g7
  have k6 := fin_6 g0 g1 g2 g3 g4 g5 g6 g7
  have d4 : X3.toBitVec.toNat / 256 = a1 + 256 * (a2 + 256 * (a3 + 256 * (a4 + 256 * (a5 + 256 * (a6 + 256 * (a7 + 256 * 0)))))) := by rw [s3]; exact fin_a (Nat.lt_of_le_of_lt g0 (by decide))
  have s4 : (bs4 X3).toBitVec.toNat = (a0 + a1) + 256 * ((a1 + a2) + 256 * ((a2 + a3) + 256 * ((a3 + a4) + 256 * ((a4 + a5) + 256 * ((a5 + a6) + 256 * ((a6 + a7) + 256 * a7)))))) := by
    unfold bs4
    rw [uN_addb, show (8 : Int32) = nI 8 from rfl, uN_shrb _ (by decide), show 2 ^ 8 = 256 from rfl, d4, s3, Nat.mod_eq_of_lt k4.2, k4.1]
  have d5 : (bs4 X3).toBitVec.toNat / 65536 = (a2 + a3) + 256 * ((a3 + a4) + 256 * ((a4 + a5) + 256 * ((a5 + a6) + 256 * ((a6 + a7) + 256 * a7)))) := by
    rw [show 65536 = 256 * 256 from rfl, ← Nat.div_div_eq_div_mul, s4, fin_a (l g0 g1), fin_a (l g1 g2)]
  have s5 : (bs5 (bs4 X3)).toBitVec.toNat = (a0 + a1 + a2 + a3) + 256 * ((a1 + a2 + a3 + a4) + 256 * ((a2 + a3 + a4 + a5) + 256 * ((a3 + a4 + a5 + a6) + 256 * ((a4 + a5 + a6 + a7) + 256 * ((a5 + a6 + a7) + 256 * ((a6 + a7) + 256 * a7)))))) := by
    unfold bs5
    rw [uN_addb, show (16 : Int32) = nI 16 from rfl, uN_shrb _ (by decide), show 2 ^ 16 = 65536 from rfl, d5, s4, Nat.mod_eq_of_lt k5.2, k5.1]
  have d6 : (bs5 (bs4 X3)).toBitVec.toNat / 4294967296 = (a4 + a5 + a6 + a7) + 256 * ((a5 + a6 + a7) + 256 * ((a6 + a7) + 256 * a7)) := by
    rw [show 4294967296 = 256 * 256 * 256 * 256 from rfl, ← Nat.div_div_eq_div_mul, ← Nat.div_div_eq_div_mul, ← Nat.div_div_eq_div_mul, s5, fin_a (l4 g0 g1 g2 g3), fin_a (l4 g1 g2 g3 g4), fin_a (l4 g2 g3 g4 g5), fin_a (l4 g3 g4 g5 g6)]
  have s6 : (bs6 (bs5 (bs4 X3))).toBitVec.toNat = (a0 + a1 + a2 + a3 + a4 + a5 + a6 + a7) + 256 * ((a1 + a2 + a3 + a4) + (a5 + a6 + a7) + 256 * ((a2 + a3 + a4 + a5) + (a6 + a7) + 256 * ((a3 + a4 + a5 + a6) + a7 + 256 * ((a4 + a5 + a6 + a7) + 256 * ((a5 + a6 + a7) + 256 * ((a6 + a7) + 256 * a7)))))) := by
    unfold bs6
    rw [uN_addb, show (32 : Int32) = nI 32 from rfl, uN_shrb _ (by decide), show 2 ^ 32 = 4294967296 from rfl, d6, s5, Nat.mod_eq_of_lt k6.2, k6.1]
  have e32 : ∀ Y : Int64, (Int64.toInt32 Y).toBitVec.toNat = Y.toBitVec.toNat % 4294967296 := fun Y => by
    show (BitVec.signExtend 32 Y.toBitVec).toNat = _
    rw [BitVec.signExtend_eq_setWidth_of_le _ (by decide), BitVec.toNat_setWidth]
  rw [bc64_bs, ← e0, pk_and _ 7 (by decide), e32, s6, show 2 ^ 7 = 128 from rfl, fin_7 (by clear s3 s4 s5 s6 d4 d5 d6 k4 k5 k6; omega)]
