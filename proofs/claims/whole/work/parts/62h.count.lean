theorem bt_div {q : Int64} (i : Nat) : bt q i = decide (q.toBitVec.toNat / 2 ^ i % 2 = 1) := by
  unfold bt
  rw [BitVec.getLsbD, Nat.testBit_eq_decide_div_mod_eq]
theorem m256 (M : Nat) : M % 256 % 2 = M % 2 ∧ M % 256 / 2 % 2 = M / 2 % 2 ∧ M % 256 / 4 % 2 = M / 4 % 2 ∧ M % 256 / 8 % 2 = M / 8 % 2 ∧ M % 256 / 16 % 2 = M / 16 % 2 ∧ M % 256 / 32 % 2 = M / 32 % 2 ∧ M % 256 / 64 % 2 = M / 64 % 2 ∧ M % 256 / 128 % 2 = M / 128 % 2 := by
  refine ⟨?_, ?_, ?_, ?_, ?_, ?_, ?_, ?_⟩ <;> omega
theorem pop8_s (N i : Nat) (c : Nat) (h : c = 256 ^ i) : pop8 (by8 N i) = (N / c % 2) + (N / (c * 2) % 2) + (N / (c * 4) % 2) + (N / (c * 8) % 2) + (N / (c * 16) % 2) + (N / (c * 32) % 2) + (N / (c * 64) % 2) + (N / (c * 128) % 2) := by
  unfold pop8
  rw [by8_eq, ← h]
  obtain ⟨e1, e2, e3, e4, e5, e6, e7, e8⟩ := m256 (N / c)
  rw [e1, e2, e3, e4, e5, e6, e7, e8]
  simp only [Nat.div_div_eq_div_mul]
theorem cnt_b {q : Int64} (k c : Nat) (h : c = 2 ^ k) : cnt (bt q) (k + 1) = cnt (bt q) k + q.toBitVec.toNat / c % 2 := by
  show cnt (bt q) k + (if bt q k = true then 1 else 0) = _
  rw [bt_div, ← h]
  generalize q.toBitVec.toNat / c = M
  by_cases h : M % 2 = 1
  · simp [h]
  · have : M % 2 = 0 := by omega
    simp [this]
theorem cnt_8 {q : Int64} (k c : Nat) (h : c = 2 ^ k) : cnt (bt q) (k + 8) = cnt (bt q) k + ((q.toBitVec.toNat / c % 2) + (q.toBitVec.toNat / (c * 2) % 2) + (q.toBitVec.toNat / (c * 4) % 2) + (q.toBitVec.toNat / (c * 8) % 2) + (q.toBitVec.toNat / (c * 16) % 2) + (q.toBitVec.toNat / (c * 32) % 2) + (q.toBitVec.toNat / (c * 64) % 2) + (q.toBitVec.toNat / (c * 128) % 2)) := by
  have e : ∀ j, c * 2 ^ j = 2 ^ (k + j) := fun j => by rw [h, Nat.pow_add]
  rw [show k + 8 = k + 7 + 1 from rfl, cnt_b (k + 7) (c * 128) (e 7), show k + 7 = k + 6 + 1 from rfl, cnt_b (k + 6) (c * 64) (e 6), show k + 6 = k + 5 + 1 from rfl, cnt_b (k + 5) (c * 32) (e 5), show k + 5 = k + 4 + 1 from rfl, cnt_b (k + 4) (c * 16) (e 4), show k + 4 = k + 3 + 1 from rfl, cnt_b (k + 3) (c * 8) (e 3), show k + 3 = k + 2 + 1 from rfl, cnt_b (k + 2) (c * 4) (e 2), show k + 2 = k + 1 + 1 from rfl, cnt_b (k + 1) (c * 2) (e 1), cnt_b k c h]
  simp only [Nat.add_assoc]
theorem bc64_ct (q : Int64) : bc64 q = nI (ct64 q) := by
  rw [bc64_sum]
  congr 1
  have h0 := cnt_8 (q := q) 0 1 (by decide)
  have h1 := cnt_8 (q := q) 8 256 (by decide)
  have h2 := cnt_8 (q := q) 16 65536 (by decide)
  have h3 := cnt_8 (q := q) 24 16777216 (by decide)
  have h4 := cnt_8 (q := q) 32 4294967296 (by decide)
  have h5 := cnt_8 (q := q) 40 1099511627776 (by decide)
  have h6 := cnt_8 (q := q) 48 281474976710656 (by decide)
  have h7 := cnt_8 (q := q) 56 72057594037927936 (by decide)
  rw [← pop8_s _ 0 1 (by decide)] at h0
  rw [← pop8_s _ 1 256 (by decide)] at h1
  rw [← pop8_s _ 2 65536 (by decide)] at h2
  rw [← pop8_s _ 3 16777216 (by decide)] at h3
  rw [← pop8_s _ 4 4294967296 (by decide)] at h4
  rw [← pop8_s _ 5 1099511627776 (by decide)] at h5
  rw [← pop8_s _ 6 281474976710656 (by decide)] at h6
  rw [← pop8_s _ 7 72057594037927936 (by decide)] at h7
  show _ = cnt (bt q) (56 + 8)
  rw [h7, show 56 = 48 + 8 from rfl, h6, show 48 = 40 + 8 from rfl, h5, show 40 = 32 + 8 from rfl, h4, show 32 = 24 + 8 from rfl, h3, show 24 = 16 + 8 from rfl, h2, show 16 = 8 + 8 from rfl, h1, show 8 = 0 + 8 from rfl, h0, show cnt (bt q) 0 = 0 from rfl, Nat.zero_add]
theorem ct_64 (q : Int64) : ct64 q ≤ 64 := cnt_le 64
theorem ct_z {q : Int64} (h : ct64 q = 0) : q = 0 := Classical.byContradiction fun z => by
  obtain ⟨i, i1, i2, i3⟩ := bt_least z
  have := ct_clear i2 i3
  omega
theorem ct_00 : ct64 0 = 0 := cnt_0 (fun k _ => bt_0 k)

