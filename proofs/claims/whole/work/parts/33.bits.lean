/-! longs as sets of bits -/
theorem sh_u : ∀ k, k < 64 → ((nI k).toInt64.toUInt64 &&& Int64.toUInt64 63).toNat = k := by decide +kernel
theorem sh_s : ∀ k, k < 64 → (((nI k).toInt64 &&& 63).toBitVec.smod 64).toNat = k := by decide +kernel
theorem bt_big {w : Int64} {i : Nat} (h : 64 ≤ i) : bt w i = false := BitVec.getLsbD_of_ge _ _ h
theorem bt_ext {x y : Int64} (h : ∀ i, i < 64 → bt x i = bt y i) : x = y := Int64.toBitVec_inj.mp (BitVec.eq_of_getLsbD_eq fun i hi => h i hi)
theorem bt_zero {x : Int64} : x = 0 ↔ ∀ i, bt x i = false := ⟨fun h i => by rw [h, bt_0], fun h => bt_ext fun i _ => by rw [h, bt_0]⟩
theorem bt_and (x y : Int64) (i : Nat) : bt (x &&& y) i = (bt x i && bt y i) := by
  unfold bt
  rw [Int64.toBitVec_and, BitVec.getLsbD_and]
theorem bt_or (x y : Int64) (i : Nat) : bt (x ||| y) i = (bt x i || bt y i) := by
  unfold bt
  rw [Int64.toBitVec_or, BitVec.getLsbD_or]
theorem bt_xor (x y : Int64) (i : Nat) : bt (x ^^^ y) i = (bt x i ^^ bt y i) := by
  unfold bt
  rw [Int64.toBitVec_xor, BitVec.getLsbD_xor]
theorem bt_m1 : ∀ i, i < 64 → bt (-1) i = true := by decide +kernel
theorem bt_not {x : Int64} {i : Nat} (h : i < 64) : bt (x ^^^ (-1)) i = !bt x i := by
  rw [bt_xor, bt_m1 i h]
  cases bt x i <;> rfl
theorem bt_ushr (w : Int64) {k : Nat} (hk : k < 64) (i : Nat) : bt ((w.toUInt64 >>> ((nI k).toInt64.toUInt64 &&& Int64.toUInt64 63)).toInt64) i = bt w (k + i) := by
  have e : ((w.toUInt64 >>> ((nI k).toInt64.toUInt64 &&& Int64.toUInt64 63)).toInt64).toBitVec = w.toBitVec >>> k := by
    apply BitVec.eq_of_toNat_eq
    show (w.toUInt64 >>> ((nI k).toInt64.toUInt64 &&& Int64.toUInt64 63)).toNat = _
    rw [UInt64.toNat_shiftRight, sh_u k hk, Nat.mod_eq_of_lt hk, BitVec.toNat_ushiftRight]
    rfl
  unfold bt
  rw [e, BitVec.getLsbD_ushiftRight]
theorem bt_shl (w : Int64) {k : Nat} (hk : k < 64) {i : Nat} (hi : i < 64) : bt (w <<< ((nI k).toInt64 &&& 63)) i = (decide (k ≤ i) && bt w (i - k)) := by
  have e : (w <<< ((nI k).toInt64 &&& 63)).toBitVec = w.toBitVec <<< k := by
    rw [Int64.toBitVec_shiftLeft]
    apply BitVec.eq_of_toNat_eq
    simp only [BitVec.toNat_shiftLeft, BitVec.shiftLeft_eq']
    rw [sh_s k hk]
  unfold bt
  rw [e, BitVec.getLsbD_shiftLeft]
  by_cases h : i < k
  · have h2 : ¬ k ≤ i := by omega
    simp [h, h2]
  · have h2 : k ≤ i := by omega
    simp [h, h2, hi]
theorem bt_1 : ∀ i, i < 64 → bt 1 i = decide (i = 0) := by decide +kernel
theorem bt_one {k : Nat} (hk : k < 64) (i : Nat) : bt ((1 : Int64) <<< ((nI k).toInt64 &&& 63)) i = decide (i = k) := by
  rcases Nat.lt_or_ge i 64 with hi | hi
  · rw [bt_shl 1 hk hi]
    by_cases h : k ≤ i
    · rw [bt_1 (i - k) (by omega)]
      by_cases h2 : i = k
      · subst h2; simp
      · have : ¬ i - k = 0 := by omega
        simp [h2, this]
    · have h2 : ¬ i = k := by omega
      simp [h, h2]
  · rw [bt_big hi]
    have : ¬ i = k := by omega
    simp [this]
theorem bt_and1 (w : Int64) : (w &&& 1) = 0 ↔ bt w 0 = false := by
  rw [bt_zero]
  constructor
  · intro h
    have := h 0
    rw [bt_and, bt_1 0 (by decide)] at this
    simpa using this
  · intro h i
    rw [bt_and]
    rcases Nat.lt_or_ge i 64 with hi | hi
    · rw [bt_1 i hi]
      by_cases h0 : i = 0
      · subst h0; simp [h]
      · simp [h0]
    · rw [bt_big hi]; rfl
/-- the test of one bit -/
theorem bt_test {w : Int64} {k : Nat} (hk : k < 64) : ((w.toUInt64 >>> ((nI k).toInt64.toUInt64 &&& Int64.toUInt64 63)).toInt64 &&& 1) = 0 ↔ bt w k = false := by
  rw [bt_and1, bt_ushr w hk 0, Nat.add_zero]
