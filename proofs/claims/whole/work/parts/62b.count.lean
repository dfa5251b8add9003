/-! bytes -/
def VB : Nat → (Nat → Nat) → Nat
  | 0, _ => 0
  | k + 1, f => f 0 + 256 * VB k (fun i => f (i + 1))
theorem and_sp {a m A M : Nat} (ha : a < 256) (hm : m < 256) : (a + 256 * A) &&& (m + 256 * M) = (a &&& m) + 256 * (A &&& M) := by
  have hb : (a &&& m) < 2 ^ 8 := Nat.lt_of_le_of_lt Nat.and_le_left ha
  apply Nat.eq_of_testBit_eq
  intro i
  rw [Nat.testBit_and, Nat.add_comm a, Nat.add_comm m, Nat.add_comm (a &&& m), show 256 = 2 ^ 8 from rfl, Nat.testBit_two_pow_mul_add _ ha, Nat.testBit_two_pow_mul_add _ hm, Nat.testBit_two_pow_mul_add _ hb]
  split
  · rw [Nat.testBit_and]
  · rw [Nat.testBit_and]
theorem b55 : ∀ a, a < 256 → ∀ e, e < 2 → ((a / 2 + 128 * e) &&& 85) = ((a / 2) &&& 85) := by decide +kernel
theorem b33 : ∀ a, a < 256 → ∀ e, e < 4 → ((a / 4 + 64 * e) &&& 51) = ((a / 4) &&& 51) := by decide +kernel
theorem b0f : ∀ a, a < 256 → a % 16 ≤ 4 → a / 16 ≤ 4 → ∀ e, e < 5 → (a + a / 16 + 16 * e) < 256 ∧ ((a + a / 16 + 16 * e) &&& 15) = ((a + a / 16) &&& 15) := by decide +kernel
theorem VB_and {m : Nat} (hm : m < 256) : ∀ (k : Nat) (f : Nat → Nat), (∀ i, i < k → f i < 256) → VB k f &&& VB k (fun _ => m) = VB k (fun i => f i &&& m)
  | 0, _, _ => by simp [VB]
  | k + 1, f, h => by
    show (f 0 + 256 * VB k (fun i => f (i + 1))) &&& (m + 256 * VB k (fun _ => m)) = (f 0 &&& m) + 256 * VB k (fun i => f (i + 1) &&& m)
    rw [and_sp (h 0 (by omega)) hm, VB_and hm k _ (fun i hi => h (i + 1) (by omega))]
theorem VB_2 : ∀ (k : Nat) (f : Nat → Nat), (∀ i, i < k → f i < 256) → (VB k f / 2) &&& VB k (fun _ => 85) = VB k (fun i => (f i / 2) &&& 85)
  | 0, _, _ => by simp [VB]
  | k + 1, f, h => by
    have h0 := h 0 (by omega)
    show ((f 0 + 256 * VB k (fun i => f (i + 1))) / 2) &&& (85 + 256 * VB k (fun _ => 85)) = ((f 0 / 2) &&& 85) + 256 * VB k (fun i => (f (i + 1) / 2) &&& 85)
    rw [show (f 0 + 256 * VB k (fun i => f (i + 1))) / 2 = (f 0 / 2 + 128 * (VB k (fun i => f (i + 1)) % 2)) + 256 * (VB k (fun i => f (i + 1)) / 2) by omega, and_sp (by omega) (by decide), b55 _ h0 _ (by omega), VB_2 k _ (fun i hi => h (i + 1) (by omega))]
theorem VB_4 : ∀ (k : Nat) (f : Nat → Nat), (∀ i, i < k → f i < 256) → (VB k f / 4) &&& VB k (fun _ => 51) = VB k (fun i => (f i / 4) &&& 51)
  | 0, _, _ => by simp [VB]
  | k + 1, f, h => by
    have h0 := h 0 (by omega)
    show ((f 0 + 256 * VB k (fun i => f (i + 1))) / 4) &&& (51 + 256 * VB k (fun _ => 51)) = ((f 0 / 4) &&& 51) + 256 * VB k (fun i => (f (i + 1) / 4) &&& 51)
    rw [show (f 0 + 256 * VB k (fun i => f (i + 1))) / 4 = (f 0 / 4 + 64 * (VB k (fun i => f (i + 1)) % 4)) + 256 * (VB k (fun i => f (i + 1)) / 4) by omega, and_sp (by omega) (by decide), b33 _ h0 _ (by omega), VB_4 k _ (fun i hi => h (i + 1) (by omega))]
theorem VB_m16 {k : Nat} {f : Nat → Nat} (h : ∀ i, i < k → f i % 16 ≤ 4) : VB k f % 16 < 5 := by
  cases k with
  | zero => show 0 % 16 < 5; decide
  | succ k =>
    have := h 0 (by omega)
    show (f 0 + 256 * VB k (fun i => f (i + 1))) % 16 < 5
    omega
theorem VB_16 : ∀ (k : Nat) (f : Nat → Nat), (∀ i, i < k → f i < 256 ∧ f i % 16 ≤ 4 ∧ f i / 16 ≤ 4) → (VB k f + VB k f / 16) &&& VB k (fun _ => 15) = VB k (fun i => (f i + f i / 16) &&& 15)
  | 0, _, _ => by simp [VB]
  | k + 1, f, h => by
    obtain ⟨h0, h1, h2⟩ := h 0 (by omega)
    have hV := VB_m16 (k := k) (f := fun i => f (i + 1)) (fun i hi => (h (i + 1) (by omega)).2.1)
    obtain ⟨b1, b2⟩ := b0f (f 0) h0 h1 h2 _ hV
    show ((f 0 + 256 * VB k (fun i => f (i + 1))) + (f 0 + 256 * VB k (fun i => f (i + 1))) / 16) &&& (15 + 256 * VB k (fun _ => 15)) = ((f 0 + f 0 / 16) &&& 15) + 256 * VB k (fun i => (f (i + 1) + f (i + 1) / 16) &&& 15)
    rw [show (f 0 + 256 * VB k (fun i => f (i + 1))) + (f 0 + 256 * VB k (fun i => f (i + 1))) / 16 = (f 0 + f 0 / 16 + 16 * (VB k (fun i => f (i + 1)) % 16)) + 256 * (VB k (fun i => f (i + 1)) + VB k (fun i => f (i + 1)) / 16) by omega, and_sp b1 (by decide), b2, VB_16 k _ (fun i hi => h (i + 1) (by omega))]
theorem VB_sub : ∀ (k : Nat) (f g : Nat → Nat), (∀ i, i < k → g i ≤ f i) → VB k f - VB k g = VB k (fun i => f i - g i) ∧ VB k g ≤ VB k f
  | 0, _, _, _ => ⟨rfl, Nat.le_refl _⟩
  | k + 1, f, g, h => by
    have h0 := h 0 (by omega)
    obtain ⟨e1, e2⟩ := VB_sub k (fun i => f (i + 1)) (fun i => g (i + 1)) (fun i hi => h (i + 1) (by omega))
    show (f 0 + 256 * VB k (fun i => f (i + 1))) - (g 0 + 256 * VB k (fun i => g (i + 1))) = (f 0 - g 0) + 256 * VB k (fun i => f (i + 1) - g (i + 1)) ∧ g 0 + 256 * VB k (fun i => g (i + 1)) ≤ f 0 + 256 * VB k (fun i => f (i + 1))
    rw [← e1]
    omega
theorem VB_add : ∀ (k : Nat) (f g : Nat → Nat), VB k f + VB k g = VB k (fun i => f i + g i)
  | 0, _, _ => rfl
  | k + 1, f, g => by
    show (f 0 + 256 * VB k (fun i => f (i + 1))) + (g 0 + 256 * VB k (fun i => g (i + 1))) = (f 0 + g 0) + 256 * VB k (fun i => f (i + 1) + g (i + 1))
    rw [← VB_add k]; omega
theorem VB_lt : ∀ (k : Nat) (f : Nat → Nat), (∀ i, i < k → f i < 256) → VB k f < 256 ^ k
  | 0, _, _ => Nat.zero_lt_one
  | k + 1, f, h => by
    have h0 := h 0 (by omega)
    have := VB_lt k (fun i => f (i + 1)) (fun i hi => h (i + 1) (by omega))
    show f 0 + 256 * VB k (fun i => f (i + 1)) < 256 ^ (k + 1)
    rw [Nat.pow_succ]; omega
