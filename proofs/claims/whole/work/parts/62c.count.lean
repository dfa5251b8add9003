def by8 (N : Nat) : Nat → Nat
  | 0 => N % 256
  | i + 1 => by8 (N / 256) i
theorem by8_lt : ∀ (i N : Nat), by8 N i < 256
  | 0, N => Nat.mod_lt _ (by decide)
  | i + 1, N => by8_lt i (N / 256)
theorem by8_eq : ∀ (i N : Nat), by8 N i = N / 256 ^ i % 256
  | 0, N => by show N % 256 = N / 1 % 256; rw [Nat.div_one]
  | i + 1, N => by
    show by8 (N / 256) i = _
    rw [by8_eq i, Nat.div_div_eq_div_mul, Nat.pow_succ, Nat.mul_comm 256]
theorem VB_k : ∀ (k N : Nat), N < 256 ^ k → VB k (by8 N) = N
  | 0, N, h => by
    have : N = 0 := by rw [Nat.pow_zero] at h; omega
    rw [this]; rfl
  | k + 1, N, h => by
    show N % 256 + 256 * VB k (by8 (N / 256)) = N
    rw [VB_k k (N / 256) (by rw [Nat.pow_succ] at h; exact Nat.div_lt_of_lt_mul (by rw [Nat.mul_comm]; exact h))]
    exact Nat.mod_add_div N 256
theorem VB_8 {N : Nat} (h : N < 2 ^ 64) : VB 8 (by8 N) = N := VB_k 8 N h
def p8a (b : Nat) : Nat := b - ((b / 2) &&& 85)
def p8b (b : Nat) : Nat := (p8a b &&& 51) + ((p8a b / 4) &&& 51)
def p8c (b : Nat) : Nat := (p8b b + p8b b / 16) &&& 15
def pop8 (b : Nat) : Nat := b % 2 + b / 2 % 2 + b / 4 % 2 + b / 8 % 2 + b / 16 % 2 + b / 32 % 2 + b / 64 % 2 + b / 128 % 2
theorem p8_ok : ∀ b, b < 256 → ((b / 2) &&& 85) ≤ b ∧ p8a b < 256 ∧ p8b b < 256 ∧ p8b b % 16 ≤ 4 ∧ p8b b / 16 ≤ 4 ∧ p8c b = pop8 b ∧ pop8 b ≤ 8 := by decide +kernel
