/-! how many bits (written by wip/whole/t62.py) -/
def cnt (f : Nat → Bool) : Nat → Nat
  | 0 => 0
  | n + 1 => cnt f n + (if f n = true then 1 else 0)
theorem cnt_cong {f g : Nat → Bool} : ∀ {n : Nat}, (∀ k, k < n → f k = g k) → cnt f n = cnt g n
  | 0, _ => rfl
  | n + 1, h => by
    show cnt f n + (if f n = true then 1 else 0) = cnt g n + (if g n = true then 1 else 0)
    rw [cnt_cong (fun k hk => h k (by omega)), h n (by omega)]
theorem cnt_0 {f : Nat → Bool} : ∀ {n : Nat}, (∀ k, k < n → f k = false) → cnt f n = 0
  | 0, _ => rfl
  | n + 1, h => by
    show cnt f n + (if f n = true then 1 else 0) = 0
    rw [cnt_0 (fun k hk => h k (by omega)), h n (by omega)]; rfl
theorem cnt_le {f : Nat → Bool} : ∀ (n : Nat), cnt f n ≤ n
  | 0 => Nat.le_refl _
  | n + 1 => by
    have := cnt_le (f := f) n
    show cnt f n + (if f n = true then 1 else 0) ≤ n + 1
    split <;> omega
theorem cnt_clear {f g : Nat → Bool} {i : Nat} (hi : f i = true) (hg : g i = false) (h : ∀ k, k ≠ i → g k = f k) : ∀ {n : Nat}, i < n → cnt g n + 1 = cnt f n
  | 0, hn => absurd hn (by omega)
  | n + 1, hn => by
    show cnt g n + (if g n = true then 1 else 0) + 1 = cnt f n + (if f n = true then 1 else 0)
    rcases Nat.lt_or_ge i n with q | q
    · rw [h n (by omega), ← cnt_clear hi hg h q]; omega
    · have e : i = n := by omega
      subst e
      rw [hi, hg, cnt_cong (fun k hk => h k (by omega))]; rfl
def ct64 (q : Int64) : Nat := cnt (bt q) 64
theorem sub1 {q : Int64} (h : ¬ q = 0) : (q - 1).toBitVec = ~~~ (-q.toBitVec) := by
  apply BitVec.eq_of_toNat_eq
  have hp : q.toBitVec.toNat < 2 ^ 64 := q.toBitVec.isLt
  have h0 : q.toBitVec.toNat ≠ 0 := fun z => h (Int64.toBitVec_inj.mp (BitVec.eq_of_toNat_eq (by rw [z]; rfl)))
  rw [Int64.toBitVec_sub, BitVec.toNat_sub, BitVec.toNat_not, BitVec.toNat_neg]
  have e1 : (Int64.toBitVec 1).toNat = 1 := rfl
  rw [e1]
  omega
theorem bt_clear {q : Int64} {i : Nat} (hi : bt q i = true) (hl : ∀ j, j < i → bt q j = false) (k : Nat) : bt (q &&& (q - 1)) k = (bt q k && !decide (k = i)) := by
  rcases Nat.lt_or_ge k 64 with hk | hk
  · have hq : ¬ q = 0 := bt_nz hi
    have e : bt (q - 1) k = !(bt q k ^^ decide (∃ j, j < k ∧ bt q j = true)) := by
      rw [← bt_neg q hk]
      unfold bt
      rw [sub1 hq, BitVec.getLsbD_not, Int64.toBitVec_neg]
      simp [hk]
    rw [bt_and, e]
    rcases Nat.lt_trichotomy k i with z | z | z
    · rw [hl k z]; rfl
    · subst z
      have : ¬ ∃ j, j < k ∧ bt q j = true := by
        rintro ⟨j, h1, h2⟩
        rw [hl j h1] at h2; cases h2
      simp [hi, this]
    · have h1 : ∃ j, j < k ∧ bt q j = true := ⟨i, z, hi⟩
      have h2 : ¬ k = i := by omega
      simp only [h1, h2, decide_true, decide_false]
      cases bt q k <;> rfl
  · rw [bt_big hk, bt_big hk]; rfl
theorem ct_clear {q : Int64} {i : Nat} (hi : bt q i = true) (hl : ∀ j, j < i → bt q j = false) : ct64 (q &&& (q - 1)) + 1 = ct64 q := by
  have h64 : i < 64 := by
    rcases Nat.lt_or_ge i 64 with z | z
    · exact z
    · rw [bt_big z] at hi; cases hi
  refine cnt_clear hi ?_ (fun k hk => ?_) h64
  · rw [bt_clear hi hl]; simp
  · rw [bt_clear hi hl]; simp [hk]
