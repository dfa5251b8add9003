theorem bc64_sum (q : Int64) : bc64 q = nI (pop8 (by8 q.toBitVec.toNat 0) + pop8 (by8 q.toBitVec.toNat 1) + pop8 (by8 q.toBitVec.toNat 2) + pop8 (by8 q.toBitVec.toNat 3) + pop8 (by8 q.toBitVec.toNat 4) + pop8 (by8 q.toBitVec.toNat 5) + pop8 (by8 q.toBitVec.toNat 6) + pop8 (by8 q.toBitVec.toNat 7)) := by
  obtain ⟨N, hN⟩ : ∃ N, N = q.toBitVec.toNat := ⟨_, rfl⟩
  have hlt : N < 2 ^ 64 := by rw [hN]; exact q.toBitVec.isLt
  rw [← hN]
  have b8 : ∀ i, i < 8 → by8 N i < 256 := fun i _ => by8_lt i N
  have s1 : (bs1 q).toBitVec.toNat = VB 8 (fun i => p8a (by8 N i)) := by
    have e := VB_2 8 (by8 N) b8
    rw [VB_8 hlt] at e
    have m : VB 8 (fun _ => 85) = (6148914691236517205 : Int64).toBitVec.toNat := by decide +kernel
    rw [m] at e
    obtain ⟨f1, f2⟩ := VB_sub 8 (by8 N) (fun i => (by8 N i / 2) &&& 85) (fun i hi => (p8_ok _ (b8 i hi)).1)
    rw [VB_8 hlt] at f1 f2
    unfold bs1
    rw [uN_sub, uN_andb, show (1 : Int32) = nI 1 from rfl, uN_shrb q (by decide), ← hN, Nat.pow_one, e]
    have f3 : VB 8 (fun i => p8a (by8 N i)) = N - VB 8 (fun i => (by8 N i / 2) &&& 85) := f1.symm
    rw [f3]; omega
  have a8 : ∀ i, i < 8 → p8a (by8 N i) < 256 := fun i hi => (p8_ok _ (b8 i hi)).2.1
  have s2 : (bs2 (bs1 q)).toBitVec.toNat = VB 8 (fun i => p8b (by8 N i)) := by
    have e := VB_4 8 (fun i => p8a (by8 N i)) a8
    have e' := VB_and (m := 51) (by decide) 8 (fun i => p8a (by8 N i)) a8
    have m : VB 8 (fun _ => 51) = (3689348814741910323 : Int64).toBitVec.toNat := by decide +kernel
    rw [m, ← s1] at e e'
    unfold bs2
    rw [uN_addb, uN_andb, uN_andb, show (2 : Int32) = nI 2 from rfl, uN_shrb _ (by decide), show 2 ^ 2 = 4 from rfl, e, e', VB_add]
    exact Nat.mod_eq_of_lt (VB_lt 8 (fun i => p8b (by8 N i)) (fun i hi => (p8_ok _ (b8 i hi)).2.2.1))
  have s3 : (bs3 (bs2 (bs1 q))).toBitVec.toNat = VB 8 (fun i => pop8 (by8 N i)) := by
    have e := VB_16 8 (fun i => p8b (by8 N i)) (fun i hi => ⟨(p8_ok _ (b8 i hi)).2.2.1, (p8_ok _ (b8 i hi)).2.2.2.1, (p8_ok _ (b8 i hi)).2.2.2.2.1⟩)
    have m : VB 8 (fun _ => 15) = (1085102592571150095 : Int64).toBitVec.toNat := by decide +kernel
    rw [m] at e
    have small : VB 8 (fun i => p8b (by8 N i)) ≤ 4919131752989213764 := by
      have q : ∀ i, i < 8 → p8b (by8 N i) ≤ 68 := fun i hi => by
        have h1 := (p8_ok _ (b8 i hi)).2.2.2.1
        have h2 := (p8_ok _ (b8 i hi)).2.2.2.2.1
        omega
      have := q 0 (by omega)
      have := q 1 (by omega)
      have := q 2 (by omega)
      have := q 3 (by omega)
      have := q 4 (by omega)
      have := q 5 (by omega)
      have := q 6 (by omega)
      have := q 7 (by omega)
      show p8b (by8 N 0) + 256 * (p8b (by8 N 1) + 256 * (p8b (by8 N 2) + 256 * (p8b (by8 N 3) + 256 * (p8b (by8 N 4) + 256 * (p8b (by8 N 5) + 256 * (p8b (by8 N 6) + 256 * (p8b (by8 N 7) + 256 * 0))))))) ≤ _
      omega
    unfold bs3
    rw [uN_andb, uN_addb, show (4 : Int32) = nI 4 from rfl, uN_shrb _ (by decide), show 2 ^ 4 = 16 from rfl, s2, Nat.mod_eq_of_lt (by omega), e]
    have : (fun i => (p8b (by8 N i) + p8b (by8 N i) / 16) &&& 15) = fun i => p8c (by8 N i) := rfl
    rw [this]
    show VB 8 (fun i => p8c (by8 N i)) = VB 8 (fun i => pop8 (by8 N i))
    have e3 : ∀ i, p8c (by8 N i) = pop8 (by8 N i) := fun i => (p8_ok _ (by8_lt i N)).2.2.2.2.2.1
    rw [show (fun i => p8c (by8 N i)) = fun i => pop8 (by8 N i) from funext e3]
  have g : ∀ i, pop8 (by8 N i) ≤ 8 := fun i => (p8_ok _ (by8_lt i N)).2.2.2.2.2.2
  have g0 := g 0
  have g1 := g 1
  have g2 := g 2
  have g3 := g 3
  have g4 := g 4
  have g5 := g 5
  have g6 := g 6
  have g7 := g 7
  have s3' : (bs3 (bs2 (bs1 q))).toBitVec.toNat = pop8 (by8 N 0) + 256 * (pop8 (by8 N 1) + 256 * (pop8 (by8 N 2) + 256 * (pop8 (by8 N 3) + 256 * (pop8 (by8 N 4) + 256 * (pop8 (by8 N 5) + 256 * (pop8 (by8 N 6) + 256 * (pop8 (by8 N 7) + 256 * 0))))))) := s3
  exact bc64_fin q _ s3' g0 g1 g2 g3 g4 g5 g6 g7 rfl
