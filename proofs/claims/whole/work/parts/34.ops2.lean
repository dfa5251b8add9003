/-! cells of water; what is thrown and wished for -/
theorem pd_n42 {P : pd_T} {σ : mm_S} (h : r_pond P σ) : pd_n P ≤ 42 := by
  have h1 := h.1
  have h2 := h.2.1
  unfold pd_n
  exact Nat.le_trans (Nat.mul_le_mul h1 h2) (by decide)
/-- a cell's number: outside for both, or a cell of both -/
theorem cell_3 {P : pd_T} {σ : mm_S} (h : r_pond P σ) (k : Int32) : (¬ p_has_13 σ k ∧ ¬ p_m_isCell σ k) ∨ ∃ c, c < pd_n P ∧ k = nI c ∧ p_has_13 σ k ∧ p_m_isCell σ k ∧ ¬ (k < 0 ∨ 42 ≤ k.toNatClampNeg) ∧ k.toNatClampNeg = c ∧ (p_isWater σ k ↔ P.2.2 c = true) ∧ (σ.2.2.1 41 c = 0 ↔ ¬ P.2.2 c = true) := by
  have hn := pd_n42 h
  obtain ⟨h1, h2, h3, h4, h5, h6, h7, h8, h9⟩ := h
  have ea : f_m_all σ = nI (pd_n P) := by unfold f_m_all pd_n; rw [h5, h6, pk_mul]
  rcases ix_3 k (n := pd_n P) (N := 42) hn (by omega) with q | ⟨c, hc, rfl, q, qg, qc⟩
  · refine Or.inl ⟨?_, ?_⟩
    · unfold p_has_13; rw [h3]; exact q
    · unfold p_m_isCell; rw [ea]; exact q
  · refine Or.inr ⟨c, hc, rfl, ?_, ?_, qg, qc, ?_, ?_⟩
    · unfold p_has_13; rw [h3]; exact q
    · unfold p_m_isCell; rw [ea]; exact q
    · unfold p_isWater
      rw [h3]
      have e := bt_test (w := σ.2.1 1307) (k := c) (by omega)
      rw [h8] at e
      constructor
      · intro z
        have z2 : ¬ P.2.2 c = false := fun y => z.2.2 (e.mpr y)
        cases hh : P.2.2 c
        · exact absurd hh z2
        · rfl
      · intro z
        exact ⟨q.1, q.2, fun y => by rw [e.mp y] at z; cases z⟩
    · rw [h9 c hc]
      by_cases z : P.2.2 c = true
      · rw [if_pos z]; exact ⟨fun y => absurd y (by decide), fun y => absurd z y⟩
      · rw [if_neg z]; exact ⟨fun _ => z, fun _ => rfl⟩
theorem op_water : opI Rel i_X6_water i_X7_water 1 := by
  intro x σ as h hr
  obtain ⟨k, rfl⟩ := as_1 h
  obtain ⟨h1, h2, P, ns, nw, nr, hp, hc, hri, hwy, hs, hw, hre, hti⟩ := id hr
  have c := r_water (d := 999) (x := x) (σ := σ) (k := k) (by omega)
  rcases cell_3 hp k with ⟨q1, q2⟩ | ⟨e, he, rfl, q1, q2, qg, qc, qw, qm⟩
  · have m := r_m_water (d := 999) (x := x) (σ := σ) (c := k) (by omega) (fun z => absurd z q2)
    rw [show f_water σ k = -1 by unfold f_water; rw [if_neg q1]] at c
    rw [show f_m_water σ k = -1 by unfold f_m_water; rw [if_neg q2]] at m
    exact ⟨-1, σ, σ, c, m, hr⟩
  · have m := r_m_water (d := 999) (x := x) (σ := σ) (c := nI e) (by omega) (fun _ => qg)
    by_cases z : P.2.2 e = true
    · rw [show f_water σ (nI e) = 1 by unfold f_water; rw [if_pos q1, if_pos (qw.mpr z)]] at c
      rw [show f_m_water σ (nI e) = 1 by unfold f_m_water; rw [if_pos q2, qc, if_neg (fun y => qm.mp y z)]] at m
      exact ⟨1, σ, σ, c, m, hr⟩
    · rw [show f_water σ (nI e) = 0 by unfold f_water; rw [if_pos q1, if_neg (fun y => z (qw.mp y))]] at c
      rw [show f_m_water σ (nI e) = 0 by unfold f_m_water; rw [if_pos q2, qc, if_pos (qm.mpr z)]] at m
      exact ⟨0, σ, σ, c, m, hr⟩
