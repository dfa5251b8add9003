/-! stones and reeds -/
theorem kind_iff (τ σ : mm_S) (k : Int32) : p_m_within τ k 0 2 ↔ p_isKind σ k := by
  unfold p_m_within p_isKind
  simp only [Int32.lt_iff_toInt_lt, Int32.le_iff_toInt_le]
  have e0 : (0 : Int32).toInt = 0 := rfl
  have e2 : (2 : Int32).toInt = 2 := rfl
  have e3 : (3 : Int32).toInt = 3 := rfl
  rw [e0, e2, e3]
  omega
theorem min_iff (τ σ : mm_S) (k : Int32) : p_m_within τ k 0 99 ↔ p_isMinute σ k := Iff.rfl
theorem kind_kd {σ : mm_S} {k : Int32} (h : p_isKind σ k) : kd k := by
  rcases mm_sw0_2 k with q | q | q | q
  · exact Or.inl q
  · exact Or.inr (Or.inl q)
  · exact Or.inr (Or.inr q)
  · unfold p_isKind at h
    simp only [Int32.lt_iff_toInt_lt, Int32.le_iff_toInt_le] at h
    have e0 : (0 : Int32).toInt = 0 := rfl
    have e3 : (3 : Int32).toInt = 3 := rfl
    rw [e0, e3] at h
    omega
theorem min_nI {σ : mm_S} {k : Int32} (h : p_isMinute σ k) : ∃ m : Nat, m ≤ 99 ∧ k = nI m := nI_of2 (M := 99) (n := 99) rfl h.1 (by
  have := h.2
  rw [Int32.lt_iff_toInt_lt] at this
  rw [Int32.le_iff_toInt_le]
  omega)
theorem nI_p1m1 (n : Nat) : nI n + 1 - 1 = nI n := by
  rw [nI_1, nI_pred]
theorem upd_at (f : Nat → Int32) (n : Nat) (x : Int32) (i : Nat) : upd f n x i = if i = n then x else f i := rfl
theorem op_stone : opI Rel i_X6_stone i_X7_stone 3 := by
  intro x σ as h hr
  obtain ⟨k, c, m, rfl⟩ := as_3 h
  obtain ⟨h1, h2, P, ns, nw, nr, hp, hc, hri, hwy, hs, hw, hre, hti⟩ := id hr
  have hcn := hs
  obtain ⟨n, en⟩ : ∃ n, n = ns := ⟨_, rfl⟩
  have hn := hs.1
  have ec := hs.2.1
  have em := hs.2.2.1
  rw [← en] at hn ec em hcn
  have hg : ¬ (σ.1 1603 < 0 ∨ 8 ≤ (σ.1 1603).toNatClampNeg) ∨ n = 8 := by
    rcases Nat.lt_or_ge n 8 with q | q
    · rw [ec]; exact Or.inl (nI_in q (by omega))
    · exact Or.inr (by omega)
  have hgC : σ.1 1603 < Int32.ofNat 8 → ¬ (σ.1 1603 < 0 ∨ 8 ≤ (σ.1 1603).toNatClampNeg) := by
    intro q
    rcases hg with z | z
    · exact z
    · rw [ec, z] at q; exact absurd q (by decide)
  have c9 := r_stone (d := 999) (x := x) (σ := σ) (k := k) (c := c) (m := m) (by omega) (fun _ _ _ _ q => hgC q) (fun _ _ _ _ q => hgC q) (fun _ _ _ _ q => hgC q)
  rcases cell_3 hp c with ⟨q1, q2⟩ | ⟨e, he, rfl, q1, q2, qg, qc, qw, qx⟩
  · have m9 := r_m_stone (d := 999) (x := x) (σ := σ) (k := k) (c := c) (t := m) (by omega) (fun z => absurd z q2) (fun z => absurd z q2) (fun z => absurd z q2) (fun z => absurd z q2)
    rw [show f_stone σ k c m = -1 by unfold f_stone; rw [if_neg q1], show g_stone σ k c m = σ by unfold g_stone; rw [if_neg q1]] at c9
    rw [show f_m_stone σ k c m = -1 by unfold f_m_stone; rw [if_neg q2], show g_m_stone σ k c m = σ by unfold g_m_stone; rw [if_neg q2]] at m9
    exact ⟨-1, σ, σ, c9, m9, hr⟩
  · have m9 := fun (τ : mm_S) (hgm : ¬ τ.1 3713 = 8 → ¬ (τ.1 3713 < 0 ∨ 8 ≤ (τ.1 3713).toNatClampNeg)) => r_m_stone (d := 999) (x := x) (σ := τ) (k := k) (c := nI e) (t := m) (by omega) (fun _ _ _ => qg) (fun _ _ _ _ q => hgm q) (fun _ _ _ _ q => hgm q) (fun _ _ _ _ q => hgm q)
    have hgm : ¬ σ.1 3713 = 8 → ¬ (σ.1 3713 < 0 ∨ 8 ≤ (σ.1 3713).toNatClampNeg) := by
      intro q
      rcases Nat.lt_or_ge n 8 with z | z
      · rw [em]; exact nI_in z (by omega)
      · exfalso; apply q; rw [em, show n = 8 by omega]; rfl
    by_cases qk : p_isKind σ k
    rotate_left
    · rw [show f_stone σ k (nI e) m = -2 by unfold f_stone; rw [if_pos q1, if_neg qk], show g_stone σ k (nI e) m = σ by unfold g_stone; rw [if_pos q1, if_neg qk]] at c9
      have m8 := m9 σ hgm
      rw [show f_m_stone σ k (nI e) m = -2 by unfold f_m_stone; rw [if_pos q2, if_neg (fun z => qk ((kind_iff σ σ k).mp z))], show g_m_stone σ k (nI e) m = σ by unfold g_m_stone; rw [if_pos q2, if_neg (fun z => qk ((kind_iff σ σ k).mp z))]] at m8
      exact ⟨-2, σ, σ, c9, m8, hr⟩
    by_cases qm : p_isMinute σ m
    rotate_left
    · rw [show f_stone σ k (nI e) m = -2 by unfold f_stone; rw [if_pos q1, if_pos qk, if_neg qm], show g_stone σ k (nI e) m = σ by unfold g_stone; rw [if_pos q1, if_pos qk, if_neg qm]] at c9
      have m8 := m9 σ hgm
      rw [show f_m_stone σ k (nI e) m = -2 by unfold f_m_stone; rw [if_pos q2, if_pos ((kind_iff σ σ k).mpr qk), if_neg qm], show g_m_stone σ k (nI e) m = σ by unfold g_m_stone; rw [if_pos q2, if_pos ((kind_iff σ σ k).mpr qk), if_neg qm]] at m8
      exact ⟨-2, σ, σ, c9, m8, hr⟩
    by_cases z : P.2.2 e = true
    rotate_left
    · rw [show f_stone σ k (nI e) m = -3 by unfold f_stone; rw [if_pos q1, if_pos qk, if_pos qm, if_neg (fun y => z (qw.mp y))], show g_stone σ k (nI e) m = σ by unfold g_stone; rw [if_pos q1, if_pos qk, if_pos qm, if_neg (fun y => z (qw.mp y))]] at c9
      have m8 := m9 σ hgm
      rw [show f_m_stone σ k (nI e) m = -3 by unfold f_m_stone; rw [if_pos q2, if_pos ((kind_iff σ σ k).mpr qk), if_pos qm, qc, if_pos (qx.mpr z)], show g_m_stone σ k (nI e) m = σ by unfold g_m_stone; rw [if_pos q2, if_pos ((kind_iff σ σ k).mpr qk), if_pos qm, qc, if_pos (qx.mpr z)]] at m8
      exact ⟨-3, σ, σ, c9, m8, hr⟩
    rcases Nat.lt_or_ge n 8 with hlt | hge
    rotate_left
    · have hnc : n = 8 := by omega
      have e1 : ¬ σ.1 1603 < Int32.ofNat 8 := by rw [ec, hnc]; decide
      have e2 : σ.1 3713 = 8 := by rw [em, hnc]; rfl
      rw [show f_stone σ k (nI e) m = -4 by unfold f_stone; rw [if_pos q1, if_pos qk, if_pos qm, if_pos (qw.mpr z)]; unfold f_add_16; rw [if_neg e1], show g_stone σ k (nI e) m = σ by unfold g_stone; rw [if_pos q1, if_pos qk, if_pos qm, if_pos (qw.mpr z)]; unfold g_add_16; rw [if_neg e1]] at c9
      have m8 := m9 σ hgm
      rw [show f_m_stone σ k (nI e) m = -4 by unfold f_m_stone; rw [if_pos q2, if_pos ((kind_iff σ σ k).mpr qk), if_pos qm, qc, if_neg (fun y => qx.mp y z), if_pos e2], show g_m_stone σ k (nI e) m = σ by unfold g_m_stone; rw [if_pos q2, if_pos ((kind_iff σ σ k).mpr qk), if_pos qm, qc, if_neg (fun y => qx.mp y z), if_pos e2]] at m8
      exact ⟨-4, σ, σ, c9, m8, hr⟩
    · have e1 : σ.1 1603 < Int32.ofNat 8 := by rw [ec]; exact nI_lt hlt (by decide)
      rw [show f_stone σ k (nI e) m = nI n by unfold f_stone; rw [if_pos q1, if_pos qk, if_pos qm, if_pos (qw.mpr z)]; unfold f_add_16; rw [if_pos e1, ec, nI_p1m1], show g_stone σ k (nI e) m = ui (ua (ua (ua σ 17 (upd (σ.2.2.1 17) n k)) 18 (upd (σ.2.2.1 18) n (nI e))) 19 (upd (σ.2.2.1 19) n m)) 1603 (nI (n + 1)) by unfold g_stone; rw [if_pos q1, if_pos qk, if_pos qm, if_pos (qw.mpr z)]; unfold g_add_16; rw [if_pos e1, ec, nI_1, nI_clamp (by omega)]] at c9
      have mf : ∀ τ : mm_S, p_m_isCell τ (nI e) → τ.1 3713 = nI n → ¬ τ.2.2.1 41 e = 0 → mm_Runs 999 i_X7_stone (0, [some (.ref 37), some (.int k), some (.int (nI e)), some (.int m)], [], HH x τ) (some (.int (nI n)), HH x (ui (ua (ua (ua τ 44 (upd (τ.2.2.1 44) n k)) 45 (upd (τ.2.2.1 45) n (nI e))) 46 (upd (τ.2.2.1 46) n m)) 3713 (nI (n + 1)))) := by
        intro τ t1 t2 t3
        have t4 : ¬ τ.1 3713 = 8 := by
          rw [t2]
          intro y
          have y2 : nI n = nI 8 := y
          rw [nI_eq (by omega) (by omega)] at y2
          omega
        have m8 := m9 τ (fun _ => by rw [t2]; exact nI_in hlt (by omega))
        rw [show f_m_stone τ k (nI e) m = nI n by unfold f_m_stone; rw [if_pos t1, if_pos ((kind_iff τ σ k).mpr qk), if_pos qm, qc, if_neg t3, if_neg t4, t2, nI_p1m1], show g_m_stone τ k (nI e) m = ui (ua (ua (ua τ 44 (upd (τ.2.2.1 44) n k)) 45 (upd (τ.2.2.1 45) n (nI e))) 46 (upd (τ.2.2.1 46) n m)) 3713 (nI (n + 1)) by unfold g_m_stone; rw [if_pos t1, if_pos ((kind_iff τ σ k).mpr qk), if_pos qm, qc, if_neg t3, if_neg t4, t2, nI_1, nI_clamp (by omega)]] at m8
        exact m8
      refine ⟨_, _, _, c9, mf _ q2 em (fun y => qx.mp y z), ⟨h1, h2, P, n + 1, nw, nr, hp, hc, hri, hwy, ?_, hw, hre, hti⟩⟩
      refine ⟨by omega, rfl, rfl, fun i hi => ?_⟩
      rcases Nat.lt_or_ge i n with hi2 | hi2
      · have hne : ¬ i = n := by omega
        have hh := hcn.2.2.2 i hi2
        show (upd (σ.2.2.1 17) n k i = upd (σ.2.2.1 44) n k i ∧ upd (σ.2.2.1 18) n (nI e) i = upd (σ.2.2.1 45) n (nI e) i ∧ upd (σ.2.2.1 19) n m i = upd (σ.2.2.1 46) n m i) ∧ kd (upd (σ.2.2.1 17) n k i) ∧ (∃ c, upd (σ.2.2.1 18) n (nI e) i = nI c ∧ P.2.2 c = true) ∧ ∃ m9 : Nat, m9 ≤ 99 ∧ upd (σ.2.2.1 19) n m i = nI m9
        simp only [upd_at, if_neg hne]
        exact hh
      · have hne : i = n := by omega
        subst hne
        show (upd (σ.2.2.1 17) i k i = upd (σ.2.2.1 44) i k i ∧ upd (σ.2.2.1 18) i (nI e) i = upd (σ.2.2.1 45) i (nI e) i ∧ upd (σ.2.2.1 19) i m i = upd (σ.2.2.1 46) i m i) ∧ kd (upd (σ.2.2.1 17) i k i) ∧ (∃ c, upd (σ.2.2.1 18) i (nI e) i = nI c ∧ P.2.2 c = true) ∧ ∃ m9 : Nat, m9 ≤ 99 ∧ upd (σ.2.2.1 19) i m i = nI m9
        simp only [upd_at, if_true]
        exact ⟨by simp, kind_kd qk, ⟨e, rfl, z⟩, min_nI qm⟩
theorem op_reed : opI Rel i_X6_reed i_X7_reed 2 := by
  intro x σ as h hr
  obtain ⟨c, m, rfl⟩ := as_2 h
  obtain ⟨h1, h2, P, ns, nw, nr, hp, hc, hri, hwy, hs, hw, hre, hti⟩ := id hr
  have hcn := hre
  obtain ⟨n, en⟩ : ∃ n, n = nr := ⟨_, rfl⟩
  have hn := hre.1
  have ec := hre.2.1
  have em := hre.2.2.1
  rw [← en] at hn ec em hcn
  have hg : ¬ (σ.1 2403 < 0 ∨ 6 ≤ (σ.1 2403).toNatClampNeg) ∨ n = 6 := by
    rcases Nat.lt_or_ge n 6 with q | q
    · rw [ec]; exact Or.inl (nI_in q (by omega))
    · exact Or.inr (by omega)
  have hgC : σ.1 2403 < Int32.ofNat 6 → ¬ (σ.1 2403 < 0 ∨ 6 ≤ (σ.1 2403).toNatClampNeg) := by
    intro q
    rcases hg with z | z
    · exact z
    · rw [ec, z] at q; exact absurd q (by decide)
  have c9 := r_reed (d := 999) (x := x) (σ := σ) (c := c) (m := m) (by omega) (fun _ _ _ q => hgC q) (fun _ _ _ q => hgC q) (fun _ _ _ q => hgC q)
  rcases cell_3 hp c with ⟨q1, q2⟩ | ⟨e, he, rfl, q1, q2, qg, qc, qw, qx⟩
  · have m9 := r_m_reed (d := 999) (x := x) (σ := σ) (c := c) (t := m) (by omega) (fun z => absurd z q2) (fun z => absurd z q2) (fun z => absurd z q2)
    rw [show f_reed σ c m = -1 by unfold f_reed; rw [if_neg q1], show g_reed σ c m = σ by unfold g_reed; rw [if_neg q1]] at c9
    rw [show f_m_reed σ c m = -1 by unfold f_m_reed; rw [if_neg q2], show g_m_reed σ c m = σ by unfold g_m_reed; rw [if_neg q2]] at m9
    exact ⟨-1, σ, σ, c9, m9, hr⟩
  · have m9 := fun (τ : mm_S) (hgm : ¬ τ.1 3725 = 6 → ¬ (τ.1 3725 < 0 ∨ 6 ≤ (τ.1 3725).toNatClampNeg)) => r_m_reed (d := 999) (x := x) (σ := τ) (c := nI e) (t := m) (by omega) (fun _ _ => qg) (fun _ _ _ q => hgm q) (fun _ _ _ q => hgm q)
    have hgm : ¬ σ.1 3725 = 6 → ¬ (σ.1 3725 < 0 ∨ 6 ≤ (σ.1 3725).toNatClampNeg) := by
      intro q
      rcases Nat.lt_or_ge n 6 with z | z
      · rw [em]; exact nI_in z (by omega)
      · exfalso; apply q; rw [em, show n = 6 by omega]; rfl
    by_cases qm : p_isMinute σ m
    rotate_left
    · rw [show f_reed σ (nI e) m = -2 by unfold f_reed; rw [if_pos q1, if_neg qm], show g_reed σ (nI e) m = σ by unfold g_reed; rw [if_pos q1, if_neg qm]] at c9
      have m8 := m9 σ hgm
      rw [show f_m_reed σ (nI e) m = -2 by unfold f_m_reed; rw [if_pos q2, if_neg qm], show g_m_reed σ (nI e) m = σ by unfold g_m_reed; rw [if_pos q2, if_neg qm]] at m8
      exact ⟨-2, σ, σ, c9, m8, hr⟩
    by_cases z : P.2.2 e = true
    rotate_left
    · rw [show f_reed σ (nI e) m = -3 by unfold f_reed; rw [if_pos q1, if_pos qm, if_neg (fun y => z (qw.mp y))], show g_reed σ (nI e) m = σ by unfold g_reed; rw [if_pos q1, if_pos qm, if_neg (fun y => z (qw.mp y))]] at c9
      have m8 := m9 σ hgm
      rw [show f_m_reed σ (nI e) m = -3 by unfold f_m_reed; rw [if_pos q2, if_pos qm, qc, if_pos (qx.mpr z)], show g_m_reed σ (nI e) m = σ by unfold g_m_reed; rw [if_pos q2, if_pos qm, qc, if_pos (qx.mpr z)]] at m8
      exact ⟨-3, σ, σ, c9, m8, hr⟩
    rcases Nat.lt_or_ge n 6 with hlt | hge
    rotate_left
    · have hnc : n = 6 := by omega
      have e1 : ¬ σ.1 2403 < Int32.ofNat 6 := by rw [ec, hnc]; decide
      have e2 : σ.1 3725 = 6 := by rw [em, hnc]; rfl
      rw [show f_reed σ (nI e) m = -4 by unfold f_reed; rw [if_pos q1, if_pos qm, if_pos (qw.mpr z)]; unfold f_add_24; rw [if_neg e1], show g_reed σ (nI e) m = σ by unfold g_reed; rw [if_pos q1, if_pos qm, if_pos (qw.mpr z)]; unfold g_add_24; rw [if_neg e1]] at c9
      have m8 := m9 σ hgm
      rw [show f_m_reed σ (nI e) m = -4 by unfold f_m_reed; rw [if_pos q2, if_pos qm, qc, if_neg (fun y => qx.mp y z), if_pos e2], show g_m_reed σ (nI e) m = σ by unfold g_m_reed; rw [if_pos q2, if_pos qm, qc, if_neg (fun y => qx.mp y z), if_pos e2]] at m8
      exact ⟨-4, σ, σ, c9, m8, hr⟩
    · have e1 : σ.1 2403 < Int32.ofNat 6 := by rw [ec]; exact nI_lt hlt (by decide)
      rw [show f_reed σ (nI e) m = nI n by unfold f_reed; rw [if_pos q1, if_pos qm, if_pos (qw.mpr z)]; unfold f_add_24; rw [if_pos e1, ec, nI_p1m1], show g_reed σ (nI e) m = ui (ua (ua (ua σ 25 (upd (σ.2.2.1 25) n 0)) 26 (upd (σ.2.2.1 26) n (nI e))) 27 (upd (σ.2.2.1 27) n m)) 2403 (nI (n + 1)) by unfold g_reed; rw [if_pos q1, if_pos qm, if_pos (qw.mpr z)]; unfold g_add_24; rw [if_pos e1, ec, nI_1, nI_clamp (by omega)]] at c9
      have mf : ∀ τ : mm_S, p_m_isCell τ (nI e) → τ.1 3725 = nI n → ¬ τ.2.2.1 41 e = 0 → mm_Runs 999 i_X7_reed (0, [some (.ref 37), some (.int (nI e)), some (.int m)], [], HH x τ) (some (.int (nI n)), HH x (ui (ua (ua τ 51 (upd (τ.2.2.1 51) n (nI e))) 52 (upd (τ.2.2.1 52) n m)) 3725 (nI (n + 1)))) := by
        intro τ t1 t2 t3
        have t4 : ¬ τ.1 3725 = 6 := by
          rw [t2]
          intro y
          have y2 : nI n = nI 6 := y
          rw [nI_eq (by omega) (by omega)] at y2
          omega
        have m8 := m9 τ (fun _ => by rw [t2]; exact nI_in hlt (by omega))
        rw [show f_m_reed τ (nI e) m = nI n by unfold f_m_reed; rw [if_pos t1, if_pos qm, qc, if_neg t3, if_neg t4, t2, nI_p1m1], show g_m_reed τ (nI e) m = ui (ua (ua τ 51 (upd (τ.2.2.1 51) n (nI e))) 52 (upd (τ.2.2.1 52) n m)) 3725 (nI (n + 1)) by unfold g_m_reed; rw [if_pos t1, if_pos qm, qc, if_neg t3, if_neg t4, t2, nI_1, nI_clamp (by omega)]] at m8
        exact m8
      refine ⟨_, _, _, c9, mf _ q2 em (fun y => qx.mp y z), ⟨h1, h2, P, ns, nw, n + 1, hp, hc, hri, hwy, hs, hw, ?_, hti⟩⟩
      refine ⟨by omega, rfl, rfl, fun i hi => ?_⟩
      rcases Nat.lt_or_ge i n with hi2 | hi2
      · have hne : ¬ i = n := by omega
        have hh := hcn.2.2.2 i hi2
        show (upd (σ.2.2.1 26) n (nI e) i = upd (σ.2.2.1 51) n (nI e) i ∧ upd (σ.2.2.1 27) n m i = upd (σ.2.2.1 52) n m i) ∧ (∃ c, upd (σ.2.2.1 26) n (nI e) i = nI c ∧ P.2.2 c = true) ∧ ∃ m9 : Nat, m9 ≤ 99 ∧ upd (σ.2.2.1 27) n m i = nI m9
        simp only [upd_at, if_neg hne]
        exact hh
      · have hne : i = n := by omega
        subst hne
        show (upd (σ.2.2.1 26) i (nI e) i = upd (σ.2.2.1 51) i (nI e) i ∧ upd (σ.2.2.1 27) i m i = upd (σ.2.2.1 52) i m i) ∧ (∃ c, upd (σ.2.2.1 26) i (nI e) i = nI c ∧ P.2.2 c = true) ∧ ∃ m9 : Nat, m9 ≤ 99 ∧ upd (σ.2.2.1 27) i m i = nI m9
        simp only [upd_at, if_true]
        exact ⟨by simp, ⟨e, rfl, z⟩, min_nI qm⟩
