/-! cell (written by wip/whole/ops5.py) -/
theorem cell_0 {x : Nat × (Nat → Int32)} {σ : mm_S} {i t : Int32} (hr : Rel σ) (qt : p_isSort (ui σ 210 0) t) : ∃ (r : Int64) (σ1 σ2 : mm_S), mm_Runs 999 i_X6_cell (0, [some (.ref 2), some (.int 0), some (.int i), some (.int t), none], [], HH x σ) (some (.long r), HH x σ1) ∧ mm_Runs 999 i_X7_cell (0, [some (.ref 37), some (.int 0), some (.int i), some (.int t)], [], HH x σ1) (some (.long r), HH x σ2) ∧ Rel σ2 := by
  obtain ⟨h1, h2, P, ns, nw, nr, hp, hc, hri, hwy, hs, hw, hre, hti⟩ := id hr
  obtain ⟨n, hn, en⟩ := h2.1.2.2.1
  have el := h2.1.2.1.symm.trans en
  have q : p_isSheet (ui σ 210 0) 0 := by unfold p_isSheet; decide
  have hiff : p_hasCells_4 (ui σ 210 0) i 1 ↔ ∃ a, a < n ∧ i = nI a := by
    unfold p_hasCells_4
    rw [show (ui σ 210 0).1 403 = nI n from en]
    exact hcA hn i
  have hgC : p_hasCells_4 (ui σ 210 0) i 1 → ¬ (i < 0 ∨ 60 ≤ i.toNatClampNeg) := by
    intro z
    obtain ⟨a, ha, rfl⟩ := hiff.mp z
    exact nI_in (by omega) (by omega)
  have c := r_cell (d := 999) (x := x) (σ := σ) (k := 0) (i := i) (j := t) (by omega) (fun z0 z1 => by decide) (fun z0 z1 z2 z3 z4 z5 => hgC z5) (fun z0 z1 z2 z3 z4 z5 => absurd z2 (by decide)) (fun z0 z1 z2 z3 z4 z5 => absurd z2 (by decide)) (fun z0 z1 z2 z3 z4 z5 => absurd z2 (by decide))
  have mif : ∀ τ : mm_S, τ.2.2.1 39 0 = nI n → (p_m_within (ui τ 3700 0) i 0 (τ.2.2.1 39 0 - 1) ↔ ∃ a, a < n ∧ i = nI a) := by
    intro τ e
    unfold p_m_within
    rw [e]
    exact hcB hn i
  have mg : ∀ τ : mm_S, τ.2.2.1 39 0 = nI n → p_m_within (ui τ 3700 0) i 0 (τ.2.2.1 39 0 - 1) → ¬ ((60 : Int32) * 0 + i < 0 ∨ 240 ≤ ((60 : Int32) * 0 + i).toNatClampNeg) := by
    intro τ e z
    obtain ⟨a, ha, rfl⟩ := (mif τ e).mp z
    rw [show (60 : Int32) * 0 + nI a = nI (0 + a) from nI_add 0 a]
    exact nI_in (by omega) (by omega)
  have m := fun (τ : mm_S) (e : τ.2.2.1 39 0 = nI n) => r_m_cell (d := 999) (x := x) (σ := τ) (k := 0) (i := i) (j := t) (by omega) (fun z0 z1 => by decide) (fun z0 z1 z2 => by decide) (fun z0 z1 z2 => by decide) (fun z0 z1 z2 z3 => by decide) (fun z0 z1 z2 z3 => by decide) (fun z0 z1 z2 z3 z4 => mg τ e z4)
  have qs := fun τ : mm_S => (sheet_iff (ui τ 3700 0) (ui σ 210 0) 0).mpr q
  have qu := fun τ : mm_S => (sort_iff (ui τ 3700 0) (ui σ 210 0) t).mpr qt
  have kc : (0 : Int32).toNatClampNeg = 0 := rfl
  rcases h2.1.1 with ⟨a1, b1⟩ | ⟨a1, b1, b2⟩
  · have na : ¬ p_isOfAnother_4 (ui σ 210 0) t := fun z => z.1 a1
    rw [show f_cell σ 0 i t = (-9223372036854775808) by unfold f_cell; rw [if_pos q, if_pos qt, if_pos rfl, if_neg na, if_pos a1], show g_cell σ 0 i t = ui σ 210 1 by unfold g_cell; rw [if_pos q, if_pos qt, if_pos rfl, if_neg na, if_pos a1]] at c
    have mf : ∀ τ : mm_S, τ.2.2.1 39 0 = nI n → τ.2.2.1 38 0 = -9 → mm_Runs 999 i_X7_cell (0, [some (.ref 37), some (.int 0), some (.int i), some (.int t)], [], HH x τ) (some (.long (-9223372036854775808)), HH x (ui (ui τ 3700 0) 3700 1)) := by
      intro τ e1 e2
      have m1 := m τ e1
      rw [show f_m_cell τ 0 i t = (-9223372036854775808) by unfold f_m_cell; rw [if_pos (qs τ), if_pos (qu τ), kc, if_pos e2]; rfl, show g_m_cell τ 0 i t = ui (ui τ 3700 0) 3700 1 by unfold g_m_cell; rw [if_pos (qs τ), if_pos (qu τ), kc, if_pos e2]; rfl] at m1
      exact m1
    exact ⟨_, _, _, c, mf _ el b1, ⟨⟨rfl, h1.2⟩, h2, P, ns, nw, nr, hp, hc, hri, hwy, hs, hw, hre, hti⟩⟩
  · have a2 : ¬ σ.1 401 = 0 := by rw [a1]; decide
    have b3 : ¬ σ.2.2.1 38 0 = -9 := fun z => kd_n9 b2 (b1.symm.trans z)
    by_cases w : σ.1 402 = t
    · have na : ¬ p_isOfAnother_4 (ui σ 210 0) t := fun z => z.2 w
      by_cases z : ∃ a, a < n ∧ i = nI a
      · have zc := hiff.mpr z
        obtain ⟨a, ha, rfl⟩ := id z
        have ac : (nI a).toNatClampNeg = a := nI_clamp (by omega)
        have ec : ((60 : Int32) * 0 + nI a).toNatClampNeg = 0 + a := by
          rw [show (60 : Int32) * 0 + nI a = nI (0 + a) from nI_add 0 a]
          exact nI_clamp (by omega)
        rw [show f_cell σ 0 (nI a) t = (σ.2.2.1 8 a).toInt64 by unfold f_cell; rw [if_pos q, if_pos qt, if_pos rfl, if_neg na, if_neg a2, if_pos zc, ac], show g_cell σ 0 (nI a) t = ui σ 210 0 by unfold g_cell; rw [if_pos q, if_pos qt, if_pos rfl, if_neg na, if_neg a2, if_pos zc]] at c
        have mf : ∀ τ : mm_S, τ.2.2.1 39 0 = nI n → τ.2.2.1 38 0 = t → ¬ τ.2.2.1 38 0 = -9 → τ.2.2.1 40 (0 + a) = σ.2.2.1 8 a → mm_Runs 999 i_X7_cell (0, [some (.ref 37), some (.int 0), some (.int (nI a)), some (.int t)], [], HH x τ) (some (.long (σ.2.2.1 8 a).toInt64), HH x (ui τ 3700 0)) := by
          intro τ e1 e2 e3 e4
          have m1 := m τ e1
          have zm := (mif τ e1).mpr ⟨a, ha, rfl⟩
          rw [show f_m_cell τ 0 (nI a) t = (σ.2.2.1 8 a).toInt64 by unfold f_m_cell; rw [if_pos (qs τ), if_pos (qu τ), kc, if_neg e3, if_pos e2, if_pos zm, ec, e4], show g_m_cell τ 0 (nI a) t = ui τ 3700 0 by unfold g_m_cell; rw [if_pos (qs τ), if_pos (qu τ), kc, if_neg e3, if_pos e2, if_pos zm]] at m1
          exact m1
        exact ⟨_, _, _, c, mf _ el (b1.trans w) b3 (h2.1.2.2.2 a (by omega)).symm, ⟨⟨rfl, h1.2⟩, h2, P, ns, nw, nr, hp, hc, hri, hwy, hs, hw, hre, hti⟩⟩
      · have zc : ¬ p_hasCells_4 (ui σ 210 0) i 1 := fun y => z (hiff.mp y)
        rw [show f_cell σ 0 i t = (-9223372036854775808) by unfold f_cell; rw [if_pos q, if_pos qt, if_pos rfl, if_neg na, if_neg a2, if_neg zc], show g_cell σ 0 i t = ui σ 210 3 by unfold g_cell; rw [if_pos q, if_pos qt, if_pos rfl, if_neg na, if_neg a2, if_neg zc]] at c
        have mf : ∀ τ : mm_S, τ.2.2.1 39 0 = nI n → τ.2.2.1 38 0 = t → ¬ τ.2.2.1 38 0 = -9 → mm_Runs 999 i_X7_cell (0, [some (.ref 37), some (.int 0), some (.int i), some (.int t)], [], HH x τ) (some (.long (-9223372036854775808)), HH x (ui (ui τ 3700 0) 3700 3)) := by
          intro τ e1 e2 e3
          have m1 := m τ e1
          have zm := fun y => z ((mif τ e1).mp y)
          rw [show f_m_cell τ 0 i t = (-9223372036854775808) by unfold f_m_cell; rw [if_pos (qs τ), if_pos (qu τ), kc, if_neg e3, if_pos e2, if_neg zm]; rfl, show g_m_cell τ 0 i t = ui (ui τ 3700 0) 3700 3 by unfold g_m_cell; rw [if_pos (qs τ), if_pos (qu τ), kc, if_neg e3, if_pos e2, if_neg zm]; rfl] at m1
          exact m1
        exact ⟨_, _, _, c, mf _ el (b1.trans w) b3, ⟨⟨rfl, h1.2⟩, h2, P, ns, nw, nr, hp, hc, hri, hwy, hs, hw, hre, hti⟩⟩
    · have na : p_isOfAnother_4 (ui σ 210 0) t := ⟨a2, w⟩
      rw [show f_cell σ 0 i t = (-9223372036854775808) by unfold f_cell; rw [if_pos q, if_pos qt, if_pos rfl, if_pos na], show g_cell σ 0 i t = ui σ 210 2 by unfold g_cell; rw [if_pos q, if_pos qt, if_pos rfl, if_pos na]] at c
      have mf : ∀ τ : mm_S, τ.2.2.1 39 0 = nI n → ¬ τ.2.2.1 38 0 = t → ¬ τ.2.2.1 38 0 = -9 → mm_Runs 999 i_X7_cell (0, [some (.ref 37), some (.int 0), some (.int i), some (.int t)], [], HH x τ) (some (.long (-9223372036854775808)), HH x (ui (ui τ 3700 0) 3700 2)) := by
        intro τ e1 e2 e3
        have m1 := m τ e1
        rw [show f_m_cell τ 0 i t = (-9223372036854775808) by unfold f_m_cell; rw [if_pos (qs τ), if_pos (qu τ), kc, if_neg e3, if_neg e2]; rfl, show g_m_cell τ 0 i t = ui (ui τ 3700 0) 3700 2 by unfold g_m_cell; rw [if_pos (qs τ), if_pos (qu τ), kc, if_neg e3, if_neg e2]; rfl] at m1
        exact m1
      exact ⟨_, _, _, c, mf _ el (fun y => w (b1.symm.trans y)) b3, ⟨⟨rfl, h1.2⟩, h2, P, ns, nw, nr, hp, hc, hri, hwy, hs, hw, hre, hti⟩⟩
theorem cell_1 {x : Nat × (Nat → Int32)} {σ : mm_S} {i t : Int32} (hr : Rel σ) (qt : p_isSort (ui σ 210 0) t) : ∃ (r : Int64) (σ1 σ2 : mm_S), mm_Runs 999 i_X6_cell (0, [some (.ref 2), some (.int 1), some (.int i), some (.int t), none], [], HH x σ) (some (.long r), HH x σ1) ∧ mm_Runs 999 i_X7_cell (0, [some (.ref 37), some (.int 1), some (.int i), some (.int t)], [], HH x σ1) (some (.long r), HH x σ2) ∧ Rel σ2 := by
  obtain ⟨h1, h2, P, ns, nw, nr, hp, hc, hri, hwy, hs, hw, hre, hti⟩ := id hr
  obtain ⟨n, hn, en⟩ := h2.2.1.2.2.1
  have el := h2.2.1.2.1.symm.trans en
  have q : p_isSheet (ui σ 210 0) 1 := by unfold p_isSheet; decide
  have hiff : p_hasCells_5 (ui σ 210 0) i 1 ↔ ∃ a, a < n ∧ i = nI a := by
    unfold p_hasCells_5
    rw [show (ui σ 210 0).1 503 = nI n from en]
    exact hcA hn i
  have hgC : p_hasCells_5 (ui σ 210 0) i 1 → ¬ (i < 0 ∨ 60 ≤ i.toNatClampNeg) := by
    intro z
    obtain ⟨a, ha, rfl⟩ := hiff.mp z
    exact nI_in (by omega) (by omega)
  have c := r_cell (d := 999) (x := x) (σ := σ) (k := 1) (i := i) (j := t) (by omega) (fun z0 z1 => by decide) (fun z0 z1 z2 z3 z4 z5 => absurd z2 (by decide)) (fun z0 z1 z2 z3 z4 z5 => hgC z5) (fun z0 z1 z2 z3 z4 z5 => absurd z2 (by decide)) (fun z0 z1 z2 z3 z4 z5 => absurd z2 (by decide))
  have mif : ∀ τ : mm_S, τ.2.2.1 39 1 = nI n → (p_m_within (ui τ 3700 0) i 0 (τ.2.2.1 39 1 - 1) ↔ ∃ a, a < n ∧ i = nI a) := by
    intro τ e
    unfold p_m_within
    rw [e]
    exact hcB hn i
  have mg : ∀ τ : mm_S, τ.2.2.1 39 1 = nI n → p_m_within (ui τ 3700 0) i 0 (τ.2.2.1 39 1 - 1) → ¬ ((60 : Int32) * 1 + i < 0 ∨ 240 ≤ ((60 : Int32) * 1 + i).toNatClampNeg) := by
    intro τ e z
    obtain ⟨a, ha, rfl⟩ := (mif τ e).mp z
    rw [show (60 : Int32) * 1 + nI a = nI (60 + a) from nI_add 60 a]
    exact nI_in (by omega) (by omega)
  have m := fun (τ : mm_S) (e : τ.2.2.1 39 1 = nI n) => r_m_cell (d := 999) (x := x) (σ := τ) (k := 1) (i := i) (j := t) (by omega) (fun z0 z1 => by decide) (fun z0 z1 z2 => by decide) (fun z0 z1 z2 => by decide) (fun z0 z1 z2 z3 => by decide) (fun z0 z1 z2 z3 => by decide) (fun z0 z1 z2 z3 z4 => mg τ e z4)
  have qs := fun τ : mm_S => (sheet_iff (ui τ 3700 0) (ui σ 210 0) 1).mpr q
  have qu := fun τ : mm_S => (sort_iff (ui τ 3700 0) (ui σ 210 0) t).mpr qt
  have kc : (1 : Int32).toNatClampNeg = 1 := rfl
  rcases h2.2.1.1 with ⟨a1, b1⟩ | ⟨a1, b1, b2⟩
  · have na : ¬ p_isOfAnother_5 (ui σ 210 0) t := fun z => z.1 a1
    rw [show f_cell σ 1 i t = (-9223372036854775808) by unfold f_cell; rw [if_pos q, if_pos qt, if_neg (by decide), if_pos rfl, if_neg na, if_pos a1], show g_cell σ 1 i t = ui σ 210 1 by unfold g_cell; rw [if_pos q, if_pos qt, if_neg (by decide), if_pos rfl, if_neg na, if_pos a1]] at c
    have mf : ∀ τ : mm_S, τ.2.2.1 39 1 = nI n → τ.2.2.1 38 1 = -9 → mm_Runs 999 i_X7_cell (0, [some (.ref 37), some (.int 1), some (.int i), some (.int t)], [], HH x τ) (some (.long (-9223372036854775808)), HH x (ui (ui τ 3700 0) 3700 1)) := by
      intro τ e1 e2
      have m1 := m τ e1
      rw [show f_m_cell τ 1 i t = (-9223372036854775808) by unfold f_m_cell; rw [if_pos (qs τ), if_pos (qu τ), kc, if_pos e2]; rfl, show g_m_cell τ 1 i t = ui (ui τ 3700 0) 3700 1 by unfold g_m_cell; rw [if_pos (qs τ), if_pos (qu τ), kc, if_pos e2]; rfl] at m1
      exact m1
    exact ⟨_, _, _, c, mf _ el b1, ⟨⟨rfl, h1.2⟩, h2, P, ns, nw, nr, hp, hc, hri, hwy, hs, hw, hre, hti⟩⟩
  · have a2 : ¬ σ.1 501 = 0 := by rw [a1]; decide
    have b3 : ¬ σ.2.2.1 38 1 = -9 := fun z => kd_n9 b2 (b1.symm.trans z)
    by_cases w : σ.1 502 = t
    · have na : ¬ p_isOfAnother_5 (ui σ 210 0) t := fun z => z.2 w
      by_cases z : ∃ a, a < n ∧ i = nI a
      · have zc := hiff.mpr z
        obtain ⟨a, ha, rfl⟩ := id z
        have ac : (nI a).toNatClampNeg = a := nI_clamp (by omega)
        have ec : ((60 : Int32) * 1 + nI a).toNatClampNeg = 60 + a := by
          rw [show (60 : Int32) * 1 + nI a = nI (60 + a) from nI_add 60 a]
          exact nI_clamp (by omega)
        rw [show f_cell σ 1 (nI a) t = (σ.2.2.1 9 a).toInt64 by unfold f_cell; rw [if_pos q, if_pos qt, if_neg (by decide), if_pos rfl, if_neg na, if_neg a2, if_pos zc, ac], show g_cell σ 1 (nI a) t = ui σ 210 0 by unfold g_cell; rw [if_pos q, if_pos qt, if_neg (by decide), if_pos rfl, if_neg na, if_neg a2, if_pos zc]] at c
        have mf : ∀ τ : mm_S, τ.2.2.1 39 1 = nI n → τ.2.2.1 38 1 = t → ¬ τ.2.2.1 38 1 = -9 → τ.2.2.1 40 (60 + a) = σ.2.2.1 9 a → mm_Runs 999 i_X7_cell (0, [some (.ref 37), some (.int 1), some (.int (nI a)), some (.int t)], [], HH x τ) (some (.long (σ.2.2.1 9 a).toInt64), HH x (ui τ 3700 0)) := by
          intro τ e1 e2 e3 e4
          have m1 := m τ e1
          have zm := (mif τ e1).mpr ⟨a, ha, rfl⟩
          rw [show f_m_cell τ 1 (nI a) t = (σ.2.2.1 9 a).toInt64 by unfold f_m_cell; rw [if_pos (qs τ), if_pos (qu τ), kc, if_neg e3, if_pos e2, if_pos zm, ec, e4], show g_m_cell τ 1 (nI a) t = ui τ 3700 0 by unfold g_m_cell; rw [if_pos (qs τ), if_pos (qu τ), kc, if_neg e3, if_pos e2, if_pos zm]] at m1
          exact m1
        exact ⟨_, _, _, c, mf _ el (b1.trans w) b3 (h2.2.1.2.2.2 a (by omega)).symm, ⟨⟨rfl, h1.2⟩, h2, P, ns, nw, nr, hp, hc, hri, hwy, hs, hw, hre, hti⟩⟩
      · have zc : ¬ p_hasCells_5 (ui σ 210 0) i 1 := fun y => z (hiff.mp y)
        rw [show f_cell σ 1 i t = (-9223372036854775808) by unfold f_cell; rw [if_pos q, if_pos qt, if_neg (by decide), if_pos rfl, if_neg na, if_neg a2, if_neg zc], show g_cell σ 1 i t = ui σ 210 3 by unfold g_cell; rw [if_pos q, if_pos qt, if_neg (by decide), if_pos rfl, if_neg na, if_neg a2, if_neg zc]] at c
        have mf : ∀ τ : mm_S, τ.2.2.1 39 1 = nI n → τ.2.2.1 38 1 = t → ¬ τ.2.2.1 38 1 = -9 → mm_Runs 999 i_X7_cell (0, [some (.ref 37), some (.int 1), some (.int i), some (.int t)], [], HH x τ) (some (.long (-9223372036854775808)), HH x (ui (ui τ 3700 0) 3700 3)) := by
          intro τ e1 e2 e3
          have m1 := m τ e1
          have zm := fun y => z ((mif τ e1).mp y)
          rw [show f_m_cell τ 1 i t = (-9223372036854775808) by unfold f_m_cell; rw [if_pos (qs τ), if_pos (qu τ), kc, if_neg e3, if_pos e2, if_neg zm]; rfl, show g_m_cell τ 1 i t = ui (ui τ 3700 0) 3700 3 by unfold g_m_cell; rw [if_pos (qs τ), if_pos (qu τ), kc, if_neg e3, if_pos e2, if_neg zm]; rfl] at m1
          exact m1
        exact ⟨_, _, _, c, mf _ el (b1.trans w) b3, ⟨⟨rfl, h1.2⟩, h2, P, ns, nw, nr, hp, hc, hri, hwy, hs, hw, hre, hti⟩⟩
    · have na : p_isOfAnother_5 (ui σ 210 0) t := ⟨a2, w⟩
      rw [show f_cell σ 1 i t = (-9223372036854775808) by unfold f_cell; rw [if_pos q, if_pos qt, if_neg (by decide), if_pos rfl, if_pos na], show g_cell σ 1 i t = ui σ 210 2 by unfold g_cell; rw [if_pos q, if_pos qt, if_neg (by decide), if_pos rfl, if_pos na]] at c
      have mf : ∀ τ : mm_S, τ.2.2.1 39 1 = nI n → ¬ τ.2.2.1 38 1 = t → ¬ τ.2.2.1 38 1 = -9 → mm_Runs 999 i_X7_cell (0, [some (.ref 37), some (.int 1), some (.int i), some (.int t)], [], HH x τ) (some (.long (-9223372036854775808)), HH x (ui (ui τ 3700 0) 3700 2)) := by
        intro τ e1 e2 e3
        have m1 := m τ e1
        rw [show f_m_cell τ 1 i t = (-9223372036854775808) by unfold f_m_cell; rw [if_pos (qs τ), if_pos (qu τ), kc, if_neg e3, if_neg e2]; rfl, show g_m_cell τ 1 i t = ui (ui τ 3700 0) 3700 2 by unfold g_m_cell; rw [if_pos (qs τ), if_pos (qu τ), kc, if_neg e3, if_neg e2]; rfl] at m1
        exact m1
      exact ⟨_, _, _, c, mf _ el (fun y => w (b1.symm.trans y)) b3, ⟨⟨rfl, h1.2⟩, h2, P, ns, nw, nr, hp, hc, hri, hwy, hs, hw, hre, hti⟩⟩
theorem cell_2 {x : Nat × (Nat → Int32)} {σ : mm_S} {i t : Int32} (hr : Rel σ) (qt : p_isSort (ui σ 210 0) t) : ∃ (r : Int64) (σ1 σ2 : mm_S), mm_Runs 999 i_X6_cell (0, [some (.ref 2), some (.int 2), some (.int i), some (.int t), none], [], HH x σ) (some (.long r), HH x σ1) ∧ mm_Runs 999 i_X7_cell (0, [some (.ref 37), some (.int 2), some (.int i), some (.int t)], [], HH x σ1) (some (.long r), HH x σ2) ∧ Rel σ2 := by
  obtain ⟨h1, h2, P, ns, nw, nr, hp, hc, hri, hwy, hs, hw, hre, hti⟩ := id hr
  obtain ⟨n, hn, en⟩ := h2.2.2.1.2.2.1
  have el := h2.2.2.1.2.1.symm.trans en
  have q : p_isSheet (ui σ 210 0) 2 := by unfold p_isSheet; decide
  have hiff : p_hasCells_6 (ui σ 210 0) i 1 ↔ ∃ a, a < n ∧ i = nI a := by
    unfold p_hasCells_6
    rw [show (ui σ 210 0).1 603 = nI n from en]
    exact hcA hn i
  have hgC : p_hasCells_6 (ui σ 210 0) i 1 → ¬ (i < 0 ∨ 60 ≤ i.toNatClampNeg) := by
    intro z
    obtain ⟨a, ha, rfl⟩ := hiff.mp z
    exact nI_in (by omega) (by omega)
  have c := r_cell (d := 999) (x := x) (σ := σ) (k := 2) (i := i) (j := t) (by omega) (fun z0 z1 => by decide) (fun z0 z1 z2 z3 z4 z5 => absurd z2 (by decide)) (fun z0 z1 z2 z3 z4 z5 => absurd z2 (by decide)) (fun z0 z1 z2 z3 z4 z5 => hgC z5) (fun z0 z1 z2 z3 z4 z5 => absurd z2 (by decide))
  have mif : ∀ τ : mm_S, τ.2.2.1 39 2 = nI n → (p_m_within (ui τ 3700 0) i 0 (τ.2.2.1 39 2 - 1) ↔ ∃ a, a < n ∧ i = nI a) := by
    intro τ e
    unfold p_m_within
    rw [e]
    exact hcB hn i
  have mg : ∀ τ : mm_S, τ.2.2.1 39 2 = nI n → p_m_within (ui τ 3700 0) i 0 (τ.2.2.1 39 2 - 1) → ¬ ((60 : Int32) * 2 + i < 0 ∨ 240 ≤ ((60 : Int32) * 2 + i).toNatClampNeg) := by
    intro τ e z
    obtain ⟨a, ha, rfl⟩ := (mif τ e).mp z
    rw [show (60 : Int32) * 2 + nI a = nI (120 + a) from nI_add 120 a]
    exact nI_in (by omega) (by omega)
  have m := fun (τ : mm_S) (e : τ.2.2.1 39 2 = nI n) => r_m_cell (d := 999) (x := x) (σ := τ) (k := 2) (i := i) (j := t) (by omega) (fun z0 z1 => by decide) (fun z0 z1 z2 => by decide) (fun z0 z1 z2 => by decide) (fun z0 z1 z2 z3 => by decide) (fun z0 z1 z2 z3 => by decide) (fun z0 z1 z2 z3 z4 => mg τ e z4)
  have qs := fun τ : mm_S => (sheet_iff (ui τ 3700 0) (ui σ 210 0) 2).mpr q
  have qu := fun τ : mm_S => (sort_iff (ui τ 3700 0) (ui σ 210 0) t).mpr qt
  have kc : (2 : Int32).toNatClampNeg = 2 := rfl
  rcases h2.2.2.1.1 with ⟨a1, b1⟩ | ⟨a1, b1, b2⟩
  · have na : ¬ p_isOfAnother_6 (ui σ 210 0) t := fun z => z.1 a1
    rw [show f_cell σ 2 i t = (-9223372036854775808) by unfold f_cell; rw [if_pos q, if_pos qt, if_neg (by decide), if_neg (by decide), if_pos rfl, if_neg na, if_pos a1], show g_cell σ 2 i t = ui σ 210 1 by unfold g_cell; rw [if_pos q, if_pos qt, if_neg (by decide), if_neg (by decide), if_pos rfl, if_neg na, if_pos a1]] at c
    have mf : ∀ τ : mm_S, τ.2.2.1 39 2 = nI n → τ.2.2.1 38 2 = -9 → mm_Runs 999 i_X7_cell (0, [some (.ref 37), some (.int 2), some (.int i), some (.int t)], [], HH x τ) (some (.long (-9223372036854775808)), HH x (ui (ui τ 3700 0) 3700 1)) := by
      intro τ e1 e2
      have m1 := m τ e1
      rw [show f_m_cell τ 2 i t = (-9223372036854775808) by unfold f_m_cell; rw [if_pos (qs τ), if_pos (qu τ), kc, if_pos e2]; rfl, show g_m_cell τ 2 i t = ui (ui τ 3700 0) 3700 1 by unfold g_m_cell; rw [if_pos (qs τ), if_pos (qu τ), kc, if_pos e2]; rfl] at m1
      exact m1
    exact ⟨_, _, _, c, mf _ el b1, ⟨⟨rfl, h1.2⟩, h2, P, ns, nw, nr, hp, hc, hri, hwy, hs, hw, hre, hti⟩⟩
  · have a2 : ¬ σ.1 601 = 0 := by rw [a1]; decide
    have b3 : ¬ σ.2.2.1 38 2 = -9 := fun z => kd_n9 b2 (b1.symm.trans z)
    by_cases w : σ.1 602 = t
    · have na : ¬ p_isOfAnother_6 (ui σ 210 0) t := fun z => z.2 w
      by_cases z : ∃ a, a < n ∧ i = nI a
      · have zc := hiff.mpr z
        obtain ⟨a, ha, rfl⟩ := id z
        have ac : (nI a).toNatClampNeg = a := nI_clamp (by omega)
        have ec : ((60 : Int32) * 2 + nI a).toNatClampNeg = 120 + a := by
          rw [show (60 : Int32) * 2 + nI a = nI (120 + a) from nI_add 120 a]
          exact nI_clamp (by omega)
        rw [show f_cell σ 2 (nI a) t = (σ.2.2.1 10 a).toInt64 by unfold f_cell; rw [if_pos q, if_pos qt, if_neg (by decide), if_neg (by decide), if_pos rfl, if_neg na, if_neg a2, if_pos zc, ac], show g_cell σ 2 (nI a) t = ui σ 210 0 by unfold g_cell; rw [if_pos q, if_pos qt, if_neg (by decide), if_neg (by decide), if_pos rfl, if_neg na, if_neg a2, if_pos zc]] at c
        have mf : ∀ τ : mm_S, τ.2.2.1 39 2 = nI n → τ.2.2.1 38 2 = t → ¬ τ.2.2.1 38 2 = -9 → τ.2.2.1 40 (120 + a) = σ.2.2.1 10 a → mm_Runs 999 i_X7_cell (0, [some (.ref 37), some (.int 2), some (.int (nI a)), some (.int t)], [], HH x τ) (some (.long (σ.2.2.1 10 a).toInt64), HH x (ui τ 3700 0)) := by
          intro τ e1 e2 e3 e4
          have m1 := m τ e1
          have zm := (mif τ e1).mpr ⟨a, ha, rfl⟩
          rw [show f_m_cell τ 2 (nI a) t = (σ.2.2.1 10 a).toInt64 by unfold f_m_cell; rw [if_pos (qs τ), if_pos (qu τ), kc, if_neg e3, if_pos e2, if_pos zm, ec, e4], show g_m_cell τ 2 (nI a) t = ui τ 3700 0 by unfold g_m_cell; rw [if_pos (qs τ), if_pos (qu τ), kc, if_neg e3, if_pos e2, if_pos zm]] at m1
          exact m1
        exact ⟨_, _, _, c, mf _ el (b1.trans w) b3 (h2.2.2.1.2.2.2 a (by omega)).symm, ⟨⟨rfl, h1.2⟩, h2, P, ns, nw, nr, hp, hc, hri, hwy, hs, hw, hre, hti⟩⟩
      · have zc : ¬ p_hasCells_6 (ui σ 210 0) i 1 := fun y => z (hiff.mp y)
        rw [show f_cell σ 2 i t = (-9223372036854775808) by unfold f_cell; rw [if_pos q, if_pos qt, if_neg (by decide), if_neg (by decide), if_pos rfl, if_neg na, if_neg a2, if_neg zc], show g_cell σ 2 i t = ui σ 210 3 by unfold g_cell; rw [if_pos q, if_pos qt, if_neg (by decide), if_neg (by decide), if_pos rfl, if_neg na, if_neg a2, if_neg zc]] at c
        have mf : ∀ τ : mm_S, τ.2.2.1 39 2 = nI n → τ.2.2.1 38 2 = t → ¬ τ.2.2.1 38 2 = -9 → mm_Runs 999 i_X7_cell (0, [some (.ref 37), some (.int 2), some (.int i), some (.int t)], [], HH x τ) (some (.long (-9223372036854775808)), HH x (ui (ui τ 3700 0) 3700 3)) := by
          intro τ e1 e2 e3
          have m1 := m τ e1
          have zm := fun y => z ((mif τ e1).mp y)
          rw [show f_m_cell τ 2 i t = (-9223372036854775808) by unfold f_m_cell; rw [if_pos (qs τ), if_pos (qu τ), kc, if_neg e3, if_pos e2, if_neg zm]; rfl, show g_m_cell τ 2 i t = ui (ui τ 3700 0) 3700 3 by unfold g_m_cell; rw [if_pos (qs τ), if_pos (qu τ), kc, if_neg e3, if_pos e2, if_neg zm]; rfl] at m1
          exact m1
        exact ⟨_, _, _, c, mf _ el (b1.trans w) b3, ⟨⟨rfl, h1.2⟩, h2, P, ns, nw, nr, hp, hc, hri, hwy, hs, hw, hre, hti⟩⟩
    · have na : p_isOfAnother_6 (ui σ 210 0) t := ⟨a2, w⟩
      rw [show f_cell σ 2 i t = (-9223372036854775808) by unfold f_cell; rw [if_pos q, if_pos qt, if_neg (by decide), if_neg (by decide), if_pos rfl, if_pos na], show g_cell σ 2 i t = ui σ 210 2 by unfold g_cell; rw [if_pos q, if_pos qt, if_neg (by decide), if_neg (by decide), if_pos rfl, if_pos na]] at c
      have mf : ∀ τ : mm_S, τ.2.2.1 39 2 = nI n → ¬ τ.2.2.1 38 2 = t → ¬ τ.2.2.1 38 2 = -9 → mm_Runs 999 i_X7_cell (0, [some (.ref 37), some (.int 2), some (.int i), some (.int t)], [], HH x τ) (some (.long (-9223372036854775808)), HH x (ui (ui τ 3700 0) 3700 2)) := by
        intro τ e1 e2 e3
        have m1 := m τ e1
        rw [show f_m_cell τ 2 i t = (-9223372036854775808) by unfold f_m_cell; rw [if_pos (qs τ), if_pos (qu τ), kc, if_neg e3, if_neg e2]; rfl, show g_m_cell τ 2 i t = ui (ui τ 3700 0) 3700 2 by unfold g_m_cell; rw [if_pos (qs τ), if_pos (qu τ), kc, if_neg e3, if_neg e2]; rfl] at m1
        exact m1
      exact ⟨_, _, _, c, mf _ el (fun y => w (b1.symm.trans y)) b3, ⟨⟨rfl, h1.2⟩, h2, P, ns, nw, nr, hp, hc, hri, hwy, hs, hw, hre, hti⟩⟩
theorem cell_3q {x : Nat × (Nat → Int32)} {σ : mm_S} {i t : Int32} (hr : Rel σ) (qt : p_isSort (ui σ 210 0) t) : ∃ (r : Int64) (σ1 σ2 : mm_S), mm_Runs 999 i_X6_cell (0, [some (.ref 2), some (.int 3), some (.int i), some (.int t), none], [], HH x σ) (some (.long r), HH x σ1) ∧ mm_Runs 999 i_X7_cell (0, [some (.ref 37), some (.int 3), some (.int i), some (.int t)], [], HH x σ1) (some (.long r), HH x σ2) ∧ Rel σ2 := by
  obtain ⟨h1, h2, P, ns, nw, nr, hp, hc, hri, hwy, hs, hw, hre, hti⟩ := id hr
  obtain ⟨n, hn, en⟩ := h2.2.2.2.2.2.1
  have el := h2.2.2.2.2.1.symm.trans en
  have q : p_isSheet (ui σ 210 0) 3 := by unfold p_isSheet; decide
  have hiff : p_hasCells_7 (ui σ 210 0) i 1 ↔ ∃ a, a < n ∧ i = nI a := by
    unfold p_hasCells_7
    rw [show (ui σ 210 0).1 703 = nI n from en]
    exact hcA hn i
  have hgC : p_hasCells_7 (ui σ 210 0) i 1 → ¬ (i < 0 ∨ 60 ≤ i.toNatClampNeg) := by
    intro z
    obtain ⟨a, ha, rfl⟩ := hiff.mp z
    exact nI_in (by omega) (by omega)
  have c := r_cell (d := 999) (x := x) (σ := σ) (k := 3) (i := i) (j := t) (by omega) (fun z0 z1 => by decide) (fun z0 z1 z2 z3 z4 z5 => absurd z2 (by decide)) (fun z0 z1 z2 z3 z4 z5 => absurd z2 (by decide)) (fun z0 z1 z2 z3 z4 z5 => absurd z2 (by decide)) (fun z0 z1 z2 z3 z4 z5 => hgC z5)
  have mif : ∀ τ : mm_S, τ.2.2.1 39 3 = nI n → (p_m_within (ui τ 3700 0) i 0 (τ.2.2.1 39 3 - 1) ↔ ∃ a, a < n ∧ i = nI a) := by
    intro τ e
    unfold p_m_within
    rw [e]
    exact hcB hn i
  have mg : ∀ τ : mm_S, τ.2.2.1 39 3 = nI n → p_m_within (ui τ 3700 0) i 0 (τ.2.2.1 39 3 - 1) → ¬ ((60 : Int32) * 3 + i < 0 ∨ 240 ≤ ((60 : Int32) * 3 + i).toNatClampNeg) := by
    intro τ e z
    obtain ⟨a, ha, rfl⟩ := (mif τ e).mp z
    rw [show (60 : Int32) * 3 + nI a = nI (180 + a) from nI_add 180 a]
    exact nI_in (by omega) (by omega)
  have m := fun (τ : mm_S) (e : τ.2.2.1 39 3 = nI n) => r_m_cell (d := 999) (x := x) (σ := τ) (k := 3) (i := i) (j := t) (by omega) (fun z0 z1 => by decide) (fun z0 z1 z2 => by decide) (fun z0 z1 z2 => by decide) (fun z0 z1 z2 z3 => by decide) (fun z0 z1 z2 z3 => by decide) (fun z0 z1 z2 z3 z4 => mg τ e z4)
  have qs := fun τ : mm_S => (sheet_iff (ui τ 3700 0) (ui σ 210 0) 3).mpr q
  have qu := fun τ : mm_S => (sort_iff (ui τ 3700 0) (ui σ 210 0) t).mpr qt
  have kc : (3 : Int32).toNatClampNeg = 3 := rfl
  rcases h2.2.2.2.1 with ⟨a1, b1⟩ | ⟨a1, b1, b2⟩
  · have na : ¬ p_isOfAnother_7 (ui σ 210 0) t := fun z => z.1 a1
    rw [show f_cell σ 3 i t = (-9223372036854775808) by unfold f_cell; rw [if_pos q, if_pos qt, if_neg (by decide), if_neg (by decide), if_neg (by decide), if_neg na, if_pos a1], show g_cell σ 3 i t = ui σ 210 1 by unfold g_cell; rw [if_pos q, if_pos qt, if_neg (by decide), if_neg (by decide), if_neg (by decide), if_neg na, if_pos a1]] at c
    have mf : ∀ τ : mm_S, τ.2.2.1 39 3 = nI n → τ.2.2.1 38 3 = -9 → mm_Runs 999 i_X7_cell (0, [some (.ref 37), some (.int 3), some (.int i), some (.int t)], [], HH x τ) (some (.long (-9223372036854775808)), HH x (ui (ui τ 3700 0) 3700 1)) := by
      intro τ e1 e2
      have m1 := m τ e1
      rw [show f_m_cell τ 3 i t = (-9223372036854775808) by unfold f_m_cell; rw [if_pos (qs τ), if_pos (qu τ), kc, if_pos e2]; rfl, show g_m_cell τ 3 i t = ui (ui τ 3700 0) 3700 1 by unfold g_m_cell; rw [if_pos (qs τ), if_pos (qu τ), kc, if_pos e2]; rfl] at m1
      exact m1
    exact ⟨_, _, _, c, mf _ el b1, ⟨⟨rfl, h1.2⟩, h2, P, ns, nw, nr, hp, hc, hri, hwy, hs, hw, hre, hti⟩⟩
  · have a2 : ¬ σ.1 701 = 0 := by rw [a1]; decide
    have b3 : ¬ σ.2.2.1 38 3 = -9 := fun z => kd_n9 b2 (b1.symm.trans z)
    by_cases w : σ.1 702 = t
    · have na : ¬ p_isOfAnother_7 (ui σ 210 0) t := fun z => z.2 w
      by_cases z : ∃ a, a < n ∧ i = nI a
      · have zc := hiff.mpr z
        obtain ⟨a, ha, rfl⟩ := id z
        have ac : (nI a).toNatClampNeg = a := nI_clamp (by omega)
        have ec : ((60 : Int32) * 3 + nI a).toNatClampNeg = 180 + a := by
          rw [show (60 : Int32) * 3 + nI a = nI (180 + a) from nI_add 180 a]
          exact nI_clamp (by omega)
        rw [show f_cell σ 3 (nI a) t = (σ.2.2.1 11 a).toInt64 by unfold f_cell; rw [if_pos q, if_pos qt, if_neg (by decide), if_neg (by decide), if_neg (by decide), if_neg na, if_neg a2, if_pos zc, ac], show g_cell σ 3 (nI a) t = ui σ 210 0 by unfold g_cell; rw [if_pos q, if_pos qt, if_neg (by decide), if_neg (by decide), if_neg (by decide), if_neg na, if_neg a2, if_pos zc]] at c
        have mf : ∀ τ : mm_S, τ.2.2.1 39 3 = nI n → τ.2.2.1 38 3 = t → ¬ τ.2.2.1 38 3 = -9 → τ.2.2.1 40 (180 + a) = σ.2.2.1 11 a → mm_Runs 999 i_X7_cell (0, [some (.ref 37), some (.int 3), some (.int (nI a)), some (.int t)], [], HH x τ) (some (.long (σ.2.2.1 11 a).toInt64), HH x (ui τ 3700 0)) := by
          intro τ e1 e2 e3 e4
          have m1 := m τ e1
          have zm := (mif τ e1).mpr ⟨a, ha, rfl⟩
          rw [show f_m_cell τ 3 (nI a) t = (σ.2.2.1 11 a).toInt64 by unfold f_m_cell; rw [if_pos (qs τ), if_pos (qu τ), kc, if_neg e3, if_pos e2, if_pos zm, ec, e4], show g_m_cell τ 3 (nI a) t = ui τ 3700 0 by unfold g_m_cell; rw [if_pos (qs τ), if_pos (qu τ), kc, if_neg e3, if_pos e2, if_pos zm]] at m1
          exact m1
        exact ⟨_, _, _, c, mf _ el (b1.trans w) b3 (h2.2.2.2.2.2.2 a (by omega)).symm, ⟨⟨rfl, h1.2⟩, h2, P, ns, nw, nr, hp, hc, hri, hwy, hs, hw, hre, hti⟩⟩
      · have zc : ¬ p_hasCells_7 (ui σ 210 0) i 1 := fun y => z (hiff.mp y)
        rw [show f_cell σ 3 i t = (-9223372036854775808) by unfold f_cell; rw [if_pos q, if_pos qt, if_neg (by decide), if_neg (by decide), if_neg (by decide), if_neg na, if_neg a2, if_neg zc], show g_cell σ 3 i t = ui σ 210 3 by unfold g_cell; rw [if_pos q, if_pos qt, if_neg (by decide), if_neg (by decide), if_neg (by decide), if_neg na, if_neg a2, if_neg zc]] at c
        have mf : ∀ τ : mm_S, τ.2.2.1 39 3 = nI n → τ.2.2.1 38 3 = t → ¬ τ.2.2.1 38 3 = -9 → mm_Runs 999 i_X7_cell (0, [some (.ref 37), some (.int 3), some (.int i), some (.int t)], [], HH x τ) (some (.long (-9223372036854775808)), HH x (ui (ui τ 3700 0) 3700 3)) := by
          intro τ e1 e2 e3
          have m1 := m τ e1
          have zm := fun y => z ((mif τ e1).mp y)
          rw [show f_m_cell τ 3 i t = (-9223372036854775808) by unfold f_m_cell; rw [if_pos (qs τ), if_pos (qu τ), kc, if_neg e3, if_pos e2, if_neg zm]; rfl, show g_m_cell τ 3 i t = ui (ui τ 3700 0) 3700 3 by unfold g_m_cell; rw [if_pos (qs τ), if_pos (qu τ), kc, if_neg e3, if_pos e2, if_neg zm]; rfl] at m1
          exact m1
        exact ⟨_, _, _, c, mf _ el (b1.trans w) b3, ⟨⟨rfl, h1.2⟩, h2, P, ns, nw, nr, hp, hc, hri, hwy, hs, hw, hre, hti⟩⟩
    · have na : p_isOfAnother_7 (ui σ 210 0) t := ⟨a2, w⟩
      rw [show f_cell σ 3 i t = (-9223372036854775808) by unfold f_cell; rw [if_pos q, if_pos qt, if_neg (by decide), if_neg (by decide), if_neg (by decide), if_pos na], show g_cell σ 3 i t = ui σ 210 2 by unfold g_cell; rw [if_pos q, if_pos qt, if_neg (by decide), if_neg (by decide), if_neg (by decide), if_pos na]] at c
      have mf : ∀ τ : mm_S, τ.2.2.1 39 3 = nI n → ¬ τ.2.2.1 38 3 = t → ¬ τ.2.2.1 38 3 = -9 → mm_Runs 999 i_X7_cell (0, [some (.ref 37), some (.int 3), some (.int i), some (.int t)], [], HH x τ) (some (.long (-9223372036854775808)), HH x (ui (ui τ 3700 0) 3700 2)) := by
        intro τ e1 e2 e3
        have m1 := m τ e1
        rw [show f_m_cell τ 3 i t = (-9223372036854775808) by unfold f_m_cell; rw [if_pos (qs τ), if_pos (qu τ), kc, if_neg e3, if_neg e2]; rfl, show g_m_cell τ 3 i t = ui (ui τ 3700 0) 3700 2 by unfold g_m_cell; rw [if_pos (qs τ), if_pos (qu τ), kc, if_neg e3, if_neg e2]; rfl] at m1
        exact m1
      exact ⟨_, _, _, c, mf _ el (fun y => w (b1.symm.trans y)) b3, ⟨⟨rfl, h1.2⟩, h2, P, ns, nw, nr, hp, hc, hri, hwy, hs, hw, hre, hti⟩⟩
theorem op_cell : opL Rel i_X6_cell i_X7_cell 3 := by
  intro x σ as h hr
  obtain ⟨k, i, t, rfl⟩ := as_3 h
  obtain ⟨h1, h2, P, ns, nw, nr, hp, hc, hri, hwy, hs, hw, hre, hti⟩ := id hr
  by_cases qt : p_isSort (ui σ 210 0) t
  · rcases sheet_4 (ui σ 210 0) k with q | ⟨-, rfl | rfl | rfl | rfl⟩
    · have c := r_cell (d := 999) (x := x) (σ := σ) (k := k) (i := i) (j := t) (by omega) (fun z _ => absurd z q) (fun z _ _ _ _ _ => absurd z q) (fun z _ _ _ _ _ => absurd z q) (fun z _ _ _ _ _ => absurd z q) (fun z _ _ _ _ _ => absurd z q)
      have mf : ∀ τ : mm_S, mm_Runs 999 i_X7_cell (0, [some (.ref 37), some (.int k), some (.int i), some (.int t)], [], HH x τ) (some (.long (-9223372036854775808)), HH x (ui τ 3700 0)) := by
        intro τ
        have q2 : ¬ p_m_isSheet (ui τ 3700 0) k := fun z => q ((sheet_iff (ui τ 3700 0) (ui σ 210 0) k).mp z)
        have m := r_m_cell (d := 999) (x := x) (σ := τ) (k := k) (i := i) (j := t) (by omega) (fun z _ => absurd z q2) (fun z _ _ => absurd z q2) (fun z _ _ => absurd z q2) (fun z _ _ _ => absurd z q2) (fun z _ _ _ => absurd z q2) (fun z _ _ _ _ => absurd z q2)
        rw [show f_m_cell τ k i t = (-9223372036854775808) by unfold f_m_cell; rw [if_neg q2], show g_m_cell τ k i t = ui τ 3700 0 by unfold g_m_cell; rw [if_neg q2]] at m
        exact m
      rw [show f_cell σ k i t = (-9223372036854775808) by unfold f_cell; rw [if_neg q], show g_cell σ k i t = ui σ 210 0 by unfold g_cell; rw [if_neg q]] at c
      exact ⟨_, _, _, c, mf _, ⟨⟨rfl, h1.2⟩, h2, P, ns, nw, nr, hp, hc, hri, hwy, hs, hw, hre, hti⟩⟩
    · exact cell_0 hr qt
    · exact cell_1 hr qt
    · exact cell_2 hr qt
    · exact cell_3q hr qt
  · have c := r_cell (d := 999) (x := x) (σ := σ) (k := k) (i := i) (j := t) (by omega) (fun _ z => absurd z qt) (fun _ z _ _ _ _ => absurd z qt) (fun _ z _ _ _ _ => absurd z qt) (fun _ z _ _ _ _ => absurd z qt) (fun _ z _ _ _ _ => absurd z qt)
    have mf : ∀ τ : mm_S, mm_Runs 999 i_X7_cell (0, [some (.ref 37), some (.int k), some (.int i), some (.int t)], [], HH x τ) (some (.long (-9223372036854775808)), HH x (ui τ 3700 0)) := by
      intro τ
      have q2 : ¬ p_m_isSort (ui τ 3700 0) t := fun z => qt ((sort_iff (ui τ 3700 0) (ui σ 210 0) t).mp z)
      have m := r_m_cell (d := 999) (x := x) (σ := τ) (k := k) (i := i) (j := t) (by omega) (fun _ z => absurd z q2) (fun _ z _ => absurd z q2) (fun _ z _ => absurd z q2) (fun _ z _ _ => absurd z q2) (fun _ z _ _ => absurd z q2) (fun _ z _ _ _ => absurd z q2)
      rw [show f_m_cell τ k i t = (-9223372036854775808) by unfold f_m_cell; simp [q2], show g_m_cell τ k i t = ui τ 3700 0 by unfold g_m_cell; simp [q2]] at m
      exact m
    rw [show f_cell σ k i t = (-9223372036854775808) by unfold f_cell; simp [qt], show g_cell σ k i t = ui σ 210 0 by unfold g_cell; simp [qt]] at c
    exact ⟨_, _, _, c, mf _, ⟨⟨rfl, h1.2⟩, h2, P, ns, nw, nr, hp, hc, hri, hwy, hs, hw, hre, hti⟩⟩
