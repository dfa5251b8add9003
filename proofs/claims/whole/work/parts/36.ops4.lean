/-! sheets: lose, put, cell (written by wip/whole/ops4.py) -/
theorem hcA {n : Nat} (hn : n ≤ 60) (i : Int32) : (¬ i < 0 ∧ (¬ (1 : Int32) < 0 ∧ (¬ nI n < i ∧ ¬ (nI n - i) < 1))) ↔ ∃ a, a < n ∧ i = nI a := by
  constructor
  · rintro ⟨h1, -, h2, h3⟩
    obtain ⟨a, ha, rfl⟩ := nI_of2 (x := i) (M := nI n) (n := n) (nI_toInt (by omega)) h1 (by
      rw [Int32.lt_iff_toInt_lt] at h2
      rw [Int32.le_iff_toInt_le]
      omega)
    rw [pk_sub ha] at h3
    refine ⟨a, ?_, rfl⟩
    rcases Nat.lt_or_ge a n with q | q
    · exact q
    · exfalso
      apply h3
      rw [show n - a = 0 by omega]
      decide
  · rintro ⟨a, ha, rfl⟩
    refine ⟨nI_pos (by omega), by decide, nI_nlt (by omega) (by omega), ?_⟩
    rw [pk_sub (by omega)]
    exact nI_nlt (a := n - a) (b := 1) (by omega) (by omega)
theorem hcB {n : Nat} (hn : n ≤ 60) (i : Int32) : (¬ i < 0 ∧ ¬ (nI n - 1) < i) ↔ ∃ a, a < n ∧ i = nI a := by
  have e : (nI n - 1).toInt = (n : Int) - (1 : Nat) := pk_sub_toInt (a := n) (b := 1) (by omega) (by omega)
  constructor
  · rintro ⟨h1, h2⟩
    rw [Int32.lt_iff_toInt_lt, e] at h2
    have h3 : 0 ≤ i.toInt := by
      rw [Int32.lt_iff_toInt_lt] at h1
      have e0 : (0 : Int32).toInt = 0 := rfl
      omega
    obtain ⟨a, ha, rfl⟩ := nI_of h1
    rw [nI_toInt ha] at h2
    exact ⟨a, by omega, rfl⟩
  · rintro ⟨a, ha, rfl⟩
    refine ⟨nI_pos (by omega), ?_⟩
    rw [Int32.lt_iff_toInt_lt, e, nI_toInt (by omega)]
    omega
theorem kd_n9 {k : Int32} (h : kd k) : ¬ k = -9 := by
  rcases h with rfl | rfl | rfl <;> decide
theorem sheet_iff (τ σ : mm_S) (k : Int32) : p_m_isSheet τ k ↔ p_isSheet σ k := by
  unfold p_m_isSheet p_m_within p_isSheet
  simp only [Int32.lt_iff_toInt_lt, Int32.le_iff_toInt_le]
  have e0 : (0 : Int32).toInt = 0 := rfl
  have e2 : (3 : Int32).toInt = 3 := rfl
  have e3 : (4 : Int32).toInt = 4 := rfl
  rw [e0, e2, e3]
  omega
theorem sort_iff (τ σ : mm_S) (k : Int32) : p_m_isSort τ k ↔ p_isSort σ k := kind_iff τ σ k
/-- a sheet's number: none, or one of the four -/
theorem sheet_4 (σ : mm_S) (k : Int32) : ¬ p_isSheet σ k ∨ (p_isSheet σ k ∧ (k = 0 ∨ k = 1 ∨ k = 2 ∨ k = 3)) := by
  by_cases h : p_isSheet σ k
  · refine Or.inr ⟨h, ?_⟩
    rcases mm_sw0_3 k with q | q | q | q | q
    · exact Or.inl q
    · exact Or.inr (Or.inl q)
    · exact Or.inr (Or.inr (Or.inl q))
    · exact Or.inr (Or.inr (Or.inr q))
    · unfold p_isSheet at h
      simp only [Int32.lt_iff_toInt_lt, Int32.le_iff_toInt_le] at h
      have e0 : (0 : Int32).toInt = 0 := rfl
      have e3 : (4 : Int32).toInt = 4 := rfl
      rw [e0, e3] at h
      omega
  · exact Or.inl h
theorem lose_0 {x : Nat × (Nat → Int32)} {σ : mm_S} (hr : Rel σ) : ∃ (v : Int32) (σ1 σ2 : mm_S), mm_Runs 999 i_X6_lose (0, [some (.ref 2), some (.int 0), none], [], HH x σ) (some (.int v), HH x σ1) ∧ mm_Runs 999 i_X7_lose (0, [some (.ref 37), some (.int 0), none], [], HH x σ1) (some (.int v), HH x σ2) ∧ Rel σ2 := by
  obtain ⟨h1, h2, P, ns, nw, nr, hp, hc, hri, hwy, hs, hw, hre, hti⟩ := id hr
  have q : p_isSheet σ 0 := by unfold p_isSheet; decide
  have c := r_lose (d := 999) (x := x) (σ := σ) (k := 0) (by omega) (fun _ => by decide)
  have m := fun τ : mm_S => r_m_lose (d := 999) (x := x) (σ := τ) (k := 0) (by omega) (fun _ => by decide) (fun _ _ => by decide) (fun _ _ => by decide)
  have eg : g_lose σ 0 = ui σ 401 0 := by unfold g_lose; rw [if_pos q, if_pos rfl]
  have hm : ∀ τ : mm_S, g_m_lose τ 0 = ua τ 38 (upd (τ.2.2.1 38) 0 (-9)) := fun τ => by unfold g_m_lose; rw [if_pos ((sheet_iff τ σ 0).mpr q)]; rfl
  have rl : Rel (ua (ui σ 401 0) 38 (upd (σ.2.2.1 38) 0 (-9))) := ⟨h1, ⟨⟨Or.inl ⟨rfl, by show upd (σ.2.2.1 38) 0 (-9) 0 = -9; rw [upd_at, if_pos rfl]⟩, h2.1.2⟩, ⟨h2.2.1.1.imp (fun z => ⟨z.1, by show upd (σ.2.2.1 38) 0 (-9) 1 = -9; rw [upd_at, if_neg (by decide)]; exact z.2⟩) (fun z => ⟨z.1, by show upd (σ.2.2.1 38) 0 (-9) 1 = _; rw [upd_at, if_neg (by decide)]; exact z.2.1, z.2.2⟩), h2.2.1.2⟩, ⟨h2.2.2.1.1.imp (fun z => ⟨z.1, by show upd (σ.2.2.1 38) 0 (-9) 2 = -9; rw [upd_at, if_neg (by decide)]; exact z.2⟩) (fun z => ⟨z.1, by show upd (σ.2.2.1 38) 0 (-9) 2 = _; rw [upd_at, if_neg (by decide)]; exact z.2.1, z.2.2⟩), h2.2.2.1.2⟩, ⟨h2.2.2.2.1.imp (fun z => ⟨z.1, by show upd (σ.2.2.1 38) 0 (-9) 3 = -9; rw [upd_at, if_neg (by decide)]; exact z.2⟩) (fun z => ⟨z.1, by show upd (σ.2.2.1 38) 0 (-9) 3 = _; rw [upd_at, if_neg (by decide)]; exact z.2.1, z.2.2⟩), h2.2.2.2.2⟩⟩, P, ns, nw, nr, hp, hc, hri, hwy, hs, hw, hre, hti⟩
  rcases h2.1.1 with ⟨a, b⟩ | ⟨a, b, b2⟩
  · rw [eg, show f_lose σ 0 = 0 by unfold f_lose; rw [if_pos q, if_pos rfl, if_pos a]] at c
    have mf : ∀ τ : mm_S, τ.2.2.1 38 0 = -9 → mm_Runs 999 i_X7_lose (0, [some (.ref 37), some (.int 0), none], [], HH x τ) (some (.int 0), HH x (ua τ 38 (upd (τ.2.2.1 38) 0 (-9)))) := by
      intro τ e
      have m1 := m τ
      rw [hm, show f_m_lose τ 0 = 0 by unfold f_m_lose; rw [if_pos ((sheet_iff τ σ 0).mpr q), show (0 : Int32).toNatClampNeg = 0 from rfl, if_pos e]] at m1
      exact m1
    exact ⟨_, _, _, c, mf _ b, rl⟩
  · rw [eg, show f_lose σ 0 = 1 by unfold f_lose; rw [if_pos q, if_pos rfl, if_neg (by rw [a]; decide)]] at c
    have mf : ∀ τ : mm_S, ¬ τ.2.2.1 38 0 = -9 → mm_Runs 999 i_X7_lose (0, [some (.ref 37), some (.int 0), none], [], HH x τ) (some (.int 1), HH x (ua τ 38 (upd (τ.2.2.1 38) 0 (-9)))) := by
      intro τ e
      have m1 := m τ
      rw [hm, show f_m_lose τ 0 = 1 by unfold f_m_lose; rw [if_pos ((sheet_iff τ σ 0).mpr q), show (0 : Int32).toNatClampNeg = 0 from rfl, if_neg e]] at m1
      exact m1
    exact ⟨_, _, _, c, mf _ (fun z => kd_n9 b2 (b.symm.trans z)), rl⟩
theorem lose_1 {x : Nat × (Nat → Int32)} {σ : mm_S} (hr : Rel σ) : ∃ (v : Int32) (σ1 σ2 : mm_S), mm_Runs 999 i_X6_lose (0, [some (.ref 2), some (.int 1), none], [], HH x σ) (some (.int v), HH x σ1) ∧ mm_Runs 999 i_X7_lose (0, [some (.ref 37), some (.int 1), none], [], HH x σ1) (some (.int v), HH x σ2) ∧ Rel σ2 := by
  obtain ⟨h1, h2, P, ns, nw, nr, hp, hc, hri, hwy, hs, hw, hre, hti⟩ := id hr
  have q : p_isSheet σ 1 := by unfold p_isSheet; decide
  have c := r_lose (d := 999) (x := x) (σ := σ) (k := 1) (by omega) (fun _ => by decide)
  have m := fun τ : mm_S => r_m_lose (d := 999) (x := x) (σ := τ) (k := 1) (by omega) (fun _ => by decide) (fun _ _ => by decide) (fun _ _ => by decide)
  have eg : g_lose σ 1 = ui σ 501 0 := by unfold g_lose; rw [if_pos q, if_neg (by decide), if_pos rfl]
  have hm : ∀ τ : mm_S, g_m_lose τ 1 = ua τ 38 (upd (τ.2.2.1 38) 1 (-9)) := fun τ => by unfold g_m_lose; rw [if_pos ((sheet_iff τ σ 1).mpr q)]; rfl
  have rl : Rel (ua (ui σ 501 0) 38 (upd (σ.2.2.1 38) 1 (-9))) := ⟨h1, ⟨⟨h2.1.1.imp (fun z => ⟨z.1, by show upd (σ.2.2.1 38) 1 (-9) 0 = -9; rw [upd_at, if_neg (by decide)]; exact z.2⟩) (fun z => ⟨z.1, by show upd (σ.2.2.1 38) 1 (-9) 0 = _; rw [upd_at, if_neg (by decide)]; exact z.2.1, z.2.2⟩), h2.1.2⟩, ⟨Or.inl ⟨rfl, by show upd (σ.2.2.1 38) 1 (-9) 1 = -9; rw [upd_at, if_pos rfl]⟩, h2.2.1.2⟩, ⟨h2.2.2.1.1.imp (fun z => ⟨z.1, by show upd (σ.2.2.1 38) 1 (-9) 2 = -9; rw [upd_at, if_neg (by decide)]; exact z.2⟩) (fun z => ⟨z.1, by show upd (σ.2.2.1 38) 1 (-9) 2 = _; rw [upd_at, if_neg (by decide)]; exact z.2.1, z.2.2⟩), h2.2.2.1.2⟩, ⟨h2.2.2.2.1.imp (fun z => ⟨z.1, by show upd (σ.2.2.1 38) 1 (-9) 3 = -9; rw [upd_at, if_neg (by decide)]; exact z.2⟩) (fun z => ⟨z.1, by show upd (σ.2.2.1 38) 1 (-9) 3 = _; rw [upd_at, if_neg (by decide)]; exact z.2.1, z.2.2⟩), h2.2.2.2.2⟩⟩, P, ns, nw, nr, hp, hc, hri, hwy, hs, hw, hre, hti⟩
  rcases h2.2.1.1 with ⟨a, b⟩ | ⟨a, b, b2⟩
  · rw [eg, show f_lose σ 1 = 0 by unfold f_lose; rw [if_pos q, if_neg (by decide), if_pos rfl, if_pos a]] at c
    have mf : ∀ τ : mm_S, τ.2.2.1 38 1 = -9 → mm_Runs 999 i_X7_lose (0, [some (.ref 37), some (.int 1), none], [], HH x τ) (some (.int 0), HH x (ua τ 38 (upd (τ.2.2.1 38) 1 (-9)))) := by
      intro τ e
      have m1 := m τ
      rw [hm, show f_m_lose τ 1 = 0 by unfold f_m_lose; rw [if_pos ((sheet_iff τ σ 1).mpr q), show (1 : Int32).toNatClampNeg = 1 from rfl, if_pos e]] at m1
      exact m1
    exact ⟨_, _, _, c, mf _ b, rl⟩
  · rw [eg, show f_lose σ 1 = 1 by unfold f_lose; rw [if_pos q, if_neg (by decide), if_pos rfl, if_neg (by rw [a]; decide)]] at c
    have mf : ∀ τ : mm_S, ¬ τ.2.2.1 38 1 = -9 → mm_Runs 999 i_X7_lose (0, [some (.ref 37), some (.int 1), none], [], HH x τ) (some (.int 1), HH x (ua τ 38 (upd (τ.2.2.1 38) 1 (-9)))) := by
      intro τ e
      have m1 := m τ
      rw [hm, show f_m_lose τ 1 = 1 by unfold f_m_lose; rw [if_pos ((sheet_iff τ σ 1).mpr q), show (1 : Int32).toNatClampNeg = 1 from rfl, if_neg e]] at m1
      exact m1
    exact ⟨_, _, _, c, mf _ (fun z => kd_n9 b2 (b.symm.trans z)), rl⟩
theorem lose_2 {x : Nat × (Nat → Int32)} {σ : mm_S} (hr : Rel σ) : ∃ (v : Int32) (σ1 σ2 : mm_S), mm_Runs 999 i_X6_lose (0, [some (.ref 2), some (.int 2), none], [], HH x σ) (some (.int v), HH x σ1) ∧ mm_Runs 999 i_X7_lose (0, [some (.ref 37), some (.int 2), none], [], HH x σ1) (some (.int v), HH x σ2) ∧ Rel σ2 := by
  obtain ⟨h1, h2, P, ns, nw, nr, hp, hc, hri, hwy, hs, hw, hre, hti⟩ := id hr
  have q : p_isSheet σ 2 := by unfold p_isSheet; decide
  have c := r_lose (d := 999) (x := x) (σ := σ) (k := 2) (by omega) (fun _ => by decide)
  have m := fun τ : mm_S => r_m_lose (d := 999) (x := x) (σ := τ) (k := 2) (by omega) (fun _ => by decide) (fun _ _ => by decide) (fun _ _ => by decide)
  have eg : g_lose σ 2 = ui σ 601 0 := by unfold g_lose; rw [if_pos q, if_neg (by decide), if_neg (by decide), if_pos rfl]
  have hm : ∀ τ : mm_S, g_m_lose τ 2 = ua τ 38 (upd (τ.2.2.1 38) 2 (-9)) := fun τ => by unfold g_m_lose; rw [if_pos ((sheet_iff τ σ 2).mpr q)]; rfl
  have rl : Rel (ua (ui σ 601 0) 38 (upd (σ.2.2.1 38) 2 (-9))) := ⟨h1, ⟨⟨h2.1.1.imp (fun z => ⟨z.1, by show upd (σ.2.2.1 38) 2 (-9) 0 = -9; rw [upd_at, if_neg (by decide)]; exact z.2⟩) (fun z => ⟨z.1, by show upd (σ.2.2.1 38) 2 (-9) 0 = _; rw [upd_at, if_neg (by decide)]; exact z.2.1, z.2.2⟩), h2.1.2⟩, ⟨h2.2.1.1.imp (fun z => ⟨z.1, by show upd (σ.2.2.1 38) 2 (-9) 1 = -9; rw [upd_at, if_neg (by decide)]; exact z.2⟩) (fun z => ⟨z.1, by show upd (σ.2.2.1 38) 2 (-9) 1 = _; rw [upd_at, if_neg (by decide)]; exact z.2.1, z.2.2⟩), h2.2.1.2⟩, ⟨Or.inl ⟨rfl, by show upd (σ.2.2.1 38) 2 (-9) 2 = -9; rw [upd_at, if_pos rfl]⟩, h2.2.2.1.2⟩, ⟨h2.2.2.2.1.imp (fun z => ⟨z.1, by show upd (σ.2.2.1 38) 2 (-9) 3 = -9; rw [upd_at, if_neg (by decide)]; exact z.2⟩) (fun z => ⟨z.1, by show upd (σ.2.2.1 38) 2 (-9) 3 = _; rw [upd_at, if_neg (by decide)]; exact z.2.1, z.2.2⟩), h2.2.2.2.2⟩⟩, P, ns, nw, nr, hp, hc, hri, hwy, hs, hw, hre, hti⟩
  rcases h2.2.2.1.1 with ⟨a, b⟩ | ⟨a, b, b2⟩
  · rw [eg, show f_lose σ 2 = 0 by unfold f_lose; rw [if_pos q, if_neg (by decide), if_neg (by decide), if_pos rfl, if_pos a]] at c
    have mf : ∀ τ : mm_S, τ.2.2.1 38 2 = -9 → mm_Runs 999 i_X7_lose (0, [some (.ref 37), some (.int 2), none], [], HH x τ) (some (.int 0), HH x (ua τ 38 (upd (τ.2.2.1 38) 2 (-9)))) := by
      intro τ e
      have m1 := m τ
      rw [hm, show f_m_lose τ 2 = 0 by unfold f_m_lose; rw [if_pos ((sheet_iff τ σ 2).mpr q), show (2 : Int32).toNatClampNeg = 2 from rfl, if_pos e]] at m1
      exact m1
    exact ⟨_, _, _, c, mf _ b, rl⟩
  · rw [eg, show f_lose σ 2 = 1 by unfold f_lose; rw [if_pos q, if_neg (by decide), if_neg (by decide), if_pos rfl, if_neg (by rw [a]; decide)]] at c
    have mf : ∀ τ : mm_S, ¬ τ.2.2.1 38 2 = -9 → mm_Runs 999 i_X7_lose (0, [some (.ref 37), some (.int 2), none], [], HH x τ) (some (.int 1), HH x (ua τ 38 (upd (τ.2.2.1 38) 2 (-9)))) := by
      intro τ e
      have m1 := m τ
      rw [hm, show f_m_lose τ 2 = 1 by unfold f_m_lose; rw [if_pos ((sheet_iff τ σ 2).mpr q), show (2 : Int32).toNatClampNeg = 2 from rfl, if_neg e]] at m1
      exact m1
    exact ⟨_, _, _, c, mf _ (fun z => kd_n9 b2 (b.symm.trans z)), rl⟩
theorem lose_3 {x : Nat × (Nat → Int32)} {σ : mm_S} (hr : Rel σ) : ∃ (v : Int32) (σ1 σ2 : mm_S), mm_Runs 999 i_X6_lose (0, [some (.ref 2), some (.int 3), none], [], HH x σ) (some (.int v), HH x σ1) ∧ mm_Runs 999 i_X7_lose (0, [some (.ref 37), some (.int 3), none], [], HH x σ1) (some (.int v), HH x σ2) ∧ Rel σ2 := by
  obtain ⟨h1, h2, P, ns, nw, nr, hp, hc, hri, hwy, hs, hw, hre, hti⟩ := id hr
  have q : p_isSheet σ 3 := by unfold p_isSheet; decide
  have c := r_lose (d := 999) (x := x) (σ := σ) (k := 3) (by omega) (fun _ => by decide)
  have m := fun τ : mm_S => r_m_lose (d := 999) (x := x) (σ := τ) (k := 3) (by omega) (fun _ => by decide) (fun _ _ => by decide) (fun _ _ => by decide)
  have eg : g_lose σ 3 = ui σ 701 0 := by unfold g_lose; rw [if_pos q, if_neg (by decide), if_neg (by decide), if_neg (by decide)]
  have hm : ∀ τ : mm_S, g_m_lose τ 3 = ua τ 38 (upd (τ.2.2.1 38) 3 (-9)) := fun τ => by unfold g_m_lose; rw [if_pos ((sheet_iff τ σ 3).mpr q)]; rfl
  have rl : Rel (ua (ui σ 701 0) 38 (upd (σ.2.2.1 38) 3 (-9))) := ⟨h1, ⟨⟨h2.1.1.imp (fun z => ⟨z.1, by show upd (σ.2.2.1 38) 3 (-9) 0 = -9; rw [upd_at, if_neg (by decide)]; exact z.2⟩) (fun z => ⟨z.1, by show upd (σ.2.2.1 38) 3 (-9) 0 = _; rw [upd_at, if_neg (by decide)]; exact z.2.1, z.2.2⟩), h2.1.2⟩, ⟨h2.2.1.1.imp (fun z => ⟨z.1, by show upd (σ.2.2.1 38) 3 (-9) 1 = -9; rw [upd_at, if_neg (by decide)]; exact z.2⟩) (fun z => ⟨z.1, by show upd (σ.2.2.1 38) 3 (-9) 1 = _; rw [upd_at, if_neg (by decide)]; exact z.2.1, z.2.2⟩), h2.2.1.2⟩, ⟨h2.2.2.1.1.imp (fun z => ⟨z.1, by show upd (σ.2.2.1 38) 3 (-9) 2 = -9; rw [upd_at, if_neg (by decide)]; exact z.2⟩) (fun z => ⟨z.1, by show upd (σ.2.2.1 38) 3 (-9) 2 = _; rw [upd_at, if_neg (by decide)]; exact z.2.1, z.2.2⟩), h2.2.2.1.2⟩, ⟨Or.inl ⟨rfl, by show upd (σ.2.2.1 38) 3 (-9) 3 = -9; rw [upd_at, if_pos rfl]⟩, h2.2.2.2.2⟩⟩, P, ns, nw, nr, hp, hc, hri, hwy, hs, hw, hre, hti⟩
  rcases h2.2.2.2.1 with ⟨a, b⟩ | ⟨a, b, b2⟩
  · rw [eg, show f_lose σ 3 = 0 by unfold f_lose; rw [if_pos q, if_neg (by decide), if_neg (by decide), if_neg (by decide), if_pos a]] at c
    have mf : ∀ τ : mm_S, τ.2.2.1 38 3 = -9 → mm_Runs 999 i_X7_lose (0, [some (.ref 37), some (.int 3), none], [], HH x τ) (some (.int 0), HH x (ua τ 38 (upd (τ.2.2.1 38) 3 (-9)))) := by
      intro τ e
      have m1 := m τ
      rw [hm, show f_m_lose τ 3 = 0 by unfold f_m_lose; rw [if_pos ((sheet_iff τ σ 3).mpr q), show (3 : Int32).toNatClampNeg = 3 from rfl, if_pos e]] at m1
      exact m1
    exact ⟨_, _, _, c, mf _ b, rl⟩
  · rw [eg, show f_lose σ 3 = 1 by unfold f_lose; rw [if_pos q, if_neg (by decide), if_neg (by decide), if_neg (by decide), if_neg (by rw [a]; decide)]] at c
    have mf : ∀ τ : mm_S, ¬ τ.2.2.1 38 3 = -9 → mm_Runs 999 i_X7_lose (0, [some (.ref 37), some (.int 3), none], [], HH x τ) (some (.int 1), HH x (ua τ 38 (upd (τ.2.2.1 38) 3 (-9)))) := by
      intro τ e
      have m1 := m τ
      rw [hm, show f_m_lose τ 3 = 1 by unfold f_m_lose; rw [if_pos ((sheet_iff τ σ 3).mpr q), show (3 : Int32).toNatClampNeg = 3 from rfl, if_neg e]] at m1
      exact m1
    exact ⟨_, _, _, c, mf _ (fun z => kd_n9 b2 (b.symm.trans z)), rl⟩
theorem op_lose : opI Rel i_X6_lose i_X7_lose 1 := by
  intro x σ as h hr
  obtain ⟨k, rfl⟩ := as_1 h
  rcases sheet_4 σ k with q | ⟨-, rfl | rfl | rfl | rfl⟩
  · have c := r_lose (d := 999) (x := x) (σ := σ) (k := k) (by omega) (fun z => absurd z q)
    have q2 : ¬ p_m_isSheet σ k := fun z => q ((sheet_iff σ σ k).mp z)
    have m := r_m_lose (d := 999) (x := x) (σ := σ) (k := k) (by omega) (fun z => absurd z q2) (fun z => absurd z q2) (fun z => absurd z q2)
    rw [show f_lose σ k = -1 by unfold f_lose; rw [if_neg q], show g_lose σ k = σ by unfold g_lose; rw [if_neg q]] at c
    rw [show f_m_lose σ k = -1 by unfold f_m_lose; rw [if_neg q2], show g_m_lose σ k = σ by unfold g_m_lose; rw [if_neg q2]] at m
    exact ⟨-1, σ, σ, c, m, hr⟩
  · exact lose_0 hr
  · exact lose_1 hr
  · exact lose_2 hr
  · exact lose_3 hr
theorem put_0 {x : Nat × (Nat → Int32)} {σ : mm_S} {i v : Int32} (hr : Rel σ) : ∃ (r : Int32) (σ1 σ2 : mm_S), mm_Runs 999 i_X6_put (0, [some (.ref 2), some (.int 0), some (.int i), some (.int v)], [], HH x σ) (some (.int r), HH x σ1) ∧ mm_Runs 999 i_X7_put (0, [some (.ref 37), some (.int 0), some (.int i), some (.int v)], [], HH x σ1) (some (.int r), HH x σ2) ∧ Rel σ2 := by
  obtain ⟨h1, h2, P, ns, nw, nr, hp, hc, hri, hwy, hs, hw, hre, hti⟩ := id hr
  obtain ⟨n, hn, en⟩ := h2.1.2.2.1
  have el := h2.1.2.1.symm.trans en
  have q : p_isSheet (ui σ 210 0) 0 := by unfold p_isSheet; decide
  have hiff : p_hasCells_4 (ui σ 210 0) i 1 ↔ ∃ a, a < n ∧ i = nI a := by
    unfold p_hasCells_4
    rw [show (ui σ 210 0).1 403 = nI n from en]
    exact hcA hn i
  have hgC : p_hasCells_4 (ui σ 210 0) i 1 → ¬ (i < 0 ∨ 60 ≤ i.toNatClampNeg) := by
    intro z
    obtain ⟨a, ha, rfl⟩ := hiff.mp z
    exact nI_in (by omega) (by omega)
  have hgCX : False → ¬ (i < 0 ∨ 60 ≤ i.toNatClampNeg) := fun z => z.elim
  have c := r_put (d := 999) (x := x) (σ := σ) (k := 0) (i := i) (v := v) (by omega) (fun _ => by decide) (fun _ z _ q _ _ => hgC q) (fun _ z _ q _ _ => hgC q) (fun _ z _ q _ => hgC q) (fun _ z _ q _ _ => hgCX (by revert z; decide)) (fun _ z _ q _ _ => hgCX (by revert z; decide)) (fun _ z _ q _ => hgCX (by revert z; decide)) (fun _ z _ q _ _ => hgCX (by revert z; decide)) (fun _ z _ q _ _ => hgCX (by revert z; decide)) (fun _ z _ q _ => hgCX (by revert z; decide)) (fun _ z _ q _ _ => hgCX (by revert z; decide)) (fun _ z _ q _ _ => hgCX (by revert z; decide)) (fun _ z _ q _ => hgCX (by revert z; decide))
  have mif : ∀ τ : mm_S, τ.2.2.1 39 0 = nI n → (p_m_within (ui τ 3700 0) i 0 (τ.2.2.1 39 0 - 1) ↔ ∃ a, a < n ∧ i = nI a) := by
    intro τ e
    unfold p_m_within
    rw [e]
    exact hcB hn i
  have mg : ∀ τ : mm_S, τ.2.2.1 39 0 = nI n → p_m_within (ui τ 3700 0) i 0 (τ.2.2.1 39 0 - 1) → ¬ ((60 : Int32) * 0 + i < 0 ∨ 240 ≤ ((60 : Int32) * 0 + i).toNatClampNeg) := by
    intro τ e z
    obtain ⟨a, ha, rfl⟩ := (mif τ e).mp z
    rw [show (60 : Int32) * 0 + nI a = nI (0 + a) from nI_add 0 a]
    exact nI_in (by omega) (by omega)
  have m := fun (τ : mm_S) (e : τ.2.2.1 39 0 = nI n) => r_m_put (d := 999) (x := x) (σ := τ) (k := 0) (i := i) (v := v) (by omega) (fun _ => by decide) (fun _ _ => by decide) (fun _ _ _ => by decide) (fun _ _ _ _ => by decide) (fun _ _ z _ _ => mg τ e z) (fun _ _ z _ _ => mg τ e z) (fun _ _ z _ => mg τ e z)
  have qs := fun τ : mm_S => (sheet_iff (ui τ 3700 0) (ui σ 210 0) 0).mpr q
  have kc : (0 : Int32).toNatClampNeg = 0 := rfl
  rcases h2.1.1 with ⟨a1, b1⟩ | ⟨a1, b1, b2⟩
  · rw [show f_put σ 0 i v = -11 by unfold f_put; rw [if_pos q, if_pos rfl, if_pos a1]; rfl, show g_put σ 0 i v = ui (ui σ 210 0) 210 1 by unfold g_put; rw [if_pos q, if_pos rfl, if_pos a1]; rfl] at c
    have mf : ∀ τ : mm_S, τ.2.2.1 39 0 = nI n → τ.2.2.1 38 0 = -9 → mm_Runs 999 i_X7_put (0, [some (.ref 37), some (.int 0), some (.int i), some (.int v)], [], HH x τ) (some (.int (-11)), HH x (ui (ui τ 3700 0) 3700 1)) := by
      intro τ e1 e2
      have m1 := m τ e1
      rw [show f_m_put τ 0 i v = -11 by unfold f_m_put; rw [if_pos (qs τ), kc, if_pos e2]; rfl, show g_m_put τ 0 i v = ui (ui τ 3700 0) 3700 1 by unfold g_m_put; rw [if_pos (qs τ), kc, if_pos e2]; rfl] at m1
      exact m1
    exact ⟨_, _, _, c, mf _ el b1, ⟨⟨rfl, h1.2⟩, h2, P, ns, nw, nr, hp, hc, hri, hwy, hs, hw, hre, hti⟩⟩
  · have a2 : ¬ σ.1 401 = 0 := by rw [a1]; decide
    have b3 : ¬ σ.2.2.1 38 0 = -9 := fun z => kd_n9 b2 (b1.symm.trans z)
    by_cases z : ∃ a, a < n ∧ i = nI a
    · have zc := hiff.mpr z
      obtain ⟨a, ha, rfl⟩ := id z
      have ac : (nI a).toNatClampNeg = a := nI_clamp (by omega)
      have ec : ((60 : Int32) * 0 + nI a).toNatClampNeg = 0 + a := by
        rw [show (60 : Int32) * 0 + nI a = nI (0 + a) from nI_add 0 a]
        exact nI_clamp (by omega)
      have fin : ∀ w : Int32, g_put σ 0 (nI a) v = ua (ui σ 210 0) 8 (upd (σ.2.2.1 8) a w) → (∀ τ : mm_S, τ.2.2.1 39 0 = nI n → τ.2.2.1 38 0 = σ.1 402 → g_m_put τ 0 (nI a) v = ua (ui τ 3700 0) 40 (upd (τ.2.2.1 40) (0 + a) w)) → ∃ (r : Int32) (σ1 σ2 : mm_S), mm_Runs 999 i_X6_put (0, [some (.ref 2), some (.int 0), some (.int (nI a)), some (.int v)], [], HH x σ) (some (.int r), HH x σ1) ∧ mm_Runs 999 i_X7_put (0, [some (.ref 37), some (.int 0), some (.int (nI a)), some (.int v)], [], HH x σ1) (some (.int r), HH x σ2) ∧ Rel σ2 := by
        intro w eg em
        rw [eg, show f_put σ 0 (nI a) v = 1 by unfold f_put; rw [if_pos q, if_pos rfl, if_neg a2, if_pos zc]] at c
        have mf : ∀ τ : mm_S, τ.2.2.1 39 0 = nI n → τ.2.2.1 38 0 = σ.1 402 → mm_Runs 999 i_X7_put (0, [some (.ref 37), some (.int 0), some (.int (nI a)), some (.int v)], [], HH x τ) (some (.int 1), HH x (ua (ui τ 3700 0) 40 (upd (τ.2.2.1 40) (0 + a) w))) := by
          intro τ e1 e2
          have m1 := m τ e1
          rw [em τ e1 e2, show f_m_put τ 0 (nI a) v = 1 by unfold f_m_put; rw [if_pos (qs τ), kc, if_neg (by rw [e2]; exact kd_n9 b2), if_pos ((mif τ e1).mpr ⟨a, ha, rfl⟩)]] at m1
          exact m1
        refine ⟨_, _, _, c, mf _ el b1, ⟨⟨rfl, h1.2⟩, ⟨⟨h2.1.1, h2.1.2.1, h2.1.2.2.1, fun y hy => by
          show upd (σ.2.2.1 8) a w y = upd (σ.2.2.1 40) (0 + a) w (60 * 0 + y)
          rw [upd_at, upd_at]
          by_cases hya : y = a
          · rw [if_pos hya, if_pos (by omega)]
          · rw [if_neg hya, if_neg (by omega)]
            exact h2.1.2.2.2 y hy⟩, ⟨h2.2.1.1, h2.2.1.2.1, h2.2.1.2.2.1, fun y hy => by show σ.2.2.1 9 y = upd (σ.2.2.1 40) (0 + a) w (60 * 1 + y); rw [upd_at, if_neg (by omega)]; exact h2.2.1.2.2.2 y hy⟩, ⟨h2.2.2.1.1, h2.2.2.1.2.1, h2.2.2.1.2.2.1, fun y hy => by show σ.2.2.1 10 y = upd (σ.2.2.1 40) (0 + a) w (60 * 2 + y); rw [upd_at, if_neg (by omega)]; exact h2.2.2.1.2.2.2 y hy⟩, ⟨h2.2.2.2.1, h2.2.2.2.2.1, h2.2.2.2.2.2.1, fun y hy => by show σ.2.2.1 11 y = upd (σ.2.2.1 40) (0 + a) w (60 * 3 + y); rw [upd_at, if_neg (by omega)]; exact h2.2.2.2.2.2.2 y hy⟩⟩, P, ns, nw, nr, hp, hc, hri, hwy, hs, hw, hre, hti⟩⟩
      have gC : ∀ w : Int32, g_take_4 (ui σ 210 0) (nI a) v = ua (ui σ 210 0) 8 (upd (σ.2.2.1 8) a w) → g_put σ 0 (nI a) v = ua (ui σ 210 0) 8 (upd (σ.2.2.1 8) a w) := fun w e => by unfold g_put; rw [if_pos q, if_pos rfl, if_neg a2, if_pos zc]; exact e
      have gM : ∀ τ : mm_S, τ.2.2.1 39 0 = nI n → τ.2.2.1 38 0 = σ.1 402 → g_m_put τ 0 (nI a) v = (if τ.2.2.1 38 0 = 0 then ua (ui τ 3700 0) 40 (upd (τ.2.2.1 40) (0 + a) v.toInt8.toInt32) else if τ.2.2.1 38 0 = 1 then ua (ui τ 3700 0) 40 (upd (τ.2.2.1 40) (0 + a) v.toInt16.toInt32) else ua (ui τ 3700 0) 40 (upd (τ.2.2.1 40) (0 + a) v)) := by
        intro τ e1 e2
        unfold g_m_put
        rw [if_pos (qs τ), kc, if_neg (by rw [e2]; exact kd_n9 b2), if_pos ((mif τ e1).mpr ⟨a, ha, rfl⟩), ec]
      rcases b2 with b2 | b2 | b2
      · refine fin v.toInt8.toInt32 (gC _ ?_) (fun τ e1 e2 => ?_)
        · unfold g_take_4
          rw [if_pos (show (ui σ 210 0).1 402 = 0 from b2), ac]
          rfl
        · rw [gM τ e1 e2, if_pos (e2.trans b2)]
      · refine fin v.toInt16.toInt32 (gC _ ?_) (fun τ e1 e2 => ?_)
        · unfold g_take_4
          rw [if_neg (show ¬ (ui σ 210 0).1 402 = 0 from fun y => absurd (b2.symm.trans y) (by decide)), if_pos (show (ui σ 210 0).1 402 = 1 from b2), ac]
          rfl
        · rw [gM τ e1 e2, if_neg (fun y => absurd (b2.symm.trans (e2.symm.trans y)) (by decide)), if_pos (e2.trans b2)]
      · refine fin v (gC _ ?_) (fun τ e1 e2 => ?_)
        · unfold g_take_4
          rw [if_neg (show ¬ (ui σ 210 0).1 402 = 0 from fun y => absurd (b2.symm.trans y) (by decide)), if_neg (show ¬ (ui σ 210 0).1 402 = 1 from fun y => absurd (b2.symm.trans y) (by decide)), ac]
          rfl
        · rw [gM τ e1 e2, if_neg (fun y => absurd (b2.symm.trans (e2.symm.trans y)) (by decide)), if_neg (fun y => absurd (b2.symm.trans (e2.symm.trans y)) (by decide))]
    · have zc : ¬ p_hasCells_4 (ui σ 210 0) i 1 := fun y => z (hiff.mp y)
      rw [show f_put σ 0 i v = -13 by unfold f_put; rw [if_pos q, if_pos rfl, if_neg a2, if_neg zc]; rfl, show g_put σ 0 i v = ui (ui σ 210 0) 210 3 by unfold g_put; rw [if_pos q, if_pos rfl, if_neg a2, if_neg zc]; rfl] at c
      have mf : ∀ τ : mm_S, τ.2.2.1 39 0 = nI n → ¬ τ.2.2.1 38 0 = -9 → mm_Runs 999 i_X7_put (0, [some (.ref 37), some (.int 0), some (.int i), some (.int v)], [], HH x τ) (some (.int (-13)), HH x (ui (ui τ 3700 0) 3700 3)) := by
        intro τ e1 e2
        have m1 := m τ e1
        have zm := fun y => z ((mif τ e1).mp y)
        rw [show f_m_put τ 0 i v = -13 by unfold f_m_put; rw [if_pos (qs τ), kc, if_neg e2, if_neg zm]; rfl, show g_m_put τ 0 i v = ui (ui τ 3700 0) 3700 3 by unfold g_m_put; rw [if_pos (qs τ), kc, if_neg e2, if_neg zm]; rfl] at m1
        exact m1
      exact ⟨_, _, _, c, mf _ el b3, ⟨⟨rfl, h1.2⟩, h2, P, ns, nw, nr, hp, hc, hri, hwy, hs, hw, hre, hti⟩⟩
theorem put_1 {x : Nat × (Nat → Int32)} {σ : mm_S} {i v : Int32} (hr : Rel σ) : ∃ (r : Int32) (σ1 σ2 : mm_S), mm_Runs 999 i_X6_put (0, [some (.ref 2), some (.int 1), some (.int i), some (.int v)], [], HH x σ) (some (.int r), HH x σ1) ∧ mm_Runs 999 i_X7_put (0, [some (.ref 37), some (.int 1), some (.int i), some (.int v)], [], HH x σ1) (some (.int r), HH x σ2) ∧ Rel σ2 := by
  obtain ⟨h1, h2, P, ns, nw, nr, hp, hc, hri, hwy, hs, hw, hre, hti⟩ := id hr
  obtain ⟨n, hn, en⟩ := h2.2.1.2.2.1
  have el := h2.2.1.2.1.symm.trans en
  have q : p_isSheet (ui σ 210 0) 1 := by unfold p_isSheet; decide
  have hiff : p_hasCells_5 (ui σ 210 0) i 1 ↔ ∃ a, a < n ∧ i = nI a := by
    unfold p_hasCells_5
    rw [show (ui σ 210 0).1 503 = nI n from en]
    exact hcA hn i
  have hgC : p_hasCells_5 (ui σ 210 0) i 1 → ¬ (i < 0 ∨ 60 ≤ i.toNatClampNeg) := by
    intro z
    obtain ⟨a, ha, rfl⟩ := hiff.mp z
    exact nI_in (by omega) (by omega)
  have hgCX : False → ¬ (i < 0 ∨ 60 ≤ i.toNatClampNeg) := fun z => z.elim
  have c := r_put (d := 999) (x := x) (σ := σ) (k := 1) (i := i) (v := v) (by omega) (fun _ => by decide) (fun _ z _ q _ _ => hgCX (by revert z; decide)) (fun _ z _ q _ _ => hgCX (by revert z; decide)) (fun _ z _ q _ => hgCX (by revert z; decide)) (fun _ z _ q _ _ => hgC q) (fun _ z _ q _ _ => hgC q) (fun _ z _ q _ => hgC q) (fun _ z _ q _ _ => hgCX (by revert z; decide)) (fun _ z _ q _ _ => hgCX (by revert z; decide)) (fun _ z _ q _ => hgCX (by revert z; decide)) (fun _ z _ q _ _ => hgCX (by revert z; decide)) (fun _ z _ q _ _ => hgCX (by revert z; decide)) (fun _ z _ q _ => hgCX (by revert z; decide))
  have mif : ∀ τ : mm_S, τ.2.2.1 39 1 = nI n → (p_m_within (ui τ 3700 0) i 0 (τ.2.2.1 39 1 - 1) ↔ ∃ a, a < n ∧ i = nI a) := by
    intro τ e
    unfold p_m_within
    rw [e]
    exact hcB hn i
  have mg : ∀ τ : mm_S, τ.2.2.1 39 1 = nI n → p_m_within (ui τ 3700 0) i 0 (τ.2.2.1 39 1 - 1) → ¬ ((60 : Int32) * 1 + i < 0 ∨ 240 ≤ ((60 : Int32) * 1 + i).toNatClampNeg) := by
    intro τ e z
    obtain ⟨a, ha, rfl⟩ := (mif τ e).mp z
    rw [show (60 : Int32) * 1 + nI a = nI (60 + a) from nI_add 60 a]
    exact nI_in (by omega) (by omega)
  have m := fun (τ : mm_S) (e : τ.2.2.1 39 1 = nI n) => r_m_put (d := 999) (x := x) (σ := τ) (k := 1) (i := i) (v := v) (by omega) (fun _ => by decide) (fun _ _ => by decide) (fun _ _ _ => by decide) (fun _ _ _ _ => by decide) (fun _ _ z _ _ => mg τ e z) (fun _ _ z _ _ => mg τ e z) (fun _ _ z _ => mg τ e z)
  have qs := fun τ : mm_S => (sheet_iff (ui τ 3700 0) (ui σ 210 0) 1).mpr q
  have kc : (1 : Int32).toNatClampNeg = 1 := rfl
  rcases h2.2.1.1 with ⟨a1, b1⟩ | ⟨a1, b1, b2⟩
  · rw [show f_put σ 1 i v = -11 by unfold f_put; rw [if_pos q, if_neg (by decide), if_pos rfl, if_pos a1]; rfl, show g_put σ 1 i v = ui (ui σ 210 0) 210 1 by unfold g_put; rw [if_pos q, if_neg (by decide), if_pos rfl, if_pos a1]; rfl] at c
    have mf : ∀ τ : mm_S, τ.2.2.1 39 1 = nI n → τ.2.2.1 38 1 = -9 → mm_Runs 999 i_X7_put (0, [some (.ref 37), some (.int 1), some (.int i), some (.int v)], [], HH x τ) (some (.int (-11)), HH x (ui (ui τ 3700 0) 3700 1)) := by
      intro τ e1 e2
      have m1 := m τ e1
      rw [show f_m_put τ 1 i v = -11 by unfold f_m_put; rw [if_pos (qs τ), kc, if_pos e2]; rfl, show g_m_put τ 1 i v = ui (ui τ 3700 0) 3700 1 by unfold g_m_put; rw [if_pos (qs τ), kc, if_pos e2]; rfl] at m1
      exact m1
    exact ⟨_, _, _, c, mf _ el b1, ⟨⟨rfl, h1.2⟩, h2, P, ns, nw, nr, hp, hc, hri, hwy, hs, hw, hre, hti⟩⟩
  · have a2 : ¬ σ.1 501 = 0 := by rw [a1]; decide
    have b3 : ¬ σ.2.2.1 38 1 = -9 := fun z => kd_n9 b2 (b1.symm.trans z)
    by_cases z : ∃ a, a < n ∧ i = nI a
    · have zc := hiff.mpr z
      obtain ⟨a, ha, rfl⟩ := id z
      have ac : (nI a).toNatClampNeg = a := nI_clamp (by omega)
      have ec : ((60 : Int32) * 1 + nI a).toNatClampNeg = 60 + a := by
        rw [show (60 : Int32) * 1 + nI a = nI (60 + a) from nI_add 60 a]
        exact nI_clamp (by omega)
      have fin : ∀ w : Int32, g_put σ 1 (nI a) v = ua (ui σ 210 0) 9 (upd (σ.2.2.1 9) a w) → (∀ τ : mm_S, τ.2.2.1 39 1 = nI n → τ.2.2.1 38 1 = σ.1 502 → g_m_put τ 1 (nI a) v = ua (ui τ 3700 0) 40 (upd (τ.2.2.1 40) (60 + a) w)) → ∃ (r : Int32) (σ1 σ2 : mm_S), mm_Runs 999 i_X6_put (0, [some (.ref 2), some (.int 1), some (.int (nI a)), some (.int v)], [], HH x σ) (some (.int r), HH x σ1) ∧ mm_Runs 999 i_X7_put (0, [some (.ref 37), some (.int 1), some (.int (nI a)), some (.int v)], [], HH x σ1) (some (.int r), HH x σ2) ∧ Rel σ2 := by
        intro w eg em
        rw [eg, show f_put σ 1 (nI a) v = 1 by unfold f_put; rw [if_pos q, if_neg (by decide), if_pos rfl, if_neg a2, if_pos zc]] at c
        have mf : ∀ τ : mm_S, τ.2.2.1 39 1 = nI n → τ.2.2.1 38 1 = σ.1 502 → mm_Runs 999 i_X7_put (0, [some (.ref 37), some (.int 1), some (.int (nI a)), some (.int v)], [], HH x τ) (some (.int 1), HH x (ua (ui τ 3700 0) 40 (upd (τ.2.2.1 40) (60 + a) w))) := by
          intro τ e1 e2
          have m1 := m τ e1
          rw [em τ e1 e2, show f_m_put τ 1 (nI a) v = 1 by unfold f_m_put; rw [if_pos (qs τ), kc, if_neg (by rw [e2]; exact kd_n9 b2), if_pos ((mif τ e1).mpr ⟨a, ha, rfl⟩)]] at m1
          exact m1
        refine ⟨_, _, _, c, mf _ el b1, ⟨⟨rfl, h1.2⟩, ⟨⟨h2.1.1, h2.1.2.1, h2.1.2.2.1, fun y hy => by show σ.2.2.1 8 y = upd (σ.2.2.1 40) (60 + a) w (60 * 0 + y); rw [upd_at, if_neg (by omega)]; exact h2.1.2.2.2 y hy⟩, ⟨h2.2.1.1, h2.2.1.2.1, h2.2.1.2.2.1, fun y hy => by
          show upd (σ.2.2.1 9) a w y = upd (σ.2.2.1 40) (60 + a) w (60 * 1 + y)
          rw [upd_at, upd_at]
          by_cases hya : y = a
          · rw [if_pos hya, if_pos (by omega)]
          · rw [if_neg hya, if_neg (by omega)]
            exact h2.2.1.2.2.2 y hy⟩, ⟨h2.2.2.1.1, h2.2.2.1.2.1, h2.2.2.1.2.2.1, fun y hy => by show σ.2.2.1 10 y = upd (σ.2.2.1 40) (60 + a) w (60 * 2 + y); rw [upd_at, if_neg (by omega)]; exact h2.2.2.1.2.2.2 y hy⟩, ⟨h2.2.2.2.1, h2.2.2.2.2.1, h2.2.2.2.2.2.1, fun y hy => by show σ.2.2.1 11 y = upd (σ.2.2.1 40) (60 + a) w (60 * 3 + y); rw [upd_at, if_neg (by omega)]; exact h2.2.2.2.2.2.2 y hy⟩⟩, P, ns, nw, nr, hp, hc, hri, hwy, hs, hw, hre, hti⟩⟩
      have gC : ∀ w : Int32, g_take_5 (ui σ 210 0) (nI a) v = ua (ui σ 210 0) 9 (upd (σ.2.2.1 9) a w) → g_put σ 1 (nI a) v = ua (ui σ 210 0) 9 (upd (σ.2.2.1 9) a w) := fun w e => by unfold g_put; rw [if_pos q, if_neg (by decide), if_pos rfl, if_neg a2, if_pos zc]; exact e
      have gM : ∀ τ : mm_S, τ.2.2.1 39 1 = nI n → τ.2.2.1 38 1 = σ.1 502 → g_m_put τ 1 (nI a) v = (if τ.2.2.1 38 1 = 0 then ua (ui τ 3700 0) 40 (upd (τ.2.2.1 40) (60 + a) v.toInt8.toInt32) else if τ.2.2.1 38 1 = 1 then ua (ui τ 3700 0) 40 (upd (τ.2.2.1 40) (60 + a) v.toInt16.toInt32) else ua (ui τ 3700 0) 40 (upd (τ.2.2.1 40) (60 + a) v)) := by
        intro τ e1 e2
        unfold g_m_put
        rw [if_pos (qs τ), kc, if_neg (by rw [e2]; exact kd_n9 b2), if_pos ((mif τ e1).mpr ⟨a, ha, rfl⟩), ec]
      rcases b2 with b2 | b2 | b2
      · refine fin v.toInt8.toInt32 (gC _ ?_) (fun τ e1 e2 => ?_)
        · unfold g_take_5
          rw [if_pos (show (ui σ 210 0).1 502 = 0 from b2), ac]
          rfl
        · rw [gM τ e1 e2, if_pos (e2.trans b2)]
      · refine fin v.toInt16.toInt32 (gC _ ?_) (fun τ e1 e2 => ?_)
        · unfold g_take_5
          rw [if_neg (show ¬ (ui σ 210 0).1 502 = 0 from fun y => absurd (b2.symm.trans y) (by decide)), if_pos (show (ui σ 210 0).1 502 = 1 from b2), ac]
          rfl
        · rw [gM τ e1 e2, if_neg (fun y => absurd (b2.symm.trans (e2.symm.trans y)) (by decide)), if_pos (e2.trans b2)]
      · refine fin v (gC _ ?_) (fun τ e1 e2 => ?_)
        · unfold g_take_5
          rw [if_neg (show ¬ (ui σ 210 0).1 502 = 0 from fun y => absurd (b2.symm.trans y) (by decide)), if_neg (show ¬ (ui σ 210 0).1 502 = 1 from fun y => absurd (b2.symm.trans y) (by decide)), ac]
          rfl
        · rw [gM τ e1 e2, if_neg (fun y => absurd (b2.symm.trans (e2.symm.trans y)) (by decide)), if_neg (fun y => absurd (b2.symm.trans (e2.symm.trans y)) (by decide))]
    · have zc : ¬ p_hasCells_5 (ui σ 210 0) i 1 := fun y => z (hiff.mp y)
      rw [show f_put σ 1 i v = -13 by unfold f_put; rw [if_pos q, if_neg (by decide), if_pos rfl, if_neg a2, if_neg zc]; rfl, show g_put σ 1 i v = ui (ui σ 210 0) 210 3 by unfold g_put; rw [if_pos q, if_neg (by decide), if_pos rfl, if_neg a2, if_neg zc]; rfl] at c
      have mf : ∀ τ : mm_S, τ.2.2.1 39 1 = nI n → ¬ τ.2.2.1 38 1 = -9 → mm_Runs 999 i_X7_put (0, [some (.ref 37), some (.int 1), some (.int i), some (.int v)], [], HH x τ) (some (.int (-13)), HH x (ui (ui τ 3700 0) 3700 3)) := by
        intro τ e1 e2
        have m1 := m τ e1
        have zm := fun y => z ((mif τ e1).mp y)
        rw [show f_m_put τ 1 i v = -13 by unfold f_m_put; rw [if_pos (qs τ), kc, if_neg e2, if_neg zm]; rfl, show g_m_put τ 1 i v = ui (ui τ 3700 0) 3700 3 by unfold g_m_put; rw [if_pos (qs τ), kc, if_neg e2, if_neg zm]; rfl] at m1
        exact m1
      exact ⟨_, _, _, c, mf _ el b3, ⟨⟨rfl, h1.2⟩, h2, P, ns, nw, nr, hp, hc, hri, hwy, hs, hw, hre, hti⟩⟩
theorem put_2 {x : Nat × (Nat → Int32)} {σ : mm_S} {i v : Int32} (hr : Rel σ) : ∃ (r : Int32) (σ1 σ2 : mm_S), mm_Runs 999 i_X6_put (0, [some (.ref 2), some (.int 2), some (.int i), some (.int v)], [], HH x σ) (some (.int r), HH x σ1) ∧ mm_Runs 999 i_X7_put (0, [some (.ref 37), some (.int 2), some (.int i), some (.int v)], [], HH x σ1) (some (.int r), HH x σ2) ∧ Rel σ2 := by
  obtain ⟨h1, h2, P, ns, nw, nr, hp, hc, hri, hwy, hs, hw, hre, hti⟩ := id hr
  obtain ⟨n, hn, en⟩ := h2.2.2.1.2.2.1
  have el := h2.2.2.1.2.1.symm.trans en
  have q : p_isSheet (ui σ 210 0) 2 := by unfold p_isSheet; decide
  have hiff : p_hasCells_6 (ui σ 210 0) i 1 ↔ ∃ a, a < n ∧ i = nI a := by
    unfold p_hasCells_6
    rw [show (ui σ 210 0).1 603 = nI n from en]
    exact hcA hn i
  have hgC : p_hasCells_6 (ui σ 210 0) i 1 → ¬ (i < 0 ∨ 60 ≤ i.toNatClampNeg) := by
    intro z
    obtain ⟨a, ha, rfl⟩ := hiff.mp z
    exact nI_in (by omega) (by omega)
  have hgCX : False → ¬ (i < 0 ∨ 60 ≤ i.toNatClampNeg) := fun z => z.elim
  have c := r_put (d := 999) (x := x) (σ := σ) (k := 2) (i := i) (v := v) (by omega) (fun _ => by decide) (fun _ z _ q _ _ => hgCX (by revert z; decide)) (fun _ z _ q _ _ => hgCX (by revert z; decide)) (fun _ z _ q _ => hgCX (by revert z; decide)) (fun _ z _ q _ _ => hgCX (by revert z; decide)) (fun _ z _ q _ _ => hgCX (by revert z; decide)) (fun _ z _ q _ => hgCX (by revert z; decide)) (fun _ z _ q _ _ => hgC q) (fun _ z _ q _ _ => hgC q) (fun _ z _ q _ => hgC q) (fun _ z _ q _ _ => hgCX (by revert z; decide)) (fun _ z _ q _ _ => hgCX (by revert z; decide)) (fun _ z _ q _ => hgCX (by revert z; decide))
  have mif : ∀ τ : mm_S, τ.2.2.1 39 2 = nI n → (p_m_within (ui τ 3700 0) i 0 (τ.2.2.1 39 2 - 1) ↔ ∃ a, a < n ∧ i = nI a) := by
    intro τ e
    unfold p_m_within
    rw [e]
    exact hcB hn i
  have mg : ∀ τ : mm_S, τ.2.2.1 39 2 = nI n → p_m_within (ui τ 3700 0) i 0 (τ.2.2.1 39 2 - 1) → ¬ ((60 : Int32) * 2 + i < 0 ∨ 240 ≤ ((60 : Int32) * 2 + i).toNatClampNeg) := by
    intro τ e z
    obtain ⟨a, ha, rfl⟩ := (mif τ e).mp z
    rw [show (60 : Int32) * 2 + nI a = nI (120 + a) from nI_add 120 a]
    exact nI_in (by omega) (by omega)
  have m := fun (τ : mm_S) (e : τ.2.2.1 39 2 = nI n) => r_m_put (d := 999) (x := x) (σ := τ) (k := 2) (i := i) (v := v) (by omega) (fun _ => by decide) (fun _ _ => by decide) (fun _ _ _ => by decide) (fun _ _ _ _ => by decide) (fun _ _ z _ _ => mg τ e z) (fun _ _ z _ _ => mg τ e z) (fun _ _ z _ => mg τ e z)
  have qs := fun τ : mm_S => (sheet_iff (ui τ 3700 0) (ui σ 210 0) 2).mpr q
  have kc : (2 : Int32).toNatClampNeg = 2 := rfl
  rcases h2.2.2.1.1 with ⟨a1, b1⟩ | ⟨a1, b1, b2⟩
  · rw [show f_put σ 2 i v = -11 by unfold f_put; rw [if_pos q, if_neg (by decide), if_neg (by decide), if_pos rfl, if_pos a1]; rfl, show g_put σ 2 i v = ui (ui σ 210 0) 210 1 by unfold g_put; rw [if_pos q, if_neg (by decide), if_neg (by decide), if_pos rfl, if_pos a1]; rfl] at c
    have mf : ∀ τ : mm_S, τ.2.2.1 39 2 = nI n → τ.2.2.1 38 2 = -9 → mm_Runs 999 i_X7_put (0, [some (.ref 37), some (.int 2), some (.int i), some (.int v)], [], HH x τ) (some (.int (-11)), HH x (ui (ui τ 3700 0) 3700 1)) := by
      intro τ e1 e2
      have m1 := m τ e1
      rw [show f_m_put τ 2 i v = -11 by unfold f_m_put; rw [if_pos (qs τ), kc, if_pos e2]; rfl, show g_m_put τ 2 i v = ui (ui τ 3700 0) 3700 1 by unfold g_m_put; rw [if_pos (qs τ), kc, if_pos e2]; rfl] at m1
      exact m1
    exact ⟨_, _, _, c, mf _ el b1, ⟨⟨rfl, h1.2⟩, h2, P, ns, nw, nr, hp, hc, hri, hwy, hs, hw, hre, hti⟩⟩
  · have a2 : ¬ σ.1 601 = 0 := by rw [a1]; decide
    have b3 : ¬ σ.2.2.1 38 2 = -9 := fun z => kd_n9 b2 (b1.symm.trans z)
    by_cases z : ∃ a, a < n ∧ i = nI a
    · have zc := hiff.mpr z
      obtain ⟨a, ha, rfl⟩ := id z
      have ac : (nI a).toNatClampNeg = a := nI_clamp (by omega)
      have ec : ((60 : Int32) * 2 + nI a).toNatClampNeg = 120 + a := by
        rw [show (60 : Int32) * 2 + nI a = nI (120 + a) from nI_add 120 a]
        exact nI_clamp (by omega)
      have fin : ∀ w : Int32, g_put σ 2 (nI a) v = ua (ui σ 210 0) 10 (upd (σ.2.2.1 10) a w) → (∀ τ : mm_S, τ.2.2.1 39 2 = nI n → τ.2.2.1 38 2 = σ.1 602 → g_m_put τ 2 (nI a) v = ua (ui τ 3700 0) 40 (upd (τ.2.2.1 40) (120 + a) w)) → ∃ (r : Int32) (σ1 σ2 : mm_S), mm_Runs 999 i_X6_put (0, [some (.ref 2), some (.int 2), some (.int (nI a)), some (.int v)], [], HH x σ) (some (.int r), HH x σ1) ∧ mm_Runs 999 i_X7_put (0, [some (.ref 37), some (.int 2), some (.int (nI a)), some (.int v)], [], HH x σ1) (some (.int r), HH x σ2) ∧ Rel σ2 := by
        intro w eg em
        rw [eg, show f_put σ 2 (nI a) v = 1 by unfold f_put; rw [if_pos q, if_neg (by decide), if_neg (by decide), if_pos rfl, if_neg a2, if_pos zc]] at c
        have mf : ∀ τ : mm_S, τ.2.2.1 39 2 = nI n → τ.2.2.1 38 2 = σ.1 602 → mm_Runs 999 i_X7_put (0, [some (.ref 37), some (.int 2), some (.int (nI a)), some (.int v)], [], HH x τ) (some (.int 1), HH x (ua (ui τ 3700 0) 40 (upd (τ.2.2.1 40) (120 + a) w))) := by
          intro τ e1 e2
          have m1 := m τ e1
          rw [em τ e1 e2, show f_m_put τ 2 (nI a) v = 1 by unfold f_m_put; rw [if_pos (qs τ), kc, if_neg (by rw [e2]; exact kd_n9 b2), if_pos ((mif τ e1).mpr ⟨a, ha, rfl⟩)]] at m1
          exact m1
        refine ⟨_, _, _, c, mf _ el b1, ⟨⟨rfl, h1.2⟩, ⟨⟨h2.1.1, h2.1.2.1, h2.1.2.2.1, fun y hy => by show σ.2.2.1 8 y = upd (σ.2.2.1 40) (120 + a) w (60 * 0 + y); rw [upd_at, if_neg (by omega)]; exact h2.1.2.2.2 y hy⟩, ⟨h2.2.1.1, h2.2.1.2.1, h2.2.1.2.2.1, fun y hy => by show σ.2.2.1 9 y = upd (σ.2.2.1 40) (120 + a) w (60 * 1 + y); rw [upd_at, if_neg (by omega)]; exact h2.2.1.2.2.2 y hy⟩, ⟨h2.2.2.1.1, h2.2.2.1.2.1, h2.2.2.1.2.2.1, fun y hy => by
          show upd (σ.2.2.1 10) a w y = upd (σ.2.2.1 40) (120 + a) w (60 * 2 + y)
          rw [upd_at, upd_at]
          by_cases hya : y = a
          · rw [if_pos hya, if_pos (by omega)]
          · rw [if_neg hya, if_neg (by omega)]
            exact h2.2.2.1.2.2.2 y hy⟩, ⟨h2.2.2.2.1, h2.2.2.2.2.1, h2.2.2.2.2.2.1, fun y hy => by show σ.2.2.1 11 y = upd (σ.2.2.1 40) (120 + a) w (60 * 3 + y); rw [upd_at, if_neg (by omega)]; exact h2.2.2.2.2.2.2 y hy⟩⟩, P, ns, nw, nr, hp, hc, hri, hwy, hs, hw, hre, hti⟩⟩
      have gC : ∀ w : Int32, g_take_6 (ui σ 210 0) (nI a) v = ua (ui σ 210 0) 10 (upd (σ.2.2.1 10) a w) → g_put σ 2 (nI a) v = ua (ui σ 210 0) 10 (upd (σ.2.2.1 10) a w) := fun w e => by unfold g_put; rw [if_pos q, if_neg (by decide), if_neg (by decide), if_pos rfl, if_neg a2, if_pos zc]; exact e
      have gM : ∀ τ : mm_S, τ.2.2.1 39 2 = nI n → τ.2.2.1 38 2 = σ.1 602 → g_m_put τ 2 (nI a) v = (if τ.2.2.1 38 2 = 0 then ua (ui τ 3700 0) 40 (upd (τ.2.2.1 40) (120 + a) v.toInt8.toInt32) else if τ.2.2.1 38 2 = 1 then ua (ui τ 3700 0) 40 (upd (τ.2.2.1 40) (120 + a) v.toInt16.toInt32) else ua (ui τ 3700 0) 40 (upd (τ.2.2.1 40) (120 + a) v)) := by
        intro τ e1 e2
        unfold g_m_put
        rw [if_pos (qs τ), kc, if_neg (by rw [e2]; exact kd_n9 b2), if_pos ((mif τ e1).mpr ⟨a, ha, rfl⟩), ec]
      rcases b2 with b2 | b2 | b2
      · refine fin v.toInt8.toInt32 (gC _ ?_) (fun τ e1 e2 => ?_)
        · unfold g_take_6
          rw [if_pos (show (ui σ 210 0).1 602 = 0 from b2), ac]
          rfl
        · rw [gM τ e1 e2, if_pos (e2.trans b2)]
      · refine fin v.toInt16.toInt32 (gC _ ?_) (fun τ e1 e2 => ?_)
        · unfold g_take_6
          rw [if_neg (show ¬ (ui σ 210 0).1 602 = 0 from fun y => absurd (b2.symm.trans y) (by decide)), if_pos (show (ui σ 210 0).1 602 = 1 from b2), ac]
          rfl
        · rw [gM τ e1 e2, if_neg (fun y => absurd (b2.symm.trans (e2.symm.trans y)) (by decide)), if_pos (e2.trans b2)]
      · refine fin v (gC _ ?_) (fun τ e1 e2 => ?_)
        · unfold g_take_6
          rw [if_neg (show ¬ (ui σ 210 0).1 602 = 0 from fun y => absurd (b2.symm.trans y) (by decide)), if_neg (show ¬ (ui σ 210 0).1 602 = 1 from fun y => absurd (b2.symm.trans y) (by decide)), ac]
          rfl
        · rw [gM τ e1 e2, if_neg (fun y => absurd (b2.symm.trans (e2.symm.trans y)) (by decide)), if_neg (fun y => absurd (b2.symm.trans (e2.symm.trans y)) (by decide))]
    · have zc : ¬ p_hasCells_6 (ui σ 210 0) i 1 := fun y => z (hiff.mp y)
      rw [show f_put σ 2 i v = -13 by unfold f_put; rw [if_pos q, if_neg (by decide), if_neg (by decide), if_pos rfl, if_neg a2, if_neg zc]; rfl, show g_put σ 2 i v = ui (ui σ 210 0) 210 3 by unfold g_put; rw [if_pos q, if_neg (by decide), if_neg (by decide), if_pos rfl, if_neg a2, if_neg zc]; rfl] at c
      have mf : ∀ τ : mm_S, τ.2.2.1 39 2 = nI n → ¬ τ.2.2.1 38 2 = -9 → mm_Runs 999 i_X7_put (0, [some (.ref 37), some (.int 2), some (.int i), some (.int v)], [], HH x τ) (some (.int (-13)), HH x (ui (ui τ 3700 0) 3700 3)) := by
        intro τ e1 e2
        have m1 := m τ e1
        have zm := fun y => z ((mif τ e1).mp y)
        rw [show f_m_put τ 2 i v = -13 by unfold f_m_put; rw [if_pos (qs τ), kc, if_neg e2, if_neg zm]; rfl, show g_m_put τ 2 i v = ui (ui τ 3700 0) 3700 3 by unfold g_m_put; rw [if_pos (qs τ), kc, if_neg e2, if_neg zm]; rfl] at m1
        exact m1
      exact ⟨_, _, _, c, mf _ el b3, ⟨⟨rfl, h1.2⟩, h2, P, ns, nw, nr, hp, hc, hri, hwy, hs, hw, hre, hti⟩⟩
theorem put_3 {x : Nat × (Nat → Int32)} {σ : mm_S} {i v : Int32} (hr : Rel σ) : ∃ (r : Int32) (σ1 σ2 : mm_S), mm_Runs 999 i_X6_put (0, [some (.ref 2), some (.int 3), some (.int i), some (.int v)], [], HH x σ) (some (.int r), HH x σ1) ∧ mm_Runs 999 i_X7_put (0, [some (.ref 37), some (.int 3), some (.int i), some (.int v)], [], HH x σ1) (some (.int r), HH x σ2) ∧ Rel σ2 := by
  obtain ⟨h1, h2, P, ns, nw, nr, hp, hc, hri, hwy, hs, hw, hre, hti⟩ := id hr
  obtain ⟨n, hn, en⟩ := h2.2.2.2.2.2.1
  have el := h2.2.2.2.2.1.symm.trans en
  have q : p_isSheet (ui σ 210 0) 3 := by unfold p_isSheet; decide
  have hiff : p_hasCells_7 (ui σ 210 0) i 1 ↔ ∃ a, a < n ∧ i = nI a := by
    unfold p_hasCells_7
    rw [show (ui σ 210 0).1 703 = nI n from en]
    exact hcA hn i
  have hgC : p_hasCells_7 (ui σ 210 0) i 1 → ¬ (i < 0 ∨ 60 ≤ i.toNatClampNeg) := by
    intro z
    obtain ⟨a, ha, rfl⟩ := hiff.mp z
    exact nI_in (by omega) (by omega)
  have hgCX : False → ¬ (i < 0 ∨ 60 ≤ i.toNatClampNeg) := fun z => z.elim
  have c := r_put (d := 999) (x := x) (σ := σ) (k := 3) (i := i) (v := v) (by omega) (fun _ => by decide) (fun _ z _ q _ _ => hgCX (by revert z; decide)) (fun _ z _ q _ _ => hgCX (by revert z; decide)) (fun _ z _ q _ => hgCX (by revert z; decide)) (fun _ z _ q _ _ => hgCX (by revert z; decide)) (fun _ z _ q _ _ => hgCX (by revert z; decide)) (fun _ z _ q _ => hgCX (by revert z; decide)) (fun _ z _ q _ _ => hgCX (by revert z; decide)) (fun _ z _ q _ _ => hgCX (by revert z; decide)) (fun _ z _ q _ => hgCX (by revert z; decide)) (fun _ z _ q _ _ => hgC q) (fun _ z _ q _ _ => hgC q) (fun _ z _ q _ => hgC q)
  have mif : ∀ τ : mm_S, τ.2.2.1 39 3 = nI n → (p_m_within (ui τ 3700 0) i 0 (τ.2.2.1 39 3 - 1) ↔ ∃ a, a < n ∧ i = nI a) := by
    intro τ e
    unfold p_m_within
    rw [e]
    exact hcB hn i
  have mg : ∀ τ : mm_S, τ.2.2.1 39 3 = nI n → p_m_within (ui τ 3700 0) i 0 (τ.2.2.1 39 3 - 1) → ¬ ((60 : Int32) * 3 + i < 0 ∨ 240 ≤ ((60 : Int32) * 3 + i).toNatClampNeg) := by
    intro τ e z
    obtain ⟨a, ha, rfl⟩ := (mif τ e).mp z
    rw [show (60 : Int32) * 3 + nI a = nI (180 + a) from nI_add 180 a]
    exact nI_in (by omega) (by omega)
  have m := fun (τ : mm_S) (e : τ.2.2.1 39 3 = nI n) => r_m_put (d := 999) (x := x) (σ := τ) (k := 3) (i := i) (v := v) (by omega) (fun _ => by decide) (fun _ _ => by decide) (fun _ _ _ => by decide) (fun _ _ _ _ => by decide) (fun _ _ z _ _ => mg τ e z) (fun _ _ z _ _ => mg τ e z) (fun _ _ z _ => mg τ e z)
  have qs := fun τ : mm_S => (sheet_iff (ui τ 3700 0) (ui σ 210 0) 3).mpr q
  have kc : (3 : Int32).toNatClampNeg = 3 := rfl
  rcases h2.2.2.2.1 with ⟨a1, b1⟩ | ⟨a1, b1, b2⟩
  · rw [show f_put σ 3 i v = -11 by unfold f_put; rw [if_pos q, if_neg (by decide), if_neg (by decide), if_neg (by decide), if_pos a1]; rfl, show g_put σ 3 i v = ui (ui σ 210 0) 210 1 by unfold g_put; rw [if_pos q, if_neg (by decide), if_neg (by decide), if_neg (by decide), if_pos a1]; rfl] at c
    have mf : ∀ τ : mm_S, τ.2.2.1 39 3 = nI n → τ.2.2.1 38 3 = -9 → mm_Runs 999 i_X7_put (0, [some (.ref 37), some (.int 3), some (.int i), some (.int v)], [], HH x τ) (some (.int (-11)), HH x (ui (ui τ 3700 0) 3700 1)) := by
      intro τ e1 e2
      have m1 := m τ e1
      rw [show f_m_put τ 3 i v = -11 by unfold f_m_put; rw [if_pos (qs τ), kc, if_pos e2]; rfl, show g_m_put τ 3 i v = ui (ui τ 3700 0) 3700 1 by unfold g_m_put; rw [if_pos (qs τ), kc, if_pos e2]; rfl] at m1
      exact m1
    exact ⟨_, _, _, c, mf _ el b1, ⟨⟨rfl, h1.2⟩, h2, P, ns, nw, nr, hp, hc, hri, hwy, hs, hw, hre, hti⟩⟩
  · have a2 : ¬ σ.1 701 = 0 := by rw [a1]; decide
    have b3 : ¬ σ.2.2.1 38 3 = -9 := fun z => kd_n9 b2 (b1.symm.trans z)
    by_cases z : ∃ a, a < n ∧ i = nI a
    · have zc := hiff.mpr z
      obtain ⟨a, ha, rfl⟩ := id z
      have ac : (nI a).toNatClampNeg = a := nI_clamp (by omega)
      have ec : ((60 : Int32) * 3 + nI a).toNatClampNeg = 180 + a := by
        rw [show (60 : Int32) * 3 + nI a = nI (180 + a) from nI_add 180 a]
        exact nI_clamp (by omega)
      have fin : ∀ w : Int32, g_put σ 3 (nI a) v = ua (ui σ 210 0) 11 (upd (σ.2.2.1 11) a w) → (∀ τ : mm_S, τ.2.2.1 39 3 = nI n → τ.2.2.1 38 3 = σ.1 702 → g_m_put τ 3 (nI a) v = ua (ui τ 3700 0) 40 (upd (τ.2.2.1 40) (180 + a) w)) → ∃ (r : Int32) (σ1 σ2 : mm_S), mm_Runs 999 i_X6_put (0, [some (.ref 2), some (.int 3), some (.int (nI a)), some (.int v)], [], HH x σ) (some (.int r), HH x σ1) ∧ mm_Runs 999 i_X7_put (0, [some (.ref 37), some (.int 3), some (.int (nI a)), some (.int v)], [], HH x σ1) (some (.int r), HH x σ2) ∧ Rel σ2 := by
        intro w eg em
        rw [eg, show f_put σ 3 (nI a) v = 1 by unfold f_put; rw [if_pos q, if_neg (by decide), if_neg (by decide), if_neg (by decide), if_neg a2, if_pos zc]] at c
        have mf : ∀ τ : mm_S, τ.2.2.1 39 3 = nI n → τ.2.2.1 38 3 = σ.1 702 → mm_Runs 999 i_X7_put (0, [some (.ref 37), some (.int 3), some (.int (nI a)), some (.int v)], [], HH x τ) (some (.int 1), HH x (ua (ui τ 3700 0) 40 (upd (τ.2.2.1 40) (180 + a) w))) := by
          intro τ e1 e2
          have m1 := m τ e1
          rw [em τ e1 e2, show f_m_put τ 3 (nI a) v = 1 by unfold f_m_put; rw [if_pos (qs τ), kc, if_neg (by rw [e2]; exact kd_n9 b2), if_pos ((mif τ e1).mpr ⟨a, ha, rfl⟩)]] at m1
          exact m1
        refine ⟨_, _, _, c, mf _ el b1, ⟨⟨rfl, h1.2⟩, ⟨⟨h2.1.1, h2.1.2.1, h2.1.2.2.1, fun y hy => by show σ.2.2.1 8 y = upd (σ.2.2.1 40) (180 + a) w (60 * 0 + y); rw [upd_at, if_neg (by omega)]; exact h2.1.2.2.2 y hy⟩, ⟨h2.2.1.1, h2.2.1.2.1, h2.2.1.2.2.1, fun y hy => by show σ.2.2.1 9 y = upd (σ.2.2.1 40) (180 + a) w (60 * 1 + y); rw [upd_at, if_neg (by omega)]; exact h2.2.1.2.2.2 y hy⟩, ⟨h2.2.2.1.1, h2.2.2.1.2.1, h2.2.2.1.2.2.1, fun y hy => by show σ.2.2.1 10 y = upd (σ.2.2.1 40) (180 + a) w (60 * 2 + y); rw [upd_at, if_neg (by omega)]; exact h2.2.2.1.2.2.2 y hy⟩, ⟨h2.2.2.2.1, h2.2.2.2.2.1, h2.2.2.2.2.2.1, fun y hy => by
          show upd (σ.2.2.1 11) a w y = upd (σ.2.2.1 40) (180 + a) w (60 * 3 + y)
          rw [upd_at, upd_at]
          by_cases hya : y = a
          · rw [if_pos hya, if_pos (by omega)]
          · rw [if_neg hya, if_neg (by omega)]
            exact h2.2.2.2.2.2.2 y hy⟩⟩, P, ns, nw, nr, hp, hc, hri, hwy, hs, hw, hre, hti⟩⟩
      have gC : ∀ w : Int32, g_take_7 (ui σ 210 0) (nI a) v = ua (ui σ 210 0) 11 (upd (σ.2.2.1 11) a w) → g_put σ 3 (nI a) v = ua (ui σ 210 0) 11 (upd (σ.2.2.1 11) a w) := fun w e => by unfold g_put; rw [if_pos q, if_neg (by decide), if_neg (by decide), if_neg (by decide), if_neg a2, if_pos zc]; exact e
      have gM : ∀ τ : mm_S, τ.2.2.1 39 3 = nI n → τ.2.2.1 38 3 = σ.1 702 → g_m_put τ 3 (nI a) v = (if τ.2.2.1 38 3 = 0 then ua (ui τ 3700 0) 40 (upd (τ.2.2.1 40) (180 + a) v.toInt8.toInt32) else if τ.2.2.1 38 3 = 1 then ua (ui τ 3700 0) 40 (upd (τ.2.2.1 40) (180 + a) v.toInt16.toInt32) else ua (ui τ 3700 0) 40 (upd (τ.2.2.1 40) (180 + a) v)) := by
        intro τ e1 e2
        unfold g_m_put
        rw [if_pos (qs τ), kc, if_neg (by rw [e2]; exact kd_n9 b2), if_pos ((mif τ e1).mpr ⟨a, ha, rfl⟩), ec]
      rcases b2 with b2 | b2 | b2
      · refine fin v.toInt8.toInt32 (gC _ ?_) (fun τ e1 e2 => ?_)
        · unfold g_take_7
          rw [if_pos (show (ui σ 210 0).1 702 = 0 from b2), ac]
          rfl
        · rw [gM τ e1 e2, if_pos (e2.trans b2)]
      · refine fin v.toInt16.toInt32 (gC _ ?_) (fun τ e1 e2 => ?_)
        · unfold g_take_7
          rw [if_neg (show ¬ (ui σ 210 0).1 702 = 0 from fun y => absurd (b2.symm.trans y) (by decide)), if_pos (show (ui σ 210 0).1 702 = 1 from b2), ac]
          rfl
        · rw [gM τ e1 e2, if_neg (fun y => absurd (b2.symm.trans (e2.symm.trans y)) (by decide)), if_pos (e2.trans b2)]
      · refine fin v (gC _ ?_) (fun τ e1 e2 => ?_)
        · unfold g_take_7
          rw [if_neg (show ¬ (ui σ 210 0).1 702 = 0 from fun y => absurd (b2.symm.trans y) (by decide)), if_neg (show ¬ (ui σ 210 0).1 702 = 1 from fun y => absurd (b2.symm.trans y) (by decide)), ac]
          rfl
        · rw [gM τ e1 e2, if_neg (fun y => absurd (b2.symm.trans (e2.symm.trans y)) (by decide)), if_neg (fun y => absurd (b2.symm.trans (e2.symm.trans y)) (by decide))]
    · have zc : ¬ p_hasCells_7 (ui σ 210 0) i 1 := fun y => z (hiff.mp y)
      rw [show f_put σ 3 i v = -13 by unfold f_put; rw [if_pos q, if_neg (by decide), if_neg (by decide), if_neg (by decide), if_neg a2, if_neg zc]; rfl, show g_put σ 3 i v = ui (ui σ 210 0) 210 3 by unfold g_put; rw [if_pos q, if_neg (by decide), if_neg (by decide), if_neg (by decide), if_neg a2, if_neg zc]; rfl] at c
      have mf : ∀ τ : mm_S, τ.2.2.1 39 3 = nI n → ¬ τ.2.2.1 38 3 = -9 → mm_Runs 999 i_X7_put (0, [some (.ref 37), some (.int 3), some (.int i), some (.int v)], [], HH x τ) (some (.int (-13)), HH x (ui (ui τ 3700 0) 3700 3)) := by
        intro τ e1 e2
        have m1 := m τ e1
        have zm := fun y => z ((mif τ e1).mp y)
        rw [show f_m_put τ 3 i v = -13 by unfold f_m_put; rw [if_pos (qs τ), kc, if_neg e2, if_neg zm]; rfl, show g_m_put τ 3 i v = ui (ui τ 3700 0) 3700 3 by unfold g_m_put; rw [if_pos (qs τ), kc, if_neg e2, if_neg zm]; rfl] at m1
        exact m1
      exact ⟨_, _, _, c, mf _ el b3, ⟨⟨rfl, h1.2⟩, h2, P, ns, nw, nr, hp, hc, hri, hwy, hs, hw, hre, hti⟩⟩
theorem op_put : opI Rel i_X6_put i_X7_put 3 := by
  intro x σ as h hr
  obtain ⟨k, i, v, rfl⟩ := as_3 h
  obtain ⟨h1, h2, P, ns, nw, nr, hp, hc, hri, hwy, hs, hw, hre, hti⟩ := id hr
  rcases sheet_4 (ui σ 210 0) k with q | ⟨-, rfl | rfl | rfl | rfl⟩
  · have c := r_put (d := 999) (x := x) (σ := σ) (k := k) (i := i) (v := v) (by omega) (fun z => absurd z q) (fun z => absurd z q) (fun z => absurd z q) (fun z => absurd z q) (fun z => absurd z q) (fun z => absurd z q) (fun z => absurd z q) (fun z => absurd z q) (fun z => absurd z q) (fun z => absurd z q) (fun z => absurd z q) (fun z => absurd z q) (fun z => absurd z q)
    have mf : ∀ τ : mm_S, mm_Runs 999 i_X7_put (0, [some (.ref 37), some (.int k), some (.int i), some (.int v)], [], HH x τ) (some (.int (-1)), HH x (ui τ 3700 0)) := by
      intro τ
      have q2 : ¬ p_m_isSheet (ui τ 3700 0) k := fun z => q ((sheet_iff (ui τ 3700 0) (ui σ 210 0) k).mp z)
      have m := r_m_put (d := 999) (x := x) (σ := τ) (k := k) (i := i) (v := v) (by omega) (fun z => absurd z q2) (fun z => absurd z q2) (fun z => absurd z q2) (fun z => absurd z q2) (fun z => absurd z q2) (fun z => absurd z q2) (fun z => absurd z q2)
      rw [show f_m_put τ k i v = -1 by unfold f_m_put; rw [if_neg q2], show g_m_put τ k i v = ui τ 3700 0 by unfold g_m_put; rw [if_neg q2]] at m
      exact m
    rw [show f_put σ k i v = -1 by unfold f_put; rw [if_neg q], show g_put σ k i v = ui σ 210 0 by unfold g_put; rw [if_neg q]] at c
    exact ⟨-1, _, _, c, mf _, ⟨⟨rfl, h1.2⟩, h2, P, ns, nw, nr, hp, hc, hri, hwy, hs, hw, hre, hti⟩⟩
  · exact put_0 hr
  · exact put_1 hr
  · exact put_2 hr
  · exact put_3 hr
