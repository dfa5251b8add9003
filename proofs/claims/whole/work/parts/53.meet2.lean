/-! meet, first (written by wip/whole/t53.py) -/
section MT
variable {d : Nat} {x : Nat × (Nat → Int32)} {P : pd_T} {σ0 : mm_S}
theorem bs_w {σ : mm_S} {c : Nat} (hp : r_pm P σ) (hc : c < pd_n P) : 0 < P.2.1 := by
  unfold pd_n at hc
  rcases Nat.eq_zero_or_pos P.2.1 with q | q
  · rw [q, Nat.mul_zero] at hc; omega
  · exact q
theorem m_fm_j {s u c c1 c2 m1 m2 M : Nat} {k1 k2 : Int32} (hd : 3 ≤ d) (hp0 : r_pm P σ0) (hw0 : r_way P σ0) (q1 : stm P σ0 s k1 c1 m1) (q2 : stm P σ0 u k2 c2 m2) (hc : c < pd_n P) (hM : M < 2 ^ 19) (hA : ∀ M', sa P k1 c1 m1 M' c = true → M' = M) :
    ∀ (i j : Nat), j + i = 4 → ∀ σ, SC P σ0 σ → bst (Sn P (sa P k1 c1 m1) (sa P k2 c2 m2) (c + 1) c j) (σ.1 3717) (σ.1 3718) (σ.1 3719) → ∃ σ', SC P σ0 σ' ∧ bst (Sn P (sa P k1 c1 m1) (sa P k2 c2 m2) (c + 1) (c + 1) 0) (σ'.1 3717) (σ'.1 3718) (σ'.1 3719) ∧ ∀ r, mm_Runs d 114 (14, [some (.ref 37), some (.int (nI s)), some (.int (nI u)), some (.int (nI (c + 1))), none, none, none, none], [], HH x σ') r → mm_Runs d 114 (75, [some (.ref 37), some (.int (nI s)), some (.int (nI u)), some (.int (nI c)), some (.int (nI M)), some (.int (nI j)), none, none], [], HH x σ) r
  | 0, j, h, σ, hs, hb => by
    have e : j = 4 := by omega
    subst e
    refine ⟨σ, hs, bst_cong (fun M b e => ?_) hb, fun r k => vx_m_fmj_p0 (v1 := 0) (v2 := 0) (v3 := 0) (v4 := 0) (v5 := 0) (σ6 := σ) (σ7 := σ) (by omega) (by decide) (by rw [nI_1]; exact k)⟩
    unfold Sn
    refine or_congr Iff.rfl (and_congr Iff.rfl ⟨?_, ?_⟩)
    · rintro ⟨a, i, a', z1, z2, z3⟩; exact ⟨a, i, a', by omega, z2, z3⟩
    · rintro ⟨a, i, a', z1, z2, z3⟩; exact ⟨a, i, a', by omega, z2, z3⟩
  | i + 1, j, h, σ, hs, hb => by
    have hp := pm_SC hp0 hs
    have hwy := wy_SC hw0 hs
    have s1 := stm_SC q1 hs
    have s2 := stm_SC q2 hs
    have hn := pm_n42 hp
    have nj : ¬ (4 : Int32) ≤ nI j := nI_ge (a := j) (b := 4) (by omega) (by omega)
    have bes := m_bes (d := d - 1) (x := x) hp hc (j := j) (by omega)
    have skip : (∀ M', ∀ b, pd_nb P c j = some b → ¬ psg (sa P k1 c1 m1) (sa P k2 c2 m2) M' c b) → ∃ σ', SC P σ0 σ' ∧ bst (Sn P (sa P k1 c1 m1) (sa P k2 c2 m2) (c + 1) (c + 1) 0) (σ'.1 3717) (σ'.1 3718) (σ'.1 3719) ∧ ∀ r, mm_Runs d 114 (14, [some (.ref 37), some (.int (nI s)), some (.int (nI u)), some (.int (nI (c + 1))), none, none, none, none], [], HH x σ') r → mm_Runs d 114 (75, [some (.ref 37), some (.int (nI s)), some (.int (nI u)), some (.int (nI c)), some (.int (nI M)), some (.int (nI j + 1)), none, none], [], HH x σ) r := fun z => by
      rw [nI_1]
      refine m_fm_j hd hp0 hw0 q1 q2 hc hM hA i (j + 1) (by omega) σ hs (bst_cong (fun M b e => ?_) hb)
      unfold Sn
      refine or_congr Iff.rfl (and_congr Iff.rfl ⟨?_, ?_⟩)
      · rintro ⟨a, i, a', z1, z2, z3⟩; exact ⟨a, i, a', by omega, z2, z3⟩
      · rintro ⟨a, i, a', z1, z2, z3, z4, z5⟩
        refine ⟨a, i, a', ?_, z2, z3, z4, z5⟩
        rcases (show a < c ∨ (a = c ∧ i < j) ∨ (a = c ∧ i = j) by omega) with y | y | ⟨rfl, rfl⟩
        · exact Or.inl y
        · exact Or.inr y
        · exact absurd z4 (z _ _ z3)
    rcases bs_2 hn (bs_w hp hc) hp.2.1 hc j with ⟨z1, z2⟩ | ⟨b, hb1, hb2, hb3, hb4⟩
    · obtain ⟨τ, k1', k2', go⟩ := skip (fun M' b y1 y2 => by
        have := sa_wat y2.2.2.1
        rw [z2 b y1] at this; cases this)
      exact ⟨τ, k1', k2', fun r k => vx_m_fmj_p1 (v1 := pd_bs P c j) (v2 := 0) (v3 := 0) (v4 := 0) (v5 := 0) (σ6 := σ) (σ7 := σ) (by omega) nj z1 bes (go r k)⟩
    · rw [hb4] at bes
      have n9 : ¬ nI b = -9 := nI_n9 (by omega)
      have t2 := m_there (d := d - 1) (x := x) (b := c) (M := M) (by omega) hp hwy s1 hc (by omega)
      have t3 := m_there (d := d - 1) (x := x) (b := b) (M := M) (by omega) hp hwy s2 hb1 (by omega)
      have t4 := m_there (d := d - 1) (x := x) (b := b) (M := M + 1) (by omega) hp hwy s1 hb1 (by omega)
      have t5 := m_there (d := d - 1) (x := x) (b := c) (M := M + 1) (by omega) hp hwy s2 hc (by omega)
      rw [← nI_1] at t4 t5
      have no : ∀ M' b', pd_nb P c j = some b' → psg (sa P k1 c1 m1) (sa P k2 c2 m2) M' c b' → psg (sa P k1 c1 m1) (sa P k2 c2 m2) M c b := fun M' b' y1 y2 => by
        rw [hb2] at y1
        cases y1
        have := hA M' y2.1
        subst this
        exact y2
      cases v2 : sa P k1 c1 m1 M c with
      | false =>
        rw [v2] at t2
        obtain ⟨τ, k1', k2', go⟩ := skip (fun M' b' y1 y2 => by
          have := (no M' b' y1 y2).1
          rw [v2] at this; cases this)
        exact ⟨τ, k1', k2', fun r k => vx_m_fmj_p2 (v1 := nI b) (v2 := 0) (v3 := 0) (v4 := 0) (v5 := 0) (σ6 := σ) (σ7 := σ) (by omega) nj n9 rfl bes t2 (go r k)⟩
      | true =>
        rw [v2] at t2
        cases v3 : sa P k2 c2 m2 M b with
        | false =>
          rw [v3] at t3
          obtain ⟨τ, k1', k2', go⟩ := skip (fun M' b' y1 y2 => by
            have := (no M' b' y1 y2).2.1
            rw [v3] at this; cases this)
          exact ⟨τ, k1', k2', fun r k => vx_m_fmj_p3 (v1 := nI b) (v2 := 1) (v3 := 0) (v4 := 0) (v5 := 0) (σ6 := σ) (σ7 := σ) (by omega) nj n9 (by decide) rfl bes t2 t3 (go r k)⟩
        | true =>
          rw [v3] at t3
          cases v4 : sa P k1 c1 m1 (M + 1) b with
          | false =>
            rw [v4] at t4
            obtain ⟨τ, k1', k2', go⟩ := skip (fun M' b' y1 y2 => by
              have := (no M' b' y1 y2).2.2.1
              rw [v4] at this; cases this)
            exact ⟨τ, k1', k2', fun r k => vx_m_fmj_p4 (v1 := nI b) (v2 := 1) (v3 := 1) (v4 := 0) (v5 := 0) (σ6 := σ) (σ7 := σ) (by omega) nj n9 (by decide) (by decide) rfl bes t2 t3 t4 (go r k)⟩
          | true =>
            rw [v4] at t4
            cases v5 : sa P k2 c2 m2 (M + 1) c with
            | false =>
              rw [v5] at t5
              obtain ⟨τ, k1', k2', go⟩ := skip (fun M' b' y1 y2 => by
                have := (no M' b' y1 y2).2.2.2
                rw [v5] at this; cases this)
              exact ⟨τ, k1', k2', fun r k => vx_m_fmj_p5 (v1 := nI b) (v2 := 1) (v3 := 1) (v4 := 1) (v5 := 0) (σ6 := σ) (σ7 := σ) (by omega) nj n9 (by decide) (by decide) (by decide) rfl bes t2 t3 t4 t5 (go r k)⟩
            | true =>
              rw [v5] at t5
              obtain ⟨σ', o1, o2, o3, o4⟩ := m_offer (d := d - 1) (x := x) (P := P) (M := M) (b := min c b) (e := 0) hb (fun M b e z => by
                rcases z with z | z <;> omega) (by omega) (by omega) (by omega)
              have hs' : SC P σ0 σ' := SC_trans hs ⟨o2, o3 hs.2⟩
              have go : ∃ υ, SC P σ0 υ ∧ bst (Sn P (sa P k1 c1 m1) (sa P k2 c2 m2) (c + 1) (c + 1) 0) (υ.1 3717) (υ.1 3718) (υ.1 3719) ∧ ∀ r, mm_Runs d 114 (14, [some (.ref 37), some (.int (nI s)), some (.int (nI u)), some (.int (nI (c + 1))), none, none, none, none], [], HH x υ) r → mm_Runs d 114 (75, [some (.ref 37), some (.int (nI s)), some (.int (nI u)), some (.int (nI c)), some (.int (nI M)), some (.int (nI j + 1)), none, none], [], HH x σ') r := by
                rw [nI_1]
                refine m_fm_j hd hp0 hw0 q1 q2 hc hM hA i (j + 1) (by omega) σ' hs' (bst_cong (fun M2 b2 e2 => ?_) o4)
                unfold ofS Sn
                constructor
                · rintro ((y | ⟨y, a, i, a', z1, z2, z3⟩) | ⟨rfl, rfl, rfl⟩)
                  · exact Or.inl y
                  · exact Or.inr ⟨y, a, i, a', by omega, z2, z3⟩
                  · exact Or.inr ⟨rfl, c, j, b, by omega, by omega, hb2, ⟨v2, v3, v4, v5⟩, rfl⟩
                · rintro (y | ⟨y, a, i, a', z1, z2, z3, z4, z5⟩)
                  · exact Or.inl (Or.inl y)
                  · rcases (show a < c ∨ (a = c ∧ i < j) ∨ (a = c ∧ i = j) by omega) with w | w | ⟨rfl, rfl⟩
                    · exact Or.inl (Or.inr ⟨y, a, i, a', Or.inl w, z2, z3, z4, z5⟩)
                    · exact Or.inl (Or.inr ⟨y, a, i, a', Or.inr w, z2, z3, z4, z5⟩)
                    · rw [hb2] at z3
                      cases z3
                      exact Or.inr ⟨hA _ z4.1, z5, y⟩
              obtain ⟨τ, w1, w2, go⟩ := go
              rcases Nat.lt_or_ge c b with w | w
              · rw [Nat.min_eq_left (by omega)] at o1
                exact ⟨τ, w1, w2, fun r k => vx_m_fmj_p7 (v1 := nI b) (v2 := 1) (v3 := 1) (v4 := 1) (v5 := 1) (σ6 := σ) (σ7 := σ') (by omega) nj n9 (by decide) (by decide) (by decide) (by decide) (nI_ge w (by omega)) bes t2 t3 t4 t5 o1 (go r k)⟩
              · rw [Nat.min_eq_right w] at o1
                exact ⟨τ, w1, w2, fun r k => vx_m_fmj_p6 (v1 := nI b) (v2 := 1) (v3 := 1) (v4 := 1) (v5 := 1) (σ6 := σ') (σ7 := σ) (by omega) nj n9 (by decide) (by decide) (by decide) (by decide) (nI_le w (by omega)) bes t2 t3 t4 t5 o1 (go r k)⟩
theorem m_fm_j9 {s u c c1 c2 m1 m2 : Nat} {k1 k2 : Int32} (hd : 3 ≤ d) (hp0 : r_pm P σ0) (hw0 : r_way P σ0) (q1 : stm P σ0 s k1 c1 m1) (hc : c < pd_n P) (hA : ∀ M', ¬ sa P k1 c1 m1 M' c = true) :
    ∀ (i j : Nat), j + i = 4 → ∀ σ, SC P σ0 σ → bst (Sn P (sa P k1 c1 m1) (sa P k2 c2 m2) (c + 1) c j) (σ.1 3717) (σ.1 3718) (σ.1 3719) → ∃ σ', SC P σ0 σ' ∧ bst (Sn P (sa P k1 c1 m1) (sa P k2 c2 m2) (c + 1) (c + 1) 0) (σ'.1 3717) (σ'.1 3718) (σ'.1 3719) ∧ ∀ r, mm_Runs d 114 (14, [some (.ref 37), some (.int (nI s)), some (.int (nI u)), some (.int (nI (c + 1))), none, none, none, none], [], HH x σ') r → mm_Runs d 114 (75, [some (.ref 37), some (.int (nI s)), some (.int (nI u)), some (.int (nI c)), some (.int (nI m1 + (-9))), some (.int (nI j)), none, none], [], HH x σ) r
  | 0, j, h, σ, hs, hb => by
    have e : j = 4 := by omega
    subst e
    refine ⟨σ, hs, bst_cong (fun M b e => ?_) hb, fun r k => vx_m_fmj_p0 (v1 := 0) (v2 := 0) (v3 := 0) (v4 := 0) (v5 := 0) (σ6 := σ) (σ7 := σ) (by omega) (by decide) (by rw [nI_1]; exact k)⟩
    unfold Sn
    refine or_congr Iff.rfl (and_congr Iff.rfl ⟨?_, ?_⟩)
    · rintro ⟨a, i, a', z1, z2, z3⟩; exact ⟨a, i, a', by omega, z2, z3⟩
    · rintro ⟨a, i, a', z1, z2, z3⟩; exact ⟨a, i, a', by omega, z2, z3⟩
  | i + 1, j, h, σ, hs, hb => by
    have hp := pm_SC hp0 hs
    have s1 := stm_SC q1 hs
    have hn := pm_n42 hp
    have nj : ¬ (4 : Int32) ≤ nI j := nI_ge (a := j) (b := 4) (by omega) (by omega)
    have bes := m_bes (d := d - 1) (x := x) hp hc (j := j) (by omega)
    have t2 := m_there9 (d := d - 1) (x := x) (b := c) (by omega) hp s1 hc
    obtain ⟨τ, k1', k2', go⟩ : ∃ σ', SC P σ0 σ' ∧ bst (Sn P (sa P k1 c1 m1) (sa P k2 c2 m2) (c + 1) (c + 1) 0) (σ'.1 3717) (σ'.1 3718) (σ'.1 3719) ∧ ∀ r, mm_Runs d 114 (14, [some (.ref 37), some (.int (nI s)), some (.int (nI u)), some (.int (nI (c + 1))), none, none, none, none], [], HH x σ') r → mm_Runs d 114 (75, [some (.ref 37), some (.int (nI s)), some (.int (nI u)), some (.int (nI c)), some (.int (nI m1 + (-9))), some (.int (nI j + 1)), none, none], [], HH x σ) r := by
      rw [nI_1]
      refine m_fm_j9 hd hp0 hw0 q1 hc hA i (j + 1) (by omega) σ hs (bst_cong (fun M b e => ?_) hb)
      unfold Sn
      refine or_congr Iff.rfl (and_congr Iff.rfl ⟨?_, ?_⟩)
      · rintro ⟨a, i, a', z1, z2, z3⟩; exact ⟨a, i, a', by omega, z2, z3⟩
      · rintro ⟨a, i, a', z1, z2, z3, z4, z5⟩
        refine ⟨a, i, a', ?_, z2, z3, z4, z5⟩
        rcases (show a < c ∨ (a = c ∧ i < j) ∨ (a = c ∧ i = j) by omega) with y | y | ⟨rfl, rfl⟩
        · exact Or.inl y
        · exact Or.inr y
        · exact absurd z4.1 (hA _)
    by_cases z : pd_bs P c j = -9
    · exact ⟨τ, k1', k2', fun r k => vx_m_fmj_p1 (v1 := pd_bs P c j) (v2 := 0) (v3 := 0) (v4 := 0) (v5 := 0) (σ6 := σ) (σ7 := σ) (by omega) nj z bes (go r k)⟩
    · exact ⟨τ, k1', k2', fun r k => vx_m_fmj_p2 (v1 := pd_bs P c j) (v2 := 0) (v3 := 0) (v4 := 0) (v5 := 0) (σ6 := σ) (σ7 := σ) (by omega) nj z rfl bes t2 (go r k)⟩
theorem sa_one {c1 m1 c t M : Nat} {k1 : Int32} (h : pd_lay P c1 t c = true) (h2 : sa P k1 c1 m1 M c = true) : M = m1 + t := by
  unfold sa at h2
  rw [Bool.and_eq_true, decide_eq_true_eq] at h2
  have := bf_uni h (th_lay h2.2).1
  omega
theorem m_fm_c {s u c1 c2 m1 m2 : Nat} {k1 k2 : Int32} (hd : 3 ≤ d) (hp0 : r_pm P σ0) (hw0 : r_way P σ0) (q1 : stm P σ0 s k1 c1 m1) (q2 : stm P σ0 u k2 c2 m2) :
    ∀ (i c : Nat), c + i = pd_n P → ∀ σ, SC P σ0 σ → bst (Sn P (sa P k1 c1 m1) (sa P k2 c2 m2) c c 0) (σ.1 3717) (σ.1 3718) (σ.1 3719) → ∃ σ', mm_Runs d 114 (14, [some (.ref 37), some (.int (nI s)), some (.int (nI u)), some (.int (nI c)), none, none, none, none], [], HH x σ) (none, HH x σ') ∧ SC P σ0 σ' ∧ bst (Sn P (sa P k1 c1 m1) (sa P k2 c2 m2) (pd_n P) (pd_n P) 0) (σ'.1 3717) (σ'.1 3718) (σ'.1 3719)
  | 0, c, h, σ, hs, hb => by
    have hp := pm_SC hp0 hs
    have hn := pm_n42 hp
    have e : c = pd_n P := by omega
    subst e
    exact ⟨σ, vx_m_fmc_p0 (v1 := 0) (v2 := 0) (σ3 := σ) (by omega) (by rw [all_eq hp]; exact nI_le (Nat.le_refl _) (by omega)), hs, hb⟩
  | i + 1, c, h, σ, hs, hb => by
    have hp := pm_SC hp0 hs
    have hwy := wy_SC hw0 hs
    have s1 := stm_SC q1 hs
    have s2 := stm_SC q2 hs
    have hn := pm_n42 hp
    have hc : c < pd_n P := by omega
    have hc1 := pm_wf hp c1 s1.2.2.2.2.2.1
    have hm1 := s1.2.2.2.2.2.2
    have na : ¬ (f_m_all σ) ≤ (nI c) := by rw [all_eq hp]; exact nI_ge hc (by omega)
    have cs : (nI s).toNatClampNeg = s := nI_clamp (by have := s1.1; omega)
    have g1 := nI_in (c := s) (N := 8) s1.1 (by omega)
    have g2 : ¬ ((((42 : Int32) * ((σ.2.2.1 45) (nI s).toNatClampNeg)) + (nI c)) < 0 ∨ 1764 ≤ (((42 : Int32) * ((σ.2.2.1 45) (nI s).toNatClampNeg)) + (nI c)).toNatClampNeg) := by rw [cs, s1.2.2.2.1]; exact way_g hp hc1 hc
    have ew : ((σ.2.2.1 46) (nI s).toNatClampNeg) + (f_m_way σ ((σ.2.2.1 45) (nI s).toNatClampNeg) (nI c)) = nI m1 + pd_way P c1 c := by rw [cs, s1.2.2.2.1, s1.2.2.2.2.1, way_eq hp hwy hc1 hc]
    rcases wy_2 (pm_wf hp) hn c1 c with ⟨z1, z2⟩ | ⟨t, ht, z1, z2⟩
    · have nA : ∀ M', ¬ sa P k1 c1 m1 M' c = true := fun M' y => by
        unfold sa at y
        rw [Bool.and_eq_true] at y
        have := (th_lay y.2).1
        rw [z2] at this; cases this
      have t2 := m_there9 (d := d - 1) (x := x) (b := c) (by omega) hp s1 hc
      rw [z1] at ew
      have hb' : bst (Sn P (sa P k1 c1 m1) (sa P k2 c2 m2) (c + 1) c 0) (σ.1 3717) (σ.1 3718) (σ.1 3719) := bst_cong (fun M b e => by
        unfold Sn
        refine or_congr ⟨fun y => ⟨y.1, by omega, y.2.2⟩, fun y => ⟨y.1, ?_, y.2.2⟩⟩ Iff.rfl
        rcases Nat.lt_or_ge b c with w | w
        · exact w
        · have e : b = c := by omega
          subst e
          exact absurd y.2.2.1 (nA _)) hb
      obtain ⟨τ, k1', k2', go⟩ := m_fm_j9 (x := x) (u := u) hd hp0 hw0 q1 hc nA 4 0 (by omega) σ hs hb'
      obtain ⟨υ, w1, w2, w3⟩ := m_fm_c hd hp0 hw0 q1 q2 i (c + 1) (by omega) τ k1' k2'
      refine ⟨υ, vx_m_fmc_p1 (v1 := 0) (v2 := 0) (σ3 := σ) (by omega) na rfl g1 g2 ?_ ?_, w2, w3⟩
      · rw [ew]; exact t2
      · rw [ew]; exact go _ w1
    · rw [z1, nI_add] at ew
      have hA : ∀ M', sa P k1 c1 m1 M' c = true → M' = m1 + t := fun M' y => sa_one z2 y
      have t1 := m_there (d := d - 1) (x := x) (b := c) (M := m1 + t) (by omega) hp hwy s1 hc (by omega)
      have t2 := m_there (d := d - 1) (x := x) (b := c) (M := m1 + t) (by omega) hp hwy s2 hc (by omega)
      have same : (¬ (sa P k1 c1 m1 (m1 + t) c = true ∧ sa P k2 c2 m2 (m1 + t) c = true)) → bst (Sn P (sa P k1 c1 m1) (sa P k2 c2 m2) (c + 1) c 0) (σ.1 3717) (σ.1 3718) (σ.1 3719) := fun z => bst_cong (fun M b e => by
        unfold Sn
        refine or_congr ⟨fun y => ⟨y.1, by omega, y.2.2⟩, fun y => ⟨y.1, ?_, y.2.2⟩⟩ Iff.rfl
        rcases Nat.lt_or_ge b c with w | w
        · exact w
        · have e : b = c := by omega
          subst e
          have e2 := hA _ y.2.2.1
          subst e2
          exact absurd y.2.2 z) hb
      cases v1 : sa P k1 c1 m1 (m1 + t) c with
      | false =>
        rw [v1] at t1
        obtain ⟨τ, k1', k2', go⟩ := m_fm_j (x := x) hd hp0 hw0 q1 q2 hc (by omega) hA 4 0 (by omega) σ hs (same (fun y => by rw [v1] at y; exact absurd y.1 (by simp)))
        obtain ⟨υ, w1, w2, w3⟩ := m_fm_c hd hp0 hw0 q1 q2 i (c + 1) (by omega) τ k1' k2'
        refine ⟨υ, vx_m_fmc_p1 (v1 := 0) (v2 := 0) (σ3 := σ) (by omega) na rfl g1 g2 ?_ ?_, w2, w3⟩
        · rw [ew]; exact t1
        · rw [ew]; exact go _ w1
      | true =>
        rw [v1] at t1
        cases v2 : sa P k2 c2 m2 (m1 + t) c with
        | false =>
          rw [v2] at t2
          obtain ⟨τ, k1', k2', go⟩ := m_fm_j (x := x) hd hp0 hw0 q1 q2 hc (by omega) hA 4 0 (by omega) σ hs (same (fun y => by rw [v2] at y; exact absurd y.2 (by simp)))
          obtain ⟨υ, w1, w2, w3⟩ := m_fm_c hd hp0 hw0 q1 q2 i (c + 1) (by omega) τ k1' k2'
          refine ⟨υ, vx_m_fmc_p2 (v1 := 1) (v2 := 0) (σ3 := σ) (by omega) na (by decide) rfl g1 g2 ?_ ?_ ?_, w2, w3⟩
          · rw [ew]; exact t1
          · rw [ew]; exact t2
          · rw [ew]; exact go _ w1
        | true =>
          rw [v2] at t2
          obtain ⟨σ', o1, o2, o3, o4⟩ := m_offer (d := d - 1) (x := x) (P := P) (M := m1 + t) (b := c) (e := 1) hb (fun M b e z => by
            rcases z with z | z <;> omega) (by omega) (by omega) (by omega)
          have hs' : SC P σ0 σ' := SC_trans hs ⟨o2, o3 hs.2⟩
          obtain ⟨τ, k1', k2', go⟩ := m_fm_j (x := x) hd hp0 hw0 q1 q2 hc (by omega) hA 4 0 (by omega) σ' hs' (bst_cong (fun M b e => by
            unfold ofS Sn
            constructor
            · rintro ((y | y) | ⟨rfl, rfl, rfl⟩)
              · exact Or.inl ⟨y.1, by omega, y.2.2⟩
              · exact Or.inr y
              · exact Or.inl ⟨rfl, by omega, v1, v2⟩
            · rintro (y | y)
              · rcases Nat.lt_or_ge b c with w | w
                · exact Or.inl (Or.inl ⟨y.1, w, y.2.2⟩)
                · have e2 : b = c := by omega
                  subst e2
                  exact Or.inr ⟨hA _ y.2.2.1, rfl, y.1⟩
              · exact Or.inl (Or.inr y)) o4)
          obtain ⟨υ, w1, w2, w3⟩ := m_fm_c hd hp0 hw0 q1 q2 i (c + 1) (by omega) τ k1' k2'
          refine ⟨υ, vx_m_fmc_p3 (v1 := 1) (v2 := 1) (σ3 := σ') (by omega) na (by decide) (by decide) g1 g2 ?_ ?_ ?_ ?_, w2, w3⟩
          · rw [ew]; exact t1
          · rw [ew]; exact t2
          · rw [ew]; exact o1
          · rw [ew]; exact go _ w1
theorem bst_MV {A B : Nat → Nat → Bool} {m c e : Int32} (hw : pd_wf P) (hw0 : ∀ c, c < pd_n P → 0 < P.2.1) (hw7 : P.2.1 ≤ 7) (hA : ∀ M b, A M b = true → P.2.2 b = true) (hB : ∀ M b, B M b = true → P.2.2 b = true) (h : bst (Sn P A B (pd_n P) (pd_n P) 0) m c e) : MV P A B m c := by
  have one : ∀ M b, A M b = true → B M b = true → Sn P A B (pd_n P) (pd_n P) 0 M b 1 := fun M b z1 z2 => Or.inl ⟨rfl, hw b (hA M b z1), z1, z2⟩
  have two : ∀ M b a, b < a → pd_adj P b a = true → (((A M b = true ∧ B (M + 1) b = true) ∧ B M a = true ∧ A (M + 1) a = true) ∨ ((B M b = true ∧ A (M + 1) b = true) ∧ A M a = true ∧ B (M + 1) a = true)) → Sn P A B (pd_n P) (pd_n P) 0 M b 0 := fun M b a z1 z2 z3 => by
    rcases z3 with z3 | z3
    · have h1 := hw b (hA _ _ z3.1.1)
      have h2 := hw a (hB _ _ z3.2.1)
      obtain ⟨j, j1, j2⟩ := (nb_adj (hw0 b h1) hw7 h1 h2).mp z2
      exact Or.inr ⟨rfl, b, j, a, Or.inl h1, j1, j2, ⟨z3.1.1, z3.2.1, z3.2.2, z3.1.2⟩, by omega⟩
    · have h1 := hw b (hB _ _ z3.1.1)
      have h2 := hw a (hA _ _ z3.2.1)
      obtain ⟨j, j1, j2⟩ := (nb_adj (hw0 b h1) hw7 h2 h1).mp (adj_sym z2)
      exact Or.inr ⟨rfl, a, j, b, Or.inl h2, j1, j2, ⟨z3.2.1, z3.1.1, z3.1.2, z3.2.2⟩, by omega⟩
  have all : ∀ M b, mwA P A B M b → ∃ e, Sn P A B (pd_n P) (pd_n P) 0 M b e ∧ (e = 0 → ∀ a, ¬ (A M a = true ∧ B M a = true)) := fun M b z => by
    rcases z with z | ⟨z1, a, z2, z3, z4⟩
    · exact ⟨1, one M b z.1 z.2, fun y => absurd y (by decide)⟩
    · exact ⟨0, two M b a z2 z3 z4, fun _ => z1⟩
  rcases h with ⟨h1, h2, h3⟩ | ⟨M, b, e', h1, h2, h3, h4, h5, h6, h7, h8⟩
  · exact Or.inl ⟨h1, h2, fun M b z => by
      obtain ⟨e, z1, -⟩ := all M b z
      exact h3 _ _ _ z1⟩
  · have before : ∀ M', M' < M → ∀ b', ¬ mwA P A B M' b' := fun M' z b' y => by
      obtain ⟨e, z1, -⟩ := all M' b' y
      have := h8 _ _ _ z1
      unfold ofl at this
      omega
    refine Or.inr ⟨M, b, h1, ?_, h4, h5⟩
    rcases h7 with ⟨rfl, z1, z2, z3⟩ | ⟨rfl, a, i, a', z1, z2, z3, z4, z5⟩
    · refine ⟨Or.inl ⟨z2, z3⟩, fun b' y => ?_, before⟩
      rcases y with y | y
      · have := h8 _ _ _ (one M b' y.1 y.2)
        unfold ofl at this
        omega
      · exact absurd ⟨z2, z3⟩ (y.1 b)
    · have no : ∀ a, ¬ (A M a = true ∧ B M a = true) := fun a y => by
        have := h8 _ _ _ (one M a y.1 y.2)
        unfold ofl at this
        omega
      have la := hw a (hA _ _ z4.1)
      have la' := hw a' (hB _ _ z4.2.1)
      have ad := (nb_adj (hw0 a la) hw7 la la').mpr ⟨i, z2, z3⟩
      refine ⟨Or.inr ⟨no, ?_⟩, fun b' y => ?_, before⟩
      · rcases Nat.lt_trichotomy a a' with w | w | w
        · rw [Nat.min_eq_left (by omega)] at z5
          subst z5
          exact ⟨a', w, ad, Or.inl ⟨⟨z4.1, z4.2.2.2⟩, z4.2.1, z4.2.2.1⟩⟩
        · subst w
          exact absurd ⟨z4.1, z4.2.1⟩ (no a)
        · rw [Nat.min_eq_right (by omega)] at z5
          subst z5
          exact ⟨a, w, adj_sym ad, Or.inr ⟨⟨z4.2.1, z4.2.2.1⟩, z4.1, z4.2.2.2⟩⟩
      · rcases y with y | ⟨-, a2, y2, y3, y4⟩
        · exact absurd y (no b')
        · have := h8 _ _ _ (two M b' a2 y2 y3 y4)
          unfold ofl at this
          omega
theorem m_findMeet {s u c1 c2 m1 m2 : Nat} {k1 k2 : Int32} {σ : mm_S} (hd : 3 ≤ d) (hr : r_rip P σ) (hp : r_pm P σ) (hw : r_way P σ) (q1 : stm P σ s k1 c1 m1) (q2 : stm P σ u k2 c2 m2) : ∃ σ', mm_Runs d 114 (0, [some (.ref 37), some (.int (nI s)), some (.int (nI u)), none, none, none, none, none], [], HH x σ) (none, HH x σ') ∧ SC P σ σ' ∧ MV P (sa P k1 c1 m1) (sa P k2 c2 m2) (σ'.1 3717) (σ'.1 3718) := by
  obtain ⟨σ', r1, r2, r3⟩ := m_fm_c (d := d) (x := x) hd hp hw q1 q2 (pd_n P) 0 (by omega) (ui (ui σ 3717 (-9)) 3718 (-9)) ⟨FR_ui rfl (FR_ui rfl (FR_refl _ _ _ _ _)), hr⟩ (Or.inl ⟨rfl, rfl, fun M b e z => by
    rcases z with z | ⟨-, a, i, a', z, -⟩ <;> omega⟩)
  exact ⟨σ', vx_m_fm0_p0 r1, r2, bst_MV (pm_wf hp) (fun c hc => bs_w hp hc) hp.2.1 (fun M b z => sa_wat z) (fun M b z => sa_wat z) r3⟩
end MT
theorem q2' {P : pd_T} {ns nw nr s : Nat} {σ : mm_S} (h : RP P ns nw nr σ) (hs : s < ns) : p_m_isStone σ (nI s) := by
  rcases st_ix (RP_st h) (nI s) with ⟨q1, q2⟩ | ⟨s', hs', e, q1, q2, -, -⟩
  · exfalso
    have h8 := (RP_st h).1
    refine q2 ⟨nI_pos (by omega), ?_⟩
    rw [(RP_st h).2.2.1]; exact nI_ge hs (by omega)
  · exact q2
theorem op_meet : opI Rel i_X6_meet i_X7_meet 3 := by
  intro x σ as h hr
  obtain ⟨a, b, w, rfl⟩ := as_3 h
  obtain ⟨P, ns, nw, nr, hr⟩ := rel_RP.mp hr
  rcases st_ix (RP_st hr) a with ⟨q1, q2⟩ | ⟨s, hs, rfl, q1, q2, -, -⟩
  · exact ⟨-1, σ, σ, vx_meet_p0 (v1 := 0) (σ1 := σ) (by decide) q1, vx_m_meet_p0 (σ1 := σ) (by decide) q2, RP_rel hr⟩
  rcases st_ix (RP_st hr) b with ⟨y1, y2⟩ | ⟨u, hu, rfl, y1, y2, -, -⟩
  · exact ⟨-1, σ, σ, vx_meet_p1 (v1 := 0) (σ1 := σ) (by decide) q1 y1, vx_m_meet_p1 (σ1 := σ) (by decide) q2 y2, RP_rel hr⟩
  by_cases e : nI s = nI u
  · exact ⟨-1, σ, σ, vx_meet_p7 (v1 := 0) (σ1 := σ) (by decide) q1 y1 e, vx_m_meet_p5 (σ1 := σ) (by decide) q2 y2 e, RP_rel hr⟩
  by_cases w1 : w < 0
  · exact ⟨-2, σ, σ, vx_meet_p2 (v1 := 0) (σ1 := σ) (by decide) q1 y1 e w1, vx_m_meet_p4 (σ1 := σ) (by decide) q2 y2 e (fun z => z.1 w1), RP_rel hr⟩
  by_cases w2 : w ≤ 1
  · obtain ⟨k1, c1, m1, s1, s2⟩ := st_of (RP_st hr) hs
    obtain ⟨k2, c2, m2, t1, t2⟩ := st_of (RP_st hr) hu
    obtain ⟨v, σ1, r1, r2, r3⟩ := c_ofSt (d := 998) (x := x) (by omega) (RP_lk hr) s1 t1
    have hr1 := RP_SC hr r2
    obtain ⟨σ2, g1, g2, g3⟩ := m_findMeet (d := 998) (x := x) (by omega) r2.2 (RP_pm hr1) (RP_wy hr1) (stm_SC s2 r2) (stm_SC t2 r2)
    have hr2 := RP_rel (RP_SC hr1 g2)
    have wi : p_m_within σ1 w 0 1 := ⟨w1, i_nlt.mpr w2⟩
    by_cases w0 : w = 0
    · rcases r3 with ⟨rfl, r3⟩ | ⟨rfl, r3, r4⟩
      · have := (MV_uni r3 g3).1
        refine ⟨-9, σ1, σ2, vx_meet_p5 (v1 := 0) (σ1 := σ1) (by decide) q1 y1 e w1 w2 rfl r1, ?_, hr2⟩
        rw [this]
        exact vx_m_meet_p3 (σ1 := σ2) (by decide) (q2' hr1 hs) (q2' hr1 hu) e wi w0 g1
      · have := (MV_uni r4 g3).1
        refine ⟨σ1.1 2800, σ1, σ2, vx_meet_p4 (v1 := 1) (σ1 := σ1) (by decide) q1 y1 e w1 w2 (by decide) w0 r1, ?_, hr2⟩
        rw [this]
        exact vx_m_meet_p3 (σ1 := σ2) (by decide) (q2' hr1 hs) (q2' hr1 hu) e wi w0 g1
    · rcases r3 with ⟨rfl, r3⟩ | ⟨rfl, r3, r4⟩
      · have := (MV_uni r3 g3).2
        refine ⟨-9, σ1, σ2, vx_meet_p5 (v1 := 0) (σ1 := σ1) (by decide) q1 y1 e w1 w2 rfl r1, ?_, hr2⟩
        rw [this]
        exact vx_m_meet_p2 (σ1 := σ2) (by decide) (q2' hr1 hs) (q2' hr1 hu) e wi w0 g1
      · have := (MV_uni r4 g3).2
        refine ⟨σ1.1 2801, σ1, σ2, vx_meet_p3 (v1 := 1) (σ1 := σ1) (by decide) q1 y1 e w1 w2 (by decide) w0 r1, ?_, hr2⟩
        rw [this]
        exact vx_m_meet_p2 (σ1 := σ2) (by decide) (q2' hr1 hs) (q2' hr1 hu) e wi w0 g1
  · exact ⟨-2, σ, σ, vx_meet_p6 (v1 := 0) (σ1 := σ) (by decide) q1 y1 e w1 w2, vx_m_meet_p4 (σ1 := σ) (by decide) q2 y2 e (fun z => w2 (i_nlt.mp z.2)), RP_rel hr⟩

