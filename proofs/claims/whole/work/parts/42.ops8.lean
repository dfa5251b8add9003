/-! copy (written by wip/whole/ops8.py) -/
abbrev hcp (L i n : Int32) : Prop := ¬ i < 0 ∧ (¬ n < 0 ∧ (¬ L < i ∧ ¬ (L - i) < n))
theorem cpy_own {A B C : Nat → Int32} {a b i j n : Nat} (hi : i + n ≤ 60) (hj : j + n ≤ 60) (hA : ∀ y, y < 60 → A y = C (60 * a + y)) (hB : ∀ y, y < 60 → B y = C (60 * b + y)) (y : Nat) (hy : y < 60) : va_cpy A B i j n y = va_cpy C C (60 * a + i) (60 * b + j) n (60 * b + y) := by
  by_cases h : j ≤ y ∧ y < j + n
  · rw [pk_cpy_in h.1 h.2, pk_cpy_in (by omega) (by omega), hA _ (by omega)]
    congr 1
    omega
  · rw [pk_cpy_out (by omega), pk_cpy_out (by omega), hB y hy]
theorem cpy_oth {B C : Nat → Int32} {b k s j n : Nat} (hj : j + n ≤ 60) (hk : k ≠ b) (hB : ∀ y, y < 60 → B y = C (60 * k + y)) (y : Nat) (hy : y < 60) : B y = va_cpy C C s (60 * b + j) n (60 * k + y) := by
  rw [hB y hy, pk_cpy_out (by
    rcases Nat.lt_or_ge k b with z | z
    · exact Or.inl (by omega)
    · exact Or.inr (by omega))]
theorem m_copy_1 {x : Nat × (Nat → Int32)} {k i t j n : Int32} (τ : mm_S) (qk : p_m_isSheet (ui τ 3700 0) k) (qt : p_m_isSheet (ui τ 3700 0) t) (gk : ¬ (k < 0 ∨ 4 ≤ k.toNatClampNeg)) (gt : ¬ (t < 0 ∨ 4 ≤ t.toNatClampNeg)) (e : τ.2.2.1 38 k.toNatClampNeg = -9 ∨ τ.2.2.1 38 t.toNatClampNeg = -9) : mm_Runs 999 i_X7_copy (0, [some (.ref 37), some (.int k), some (.int i), some (.int t), some (.int j), some (.int n), none, none, none, none], [], HH x τ) (some (.int (-11)), HH x (ui (ui τ 3700 0) 3700 1)) :=
  vc_m_copy (by omega) (fun z => absurd qk z) (fun _ _ => gk) (fun _ _ _ => rfl) (fun _ _ _ => gt) (fun _ _ _ _ => gk) (fun _ _ _ _ => gt) (fun _ _ z1 z2 _ _ => e.elim (fun w => absurd w z1) (fun w => absurd w z2)) (fun _ _ z1 z2 _ _ _ => e.elim (fun w => absurd w z1) (fun w => absurd w z2)) (fun _ _ z1 z2 _ _ _ _ => e.elim (fun w => absurd w z1) (fun w => absurd w z2)) (fun _ _ _ _ _ _ _ _ => gk) (fun _ _ z1 z2 _ _ _ _ _ => e.elim (fun w => absurd w z1) (fun w => absurd w z2)) (fun _ _ _ _ _ _ _ _ _ => gt) (fun _ _ z1 z2 _ _ _ _ _ _ => e.elim (fun w => absurd w z1) (fun w => absurd w z2)) (fun _ _ _ _ _ _ _ _ _ _ => gk) (fun _ _ z1 z2 _ _ _ _ _ _ _ => e.elim (fun w => absurd w z1) (fun w => absurd w z2)) (fun _ _ _ _ _ _ _ _ _ _ _ => gt) (fun _ _ z1 z2 _ _ _ _ _ _ _ _ _ => e.elim (fun w => absurd w z1) (fun w => absurd w z2)) (fun _ _ z1 z2 _ _ _ _ _ _ _ _ _ => e.elim (fun w => absurd w z1) (fun w => absurd w z2)) (fun _ _ z1 z2 _ _ _ _ _ _ _ _ => e.elim (fun w => absurd w z1) (fun w => absurd w z2)) (fun _ _ z1 z2 _ => e.elim (fun w => absurd w z1) (fun w => absurd w z2)) (fun _ _ _ _ => rfl) (fun _ z => absurd qt z)
theorem m_copy_2 {x : Nat × (Nat → Int32)} {k i t j n : Int32} (τ : mm_S) (qk : p_m_isSheet (ui τ 3700 0) k) (qt : p_m_isSheet (ui τ 3700 0) t) (gk : ¬ (k < 0 ∨ 4 ≤ k.toNatClampNeg)) (gt : ¬ (t < 0 ∨ 4 ≤ t.toNatClampNeg)) (n1 : ¬ τ.2.2.1 38 k.toNatClampNeg = -9) (n2 : ¬ τ.2.2.1 38 t.toNatClampNeg = -9) (e : ¬ τ.2.2.1 38 k.toNatClampNeg = τ.2.2.1 38 t.toNatClampNeg) : mm_Runs 999 i_X7_copy (0, [some (.ref 37), some (.int k), some (.int i), some (.int t), some (.int j), some (.int n), none, none, none, none], [], HH x τ) (some (.int (-12)), HH x (ui (ui τ 3700 0) 3700 2)) :=
  vc_m_copy (by omega) (fun z => absurd qk z) (fun _ _ => gk) (fun _ _ z => absurd z n1) (fun _ _ _ => gt) (fun _ _ _ _ => gk) (fun _ _ _ _ => gt) (fun _ _ _ _ z _ => absurd z e) (fun _ _ _ _ z _ _ => absurd z e) (fun _ _ _ _ z _ _ _ => absurd z e) (fun _ _ _ _ _ _ _ _ => gk) (fun _ _ _ _ z _ _ _ _ => absurd z e) (fun _ _ _ _ _ _ _ _ _ => gt) (fun _ _ _ _ z _ _ _ _ _ => absurd z e) (fun _ _ _ _ _ _ _ _ _ _ => gk) (fun _ _ _ _ z _ _ _ _ _ _ => absurd z e) (fun _ _ _ _ _ _ _ _ _ _ _ => gt) (fun _ _ _ _ z _ _ _ _ _ _ _ _ => absurd z e) (fun _ _ _ _ z _ _ _ _ _ _ _ _ => absurd z e) (fun _ _ _ _ z _ _ _ _ _ _ _ => absurd z e) (fun _ _ _ _ _ => rfl) (fun _ _ _ z => absurd z n2) (fun _ z => absurd qt z)
theorem m_copy_3 {x : Nat × (Nat → Int32)} {k i t j n : Int32} (τ : mm_S) (qk : p_m_isSheet (ui τ 3700 0) k) (qt : p_m_isSheet (ui τ 3700 0) t) (gk : ¬ (k < 0 ∨ 4 ≤ k.toNatClampNeg)) (gt : ¬ (t < 0 ∨ 4 ≤ t.toNatClampNeg)) (n1 : ¬ τ.2.2.1 38 k.toNatClampNeg = -9) (n2 : ¬ τ.2.2.1 38 t.toNatClampNeg = -9) (e : τ.2.2.1 38 k.toNatClampNeg = τ.2.2.1 38 t.toNatClampNeg) (g : ¬ (hcp (τ.2.2.1 39 k.toNatClampNeg) i n ∧ hcp (τ.2.2.1 39 t.toNatClampNeg) j n)) : mm_Runs 999 i_X7_copy (0, [some (.ref 37), some (.int k), some (.int i), some (.int t), some (.int j), some (.int n), none, none, none, none], [], HH x τ) (some (.int (-13)), HH x (ui (ui τ 3700 0) 3700 3)) :=
  vc_m_copy (by omega) (fun z => absurd qk z) (fun _ _ => gk) (fun _ _ z => absurd z n1) (fun _ _ _ => gt) (fun _ _ _ _ => gk) (fun _ _ _ _ => gt) (fun _ _ _ _ _ _ => rfl) (fun _ _ _ _ _ _ _ => rfl) (fun _ _ _ _ _ _ _ _ => rfl) (fun _ _ _ _ _ _ _ _ => gk) (fun _ _ _ _ _ _ _ _ _ => rfl) (fun _ _ _ _ _ _ _ _ _ => gt) (fun _ _ _ _ _ _ _ _ _ _ => rfl) (fun _ _ _ _ _ _ _ _ _ _ => gk) (fun _ _ _ _ _ _ _ _ _ _ _ => rfl) (fun _ _ _ _ _ _ _ _ _ _ _ => gt) (fun _ _ _ _ _ z6 z7 z8 z9 z10 z11 z12 _ => absurd ⟨⟨z6, z8, z9, z11⟩, ⟨z7, z8, z10, Int32.not_lt.mpr z12⟩⟩ g) (fun _ _ _ _ _ z6 z7 z8 z9 z10 z11 z12 _ => absurd ⟨⟨z6, z8, z9, z11⟩, ⟨z7, z8, z10, Int32.not_lt.mpr z12⟩⟩ g) (fun _ _ _ _ _ _ _ _ _ _ _ _ => rfl) (fun _ _ _ _ z => absurd e z) (fun _ _ _ z => absurd z n2) (fun _ z => absurd qt z)
theorem m_copy_0 {x : Nat × (Nat → Int32)} {k i t j n : Int32} (τ : mm_S) (qk : p_m_isSheet (ui τ 3700 0) k) (qt : p_m_isSheet (ui τ 3700 0) t) (gk : ¬ (k < 0 ∨ 4 ≤ k.toNatClampNeg)) (gt : ¬ (t < 0 ∨ 4 ≤ t.toNatClampNeg)) {r : Option Value × mm_H} (n1 : ¬ τ.2.2.1 38 k.toNatClampNeg = -9) (n2 : ¬ τ.2.2.1 38 t.toNatClampNeg = -9) (e : τ.2.2.1 38 k.toNatClampNeg = τ.2.2.1 38 t.toNatClampNeg) (g : hcp (τ.2.2.1 39 k.toNatClampNeg) i n ∧ hcp (τ.2.2.1 39 t.toNatClampNeg) j n)
    (kf : j ≤ i → mm_Runs 999 146 (166, [some (.ref 37), some (.int k), some (.int i), some (.int t), some (.int j), some (.int n), none, some (.int 0), some (.int 0), none], [], HH x (ui τ 3700 0)) r)
    (kb : ¬ j ≤ i → mm_Runs 999 146 (166, [some (.ref 37), some (.int k), some (.int i), some (.int t), some (.int j), some (.int n), none, some (.int 1), some (.int 0), none], [], HH x (ui τ 3700 0)) r) : mm_Runs 999 i_X7_copy (0, [some (.ref 37), some (.int k), some (.int i), some (.int t), some (.int j), some (.int n), none, none, none, none], [], HH x τ) r :=
  vc_m_copy (by omega) (fun z => absurd qk z) (fun _ _ => gk) (fun _ _ z => absurd z n1) (fun _ _ _ => gt) (fun _ _ _ _ => gk) (fun _ _ _ _ => gt) (fun _ _ _ _ _ z => absurd z g.1.1) (fun _ _ _ _ _ _ z => absurd z g.2.1) (fun _ _ _ _ _ _ _ z => absurd z g.1.2.1) (fun _ _ _ _ _ _ _ _ => gk) (fun _ _ _ _ _ _ _ _ z => absurd z g.1.2.2.1) (fun _ _ _ _ _ _ _ _ _ => gt) (fun _ _ _ _ _ _ _ _ _ z => absurd z g.2.2.2.1) (fun _ _ _ _ _ _ _ _ _ _ => gk) (fun _ _ _ _ _ _ _ _ _ _ z => absurd z g.1.2.2.2) (fun _ _ _ _ _ _ _ _ _ _ _ => gt) (fun _ _ _ _ _ _ _ _ _ _ _ _ z => kf z) (fun _ _ _ _ _ _ _ _ _ _ _ _ z => kb z) (fun _ _ _ _ _ _ _ _ _ _ _ z => absurd (Int32.not_lt.mp g.2.2.2.2) z) (fun _ _ _ _ z => absurd e z) (fun _ _ _ z => absurd z n2) (fun _ z => absurd qt z)
/-- the model's copy, done -/
theorem m_copy_9 {x : Nat × (Nat → Int32)} (τ : mm_S) {kk tt a b m : Nat} (hk : kk < 4) (ht : tt < 4) (ha : a + m ≤ 60) (hb : b + m ≤ 60) (n1 : ¬ τ.2.2.1 38 kk = -9) (n2 : ¬ τ.2.2.1 38 tt = -9) (e : τ.2.2.1 38 kk = τ.2.2.1 38 tt) (g : hcp (τ.2.2.1 39 kk) (nI a) (nI m) ∧ hcp (τ.2.2.1 39 tt) (nI b) (nI m)) :
    mm_Runs 999 i_X7_copy (0, [some (.ref 37), some (.int (nI kk)), some (.int (nI a)), some (.int (nI tt)), some (.int (nI b)), some (.int (nI m)), none, none, none, none], [], HH x τ) (some (.int (nI m)), HH x (ua (ui τ 3700 0) 40 (va_cpy (τ.2.2.1 40) (τ.2.2.1 40) (60 * kk + a) (60 * tt + b) m))) := by
  have ek : (nI kk).toNatClampNeg = kk := nI_clamp (by omega)
  have et : (nI tt).toNatClampNeg = tt := nI_clamp (by omega)
  have qs : ∀ u, u < 4 → p_m_isSheet (ui τ 3700 0) (nI u) := by
    intro u hu
    match u, hu with
    | 0, _ => exact (sheet_iff (ui τ 3700 0) τ 0).mpr (by unfold p_isSheet; decide)
    | 1, _ => exact (sheet_iff (ui τ 3700 0) τ 1).mpr (by unfold p_isSheet; decide)
    | 2, _ => exact (sheet_iff (ui τ 3700 0) τ 2).mpr (by unfold p_isSheet; decide)
    | 3, _ => exact (sheet_iff (ui τ 3700 0) τ 3).mpr (by unfold p_isSheet; decide)
    | u + 4, h => omega
  refine m_copy_0 τ (qs kk hk) (qs tt ht) (nI_in hk (by omega)) (nI_in ht (by omega)) (by rw [ek]; exact n1) (by rw [et]; exact n2) (by rw [ek, et]; exact e) (by rw [ek, et]; exact g) (fun z => ?_) (fun z => ?_)
  · rw [nI_leI (by omega) (by omega)] at z
    have h := mcp_fwd (d := 999) (x := x) (ui τ 3700 0) (τ.2.2.1 40) hk ht ha hb z m 0 (by omega)
    rw [cpy_0, show ua (ui τ 3700 0) 40 (τ.2.2.1 40) = ui τ 3700 0 from ua_self (ui τ 3700 0) 40] at h
    exact h
  · rw [nI_leI (by omega) (by omega)] at z
    have h := mcp_bwd (d := 999) (x := x) (ui τ 3700 0) (τ.2.2.1 40) hk ht ha hb (by omega) m 0 (by omega)
    rw [cpy_0, show ua (ui τ 3700 0) 40 (τ.2.2.1 40) = ui τ 3700 0 from ua_self (ui τ 3700 0) 40] at h
    exact h
theorem copy_00 {x : Nat × (Nat → Int32)} {σ : mm_S} {i j n : Int32} (hr : Rel σ) : ∃ (r : Int32) (σ1 σ2 : mm_S), mm_Runs 999 i_X6_copy (0, [some (.ref 2), some (.int 0), some (.int i), some (.int 0), some (.int j), some (.int n), none, none], [], HH x σ) (some (.int r), HH x σ1) ∧ mm_Runs 999 i_X7_copy (0, [some (.ref 37), some (.int 0), some (.int i), some (.int 0), some (.int j), some (.int n), none, none, none, none], [], HH x σ1) (some (.int r), HH x σ2) ∧ Rel σ2 := by
  obtain ⟨h1, h2, P, ns, nw, nr, hp, hc, hri, hwy, hs, hw, hre, hti⟩ := id hr
  have q : p_isSheet (ui σ 210 0) 0 := by unfold p_isSheet; decide
  have q2 : p_isSheet (ui σ 210 0) 0 := by unfold p_isSheet; decide
  have qm : ∀ τ : mm_S, p_m_isSheet (ui τ 3700 0) 0 := fun τ => (sheet_iff (ui τ 3700 0) (ui σ 210 0) 0).mpr q
  have qm2 : ∀ τ : mm_S, p_m_isSheet (ui τ 3700 0) 0 := fun τ => (sheet_iff (ui τ 3700 0) (ui σ 210 0) 0).mpr q2
  have ga : ¬ ((0 : Int32) < 0 ∨ 4 ≤ (0 : Int32).toNatClampNeg) := by decide
  have gb : ¬ ((0 : Int32) < 0 ∨ 4 ≤ (0 : Int32).toNatClampNeg) := by decide
  rcases h2.1.1 with ⟨a1, a2⟩ | ⟨a1, a2, a3⟩
  · have e : σ.1 401 = 0 := a1
    have c : mm_Runs 999 i_X6_copy (0, [some (.ref 2), some (.int 0), some (.int i), some (.int 0), some (.int j), some (.int n), none, none], [], HH x σ) (some (.int (-11)), HH x (ui (ui σ 210 0) 210 1)) := vc_copy (by omega) (fun z => absurd q z) (fun _ _ => vc_copy_00 (by omega) (fun _ => rfl) (fun z _ _  => absurd e z) (fun z _ _ _  => absurd e z) (fun z _ _ _  => absurd e z) (fun z _ _ _  => absurd e z) (fun z _  => absurd e z)) (fun _ z => absurd q2 z)
    have m := m_copy_1 (x := x) (i := i) (j := j) (n := n) (ui (ui σ 210 0) 210 1) (qm _) (qm2 _) ga gb (Or.inl a2)
    exact ⟨_, _, _, c, m, ⟨⟨rfl, h1.2⟩, h2, P, ns, nw, nr, hp, hc, hri, hwy, hs, hw, hre, hti⟩⟩
  · have b1 := a1
    have b2 := a2
    have b3 := a3
    have n1 : ¬ σ.2.2.1 38 0 = -9 := fun z => kd_n9 a3 (a2.symm.trans z)
    have n2 : ¬ σ.2.2.1 38 0 = -9 := fun z => kd_n9 b3 (b2.symm.trans z)
    have m1 : ¬ σ.1 401 = 0 := by rw [a1]; decide
    have m2 : ¬ σ.1 401 = 0 := by rw [b1]; decide
    by_cases e0 : σ.1 402 = σ.1 402
    · have e2 : ¬ p_isOfAnother_4 (ui σ 210 0) (σ.1 402) := fun z => z.2 e0
      have e : σ.2.2.1 38 0 = σ.2.2.1 38 0 := a2.trans (e0.symm.trans b2.symm)
      obtain ⟨la, hla, ela⟩ := h2.1.2.2.1
      obtain ⟨lb, hlb, elb⟩ := h2.1.2.2.1
      by_cases g : hcp (σ.1 403) i n ∧ hcp (σ.1 403) j n
      · have g1 := g.1
        have g2 := g.2
        rw [ela] at g1
        rw [elb] at g2
        obtain ⟨ia, ma, rfl, rfl, hia⟩ := (hcN hla _ _).mp g1
        obtain ⟨jb, mb, rfl, emb, hjb⟩ := (hcN hlb _ _).mp g2
        have emm : ma = mb := by
          by_cases hh : mb < 2 ^ 31
          · exact (nI_eq (by omega) hh).mp emb
          · omega
        subst emm
        have cc : ∀ u, u ≤ 60 → (nI u).toNatClampNeg = u := fun u hu => nI_clamp (by omega)
        have gd : ¬ (nI ia < 0 ∨ nI jb < 0 ∨ nI ma < 0 ∨ 60 < (nI ia).toNatClampNeg + (nI ma).toNatClampNeg ∨ 60 < (nI jb).toNatClampNeg + (nI ma).toNatClampNeg) := by
          rw [cc ia (by omega), cc jb (by omega), cc ma (by omega)]
          rintro (z | z | z | z | z)
          · exact nI_pos (by omega) z
          · exact nI_pos (by omega) z
          · exact nI_pos (by omega) z
          · omega
          · omega
        have c : mm_Runs 999 i_X6_copy (0, [some (.ref 2), some (.int 0), some (.int (nI ia)), some (.int 0), some (.int (nI jb)), some (.int (nI ma)), none, none], [], HH x σ) (some (.int (nI ma)), HH x (ua (ui σ 210 0) 8 (va_cpy (σ.2.2.1 8) (σ.2.2.1 8) (nI ia).toNatClampNeg (nI jb).toNatClampNeg (nI ma).toNatClampNeg))) := vc_copy (by omega) (fun z => absurd q z) (fun _ _ => vc_copy_00 (by omega) (fun z => absurd z m1) (fun _ _ z => absurd g.1 z) (fun _ _ _ _ => gd) (fun _ _ _ _ => rfl) (fun _ _ _ z => absurd g.2 z) (fun _ z => absurd z e2)) (fun _ z => absurd q2 z)
        rw [cc ia (by omega), cc jb (by omega), cc ma (by omega)] at c
        have m := m_copy_9 (x := x) (ua (ui σ 210 0) 8 (va_cpy (σ.2.2.1 8) (σ.2.2.1 8) ia jb ma)) (kk := 0) (tt := 0) (a := ia) (b := jb) (m := ma) (by omega) (by omega) (by omega) (by omega) n1 n2 e ⟨by have z := g.1; rw [h2.1.2.1] at z; exact z, by have z := g.2; rw [h2.1.2.1] at z; exact z⟩
        exact ⟨_, _, _, c, m, ⟨⟨rfl, h1.2⟩, ⟨⟨h2.1.1, h2.1.2.1, h2.1.2.2.1, cpy_own (a := 0) (b := 0) (by omega) (by omega) h2.1.2.2.2 h2.1.2.2.2⟩, ⟨h2.2.1.1, h2.2.1.2.1, h2.2.1.2.2.1, cpy_oth (b := 0) (k := 1) (by omega) (by decide) h2.2.1.2.2.2⟩, ⟨h2.2.2.1.1, h2.2.2.1.2.1, h2.2.2.1.2.2.1, cpy_oth (b := 0) (k := 2) (by omega) (by decide) h2.2.2.1.2.2.2⟩, ⟨h2.2.2.2.1, h2.2.2.2.2.1, h2.2.2.2.2.2.1, cpy_oth (b := 0) (k := 3) (by omega) (by decide) h2.2.2.2.2.2.2⟩⟩, P, ns, nw, nr, hp, hc, hri, hwy, hs, hw, hre, hti⟩⟩
      · have c : mm_Runs 999 i_X6_copy (0, [some (.ref 2), some (.int 0), some (.int i), some (.int 0), some (.int j), some (.int n), none, none], [], HH x σ) (some (.int (-13)), HH x (ui (ui σ 210 0) 210 3)) := vc_copy (by omega) (fun z => absurd q z) (fun _ _ => vc_copy_00 (by omega) (fun z => absurd z m1) (fun _ _ _ => rfl) (fun _ _ z1 z2 => absurd ⟨z1, z2⟩ g) (fun _ _ z1 z2 => absurd ⟨z1, z2⟩ g) (fun _ _ _ _ => rfl) (fun _ z => absurd z e2)) (fun _ z => absurd q2 z)
        have m := m_copy_3 (x := x) (i := i) (j := j) (n := n) (ui (ui σ 210 0) 210 3) (qm _) (qm2 _) ga gb n1 n2 e (fun z => g ⟨by have y := z.1; rw [h2.1.2.1]; exact y, by have y := z.2; rw [h2.1.2.1]; exact y⟩)
        exact ⟨_, _, _, c, m, ⟨⟨rfl, h1.2⟩, h2, P, ns, nw, nr, hp, hc, hri, hwy, hs, hw, hre, hti⟩⟩
    · have e2 : p_isOfAnother_4 (ui σ 210 0) (σ.1 402) := ⟨m2, e0⟩
      have e : ¬ σ.2.2.1 38 0 = σ.2.2.1 38 0 := fun z => e0 (b2.symm.trans (z.symm.trans a2))
      have c : mm_Runs 999 i_X6_copy (0, [some (.ref 2), some (.int 0), some (.int i), some (.int 0), some (.int j), some (.int n), none, none], [], HH x σ) (some (.int (-12)), HH x (ui (ui σ 210 0) 210 2)) := vc_copy (by omega) (fun z => absurd q z) (fun _ _ => vc_copy_00 (by omega) (fun z => absurd z m1) (fun _ z _  => absurd e2 z) (fun _ z _ _  => absurd e2 z) (fun _ z _ _  => absurd e2 z) (fun _ z _ _  => absurd e2 z) (fun _ _ => rfl)) (fun _ z => absurd q2 z)
      have m := m_copy_2 (x := x) (i := i) (j := j) (n := n) (ui (ui σ 210 0) 210 2) (qm _) (qm2 _) ga gb n1 n2 e
      exact ⟨_, _, _, c, m, ⟨⟨rfl, h1.2⟩, h2, P, ns, nw, nr, hp, hc, hri, hwy, hs, hw, hre, hti⟩⟩
theorem copy_01 {x : Nat × (Nat → Int32)} {σ : mm_S} {i j n : Int32} (hr : Rel σ) : ∃ (r : Int32) (σ1 σ2 : mm_S), mm_Runs 999 i_X6_copy (0, [some (.ref 2), some (.int 0), some (.int i), some (.int 1), some (.int j), some (.int n), none, none], [], HH x σ) (some (.int r), HH x σ1) ∧ mm_Runs 999 i_X7_copy (0, [some (.ref 37), some (.int 0), some (.int i), some (.int 1), some (.int j), some (.int n), none, none, none, none], [], HH x σ1) (some (.int r), HH x σ2) ∧ Rel σ2 := by
  obtain ⟨h1, h2, P, ns, nw, nr, hp, hc, hri, hwy, hs, hw, hre, hti⟩ := id hr
  have q : p_isSheet (ui σ 210 0) 0 := by unfold p_isSheet; decide
  have q2 : p_isSheet (ui σ 210 0) 1 := by unfold p_isSheet; decide
  have qm : ∀ τ : mm_S, p_m_isSheet (ui τ 3700 0) 0 := fun τ => (sheet_iff (ui τ 3700 0) (ui σ 210 0) 0).mpr q
  have qm2 : ∀ τ : mm_S, p_m_isSheet (ui τ 3700 0) 1 := fun τ => (sheet_iff (ui τ 3700 0) (ui σ 210 0) 1).mpr q2
  have ga : ¬ ((0 : Int32) < 0 ∨ 4 ≤ (0 : Int32).toNatClampNeg) := by decide
  have gb : ¬ ((1 : Int32) < 0 ∨ 4 ≤ (1 : Int32).toNatClampNeg) := by decide
  rcases h2.1.1 with ⟨a1, a2⟩ | ⟨a1, a2, a3⟩
  · have e : σ.1 401 = 0 ∨ σ.1 501 = 0 := Or.inl a1
    have c : mm_Runs 999 i_X6_copy (0, [some (.ref 2), some (.int 0), some (.int i), some (.int 1), some (.int j), some (.int n), none, none], [], HH x σ) (some (.int (-11)), HH x (ui (ui σ 210 0) 210 1)) := vc_copy (by omega) (fun z => absurd q z) (fun _ _ => vc_copy_01 (by omega) (fun _ => rfl) (fun z1 z2 _ _  => e.elim (fun w => absurd w z1) (fun w => absurd w z2)) (fun z1 z2 _ _ _  => e.elim (fun w => absurd w z1) (fun w => absurd w z2)) (fun z1 z2 _ _ _  => e.elim (fun w => absurd w z1) (fun w => absurd w z2)) (fun z1 z2 _ _ _  => e.elim (fun w => absurd w z1) (fun w => absurd w z2)) (fun z1 z2 _  => e.elim (fun w => absurd w z1) (fun w => absurd w z2)) (fun _ _ => rfl)) (fun _ z => absurd q2 z)
    have m := m_copy_1 (x := x) (i := i) (j := j) (n := n) (ui (ui σ 210 0) 210 1) (qm _) (qm2 _) ga gb (Or.inl a2)
    exact ⟨_, _, _, c, m, ⟨⟨rfl, h1.2⟩, h2, P, ns, nw, nr, hp, hc, hri, hwy, hs, hw, hre, hti⟩⟩
  rcases h2.2.1.1 with ⟨b1, b2⟩ | ⟨b1, b2, b3⟩
  · have e : σ.1 401 = 0 ∨ σ.1 501 = 0 := Or.inr b1
    have c : mm_Runs 999 i_X6_copy (0, [some (.ref 2), some (.int 0), some (.int i), some (.int 1), some (.int j), some (.int n), none, none], [], HH x σ) (some (.int (-11)), HH x (ui (ui σ 210 0) 210 1)) := vc_copy (by omega) (fun z => absurd q z) (fun _ _ => vc_copy_01 (by omega) (fun _ => rfl) (fun z1 z2 _ _  => e.elim (fun w => absurd w z1) (fun w => absurd w z2)) (fun z1 z2 _ _ _  => e.elim (fun w => absurd w z1) (fun w => absurd w z2)) (fun z1 z2 _ _ _  => e.elim (fun w => absurd w z1) (fun w => absurd w z2)) (fun z1 z2 _ _ _  => e.elim (fun w => absurd w z1) (fun w => absurd w z2)) (fun z1 z2 _  => e.elim (fun w => absurd w z1) (fun w => absurd w z2)) (fun _ _ => rfl)) (fun _ z => absurd q2 z)
    have m := m_copy_1 (x := x) (i := i) (j := j) (n := n) (ui (ui σ 210 0) 210 1) (qm _) (qm2 _) ga gb (Or.inr b2)
    exact ⟨_, _, _, c, m, ⟨⟨rfl, h1.2⟩, h2, P, ns, nw, nr, hp, hc, hri, hwy, hs, hw, hre, hti⟩⟩
  have n1 : ¬ σ.2.2.1 38 0 = -9 := fun z => kd_n9 a3 (a2.symm.trans z)
  have n2 : ¬ σ.2.2.1 38 1 = -9 := fun z => kd_n9 b3 (b2.symm.trans z)
  have m1 : ¬ σ.1 401 = 0 := by rw [a1]; decide
  have m2 : ¬ σ.1 501 = 0 := by rw [b1]; decide
  by_cases e0 : σ.1 502 = σ.1 402
  · have e2 : ¬ p_isOfAnother_5 (ui σ 210 0) (σ.1 402) := fun z => z.2 e0
    have e : σ.2.2.1 38 0 = σ.2.2.1 38 1 := a2.trans (e0.symm.trans b2.symm)
    obtain ⟨la, hla, ela⟩ := h2.1.2.2.1
    obtain ⟨lb, hlb, elb⟩ := h2.2.1.2.2.1
    by_cases g : hcp (σ.1 403) i n ∧ hcp (σ.1 503) j n
    · have g1 := g.1
      have g2 := g.2
      rw [ela] at g1
      rw [elb] at g2
      obtain ⟨ia, ma, rfl, rfl, hia⟩ := (hcN hla _ _).mp g1
      obtain ⟨jb, mb, rfl, emb, hjb⟩ := (hcN hlb _ _).mp g2
      have emm : ma = mb := by
        by_cases hh : mb < 2 ^ 31
        · exact (nI_eq (by omega) hh).mp emb
        · omega
      subst emm
      have cc : ∀ u, u ≤ 60 → (nI u).toNatClampNeg = u := fun u hu => nI_clamp (by omega)
      have gd : ¬ (nI ia < 0 ∨ nI jb < 0 ∨ nI ma < 0 ∨ 60 < (nI ia).toNatClampNeg + (nI ma).toNatClampNeg ∨ 60 < (nI jb).toNatClampNeg + (nI ma).toNatClampNeg) := by
        rw [cc ia (by omega), cc jb (by omega), cc ma (by omega)]
        rintro (z | z | z | z | z)
        · exact nI_pos (by omega) z
        · exact nI_pos (by omega) z
        · exact nI_pos (by omega) z
        · omega
        · omega
      have c : mm_Runs 999 i_X6_copy (0, [some (.ref 2), some (.int 0), some (.int (nI ia)), some (.int 1), some (.int (nI jb)), some (.int (nI ma)), none, none], [], HH x σ) (some (.int (nI ma)), HH x (ua (ui σ 210 0) 9 (va_cpy (σ.2.2.1 8) (σ.2.2.1 9) (nI ia).toNatClampNeg (nI jb).toNatClampNeg (nI ma).toNatClampNeg))) := vc_copy (by omega) (fun z => absurd q z) (fun _ _ => vc_copy_01 (by omega) (fun z => absurd z m1) (fun _ _ _ z => absurd g.1 z) (fun _ _ _ _ _ => gd) (fun _ _ _ _ _ => rfl) (fun _ _ _ _ z => absurd g.2 z) (fun _ _ z => absurd z e2) (fun _ z => absurd z m2)) (fun _ z => absurd q2 z)
      rw [cc ia (by omega), cc jb (by omega), cc ma (by omega)] at c
      have m := m_copy_9 (x := x) (ua (ui σ 210 0) 9 (va_cpy (σ.2.2.1 8) (σ.2.2.1 9) ia jb ma)) (kk := 0) (tt := 1) (a := ia) (b := jb) (m := ma) (by omega) (by omega) (by omega) (by omega) n1 n2 e ⟨by have z := g.1; rw [h2.1.2.1] at z; exact z, by have z := g.2; rw [h2.2.1.2.1] at z; exact z⟩
      exact ⟨_, _, _, c, m, ⟨⟨rfl, h1.2⟩, ⟨⟨h2.1.1, h2.1.2.1, h2.1.2.2.1, cpy_oth (b := 1) (k := 0) (by omega) (by decide) h2.1.2.2.2⟩, ⟨h2.2.1.1, h2.2.1.2.1, h2.2.1.2.2.1, cpy_own (a := 0) (b := 1) (by omega) (by omega) h2.1.2.2.2 h2.2.1.2.2.2⟩, ⟨h2.2.2.1.1, h2.2.2.1.2.1, h2.2.2.1.2.2.1, cpy_oth (b := 1) (k := 2) (by omega) (by decide) h2.2.2.1.2.2.2⟩, ⟨h2.2.2.2.1, h2.2.2.2.2.1, h2.2.2.2.2.2.1, cpy_oth (b := 1) (k := 3) (by omega) (by decide) h2.2.2.2.2.2.2⟩⟩, P, ns, nw, nr, hp, hc, hri, hwy, hs, hw, hre, hti⟩⟩
    · have c : mm_Runs 999 i_X6_copy (0, [some (.ref 2), some (.int 0), some (.int i), some (.int 1), some (.int j), some (.int n), none, none], [], HH x σ) (some (.int (-13)), HH x (ui (ui σ 210 0) 210 3)) := vc_copy (by omega) (fun z => absurd q z) (fun _ _ => vc_copy_01 (by omega) (fun z => absurd z m1) (fun _ _ _ _ => rfl) (fun _ _ _ z1 z2 => absurd ⟨z1, z2⟩ g) (fun _ _ _ z1 z2 => absurd ⟨z1, z2⟩ g) (fun _ _ _ _ _ => rfl) (fun _ _ z => absurd z e2) (fun _ z => absurd z m2)) (fun _ z => absurd q2 z)
      have m := m_copy_3 (x := x) (i := i) (j := j) (n := n) (ui (ui σ 210 0) 210 3) (qm _) (qm2 _) ga gb n1 n2 e (fun z => g ⟨by have y := z.1; rw [h2.1.2.1]; exact y, by have y := z.2; rw [h2.2.1.2.1]; exact y⟩)
      exact ⟨_, _, _, c, m, ⟨⟨rfl, h1.2⟩, h2, P, ns, nw, nr, hp, hc, hri, hwy, hs, hw, hre, hti⟩⟩
  · have e2 : p_isOfAnother_5 (ui σ 210 0) (σ.1 402) := ⟨m2, e0⟩
    have e : ¬ σ.2.2.1 38 0 = σ.2.2.1 38 1 := fun z => e0 (b2.symm.trans (z.symm.trans a2))
    have c : mm_Runs 999 i_X6_copy (0, [some (.ref 2), some (.int 0), some (.int i), some (.int 1), some (.int j), some (.int n), none, none], [], HH x σ) (some (.int (-12)), HH x (ui (ui σ 210 0) 210 2)) := vc_copy (by omega) (fun z => absurd q z) (fun _ _ => vc_copy_01 (by omega) (fun z => absurd z m1) (fun _ _ z _  => absurd e2 z) (fun _ _ z _ _  => absurd e2 z) (fun _ _ z _ _  => absurd e2 z) (fun _ _ z _ _  => absurd e2 z) (fun _ _ _ => rfl) (fun _ z => absurd z m2)) (fun _ z => absurd q2 z)
    have m := m_copy_2 (x := x) (i := i) (j := j) (n := n) (ui (ui σ 210 0) 210 2) (qm _) (qm2 _) ga gb n1 n2 e
    exact ⟨_, _, _, c, m, ⟨⟨rfl, h1.2⟩, h2, P, ns, nw, nr, hp, hc, hri, hwy, hs, hw, hre, hti⟩⟩
theorem copy_02 {x : Nat × (Nat → Int32)} {σ : mm_S} {i j n : Int32} (hr : Rel σ) : ∃ (r : Int32) (σ1 σ2 : mm_S), mm_Runs 999 i_X6_copy (0, [some (.ref 2), some (.int 0), some (.int i), some (.int 2), some (.int j), some (.int n), none, none], [], HH x σ) (some (.int r), HH x σ1) ∧ mm_Runs 999 i_X7_copy (0, [some (.ref 37), some (.int 0), some (.int i), some (.int 2), some (.int j), some (.int n), none, none, none, none], [], HH x σ1) (some (.int r), HH x σ2) ∧ Rel σ2 := by
  obtain ⟨h1, h2, P, ns, nw, nr, hp, hc, hri, hwy, hs, hw, hre, hti⟩ := id hr
  have q : p_isSheet (ui σ 210 0) 0 := by unfold p_isSheet; decide
  have q2 : p_isSheet (ui σ 210 0) 2 := by unfold p_isSheet; decide
  have qm : ∀ τ : mm_S, p_m_isSheet (ui τ 3700 0) 0 := fun τ => (sheet_iff (ui τ 3700 0) (ui σ 210 0) 0).mpr q
  have qm2 : ∀ τ : mm_S, p_m_isSheet (ui τ 3700 0) 2 := fun τ => (sheet_iff (ui τ 3700 0) (ui σ 210 0) 2).mpr q2
  have ga : ¬ ((0 : Int32) < 0 ∨ 4 ≤ (0 : Int32).toNatClampNeg) := by decide
  have gb : ¬ ((2 : Int32) < 0 ∨ 4 ≤ (2 : Int32).toNatClampNeg) := by decide
  rcases h2.1.1 with ⟨a1, a2⟩ | ⟨a1, a2, a3⟩
  · have e : σ.1 401 = 0 ∨ σ.1 601 = 0 := Or.inl a1
    have c : mm_Runs 999 i_X6_copy (0, [some (.ref 2), some (.int 0), some (.int i), some (.int 2), some (.int j), some (.int n), none, none], [], HH x σ) (some (.int (-11)), HH x (ui (ui σ 210 0) 210 1)) := vc_copy (by omega) (fun z => absurd q z) (fun _ _ => vc_copy_02 (by omega) (fun _ => rfl) (fun z1 z2 _ _  => e.elim (fun w => absurd w z1) (fun w => absurd w z2)) (fun z1 z2 _ _ _  => e.elim (fun w => absurd w z1) (fun w => absurd w z2)) (fun z1 z2 _ _ _  => e.elim (fun w => absurd w z1) (fun w => absurd w z2)) (fun z1 z2 _ _ _  => e.elim (fun w => absurd w z1) (fun w => absurd w z2)) (fun z1 z2 _  => e.elim (fun w => absurd w z1) (fun w => absurd w z2)) (fun _ _ => rfl)) (fun _ z => absurd q2 z)
    have m := m_copy_1 (x := x) (i := i) (j := j) (n := n) (ui (ui σ 210 0) 210 1) (qm _) (qm2 _) ga gb (Or.inl a2)
    exact ⟨_, _, _, c, m, ⟨⟨rfl, h1.2⟩, h2, P, ns, nw, nr, hp, hc, hri, hwy, hs, hw, hre, hti⟩⟩
  rcases h2.2.2.1.1 with ⟨b1, b2⟩ | ⟨b1, b2, b3⟩
  · have e : σ.1 401 = 0 ∨ σ.1 601 = 0 := Or.inr b1
    have c : mm_Runs 999 i_X6_copy (0, [some (.ref 2), some (.int 0), some (.int i), some (.int 2), some (.int j), some (.int n), none, none], [], HH x σ) (some (.int (-11)), HH x (ui (ui σ 210 0) 210 1)) := vc_copy (by omega) (fun z => absurd q z) (fun _ _ => vc_copy_02 (by omega) (fun _ => rfl) (fun z1 z2 _ _  => e.elim (fun w => absurd w z1) (fun w => absurd w z2)) (fun z1 z2 _ _ _  => e.elim (fun w => absurd w z1) (fun w => absurd w z2)) (fun z1 z2 _ _ _  => e.elim (fun w => absurd w z1) (fun w => absurd w z2)) (fun z1 z2 _ _ _  => e.elim (fun w => absurd w z1) (fun w => absurd w z2)) (fun z1 z2 _  => e.elim (fun w => absurd w z1) (fun w => absurd w z2)) (fun _ _ => rfl)) (fun _ z => absurd q2 z)
    have m := m_copy_1 (x := x) (i := i) (j := j) (n := n) (ui (ui σ 210 0) 210 1) (qm _) (qm2 _) ga gb (Or.inr b2)
    exact ⟨_, _, _, c, m, ⟨⟨rfl, h1.2⟩, h2, P, ns, nw, nr, hp, hc, hri, hwy, hs, hw, hre, hti⟩⟩
  have n1 : ¬ σ.2.2.1 38 0 = -9 := fun z => kd_n9 a3 (a2.symm.trans z)
  have n2 : ¬ σ.2.2.1 38 2 = -9 := fun z => kd_n9 b3 (b2.symm.trans z)
  have m1 : ¬ σ.1 401 = 0 := by rw [a1]; decide
  have m2 : ¬ σ.1 601 = 0 := by rw [b1]; decide
  by_cases e0 : σ.1 602 = σ.1 402
  · have e2 : ¬ p_isOfAnother_6 (ui σ 210 0) (σ.1 402) := fun z => z.2 e0
    have e : σ.2.2.1 38 0 = σ.2.2.1 38 2 := a2.trans (e0.symm.trans b2.symm)
    obtain ⟨la, hla, ela⟩ := h2.1.2.2.1
    obtain ⟨lb, hlb, elb⟩ := h2.2.2.1.2.2.1
    by_cases g : hcp (σ.1 403) i n ∧ hcp (σ.1 603) j n
    · have g1 := g.1
      have g2 := g.2
      rw [ela] at g1
      rw [elb] at g2
      obtain ⟨ia, ma, rfl, rfl, hia⟩ := (hcN hla _ _).mp g1
      obtain ⟨jb, mb, rfl, emb, hjb⟩ := (hcN hlb _ _).mp g2
      have emm : ma = mb := by
        by_cases hh : mb < 2 ^ 31
        · exact (nI_eq (by omega) hh).mp emb
        · omega
      subst emm
      have cc : ∀ u, u ≤ 60 → (nI u).toNatClampNeg = u := fun u hu => nI_clamp (by omega)
      have gd : ¬ (nI ia < 0 ∨ nI jb < 0 ∨ nI ma < 0 ∨ 60 < (nI ia).toNatClampNeg + (nI ma).toNatClampNeg ∨ 60 < (nI jb).toNatClampNeg + (nI ma).toNatClampNeg) := by
        rw [cc ia (by omega), cc jb (by omega), cc ma (by omega)]
        rintro (z | z | z | z | z)
        · exact nI_pos (by omega) z
        · exact nI_pos (by omega) z
        · exact nI_pos (by omega) z
        · omega
        · omega
      have c : mm_Runs 999 i_X6_copy (0, [some (.ref 2), some (.int 0), some (.int (nI ia)), some (.int 2), some (.int (nI jb)), some (.int (nI ma)), none, none], [], HH x σ) (some (.int (nI ma)), HH x (ua (ui σ 210 0) 10 (va_cpy (σ.2.2.1 8) (σ.2.2.1 10) (nI ia).toNatClampNeg (nI jb).toNatClampNeg (nI ma).toNatClampNeg))) := vc_copy (by omega) (fun z => absurd q z) (fun _ _ => vc_copy_02 (by omega) (fun z => absurd z m1) (fun _ _ _ z => absurd g.1 z) (fun _ _ _ _ _ => gd) (fun _ _ _ _ _ => rfl) (fun _ _ _ _ z => absurd g.2 z) (fun _ _ z => absurd z e2) (fun _ z => absurd z m2)) (fun _ z => absurd q2 z)
      rw [cc ia (by omega), cc jb (by omega), cc ma (by omega)] at c
      have m := m_copy_9 (x := x) (ua (ui σ 210 0) 10 (va_cpy (σ.2.2.1 8) (σ.2.2.1 10) ia jb ma)) (kk := 0) (tt := 2) (a := ia) (b := jb) (m := ma) (by omega) (by omega) (by omega) (by omega) n1 n2 e ⟨by have z := g.1; rw [h2.1.2.1] at z; exact z, by have z := g.2; rw [h2.2.2.1.2.1] at z; exact z⟩
      exact ⟨_, _, _, c, m, ⟨⟨rfl, h1.2⟩, ⟨⟨h2.1.1, h2.1.2.1, h2.1.2.2.1, cpy_oth (b := 2) (k := 0) (by omega) (by decide) h2.1.2.2.2⟩, ⟨h2.2.1.1, h2.2.1.2.1, h2.2.1.2.2.1, cpy_oth (b := 2) (k := 1) (by omega) (by decide) h2.2.1.2.2.2⟩, ⟨h2.2.2.1.1, h2.2.2.1.2.1, h2.2.2.1.2.2.1, cpy_own (a := 0) (b := 2) (by omega) (by omega) h2.1.2.2.2 h2.2.2.1.2.2.2⟩, ⟨h2.2.2.2.1, h2.2.2.2.2.1, h2.2.2.2.2.2.1, cpy_oth (b := 2) (k := 3) (by omega) (by decide) h2.2.2.2.2.2.2⟩⟩, P, ns, nw, nr, hp, hc, hri, hwy, hs, hw, hre, hti⟩⟩
    · have c : mm_Runs 999 i_X6_copy (0, [some (.ref 2), some (.int 0), some (.int i), some (.int 2), some (.int j), some (.int n), none, none], [], HH x σ) (some (.int (-13)), HH x (ui (ui σ 210 0) 210 3)) := vc_copy (by omega) (fun z => absurd q z) (fun _ _ => vc_copy_02 (by omega) (fun z => absurd z m1) (fun _ _ _ _ => rfl) (fun _ _ _ z1 z2 => absurd ⟨z1, z2⟩ g) (fun _ _ _ z1 z2 => absurd ⟨z1, z2⟩ g) (fun _ _ _ _ _ => rfl) (fun _ _ z => absurd z e2) (fun _ z => absurd z m2)) (fun _ z => absurd q2 z)
      have m := m_copy_3 (x := x) (i := i) (j := j) (n := n) (ui (ui σ 210 0) 210 3) (qm _) (qm2 _) ga gb n1 n2 e (fun z => g ⟨by have y := z.1; rw [h2.1.2.1]; exact y, by have y := z.2; rw [h2.2.2.1.2.1]; exact y⟩)
      exact ⟨_, _, _, c, m, ⟨⟨rfl, h1.2⟩, h2, P, ns, nw, nr, hp, hc, hri, hwy, hs, hw, hre, hti⟩⟩
  · have e2 : p_isOfAnother_6 (ui σ 210 0) (σ.1 402) := ⟨m2, e0⟩
    have e : ¬ σ.2.2.1 38 0 = σ.2.2.1 38 2 := fun z => e0 (b2.symm.trans (z.symm.trans a2))
    have c : mm_Runs 999 i_X6_copy (0, [some (.ref 2), some (.int 0), some (.int i), some (.int 2), some (.int j), some (.int n), none, none], [], HH x σ) (some (.int (-12)), HH x (ui (ui σ 210 0) 210 2)) := vc_copy (by omega) (fun z => absurd q z) (fun _ _ => vc_copy_02 (by omega) (fun z => absurd z m1) (fun _ _ z _  => absurd e2 z) (fun _ _ z _ _  => absurd e2 z) (fun _ _ z _ _  => absurd e2 z) (fun _ _ z _ _  => absurd e2 z) (fun _ _ _ => rfl) (fun _ z => absurd z m2)) (fun _ z => absurd q2 z)
    have m := m_copy_2 (x := x) (i := i) (j := j) (n := n) (ui (ui σ 210 0) 210 2) (qm _) (qm2 _) ga gb n1 n2 e
    exact ⟨_, _, _, c, m, ⟨⟨rfl, h1.2⟩, h2, P, ns, nw, nr, hp, hc, hri, hwy, hs, hw, hre, hti⟩⟩
theorem copy_03 {x : Nat × (Nat → Int32)} {σ : mm_S} {i j n : Int32} (hr : Rel σ) : ∃ (r : Int32) (σ1 σ2 : mm_S), mm_Runs 999 i_X6_copy (0, [some (.ref 2), some (.int 0), some (.int i), some (.int 3), some (.int j), some (.int n), none, none], [], HH x σ) (some (.int r), HH x σ1) ∧ mm_Runs 999 i_X7_copy (0, [some (.ref 37), some (.int 0), some (.int i), some (.int 3), some (.int j), some (.int n), none, none, none, none], [], HH x σ1) (some (.int r), HH x σ2) ∧ Rel σ2 := by
  obtain ⟨h1, h2, P, ns, nw, nr, hp, hc, hri, hwy, hs, hw, hre, hti⟩ := id hr
  have q : p_isSheet (ui σ 210 0) 0 := by unfold p_isSheet; decide
  have q2 : p_isSheet (ui σ 210 0) 3 := by unfold p_isSheet; decide
  have qm : ∀ τ : mm_S, p_m_isSheet (ui τ 3700 0) 0 := fun τ => (sheet_iff (ui τ 3700 0) (ui σ 210 0) 0).mpr q
  have qm2 : ∀ τ : mm_S, p_m_isSheet (ui τ 3700 0) 3 := fun τ => (sheet_iff (ui τ 3700 0) (ui σ 210 0) 3).mpr q2
  have ga : ¬ ((0 : Int32) < 0 ∨ 4 ≤ (0 : Int32).toNatClampNeg) := by decide
  have gb : ¬ ((3 : Int32) < 0 ∨ 4 ≤ (3 : Int32).toNatClampNeg) := by decide
  rcases h2.1.1 with ⟨a1, a2⟩ | ⟨a1, a2, a3⟩
  · have e : σ.1 401 = 0 ∨ σ.1 701 = 0 := Or.inl a1
    have c : mm_Runs 999 i_X6_copy (0, [some (.ref 2), some (.int 0), some (.int i), some (.int 3), some (.int j), some (.int n), none, none], [], HH x σ) (some (.int (-11)), HH x (ui (ui σ 210 0) 210 1)) := vc_copy (by omega) (fun z => absurd q z) (fun _ _ => vc_copy_03 (by omega) (fun _ => rfl) (fun z1 z2 _ _  => e.elim (fun w => absurd w z1) (fun w => absurd w z2)) (fun z1 z2 _ _ _  => e.elim (fun w => absurd w z1) (fun w => absurd w z2)) (fun z1 z2 _ _ _  => e.elim (fun w => absurd w z1) (fun w => absurd w z2)) (fun z1 z2 _ _ _  => e.elim (fun w => absurd w z1) (fun w => absurd w z2)) (fun z1 z2 _  => e.elim (fun w => absurd w z1) (fun w => absurd w z2)) (fun _ _ => rfl)) (fun _ z => absurd q2 z)
    have m := m_copy_1 (x := x) (i := i) (j := j) (n := n) (ui (ui σ 210 0) 210 1) (qm _) (qm2 _) ga gb (Or.inl a2)
    exact ⟨_, _, _, c, m, ⟨⟨rfl, h1.2⟩, h2, P, ns, nw, nr, hp, hc, hri, hwy, hs, hw, hre, hti⟩⟩
  rcases h2.2.2.2.1 with ⟨b1, b2⟩ | ⟨b1, b2, b3⟩
  · have e : σ.1 401 = 0 ∨ σ.1 701 = 0 := Or.inr b1
    have c : mm_Runs 999 i_X6_copy (0, [some (.ref 2), some (.int 0), some (.int i), some (.int 3), some (.int j), some (.int n), none, none], [], HH x σ) (some (.int (-11)), HH x (ui (ui σ 210 0) 210 1)) := vc_copy (by omega) (fun z => absurd q z) (fun _ _ => vc_copy_03 (by omega) (fun _ => rfl) (fun z1 z2 _ _  => e.elim (fun w => absurd w z1) (fun w => absurd w z2)) (fun z1 z2 _ _ _  => e.elim (fun w => absurd w z1) (fun w => absurd w z2)) (fun z1 z2 _ _ _  => e.elim (fun w => absurd w z1) (fun w => absurd w z2)) (fun z1 z2 _ _ _  => e.elim (fun w => absurd w z1) (fun w => absurd w z2)) (fun z1 z2 _  => e.elim (fun w => absurd w z1) (fun w => absurd w z2)) (fun _ _ => rfl)) (fun _ z => absurd q2 z)
    have m := m_copy_1 (x := x) (i := i) (j := j) (n := n) (ui (ui σ 210 0) 210 1) (qm _) (qm2 _) ga gb (Or.inr b2)
    exact ⟨_, _, _, c, m, ⟨⟨rfl, h1.2⟩, h2, P, ns, nw, nr, hp, hc, hri, hwy, hs, hw, hre, hti⟩⟩
  have n1 : ¬ σ.2.2.1 38 0 = -9 := fun z => kd_n9 a3 (a2.symm.trans z)
  have n2 : ¬ σ.2.2.1 38 3 = -9 := fun z => kd_n9 b3 (b2.symm.trans z)
  have m1 : ¬ σ.1 401 = 0 := by rw [a1]; decide
  have m2 : ¬ σ.1 701 = 0 := by rw [b1]; decide
  by_cases e0 : σ.1 702 = σ.1 402
  · have e2 : ¬ p_isOfAnother_7 (ui σ 210 0) (σ.1 402) := fun z => z.2 e0
    have e : σ.2.2.1 38 0 = σ.2.2.1 38 3 := a2.trans (e0.symm.trans b2.symm)
    obtain ⟨la, hla, ela⟩ := h2.1.2.2.1
    obtain ⟨lb, hlb, elb⟩ := h2.2.2.2.2.2.1
    by_cases g : hcp (σ.1 403) i n ∧ hcp (σ.1 703) j n
    · have g1 := g.1
      have g2 := g.2
      rw [ela] at g1
      rw [elb] at g2
      obtain ⟨ia, ma, rfl, rfl, hia⟩ := (hcN hla _ _).mp g1
      obtain ⟨jb, mb, rfl, emb, hjb⟩ := (hcN hlb _ _).mp g2
      have emm : ma = mb := by
        by_cases hh : mb < 2 ^ 31
        · exact (nI_eq (by omega) hh).mp emb
        · omega
      subst emm
      have cc : ∀ u, u ≤ 60 → (nI u).toNatClampNeg = u := fun u hu => nI_clamp (by omega)
      have gd : ¬ (nI ia < 0 ∨ nI jb < 0 ∨ nI ma < 0 ∨ 60 < (nI ia).toNatClampNeg + (nI ma).toNatClampNeg ∨ 60 < (nI jb).toNatClampNeg + (nI ma).toNatClampNeg) := by
        rw [cc ia (by omega), cc jb (by omega), cc ma (by omega)]
        rintro (z | z | z | z | z)
        · exact nI_pos (by omega) z
        · exact nI_pos (by omega) z
        · exact nI_pos (by omega) z
        · omega
        · omega
      have c : mm_Runs 999 i_X6_copy (0, [some (.ref 2), some (.int 0), some (.int (nI ia)), some (.int 3), some (.int (nI jb)), some (.int (nI ma)), none, none], [], HH x σ) (some (.int (nI ma)), HH x (ua (ui σ 210 0) 11 (va_cpy (σ.2.2.1 8) (σ.2.2.1 11) (nI ia).toNatClampNeg (nI jb).toNatClampNeg (nI ma).toNatClampNeg))) := vc_copy (by omega) (fun z => absurd q z) (fun _ _ => vc_copy_03 (by omega) (fun z => absurd z m1) (fun _ _ _ z => absurd g.1 z) (fun _ _ _ _ _ => gd) (fun _ _ _ _ _ => rfl) (fun _ _ _ _ z => absurd g.2 z) (fun _ _ z => absurd z e2) (fun _ z => absurd z m2)) (fun _ z => absurd q2 z)
      rw [cc ia (by omega), cc jb (by omega), cc ma (by omega)] at c
      have m := m_copy_9 (x := x) (ua (ui σ 210 0) 11 (va_cpy (σ.2.2.1 8) (σ.2.2.1 11) ia jb ma)) (kk := 0) (tt := 3) (a := ia) (b := jb) (m := ma) (by omega) (by omega) (by omega) (by omega) n1 n2 e ⟨by have z := g.1; rw [h2.1.2.1] at z; exact z, by have z := g.2; rw [h2.2.2.2.2.1] at z; exact z⟩
      exact ⟨_, _, _, c, m, ⟨⟨rfl, h1.2⟩, ⟨⟨h2.1.1, h2.1.2.1, h2.1.2.2.1, cpy_oth (b := 3) (k := 0) (by omega) (by decide) h2.1.2.2.2⟩, ⟨h2.2.1.1, h2.2.1.2.1, h2.2.1.2.2.1, cpy_oth (b := 3) (k := 1) (by omega) (by decide) h2.2.1.2.2.2⟩, ⟨h2.2.2.1.1, h2.2.2.1.2.1, h2.2.2.1.2.2.1, cpy_oth (b := 3) (k := 2) (by omega) (by decide) h2.2.2.1.2.2.2⟩, ⟨h2.2.2.2.1, h2.2.2.2.2.1, h2.2.2.2.2.2.1, cpy_own (a := 0) (b := 3) (by omega) (by omega) h2.1.2.2.2 h2.2.2.2.2.2.2⟩⟩, P, ns, nw, nr, hp, hc, hri, hwy, hs, hw, hre, hti⟩⟩
    · have c : mm_Runs 999 i_X6_copy (0, [some (.ref 2), some (.int 0), some (.int i), some (.int 3), some (.int j), some (.int n), none, none], [], HH x σ) (some (.int (-13)), HH x (ui (ui σ 210 0) 210 3)) := vc_copy (by omega) (fun z => absurd q z) (fun _ _ => vc_copy_03 (by omega) (fun z => absurd z m1) (fun _ _ _ _ => rfl) (fun _ _ _ z1 z2 => absurd ⟨z1, z2⟩ g) (fun _ _ _ z1 z2 => absurd ⟨z1, z2⟩ g) (fun _ _ _ _ _ => rfl) (fun _ _ z => absurd z e2) (fun _ z => absurd z m2)) (fun _ z => absurd q2 z)
      have m := m_copy_3 (x := x) (i := i) (j := j) (n := n) (ui (ui σ 210 0) 210 3) (qm _) (qm2 _) ga gb n1 n2 e (fun z => g ⟨by have y := z.1; rw [h2.1.2.1]; exact y, by have y := z.2; rw [h2.2.2.2.2.1]; exact y⟩)
      exact ⟨_, _, _, c, m, ⟨⟨rfl, h1.2⟩, h2, P, ns, nw, nr, hp, hc, hri, hwy, hs, hw, hre, hti⟩⟩
  · have e2 : p_isOfAnother_7 (ui σ 210 0) (σ.1 402) := ⟨m2, e0⟩
    have e : ¬ σ.2.2.1 38 0 = σ.2.2.1 38 3 := fun z => e0 (b2.symm.trans (z.symm.trans a2))
    have c : mm_Runs 999 i_X6_copy (0, [some (.ref 2), some (.int 0), some (.int i), some (.int 3), some (.int j), some (.int n), none, none], [], HH x σ) (some (.int (-12)), HH x (ui (ui σ 210 0) 210 2)) := vc_copy (by omega) (fun z => absurd q z) (fun _ _ => vc_copy_03 (by omega) (fun z => absurd z m1) (fun _ _ z _  => absurd e2 z) (fun _ _ z _ _  => absurd e2 z) (fun _ _ z _ _  => absurd e2 z) (fun _ _ z _ _  => absurd e2 z) (fun _ _ _ => rfl) (fun _ z => absurd z m2)) (fun _ z => absurd q2 z)
    have m := m_copy_2 (x := x) (i := i) (j := j) (n := n) (ui (ui σ 210 0) 210 2) (qm _) (qm2 _) ga gb n1 n2 e
    exact ⟨_, _, _, c, m, ⟨⟨rfl, h1.2⟩, h2, P, ns, nw, nr, hp, hc, hri, hwy, hs, hw, hre, hti⟩⟩
theorem copy_10 {x : Nat × (Nat → Int32)} {σ : mm_S} {i j n : Int32} (hr : Rel σ) : ∃ (r : Int32) (σ1 σ2 : mm_S), mm_Runs 999 i_X6_copy (0, [some (.ref 2), some (.int 1), some (.int i), some (.int 0), some (.int j), some (.int n), none, none], [], HH x σ) (some (.int r), HH x σ1) ∧ mm_Runs 999 i_X7_copy (0, [some (.ref 37), some (.int 1), some (.int i), some (.int 0), some (.int j), some (.int n), none, none, none, none], [], HH x σ1) (some (.int r), HH x σ2) ∧ Rel σ2 := by
  obtain ⟨h1, h2, P, ns, nw, nr, hp, hc, hri, hwy, hs, hw, hre, hti⟩ := id hr
  have q : p_isSheet (ui σ 210 0) 1 := by unfold p_isSheet; decide
  have q2 : p_isSheet (ui σ 210 0) 0 := by unfold p_isSheet; decide
  have qm : ∀ τ : mm_S, p_m_isSheet (ui τ 3700 0) 1 := fun τ => (sheet_iff (ui τ 3700 0) (ui σ 210 0) 1).mpr q
  have qm2 : ∀ τ : mm_S, p_m_isSheet (ui τ 3700 0) 0 := fun τ => (sheet_iff (ui τ 3700 0) (ui σ 210 0) 0).mpr q2
  have ga : ¬ ((1 : Int32) < 0 ∨ 4 ≤ (1 : Int32).toNatClampNeg) := by decide
  have gb : ¬ ((0 : Int32) < 0 ∨ 4 ≤ (0 : Int32).toNatClampNeg) := by decide
  rcases h2.2.1.1 with ⟨a1, a2⟩ | ⟨a1, a2, a3⟩
  · have e : σ.1 501 = 0 ∨ σ.1 401 = 0 := Or.inl a1
    have c : mm_Runs 999 i_X6_copy (0, [some (.ref 2), some (.int 1), some (.int i), some (.int 0), some (.int j), some (.int n), none, none], [], HH x σ) (some (.int (-11)), HH x (ui (ui σ 210 0) 210 1)) := vc_copy (by omega) (fun z => absurd q z) (fun _ _ => vc_copy_10 (by omega) (fun _ => rfl) (fun z1 z2 _ _  => e.elim (fun w => absurd w z1) (fun w => absurd w z2)) (fun z1 z2 _ _ _  => e.elim (fun w => absurd w z1) (fun w => absurd w z2)) (fun z1 z2 _ _ _  => e.elim (fun w => absurd w z1) (fun w => absurd w z2)) (fun z1 z2 _ _ _  => e.elim (fun w => absurd w z1) (fun w => absurd w z2)) (fun z1 z2 _  => e.elim (fun w => absurd w z1) (fun w => absurd w z2)) (fun _ _ => rfl)) (fun _ z => absurd q2 z)
    have m := m_copy_1 (x := x) (i := i) (j := j) (n := n) (ui (ui σ 210 0) 210 1) (qm _) (qm2 _) ga gb (Or.inl a2)
    exact ⟨_, _, _, c, m, ⟨⟨rfl, h1.2⟩, h2, P, ns, nw, nr, hp, hc, hri, hwy, hs, hw, hre, hti⟩⟩
  rcases h2.1.1 with ⟨b1, b2⟩ | ⟨b1, b2, b3⟩
  · have e : σ.1 501 = 0 ∨ σ.1 401 = 0 := Or.inr b1
    have c : mm_Runs 999 i_X6_copy (0, [some (.ref 2), some (.int 1), some (.int i), some (.int 0), some (.int j), some (.int n), none, none], [], HH x σ) (some (.int (-11)), HH x (ui (ui σ 210 0) 210 1)) := vc_copy (by omega) (fun z => absurd q z) (fun _ _ => vc_copy_10 (by omega) (fun _ => rfl) (fun z1 z2 _ _  => e.elim (fun w => absurd w z1) (fun w => absurd w z2)) (fun z1 z2 _ _ _  => e.elim (fun w => absurd w z1) (fun w => absurd w z2)) (fun z1 z2 _ _ _  => e.elim (fun w => absurd w z1) (fun w => absurd w z2)) (fun z1 z2 _ _ _  => e.elim (fun w => absurd w z1) (fun w => absurd w z2)) (fun z1 z2 _  => e.elim (fun w => absurd w z1) (fun w => absurd w z2)) (fun _ _ => rfl)) (fun _ z => absurd q2 z)
    have m := m_copy_1 (x := x) (i := i) (j := j) (n := n) (ui (ui σ 210 0) 210 1) (qm _) (qm2 _) ga gb (Or.inr b2)
    exact ⟨_, _, _, c, m, ⟨⟨rfl, h1.2⟩, h2, P, ns, nw, nr, hp, hc, hri, hwy, hs, hw, hre, hti⟩⟩
  have n1 : ¬ σ.2.2.1 38 1 = -9 := fun z => kd_n9 a3 (a2.symm.trans z)
  have n2 : ¬ σ.2.2.1 38 0 = -9 := fun z => kd_n9 b3 (b2.symm.trans z)
  have m1 : ¬ σ.1 501 = 0 := by rw [a1]; decide
  have m2 : ¬ σ.1 401 = 0 := by rw [b1]; decide
  by_cases e0 : σ.1 402 = σ.1 502
  · have e2 : ¬ p_isOfAnother_4 (ui σ 210 0) (σ.1 502) := fun z => z.2 e0
    have e : σ.2.2.1 38 1 = σ.2.2.1 38 0 := a2.trans (e0.symm.trans b2.symm)
    obtain ⟨la, hla, ela⟩ := h2.2.1.2.2.1
    obtain ⟨lb, hlb, elb⟩ := h2.1.2.2.1
    by_cases g : hcp (σ.1 503) i n ∧ hcp (σ.1 403) j n
    · have g1 := g.1
      have g2 := g.2
      rw [ela] at g1
      rw [elb] at g2
      obtain ⟨ia, ma, rfl, rfl, hia⟩ := (hcN hla _ _).mp g1
      obtain ⟨jb, mb, rfl, emb, hjb⟩ := (hcN hlb _ _).mp g2
      have emm : ma = mb := by
        by_cases hh : mb < 2 ^ 31
        · exact (nI_eq (by omega) hh).mp emb
        · omega
      subst emm
      have cc : ∀ u, u ≤ 60 → (nI u).toNatClampNeg = u := fun u hu => nI_clamp (by omega)
      have gd : ¬ (nI ia < 0 ∨ nI jb < 0 ∨ nI ma < 0 ∨ 60 < (nI ia).toNatClampNeg + (nI ma).toNatClampNeg ∨ 60 < (nI jb).toNatClampNeg + (nI ma).toNatClampNeg) := by
        rw [cc ia (by omega), cc jb (by omega), cc ma (by omega)]
        rintro (z | z | z | z | z)
        · exact nI_pos (by omega) z
        · exact nI_pos (by omega) z
        · exact nI_pos (by omega) z
        · omega
        · omega
      have c : mm_Runs 999 i_X6_copy (0, [some (.ref 2), some (.int 1), some (.int (nI ia)), some (.int 0), some (.int (nI jb)), some (.int (nI ma)), none, none], [], HH x σ) (some (.int (nI ma)), HH x (ua (ui σ 210 0) 8 (va_cpy (σ.2.2.1 9) (σ.2.2.1 8) (nI ia).toNatClampNeg (nI jb).toNatClampNeg (nI ma).toNatClampNeg))) := vc_copy (by omega) (fun z => absurd q z) (fun _ _ => vc_copy_10 (by omega) (fun z => absurd z m1) (fun _ _ _ z => absurd g.1 z) (fun _ _ _ _ _ => gd) (fun _ _ _ _ _ => rfl) (fun _ _ _ _ z => absurd g.2 z) (fun _ _ z => absurd z e2) (fun _ z => absurd z m2)) (fun _ z => absurd q2 z)
      rw [cc ia (by omega), cc jb (by omega), cc ma (by omega)] at c
      have m := m_copy_9 (x := x) (ua (ui σ 210 0) 8 (va_cpy (σ.2.2.1 9) (σ.2.2.1 8) ia jb ma)) (kk := 1) (tt := 0) (a := ia) (b := jb) (m := ma) (by omega) (by omega) (by omega) (by omega) n1 n2 e ⟨by have z := g.1; rw [h2.2.1.2.1] at z; exact z, by have z := g.2; rw [h2.1.2.1] at z; exact z⟩
      exact ⟨_, _, _, c, m, ⟨⟨rfl, h1.2⟩, ⟨⟨h2.1.1, h2.1.2.1, h2.1.2.2.1, cpy_own (a := 1) (b := 0) (by omega) (by omega) h2.2.1.2.2.2 h2.1.2.2.2⟩, ⟨h2.2.1.1, h2.2.1.2.1, h2.2.1.2.2.1, cpy_oth (b := 0) (k := 1) (by omega) (by decide) h2.2.1.2.2.2⟩, ⟨h2.2.2.1.1, h2.2.2.1.2.1, h2.2.2.1.2.2.1, cpy_oth (b := 0) (k := 2) (by omega) (by decide) h2.2.2.1.2.2.2⟩, ⟨h2.2.2.2.1, h2.2.2.2.2.1, h2.2.2.2.2.2.1, cpy_oth (b := 0) (k := 3) (by omega) (by decide) h2.2.2.2.2.2.2⟩⟩, P, ns, nw, nr, hp, hc, hri, hwy, hs, hw, hre, hti⟩⟩
    · have c : mm_Runs 999 i_X6_copy (0, [some (.ref 2), some (.int 1), some (.int i), some (.int 0), some (.int j), some (.int n), none, none], [], HH x σ) (some (.int (-13)), HH x (ui (ui σ 210 0) 210 3)) := vc_copy (by omega) (fun z => absurd q z) (fun _ _ => vc_copy_10 (by omega) (fun z => absurd z m1) (fun _ _ _ _ => rfl) (fun _ _ _ z1 z2 => absurd ⟨z1, z2⟩ g) (fun _ _ _ z1 z2 => absurd ⟨z1, z2⟩ g) (fun _ _ _ _ _ => rfl) (fun _ _ z => absurd z e2) (fun _ z => absurd z m2)) (fun _ z => absurd q2 z)
      have m := m_copy_3 (x := x) (i := i) (j := j) (n := n) (ui (ui σ 210 0) 210 3) (qm _) (qm2 _) ga gb n1 n2 e (fun z => g ⟨by have y := z.1; rw [h2.2.1.2.1]; exact y, by have y := z.2; rw [h2.1.2.1]; exact y⟩)
      exact ⟨_, _, _, c, m, ⟨⟨rfl, h1.2⟩, h2, P, ns, nw, nr, hp, hc, hri, hwy, hs, hw, hre, hti⟩⟩
  · have e2 : p_isOfAnother_4 (ui σ 210 0) (σ.1 502) := ⟨m2, e0⟩
    have e : ¬ σ.2.2.1 38 1 = σ.2.2.1 38 0 := fun z => e0 (b2.symm.trans (z.symm.trans a2))
    have c : mm_Runs 999 i_X6_copy (0, [some (.ref 2), some (.int 1), some (.int i), some (.int 0), some (.int j), some (.int n), none, none], [], HH x σ) (some (.int (-12)), HH x (ui (ui σ 210 0) 210 2)) := vc_copy (by omega) (fun z => absurd q z) (fun _ _ => vc_copy_10 (by omega) (fun z => absurd z m1) (fun _ _ z _  => absurd e2 z) (fun _ _ z _ _  => absurd e2 z) (fun _ _ z _ _  => absurd e2 z) (fun _ _ z _ _  => absurd e2 z) (fun _ _ _ => rfl) (fun _ z => absurd z m2)) (fun _ z => absurd q2 z)
    have m := m_copy_2 (x := x) (i := i) (j := j) (n := n) (ui (ui σ 210 0) 210 2) (qm _) (qm2 _) ga gb n1 n2 e
    exact ⟨_, _, _, c, m, ⟨⟨rfl, h1.2⟩, h2, P, ns, nw, nr, hp, hc, hri, hwy, hs, hw, hre, hti⟩⟩
theorem copy_11 {x : Nat × (Nat → Int32)} {σ : mm_S} {i j n : Int32} (hr : Rel σ) : ∃ (r : Int32) (σ1 σ2 : mm_S), mm_Runs 999 i_X6_copy (0, [some (.ref 2), some (.int 1), some (.int i), some (.int 1), some (.int j), some (.int n), none, none], [], HH x σ) (some (.int r), HH x σ1) ∧ mm_Runs 999 i_X7_copy (0, [some (.ref 37), some (.int 1), some (.int i), some (.int 1), some (.int j), some (.int n), none, none, none, none], [], HH x σ1) (some (.int r), HH x σ2) ∧ Rel σ2 := by
  obtain ⟨h1, h2, P, ns, nw, nr, hp, hc, hri, hwy, hs, hw, hre, hti⟩ := id hr
  have q : p_isSheet (ui σ 210 0) 1 := by unfold p_isSheet; decide
  have q2 : p_isSheet (ui σ 210 0) 1 := by unfold p_isSheet; decide
  have qm : ∀ τ : mm_S, p_m_isSheet (ui τ 3700 0) 1 := fun τ => (sheet_iff (ui τ 3700 0) (ui σ 210 0) 1).mpr q
  have qm2 : ∀ τ : mm_S, p_m_isSheet (ui τ 3700 0) 1 := fun τ => (sheet_iff (ui τ 3700 0) (ui σ 210 0) 1).mpr q2
  have ga : ¬ ((1 : Int32) < 0 ∨ 4 ≤ (1 : Int32).toNatClampNeg) := by decide
  have gb : ¬ ((1 : Int32) < 0 ∨ 4 ≤ (1 : Int32).toNatClampNeg) := by decide
  rcases h2.2.1.1 with ⟨a1, a2⟩ | ⟨a1, a2, a3⟩
  · have e : σ.1 501 = 0 := a1
    have c : mm_Runs 999 i_X6_copy (0, [some (.ref 2), some (.int 1), some (.int i), some (.int 1), some (.int j), some (.int n), none, none], [], HH x σ) (some (.int (-11)), HH x (ui (ui σ 210 0) 210 1)) := vc_copy (by omega) (fun z => absurd q z) (fun _ _ => vc_copy_11 (by omega) (fun _ => rfl) (fun z _ _  => absurd e z) (fun z _ _ _  => absurd e z) (fun z _ _ _  => absurd e z) (fun z _ _ _  => absurd e z) (fun z _  => absurd e z)) (fun _ z => absurd q2 z)
    have m := m_copy_1 (x := x) (i := i) (j := j) (n := n) (ui (ui σ 210 0) 210 1) (qm _) (qm2 _) ga gb (Or.inl a2)
    exact ⟨_, _, _, c, m, ⟨⟨rfl, h1.2⟩, h2, P, ns, nw, nr, hp, hc, hri, hwy, hs, hw, hre, hti⟩⟩
  · have b1 := a1
    have b2 := a2
    have b3 := a3
    have n1 : ¬ σ.2.2.1 38 1 = -9 := fun z => kd_n9 a3 (a2.symm.trans z)
    have n2 : ¬ σ.2.2.1 38 1 = -9 := fun z => kd_n9 b3 (b2.symm.trans z)
    have m1 : ¬ σ.1 501 = 0 := by rw [a1]; decide
    have m2 : ¬ σ.1 501 = 0 := by rw [b1]; decide
    by_cases e0 : σ.1 502 = σ.1 502
    · have e2 : ¬ p_isOfAnother_5 (ui σ 210 0) (σ.1 502) := fun z => z.2 e0
      have e : σ.2.2.1 38 1 = σ.2.2.1 38 1 := a2.trans (e0.symm.trans b2.symm)
      obtain ⟨la, hla, ela⟩ := h2.2.1.2.2.1
      obtain ⟨lb, hlb, elb⟩ := h2.2.1.2.2.1
      by_cases g : hcp (σ.1 503) i n ∧ hcp (σ.1 503) j n
      · have g1 := g.1
        have g2 := g.2
        rw [ela] at g1
        rw [elb] at g2
        obtain ⟨ia, ma, rfl, rfl, hia⟩ := (hcN hla _ _).mp g1
        obtain ⟨jb, mb, rfl, emb, hjb⟩ := (hcN hlb _ _).mp g2
        have emm : ma = mb := by
          by_cases hh : mb < 2 ^ 31
          · exact (nI_eq (by omega) hh).mp emb
          · omega
        subst emm
        have cc : ∀ u, u ≤ 60 → (nI u).toNatClampNeg = u := fun u hu => nI_clamp (by omega)
        have gd : ¬ (nI ia < 0 ∨ nI jb < 0 ∨ nI ma < 0 ∨ 60 < (nI ia).toNatClampNeg + (nI ma).toNatClampNeg ∨ 60 < (nI jb).toNatClampNeg + (nI ma).toNatClampNeg) := by
          rw [cc ia (by omega), cc jb (by omega), cc ma (by omega)]
          rintro (z | z | z | z | z)
          · exact nI_pos (by omega) z
          · exact nI_pos (by omega) z
          · exact nI_pos (by omega) z
          · omega
          · omega
        have c : mm_Runs 999 i_X6_copy (0, [some (.ref 2), some (.int 1), some (.int (nI ia)), some (.int 1), some (.int (nI jb)), some (.int (nI ma)), none, none], [], HH x σ) (some (.int (nI ma)), HH x (ua (ui σ 210 0) 9 (va_cpy (σ.2.2.1 9) (σ.2.2.1 9) (nI ia).toNatClampNeg (nI jb).toNatClampNeg (nI ma).toNatClampNeg))) := vc_copy (by omega) (fun z => absurd q z) (fun _ _ => vc_copy_11 (by omega) (fun z => absurd z m1) (fun _ _ z => absurd g.1 z) (fun _ _ _ _ => gd) (fun _ _ _ _ => rfl) (fun _ _ _ z => absurd g.2 z) (fun _ z => absurd z e2)) (fun _ z => absurd q2 z)
        rw [cc ia (by omega), cc jb (by omega), cc ma (by omega)] at c
        have m := m_copy_9 (x := x) (ua (ui σ 210 0) 9 (va_cpy (σ.2.2.1 9) (σ.2.2.1 9) ia jb ma)) (kk := 1) (tt := 1) (a := ia) (b := jb) (m := ma) (by omega) (by omega) (by omega) (by omega) n1 n2 e ⟨by have z := g.1; rw [h2.2.1.2.1] at z; exact z, by have z := g.2; rw [h2.2.1.2.1] at z; exact z⟩
        exact ⟨_, _, _, c, m, ⟨⟨rfl, h1.2⟩, ⟨⟨h2.1.1, h2.1.2.1, h2.1.2.2.1, cpy_oth (b := 1) (k := 0) (by omega) (by decide) h2.1.2.2.2⟩, ⟨h2.2.1.1, h2.2.1.2.1, h2.2.1.2.2.1, cpy_own (a := 1) (b := 1) (by omega) (by omega) h2.2.1.2.2.2 h2.2.1.2.2.2⟩, ⟨h2.2.2.1.1, h2.2.2.1.2.1, h2.2.2.1.2.2.1, cpy_oth (b := 1) (k := 2) (by omega) (by decide) h2.2.2.1.2.2.2⟩, ⟨h2.2.2.2.1, h2.2.2.2.2.1, h2.2.2.2.2.2.1, cpy_oth (b := 1) (k := 3) (by omega) (by decide) h2.2.2.2.2.2.2⟩⟩, P, ns, nw, nr, hp, hc, hri, hwy, hs, hw, hre, hti⟩⟩
      · have c : mm_Runs 999 i_X6_copy (0, [some (.ref 2), some (.int 1), some (.int i), some (.int 1), some (.int j), some (.int n), none, none], [], HH x σ) (some (.int (-13)), HH x (ui (ui σ 210 0) 210 3)) := vc_copy (by omega) (fun z => absurd q z) (fun _ _ => vc_copy_11 (by omega) (fun z => absurd z m1) (fun _ _ _ => rfl) (fun _ _ z1 z2 => absurd ⟨z1, z2⟩ g) (fun _ _ z1 z2 => absurd ⟨z1, z2⟩ g) (fun _ _ _ _ => rfl) (fun _ z => absurd z e2)) (fun _ z => absurd q2 z)
        have m := m_copy_3 (x := x) (i := i) (j := j) (n := n) (ui (ui σ 210 0) 210 3) (qm _) (qm2 _) ga gb n1 n2 e (fun z => g ⟨by have y := z.1; rw [h2.2.1.2.1]; exact y, by have y := z.2; rw [h2.2.1.2.1]; exact y⟩)
        exact ⟨_, _, _, c, m, ⟨⟨rfl, h1.2⟩, h2, P, ns, nw, nr, hp, hc, hri, hwy, hs, hw, hre, hti⟩⟩
    · have e2 : p_isOfAnother_5 (ui σ 210 0) (σ.1 502) := ⟨m2, e0⟩
      have e : ¬ σ.2.2.1 38 1 = σ.2.2.1 38 1 := fun z => e0 (b2.symm.trans (z.symm.trans a2))
      have c : mm_Runs 999 i_X6_copy (0, [some (.ref 2), some (.int 1), some (.int i), some (.int 1), some (.int j), some (.int n), none, none], [], HH x σ) (some (.int (-12)), HH x (ui (ui σ 210 0) 210 2)) := vc_copy (by omega) (fun z => absurd q z) (fun _ _ => vc_copy_11 (by omega) (fun z => absurd z m1) (fun _ z _  => absurd e2 z) (fun _ z _ _  => absurd e2 z) (fun _ z _ _  => absurd e2 z) (fun _ z _ _  => absurd e2 z) (fun _ _ => rfl)) (fun _ z => absurd q2 z)
      have m := m_copy_2 (x := x) (i := i) (j := j) (n := n) (ui (ui σ 210 0) 210 2) (qm _) (qm2 _) ga gb n1 n2 e
      exact ⟨_, _, _, c, m, ⟨⟨rfl, h1.2⟩, h2, P, ns, nw, nr, hp, hc, hri, hwy, hs, hw, hre, hti⟩⟩
theorem copy_12 {x : Nat × (Nat → Int32)} {σ : mm_S} {i j n : Int32} (hr : Rel σ) : ∃ (r : Int32) (σ1 σ2 : mm_S), mm_Runs 999 i_X6_copy (0, [some (.ref 2), some (.int 1), some (.int i), some (.int 2), some (.int j), some (.int n), none, none], [], HH x σ) (some (.int r), HH x σ1) ∧ mm_Runs 999 i_X7_copy (0, [some (.ref 37), some (.int 1), some (.int i), some (.int 2), some (.int j), some (.int n), none, none, none, none], [], HH x σ1) (some (.int r), HH x σ2) ∧ Rel σ2 := by
  obtain ⟨h1, h2, P, ns, nw, nr, hp, hc, hri, hwy, hs, hw, hre, hti⟩ := id hr
  have q : p_isSheet (ui σ 210 0) 1 := by unfold p_isSheet; decide
  have q2 : p_isSheet (ui σ 210 0) 2 := by unfold p_isSheet; decide
  have qm : ∀ τ : mm_S, p_m_isSheet (ui τ 3700 0) 1 := fun τ => (sheet_iff (ui τ 3700 0) (ui σ 210 0) 1).mpr q
  have qm2 : ∀ τ : mm_S, p_m_isSheet (ui τ 3700 0) 2 := fun τ => (sheet_iff (ui τ 3700 0) (ui σ 210 0) 2).mpr q2
  have ga : ¬ ((1 : Int32) < 0 ∨ 4 ≤ (1 : Int32).toNatClampNeg) := by decide
  have gb : ¬ ((2 : Int32) < 0 ∨ 4 ≤ (2 : Int32).toNatClampNeg) := by decide
  rcases h2.2.1.1 with ⟨a1, a2⟩ | ⟨a1, a2, a3⟩
  · have e : σ.1 501 = 0 ∨ σ.1 601 = 0 := Or.inl a1
    have c : mm_Runs 999 i_X6_copy (0, [some (.ref 2), some (.int 1), some (.int i), some (.int 2), some (.int j), some (.int n), none, none], [], HH x σ) (some (.int (-11)), HH x (ui (ui σ 210 0) 210 1)) := vc_copy (by omega) (fun z => absurd q z) (fun _ _ => vc_copy_12 (by omega) (fun _ => rfl) (fun z1 z2 _ _  => e.elim (fun w => absurd w z1) (fun w => absurd w z2)) (fun z1 z2 _ _ _  => e.elim (fun w => absurd w z1) (fun w => absurd w z2)) (fun z1 z2 _ _ _  => e.elim (fun w => absurd w z1) (fun w => absurd w z2)) (fun z1 z2 _ _ _  => e.elim (fun w => absurd w z1) (fun w => absurd w z2)) (fun z1 z2 _  => e.elim (fun w => absurd w z1) (fun w => absurd w z2)) (fun _ _ => rfl)) (fun _ z => absurd q2 z)
    have m := m_copy_1 (x := x) (i := i) (j := j) (n := n) (ui (ui σ 210 0) 210 1) (qm _) (qm2 _) ga gb (Or.inl a2)
    exact ⟨_, _, _, c, m, ⟨⟨rfl, h1.2⟩, h2, P, ns, nw, nr, hp, hc, hri, hwy, hs, hw, hre, hti⟩⟩
  rcases h2.2.2.1.1 with ⟨b1, b2⟩ | ⟨b1, b2, b3⟩
  · have e : σ.1 501 = 0 ∨ σ.1 601 = 0 := Or.inr b1
    have c : mm_Runs 999 i_X6_copy (0, [some (.ref 2), some (.int 1), some (.int i), some (.int 2), some (.int j), some (.int n), none, none], [], HH x σ) (some (.int (-11)), HH x (ui (ui σ 210 0) 210 1)) := vc_copy (by omega) (fun z => absurd q z) (fun _ _ => vc_copy_12 (by omega) (fun _ => rfl) (fun z1 z2 _ _  => e.elim (fun w => absurd w z1) (fun w => absurd w z2)) (fun z1 z2 _ _ _  => e.elim (fun w => absurd w z1) (fun w => absurd w z2)) (fun z1 z2 _ _ _  => e.elim (fun w => absurd w z1) (fun w => absurd w z2)) (fun z1 z2 _ _ _  => e.elim (fun w => absurd w z1) (fun w => absurd w z2)) (fun z1 z2 _  => e.elim (fun w => absurd w z1) (fun w => absurd w z2)) (fun _ _ => rfl)) (fun _ z => absurd q2 z)
    have m := m_copy_1 (x := x) (i := i) (j := j) (n := n) (ui (ui σ 210 0) 210 1) (qm _) (qm2 _) ga gb (Or.inr b2)
    exact ⟨_, _, _, c, m, ⟨⟨rfl, h1.2⟩, h2, P, ns, nw, nr, hp, hc, hri, hwy, hs, hw, hre, hti⟩⟩
  have n1 : ¬ σ.2.2.1 38 1 = -9 := fun z => kd_n9 a3 (a2.symm.trans z)
  have n2 : ¬ σ.2.2.1 38 2 = -9 := fun z => kd_n9 b3 (b2.symm.trans z)
  have m1 : ¬ σ.1 501 = 0 := by rw [a1]; decide
  have m2 : ¬ σ.1 601 = 0 := by rw [b1]; decide
  by_cases e0 : σ.1 602 = σ.1 502
  · have e2 : ¬ p_isOfAnother_6 (ui σ 210 0) (σ.1 502) := fun z => z.2 e0
    have e : σ.2.2.1 38 1 = σ.2.2.1 38 2 := a2.trans (e0.symm.trans b2.symm)
    obtain ⟨la, hla, ela⟩ := h2.2.1.2.2.1
    obtain ⟨lb, hlb, elb⟩ := h2.2.2.1.2.2.1
    by_cases g : hcp (σ.1 503) i n ∧ hcp (σ.1 603) j n
    · have g1 := g.1
      have g2 := g.2
      rw [ela] at g1
      rw [elb] at g2
      obtain ⟨ia, ma, rfl, rfl, hia⟩ := (hcN hla _ _).mp g1
      obtain ⟨jb, mb, rfl, emb, hjb⟩ := (hcN hlb _ _).mp g2
      have emm : ma = mb := by
        by_cases hh : mb < 2 ^ 31
        · exact (nI_eq (by omega) hh).mp emb
        · omega
      subst emm
      have cc : ∀ u, u ≤ 60 → (nI u).toNatClampNeg = u := fun u hu => nI_clamp (by omega)
      have gd : ¬ (nI ia < 0 ∨ nI jb < 0 ∨ nI ma < 0 ∨ 60 < (nI ia).toNatClampNeg + (nI ma).toNatClampNeg ∨ 60 < (nI jb).toNatClampNeg + (nI ma).toNatClampNeg) := by
        rw [cc ia (by omega), cc jb (by omega), cc ma (by omega)]
        rintro (z | z | z | z | z)
        · exact nI_pos (by omega) z
        · exact nI_pos (by omega) z
        · exact nI_pos (by omega) z
        · omega
        · omega
      have c : mm_Runs 999 i_X6_copy (0, [some (.ref 2), some (.int 1), some (.int (nI ia)), some (.int 2), some (.int (nI jb)), some (.int (nI ma)), none, none], [], HH x σ) (some (.int (nI ma)), HH x (ua (ui σ 210 0) 10 (va_cpy (σ.2.2.1 9) (σ.2.2.1 10) (nI ia).toNatClampNeg (nI jb).toNatClampNeg (nI ma).toNatClampNeg))) := vc_copy (by omega) (fun z => absurd q z) (fun _ _ => vc_copy_12 (by omega) (fun z => absurd z m1) (fun _ _ _ z => absurd g.1 z) (fun _ _ _ _ _ => gd) (fun _ _ _ _ _ => rfl) (fun _ _ _ _ z => absurd g.2 z) (fun _ _ z => absurd z e2) (fun _ z => absurd z m2)) (fun _ z => absurd q2 z)
      rw [cc ia (by omega), cc jb (by omega), cc ma (by omega)] at c
      have m := m_copy_9 (x := x) (ua (ui σ 210 0) 10 (va_cpy (σ.2.2.1 9) (σ.2.2.1 10) ia jb ma)) (kk := 1) (tt := 2) (a := ia) (b := jb) (m := ma) (by omega) (by omega) (by omega) (by omega) n1 n2 e ⟨by have z := g.1; rw [h2.2.1.2.1] at z; exact z, by have z := g.2; rw [h2.2.2.1.2.1] at z; exact z⟩
      exact ⟨_, _, _, c, m, ⟨⟨rfl, h1.2⟩, ⟨⟨h2.1.1, h2.1.2.1, h2.1.2.2.1, cpy_oth (b := 2) (k := 0) (by omega) (by decide) h2.1.2.2.2⟩, ⟨h2.2.1.1, h2.2.1.2.1, h2.2.1.2.2.1, cpy_oth (b := 2) (k := 1) (by omega) (by decide) h2.2.1.2.2.2⟩, ⟨h2.2.2.1.1, h2.2.2.1.2.1, h2.2.2.1.2.2.1, cpy_own (a := 1) (b := 2) (by omega) (by omega) h2.2.1.2.2.2 h2.2.2.1.2.2.2⟩, ⟨h2.2.2.2.1, h2.2.2.2.2.1, h2.2.2.2.2.2.1, cpy_oth (b := 2) (k := 3) (by omega) (by decide) h2.2.2.2.2.2.2⟩⟩, P, ns, nw, nr, hp, hc, hri, hwy, hs, hw, hre, hti⟩⟩
    · have c : mm_Runs 999 i_X6_copy (0, [some (.ref 2), some (.int 1), some (.int i), some (.int 2), some (.int j), some (.int n), none, none], [], HH x σ) (some (.int (-13)), HH x (ui (ui σ 210 0) 210 3)) := vc_copy (by omega) (fun z => absurd q z) (fun _ _ => vc_copy_12 (by omega) (fun z => absurd z m1) (fun _ _ _ _ => rfl) (fun _ _ _ z1 z2 => absurd ⟨z1, z2⟩ g) (fun _ _ _ z1 z2 => absurd ⟨z1, z2⟩ g) (fun _ _ _ _ _ => rfl) (fun _ _ z => absurd z e2) (fun _ z => absurd z m2)) (fun _ z => absurd q2 z)
      have m := m_copy_3 (x := x) (i := i) (j := j) (n := n) (ui (ui σ 210 0) 210 3) (qm _) (qm2 _) ga gb n1 n2 e (fun z => g ⟨by have y := z.1; rw [h2.2.1.2.1]; exact y, by have y := z.2; rw [h2.2.2.1.2.1]; exact y⟩)
      exact ⟨_, _, _, c, m, ⟨⟨rfl, h1.2⟩, h2, P, ns, nw, nr, hp, hc, hri, hwy, hs, hw, hre, hti⟩⟩
  · have e2 : p_isOfAnother_6 (ui σ 210 0) (σ.1 502) := ⟨m2, e0⟩
    have e : ¬ σ.2.2.1 38 1 = σ.2.2.1 38 2 := fun z => e0 (b2.symm.trans (z.symm.trans a2))
    have c : mm_Runs 999 i_X6_copy (0, [some (.ref 2), some (.int 1), some (.int i), some (.int 2), some (.int j), some (.int n), none, none], [], HH x σ) (some (.int (-12)), HH x (ui (ui σ 210 0) 210 2)) := vc_copy (by omega) (fun z => absurd q z) (fun _ _ => vc_copy_12 (by omega) (fun z => absurd z m1) (fun _ _ z _  => absurd e2 z) (fun _ _ z _ _  => absurd e2 z) (fun _ _ z _ _  => absurd e2 z) (fun _ _ z _ _  => absurd e2 z) (fun _ _ _ => rfl) (fun _ z => absurd z m2)) (fun _ z => absurd q2 z)
    have m := m_copy_2 (x := x) (i := i) (j := j) (n := n) (ui (ui σ 210 0) 210 2) (qm _) (qm2 _) ga gb n1 n2 e
    exact ⟨_, _, _, c, m, ⟨⟨rfl, h1.2⟩, h2, P, ns, nw, nr, hp, hc, hri, hwy, hs, hw, hre, hti⟩⟩
theorem copy_13 {x : Nat × (Nat → Int32)} {σ : mm_S} {i j n : Int32} (hr : Rel σ) : ∃ (r : Int32) (σ1 σ2 : mm_S), mm_Runs 999 i_X6_copy (0, [some (.ref 2), some (.int 1), some (.int i), some (.int 3), some (.int j), some (.int n), none, none], [], HH x σ) (some (.int r), HH x σ1) ∧ mm_Runs 999 i_X7_copy (0, [some (.ref 37), some (.int 1), some (.int i), some (.int 3), some (.int j), some (.int n), none, none, none, none], [], HH x σ1) (some (.int r), HH x σ2) ∧ Rel σ2 := by
  obtain ⟨h1, h2, P, ns, nw, nr, hp, hc, hri, hwy, hs, hw, hre, hti⟩ := id hr
  have q : p_isSheet (ui σ 210 0) 1 := by unfold p_isSheet; decide
  have q2 : p_isSheet (ui σ 210 0) 3 := by unfold p_isSheet; decide
  have qm : ∀ τ : mm_S, p_m_isSheet (ui τ 3700 0) 1 := fun τ => (sheet_iff (ui τ 3700 0) (ui σ 210 0) 1).mpr q
  have qm2 : ∀ τ : mm_S, p_m_isSheet (ui τ 3700 0) 3 := fun τ => (sheet_iff (ui τ 3700 0) (ui σ 210 0) 3).mpr q2
  have ga : ¬ ((1 : Int32) < 0 ∨ 4 ≤ (1 : Int32).toNatClampNeg) := by decide
  have gb : ¬ ((3 : Int32) < 0 ∨ 4 ≤ (3 : Int32).toNatClampNeg) := by decide
  rcases h2.2.1.1 with ⟨a1, a2⟩ | ⟨a1, a2, a3⟩
  · have e : σ.1 501 = 0 ∨ σ.1 701 = 0 := Or.inl a1
    have c : mm_Runs 999 i_X6_copy (0, [some (.ref 2), some (.int 1), some (.int i), some (.int 3), some (.int j), some (.int n), none, none], [], HH x σ) (some (.int (-11)), HH x (ui (ui σ 210 0) 210 1)) := vc_copy (by omega) (fun z => absurd q z) (fun _ _ => vc_copy_13 (by omega) (fun _ => rfl) (fun z1 z2 _ _  => e.elim (fun w => absurd w z1) (fun w => absurd w z2)) (fun z1 z2 _ _ _  => e.elim (fun w => absurd w z1) (fun w => absurd w z2)) (fun z1 z2 _ _ _  => e.elim (fun w => absurd w z1) (fun w => absurd w z2)) (fun z1 z2 _ _ _  => e.elim (fun w => absurd w z1) (fun w => absurd w z2)) (fun z1 z2 _  => e.elim (fun w => absurd w z1) (fun w => absurd w z2)) (fun _ _ => rfl)) (fun _ z => absurd q2 z)
    have m := m_copy_1 (x := x) (i := i) (j := j) (n := n) (ui (ui σ 210 0) 210 1) (qm _) (qm2 _) ga gb (Or.inl a2)
    exact ⟨_, _, _, c, m, ⟨⟨rfl, h1.2⟩, h2, P, ns, nw, nr, hp, hc, hri, hwy, hs, hw, hre, hti⟩⟩
  rcases h2.2.2.2.1 with ⟨b1, b2⟩ | ⟨b1, b2, b3⟩
  · have e : σ.1 501 = 0 ∨ σ.1 701 = 0 := Or.inr b1
    have c : mm_Runs 999 i_X6_copy (0, [some (.ref 2), some (.int 1), some (.int i), some (.int 3), some (.int j), some (.int n), none, none], [], HH x σ) (some (.int (-11)), HH x (ui (ui σ 210 0) 210 1)) := vc_copy (by omega) (fun z => absurd q z) (fun _ _ => vc_copy_13 (by omega) (fun _ => rfl) (fun z1 z2 _ _  => e.elim (fun w => absurd w z1) (fun w => absurd w z2)) (fun z1 z2 _ _ _  => e.elim (fun w => absurd w z1) (fun w => absurd w z2)) (fun z1 z2 _ _ _  => e.elim (fun w => absurd w z1) (fun w => absurd w z2)) (fun z1 z2 _ _ _  => e.elim (fun w => absurd w z1) (fun w => absurd w z2)) (fun z1 z2 _  => e.elim (fun w => absurd w z1) (fun w => absurd w z2)) (fun _ _ => rfl)) (fun _ z => absurd q2 z)
    have m := m_copy_1 (x := x) (i := i) (j := j) (n := n) (ui (ui σ 210 0) 210 1) (qm _) (qm2 _) ga gb (Or.inr b2)
    exact ⟨_, _, _, c, m, ⟨⟨rfl, h1.2⟩, h2, P, ns, nw, nr, hp, hc, hri, hwy, hs, hw, hre, hti⟩⟩
  have n1 : ¬ σ.2.2.1 38 1 = -9 := fun z => kd_n9 a3 (a2.symm.trans z)
  have n2 : ¬ σ.2.2.1 38 3 = -9 := fun z => kd_n9 b3 (b2.symm.trans z)
  have m1 : ¬ σ.1 501 = 0 := by rw [a1]; decide
  have m2 : ¬ σ.1 701 = 0 := by rw [b1]; decide
  by_cases e0 : σ.1 702 = σ.1 502
  · have e2 : ¬ p_isOfAnother_7 (ui σ 210 0) (σ.1 502) := fun z => z.2 e0
    have e : σ.2.2.1 38 1 = σ.2.2.1 38 3 := a2.trans (e0.symm.trans b2.symm)
    obtain ⟨la, hla, ela⟩ := h2.2.1.2.2.1
    obtain ⟨lb, hlb, elb⟩ := h2.2.2.2.2.2.1
    by_cases g : hcp (σ.1 503) i n ∧ hcp (σ.1 703) j n
    · have g1 := g.1
      have g2 := g.2
      rw [ela] at g1
      rw [elb] at g2
      obtain ⟨ia, ma, rfl, rfl, hia⟩ := (hcN hla _ _).mp g1
      obtain ⟨jb, mb, rfl, emb, hjb⟩ := (hcN hlb _ _).mp g2
      have emm : ma = mb := by
        by_cases hh : mb < 2 ^ 31
        · exact (nI_eq (by omega) hh).mp emb
        · omega
      subst emm
      have cc : ∀ u, u ≤ 60 → (nI u).toNatClampNeg = u := fun u hu => nI_clamp (by omega)
      have gd : ¬ (nI ia < 0 ∨ nI jb < 0 ∨ nI ma < 0 ∨ 60 < (nI ia).toNatClampNeg + (nI ma).toNatClampNeg ∨ 60 < (nI jb).toNatClampNeg + (nI ma).toNatClampNeg) := by
        rw [cc ia (by omega), cc jb (by omega), cc ma (by omega)]
        rintro (z | z | z | z | z)
        · exact nI_pos (by omega) z
        · exact nI_pos (by omega) z
        · exact nI_pos (by omega) z
        · omega
        · omega
      have c : mm_Runs 999 i_X6_copy (0, [some (.ref 2), some (.int 1), some (.int (nI ia)), some (.int 3), some (.int (nI jb)), some (.int (nI ma)), none, none], [], HH x σ) (some (.int (nI ma)), HH x (ua (ui σ 210 0) 11 (va_cpy (σ.2.2.1 9) (σ.2.2.1 11) (nI ia).toNatClampNeg (nI jb).toNatClampNeg (nI ma).toNatClampNeg))) := vc_copy (by omega) (fun z => absurd q z) (fun _ _ => vc_copy_13 (by omega) (fun z => absurd z m1) (fun _ _ _ z => absurd g.1 z) (fun _ _ _ _ _ => gd) (fun _ _ _ _ _ => rfl) (fun _ _ _ _ z => absurd g.2 z) (fun _ _ z => absurd z e2) (fun _ z => absurd z m2)) (fun _ z => absurd q2 z)
      rw [cc ia (by omega), cc jb (by omega), cc ma (by omega)] at c
      have m := m_copy_9 (x := x) (ua (ui σ 210 0) 11 (va_cpy (σ.2.2.1 9) (σ.2.2.1 11) ia jb ma)) (kk := 1) (tt := 3) (a := ia) (b := jb) (m := ma) (by omega) (by omega) (by omega) (by omega) n1 n2 e ⟨by have z := g.1; rw [h2.2.1.2.1] at z; exact z, by have z := g.2; rw [h2.2.2.2.2.1] at z; exact z⟩
      exact ⟨_, _, _, c, m, ⟨⟨rfl, h1.2⟩, ⟨⟨h2.1.1, h2.1.2.1, h2.1.2.2.1, cpy_oth (b := 3) (k := 0) (by omega) (by decide) h2.1.2.2.2⟩, ⟨h2.2.1.1, h2.2.1.2.1, h2.2.1.2.2.1, cpy_oth (b := 3) (k := 1) (by omega) (by decide) h2.2.1.2.2.2⟩, ⟨h2.2.2.1.1, h2.2.2.1.2.1, h2.2.2.1.2.2.1, cpy_oth (b := 3) (k := 2) (by omega) (by decide) h2.2.2.1.2.2.2⟩, ⟨h2.2.2.2.1, h2.2.2.2.2.1, h2.2.2.2.2.2.1, cpy_own (a := 1) (b := 3) (by omega) (by omega) h2.2.1.2.2.2 h2.2.2.2.2.2.2⟩⟩, P, ns, nw, nr, hp, hc, hri, hwy, hs, hw, hre, hti⟩⟩
    · have c : mm_Runs 999 i_X6_copy (0, [some (.ref 2), some (.int 1), some (.int i), some (.int 3), some (.int j), some (.int n), none, none], [], HH x σ) (some (.int (-13)), HH x (ui (ui σ 210 0) 210 3)) := vc_copy (by omega) (fun z => absurd q z) (fun _ _ => vc_copy_13 (by omega) (fun z => absurd z m1) (fun _ _ _ _ => rfl) (fun _ _ _ z1 z2 => absurd ⟨z1, z2⟩ g) (fun _ _ _ z1 z2 => absurd ⟨z1, z2⟩ g) (fun _ _ _ _ _ => rfl) (fun _ _ z => absurd z e2) (fun _ z => absurd z m2)) (fun _ z => absurd q2 z)
      have m := m_copy_3 (x := x) (i := i) (j := j) (n := n) (ui (ui σ 210 0) 210 3) (qm _) (qm2 _) ga gb n1 n2 e (fun z => g ⟨by have y := z.1; rw [h2.2.1.2.1]; exact y, by have y := z.2; rw [h2.2.2.2.2.1]; exact y⟩)
      exact ⟨_, _, _, c, m, ⟨⟨rfl, h1.2⟩, h2, P, ns, nw, nr, hp, hc, hri, hwy, hs, hw, hre, hti⟩⟩
  · have e2 : p_isOfAnother_7 (ui σ 210 0) (σ.1 502) := ⟨m2, e0⟩
    have e : ¬ σ.2.2.1 38 1 = σ.2.2.1 38 3 := fun z => e0 (b2.symm.trans (z.symm.trans a2))
    have c : mm_Runs 999 i_X6_copy (0, [some (.ref 2), some (.int 1), some (.int i), some (.int 3), some (.int j), some (.int n), none, none], [], HH x σ) (some (.int (-12)), HH x (ui (ui σ 210 0) 210 2)) := vc_copy (by omega) (fun z => absurd q z) (fun _ _ => vc_copy_13 (by omega) (fun z => absurd z m1) (fun _ _ z _  => absurd e2 z) (fun _ _ z _ _  => absurd e2 z) (fun _ _ z _ _  => absurd e2 z) (fun _ _ z _ _  => absurd e2 z) (fun _ _ _ => rfl) (fun _ z => absurd z m2)) (fun _ z => absurd q2 z)
    have m := m_copy_2 (x := x) (i := i) (j := j) (n := n) (ui (ui σ 210 0) 210 2) (qm _) (qm2 _) ga gb n1 n2 e
    exact ⟨_, _, _, c, m, ⟨⟨rfl, h1.2⟩, h2, P, ns, nw, nr, hp, hc, hri, hwy, hs, hw, hre, hti⟩⟩
theorem copy_20 {x : Nat × (Nat → Int32)} {σ : mm_S} {i j n : Int32} (hr : Rel σ) : ∃ (r : Int32) (σ1 σ2 : mm_S), mm_Runs 999 i_X6_copy (0, [some (.ref 2), some (.int 2), some (.int i), some (.int 0), some (.int j), some (.int n), none, none], [], HH x σ) (some (.int r), HH x σ1) ∧ mm_Runs 999 i_X7_copy (0, [some (.ref 37), some (.int 2), some (.int i), some (.int 0), some (.int j), some (.int n), none, none, none, none], [], HH x σ1) (some (.int r), HH x σ2) ∧ Rel σ2 := by
  obtain ⟨h1, h2, P, ns, nw, nr, hp, hc, hri, hwy, hs, hw, hre, hti⟩ := id hr
  have q : p_isSheet (ui σ 210 0) 2 := by unfold p_isSheet; decide
  have q2 : p_isSheet (ui σ 210 0) 0 := by unfold p_isSheet; decide
  have qm : ∀ τ : mm_S, p_m_isSheet (ui τ 3700 0) 2 := fun τ => (sheet_iff (ui τ 3700 0) (ui σ 210 0) 2).mpr q
  have qm2 : ∀ τ : mm_S, p_m_isSheet (ui τ 3700 0) 0 := fun τ => (sheet_iff (ui τ 3700 0) (ui σ 210 0) 0).mpr q2
  have ga : ¬ ((2 : Int32) < 0 ∨ 4 ≤ (2 : Int32).toNatClampNeg) := by decide
  have gb : ¬ ((0 : Int32) < 0 ∨ 4 ≤ (0 : Int32).toNatClampNeg) := by decide
  rcases h2.2.2.1.1 with ⟨a1, a2⟩ | ⟨a1, a2, a3⟩
  · have e : σ.1 601 = 0 ∨ σ.1 401 = 0 := Or.inl a1
    have c : mm_Runs 999 i_X6_copy (0, [some (.ref 2), some (.int 2), some (.int i), some (.int 0), some (.int j), some (.int n), none, none], [], HH x σ) (some (.int (-11)), HH x (ui (ui σ 210 0) 210 1)) := vc_copy (by omega) (fun z => absurd q z) (fun _ _ => vc_copy_20 (by omega) (fun _ => rfl) (fun z1 z2 _ _  => e.elim (fun w => absurd w z1) (fun w => absurd w z2)) (fun z1 z2 _ _ _  => e.elim (fun w => absurd w z1) (fun w => absurd w z2)) (fun z1 z2 _ _ _  => e.elim (fun w => absurd w z1) (fun w => absurd w z2)) (fun z1 z2 _ _ _  => e.elim (fun w => absurd w z1) (fun w => absurd w z2)) (fun z1 z2 _  => e.elim (fun w => absurd w z1) (fun w => absurd w z2)) (fun _ _ => rfl)) (fun _ z => absurd q2 z)
    have m := m_copy_1 (x := x) (i := i) (j := j) (n := n) (ui (ui σ 210 0) 210 1) (qm _) (qm2 _) ga gb (Or.inl a2)
    exact ⟨_, _, _, c, m, ⟨⟨rfl, h1.2⟩, h2, P, ns, nw, nr, hp, hc, hri, hwy, hs, hw, hre, hti⟩⟩
  rcases h2.1.1 with ⟨b1, b2⟩ | ⟨b1, b2, b3⟩
  · have e : σ.1 601 = 0 ∨ σ.1 401 = 0 := Or.inr b1
    have c : mm_Runs 999 i_X6_copy (0, [some (.ref 2), some (.int 2), some (.int i), some (.int 0), some (.int j), some (.int n), none, none], [], HH x σ) (some (.int (-11)), HH x (ui (ui σ 210 0) 210 1)) := vc_copy (by omega) (fun z => absurd q z) (fun _ _ => vc_copy_20 (by omega) (fun _ => rfl) (fun z1 z2 _ _  => e.elim (fun w => absurd w z1) (fun w => absurd w z2)) (fun z1 z2 _ _ _  => e.elim (fun w => absurd w z1) (fun w => absurd w z2)) (fun z1 z2 _ _ _  => e.elim (fun w => absurd w z1) (fun w => absurd w z2)) (fun z1 z2 _ _ _  => e.elim (fun w => absurd w z1) (fun w => absurd w z2)) (fun z1 z2 _  => e.elim (fun w => absurd w z1) (fun w => absurd w z2)) (fun _ _ => rfl)) (fun _ z => absurd q2 z)
    have m := m_copy_1 (x := x) (i := i) (j := j) (n := n) (ui (ui σ 210 0) 210 1) (qm _) (qm2 _) ga gb (Or.inr b2)
    exact ⟨_, _, _, c, m, ⟨⟨rfl, h1.2⟩, h2, P, ns, nw, nr, hp, hc, hri, hwy, hs, hw, hre, hti⟩⟩
  have n1 : ¬ σ.2.2.1 38 2 = -9 := fun z => kd_n9 a3 (a2.symm.trans z)
  have n2 : ¬ σ.2.2.1 38 0 = -9 := fun z => kd_n9 b3 (b2.symm.trans z)
  have m1 : ¬ σ.1 601 = 0 := by rw [a1]; decide
  have m2 : ¬ σ.1 401 = 0 := by rw [b1]; decide
  by_cases e0 : σ.1 402 = σ.1 602
  · have e2 : ¬ p_isOfAnother_4 (ui σ 210 0) (σ.1 602) := fun z => z.2 e0
    have e : σ.2.2.1 38 2 = σ.2.2.1 38 0 := a2.trans (e0.symm.trans b2.symm)
    obtain ⟨la, hla, ela⟩ := h2.2.2.1.2.2.1
    obtain ⟨lb, hlb, elb⟩ := h2.1.2.2.1
    by_cases g : hcp (σ.1 603) i n ∧ hcp (σ.1 403) j n
    · have g1 := g.1
      have g2 := g.2
      rw [ela] at g1
      rw [elb] at g2
      obtain ⟨ia, ma, rfl, rfl, hia⟩ := (hcN hla _ _).mp g1
      obtain ⟨jb, mb, rfl, emb, hjb⟩ := (hcN hlb _ _).mp g2
      have emm : ma = mb := by
        by_cases hh : mb < 2 ^ 31
        · exact (nI_eq (by omega) hh).mp emb
        · omega
      subst emm
      have cc : ∀ u, u ≤ 60 → (nI u).toNatClampNeg = u := fun u hu => nI_clamp (by omega)
      have gd : ¬ (nI ia < 0 ∨ nI jb < 0 ∨ nI ma < 0 ∨ 60 < (nI ia).toNatClampNeg + (nI ma).toNatClampNeg ∨ 60 < (nI jb).toNatClampNeg + (nI ma).toNatClampNeg) := by
        rw [cc ia (by omega), cc jb (by omega), cc ma (by omega)]
        rintro (z | z | z | z | z)
        · exact nI_pos (by omega) z
        · exact nI_pos (by omega) z
        · exact nI_pos (by omega) z
        · omega
        · omega
      have c : mm_Runs 999 i_X6_copy (0, [some (.ref 2), some (.int 2), some (.int (nI ia)), some (.int 0), some (.int (nI jb)), some (.int (nI ma)), none, none], [], HH x σ) (some (.int (nI ma)), HH x (ua (ui σ 210 0) 8 (va_cpy (σ.2.2.1 10) (σ.2.2.1 8) (nI ia).toNatClampNeg (nI jb).toNatClampNeg (nI ma).toNatClampNeg))) := vc_copy (by omega) (fun z => absurd q z) (fun _ _ => vc_copy_20 (by omega) (fun z => absurd z m1) (fun _ _ _ z => absurd g.1 z) (fun _ _ _ _ _ => gd) (fun _ _ _ _ _ => rfl) (fun _ _ _ _ z => absurd g.2 z) (fun _ _ z => absurd z e2) (fun _ z => absurd z m2)) (fun _ z => absurd q2 z)
      rw [cc ia (by omega), cc jb (by omega), cc ma (by omega)] at c
      have m := m_copy_9 (x := x) (ua (ui σ 210 0) 8 (va_cpy (σ.2.2.1 10) (σ.2.2.1 8) ia jb ma)) (kk := 2) (tt := 0) (a := ia) (b := jb) (m := ma) (by omega) (by omega) (by omega) (by omega) n1 n2 e ⟨by have z := g.1; rw [h2.2.2.1.2.1] at z; exact z, by have z := g.2; rw [h2.1.2.1] at z; exact z⟩
      exact ⟨_, _, _, c, m, ⟨⟨rfl, h1.2⟩, ⟨⟨h2.1.1, h2.1.2.1, h2.1.2.2.1, cpy_own (a := 2) (b := 0) (by omega) (by omega) h2.2.2.1.2.2.2 h2.1.2.2.2⟩, ⟨h2.2.1.1, h2.2.1.2.1, h2.2.1.2.2.1, cpy_oth (b := 0) (k := 1) (by omega) (by decide) h2.2.1.2.2.2⟩, ⟨h2.2.2.1.1, h2.2.2.1.2.1, h2.2.2.1.2.2.1, cpy_oth (b := 0) (k := 2) (by omega) (by decide) h2.2.2.1.2.2.2⟩, ⟨h2.2.2.2.1, h2.2.2.2.2.1, h2.2.2.2.2.2.1, cpy_oth (b := 0) (k := 3) (by omega) (by decide) h2.2.2.2.2.2.2⟩⟩, P, ns, nw, nr, hp, hc, hri, hwy, hs, hw, hre, hti⟩⟩
    · have c : mm_Runs 999 i_X6_copy (0, [some (.ref 2), some (.int 2), some (.int i), some (.int 0), some (.int j), some (.int n), none, none], [], HH x σ) (some (.int (-13)), HH x (ui (ui σ 210 0) 210 3)) := vc_copy (by omega) (fun z => absurd q z) (fun _ _ => vc_copy_20 (by omega) (fun z => absurd z m1) (fun _ _ _ _ => rfl) (fun _ _ _ z1 z2 => absurd ⟨z1, z2⟩ g) (fun _ _ _ z1 z2 => absurd ⟨z1, z2⟩ g) (fun _ _ _ _ _ => rfl) (fun _ _ z => absurd z e2) (fun _ z => absurd z m2)) (fun _ z => absurd q2 z)
      have m := m_copy_3 (x := x) (i := i) (j := j) (n := n) (ui (ui σ 210 0) 210 3) (qm _) (qm2 _) ga gb n1 n2 e (fun z => g ⟨by have y := z.1; rw [h2.2.2.1.2.1]; exact y, by have y := z.2; rw [h2.1.2.1]; exact y⟩)
      exact ⟨_, _, _, c, m, ⟨⟨rfl, h1.2⟩, h2, P, ns, nw, nr, hp, hc, hri, hwy, hs, hw, hre, hti⟩⟩
  · have e2 : p_isOfAnother_4 (ui σ 210 0) (σ.1 602) := ⟨m2, e0⟩
    have e : ¬ σ.2.2.1 38 2 = σ.2.2.1 38 0 := fun z => e0 (b2.symm.trans (z.symm.trans a2))
    have c : mm_Runs 999 i_X6_copy (0, [some (.ref 2), some (.int 2), some (.int i), some (.int 0), some (.int j), some (.int n), none, none], [], HH x σ) (some (.int (-12)), HH x (ui (ui σ 210 0) 210 2)) := vc_copy (by omega) (fun z => absurd q z) (fun _ _ => vc_copy_20 (by omega) (fun z => absurd z m1) (fun _ _ z _  => absurd e2 z) (fun _ _ z _ _  => absurd e2 z) (fun _ _ z _ _  => absurd e2 z) (fun _ _ z _ _  => absurd e2 z) (fun _ _ _ => rfl) (fun _ z => absurd z m2)) (fun _ z => absurd q2 z)
    have m := m_copy_2 (x := x) (i := i) (j := j) (n := n) (ui (ui σ 210 0) 210 2) (qm _) (qm2 _) ga gb n1 n2 e
    exact ⟨_, _, _, c, m, ⟨⟨rfl, h1.2⟩, h2, P, ns, nw, nr, hp, hc, hri, hwy, hs, hw, hre, hti⟩⟩
theorem copy_21 {x : Nat × (Nat → Int32)} {σ : mm_S} {i j n : Int32} (hr : Rel σ) : ∃ (r : Int32) (σ1 σ2 : mm_S), mm_Runs 999 i_X6_copy (0, [some (.ref 2), some (.int 2), some (.int i), some (.int 1), some (.int j), some (.int n), none, none], [], HH x σ) (some (.int r), HH x σ1) ∧ mm_Runs 999 i_X7_copy (0, [some (.ref 37), some (.int 2), some (.int i), some (.int 1), some (.int j), some (.int n), none, none, none, none], [], HH x σ1) (some (.int r), HH x σ2) ∧ Rel σ2 := by
  obtain ⟨h1, h2, P, ns, nw, nr, hp, hc, hri, hwy, hs, hw, hre, hti⟩ := id hr
  have q : p_isSheet (ui σ 210 0) 2 := by unfold p_isSheet; decide
  have q2 : p_isSheet (ui σ 210 0) 1 := by unfold p_isSheet; decide
  have qm : ∀ τ : mm_S, p_m_isSheet (ui τ 3700 0) 2 := fun τ => (sheet_iff (ui τ 3700 0) (ui σ 210 0) 2).mpr q
  have qm2 : ∀ τ : mm_S, p_m_isSheet (ui τ 3700 0) 1 := fun τ => (sheet_iff (ui τ 3700 0) (ui σ 210 0) 1).mpr q2
  have ga : ¬ ((2 : Int32) < 0 ∨ 4 ≤ (2 : Int32).toNatClampNeg) := by decide
  have gb : ¬ ((1 : Int32) < 0 ∨ 4 ≤ (1 : Int32).toNatClampNeg) := by decide
  rcases h2.2.2.1.1 with ⟨a1, a2⟩ | ⟨a1, a2, a3⟩
  · have e : σ.1 601 = 0 ∨ σ.1 501 = 0 := Or.inl a1
    have c : mm_Runs 999 i_X6_copy (0, [some (.ref 2), some (.int 2), some (.int i), some (.int 1), some (.int j), some (.int n), none, none], [], HH x σ) (some (.int (-11)), HH x (ui (ui σ 210 0) 210 1)) := vc_copy (by omega) (fun z => absurd q z) (fun _ _ => vc_copy_21 (by omega) (fun _ => rfl) (fun z1 z2 _ _  => e.elim (fun w => absurd w z1) (fun w => absurd w z2)) (fun z1 z2 _ _ _  => e.elim (fun w => absurd w z1) (fun w => absurd w z2)) (fun z1 z2 _ _ _  => e.elim (fun w => absurd w z1) (fun w => absurd w z2)) (fun z1 z2 _ _ _  => e.elim (fun w => absurd w z1) (fun w => absurd w z2)) (fun z1 z2 _  => e.elim (fun w => absurd w z1) (fun w => absurd w z2)) (fun _ _ => rfl)) (fun _ z => absurd q2 z)
    have m := m_copy_1 (x := x) (i := i) (j := j) (n := n) (ui (ui σ 210 0) 210 1) (qm _) (qm2 _) ga gb (Or.inl a2)
    exact ⟨_, _, _, c, m, ⟨⟨rfl, h1.2⟩, h2, P, ns, nw, nr, hp, hc, hri, hwy, hs, hw, hre, hti⟩⟩
  rcases h2.2.1.1 with ⟨b1, b2⟩ | ⟨b1, b2, b3⟩
  · have e : σ.1 601 = 0 ∨ σ.1 501 = 0 := Or.inr b1
    have c : mm_Runs 999 i_X6_copy (0, [some (.ref 2), some (.int 2), some (.int i), some (.int 1), some (.int j), some (.int n), none, none], [], HH x σ) (some (.int (-11)), HH x (ui (ui σ 210 0) 210 1)) := vc_copy (by omega) (fun z => absurd q z) (fun _ _ => vc_copy_21 (by omega) (fun _ => rfl) (fun z1 z2 _ _  => e.elim (fun w => absurd w z1) (fun w => absurd w z2)) (fun z1 z2 _ _ _  => e.elim (fun w => absurd w z1) (fun w => absurd w z2)) (fun z1 z2 _ _ _  => e.elim (fun w => absurd w z1) (fun w => absurd w z2)) (fun z1 z2 _ _ _  => e.elim (fun w => absurd w z1) (fun w => absurd w z2)) (fun z1 z2 _  => e.elim (fun w => absurd w z1) (fun w => absurd w z2)) (fun _ _ => rfl)) (fun _ z => absurd q2 z)
    have m := m_copy_1 (x := x) (i := i) (j := j) (n := n) (ui (ui σ 210 0) 210 1) (qm _) (qm2 _) ga gb (Or.inr b2)
    exact ⟨_, _, _, c, m, ⟨⟨rfl, h1.2⟩, h2, P, ns, nw, nr, hp, hc, hri, hwy, hs, hw, hre, hti⟩⟩
  have n1 : ¬ σ.2.2.1 38 2 = -9 := fun z => kd_n9 a3 (a2.symm.trans z)
  have n2 : ¬ σ.2.2.1 38 1 = -9 := fun z => kd_n9 b3 (b2.symm.trans z)
  have m1 : ¬ σ.1 601 = 0 := by rw [a1]; decide
  have m2 : ¬ σ.1 501 = 0 := by rw [b1]; decide
  by_cases e0 : σ.1 502 = σ.1 602
  · have e2 : ¬ p_isOfAnother_5 (ui σ 210 0) (σ.1 602) := fun z => z.2 e0
    have e : σ.2.2.1 38 2 = σ.2.2.1 38 1 := a2.trans (e0.symm.trans b2.symm)
    obtain ⟨la, hla, ela⟩ := h2.2.2.1.2.2.1
    obtain ⟨lb, hlb, elb⟩ := h2.2.1.2.2.1
    by_cases g : hcp (σ.1 603) i n ∧ hcp (σ.1 503) j n
    · have g1 := g.1
      have g2 := g.2
      rw [ela] at g1
      rw [elb] at g2
      obtain ⟨ia, ma, rfl, rfl, hia⟩ := (hcN hla _ _).mp g1
      obtain ⟨jb, mb, rfl, emb, hjb⟩ := (hcN hlb _ _).mp g2
      have emm : ma = mb := by
        by_cases hh : mb < 2 ^ 31
        · exact (nI_eq (by omega) hh).mp emb
        · omega
      subst emm
      have cc : ∀ u, u ≤ 60 → (nI u).toNatClampNeg = u := fun u hu => nI_clamp (by omega)
      have gd : ¬ (nI ia < 0 ∨ nI jb < 0 ∨ nI ma < 0 ∨ 60 < (nI ia).toNatClampNeg + (nI ma).toNatClampNeg ∨ 60 < (nI jb).toNatClampNeg + (nI ma).toNatClampNeg) := by
        rw [cc ia (by omega), cc jb (by omega), cc ma (by omega)]
        rintro (z | z | z | z | z)
        · exact nI_pos (by omega) z
        · exact nI_pos (by omega) z
        · exact nI_pos (by omega) z
        · omega
        · omega
      have c : mm_Runs 999 i_X6_copy (0, [some (.ref 2), some (.int 2), some (.int (nI ia)), some (.int 1), some (.int (nI jb)), some (.int (nI ma)), none, none], [], HH x σ) (some (.int (nI ma)), HH x (ua (ui σ 210 0) 9 (va_cpy (σ.2.2.1 10) (σ.2.2.1 9) (nI ia).toNatClampNeg (nI jb).toNatClampNeg (nI ma).toNatClampNeg))) := vc_copy (by omega) (fun z => absurd q z) (fun _ _ => vc_copy_21 (by omega) (fun z => absurd z m1) (fun _ _ _ z => absurd g.1 z) (fun _ _ _ _ _ => gd) (fun _ _ _ _ _ => rfl) (fun _ _ _ _ z => absurd g.2 z) (fun _ _ z => absurd z e2) (fun _ z => absurd z m2)) (fun _ z => absurd q2 z)
      rw [cc ia (by omega), cc jb (by omega), cc ma (by omega)] at c
      have m := m_copy_9 (x := x) (ua (ui σ 210 0) 9 (va_cpy (σ.2.2.1 10) (σ.2.2.1 9) ia jb ma)) (kk := 2) (tt := 1) (a := ia) (b := jb) (m := ma) (by omega) (by omega) (by omega) (by omega) n1 n2 e ⟨by have z := g.1; rw [h2.2.2.1.2.1] at z; exact z, by have z := g.2; rw [h2.2.1.2.1] at z; exact z⟩
      exact ⟨_, _, _, c, m, ⟨⟨rfl, h1.2⟩, ⟨⟨h2.1.1, h2.1.2.1, h2.1.2.2.1, cpy_oth (b := 1) (k := 0) (by omega) (by decide) h2.1.2.2.2⟩, ⟨h2.2.1.1, h2.2.1.2.1, h2.2.1.2.2.1, cpy_own (a := 2) (b := 1) (by omega) (by omega) h2.2.2.1.2.2.2 h2.2.1.2.2.2⟩, ⟨h2.2.2.1.1, h2.2.2.1.2.1, h2.2.2.1.2.2.1, cpy_oth (b := 1) (k := 2) (by omega) (by decide) h2.2.2.1.2.2.2⟩, ⟨h2.2.2.2.1, h2.2.2.2.2.1, h2.2.2.2.2.2.1, cpy_oth (b := 1) (k := 3) (by omega) (by decide) h2.2.2.2.2.2.2⟩⟩, P, ns, nw, nr, hp, hc, hri, hwy, hs, hw, hre, hti⟩⟩
    · have c : mm_Runs 999 i_X6_copy (0, [some (.ref 2), some (.int 2), some (.int i), some (.int 1), some (.int j), some (.int n), none, none], [], HH x σ) (some (.int (-13)), HH x (ui (ui σ 210 0) 210 3)) := vc_copy (by omega) (fun z => absurd q z) (fun _ _ => vc_copy_21 (by omega) (fun z => absurd z m1) (fun _ _ _ _ => rfl) (fun _ _ _ z1 z2 => absurd ⟨z1, z2⟩ g) (fun _ _ _ z1 z2 => absurd ⟨z1, z2⟩ g) (fun _ _ _ _ _ => rfl) (fun _ _ z => absurd z e2) (fun _ z => absurd z m2)) (fun _ z => absurd q2 z)
      have m := m_copy_3 (x := x) (i := i) (j := j) (n := n) (ui (ui σ 210 0) 210 3) (qm _) (qm2 _) ga gb n1 n2 e (fun z => g ⟨by have y := z.1; rw [h2.2.2.1.2.1]; exact y, by have y := z.2; rw [h2.2.1.2.1]; exact y⟩)
      exact ⟨_, _, _, c, m, ⟨⟨rfl, h1.2⟩, h2, P, ns, nw, nr, hp, hc, hri, hwy, hs, hw, hre, hti⟩⟩
  · have e2 : p_isOfAnother_5 (ui σ 210 0) (σ.1 602) := ⟨m2, e0⟩
    have e : ¬ σ.2.2.1 38 2 = σ.2.2.1 38 1 := fun z => e0 (b2.symm.trans (z.symm.trans a2))
    have c : mm_Runs 999 i_X6_copy (0, [some (.ref 2), some (.int 2), some (.int i), some (.int 1), some (.int j), some (.int n), none, none], [], HH x σ) (some (.int (-12)), HH x (ui (ui σ 210 0) 210 2)) := vc_copy (by omega) (fun z => absurd q z) (fun _ _ => vc_copy_21 (by omega) (fun z => absurd z m1) (fun _ _ z _  => absurd e2 z) (fun _ _ z _ _  => absurd e2 z) (fun _ _ z _ _  => absurd e2 z) (fun _ _ z _ _  => absurd e2 z) (fun _ _ _ => rfl) (fun _ z => absurd z m2)) (fun _ z => absurd q2 z)
    have m := m_copy_2 (x := x) (i := i) (j := j) (n := n) (ui (ui σ 210 0) 210 2) (qm _) (qm2 _) ga gb n1 n2 e
    exact ⟨_, _, _, c, m, ⟨⟨rfl, h1.2⟩, h2, P, ns, nw, nr, hp, hc, hri, hwy, hs, hw, hre, hti⟩⟩
theorem copy_22 {x : Nat × (Nat → Int32)} {σ : mm_S} {i j n : Int32} (hr : Rel σ) : ∃ (r : Int32) (σ1 σ2 : mm_S), mm_Runs 999 i_X6_copy (0, [some (.ref 2), some (.int 2), some (.int i), some (.int 2), some (.int j), some (.int n), none, none], [], HH x σ) (some (.int r), HH x σ1) ∧ mm_Runs 999 i_X7_copy (0, [some (.ref 37), some (.int 2), some (.int i), some (.int 2), some (.int j), some (.int n), none, none, none, none], [], HH x σ1) (some (.int r), HH x σ2) ∧ Rel σ2 := by
  obtain ⟨h1, h2, P, ns, nw, nr, hp, hc, hri, hwy, hs, hw, hre, hti⟩ := id hr
  have q : p_isSheet (ui σ 210 0) 2 := by unfold p_isSheet; decide
  have q2 : p_isSheet (ui σ 210 0) 2 := by unfold p_isSheet; decide
  have qm : ∀ τ : mm_S, p_m_isSheet (ui τ 3700 0) 2 := fun τ => (sheet_iff (ui τ 3700 0) (ui σ 210 0) 2).mpr q
  have qm2 : ∀ τ : mm_S, p_m_isSheet (ui τ 3700 0) 2 := fun τ => (sheet_iff (ui τ 3700 0) (ui σ 210 0) 2).mpr q2
  have ga : ¬ ((2 : Int32) < 0 ∨ 4 ≤ (2 : Int32).toNatClampNeg) := by decide
  have gb : ¬ ((2 : Int32) < 0 ∨ 4 ≤ (2 : Int32).toNatClampNeg) := by decide
  rcases h2.2.2.1.1 with ⟨a1, a2⟩ | ⟨a1, a2, a3⟩
  · have e : σ.1 601 = 0 := a1
    have c : mm_Runs 999 i_X6_copy (0, [some (.ref 2), some (.int 2), some (.int i), some (.int 2), some (.int j), some (.int n), none, none], [], HH x σ) (some (.int (-11)), HH x (ui (ui σ 210 0) 210 1)) := vc_copy (by omega) (fun z => absurd q z) (fun _ _ => vc_copy_22 (by omega) (fun _ => rfl) (fun z _ _  => absurd e z) (fun z _ _ _  => absurd e z) (fun z _ _ _  => absurd e z) (fun z _ _ _  => absurd e z) (fun z _  => absurd e z)) (fun _ z => absurd q2 z)
    have m := m_copy_1 (x := x) (i := i) (j := j) (n := n) (ui (ui σ 210 0) 210 1) (qm _) (qm2 _) ga gb (Or.inl a2)
    exact ⟨_, _, _, c, m, ⟨⟨rfl, h1.2⟩, h2, P, ns, nw, nr, hp, hc, hri, hwy, hs, hw, hre, hti⟩⟩
  · have b1 := a1
    have b2 := a2
    have b3 := a3
    have n1 : ¬ σ.2.2.1 38 2 = -9 := fun z => kd_n9 a3 (a2.symm.trans z)
    have n2 : ¬ σ.2.2.1 38 2 = -9 := fun z => kd_n9 b3 (b2.symm.trans z)
    have m1 : ¬ σ.1 601 = 0 := by rw [a1]; decide
    have m2 : ¬ σ.1 601 = 0 := by rw [b1]; decide
    by_cases e0 : σ.1 602 = σ.1 602
    · have e2 : ¬ p_isOfAnother_6 (ui σ 210 0) (σ.1 602) := fun z => z.2 e0
      have e : σ.2.2.1 38 2 = σ.2.2.1 38 2 := a2.trans (e0.symm.trans b2.symm)
      obtain ⟨la, hla, ela⟩ := h2.2.2.1.2.2.1
      obtain ⟨lb, hlb, elb⟩ := h2.2.2.1.2.2.1
      by_cases g : hcp (σ.1 603) i n ∧ hcp (σ.1 603) j n
      · have g1 := g.1
        have g2 := g.2
        rw [ela] at g1
        rw [elb] at g2
        obtain ⟨ia, ma, rfl, rfl, hia⟩ := (hcN hla _ _).mp g1
        obtain ⟨jb, mb, rfl, emb, hjb⟩ := (hcN hlb _ _).mp g2
        have emm : ma = mb := by
          by_cases hh : mb < 2 ^ 31
          · exact (nI_eq (by omega) hh).mp emb
          · omega
        subst emm
        have cc : ∀ u, u ≤ 60 → (nI u).toNatClampNeg = u := fun u hu => nI_clamp (by omega)
        have gd : ¬ (nI ia < 0 ∨ nI jb < 0 ∨ nI ma < 0 ∨ 60 < (nI ia).toNatClampNeg + (nI ma).toNatClampNeg ∨ 60 < (nI jb).toNatClampNeg + (nI ma).toNatClampNeg) := by
          rw [cc ia (by omega), cc jb (by omega), cc ma (by omega)]
          rintro (z | z | z | z | z)
          · exact nI_pos (by omega) z
          · exact nI_pos (by omega) z
          · exact nI_pos (by omega) z
          · omega
          · omega
        have c : mm_Runs 999 i_X6_copy (0, [some (.ref 2), some (.int 2), some (.int (nI ia)), some (.int 2), some (.int (nI jb)), some (.int (nI ma)), none, none], [], HH x σ) (some (.int (nI ma)), HH x (ua (ui σ 210 0) 10 (va_cpy (σ.2.2.1 10) (σ.2.2.1 10) (nI ia).toNatClampNeg (nI jb).toNatClampNeg (nI ma).toNatClampNeg))) := vc_copy (by omega) (fun z => absurd q z) (fun _ _ => vc_copy_22 (by omega) (fun z => absurd z m1) (fun _ _ z => absurd g.1 z) (fun _ _ _ _ => gd) (fun _ _ _ _ => rfl) (fun _ _ _ z => absurd g.2 z) (fun _ z => absurd z e2)) (fun _ z => absurd q2 z)
        rw [cc ia (by omega), cc jb (by omega), cc ma (by omega)] at c
        have m := m_copy_9 (x := x) (ua (ui σ 210 0) 10 (va_cpy (σ.2.2.1 10) (σ.2.2.1 10) ia jb ma)) (kk := 2) (tt := 2) (a := ia) (b := jb) (m := ma) (by omega) (by omega) (by omega) (by omega) n1 n2 e ⟨by have z := g.1; rw [h2.2.2.1.2.1] at z; exact z, by have z := g.2; rw [h2.2.2.1.2.1] at z; exact z⟩
        exact ⟨_, _, _, c, m, ⟨⟨rfl, h1.2⟩, ⟨⟨h2.1.1, h2.1.2.1, h2.1.2.2.1, cpy_oth (b := 2) (k := 0) (by omega) (by decide) h2.1.2.2.2⟩, ⟨h2.2.1.1, h2.2.1.2.1, h2.2.1.2.2.1, cpy_oth (b := 2) (k := 1) (by omega) (by decide) h2.2.1.2.2.2⟩, ⟨h2.2.2.1.1, h2.2.2.1.2.1, h2.2.2.1.2.2.1, cpy_own (a := 2) (b := 2) (by omega) (by omega) h2.2.2.1.2.2.2 h2.2.2.1.2.2.2⟩, ⟨h2.2.2.2.1, h2.2.2.2.2.1, h2.2.2.2.2.2.1, cpy_oth (b := 2) (k := 3) (by omega) (by decide) h2.2.2.2.2.2.2⟩⟩, P, ns, nw, nr, hp, hc, hri, hwy, hs, hw, hre, hti⟩⟩
      · have c : mm_Runs 999 i_X6_copy (0, [some (.ref 2), some (.int 2), some (.int i), some (.int 2), some (.int j), some (.int n), none, none], [], HH x σ) (some (.int (-13)), HH x (ui (ui σ 210 0) 210 3)) := vc_copy (by omega) (fun z => absurd q z) (fun _ _ => vc_copy_22 (by omega) (fun z => absurd z m1) (fun _ _ _ => rfl) (fun _ _ z1 z2 => absurd ⟨z1, z2⟩ g) (fun _ _ z1 z2 => absurd ⟨z1, z2⟩ g) (fun _ _ _ _ => rfl) (fun _ z => absurd z e2)) (fun _ z => absurd q2 z)
        have m := m_copy_3 (x := x) (i := i) (j := j) (n := n) (ui (ui σ 210 0) 210 3) (qm _) (qm2 _) ga gb n1 n2 e (fun z => g ⟨by have y := z.1; rw [h2.2.2.1.2.1]; exact y, by have y := z.2; rw [h2.2.2.1.2.1]; exact y⟩)
        exact ⟨_, _, _, c, m, ⟨⟨rfl, h1.2⟩, h2, P, ns, nw, nr, hp, hc, hri, hwy, hs, hw, hre, hti⟩⟩
    · have e2 : p_isOfAnother_6 (ui σ 210 0) (σ.1 602) := ⟨m2, e0⟩
      have e : ¬ σ.2.2.1 38 2 = σ.2.2.1 38 2 := fun z => e0 (b2.symm.trans (z.symm.trans a2))
      have c : mm_Runs 999 i_X6_copy (0, [some (.ref 2), some (.int 2), some (.int i), some (.int 2), some (.int j), some (.int n), none, none], [], HH x σ) (some (.int (-12)), HH x (ui (ui σ 210 0) 210 2)) := vc_copy (by omega) (fun z => absurd q z) (fun _ _ => vc_copy_22 (by omega) (fun z => absurd z m1) (fun _ z _  => absurd e2 z) (fun _ z _ _  => absurd e2 z) (fun _ z _ _  => absurd e2 z) (fun _ z _ _  => absurd e2 z) (fun _ _ => rfl)) (fun _ z => absurd q2 z)
      have m := m_copy_2 (x := x) (i := i) (j := j) (n := n) (ui (ui σ 210 0) 210 2) (qm _) (qm2 _) ga gb n1 n2 e
      exact ⟨_, _, _, c, m, ⟨⟨rfl, h1.2⟩, h2, P, ns, nw, nr, hp, hc, hri, hwy, hs, hw, hre, hti⟩⟩
theorem copy_23 {x : Nat × (Nat → Int32)} {σ : mm_S} {i j n : Int32} (hr : Rel σ) : ∃ (r : Int32) (σ1 σ2 : mm_S), mm_Runs 999 i_X6_copy (0, [some (.ref 2), some (.int 2), some (.int i), some (.int 3), some (.int j), some (.int n), none, none], [], HH x σ) (some (.int r), HH x σ1) ∧ mm_Runs 999 i_X7_copy (0, [some (.ref 37), some (.int 2), some (.int i), some (.int 3), some (.int j), some (.int n), none, none, none, none], [], HH x σ1) (some (.int r), HH x σ2) ∧ Rel σ2 := by
  obtain ⟨h1, h2, P, ns, nw, nr, hp, hc, hri, hwy, hs, hw, hre, hti⟩ := id hr
  have q : p_isSheet (ui σ 210 0) 2 := by unfold p_isSheet; decide
  have q2 : p_isSheet (ui σ 210 0) 3 := by unfold p_isSheet; decide
  have qm : ∀ τ : mm_S, p_m_isSheet (ui τ 3700 0) 2 := fun τ => (sheet_iff (ui τ 3700 0) (ui σ 210 0) 2).mpr q
  have qm2 : ∀ τ : mm_S, p_m_isSheet (ui τ 3700 0) 3 := fun τ => (sheet_iff (ui τ 3700 0) (ui σ 210 0) 3).mpr q2
  have ga : ¬ ((2 : Int32) < 0 ∨ 4 ≤ (2 : Int32).toNatClampNeg) := by decide
  have gb : ¬ ((3 : Int32) < 0 ∨ 4 ≤ (3 : Int32).toNatClampNeg) := by decide
  rcases h2.2.2.1.1 with ⟨a1, a2⟩ | ⟨a1, a2, a3⟩
  · have e : σ.1 601 = 0 ∨ σ.1 701 = 0 := Or.inl a1
    have c : mm_Runs 999 i_X6_copy (0, [some (.ref 2), some (.int 2), some (.int i), some (.int 3), some (.int j), some (.int n), none, none], [], HH x σ) (some (.int (-11)), HH x (ui (ui σ 210 0) 210 1)) := vc_copy (by omega) (fun z => absurd q z) (fun _ _ => vc_copy_23 (by omega) (fun _ => rfl) (fun z1 z2 _ _  => e.elim (fun w => absurd w z1) (fun w => absurd w z2)) (fun z1 z2 _ _ _  => e.elim (fun w => absurd w z1) (fun w => absurd w z2)) (fun z1 z2 _ _ _  => e.elim (fun w => absurd w z1) (fun w => absurd w z2)) (fun z1 z2 _ _ _  => e.elim (fun w => absurd w z1) (fun w => absurd w z2)) (fun z1 z2 _  => e.elim (fun w => absurd w z1) (fun w => absurd w z2)) (fun _ _ => rfl)) (fun _ z => absurd q2 z)
    have m := m_copy_1 (x := x) (i := i) (j := j) (n := n) (ui (ui σ 210 0) 210 1) (qm _) (qm2 _) ga gb (Or.inl a2)
    exact ⟨_, _, _, c, m, ⟨⟨rfl, h1.2⟩, h2, P, ns, nw, nr, hp, hc, hri, hwy, hs, hw, hre, hti⟩⟩
  rcases h2.2.2.2.1 with ⟨b1, b2⟩ | ⟨b1, b2, b3⟩
  · have e : σ.1 601 = 0 ∨ σ.1 701 = 0 := Or.inr b1
    have c : mm_Runs 999 i_X6_copy (0, [some (.ref 2), some (.int 2), some (.int i), some (.int 3), some (.int j), some (.int n), none, none], [], HH x σ) (some (.int (-11)), HH x (ui (ui σ 210 0) 210 1)) := vc_copy (by omega) (fun z => absurd q z) (fun _ _ => vc_copy_23 (by omega) (fun _ => rfl) (fun z1 z2 _ _  => e.elim (fun w => absurd w z1) (fun w => absurd w z2)) (fun z1 z2 _ _ _  => e.elim (fun w => absurd w z1) (fun w => absurd w z2)) (fun z1 z2 _ _ _  => e.elim (fun w => absurd w z1) (fun w => absurd w z2)) (fun z1 z2 _ _ _  => e.elim (fun w => absurd w z1) (fun w => absurd w z2)) (fun z1 z2 _  => e.elim (fun w => absurd w z1) (fun w => absurd w z2)) (fun _ _ => rfl)) (fun _ z => absurd q2 z)
    have m := m_copy_1 (x := x) (i := i) (j := j) (n := n) (ui (ui σ 210 0) 210 1) (qm _) (qm2 _) ga gb (Or.inr b2)
    exact ⟨_, _, _, c, m, ⟨⟨rfl, h1.2⟩, h2, P, ns, nw, nr, hp, hc, hri, hwy, hs, hw, hre, hti⟩⟩
  have n1 : ¬ σ.2.2.1 38 2 = -9 := fun z => kd_n9 a3 (a2.symm.trans z)
  have n2 : ¬ σ.2.2.1 38 3 = -9 := fun z => kd_n9 b3 (b2.symm.trans z)
  have m1 : ¬ σ.1 601 = 0 := by rw [a1]; decide
  have m2 : ¬ σ.1 701 = 0 := by rw [b1]; decide
  by_cases e0 : σ.1 702 = σ.1 602
  · have e2 : ¬ p_isOfAnother_7 (ui σ 210 0) (σ.1 602) := fun z => z.2 e0
    have e : σ.2.2.1 38 2 = σ.2.2.1 38 3 := a2.trans (e0.symm.trans b2.symm)
    obtain ⟨la, hla, ela⟩ := h2.2.2.1.2.2.1
    obtain ⟨lb, hlb, elb⟩ := h2.2.2.2.2.2.1
    by_cases g : hcp (σ.1 603) i n ∧ hcp (σ.1 703) j n
    · have g1 := g.1
      have g2 := g.2
      rw [ela] at g1
      rw [elb] at g2
      obtain ⟨ia, ma, rfl, rfl, hia⟩ := (hcN hla _ _).mp g1
      obtain ⟨jb, mb, rfl, emb, hjb⟩ := (hcN hlb _ _).mp g2
      have emm : ma = mb := by
        by_cases hh : mb < 2 ^ 31
        · exact (nI_eq (by omega) hh).mp emb
        · omega
      subst emm
      have cc : ∀ u, u ≤ 60 → (nI u).toNatClampNeg = u := fun u hu => nI_clamp (by omega)
      have gd : ¬ (nI ia < 0 ∨ nI jb < 0 ∨ nI ma < 0 ∨ 60 < (nI ia).toNatClampNeg + (nI ma).toNatClampNeg ∨ 60 < (nI jb).toNatClampNeg + (nI ma).toNatClampNeg) := by
        rw [cc ia (by omega), cc jb (by omega), cc ma (by omega)]
        rintro (z | z | z | z | z)
        · exact nI_pos (by omega) z
        · exact nI_pos (by omega) z
        · exact nI_pos (by omega) z
        · omega
        · omega
      have c : mm_Runs 999 i_X6_copy (0, [some (.ref 2), some (.int 2), some (.int (nI ia)), some (.int 3), some (.int (nI jb)), some (.int (nI ma)), none, none], [], HH x σ) (some (.int (nI ma)), HH x (ua (ui σ 210 0) 11 (va_cpy (σ.2.2.1 10) (σ.2.2.1 11) (nI ia).toNatClampNeg (nI jb).toNatClampNeg (nI ma).toNatClampNeg))) := vc_copy (by omega) (fun z => absurd q z) (fun _ _ => vc_copy_23 (by omega) (fun z => absurd z m1) (fun _ _ _ z => absurd g.1 z) (fun _ _ _ _ _ => gd) (fun _ _ _ _ _ => rfl) (fun _ _ _ _ z => absurd g.2 z) (fun _ _ z => absurd z e2) (fun _ z => absurd z m2)) (fun _ z => absurd q2 z)
      rw [cc ia (by omega), cc jb (by omega), cc ma (by omega)] at c
      have m := m_copy_9 (x := x) (ua (ui σ 210 0) 11 (va_cpy (σ.2.2.1 10) (σ.2.2.1 11) ia jb ma)) (kk := 2) (tt := 3) (a := ia) (b := jb) (m := ma) (by omega) (by omega) (by omega) (by omega) n1 n2 e ⟨by have z := g.1; rw [h2.2.2.1.2.1] at z; exact z, by have z := g.2; rw [h2.2.2.2.2.1] at z; exact z⟩
      exact ⟨_, _, _, c, m, ⟨⟨rfl, h1.2⟩, ⟨⟨h2.1.1, h2.1.2.1, h2.1.2.2.1, cpy_oth (b := 3) (k := 0) (by omega) (by decide) h2.1.2.2.2⟩, ⟨h2.2.1.1, h2.2.1.2.1, h2.2.1.2.2.1, cpy_oth (b := 3) (k := 1) (by omega) (by decide) h2.2.1.2.2.2⟩, ⟨h2.2.2.1.1, h2.2.2.1.2.1, h2.2.2.1.2.2.1, cpy_oth (b := 3) (k := 2) (by omega) (by decide) h2.2.2.1.2.2.2⟩, ⟨h2.2.2.2.1, h2.2.2.2.2.1, h2.2.2.2.2.2.1, cpy_own (a := 2) (b := 3) (by omega) (by omega) h2.2.2.1.2.2.2 h2.2.2.2.2.2.2⟩⟩, P, ns, nw, nr, hp, hc, hri, hwy, hs, hw, hre, hti⟩⟩
    · have c : mm_Runs 999 i_X6_copy (0, [some (.ref 2), some (.int 2), some (.int i), some (.int 3), some (.int j), some (.int n), none, none], [], HH x σ) (some (.int (-13)), HH x (ui (ui σ 210 0) 210 3)) := vc_copy (by omega) (fun z => absurd q z) (fun _ _ => vc_copy_23 (by omega) (fun z => absurd z m1) (fun _ _ _ _ => rfl) (fun _ _ _ z1 z2 => absurd ⟨z1, z2⟩ g) (fun _ _ _ z1 z2 => absurd ⟨z1, z2⟩ g) (fun _ _ _ _ _ => rfl) (fun _ _ z => absurd z e2) (fun _ z => absurd z m2)) (fun _ z => absurd q2 z)
      have m := m_copy_3 (x := x) (i := i) (j := j) (n := n) (ui (ui σ 210 0) 210 3) (qm _) (qm2 _) ga gb n1 n2 e (fun z => g ⟨by have y := z.1; rw [h2.2.2.1.2.1]; exact y, by have y := z.2; rw [h2.2.2.2.2.1]; exact y⟩)
      exact ⟨_, _, _, c, m, ⟨⟨rfl, h1.2⟩, h2, P, ns, nw, nr, hp, hc, hri, hwy, hs, hw, hre, hti⟩⟩
  · have e2 : p_isOfAnother_7 (ui σ 210 0) (σ.1 602) := ⟨m2, e0⟩
    have e : ¬ σ.2.2.1 38 2 = σ.2.2.1 38 3 := fun z => e0 (b2.symm.trans (z.symm.trans a2))
    have c : mm_Runs 999 i_X6_copy (0, [some (.ref 2), some (.int 2), some (.int i), some (.int 3), some (.int j), some (.int n), none, none], [], HH x σ) (some (.int (-12)), HH x (ui (ui σ 210 0) 210 2)) := vc_copy (by omega) (fun z => absurd q z) (fun _ _ => vc_copy_23 (by omega) (fun z => absurd z m1) (fun _ _ z _  => absurd e2 z) (fun _ _ z _ _  => absurd e2 z) (fun _ _ z _ _  => absurd e2 z) (fun _ _ z _ _  => absurd e2 z) (fun _ _ _ => rfl) (fun _ z => absurd z m2)) (fun _ z => absurd q2 z)
    have m := m_copy_2 (x := x) (i := i) (j := j) (n := n) (ui (ui σ 210 0) 210 2) (qm _) (qm2 _) ga gb n1 n2 e
    exact ⟨_, _, _, c, m, ⟨⟨rfl, h1.2⟩, h2, P, ns, nw, nr, hp, hc, hri, hwy, hs, hw, hre, hti⟩⟩
theorem copy_30 {x : Nat × (Nat → Int32)} {σ : mm_S} {i j n : Int32} (hr : Rel σ) : ∃ (r : Int32) (σ1 σ2 : mm_S), mm_Runs 999 i_X6_copy (0, [some (.ref 2), some (.int 3), some (.int i), some (.int 0), some (.int j), some (.int n), none, none], [], HH x σ) (some (.int r), HH x σ1) ∧ mm_Runs 999 i_X7_copy (0, [some (.ref 37), some (.int 3), some (.int i), some (.int 0), some (.int j), some (.int n), none, none, none, none], [], HH x σ1) (some (.int r), HH x σ2) ∧ Rel σ2 := by
  obtain ⟨h1, h2, P, ns, nw, nr, hp, hc, hri, hwy, hs, hw, hre, hti⟩ := id hr
  have q : p_isSheet (ui σ 210 0) 3 := by unfold p_isSheet; decide
  have q2 : p_isSheet (ui σ 210 0) 0 := by unfold p_isSheet; decide
  have qm : ∀ τ : mm_S, p_m_isSheet (ui τ 3700 0) 3 := fun τ => (sheet_iff (ui τ 3700 0) (ui σ 210 0) 3).mpr q
  have qm2 : ∀ τ : mm_S, p_m_isSheet (ui τ 3700 0) 0 := fun τ => (sheet_iff (ui τ 3700 0) (ui σ 210 0) 0).mpr q2
  have ga : ¬ ((3 : Int32) < 0 ∨ 4 ≤ (3 : Int32).toNatClampNeg) := by decide
  have gb : ¬ ((0 : Int32) < 0 ∨ 4 ≤ (0 : Int32).toNatClampNeg) := by decide
  rcases h2.2.2.2.1 with ⟨a1, a2⟩ | ⟨a1, a2, a3⟩
  · have e : σ.1 701 = 0 ∨ σ.1 401 = 0 := Or.inl a1
    have c : mm_Runs 999 i_X6_copy (0, [some (.ref 2), some (.int 3), some (.int i), some (.int 0), some (.int j), some (.int n), none, none], [], HH x σ) (some (.int (-11)), HH x (ui (ui σ 210 0) 210 1)) := vc_copy (by omega) (fun z => absurd q z) (fun _ _ => vc_copy_30 (by omega) (fun _ => rfl) (fun z1 z2 _ _  => e.elim (fun w => absurd w z1) (fun w => absurd w z2)) (fun z1 z2 _ _ _  => e.elim (fun w => absurd w z1) (fun w => absurd w z2)) (fun z1 z2 _ _ _  => e.elim (fun w => absurd w z1) (fun w => absurd w z2)) (fun z1 z2 _ _ _  => e.elim (fun w => absurd w z1) (fun w => absurd w z2)) (fun z1 z2 _  => e.elim (fun w => absurd w z1) (fun w => absurd w z2)) (fun _ _ => rfl)) (fun _ z => absurd q2 z)
    have m := m_copy_1 (x := x) (i := i) (j := j) (n := n) (ui (ui σ 210 0) 210 1) (qm _) (qm2 _) ga gb (Or.inl a2)
    exact ⟨_, _, _, c, m, ⟨⟨rfl, h1.2⟩, h2, P, ns, nw, nr, hp, hc, hri, hwy, hs, hw, hre, hti⟩⟩
  rcases h2.1.1 with ⟨b1, b2⟩ | ⟨b1, b2, b3⟩
  · have e : σ.1 701 = 0 ∨ σ.1 401 = 0 := Or.inr b1
    have c : mm_Runs 999 i_X6_copy (0, [some (.ref 2), some (.int 3), some (.int i), some (.int 0), some (.int j), some (.int n), none, none], [], HH x σ) (some (.int (-11)), HH x (ui (ui σ 210 0) 210 1)) := vc_copy (by omega) (fun z => absurd q z) (fun _ _ => vc_copy_30 (by omega) (fun _ => rfl) (fun z1 z2 _ _  => e.elim (fun w => absurd w z1) (fun w => absurd w z2)) (fun z1 z2 _ _ _  => e.elim (fun w => absurd w z1) (fun w => absurd w z2)) (fun z1 z2 _ _ _  => e.elim (fun w => absurd w z1) (fun w => absurd w z2)) (fun z1 z2 _ _ _  => e.elim (fun w => absurd w z1) (fun w => absurd w z2)) (fun z1 z2 _  => e.elim (fun w => absurd w z1) (fun w => absurd w z2)) (fun _ _ => rfl)) (fun _ z => absurd q2 z)
    have m := m_copy_1 (x := x) (i := i) (j := j) (n := n) (ui (ui σ 210 0) 210 1) (qm _) (qm2 _) ga gb (Or.inr b2)
    exact ⟨_, _, _, c, m, ⟨⟨rfl, h1.2⟩, h2, P, ns, nw, nr, hp, hc, hri, hwy, hs, hw, hre, hti⟩⟩
  have n1 : ¬ σ.2.2.1 38 3 = -9 := fun z => kd_n9 a3 (a2.symm.trans z)
  have n2 : ¬ σ.2.2.1 38 0 = -9 := fun z => kd_n9 b3 (b2.symm.trans z)
  have m1 : ¬ σ.1 701 = 0 := by rw [a1]; decide
  have m2 : ¬ σ.1 401 = 0 := by rw [b1]; decide
  by_cases e0 : σ.1 402 = σ.1 702
  · have e2 : ¬ p_isOfAnother_4 (ui σ 210 0) (σ.1 702) := fun z => z.2 e0
    have e : σ.2.2.1 38 3 = σ.2.2.1 38 0 := a2.trans (e0.symm.trans b2.symm)
    obtain ⟨la, hla, ela⟩ := h2.2.2.2.2.2.1
    obtain ⟨lb, hlb, elb⟩ := h2.1.2.2.1
    by_cases g : hcp (σ.1 703) i n ∧ hcp (σ.1 403) j n
    · have g1 := g.1
      have g2 := g.2
      rw [ela] at g1
      rw [elb] at g2
      obtain ⟨ia, ma, rfl, rfl, hia⟩ := (hcN hla _ _).mp g1
      obtain ⟨jb, mb, rfl, emb, hjb⟩ := (hcN hlb _ _).mp g2
      have emm : ma = mb := by
        by_cases hh : mb < 2 ^ 31
        · exact (nI_eq (by omega) hh).mp emb
        · omega
      subst emm
      have cc : ∀ u, u ≤ 60 → (nI u).toNatClampNeg = u := fun u hu => nI_clamp (by omega)
      have gd : ¬ (nI ia < 0 ∨ nI jb < 0 ∨ nI ma < 0 ∨ 60 < (nI ia).toNatClampNeg + (nI ma).toNatClampNeg ∨ 60 < (nI jb).toNatClampNeg + (nI ma).toNatClampNeg) := by
        rw [cc ia (by omega), cc jb (by omega), cc ma (by omega)]
        rintro (z | z | z | z | z)
        · exact nI_pos (by omega) z
        · exact nI_pos (by omega) z
        · exact nI_pos (by omega) z
        · omega
        · omega
      have c : mm_Runs 999 i_X6_copy (0, [some (.ref 2), some (.int 3), some (.int (nI ia)), some (.int 0), some (.int (nI jb)), some (.int (nI ma)), none, none], [], HH x σ) (some (.int (nI ma)), HH x (ua (ui σ 210 0) 8 (va_cpy (σ.2.2.1 11) (σ.2.2.1 8) (nI ia).toNatClampNeg (nI jb).toNatClampNeg (nI ma).toNatClampNeg))) := vc_copy (by omega) (fun z => absurd q z) (fun _ _ => vc_copy_30 (by omega) (fun z => absurd z m1) (fun _ _ _ z => absurd g.1 z) (fun _ _ _ _ _ => gd) (fun _ _ _ _ _ => rfl) (fun _ _ _ _ z => absurd g.2 z) (fun _ _ z => absurd z e2) (fun _ z => absurd z m2)) (fun _ z => absurd q2 z)
      rw [cc ia (by omega), cc jb (by omega), cc ma (by omega)] at c
      have m := m_copy_9 (x := x) (ua (ui σ 210 0) 8 (va_cpy (σ.2.2.1 11) (σ.2.2.1 8) ia jb ma)) (kk := 3) (tt := 0) (a := ia) (b := jb) (m := ma) (by omega) (by omega) (by omega) (by omega) n1 n2 e ⟨by have z := g.1; rw [h2.2.2.2.2.1] at z; exact z, by have z := g.2; rw [h2.1.2.1] at z; exact z⟩
      exact ⟨_, _, _, c, m, ⟨⟨rfl, h1.2⟩, ⟨⟨h2.1.1, h2.1.2.1, h2.1.2.2.1, cpy_own (a := 3) (b := 0) (by omega) (by omega) h2.2.2.2.2.2.2 h2.1.2.2.2⟩, ⟨h2.2.1.1, h2.2.1.2.1, h2.2.1.2.2.1, cpy_oth (b := 0) (k := 1) (by omega) (by decide) h2.2.1.2.2.2⟩, ⟨h2.2.2.1.1, h2.2.2.1.2.1, h2.2.2.1.2.2.1, cpy_oth (b := 0) (k := 2) (by omega) (by decide) h2.2.2.1.2.2.2⟩, ⟨h2.2.2.2.1, h2.2.2.2.2.1, h2.2.2.2.2.2.1, cpy_oth (b := 0) (k := 3) (by omega) (by decide) h2.2.2.2.2.2.2⟩⟩, P, ns, nw, nr, hp, hc, hri, hwy, hs, hw, hre, hti⟩⟩
    · have c : mm_Runs 999 i_X6_copy (0, [some (.ref 2), some (.int 3), some (.int i), some (.int 0), some (.int j), some (.int n), none, none], [], HH x σ) (some (.int (-13)), HH x (ui (ui σ 210 0) 210 3)) := vc_copy (by omega) (fun z => absurd q z) (fun _ _ => vc_copy_30 (by omega) (fun z => absurd z m1) (fun _ _ _ _ => rfl) (fun _ _ _ z1 z2 => absurd ⟨z1, z2⟩ g) (fun _ _ _ z1 z2 => absurd ⟨z1, z2⟩ g) (fun _ _ _ _ _ => rfl) (fun _ _ z => absurd z e2) (fun _ z => absurd z m2)) (fun _ z => absurd q2 z)
      have m := m_copy_3 (x := x) (i := i) (j := j) (n := n) (ui (ui σ 210 0) 210 3) (qm _) (qm2 _) ga gb n1 n2 e (fun z => g ⟨by have y := z.1; rw [h2.2.2.2.2.1]; exact y, by have y := z.2; rw [h2.1.2.1]; exact y⟩)
      exact ⟨_, _, _, c, m, ⟨⟨rfl, h1.2⟩, h2, P, ns, nw, nr, hp, hc, hri, hwy, hs, hw, hre, hti⟩⟩
  · have e2 : p_isOfAnother_4 (ui σ 210 0) (σ.1 702) := ⟨m2, e0⟩
    have e : ¬ σ.2.2.1 38 3 = σ.2.2.1 38 0 := fun z => e0 (b2.symm.trans (z.symm.trans a2))
    have c : mm_Runs 999 i_X6_copy (0, [some (.ref 2), some (.int 3), some (.int i), some (.int 0), some (.int j), some (.int n), none, none], [], HH x σ) (some (.int (-12)), HH x (ui (ui σ 210 0) 210 2)) := vc_copy (by omega) (fun z => absurd q z) (fun _ _ => vc_copy_30 (by omega) (fun z => absurd z m1) (fun _ _ z _  => absurd e2 z) (fun _ _ z _ _  => absurd e2 z) (fun _ _ z _ _  => absurd e2 z) (fun _ _ z _ _  => absurd e2 z) (fun _ _ _ => rfl) (fun _ z => absurd z m2)) (fun _ z => absurd q2 z)
    have m := m_copy_2 (x := x) (i := i) (j := j) (n := n) (ui (ui σ 210 0) 210 2) (qm _) (qm2 _) ga gb n1 n2 e
    exact ⟨_, _, _, c, m, ⟨⟨rfl, h1.2⟩, h2, P, ns, nw, nr, hp, hc, hri, hwy, hs, hw, hre, hti⟩⟩
theorem copy_31 {x : Nat × (Nat → Int32)} {σ : mm_S} {i j n : Int32} (hr : Rel σ) : ∃ (r : Int32) (σ1 σ2 : mm_S), mm_Runs 999 i_X6_copy (0, [some (.ref 2), some (.int 3), some (.int i), some (.int 1), some (.int j), some (.int n), none, none], [], HH x σ) (some (.int r), HH x σ1) ∧ mm_Runs 999 i_X7_copy (0, [some (.ref 37), some (.int 3), some (.int i), some (.int 1), some (.int j), some (.int n), none, none, none, none], [], HH x σ1) (some (.int r), HH x σ2) ∧ Rel σ2 := by
  obtain ⟨h1, h2, P, ns, nw, nr, hp, hc, hri, hwy, hs, hw, hre, hti⟩ := id hr
  have q : p_isSheet (ui σ 210 0) 3 := by unfold p_isSheet; decide
  have q2 : p_isSheet (ui σ 210 0) 1 := by unfold p_isSheet; decide
  have qm : ∀ τ : mm_S, p_m_isSheet (ui τ 3700 0) 3 := fun τ => (sheet_iff (ui τ 3700 0) (ui σ 210 0) 3).mpr q
  have qm2 : ∀ τ : mm_S, p_m_isSheet (ui τ 3700 0) 1 := fun τ => (sheet_iff (ui τ 3700 0) (ui σ 210 0) 1).mpr q2
  have ga : ¬ ((3 : Int32) < 0 ∨ 4 ≤ (3 : Int32).toNatClampNeg) := by decide
  have gb : ¬ ((1 : Int32) < 0 ∨ 4 ≤ (1 : Int32).toNatClampNeg) := by decide
  rcases h2.2.2.2.1 with ⟨a1, a2⟩ | ⟨a1, a2, a3⟩
  · have e : σ.1 701 = 0 ∨ σ.1 501 = 0 := Or.inl a1
    have c : mm_Runs 999 i_X6_copy (0, [some (.ref 2), some (.int 3), some (.int i), some (.int 1), some (.int j), some (.int n), none, none], [], HH x σ) (some (.int (-11)), HH x (ui (ui σ 210 0) 210 1)) := vc_copy (by omega) (fun z => absurd q z) (fun _ _ => vc_copy_31 (by omega) (fun _ => rfl) (fun z1 z2 _ _  => e.elim (fun w => absurd w z1) (fun w => absurd w z2)) (fun z1 z2 _ _ _  => e.elim (fun w => absurd w z1) (fun w => absurd w z2)) (fun z1 z2 _ _ _  => e.elim (fun w => absurd w z1) (fun w => absurd w z2)) (fun z1 z2 _ _ _  => e.elim (fun w => absurd w z1) (fun w => absurd w z2)) (fun z1 z2 _  => e.elim (fun w => absurd w z1) (fun w => absurd w z2)) (fun _ _ => rfl)) (fun _ z => absurd q2 z)
    have m := m_copy_1 (x := x) (i := i) (j := j) (n := n) (ui (ui σ 210 0) 210 1) (qm _) (qm2 _) ga gb (Or.inl a2)
    exact ⟨_, _, _, c, m, ⟨⟨rfl, h1.2⟩, h2, P, ns, nw, nr, hp, hc, hri, hwy, hs, hw, hre, hti⟩⟩
  rcases h2.2.1.1 with ⟨b1, b2⟩ | ⟨b1, b2, b3⟩
  · have e : σ.1 701 = 0 ∨ σ.1 501 = 0 := Or.inr b1
    have c : mm_Runs 999 i_X6_copy (0, [some (.ref 2), some (.int 3), some (.int i), some (.int 1), some (.int j), some (.int n), none, none], [], HH x σ) (some (.int (-11)), HH x (ui (ui σ 210 0) 210 1)) := vc_copy (by omega) (fun z => absurd q z) (fun _ _ => vc_copy_31 (by omega) (fun _ => rfl) (fun z1 z2 _ _  => e.elim (fun w => absurd w z1) (fun w => absurd w z2)) (fun z1 z2 _ _ _  => e.elim (fun w => absurd w z1) (fun w => absurd w z2)) (fun z1 z2 _ _ _  => e.elim (fun w => absurd w z1) (fun w => absurd w z2)) (fun z1 z2 _ _ _  => e.elim (fun w => absurd w z1) (fun w => absurd w z2)) (fun z1 z2 _  => e.elim (fun w => absurd w z1) (fun w => absurd w z2)) (fun _ _ => rfl)) (fun _ z => absurd q2 z)
    have m := m_copy_1 (x := x) (i := i) (j := j) (n := n) (ui (ui σ 210 0) 210 1) (qm _) (qm2 _) ga gb (Or.inr b2)
    exact ⟨_, _, _, c, m, ⟨⟨rfl, h1.2⟩, h2, P, ns, nw, nr, hp, hc, hri, hwy, hs, hw, hre, hti⟩⟩
  have n1 : ¬ σ.2.2.1 38 3 = -9 := fun z => kd_n9 a3 (a2.symm.trans z)
  have n2 : ¬ σ.2.2.1 38 1 = -9 := fun z => kd_n9 b3 (b2.symm.trans z)
  have m1 : ¬ σ.1 701 = 0 := by rw [a1]; decide
  have m2 : ¬ σ.1 501 = 0 := by rw [b1]; decide
  by_cases e0 : σ.1 502 = σ.1 702
  · have e2 : ¬ p_isOfAnother_5 (ui σ 210 0) (σ.1 702) := fun z => z.2 e0
    have e : σ.2.2.1 38 3 = σ.2.2.1 38 1 := a2.trans (e0.symm.trans b2.symm)
    obtain ⟨la, hla, ela⟩ := h2.2.2.2.2.2.1
    obtain ⟨lb, hlb, elb⟩ := h2.2.1.2.2.1
    by_cases g : hcp (σ.1 703) i n ∧ hcp (σ.1 503) j n
    · have g1 := g.1
      have g2 := g.2
      rw [ela] at g1
      rw [elb] at g2
      obtain ⟨ia, ma, rfl, rfl, hia⟩ := (hcN hla _ _).mp g1
      obtain ⟨jb, mb, rfl, emb, hjb⟩ := (hcN hlb _ _).mp g2
      have emm : ma = mb := by
        by_cases hh : mb < 2 ^ 31
        · exact (nI_eq (by omega) hh).mp emb
        · omega
      subst emm
      have cc : ∀ u, u ≤ 60 → (nI u).toNatClampNeg = u := fun u hu => nI_clamp (by omega)
      have gd : ¬ (nI ia < 0 ∨ nI jb < 0 ∨ nI ma < 0 ∨ 60 < (nI ia).toNatClampNeg + (nI ma).toNatClampNeg ∨ 60 < (nI jb).toNatClampNeg + (nI ma).toNatClampNeg) := by
        rw [cc ia (by omega), cc jb (by omega), cc ma (by omega)]
        rintro (z | z | z | z | z)
        · exact nI_pos (by omega) z
        · exact nI_pos (by omega) z
        · exact nI_pos (by omega) z
        · omega
        · omega
      have c : mm_Runs 999 i_X6_copy (0, [some (.ref 2), some (.int 3), some (.int (nI ia)), some (.int 1), some (.int (nI jb)), some (.int (nI ma)), none, none], [], HH x σ) (some (.int (nI ma)), HH x (ua (ui σ 210 0) 9 (va_cpy (σ.2.2.1 11) (σ.2.2.1 9) (nI ia).toNatClampNeg (nI jb).toNatClampNeg (nI ma).toNatClampNeg))) := vc_copy (by omega) (fun z => absurd q z) (fun _ _ => vc_copy_31 (by omega) (fun z => absurd z m1) (fun _ _ _ z => absurd g.1 z) (fun _ _ _ _ _ => gd) (fun _ _ _ _ _ => rfl) (fun _ _ _ _ z => absurd g.2 z) (fun _ _ z => absurd z e2) (fun _ z => absurd z m2)) (fun _ z => absurd q2 z)
      rw [cc ia (by omega), cc jb (by omega), cc ma (by omega)] at c
      have m := m_copy_9 (x := x) (ua (ui σ 210 0) 9 (va_cpy (σ.2.2.1 11) (σ.2.2.1 9) ia jb ma)) (kk := 3) (tt := 1) (a := ia) (b := jb) (m := ma) (by omega) (by omega) (by omega) (by omega) n1 n2 e ⟨by have z := g.1; rw [h2.2.2.2.2.1] at z; exact z, by have z := g.2; rw [h2.2.1.2.1] at z; exact z⟩
      exact ⟨_, _, _, c, m, ⟨⟨rfl, h1.2⟩, ⟨⟨h2.1.1, h2.1.2.1, h2.1.2.2.1, cpy_oth (b := 1) (k := 0) (by omega) (by decide) h2.1.2.2.2⟩, ⟨h2.2.1.1, h2.2.1.2.1, h2.2.1.2.2.1, cpy_own (a := 3) (b := 1) (by omega) (by omega) h2.2.2.2.2.2.2 h2.2.1.2.2.2⟩, ⟨h2.2.2.1.1, h2.2.2.1.2.1, h2.2.2.1.2.2.1, cpy_oth (b := 1) (k := 2) (by omega) (by decide) h2.2.2.1.2.2.2⟩, ⟨h2.2.2.2.1, h2.2.2.2.2.1, h2.2.2.2.2.2.1, cpy_oth (b := 1) (k := 3) (by omega) (by decide) h2.2.2.2.2.2.2⟩⟩, P, ns, nw, nr, hp, hc, hri, hwy, hs, hw, hre, hti⟩⟩
    · have c : mm_Runs 999 i_X6_copy (0, [some (.ref 2), some (.int 3), some (.int i), some (.int 1), some (.int j), some (.int n), none, none], [], HH x σ) (some (.int (-13)), HH x (ui (ui σ 210 0) 210 3)) := vc_copy (by omega) (fun z => absurd q z) (fun _ _ => vc_copy_31 (by omega) (fun z => absurd z m1) (fun _ _ _ _ => rfl) (fun _ _ _ z1 z2 => absurd ⟨z1, z2⟩ g) (fun _ _ _ z1 z2 => absurd ⟨z1, z2⟩ g) (fun _ _ _ _ _ => rfl) (fun _ _ z => absurd z e2) (fun _ z => absurd z m2)) (fun _ z => absurd q2 z)
      have m := m_copy_3 (x := x) (i := i) (j := j) (n := n) (ui (ui σ 210 0) 210 3) (qm _) (qm2 _) ga gb n1 n2 e (fun z => g ⟨by have y := z.1; rw [h2.2.2.2.2.1]; exact y, by have y := z.2; rw [h2.2.1.2.1]; exact y⟩)
      exact ⟨_, _, _, c, m, ⟨⟨rfl, h1.2⟩, h2, P, ns, nw, nr, hp, hc, hri, hwy, hs, hw, hre, hti⟩⟩
  · have e2 : p_isOfAnother_5 (ui σ 210 0) (σ.1 702) := ⟨m2, e0⟩
    have e : ¬ σ.2.2.1 38 3 = σ.2.2.1 38 1 := fun z => e0 (b2.symm.trans (z.symm.trans a2))
    have c : mm_Runs 999 i_X6_copy (0, [some (.ref 2), some (.int 3), some (.int i), some (.int 1), some (.int j), some (.int n), none, none], [], HH x σ) (some (.int (-12)), HH x (ui (ui σ 210 0) 210 2)) := vc_copy (by omega) (fun z => absurd q z) (fun _ _ => vc_copy_31 (by omega) (fun z => absurd z m1) (fun _ _ z _  => absurd e2 z) (fun _ _ z _ _  => absurd e2 z) (fun _ _ z _ _  => absurd e2 z) (fun _ _ z _ _  => absurd e2 z) (fun _ _ _ => rfl) (fun _ z => absurd z m2)) (fun _ z => absurd q2 z)
    have m := m_copy_2 (x := x) (i := i) (j := j) (n := n) (ui (ui σ 210 0) 210 2) (qm _) (qm2 _) ga gb n1 n2 e
    exact ⟨_, _, _, c, m, ⟨⟨rfl, h1.2⟩, h2, P, ns, nw, nr, hp, hc, hri, hwy, hs, hw, hre, hti⟩⟩
theorem copy_32 {x : Nat × (Nat → Int32)} {σ : mm_S} {i j n : Int32} (hr : Rel σ) : ∃ (r : Int32) (σ1 σ2 : mm_S), mm_Runs 999 i_X6_copy (0, [some (.ref 2), some (.int 3), some (.int i), some (.int 2), some (.int j), some (.int n), none, none], [], HH x σ) (some (.int r), HH x σ1) ∧ mm_Runs 999 i_X7_copy (0, [some (.ref 37), some (.int 3), some (.int i), some (.int 2), some (.int j), some (.int n), none, none, none, none], [], HH x σ1) (some (.int r), HH x σ2) ∧ Rel σ2 := by
  obtain ⟨h1, h2, P, ns, nw, nr, hp, hc, hri, hwy, hs, hw, hre, hti⟩ := id hr
  have q : p_isSheet (ui σ 210 0) 3 := by unfold p_isSheet; decide
  have q2 : p_isSheet (ui σ 210 0) 2 := by unfold p_isSheet; decide
  have qm : ∀ τ : mm_S, p_m_isSheet (ui τ 3700 0) 3 := fun τ => (sheet_iff (ui τ 3700 0) (ui σ 210 0) 3).mpr q
  have qm2 : ∀ τ : mm_S, p_m_isSheet (ui τ 3700 0) 2 := fun τ => (sheet_iff (ui τ 3700 0) (ui σ 210 0) 2).mpr q2
  have ga : ¬ ((3 : Int32) < 0 ∨ 4 ≤ (3 : Int32).toNatClampNeg) := by decide
  have gb : ¬ ((2 : Int32) < 0 ∨ 4 ≤ (2 : Int32).toNatClampNeg) := by decide
  rcases h2.2.2.2.1 with ⟨a1, a2⟩ | ⟨a1, a2, a3⟩
  · have e : σ.1 701 = 0 ∨ σ.1 601 = 0 := Or.inl a1
    have c : mm_Runs 999 i_X6_copy (0, [some (.ref 2), some (.int 3), some (.int i), some (.int 2), some (.int j), some (.int n), none, none], [], HH x σ) (some (.int (-11)), HH x (ui (ui σ 210 0) 210 1)) := vc_copy (by omega) (fun z => absurd q z) (fun _ _ => vc_copy_32 (by omega) (fun _ => rfl) (fun z1 z2 _ _  => e.elim (fun w => absurd w z1) (fun w => absurd w z2)) (fun z1 z2 _ _ _  => e.elim (fun w => absurd w z1) (fun w => absurd w z2)) (fun z1 z2 _ _ _  => e.elim (fun w => absurd w z1) (fun w => absurd w z2)) (fun z1 z2 _ _ _  => e.elim (fun w => absurd w z1) (fun w => absurd w z2)) (fun z1 z2 _  => e.elim (fun w => absurd w z1) (fun w => absurd w z2)) (fun _ _ => rfl)) (fun _ z => absurd q2 z)
    have m := m_copy_1 (x := x) (i := i) (j := j) (n := n) (ui (ui σ 210 0) 210 1) (qm _) (qm2 _) ga gb (Or.inl a2)
    exact ⟨_, _, _, c, m, ⟨⟨rfl, h1.2⟩, h2, P, ns, nw, nr, hp, hc, hri, hwy, hs, hw, hre, hti⟩⟩
  rcases h2.2.2.1.1 with ⟨b1, b2⟩ | ⟨b1, b2, b3⟩
  · have e : σ.1 701 = 0 ∨ σ.1 601 = 0 := Or.inr b1
    have c : mm_Runs 999 i_X6_copy (0, [some (.ref 2), some (.int 3), some (.int i), some (.int 2), some (.int j), some (.int n), none, none], [], HH x σ) (some (.int (-11)), HH x (ui (ui σ 210 0) 210 1)) := vc_copy (by omega) (fun z => absurd q z) (fun _ _ => vc_copy_32 (by omega) (fun _ => rfl) (fun z1 z2 _ _  => e.elim (fun w => absurd w z1) (fun w => absurd w z2)) (fun z1 z2 _ _ _  => e.elim (fun w => absurd w z1) (fun w => absurd w z2)) (fun z1 z2 _ _ _  => e.elim (fun w => absurd w z1) (fun w => absurd w z2)) (fun z1 z2 _ _ _  => e.elim (fun w => absurd w z1) (fun w => absurd w z2)) (fun z1 z2 _  => e.elim (fun w => absurd w z1) (fun w => absurd w z2)) (fun _ _ => rfl)) (fun _ z => absurd q2 z)
    have m := m_copy_1 (x := x) (i := i) (j := j) (n := n) (ui (ui σ 210 0) 210 1) (qm _) (qm2 _) ga gb (Or.inr b2)
    exact ⟨_, _, _, c, m, ⟨⟨rfl, h1.2⟩, h2, P, ns, nw, nr, hp, hc, hri, hwy, hs, hw, hre, hti⟩⟩
  have n1 : ¬ σ.2.2.1 38 3 = -9 := fun z => kd_n9 a3 (a2.symm.trans z)
  have n2 : ¬ σ.2.2.1 38 2 = -9 := fun z => kd_n9 b3 (b2.symm.trans z)
  have m1 : ¬ σ.1 701 = 0 := by rw [a1]; decide
  have m2 : ¬ σ.1 601 = 0 := by rw [b1]; decide
  by_cases e0 : σ.1 602 = σ.1 702
  · have e2 : ¬ p_isOfAnother_6 (ui σ 210 0) (σ.1 702) := fun z => z.2 e0
    have e : σ.2.2.1 38 3 = σ.2.2.1 38 2 := a2.trans (e0.symm.trans b2.symm)
    obtain ⟨la, hla, ela⟩ := h2.2.2.2.2.2.1
    obtain ⟨lb, hlb, elb⟩ := h2.2.2.1.2.2.1
    by_cases g : hcp (σ.1 703) i n ∧ hcp (σ.1 603) j n
    · have g1 := g.1
      have g2 := g.2
      rw [ela] at g1
      rw [elb] at g2
      obtain ⟨ia, ma, rfl, rfl, hia⟩ := (hcN hla _ _).mp g1
      obtain ⟨jb, mb, rfl, emb, hjb⟩ := (hcN hlb _ _).mp g2
      have emm : ma = mb := by
        by_cases hh : mb < 2 ^ 31
        · exact (nI_eq (by omega) hh).mp emb
        · omega
      subst emm
      have cc : ∀ u, u ≤ 60 → (nI u).toNatClampNeg = u := fun u hu => nI_clamp (by omega)
      have gd : ¬ (nI ia < 0 ∨ nI jb < 0 ∨ nI ma < 0 ∨ 60 < (nI ia).toNatClampNeg + (nI ma).toNatClampNeg ∨ 60 < (nI jb).toNatClampNeg + (nI ma).toNatClampNeg) := by
        rw [cc ia (by omega), cc jb (by omega), cc ma (by omega)]
        rintro (z | z | z | z | z)
        · exact nI_pos (by omega) z
        · exact nI_pos (by omega) z
        · exact nI_pos (by omega) z
        · omega
        · omega
      have c : mm_Runs 999 i_X6_copy (0, [some (.ref 2), some (.int 3), some (.int (nI ia)), some (.int 2), some (.int (nI jb)), some (.int (nI ma)), none, none], [], HH x σ) (some (.int (nI ma)), HH x (ua (ui σ 210 0) 10 (va_cpy (σ.2.2.1 11) (σ.2.2.1 10) (nI ia).toNatClampNeg (nI jb).toNatClampNeg (nI ma).toNatClampNeg))) := vc_copy (by omega) (fun z => absurd q z) (fun _ _ => vc_copy_32 (by omega) (fun z => absurd z m1) (fun _ _ _ z => absurd g.1 z) (fun _ _ _ _ _ => gd) (fun _ _ _ _ _ => rfl) (fun _ _ _ _ z => absurd g.2 z) (fun _ _ z => absurd z e2) (fun _ z => absurd z m2)) (fun _ z => absurd q2 z)
      rw [cc ia (by omega), cc jb (by omega), cc ma (by omega)] at c
      have m := m_copy_9 (x := x) (ua (ui σ 210 0) 10 (va_cpy (σ.2.2.1 11) (σ.2.2.1 10) ia jb ma)) (kk := 3) (tt := 2) (a := ia) (b := jb) (m := ma) (by omega) (by omega) (by omega) (by omega) n1 n2 e ⟨by have z := g.1; rw [h2.2.2.2.2.1] at z; exact z, by have z := g.2; rw [h2.2.2.1.2.1] at z; exact z⟩
      exact ⟨_, _, _, c, m, ⟨⟨rfl, h1.2⟩, ⟨⟨h2.1.1, h2.1.2.1, h2.1.2.2.1, cpy_oth (b := 2) (k := 0) (by omega) (by decide) h2.1.2.2.2⟩, ⟨h2.2.1.1, h2.2.1.2.1, h2.2.1.2.2.1, cpy_oth (b := 2) (k := 1) (by omega) (by decide) h2.2.1.2.2.2⟩, ⟨h2.2.2.1.1, h2.2.2.1.2.1, h2.2.2.1.2.2.1, cpy_own (a := 3) (b := 2) (by omega) (by omega) h2.2.2.2.2.2.2 h2.2.2.1.2.2.2⟩, ⟨h2.2.2.2.1, h2.2.2.2.2.1, h2.2.2.2.2.2.1, cpy_oth (b := 2) (k := 3) (by omega) (by decide) h2.2.2.2.2.2.2⟩⟩, P, ns, nw, nr, hp, hc, hri, hwy, hs, hw, hre, hti⟩⟩
    · have c : mm_Runs 999 i_X6_copy (0, [some (.ref 2), some (.int 3), some (.int i), some (.int 2), some (.int j), some (.int n), none, none], [], HH x σ) (some (.int (-13)), HH x (ui (ui σ 210 0) 210 3)) := vc_copy (by omega) (fun z => absurd q z) (fun _ _ => vc_copy_32 (by omega) (fun z => absurd z m1) (fun _ _ _ _ => rfl) (fun _ _ _ z1 z2 => absurd ⟨z1, z2⟩ g) (fun _ _ _ z1 z2 => absurd ⟨z1, z2⟩ g) (fun _ _ _ _ _ => rfl) (fun _ _ z => absurd z e2) (fun _ z => absurd z m2)) (fun _ z => absurd q2 z)
      have m := m_copy_3 (x := x) (i := i) (j := j) (n := n) (ui (ui σ 210 0) 210 3) (qm _) (qm2 _) ga gb n1 n2 e (fun z => g ⟨by have y := z.1; rw [h2.2.2.2.2.1]; exact y, by have y := z.2; rw [h2.2.2.1.2.1]; exact y⟩)
      exact ⟨_, _, _, c, m, ⟨⟨rfl, h1.2⟩, h2, P, ns, nw, nr, hp, hc, hri, hwy, hs, hw, hre, hti⟩⟩
  · have e2 : p_isOfAnother_6 (ui σ 210 0) (σ.1 702) := ⟨m2, e0⟩
    have e : ¬ σ.2.2.1 38 3 = σ.2.2.1 38 2 := fun z => e0 (b2.symm.trans (z.symm.trans a2))
    have c : mm_Runs 999 i_X6_copy (0, [some (.ref 2), some (.int 3), some (.int i), some (.int 2), some (.int j), some (.int n), none, none], [], HH x σ) (some (.int (-12)), HH x (ui (ui σ 210 0) 210 2)) := vc_copy (by omega) (fun z => absurd q z) (fun _ _ => vc_copy_32 (by omega) (fun z => absurd z m1) (fun _ _ z _  => absurd e2 z) (fun _ _ z _ _  => absurd e2 z) (fun _ _ z _ _  => absurd e2 z) (fun _ _ z _ _  => absurd e2 z) (fun _ _ _ => rfl) (fun _ z => absurd z m2)) (fun _ z => absurd q2 z)
    have m := m_copy_2 (x := x) (i := i) (j := j) (n := n) (ui (ui σ 210 0) 210 2) (qm _) (qm2 _) ga gb n1 n2 e
    exact ⟨_, _, _, c, m, ⟨⟨rfl, h1.2⟩, h2, P, ns, nw, nr, hp, hc, hri, hwy, hs, hw, hre, hti⟩⟩
theorem copy_33 {x : Nat × (Nat → Int32)} {σ : mm_S} {i j n : Int32} (hr : Rel σ) : ∃ (r : Int32) (σ1 σ2 : mm_S), mm_Runs 999 i_X6_copy (0, [some (.ref 2), some (.int 3), some (.int i), some (.int 3), some (.int j), some (.int n), none, none], [], HH x σ) (some (.int r), HH x σ1) ∧ mm_Runs 999 i_X7_copy (0, [some (.ref 37), some (.int 3), some (.int i), some (.int 3), some (.int j), some (.int n), none, none, none, none], [], HH x σ1) (some (.int r), HH x σ2) ∧ Rel σ2 := by
  obtain ⟨h1, h2, P, ns, nw, nr, hp, hc, hri, hwy, hs, hw, hre, hti⟩ := id hr
  have q : p_isSheet (ui σ 210 0) 3 := by unfold p_isSheet; decide
  have q2 : p_isSheet (ui σ 210 0) 3 := by unfold p_isSheet; decide
  have qm : ∀ τ : mm_S, p_m_isSheet (ui τ 3700 0) 3 := fun τ => (sheet_iff (ui τ 3700 0) (ui σ 210 0) 3).mpr q
  have qm2 : ∀ τ : mm_S, p_m_isSheet (ui τ 3700 0) 3 := fun τ => (sheet_iff (ui τ 3700 0) (ui σ 210 0) 3).mpr q2
  have ga : ¬ ((3 : Int32) < 0 ∨ 4 ≤ (3 : Int32).toNatClampNeg) := by decide
  have gb : ¬ ((3 : Int32) < 0 ∨ 4 ≤ (3 : Int32).toNatClampNeg) := by decide
  rcases h2.2.2.2.1 with ⟨a1, a2⟩ | ⟨a1, a2, a3⟩
  · have e : σ.1 701 = 0 := a1
    have c : mm_Runs 999 i_X6_copy (0, [some (.ref 2), some (.int 3), some (.int i), some (.int 3), some (.int j), some (.int n), none, none], [], HH x σ) (some (.int (-11)), HH x (ui (ui σ 210 0) 210 1)) := vc_copy (by omega) (fun z => absurd q z) (fun _ _ => vc_copy_33 (by omega) (fun _ => rfl) (fun z _ _  => absurd e z) (fun z _ _ _  => absurd e z) (fun z _ _ _  => absurd e z) (fun z _ _ _  => absurd e z) (fun z _  => absurd e z)) (fun _ z => absurd q2 z)
    have m := m_copy_1 (x := x) (i := i) (j := j) (n := n) (ui (ui σ 210 0) 210 1) (qm _) (qm2 _) ga gb (Or.inl a2)
    exact ⟨_, _, _, c, m, ⟨⟨rfl, h1.2⟩, h2, P, ns, nw, nr, hp, hc, hri, hwy, hs, hw, hre, hti⟩⟩
  · have b1 := a1
    have b2 := a2
    have b3 := a3
    have n1 : ¬ σ.2.2.1 38 3 = -9 := fun z => kd_n9 a3 (a2.symm.trans z)
    have n2 : ¬ σ.2.2.1 38 3 = -9 := fun z => kd_n9 b3 (b2.symm.trans z)
    have m1 : ¬ σ.1 701 = 0 := by rw [a1]; decide
    have m2 : ¬ σ.1 701 = 0 := by rw [b1]; decide
    by_cases e0 : σ.1 702 = σ.1 702
    · have e2 : ¬ p_isOfAnother_7 (ui σ 210 0) (σ.1 702) := fun z => z.2 e0
      have e : σ.2.2.1 38 3 = σ.2.2.1 38 3 := a2.trans (e0.symm.trans b2.symm)
      obtain ⟨la, hla, ela⟩ := h2.2.2.2.2.2.1
      obtain ⟨lb, hlb, elb⟩ := h2.2.2.2.2.2.1
      by_cases g : hcp (σ.1 703) i n ∧ hcp (σ.1 703) j n
      · have g1 := g.1
        have g2 := g.2
        rw [ela] at g1
        rw [elb] at g2
        obtain ⟨ia, ma, rfl, rfl, hia⟩ := (hcN hla _ _).mp g1
        obtain ⟨jb, mb, rfl, emb, hjb⟩ := (hcN hlb _ _).mp g2
        have emm : ma = mb := by
          by_cases hh : mb < 2 ^ 31
          · exact (nI_eq (by omega) hh).mp emb
          · omega
        subst emm
        have cc : ∀ u, u ≤ 60 → (nI u).toNatClampNeg = u := fun u hu => nI_clamp (by omega)
        have gd : ¬ (nI ia < 0 ∨ nI jb < 0 ∨ nI ma < 0 ∨ 60 < (nI ia).toNatClampNeg + (nI ma).toNatClampNeg ∨ 60 < (nI jb).toNatClampNeg + (nI ma).toNatClampNeg) := by
          rw [cc ia (by omega), cc jb (by omega), cc ma (by omega)]
          rintro (z | z | z | z | z)
          · exact nI_pos (by omega) z
          · exact nI_pos (by omega) z
          · exact nI_pos (by omega) z
          · omega
          · omega
        have c : mm_Runs 999 i_X6_copy (0, [some (.ref 2), some (.int 3), some (.int (nI ia)), some (.int 3), some (.int (nI jb)), some (.int (nI ma)), none, none], [], HH x σ) (some (.int (nI ma)), HH x (ua (ui σ 210 0) 11 (va_cpy (σ.2.2.1 11) (σ.2.2.1 11) (nI ia).toNatClampNeg (nI jb).toNatClampNeg (nI ma).toNatClampNeg))) := vc_copy (by omega) (fun z => absurd q z) (fun _ _ => vc_copy_33 (by omega) (fun z => absurd z m1) (fun _ _ z => absurd g.1 z) (fun _ _ _ _ => gd) (fun _ _ _ _ => rfl) (fun _ _ _ z => absurd g.2 z) (fun _ z => absurd z e2)) (fun _ z => absurd q2 z)
        rw [cc ia (by omega), cc jb (by omega), cc ma (by omega)] at c
        have m := m_copy_9 (x := x) (ua (ui σ 210 0) 11 (va_cpy (σ.2.2.1 11) (σ.2.2.1 11) ia jb ma)) (kk := 3) (tt := 3) (a := ia) (b := jb) (m := ma) (by omega) (by omega) (by omega) (by omega) n1 n2 e ⟨by have z := g.1; rw [h2.2.2.2.2.1] at z; exact z, by have z := g.2; rw [h2.2.2.2.2.1] at z; exact z⟩
        exact ⟨_, _, _, c, m, ⟨⟨rfl, h1.2⟩, ⟨⟨h2.1.1, h2.1.2.1, h2.1.2.2.1, cpy_oth (b := 3) (k := 0) (by omega) (by decide) h2.1.2.2.2⟩, ⟨h2.2.1.1, h2.2.1.2.1, h2.2.1.2.2.1, cpy_oth (b := 3) (k := 1) (by omega) (by decide) h2.2.1.2.2.2⟩, ⟨h2.2.2.1.1, h2.2.2.1.2.1, h2.2.2.1.2.2.1, cpy_oth (b := 3) (k := 2) (by omega) (by decide) h2.2.2.1.2.2.2⟩, ⟨h2.2.2.2.1, h2.2.2.2.2.1, h2.2.2.2.2.2.1, cpy_own (a := 3) (b := 3) (by omega) (by omega) h2.2.2.2.2.2.2 h2.2.2.2.2.2.2⟩⟩, P, ns, nw, nr, hp, hc, hri, hwy, hs, hw, hre, hti⟩⟩
      · have c : mm_Runs 999 i_X6_copy (0, [some (.ref 2), some (.int 3), some (.int i), some (.int 3), some (.int j), some (.int n), none, none], [], HH x σ) (some (.int (-13)), HH x (ui (ui σ 210 0) 210 3)) := vc_copy (by omega) (fun z => absurd q z) (fun _ _ => vc_copy_33 (by omega) (fun z => absurd z m1) (fun _ _ _ => rfl) (fun _ _ z1 z2 => absurd ⟨z1, z2⟩ g) (fun _ _ z1 z2 => absurd ⟨z1, z2⟩ g) (fun _ _ _ _ => rfl) (fun _ z => absurd z e2)) (fun _ z => absurd q2 z)
        have m := m_copy_3 (x := x) (i := i) (j := j) (n := n) (ui (ui σ 210 0) 210 3) (qm _) (qm2 _) ga gb n1 n2 e (fun z => g ⟨by have y := z.1; rw [h2.2.2.2.2.1]; exact y, by have y := z.2; rw [h2.2.2.2.2.1]; exact y⟩)
        exact ⟨_, _, _, c, m, ⟨⟨rfl, h1.2⟩, h2, P, ns, nw, nr, hp, hc, hri, hwy, hs, hw, hre, hti⟩⟩
    · have e2 : p_isOfAnother_7 (ui σ 210 0) (σ.1 702) := ⟨m2, e0⟩
      have e : ¬ σ.2.2.1 38 3 = σ.2.2.1 38 3 := fun z => e0 (b2.symm.trans (z.symm.trans a2))
      have c : mm_Runs 999 i_X6_copy (0, [some (.ref 2), some (.int 3), some (.int i), some (.int 3), some (.int j), some (.int n), none, none], [], HH x σ) (some (.int (-12)), HH x (ui (ui σ 210 0) 210 2)) := vc_copy (by omega) (fun z => absurd q z) (fun _ _ => vc_copy_33 (by omega) (fun z => absurd z m1) (fun _ z _  => absurd e2 z) (fun _ z _ _  => absurd e2 z) (fun _ z _ _  => absurd e2 z) (fun _ z _ _  => absurd e2 z) (fun _ _ => rfl)) (fun _ z => absurd q2 z)
      have m := m_copy_2 (x := x) (i := i) (j := j) (n := n) (ui (ui σ 210 0) 210 2) (qm _) (qm2 _) ga gb n1 n2 e
      exact ⟨_, _, _, c, m, ⟨⟨rfl, h1.2⟩, h2, P, ns, nw, nr, hp, hc, hri, hwy, hs, hw, hre, hti⟩⟩
theorem op_copy : opI Rel i_X6_copy i_X7_copy 5 := by
  intro x σ as h hr
  obtain ⟨k, i, t, j, n, rfl⟩ := as_5 h
  obtain ⟨h1, h2, P, ns, nw, nr, hp, hc, hri, hwy, hs, hw, hre, hti⟩ := id hr
  have bad : (¬ p_isSheet (ui σ 210 0) k ∨ ¬ p_isSheet (ui σ 210 0) t) → mm_Runs 999 i_X6_copy (0, [some (.ref 2), some (.int k), some (.int i), some (.int t), some (.int j), some (.int n), none, none], [], HH x σ) (some (.int (-1)), HH x (ui σ 210 0)) ∧ mm_Runs 999 i_X7_copy (0, [some (.ref 37), some (.int k), some (.int i), some (.int t), some (.int j), some (.int n), none, none, none, none], [], HH x (ui σ 210 0)) (some (.int (-1)), HH x (ui (ui σ 210 0) 3700 0)) := by
    intro e
    have e2 : ¬ p_m_isSheet (ui (ui σ 210 0) 3700 0) k ∨ ¬ p_m_isSheet (ui (ui σ 210 0) 3700 0) t := e.imp (fun z y => z ((sheet_iff (ui (ui σ 210 0) 3700 0) (ui σ 210 0) k).mp y)) (fun z y => z ((sheet_iff (ui (ui σ 210 0) 3700 0) (ui σ 210 0) t).mp y))
    refine ⟨vc_copy (by omega) (fun _ => rfl) (fun z1 z2 => e.elim (fun w => absurd z1 w) (fun w => absurd z2 w)) (fun _ _ => rfl), ?_⟩
    exact vc_m_copy (by omega) (fun _ => rfl) (fun z1 z2 => e2.elim (fun w => absurd z1 w) (fun w => absurd z2 w)) (fun z1 z2 _ => e2.elim (fun w => absurd z1 w) (fun w => absurd z2 w)) (fun z1 z2 _ => e2.elim (fun w => absurd z1 w) (fun w => absurd z2 w)) (fun z1 z2 _ _ => e2.elim (fun w => absurd z1 w) (fun w => absurd z2 w)) (fun z1 z2 _ _ => e2.elim (fun w => absurd z1 w) (fun w => absurd z2 w)) (fun z1 z2 _ _ _ _ => e2.elim (fun w => absurd z1 w) (fun w => absurd z2 w)) (fun z1 z2 _ _ _ _ _ => e2.elim (fun w => absurd z1 w) (fun w => absurd z2 w)) (fun z1 z2 _ _ _ _ _ _ => e2.elim (fun w => absurd z1 w) (fun w => absurd z2 w)) (fun z1 z2 _ _ _ _ _ _ => e2.elim (fun w => absurd z1 w) (fun w => absurd z2 w)) (fun z1 z2 _ _ _ _ _ _ _ => e2.elim (fun w => absurd z1 w) (fun w => absurd z2 w)) (fun z1 z2 _ _ _ _ _ _ _ => e2.elim (fun w => absurd z1 w) (fun w => absurd z2 w)) (fun z1 z2 _ _ _ _ _ _ _ _ => e2.elim (fun w => absurd z1 w) (fun w => absurd z2 w)) (fun z1 z2 _ _ _ _ _ _ _ _ => e2.elim (fun w => absurd z1 w) (fun w => absurd z2 w)) (fun z1 z2 _ _ _ _ _ _ _ _ _ => e2.elim (fun w => absurd z1 w) (fun w => absurd z2 w)) (fun z1 z2 _ _ _ _ _ _ _ _ _ => e2.elim (fun w => absurd z1 w) (fun w => absurd z2 w)) (fun z1 z2 _ _ _ _ _ _ _ _ _ _ _ => e2.elim (fun w => absurd z1 w) (fun w => absurd z2 w)) (fun z1 z2 _ _ _ _ _ _ _ _ _ _ _ => e2.elim (fun w => absurd z1 w) (fun w => absurd z2 w)) (fun z1 z2 _ _ _ _ _ _ _ _ _ _ => e2.elim (fun w => absurd z1 w) (fun w => absurd z2 w)) (fun z1 z2 _ _ _ => e2.elim (fun w => absurd z1 w) (fun w => absurd z2 w)) (fun z1 z2 _ _ => e2.elim (fun w => absurd z1 w) (fun w => absurd z2 w)) (fun _ _ => rfl)
  rcases sheet_4 (ui σ 210 0) k with q | ⟨-, rfl | rfl | rfl | rfl⟩
  · exact ⟨_, _, _, (bad (Or.inl q)).1, (bad (Or.inl q)).2, ⟨⟨rfl, h1.2⟩, h2, P, ns, nw, nr, hp, hc, hri, hwy, hs, hw, hre, hti⟩⟩
  · rcases sheet_4 (ui σ 210 0) t with q | ⟨-, rfl | rfl | rfl | rfl⟩
    · exact ⟨_, _, _, (bad (Or.inr q)).1, (bad (Or.inr q)).2, ⟨⟨rfl, h1.2⟩, h2, P, ns, nw, nr, hp, hc, hri, hwy, hs, hw, hre, hti⟩⟩
    · exact copy_00 hr
    · exact copy_01 hr
    · exact copy_02 hr
    · exact copy_03 hr
  · rcases sheet_4 (ui σ 210 0) t with q | ⟨-, rfl | rfl | rfl | rfl⟩
    · exact ⟨_, _, _, (bad (Or.inr q)).1, (bad (Or.inr q)).2, ⟨⟨rfl, h1.2⟩, h2, P, ns, nw, nr, hp, hc, hri, hwy, hs, hw, hre, hti⟩⟩
    · exact copy_10 hr
    · exact copy_11 hr
    · exact copy_12 hr
    · exact copy_13 hr
  · rcases sheet_4 (ui σ 210 0) t with q | ⟨-, rfl | rfl | rfl | rfl⟩
    · exact ⟨_, _, _, (bad (Or.inr q)).1, (bad (Or.inr q)).2, ⟨⟨rfl, h1.2⟩, h2, P, ns, nw, nr, hp, hc, hri, hwy, hs, hw, hre, hti⟩⟩
    · exact copy_20 hr
    · exact copy_21 hr
    · exact copy_22 hr
    · exact copy_23 hr
  · rcases sheet_4 (ui σ 210 0) t with q | ⟨-, rfl | rfl | rfl | rfl⟩
    · exact ⟨_, _, _, (bad (Or.inr q)).1, (bad (Or.inr q)).2, ⟨⟨rfl, h1.2⟩, h2, P, ns, nw, nr, hp, hc, hri, hwy, hs, hw, hre, hti⟩⟩
    · exact copy_30 hr
    · exact copy_31 hr
    · exact copy_32 hr
    · exact copy_33 hr
