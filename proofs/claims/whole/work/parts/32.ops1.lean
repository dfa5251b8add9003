/-! operations that read or count -/
theorem as_0 {as : List Int32} (h : as.length = 0) : as = [] := List.length_eq_zero_iff.mp h
theorem as_1 {as : List Int32} (h : as.length = 1) : ∃ a, as = [a] := List.length_eq_one_iff.mp h
theorem as_2 {as : List Int32} (h : as.length = 2) : ∃ a b, as = [a, b] := by
  match as, h with
  | [a, b], _ => exact ⟨a, b, rfl⟩
theorem as_3 {as : List Int32} (h : as.length = 3) : ∃ a b c, as = [a, b, c] := by
  match as, h with
  | [a, b, c], _ => exact ⟨a, b, c, rfl⟩
theorem as_4 {as : List Int32} (h : as.length = 4) : ∃ a b c d, as = [a, b, c, d] := by
  match as, h with
  | [a, b, c, d], _ => exact ⟨a, b, c, d, rfl⟩
theorem as_5 {as : List Int32} (h : as.length = 5) : ∃ a b c d e, as = [a, b, c, d, e] := by
  match as, h with
  | [a, b, c, d, e], _ => exact ⟨a, b, c, d, e, rfl⟩
theorem op_trace : opI Rel 67 151 0 := by
  intro x σ as h hr
  obtain rfl := as_0 h
  refine ⟨f_trace σ, σ, σ, r_trace (by omega), ?_, hr⟩
  have e : f_trace σ = f_m_trace σ := hr.1.2
  rw [e]
  exact r_m_trace (by omega)
theorem op_fault : opI Rel 68 152 0 := by
  intro x σ as h hr
  obtain rfl := as_0 h
  refine ⟨f_fault σ, σ, σ, r_fault (by omega), ?_, hr⟩
  have e : f_fault σ = f_m_fault σ := hr.1.1
  rw [e]
  exact r_m_fault (by omega)
theorem op_many : opI Rel 69 153 1 := by
  intro x σ as h hr
  obtain ⟨k, rfl⟩ := as_1 h
  refine ⟨f_many σ k, σ, σ, r_many (by omega), ?_, hr⟩
  have e : f_many σ k = f_m_many σ k := by
    obtain ⟨-, -, P, ns, nw, nr, hp, -, -, -, hs, hw, hre, -⟩ := hr
    unfold f_many f_m_many f_m_all
    rw [hp.2.2.1, hp.2.2.2.1, hp.2.2.2.2.1, hp.2.2.2.2.2.1, pk_mul, hs.2.1, hs.2.2.1, hw.2.1, hw.2.2.1, hre.2.1, hre.2.2.1]
    rfl
  rw [e]
  exact r_m_many (by omega)
/-- how a number lies against a count: below 0, above it, or one of 0 .. n -/
theorem cnt_3 (k : Int32) {n : Nat} (hn : n < 2 ^ 30) : k < 0 ∨ (¬ k < 0 ∧ ¬ k ≤ nI n ∧ nI n < k) ∨ ∃ j : Nat, j ≤ n ∧ k = nI j ∧ ¬ k < 0 ∧ k ≤ nI n ∧ ¬ nI n < k ∧ nI n - k = nI (n - j) := by
  rcases pk_ix k (n := n + 1) (by omega) with h | h | ⟨j, hj, rfl⟩
  · exact Or.inl h
  · refine Or.inr (Or.inl ?_)
    rw [Int32.le_iff_toInt_le, nI_toInt (by omega)] at h
    refine ⟨?_, ?_, ?_⟩
    · rw [Int32.lt_iff_toInt_lt]; show ¬ k.toInt < 0; omega
    · rw [Int32.le_iff_toInt_le, nI_toInt (by omega)]; omega
    · rw [Int32.lt_iff_toInt_lt, nI_toInt (by omega)]; omega
  · refine Or.inr (Or.inr ⟨j, by omega, rfl, nI_pos (by omega), nI_le (by omega) (by omega), nI_nlt (by omega) (by omega), pk_sub (by omega)⟩)
theorem op_back : opI Rel i_X6_back i_X7_back 1 := by
  intro x σ as h hr
  obtain ⟨k, rfl⟩ := as_1 h
  obtain ⟨h1, h2, P, ns, nw, nr, hp, hc, hri, hwy, hs, hw, hre, hti⟩ := id hr
  have ec := hs.2.1
  have em := hs.2.2.1
  have hn := hs.1
  have key : f_m_back (g_back σ k) k = f_back σ k ∧ Rel (g_m_back (g_back σ k) k) := by
    rcases cnt_3 k (n := ns) (by omega) with q | ⟨q1, q2, q3⟩ | ⟨j, hj, rfl, q1, q2, q3, q4⟩
    · have e1 : f_takeBack_16 σ k = -2 := by simp [f_takeBack_16, q]
      have e2 : g_takeBack_16 σ k = σ := by simp [g_takeBack_16, q]
      have e3 : g_back σ k = σ := by unfold g_back; exact e2
      rw [e3]
      exact ⟨by simp [f_m_back, f_back, e1, p_m_within, q], by rw [show g_m_back σ k = σ by simp [g_m_back, p_m_within, q]]; exact hr⟩
    · have e1 : f_takeBack_16 σ k = -2 := by simp [f_takeBack_16, ec, q1, q2]
      have e2 : g_takeBack_16 σ k = σ := by simp [g_takeBack_16, ec, q1, q2]
      have e3 : g_back σ k = σ := by unfold g_back; exact e2
      rw [e3]
      exact ⟨by simp [f_m_back, f_back, e1, p_m_within, em, q1, q3], by rw [show g_m_back σ k = σ by simp [g_m_back, p_m_within, em, q1, q3]]; exact hr⟩
    · have e1 : f_takeBack_16 σ (nI j) = nI (ns - j) := by simp [f_takeBack_16, ec, q1, q2, q4]
      have e2 : g_takeBack_16 σ (nI j) = ui σ 1603 (nI (ns - j)) := by simp [g_takeBack_16, ec, q1, q2, q4]
      have e3 : g_back σ (nI j) = ui σ 1603 (nI (ns - j)) := by unfold g_back; exact e2
      rw [e3]
      have em2 : (ui σ 1603 (nI (ns - j))).1 3713 = nI ns := em
      refine ⟨by simp [f_m_back, f_back, e1, p_m_within, em2, q1, q3, q4], ?_⟩
      rw [show ∀ τ : mm_S, τ.1 3713 = nI ns → g_m_back τ (nI j) = ui τ 3713 (nI (ns - j)) from fun τ et => by simp [g_m_back, p_m_within, et, q1, q3, q4]]
      · exact ⟨h1, h2, P, ns - j, nw, nr, hp, hc, hri, hwy, ⟨by omega, rfl, rfl, fun i hi => hs.2.2.2 i (by omega)⟩, hw, hre, hti⟩
      · exact em2
  refine ⟨f_back σ k, g_back σ k, g_m_back (g_back σ k) k, r_back (by omega), ?_, key.2⟩
  rw [← key.1]
  exact r_m_back (by omega)
theorem op_pull : opI Rel i_X6_pull i_X7_pull 1 := by
  intro x σ as h hr
  obtain ⟨k, rfl⟩ := as_1 h
  obtain ⟨h1, h2, P, ns, nw, nr, hp, hc, hri, hwy, hs, hw, hre, hti⟩ := id hr
  have ec := hre.2.1
  have em := hre.2.2.1
  have hn := hre.1
  have key : f_m_pull (g_pull σ k) k = f_pull σ k ∧ Rel (g_m_pull (g_pull σ k) k) := by
    rcases cnt_3 k (n := nr) (by omega) with q | ⟨q1, q2, q3⟩ | ⟨j, hj, rfl, q1, q2, q3, q4⟩
    · have e1 : f_takeBack_24 σ k = -2 := by simp [f_takeBack_24, q]
      have e2 : g_takeBack_24 σ k = σ := by simp [g_takeBack_24, q]
      have e3 : g_pull σ k = σ := by unfold g_pull; exact e2
      rw [e3]
      exact ⟨by simp [f_m_pull, f_pull, e1, p_m_within, q], by rw [show g_m_pull σ k = σ by simp [g_m_pull, p_m_within, q]]; exact hr⟩
    · have e1 : f_takeBack_24 σ k = -2 := by simp [f_takeBack_24, ec, q1, q2]
      have e2 : g_takeBack_24 σ k = σ := by simp [g_takeBack_24, ec, q1, q2]
      have e3 : g_pull σ k = σ := by unfold g_pull; exact e2
      rw [e3]
      exact ⟨by simp [f_m_pull, f_pull, e1, p_m_within, em, q1, q3], by rw [show g_m_pull σ k = σ by simp [g_m_pull, p_m_within, em, q1, q3]]; exact hr⟩
    · have e1 : f_takeBack_24 σ (nI j) = nI (nr - j) := by simp [f_takeBack_24, ec, q1, q2, q4]
      have e2 : g_takeBack_24 σ (nI j) = ui σ 2403 (nI (nr - j)) := by simp [g_takeBack_24, ec, q1, q2, q4]
      have e3 : g_pull σ (nI j) = ui σ 2403 (nI (nr - j)) := by unfold g_pull; exact e2
      rw [e3]
      have em2 : (ui σ 2403 (nI (nr - j))).1 3725 = nI nr := em
      refine ⟨by simp [f_m_pull, f_pull, e1, p_m_within, em2, q1, q3, q4], ?_⟩
      rw [show ∀ τ : mm_S, τ.1 3725 = nI nr → g_m_pull τ (nI j) = ui τ 3725 (nI (nr - j)) from fun τ et => by simp [g_m_pull, p_m_within, et, q1, q3, q4]]
      · exact ⟨h1, h2, P, ns, nw, nr - j, hp, hc, hri, hwy, hs, hw, ⟨by omega, rfl, rfl, fun i hi => hre.2.2.2 i (by omega)⟩, hti⟩
      · exact em2
  refine ⟨f_pull σ k, g_pull σ k, g_m_pull (g_pull σ k) k, r_pull (by omega), ?_, key.2⟩
  rw [← key.1]
  exact r_m_pull (by omega)
theorem op_drop : opI Rel i_X6_drop i_X7_drop 1 := by
  intro x σ as h hr
  obtain ⟨k, rfl⟩ := as_1 h
  obtain ⟨h1, h2, P, ns, nw, nr, hp, hc, hri, hwy, hs, hw, hre, hti⟩ := id hr
  have ec := hw.2.1
  have em := hw.2.2.1
  have hn := hw.1
  have key : f_m_drop (g_drop σ k) k = f_drop σ k ∧ Rel (g_m_drop (g_drop σ k) k) := by
    rcases cnt_3 k (n := nw) (by omega) with q | ⟨q1, q2, q3⟩ | ⟨j, hj, rfl, q1, q2, q3, q4⟩
    · have e1 : f_takeBack_20 σ k = -2 := by simp [f_takeBack_20, q]
      have e2 : g_takeBack_20 σ k = σ := by simp [g_takeBack_20, q]
      have e3 : g_drop σ k = σ := by unfold g_drop; rw [e1]; simp [e2]
      rw [e3]
      exact ⟨by simp [f_m_drop, f_drop, e1, p_m_within, q], by rw [show g_m_drop σ k = σ by simp [g_m_drop, p_m_within, q]]; exact hr⟩
    · have e1 : f_takeBack_20 σ k = -2 := by simp [f_takeBack_20, ec, q1, q2]
      have e2 : g_takeBack_20 σ k = σ := by simp [g_takeBack_20, ec, q1, q2]
      have e3 : g_drop σ k = σ := by unfold g_drop; rw [e1]; simp [e2]
      rw [e3]
      exact ⟨by simp [f_m_drop, f_drop, e1, p_m_within, em, q1, q3], by rw [show g_m_drop σ k = σ by simp [g_m_drop, p_m_within, em, q1, q3]]; exact hr⟩
    · have e1 : f_takeBack_20 σ (nI j) = nI (nw - j) := by simp [f_takeBack_20, ec, q1, q2, q4]
      have e2 : g_takeBack_20 σ (nI j) = ui σ 2003 (nI (nw - j)) := by simp [g_takeBack_20, ec, q1, q2, q4]
      have e3 : g_drop σ (nI j) = ui (ui σ 2003 (nI (nw - j))) 2904 0 := by unfold g_drop; rw [e1, e2, if_neg (nI_pos (by omega))]; rfl
      rw [e3]
      have em2 : (ui (ui σ 2003 (nI (nw - j))) 2904 0).1 3720 = nI nw := em
      refine ⟨by simp [f_m_drop, f_drop, e1, p_m_within, em2, q1, q3, q4], ?_⟩
      rw [show ∀ τ : mm_S, τ.1 3720 = nI nw → g_m_drop τ (nI j) = ui τ 3720 (nI (nw - j)) from fun τ et => by simp [g_m_drop, p_m_within, et, q1, q3, q4]]
      · exact ⟨h1, h2, P, ns, nw - j, nr, hp, hc, hri, hwy, hs, ⟨by omega, rfl, rfl, fun i hi => hw.2.2.2 i (by omega)⟩, hre, ⟨fun i j hi hj => hti.1 i j (by omega) (by omega), Or.inl rfl⟩⟩
      · exact em2
  refine ⟨f_drop σ k, g_drop σ k, g_m_drop (g_drop σ k) k, r_drop (by omega), ?_, key.2⟩
  rw [← key.1]
  exact r_m_drop (by omega)
/-- how a number lies against a row of n: outside, or one of 0 .. n - 1 -/
theorem ix_3 (k : Int32) {n N : Nat} (hn : n ≤ N) (hN : N < 2 ^ 30) : (¬ (¬ k < 0 ∧ ¬ nI n ≤ k)) ∨ ∃ j : Nat, j < n ∧ k = nI j ∧ (¬ k < 0 ∧ ¬ nI n ≤ k) ∧ ¬ (k < 0 ∨ N ≤ k.toNatClampNeg) ∧ k.toNatClampNeg = j := by
  rcases pk_ix k (n := n) (by omega) with h | h | ⟨j, hj, rfl⟩
  · exact Or.inl (fun q => q.1 h)
  · exact Or.inl (fun q => q.2 h)
  · exact Or.inr ⟨j, hj, rfl, ⟨nI_pos (by omega), nI_ge hj (by omega)⟩, nI_in (by omega) (by omega), nI_clamp (by omega)⟩
theorem op_ofWish : opI Rel i_X6_ofWish i_X7_ofWish 2 := by
  intro x σ as h hr
  obtain ⟨k, j, rfl⟩ := as_2 h
  obtain ⟨h1, h2, P, ns, nw, nr, hp, hc, hri, hwy, hs, hw, hre, hti⟩ := id hr
  have ec := hw.2.1
  have em := hw.2.2.1
  rcases ix_3 k (n := nw) (N := 6) hw.1 (by omega) with q | ⟨i, hi, rfl, q, qg, qc⟩
  · have qa : ¬ p_has_20 σ k := by unfold p_has_20; rw [ec]; exact q
    have qb : ¬ p_m_isWish σ k := by unfold p_m_isWish; rw [em]; exact q
    have c := r_ofWish (d := 999) (x := x) (σ := σ) (k := k) (j := j) (by omega) (fun z => absurd z qa) (fun z => absurd z qa)
    have m := r_m_ofWish (d := 999) (x := x) (σ := σ) (k := k) (j := j) (by omega) (fun z => absurd z qb) (fun z => absurd z qb)
    rw [show f_ofWish σ k j = -1 by unfold f_ofWish; rw [if_neg qa]] at c
    rw [show f_m_ofWish σ k j = -1 by unfold f_m_ofWish; rw [if_neg qb]] at m
    exact ⟨-1, σ, σ, c, m, hr⟩
  · have qa : p_has_20 σ (nI i) := by unfold p_has_20; rw [ec]; exact q
    have qb : p_m_isWish σ (nI i) := by unfold p_m_isWish; rw [em]; exact q
    have c := r_ofWish (d := 999) (x := x) (σ := σ) (k := nI i) (j := j) (by omega) (fun _ _ _ => qg) (fun _ _ => qg)
    have m := r_m_ofWish (d := 999) (x := x) (σ := σ) (k := nI i) (j := j) (by omega) (fun _ _ _ => qg) (fun _ _ => qg)
    have e : f_m_ofWish σ (nI i) j = f_ofWish σ (nI i) j := by
      unfold f_m_ofWish f_ofWish
      rw [if_pos qa, if_pos qb, qc, (hw.2.2.2 i hi).1.1, (hw.2.2.2 i hi).1.2]
    rw [e] at m
    exact ⟨_, σ, σ, c, m, hr⟩
theorem op_tell : opI Rel i_X6_tell i_X7_tell 1 := by
  intro x σ as h hr
  obtain ⟨k, rfl⟩ := as_1 h
  obtain ⟨h1, h2, P, ns, nw, nr, hp, hc, hri, hwy, hs, hw, hre, hti⟩ := id hr
  have ec := hw.2.1
  have em := hw.2.2.1
  rcases ix_3 k (n := nw) (N := 6) hw.1 (by omega) with q | ⟨i, hi, rfl, q, qg, qc⟩
  · have qa : ¬ p_has_20 σ k := by unfold p_has_20; rw [ec]; exact q
    have qb : ¬ p_m_isWish σ k := by unfold p_m_isWish; rw [em]; exact q
    have c := r_tell (d := 999) (x := x) (σ := σ) (k := k) (by omega) (fun z => absurd z qa) (fun z => absurd z qa)
    have m := r_m_tell (d := 999) (x := x) (σ := σ) (k := k) (by omega) (fun z => absurd z qb) (fun z => absurd z qb)
    rw [show f_tell σ k = -1 by unfold f_tell; rw [if_neg qa], show g_tell σ k = σ by unfold g_tell; rw [if_neg qa]] at c
    rw [show f_m_tell σ k = -1 by unfold f_m_tell; rw [if_neg qb], show g_m_tell σ k = σ by unfold g_m_tell; rw [if_neg qb]] at m
    exact ⟨-1, σ, σ, c, m, hr⟩
  · have qa : p_has_20 σ (nI i) := by unfold p_has_20; rw [ec]; exact q
    have c := r_tell (d := 999) (x := x) (σ := σ) (k := nI i) (by omega) (fun _ => qg) (fun _ => qg)
    have m := fun τ : mm_S => r_m_tell (d := 999) (x := x) (σ := τ) (k := nI i) (by omega) (fun _ => qg) (fun _ => qg)
    obtain ⟨⟨w1, w2⟩, w3, w4⟩ := hw.2.2.2 i hi
    have et := h1.2
    have qb : ∀ τ : mm_S, τ.1 3720 = nI nw → p_m_isWish τ (nI i) := fun τ e => by unfold p_m_isWish; rw [e]; exact q
    rcases w3 with w3 | w3 | w3
    · have w5 := w1.symm.trans w3
      have ef : f_tell σ (nI i) = σ.2.2.1 22 i := by unfold f_tell; rw [if_pos qa, qc, w3]; rfl
      have eg : g_tell σ (nI i) = g_leave σ 1 := by unfold g_tell; rw [if_pos qa, qc, w3]; rfl
      rw [ef, eg] at c
      have mf : ∀ τ : mm_S, τ.1 3720 = nI nw → τ.2.2.1 47 i = 0 → τ.2.2.1 48 i = σ.2.2.1 22 i → mm_Runs 999 148 (0, [some (.ref 37), some (.int (nI i)), none], [], HH x τ) (some (.int (σ.2.2.1 22 i)), HH x (g_m_begins τ 1)) := by
        intro τ e1 e2 e3
        have m1 := m τ
        have f1 : f_m_tell τ (nI i) = σ.2.2.1 22 i := by unfold f_m_tell; rw [if_pos (qb τ e1), qc, e2, e3]; rfl
        have f2 : g_m_tell τ (nI i) = g_m_begins τ 1 := by unfold g_m_tell; rw [if_pos (qb τ e1), qc, e2]; rfl
        rw [f1, f2] at m1
        exact m1
      exact ⟨_, _, _, c, mf _ em w5 w2.symm, ⟨⟨h1.1, by show 31 * σ.1 209 + 1 = 31 * σ.1 3701 + 1; rw [et]⟩, h2, P, ns, nw, nr, hp, hc, hri, hwy, hs, hw, hre, hti⟩⟩
    · have w5 := w1.symm.trans w3
      have ef : f_tell σ (nI i) = σ.2.2.1 22 i + 100 := by unfold f_tell; rw [if_pos qa, qc, w3]; rfl
      have eg : g_tell σ (nI i) = g_leave (g_leave σ 2) 1 := by unfold g_tell; rw [if_pos qa, qc, w3]; rfl
      rw [ef, eg] at c
      have mf : ∀ τ : mm_S, τ.1 3720 = nI nw → τ.2.2.1 47 i = 1 → τ.2.2.1 48 i = σ.2.2.1 22 i → mm_Runs 999 148 (0, [some (.ref 37), some (.int (nI i)), none], [], HH x τ) (some (.int (σ.2.2.1 22 i + 100)), HH x (g_m_begins (g_m_begins τ 2) 1)) := by
        intro τ e1 e2 e3
        have m1 := m τ
        have f1 : f_m_tell τ (nI i) = σ.2.2.1 22 i + 100 := by unfold f_m_tell; rw [if_pos (qb τ e1), qc, e2, e3]; rfl
        have f2 : g_m_tell τ (nI i) = g_m_begins (g_m_begins τ 2) 1 := by unfold g_m_tell; rw [if_pos (qb τ e1), qc, e2]; rfl
        rw [f1, f2] at m1
        exact m1
      exact ⟨_, _, _, c, mf _ em w5 w2.symm, ⟨⟨h1.1, by show 31 * (31 * σ.1 209 + 2) + 1 = 31 * (31 * σ.1 3701 + 2) + 1; rw [et]⟩, h2, P, ns, nw, nr, hp, hc, hri, hwy, hs, hw, hre, hti⟩⟩
    · have w5 := w1.symm.trans w3
      have ef : f_tell σ (nI i) = 2 * σ.2.2.1 22 i + 100 := by
        unfold f_tell; rw [if_pos qa, qc, w3]
        show (σ.2.2.1 22 i + 100) + σ.2.2.1 22 i = 2 * σ.2.2.1 22 i + 100
        generalize σ.2.2.1 22 i = y
        apply Int32.toBitVec_inj.mp
        simp only [Int32.toBitVec_add, Int32.toBitVec_mul]
        generalize y.toBitVec = z
        have e2 : (2 : Int32).toBitVec * z = z + z := by
          show 2#32 * z = z + z
          rw [show (2#32 : BitVec 32) = 1#32 + 1#32 by decide, BitVec.add_mul, BitVec.one_mul]
        rw [e2, BitVec.add_assoc, BitVec.add_comm _ z, ← BitVec.add_assoc]
      have eg : g_tell σ (nI i) = g_leave (g_leave (g_leave (g_leave σ 3) 2) 1) 1 := by unfold g_tell; rw [if_pos qa, qc, w3]; rfl
      rw [ef, eg] at c
      have mf : ∀ τ : mm_S, τ.1 3720 = nI nw → τ.2.2.1 47 i = 2 → τ.2.2.1 48 i = σ.2.2.1 22 i → mm_Runs 999 148 (0, [some (.ref 37), some (.int (nI i)), none], [], HH x τ) (some (.int (2 * σ.2.2.1 22 i + 100)), HH x (g_m_begins (g_m_begins (g_m_begins (g_m_begins τ 3) 2) 1) 1)) := by
        intro τ e1 e2 e3
        have m1 := m τ
        have f1 : f_m_tell τ (nI i) = 2 * σ.2.2.1 22 i + 100 := by unfold f_m_tell; rw [if_pos (qb τ e1), qc, e2, e3]; rfl
        have f2 : g_m_tell τ (nI i) = g_m_begins (g_m_begins (g_m_begins (g_m_begins τ 3) 2) 1) 1 := by unfold g_m_tell; rw [if_pos (qb τ e1), qc, e2]; rfl
        rw [f1, f2] at m1
        exact m1
      exact ⟨_, _, _, c, mf _ em w5 w2.symm, ⟨⟨h1.1, by show 31 * (31 * (31 * (31 * σ.1 209 + 3) + 2) + 1) + 1 = 31 * (31 * (31 * (31 * σ.1 3701 + 3) + 2) + 1) + 1; rw [et]⟩, h2, P, ns, nw, nr, hp, hc, hri, hwy, hs, hw, hre, hti⟩⟩
theorem op_make : opI Rel i_X6_make i_X7_make 1 := by
  intro x σ as h hr
  obtain ⟨k, rfl⟩ := as_1 h
  obtain ⟨h1, h2, P, ns, nw, nr, hp, hc, hri, hwy, hs, hw, hre, hti⟩ := id hr
  have ec := hw.2.1
  have em := hw.2.2.1
  rcases ix_3 k (n := nw) (N := 6) hw.1 (by omega) with q | ⟨i, hi, rfl, q, qg, qc⟩
  · have qa : ¬ p_has_20 σ k := by unfold p_has_20; rw [ec]; exact q
    have qb : ¬ p_m_isWish σ k := by unfold p_m_isWish; rw [em]; exact q
    have c := r_make (d := 999) (x := x) (σ := σ) (k := k) (by omega) (fun z => absurd z qa)
    have m := r_m_make (d := 999) (x := x) (σ := σ) (k := k) (by omega) (fun z => absurd z qb) (fun z => absurd z qb) (fun z => absurd z qb)
    rw [show f_make σ k = -1 by unfold f_make; rw [if_neg qa], show g_make σ k = σ by unfold g_make; rw [if_neg qa]] at c
    rw [show f_m_make σ k = -1 by unfold f_m_make; rw [if_neg qb], show g_m_make σ k = σ by unfold g_m_make; rw [if_neg qb]] at m
    exact ⟨-1, σ, σ, c, m, hr⟩
  · have qa : p_has_20 σ (nI i) := by unfold p_has_20; rw [ec]; exact q
    have c := r_make (d := 999) (x := x) (σ := σ) (k := nI i) (by omega) (fun _ => qg)
    have m := fun τ : mm_S => r_m_make (d := 999) (x := x) (σ := τ) (k := nI i) (by omega) (fun _ => qg) (fun _ _ => qg) (fun _ _ => qg)
    obtain ⟨⟨w1, w2⟩, w3, w4⟩ := hw.2.2.2 i hi
    have et := h1.2
    have qb : ∀ τ : mm_S, τ.1 3720 = nI nw → p_m_isWish τ (nI i) := fun τ e => by unfold p_m_isWish; rw [e]; exact q
    by_cases w5 : σ.2.2.1 21 i = 2
    · have w6 := w1.symm.trans w5
      rw [show f_make σ (nI i) = 80 by unfold f_make; rw [if_pos qa, qc, if_pos w5]; rfl, show g_make σ (nI i) = g_leave σ 5 by unfold g_make; rw [if_pos qa, qc, if_pos w5]; rfl] at c
      have mf : ∀ τ : mm_S, τ.1 3720 = nI nw → τ.2.2.1 47 i = 2 → mm_Runs 999 149 (0, [some (.ref 37), some (.int (nI i))], [], HH x τ) (some (.int 80), HH x (g_m_begins τ 5)) := by
        intro τ e1 e2
        have m1 := m τ
        rw [show f_m_make τ (nI i) = 80 by unfold f_m_make; rw [if_pos (qb τ e1), qc, if_pos e2, if_pos (show (g_m_begins τ 5).2.2.1 47 i = 2 from e2)], show g_m_make τ (nI i) = g_m_begins τ 5 by unfold g_m_make; rw [if_pos (qb τ e1), qc, if_pos e2]] at m1
        exact m1
      exact ⟨_, _, _, c, mf _ em w6, ⟨⟨h1.1, by show 31 * σ.1 209 + 5 = 31 * σ.1 3701 + 5; rw [et]⟩, h2, P, ns, nw, nr, hp, hc, hri, hwy, hs, hw, hre, hti⟩⟩
    · have w6 : ¬ σ.2.2.1 47 i = 2 := fun z => w5 (w1.trans z)
      rw [show f_make σ (nI i) = nI i by unfold f_make; rw [if_pos qa, qc, if_neg w5]; rfl, show g_make σ (nI i) = g_leave σ 4 by unfold g_make; rw [if_pos qa, qc, if_neg w5]; rfl] at c
      have mf : ∀ τ : mm_S, τ.1 3720 = nI nw → ¬ τ.2.2.1 47 i = 2 → mm_Runs 999 149 (0, [some (.ref 37), some (.int (nI i))], [], HH x τ) (some (.int (nI i)), HH x (g_m_begins τ 4)) := by
        intro τ e1 e2
        have m1 := m τ
        rw [show f_m_make τ (nI i) = nI i by unfold f_m_make; rw [if_pos (qb τ e1), qc, if_neg e2, if_neg (show ¬ (g_m_begins τ 4).2.2.1 47 i = 2 from e2)], show g_m_make τ (nI i) = g_m_begins τ 4 by unfold g_m_make; rw [if_pos (qb τ e1), qc, if_neg e2]] at m1
        exact m1
      exact ⟨_, _, _, c, mf _ em w6, ⟨⟨h1.1, by show 31 * σ.1 209 + 4 = 31 * σ.1 3701 + 4; rw [et]⟩, h2, P, ns, nw, nr, hp, hc, hri, hwy, hs, hw, hre, hti⟩⟩
theorem op_as : opI Rel i_X6_as i_X7_as 2 := by
  intro x σ as h hr
  obtain ⟨k, j, rfl⟩ := as_2 h
  obtain ⟨h1, h2, P, ns, nw, nr, hp, hc, hri, hwy, hs, hw, hre, hti⟩ := id hr
  have ec : (ui σ 210 0).1 2003 = nI nw := hw.2.1
  have em := hw.2.2.1
  rcases ix_3 k (n := nw) (N := 6) hw.1 (by omega) with q | ⟨i, hi, rfl, q, qg, qc⟩
  · have qa : ¬ p_has_20 (ui σ 210 0) k := by unfold p_has_20; rw [ec]; exact q
    have c := r_as_ (d := 999) (x := x) (σ := σ) (k := k) (j := j) (by omega) (fun z => absurd z qa)
    rw [show f_as_ σ k j = -1 by unfold f_as_; rw [if_neg qa], show g_as_ σ k j = ui σ 210 0 by unfold g_as_; rw [if_neg qa]] at c
    have mf : ∀ τ : mm_S, τ.1 3720 = nI nw → mm_Runs 999 150 (0, [some (.ref 37), some (.int k), some (.int j)], [], HH x τ) (some (.int (-1)), HH x (ui τ 3700 0)) := by
      intro τ e1
      have qb : ¬ p_m_isWish (ui τ 3700 0) k := by unfold p_m_isWish; rw [show (ui τ 3700 0).1 3720 = nI nw from e1]; exact q
      have m := r_m_as (d := 999) (x := x) (σ := τ) (k := k) (j := j) (by omega) (fun z => absurd z qb)
      rw [show f_m_as τ k j = -1 by unfold f_m_as; rw [if_neg qb], show g_m_as τ k j = ui τ 3700 0 by unfold g_m_as; rw [if_neg qb]] at m
      exact m
    exact ⟨_, _, _, c, mf _ em, ⟨⟨rfl, h1.2⟩, h2, P, ns, nw, nr, hp, hc, hri, hwy, hs, hw, hre, hti⟩⟩
  · have qa : p_has_20 (ui σ 210 0) (nI i) := by unfold p_has_20; rw [ec]; exact q
    obtain ⟨⟨w1, w2⟩, w3, w4⟩ := hw.2.2.2 i hi
    have c := r_as_ (d := 999) (x := x) (σ := σ) (k := nI i) (j := j) (by omega) (fun _ _ => qg)
    have m := fun τ : mm_S => r_m_as (d := 999) (x := x) (σ := τ) (k := nI i) (j := j) (by omega) (fun _ _ => qg)
    have qb : ∀ τ : mm_S, τ.1 3720 = nI nw → p_m_isWish (ui τ 3700 0) (nI i) := fun τ e => by unfold p_m_isWish; rw [show (ui τ 3700 0).1 3720 = nI nw from e]; exact q
    have hk : ∀ τ : mm_S, p_m_within (ui τ 3700 0) j 0 2 ↔ p_isKind (ui σ 210 0) j := by
      intro τ
      unfold p_m_within p_isKind
      simp only [Int32.lt_iff_toInt_lt, Int32.le_iff_toInt_le]
      have e0 : (0 : Int32).toInt = 0 := rfl
      have e2 : (2 : Int32).toInt = 2 := rfl
      have e3 : (3 : Int32).toInt = 3 := rfl
      rw [e0, e2, e3]
      omega
    by_cases qk : p_isKind (ui σ 210 0) j
    · by_cases ql : σ.2.2.1 21 i < j
      · rw [show f_as_ σ (nI i) j = -12 by unfold f_as_; rw [if_pos qa, if_pos qk, qc, if_pos ql]; rfl, show g_as_ σ (nI i) j = ui (ui σ 210 0) 210 2 by unfold g_as_; rw [if_pos qa, if_pos qk, qc, if_pos ql]; rfl] at c
        have mf : ∀ τ : mm_S, τ.1 3720 = nI nw → τ.2.2.1 47 i = σ.2.2.1 21 i → mm_Runs 999 150 (0, [some (.ref 37), some (.int (nI i)), some (.int j)], [], HH x τ) (some (.int (-12)), HH x (ui (ui τ 3700 0) 3700 2)) := by
          intro τ e1 e2
          have m1 := m τ
          rw [show f_m_as τ (nI i) j = -12 by unfold f_m_as; rw [if_pos (qb τ e1), if_pos ((hk τ).mpr qk), qc, e2, if_pos ql]; rfl, show g_m_as τ (nI i) j = ui (ui τ 3700 0) 3700 2 by unfold g_m_as; rw [if_pos (qb τ e1), if_pos ((hk τ).mpr qk), qc, e2, if_pos ql]; rfl] at m1
          exact m1
        exact ⟨_, _, _, c, mf _ em w1.symm, ⟨⟨rfl, h1.2⟩, h2, P, ns, nw, nr, hp, hc, hri, hwy, hs, hw, hre, hti⟩⟩
      · rw [show f_as_ σ (nI i) j = 1 by unfold f_as_; rw [if_pos qa, if_pos qk, qc, if_neg ql], show g_as_ σ (nI i) j = ui σ 210 0 by unfold g_as_; rw [if_pos qa, if_pos qk, qc, if_neg ql]] at c
        have mf : ∀ τ : mm_S, τ.1 3720 = nI nw → τ.2.2.1 47 i = σ.2.2.1 21 i → mm_Runs 999 150 (0, [some (.ref 37), some (.int (nI i)), some (.int j)], [], HH x τ) (some (.int 1), HH x (ui τ 3700 0)) := by
          intro τ e1 e2
          have m1 := m τ
          rw [show f_m_as τ (nI i) j = 1 by unfold f_m_as; rw [if_pos (qb τ e1), if_pos ((hk τ).mpr qk), qc, e2, if_neg ql], show g_m_as τ (nI i) j = ui τ 3700 0 by unfold g_m_as; rw [if_pos (qb τ e1), if_pos ((hk τ).mpr qk), qc, e2, if_neg ql]] at m1
          exact m1
        exact ⟨_, _, _, c, mf _ em w1.symm, ⟨⟨rfl, h1.2⟩, h2, P, ns, nw, nr, hp, hc, hri, hwy, hs, hw, hre, hti⟩⟩
    · rw [show f_as_ σ (nI i) j = -2 by unfold f_as_; rw [if_pos qa, if_neg qk], show g_as_ σ (nI i) j = ui σ 210 0 by unfold g_as_; rw [if_pos qa, if_neg qk]] at c
      have mf : ∀ τ : mm_S, τ.1 3720 = nI nw → mm_Runs 999 150 (0, [some (.ref 37), some (.int (nI i)), some (.int j)], [], HH x τ) (some (.int (-2)), HH x (ui τ 3700 0)) := by
        intro τ e1
        have m1 := m τ
        have qk2 : ¬ p_m_within (ui τ 3700 0) j 0 2 := fun z => qk ((hk τ).mp z)
        rw [show f_m_as τ (nI i) j = -2 by unfold f_m_as; rw [if_pos (qb τ e1), if_neg qk2], show g_m_as τ (nI i) j = ui τ 3700 0 by unfold g_m_as; rw [if_pos (qb τ e1), if_neg qk2]] at m1
        exact m1
      exact ⟨_, _, _, c, mf _ em, ⟨⟨rfl, h1.2⟩, h2, P, ns, nw, nr, hp, hc, hri, hwy, hs, hw, hre, hti⟩⟩
