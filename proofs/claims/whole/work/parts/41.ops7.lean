/-! copy (written by wip/whole/ops7.py) -/
/-- n cells from i on are there, of L -/
theorem hcN {L : Nat} (hL : L ≤ 60) (i n : Int32) : (¬ (i < 0) ∧ (¬ (n < 0) ∧ (¬ (nI L < i) ∧ ¬ ((nI L - i) < n)))) ↔ ∃ a m : Nat, i = nI a ∧ n = nI m ∧ a + m ≤ L := by
  constructor
  · rintro ⟨h1, h2, h3, h4⟩
    obtain ⟨a, ha, rfl⟩ := nI_of2 (x := i) (M := nI L) (n := L) (nI_toInt (by omega)) h1 (by
      rw [Int32.lt_iff_toInt_lt] at h3
      rw [Int32.le_iff_toInt_le]
      omega)
    rw [pk_sub ha] at h4
    obtain ⟨m, hm, rfl⟩ := nI_of h2
    rw [nI_ltI (by omega) hm] at h4
    exact ⟨a, m, rfl, rfl, by omega⟩
  · rintro ⟨a, m, rfl, rfl, h⟩
    refine ⟨nI_pos (by omega), nI_pos (by omega), nI_nlt (by omega) (by omega), ?_⟩
    rw [pk_sub (by omega)]
    exact nI_nlt (by omega) (by omega)
/-- the model's row, behind a copy of m cells from s to u -/
theorem mcp_fwd {d : Nat} {x : Nat × (Nat → Int32)} (τ : mm_S) (C : Nat → Int32) {kk tt a b m : Nat} (hk : kk < 4) (ht : tt < 4) (ha : a + m ≤ 60) (hb : b + m ≤ 60) (hab : b ≤ a) : ∀ (k q : Nat), q + k = m →
    mm_Runs d 146 (166, [some (.ref 37), some (.int (nI kk)), some (.int (nI a)), some (.int (nI tt)), some (.int (nI b)), some (.int (nI m)), none, some (.int 0), some (.int (nI q)), none], [], HH x (ua τ 40 (va_cpy C C (60 * kk + a) (60 * tt + b) q))) (some (.int (nI m)), HH x (ua τ 40 (va_cpy C C (60 * kk + a) (60 * tt + b) m)))
  | 0, q, h => by
    have e : q = m := by omega
    subst e
    exact vc_m_copyh (fun _ => rfl) (fun z => absurd (nI_le (Nat.le_refl _) (by omega)) z) (fun z => absurd (nI_le (Nat.le_refl _) (by omega)) z) (fun z => absurd (nI_le (Nat.le_refl _) (by omega)) z) (fun z => absurd (nI_le (Nat.le_refl _) (by omega)) z) (fun z => absurd (nI_le (Nat.le_refl _) (by omega)) z) (fun z => absurd (nI_le (Nat.le_refl _) (by omega)) z)
  | k + 1, q, h => by
    have hlt : ¬ nI m ≤ nI q := nI_ge (by omega) (by omega)
    have e1 : (60 : Int32) * nI kk + nI a + nI q = nI (60 * kk + a + q) := by
      rw [show (60 : Int32) = nI 60 from rfl, pk_mul, nI_add, nI_add]
    have e2 : (60 : Int32) * nI tt + nI b + nI q = nI (60 * tt + b + q) := by
      rw [show (60 : Int32) = nI 60 from rfl, pk_mul, nI_add, nI_add]
    refine vc_m_copyh (fun z => absurd z hlt) (fun _ _ => by rw [e1]; exact nI_in (by omega) (by omega)) (fun _ _ => by rw [e2]; exact nI_in (by omega) (by omega)) (fun _ _ => ?_) (fun _ z => absurd rfl z) (fun _ z => absurd rfl z) (fun _ z => absurd rfl z)
    have ih := mcp_fwd (d := d) (x := x) τ C hk ht ha hb hab k (q + 1) (by omega)
    rw [e1, e2, nI_clamp (show 60 * kk + a + q < 2 ^ 31 by omega), nI_clamp (show 60 * tt + b + q < 2 ^ 31 by omega), ua_ua, show (ua τ 40 (va_cpy C C (60 * kk + a) (60 * tt + b) q)).2.2.1 40 = va_cpy C C (60 * kk + a) (60 * tt + b) q from rfl, show nI q + (1 : Int32) = nI (q + 1) from nI_1 q]
    have e3 : upd (va_cpy C C (60 * kk + a) (60 * tt + b) q) (60 * tt + b + q) (va_cpy C C (60 * kk + a) (60 * tt + b) q (60 * kk + a + q)) = va_cpy C C (60 * kk + a) (60 * tt + b) (q + 1) := by
      have e4 : va_cpy C C (60 * kk + a) (60 * tt + b) q (60 * kk + a + q) = C (60 * kk + a + q) := pk_cpy_out (by
        rcases Nat.lt_trichotomy kk tt with z | z | z
        · exact Or.inl (by omega)
        · subst z; exact Or.inr (by omega)
        · exact Or.inr (by omega))
      rw [e4]
      funext y
      rw [upd_at]
      by_cases hy : y = 60 * tt + b + q
      · rw [if_pos hy, pk_cpy_in (by omega) (by omega)]
        congr 1
        omega
      · rw [if_neg hy]
        by_cases hy2 : 60 * tt + b ≤ y ∧ y < 60 * tt + b + q
        · rw [pk_cpy_in hy2.1 hy2.2, pk_cpy_in hy2.1 (by omega)]
        · rw [pk_cpy_out (by omega), pk_cpy_out (by omega)]
    rw [e3]
    exact ih
/-- the same from behind: the last q cells are copied -/
theorem mcp_bwd {d : Nat} {x : Nat × (Nat → Int32)} (τ : mm_S) (C : Nat → Int32) {kk tt a b m : Nat} (hk : kk < 4) (ht : tt < 4) (ha : a + m ≤ 60) (hb : b + m ≤ 60) (hab : a < b) : ∀ (k q : Nat), q + k = m →
    mm_Runs d 146 (166, [some (.ref 37), some (.int (nI kk)), some (.int (nI a)), some (.int (nI tt)), some (.int (nI b)), some (.int (nI m)), none, some (.int 1), some (.int (nI q)), none], [], HH x (ua τ 40 (va_cpy C C (60 * kk + a + (m - q)) (60 * tt + b + (m - q)) q))) (some (.int (nI m)), HH x (ua τ 40 (va_cpy C C (60 * kk + a) (60 * tt + b) m)))
  | 0, q, h => by
    have e : q = m := by omega
    subst e
    rw [Nat.sub_self]
    exact vc_m_copyh (fun _ => rfl) (fun z => absurd (nI_le (Nat.le_refl _) (by omega)) z) (fun z => absurd (nI_le (Nat.le_refl _) (by omega)) z) (fun z => absurd (nI_le (Nat.le_refl _) (by omega)) z) (fun z => absurd (nI_le (Nat.le_refl _) (by omega)) z) (fun z => absurd (nI_le (Nat.le_refl _) (by omega)) z) (fun z => absurd (nI_le (Nat.le_refl _) (by omega)) z)
  | k + 1, q, h => by
    have hlt : ¬ nI m ≤ nI q := nI_ge (by omega) (by omega)
    have e0 : nI m - (1 : Int32) - nI q = nI (m - 1 - q) := by
      rw [show nI m - (1 : Int32) = nI (m - 1) from pk_sub (a := m) (b := 1) (by omega), pk_sub (by omega)]
    have e1 : (60 : Int32) * nI kk + nI a + (nI m - (1 : Int32) - nI q) = nI (60 * kk + a + (m - 1 - q)) := by
      rw [e0, show (60 : Int32) = nI 60 from rfl, pk_mul, nI_add, nI_add]
    have e2 : (60 : Int32) * nI tt + nI b + (nI m - (1 : Int32) - nI q) = nI (60 * tt + b + (m - 1 - q)) := by
      rw [e0, show (60 : Int32) = nI 60 from rfl, pk_mul, nI_add, nI_add]
    refine vc_m_copyh (fun z => absurd z hlt) (fun _ z => absurd z (by decide)) (fun _ z => absurd z (by decide)) (fun _ z => absurd z (by decide)) (fun _ _ => by rw [e1]; exact nI_in (by omega) (by omega)) (fun _ _ => by rw [e2]; exact nI_in (by omega) (by omega)) (fun _ _ => ?_)
    have ih := mcp_bwd (d := d) (x := x) τ C hk ht ha hb hab k (q + 1) (by omega)
    rw [e1, e2, nI_clamp (show 60 * kk + a + (m - 1 - q) < 2 ^ 31 by omega), nI_clamp (show 60 * tt + b + (m - 1 - q) < 2 ^ 31 by omega), ua_ua, show (ua τ 40 (va_cpy C C (60 * kk + a + (m - q)) (60 * tt + b + (m - q)) q)).2.2.1 40 = va_cpy C C (60 * kk + a + (m - q)) (60 * tt + b + (m - q)) q from rfl, show nI q + (1 : Int32) = nI (q + 1) from nI_1 q]
    have e3 : upd (va_cpy C C (60 * kk + a + (m - q)) (60 * tt + b + (m - q)) q) (60 * tt + b + (m - 1 - q)) (va_cpy C C (60 * kk + a + (m - q)) (60 * tt + b + (m - q)) q (60 * kk + a + (m - 1 - q))) = va_cpy C C (60 * kk + a + (m - (q + 1))) (60 * tt + b + (m - (q + 1))) (q + 1) := by
      have e4 : va_cpy C C (60 * kk + a + (m - q)) (60 * tt + b + (m - q)) q (60 * kk + a + (m - 1 - q)) = C (60 * kk + a + (m - 1 - q)) := pk_cpy_out (by
        rcases Nat.lt_trichotomy kk tt with z | z | z
        · exact Or.inl (by omega)
        · subst z; exact Or.inl (by omega)
        · exact Or.inr (by omega))
      rw [e4]
      funext y
      rw [upd_at]
      by_cases hy : y = 60 * tt + b + (m - 1 - q)
      · rw [if_pos hy, pk_cpy_in (by omega) (by omega)]
        congr 1
        omega
      · rw [if_neg hy]
        by_cases hy2 : 60 * tt + b + (m - q) ≤ y ∧ y < 60 * tt + b + (m - q) + q
        · rw [pk_cpy_in hy2.1 hy2.2, pk_cpy_in (by omega) (by omega)]
          congr 1
          omega
        · rw [pk_cpy_out (by omega), pk_cpy_out (by omega)]
    rw [e3]
    exact ih
theorem cpy_0 (C : Nat → Int32) (s u : Nat) : va_cpy C C s u 0 = C := by
  funext y
  rw [pk_cpy_out (by omega)]

