/-! by minute 63 all can be thrown -/
theorem plan63 {P : pd_T} {kk : Nat → Int32} {cc : Nat → Nat} {n : Nat} (hH : P.1 ≤ 6) (hW : P.2.1 ≤ 7) (hwf : pd_wf P) (h6 : n ≤ 6) (hc : ∀ i, i < n → P.2.2 (cc i) = true) : ∃ p, pok P kk cc n (2 ^ n - 1) 63 p := by
  sorry
