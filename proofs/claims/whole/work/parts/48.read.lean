/-! reading a pond: the class (written by wip/whole/t48.py) -/
theorem vc_read0_0 {d : Nat} {x : Nat × (Nat → Int32)} {σ : mm_S} {i n : Int32} {r : Option Value × mm_H} (k1 : mm_Runs d 15 (18, [some (.ref 12), some (.ref 4), some (.int i), some (.int n), some (.int (0 : Int32))], [], HH x (ul (ui (ui σ 1200 (0 : Int32)) 1201 (0 : Int32)) 1202 (0 : Int64))) r) : mm_Runs d 15 (0, [some (.ref 12), some (.ref 4), some (.int i), some (.int n), none], [], HH x σ) r := by
  refine mm_go 2 (F' := (2, [some (.ref 12), some (.ref 4), some (.int i), some (.int n), none], [.int (0 : Int32), .ref 12], HH x σ)) rfl ?_
  refine mm_go 1 (F' := (5, [some (.ref 12), some (.ref 4), some (.int i), some (.int n), none], [], HH x (ui σ 1200 (0 : Int32)))) rfl ?_
  refine mm_go 2 (F' := (7, [some (.ref 12), some (.ref 4), some (.int i), some (.int n), none], [.int (0 : Int32), .ref 12], HH x (ui σ 1200 (0 : Int32)))) rfl ?_
  refine mm_go 1 (F' := (10, [some (.ref 12), some (.ref 4), some (.int i), some (.int n), none], [], HH x (ui (ui σ 1200 (0 : Int32)) 1201 (0 : Int32)))) rfl ?_
  refine mm_go 2 (F' := (12, [some (.ref 12), some (.ref 4), some (.int i), some (.int n), none], [.long (0 : Int64), .ref 12], HH x (ui (ui σ 1200 (0 : Int32)) 1201 (0 : Int32)))) rfl ?_
  refine mm_go 1 (F' := (15, [some (.ref 12), some (.ref 4), some (.int i), some (.int n), none], [], HH x (ul (ui (ui σ 1200 (0 : Int32)) 1201 (0 : Int32)) 1202 (0 : Int64)))) rfl ?_
  refine mm_go 2 (F' := (18, [some (.ref 12), some (.ref 4), some (.int i), some (.int n), some (.int (0 : Int32))], [], HH x (ul (ui (ui σ 1200 (0 : Int32)) 1201 (0 : Int32)) 1202 (0 : Int64)))) rfl ?_
  exact mm_wk (by exact (And.intro rfl (And.intro rfl (And.intro rfl (And.intro rfl (And.intro rfl True.intro)))))) k1
theorem vc_readh_0 {d : Nat} {x : Nat × (Nat → Int32)} {σ : mm_S} {i n e : Int32} {r : Option Value × mm_H} (hd : 2 ≤ d) (k1 : n ≤ e → n < (3 : Int32) → (some (.int n), HH x σ) = r) (k2 : n ≤ e → ¬ n < (3 : Int32) → (f_end_ σ) ≤ n → (some (.int (-1 : Int32)), HH x σ) = r) (k3 : n ≤ e → ¬ n < (3 : Int32) → ¬ (f_end_ σ) ≤ n → (some (.int n), HH x σ) = r) (k4 : ¬ n ≤ e → ¬ ((i + e) < 0 ∨ 60 ≤ (i + e).toNatClampNeg)) (k5 : ¬ n ≤ e → (¬ e = (0 : Int32) ∧ ¬ e = (1 : Int32) ∧ ¬ e = (2 : Int32)) → ¬ (f_end_ σ) ≤ e → ¬ ((σ.1 1201) + (1 : Int32)) = 0) (k6 : ¬ n ≤ e → (¬ e = (0 : Int32) ∧ ¬ e = (1 : Int32) ∧ ¬ e = (2 : Int32)) → ¬ (f_end_ σ) ≤ e → 0 ≤ (((e - (3 : Int32)) - (e - (3 : Int32)) / ((σ.1 1201) + (1 : Int32)) * ((σ.1 1201) + (1 : Int32))) - (1 : Int32)) → ((σ.2.2.1 8) (i + e).toNatClampNeg) = (46 : Int32) → ¬ ((σ.1 1201) + (1 : Int32)) = 0) (k7 : ¬ n ≤ e → (p_goesOn σ e ((σ.2.2.1 8) (i + e).toNatClampNeg)) → mm_Runs d 15 (18, [some (.ref 12), some (.ref 4), some (.int i), some (.int n), some (.int (e + (1 : Int32)))], [], HH x (g_goesOn σ e ((σ.2.2.1 8) (i + e).toNatClampNeg))) r) (k8 : ¬ n ≤ e → ¬ (p_goesOn σ e ((σ.2.2.1 8) (i + e).toNatClampNeg)) → (some (.int e), HH x (g_goesOn σ e ((σ.2.2.1 8) (i + e).toNatClampNeg))) = r) : mm_Runs d 15 (18, [some (.ref 12), some (.ref 4), some (.int i), some (.int n), some (.int e)], [], HH x σ) r := by
  refine mm_go 3 (F' := (bif mm_cond .ge e n then 51 else 24, [some (.ref 12), some (.ref 4), some (.int i), some (.int n), some (.int e)], [], HH x σ)) rfl ?_
  refine mb_ge (fun h1 => ?_) (fun h1 => ?_)
  · refine mm_go 3 (F' := (bif mm_cond .lt n (3 : Int32) then 64 else 56, [some (.ref 12), some (.ref 4), some (.int i), some (.int n), some (.int e)], [], HH x σ)) rfl ?_
    refine mb_lt (fun h2 => ?_) (fun h2 => ?_)
    · refine mm_go 2 (F' := (69, [some (.ref 12), some (.ref 4), some (.int i), some (.int n), some (.int e)], [.int n], HH x σ)) rfl ?_
      exact mm_rt rfl rfl (k1 h1 h2)
    · refine mm_go 2 (F' := (58, [some (.ref 12), some (.ref 4), some (.int i), some (.int n), some (.int e)], [.ref 12, .int n], HH x σ)) rfl ?_
      refine mm_kl (z := 16) (as := [.ref 12]) (S' := [.int n]) (L2 := [some (.ref 12)]) (v := some (.int (f_end_ σ))) (h1 := HH x σ) rfl rfl rfl rfl rfl (by omega) (r_end_ (by omega)) ?_
      show mm_Runs d 15 (61, [some (.ref 12), some (.ref 4), some (.int i), some (.int n), some (.int e)], [.int (f_end_ σ), .int n], HH x σ) r
      refine mm_go 1 (F' := (bif mm_cond .ge n (f_end_ σ) then 68 else 64, [some (.ref 12), some (.ref 4), some (.int i), some (.int n), some (.int e)], [], HH x σ)) rfl ?_
      refine mb_ge (fun h3 => ?_) (fun h3 => ?_)
      · refine mm_go 1 (F' := (69, [some (.ref 12), some (.ref 4), some (.int i), some (.int n), some (.int e)], [.int (-1 : Int32)], HH x σ)) rfl ?_
        exact mm_rt rfl rfl (k2 h1 h2 h3)
      · refine mm_go 2 (F' := (69, [some (.ref 12), some (.ref 4), some (.int i), some (.int n), some (.int e)], [.int n], HH x σ)) rfl ?_
        exact mm_rt rfl rfl (k3 h1 h2 h3)
  · refine mm_go 7 (F' := (35, [some (.ref 12), some (.ref 4), some (.int i), some (.int n), some (.int e)], [.int (i + e), .ref 8, .int e, .ref 12], HH x σ)) rfl ?_
    refine mm_gd (F' := (36, [some (.ref 12), some (.ref 4), some (.int i), some (.int n), some (.int e)], [.int ((σ.2.2.1 8) (i + e).toNatClampNeg), .int e, .ref 12], HH x σ)) rfl (k4 h1) ?_
    refine mm_kl (z := 17) (as := [.ref 12, .int e, .int ((σ.2.2.1 8) (i + e).toNatClampNeg)]) (S' := []) (L2 := [some (.ref 12), some (.int e), some (.int ((σ.2.2.1 8) (i + e).toNatClampNeg))]) (v := some (.int (mm_b (p_goesOn σ e ((σ.2.2.1 8) (i + e).toNatClampNeg))))) (h1 := HH x (g_goesOn σ e ((σ.2.2.1 8) (i + e).toNatClampNeg))) rfl rfl rfl rfl rfl (by omega) (r_goesOn (by omega) (k5 h1) (k6 h1)) ?_
    show mm_Runs d 15 (39, [some (.ref 12), some (.ref 4), some (.int i), some (.int n), some (.int e)], [.int (mm_b (p_goesOn σ e ((σ.2.2.1 8) (i + e).toNatClampNeg)))], HH x (g_goesOn σ e ((σ.2.2.1 8) (i + e).toNatClampNeg))) r
    refine mm_go 1 (F' := (bif mm_cond .ne (mm_b (p_goesOn σ e ((σ.2.2.1 8) (i + e).toNatClampNeg))) 0 then 45 else 42, [some (.ref 12), some (.ref 4), some (.int i), some (.int n), some (.int e)], [], HH x (g_goesOn σ e ((σ.2.2.1 8) (i + e).toNatClampNeg)))) rfl ?_
    refine mb_bne (fun h4 => ?_) (fun h4 => ?_)
    · refine mm_go 2 (F' := (18, [some (.ref 12), some (.ref 4), some (.int i), some (.int n), some (.int (e + (1 : Int32)))], [], HH x (g_goesOn σ e ((σ.2.2.1 8) (i + e).toNatClampNeg)))) rfl ?_
      exact mm_wk (by exact (And.intro rfl (And.intro rfl (And.intro rfl (And.intro rfl (And.intro rfl True.intro)))))) (k7 h1 h4)
    · refine mm_go 1 (F' := (44, [some (.ref 12), some (.ref 4), some (.int i), some (.int n), some (.int e)], [.int e], HH x (g_goesOn σ e ((σ.2.2.1 8) (i + e).toNatClampNeg)))) rfl ?_
      exact mm_rt rfl rfl (k8 h1 h4)
theorem vc_read0_1 {d : Nat} {x : Nat × (Nat → Int32)} {σ : mm_S} {i n : Int32} {r : Option Value × mm_H} (k1 : mm_Runs d 15 (18, [some (.ref 12), some (.ref 5), some (.int i), some (.int n), some (.int (0 : Int32))], [], HH x (ul (ui (ui σ 1200 (0 : Int32)) 1201 (0 : Int32)) 1202 (0 : Int64))) r) : mm_Runs d 15 (0, [some (.ref 12), some (.ref 5), some (.int i), some (.int n), none], [], HH x σ) r := by
  refine mm_go 2 (F' := (2, [some (.ref 12), some (.ref 5), some (.int i), some (.int n), none], [.int (0 : Int32), .ref 12], HH x σ)) rfl ?_
  refine mm_go 1 (F' := (5, [some (.ref 12), some (.ref 5), some (.int i), some (.int n), none], [], HH x (ui σ 1200 (0 : Int32)))) rfl ?_
  refine mm_go 2 (F' := (7, [some (.ref 12), some (.ref 5), some (.int i), some (.int n), none], [.int (0 : Int32), .ref 12], HH x (ui σ 1200 (0 : Int32)))) rfl ?_
  refine mm_go 1 (F' := (10, [some (.ref 12), some (.ref 5), some (.int i), some (.int n), none], [], HH x (ui (ui σ 1200 (0 : Int32)) 1201 (0 : Int32)))) rfl ?_
  refine mm_go 2 (F' := (12, [some (.ref 12), some (.ref 5), some (.int i), some (.int n), none], [.long (0 : Int64), .ref 12], HH x (ui (ui σ 1200 (0 : Int32)) 1201 (0 : Int32)))) rfl ?_
  refine mm_go 1 (F' := (15, [some (.ref 12), some (.ref 5), some (.int i), some (.int n), none], [], HH x (ul (ui (ui σ 1200 (0 : Int32)) 1201 (0 : Int32)) 1202 (0 : Int64)))) rfl ?_
  refine mm_go 2 (F' := (18, [some (.ref 12), some (.ref 5), some (.int i), some (.int n), some (.int (0 : Int32))], [], HH x (ul (ui (ui σ 1200 (0 : Int32)) 1201 (0 : Int32)) 1202 (0 : Int64)))) rfl ?_
  exact mm_wk (by exact (And.intro rfl (And.intro rfl (And.intro rfl (And.intro rfl (And.intro rfl True.intro)))))) k1
theorem vc_readh_1 {d : Nat} {x : Nat × (Nat → Int32)} {σ : mm_S} {i n e : Int32} {r : Option Value × mm_H} (hd : 2 ≤ d) (k1 : n ≤ e → n < (3 : Int32) → (some (.int n), HH x σ) = r) (k2 : n ≤ e → ¬ n < (3 : Int32) → (f_end_ σ) ≤ n → (some (.int (-1 : Int32)), HH x σ) = r) (k3 : n ≤ e → ¬ n < (3 : Int32) → ¬ (f_end_ σ) ≤ n → (some (.int n), HH x σ) = r) (k4 : ¬ n ≤ e → ¬ ((i + e) < 0 ∨ 60 ≤ (i + e).toNatClampNeg)) (k5 : ¬ n ≤ e → (¬ e = (0 : Int32) ∧ ¬ e = (1 : Int32) ∧ ¬ e = (2 : Int32)) → ¬ (f_end_ σ) ≤ e → ¬ ((σ.1 1201) + (1 : Int32)) = 0) (k6 : ¬ n ≤ e → (¬ e = (0 : Int32) ∧ ¬ e = (1 : Int32) ∧ ¬ e = (2 : Int32)) → ¬ (f_end_ σ) ≤ e → 0 ≤ (((e - (3 : Int32)) - (e - (3 : Int32)) / ((σ.1 1201) + (1 : Int32)) * ((σ.1 1201) + (1 : Int32))) - (1 : Int32)) → ((σ.2.2.1 9) (i + e).toNatClampNeg) = (46 : Int32) → ¬ ((σ.1 1201) + (1 : Int32)) = 0) (k7 : ¬ n ≤ e → (p_goesOn σ e ((σ.2.2.1 9) (i + e).toNatClampNeg)) → mm_Runs d 15 (18, [some (.ref 12), some (.ref 5), some (.int i), some (.int n), some (.int (e + (1 : Int32)))], [], HH x (g_goesOn σ e ((σ.2.2.1 9) (i + e).toNatClampNeg))) r) (k8 : ¬ n ≤ e → ¬ (p_goesOn σ e ((σ.2.2.1 9) (i + e).toNatClampNeg)) → (some (.int e), HH x (g_goesOn σ e ((σ.2.2.1 9) (i + e).toNatClampNeg))) = r) : mm_Runs d 15 (18, [some (.ref 12), some (.ref 5), some (.int i), some (.int n), some (.int e)], [], HH x σ) r := by
  refine mm_go 3 (F' := (bif mm_cond .ge e n then 51 else 24, [some (.ref 12), some (.ref 5), some (.int i), some (.int n), some (.int e)], [], HH x σ)) rfl ?_
  refine mb_ge (fun h1 => ?_) (fun h1 => ?_)
  · refine mm_go 3 (F' := (bif mm_cond .lt n (3 : Int32) then 64 else 56, [some (.ref 12), some (.ref 5), some (.int i), some (.int n), some (.int e)], [], HH x σ)) rfl ?_
    refine mb_lt (fun h2 => ?_) (fun h2 => ?_)
    · refine mm_go 2 (F' := (69, [some (.ref 12), some (.ref 5), some (.int i), some (.int n), some (.int e)], [.int n], HH x σ)) rfl ?_
      exact mm_rt rfl rfl (k1 h1 h2)
    · refine mm_go 2 (F' := (58, [some (.ref 12), some (.ref 5), some (.int i), some (.int n), some (.int e)], [.ref 12, .int n], HH x σ)) rfl ?_
      refine mm_kl (z := 16) (as := [.ref 12]) (S' := [.int n]) (L2 := [some (.ref 12)]) (v := some (.int (f_end_ σ))) (h1 := HH x σ) rfl rfl rfl rfl rfl (by omega) (r_end_ (by omega)) ?_
      show mm_Runs d 15 (61, [some (.ref 12), some (.ref 5), some (.int i), some (.int n), some (.int e)], [.int (f_end_ σ), .int n], HH x σ) r
      refine mm_go 1 (F' := (bif mm_cond .ge n (f_end_ σ) then 68 else 64, [some (.ref 12), some (.ref 5), some (.int i), some (.int n), some (.int e)], [], HH x σ)) rfl ?_
      refine mb_ge (fun h3 => ?_) (fun h3 => ?_)
      · refine mm_go 1 (F' := (69, [some (.ref 12), some (.ref 5), some (.int i), some (.int n), some (.int e)], [.int (-1 : Int32)], HH x σ)) rfl ?_
        exact mm_rt rfl rfl (k2 h1 h2 h3)
      · refine mm_go 2 (F' := (69, [some (.ref 12), some (.ref 5), some (.int i), some (.int n), some (.int e)], [.int n], HH x σ)) rfl ?_
        exact mm_rt rfl rfl (k3 h1 h2 h3)
  · refine mm_go 7 (F' := (35, [some (.ref 12), some (.ref 5), some (.int i), some (.int n), some (.int e)], [.int (i + e), .ref 9, .int e, .ref 12], HH x σ)) rfl ?_
    refine mm_gd (F' := (36, [some (.ref 12), some (.ref 5), some (.int i), some (.int n), some (.int e)], [.int ((σ.2.2.1 9) (i + e).toNatClampNeg), .int e, .ref 12], HH x σ)) rfl (k4 h1) ?_
    refine mm_kl (z := 17) (as := [.ref 12, .int e, .int ((σ.2.2.1 9) (i + e).toNatClampNeg)]) (S' := []) (L2 := [some (.ref 12), some (.int e), some (.int ((σ.2.2.1 9) (i + e).toNatClampNeg))]) (v := some (.int (mm_b (p_goesOn σ e ((σ.2.2.1 9) (i + e).toNatClampNeg))))) (h1 := HH x (g_goesOn σ e ((σ.2.2.1 9) (i + e).toNatClampNeg))) rfl rfl rfl rfl rfl (by omega) (r_goesOn (by omega) (k5 h1) (k6 h1)) ?_
    show mm_Runs d 15 (39, [some (.ref 12), some (.ref 5), some (.int i), some (.int n), some (.int e)], [.int (mm_b (p_goesOn σ e ((σ.2.2.1 9) (i + e).toNatClampNeg)))], HH x (g_goesOn σ e ((σ.2.2.1 9) (i + e).toNatClampNeg))) r
    refine mm_go 1 (F' := (bif mm_cond .ne (mm_b (p_goesOn σ e ((σ.2.2.1 9) (i + e).toNatClampNeg))) 0 then 45 else 42, [some (.ref 12), some (.ref 5), some (.int i), some (.int n), some (.int e)], [], HH x (g_goesOn σ e ((σ.2.2.1 9) (i + e).toNatClampNeg)))) rfl ?_
    refine mb_bne (fun h4 => ?_) (fun h4 => ?_)
    · refine mm_go 2 (F' := (18, [some (.ref 12), some (.ref 5), some (.int i), some (.int n), some (.int (e + (1 : Int32)))], [], HH x (g_goesOn σ e ((σ.2.2.1 9) (i + e).toNatClampNeg)))) rfl ?_
      exact mm_wk (by exact (And.intro rfl (And.intro rfl (And.intro rfl (And.intro rfl (And.intro rfl True.intro)))))) (k7 h1 h4)
    · refine mm_go 1 (F' := (44, [some (.ref 12), some (.ref 5), some (.int i), some (.int n), some (.int e)], [.int e], HH x (g_goesOn σ e ((σ.2.2.1 9) (i + e).toNatClampNeg)))) rfl ?_
      exact mm_rt rfl rfl (k8 h1 h4)
theorem vc_read0_2 {d : Nat} {x : Nat × (Nat → Int32)} {σ : mm_S} {i n : Int32} {r : Option Value × mm_H} (k1 : mm_Runs d 15 (18, [some (.ref 12), some (.ref 6), some (.int i), some (.int n), some (.int (0 : Int32))], [], HH x (ul (ui (ui σ 1200 (0 : Int32)) 1201 (0 : Int32)) 1202 (0 : Int64))) r) : mm_Runs d 15 (0, [some (.ref 12), some (.ref 6), some (.int i), some (.int n), none], [], HH x σ) r := by
  refine mm_go 2 (F' := (2, [some (.ref 12), some (.ref 6), some (.int i), some (.int n), none], [.int (0 : Int32), .ref 12], HH x σ)) rfl ?_
  refine mm_go 1 (F' := (5, [some (.ref 12), some (.ref 6), some (.int i), some (.int n), none], [], HH x (ui σ 1200 (0 : Int32)))) rfl ?_
  refine mm_go 2 (F' := (7, [some (.ref 12), some (.ref 6), some (.int i), some (.int n), none], [.int (0 : Int32), .ref 12], HH x (ui σ 1200 (0 : Int32)))) rfl ?_
  refine mm_go 1 (F' := (10, [some (.ref 12), some (.ref 6), some (.int i), some (.int n), none], [], HH x (ui (ui σ 1200 (0 : Int32)) 1201 (0 : Int32)))) rfl ?_
  refine mm_go 2 (F' := (12, [some (.ref 12), some (.ref 6), some (.int i), some (.int n), none], [.long (0 : Int64), .ref 12], HH x (ui (ui σ 1200 (0 : Int32)) 1201 (0 : Int32)))) rfl ?_
  refine mm_go 1 (F' := (15, [some (.ref 12), some (.ref 6), some (.int i), some (.int n), none], [], HH x (ul (ui (ui σ 1200 (0 : Int32)) 1201 (0 : Int32)) 1202 (0 : Int64)))) rfl ?_
  refine mm_go 2 (F' := (18, [some (.ref 12), some (.ref 6), some (.int i), some (.int n), some (.int (0 : Int32))], [], HH x (ul (ui (ui σ 1200 (0 : Int32)) 1201 (0 : Int32)) 1202 (0 : Int64)))) rfl ?_
  exact mm_wk (by exact (And.intro rfl (And.intro rfl (And.intro rfl (And.intro rfl (And.intro rfl True.intro)))))) k1
theorem vc_readh_2 {d : Nat} {x : Nat × (Nat → Int32)} {σ : mm_S} {i n e : Int32} {r : Option Value × mm_H} (hd : 2 ≤ d) (k1 : n ≤ e → n < (3 : Int32) → (some (.int n), HH x σ) = r) (k2 : n ≤ e → ¬ n < (3 : Int32) → (f_end_ σ) ≤ n → (some (.int (-1 : Int32)), HH x σ) = r) (k3 : n ≤ e → ¬ n < (3 : Int32) → ¬ (f_end_ σ) ≤ n → (some (.int n), HH x σ) = r) (k4 : ¬ n ≤ e → ¬ ((i + e) < 0 ∨ 60 ≤ (i + e).toNatClampNeg)) (k5 : ¬ n ≤ e → (¬ e = (0 : Int32) ∧ ¬ e = (1 : Int32) ∧ ¬ e = (2 : Int32)) → ¬ (f_end_ σ) ≤ e → ¬ ((σ.1 1201) + (1 : Int32)) = 0) (k6 : ¬ n ≤ e → (¬ e = (0 : Int32) ∧ ¬ e = (1 : Int32) ∧ ¬ e = (2 : Int32)) → ¬ (f_end_ σ) ≤ e → 0 ≤ (((e - (3 : Int32)) - (e - (3 : Int32)) / ((σ.1 1201) + (1 : Int32)) * ((σ.1 1201) + (1 : Int32))) - (1 : Int32)) → ((σ.2.2.1 10) (i + e).toNatClampNeg) = (46 : Int32) → ¬ ((σ.1 1201) + (1 : Int32)) = 0) (k7 : ¬ n ≤ e → (p_goesOn σ e ((σ.2.2.1 10) (i + e).toNatClampNeg)) → mm_Runs d 15 (18, [some (.ref 12), some (.ref 6), some (.int i), some (.int n), some (.int (e + (1 : Int32)))], [], HH x (g_goesOn σ e ((σ.2.2.1 10) (i + e).toNatClampNeg))) r) (k8 : ¬ n ≤ e → ¬ (p_goesOn σ e ((σ.2.2.1 10) (i + e).toNatClampNeg)) → (some (.int e), HH x (g_goesOn σ e ((σ.2.2.1 10) (i + e).toNatClampNeg))) = r) : mm_Runs d 15 (18, [some (.ref 12), some (.ref 6), some (.int i), some (.int n), some (.int e)], [], HH x σ) r := by
  refine mm_go 3 (F' := (bif mm_cond .ge e n then 51 else 24, [some (.ref 12), some (.ref 6), some (.int i), some (.int n), some (.int e)], [], HH x σ)) rfl ?_
  refine mb_ge (fun h1 => ?_) (fun h1 => ?_)
  · refine mm_go 3 (F' := (bif mm_cond .lt n (3 : Int32) then 64 else 56, [some (.ref 12), some (.ref 6), some (.int i), some (.int n), some (.int e)], [], HH x σ)) rfl ?_
    refine mb_lt (fun h2 => ?_) (fun h2 => ?_)
    · refine mm_go 2 (F' := (69, [some (.ref 12), some (.ref 6), some (.int i), some (.int n), some (.int e)], [.int n], HH x σ)) rfl ?_
      exact mm_rt rfl rfl (k1 h1 h2)
    · refine mm_go 2 (F' := (58, [some (.ref 12), some (.ref 6), some (.int i), some (.int n), some (.int e)], [.ref 12, .int n], HH x σ)) rfl ?_
      refine mm_kl (z := 16) (as := [.ref 12]) (S' := [.int n]) (L2 := [some (.ref 12)]) (v := some (.int (f_end_ σ))) (h1 := HH x σ) rfl rfl rfl rfl rfl (by omega) (r_end_ (by omega)) ?_
      show mm_Runs d 15 (61, [some (.ref 12), some (.ref 6), some (.int i), some (.int n), some (.int e)], [.int (f_end_ σ), .int n], HH x σ) r
      refine mm_go 1 (F' := (bif mm_cond .ge n (f_end_ σ) then 68 else 64, [some (.ref 12), some (.ref 6), some (.int i), some (.int n), some (.int e)], [], HH x σ)) rfl ?_
      refine mb_ge (fun h3 => ?_) (fun h3 => ?_)
      · refine mm_go 1 (F' := (69, [some (.ref 12), some (.ref 6), some (.int i), some (.int n), some (.int e)], [.int (-1 : Int32)], HH x σ)) rfl ?_
        exact mm_rt rfl rfl (k2 h1 h2 h3)
      · refine mm_go 2 (F' := (69, [some (.ref 12), some (.ref 6), some (.int i), some (.int n), some (.int e)], [.int n], HH x σ)) rfl ?_
        exact mm_rt rfl rfl (k3 h1 h2 h3)
  · refine mm_go 7 (F' := (35, [some (.ref 12), some (.ref 6), some (.int i), some (.int n), some (.int e)], [.int (i + e), .ref 10, .int e, .ref 12], HH x σ)) rfl ?_
    refine mm_gd (F' := (36, [some (.ref 12), some (.ref 6), some (.int i), some (.int n), some (.int e)], [.int ((σ.2.2.1 10) (i + e).toNatClampNeg), .int e, .ref 12], HH x σ)) rfl (k4 h1) ?_
    refine mm_kl (z := 17) (as := [.ref 12, .int e, .int ((σ.2.2.1 10) (i + e).toNatClampNeg)]) (S' := []) (L2 := [some (.ref 12), some (.int e), some (.int ((σ.2.2.1 10) (i + e).toNatClampNeg))]) (v := some (.int (mm_b (p_goesOn σ e ((σ.2.2.1 10) (i + e).toNatClampNeg))))) (h1 := HH x (g_goesOn σ e ((σ.2.2.1 10) (i + e).toNatClampNeg))) rfl rfl rfl rfl rfl (by omega) (r_goesOn (by omega) (k5 h1) (k6 h1)) ?_
    show mm_Runs d 15 (39, [some (.ref 12), some (.ref 6), some (.int i), some (.int n), some (.int e)], [.int (mm_b (p_goesOn σ e ((σ.2.2.1 10) (i + e).toNatClampNeg)))], HH x (g_goesOn σ e ((σ.2.2.1 10) (i + e).toNatClampNeg))) r
    refine mm_go 1 (F' := (bif mm_cond .ne (mm_b (p_goesOn σ e ((σ.2.2.1 10) (i + e).toNatClampNeg))) 0 then 45 else 42, [some (.ref 12), some (.ref 6), some (.int i), some (.int n), some (.int e)], [], HH x (g_goesOn σ e ((σ.2.2.1 10) (i + e).toNatClampNeg)))) rfl ?_
    refine mb_bne (fun h4 => ?_) (fun h4 => ?_)
    · refine mm_go 2 (F' := (18, [some (.ref 12), some (.ref 6), some (.int i), some (.int n), some (.int (e + (1 : Int32)))], [], HH x (g_goesOn σ e ((σ.2.2.1 10) (i + e).toNatClampNeg)))) rfl ?_
      exact mm_wk (by exact (And.intro rfl (And.intro rfl (And.intro rfl (And.intro rfl (And.intro rfl True.intro)))))) (k7 h1 h4)
    · refine mm_go 1 (F' := (44, [some (.ref 12), some (.ref 6), some (.int i), some (.int n), some (.int e)], [.int e], HH x (g_goesOn σ e ((σ.2.2.1 10) (i + e).toNatClampNeg)))) rfl ?_
      exact mm_rt rfl rfl (k8 h1 h4)
theorem vc_read0_3 {d : Nat} {x : Nat × (Nat → Int32)} {σ : mm_S} {i n : Int32} {r : Option Value × mm_H} (k1 : mm_Runs d 15 (18, [some (.ref 12), some (.ref 7), some (.int i), some (.int n), some (.int (0 : Int32))], [], HH x (ul (ui (ui σ 1200 (0 : Int32)) 1201 (0 : Int32)) 1202 (0 : Int64))) r) : mm_Runs d 15 (0, [some (.ref 12), some (.ref 7), some (.int i), some (.int n), none], [], HH x σ) r := by
  refine mm_go 2 (F' := (2, [some (.ref 12), some (.ref 7), some (.int i), some (.int n), none], [.int (0 : Int32), .ref 12], HH x σ)) rfl ?_
  refine mm_go 1 (F' := (5, [some (.ref 12), some (.ref 7), some (.int i), some (.int n), none], [], HH x (ui σ 1200 (0 : Int32)))) rfl ?_
  refine mm_go 2 (F' := (7, [some (.ref 12), some (.ref 7), some (.int i), some (.int n), none], [.int (0 : Int32), .ref 12], HH x (ui σ 1200 (0 : Int32)))) rfl ?_
  refine mm_go 1 (F' := (10, [some (.ref 12), some (.ref 7), some (.int i), some (.int n), none], [], HH x (ui (ui σ 1200 (0 : Int32)) 1201 (0 : Int32)))) rfl ?_
  refine mm_go 2 (F' := (12, [some (.ref 12), some (.ref 7), some (.int i), some (.int n), none], [.long (0 : Int64), .ref 12], HH x (ui (ui σ 1200 (0 : Int32)) 1201 (0 : Int32)))) rfl ?_
  refine mm_go 1 (F' := (15, [some (.ref 12), some (.ref 7), some (.int i), some (.int n), none], [], HH x (ul (ui (ui σ 1200 (0 : Int32)) 1201 (0 : Int32)) 1202 (0 : Int64)))) rfl ?_
  refine mm_go 2 (F' := (18, [some (.ref 12), some (.ref 7), some (.int i), some (.int n), some (.int (0 : Int32))], [], HH x (ul (ui (ui σ 1200 (0 : Int32)) 1201 (0 : Int32)) 1202 (0 : Int64)))) rfl ?_
  exact mm_wk (by exact (And.intro rfl (And.intro rfl (And.intro rfl (And.intro rfl (And.intro rfl True.intro)))))) k1
theorem vc_readh_3 {d : Nat} {x : Nat × (Nat → Int32)} {σ : mm_S} {i n e : Int32} {r : Option Value × mm_H} (hd : 2 ≤ d) (k1 : n ≤ e → n < (3 : Int32) → (some (.int n), HH x σ) = r) (k2 : n ≤ e → ¬ n < (3 : Int32) → (f_end_ σ) ≤ n → (some (.int (-1 : Int32)), HH x σ) = r) (k3 : n ≤ e → ¬ n < (3 : Int32) → ¬ (f_end_ σ) ≤ n → (some (.int n), HH x σ) = r) (k4 : ¬ n ≤ e → ¬ ((i + e) < 0 ∨ 60 ≤ (i + e).toNatClampNeg)) (k5 : ¬ n ≤ e → (¬ e = (0 : Int32) ∧ ¬ e = (1 : Int32) ∧ ¬ e = (2 : Int32)) → ¬ (f_end_ σ) ≤ e → ¬ ((σ.1 1201) + (1 : Int32)) = 0) (k6 : ¬ n ≤ e → (¬ e = (0 : Int32) ∧ ¬ e = (1 : Int32) ∧ ¬ e = (2 : Int32)) → ¬ (f_end_ σ) ≤ e → 0 ≤ (((e - (3 : Int32)) - (e - (3 : Int32)) / ((σ.1 1201) + (1 : Int32)) * ((σ.1 1201) + (1 : Int32))) - (1 : Int32)) → ((σ.2.2.1 11) (i + e).toNatClampNeg) = (46 : Int32) → ¬ ((σ.1 1201) + (1 : Int32)) = 0) (k7 : ¬ n ≤ e → (p_goesOn σ e ((σ.2.2.1 11) (i + e).toNatClampNeg)) → mm_Runs d 15 (18, [some (.ref 12), some (.ref 7), some (.int i), some (.int n), some (.int (e + (1 : Int32)))], [], HH x (g_goesOn σ e ((σ.2.2.1 11) (i + e).toNatClampNeg))) r) (k8 : ¬ n ≤ e → ¬ (p_goesOn σ e ((σ.2.2.1 11) (i + e).toNatClampNeg)) → (some (.int e), HH x (g_goesOn σ e ((σ.2.2.1 11) (i + e).toNatClampNeg))) = r) : mm_Runs d 15 (18, [some (.ref 12), some (.ref 7), some (.int i), some (.int n), some (.int e)], [], HH x σ) r := by
  refine mm_go 3 (F' := (bif mm_cond .ge e n then 51 else 24, [some (.ref 12), some (.ref 7), some (.int i), some (.int n), some (.int e)], [], HH x σ)) rfl ?_
  refine mb_ge (fun h1 => ?_) (fun h1 => ?_)
  · refine mm_go 3 (F' := (bif mm_cond .lt n (3 : Int32) then 64 else 56, [some (.ref 12), some (.ref 7), some (.int i), some (.int n), some (.int e)], [], HH x σ)) rfl ?_
    refine mb_lt (fun h2 => ?_) (fun h2 => ?_)
    · refine mm_go 2 (F' := (69, [some (.ref 12), some (.ref 7), some (.int i), some (.int n), some (.int e)], [.int n], HH x σ)) rfl ?_
      exact mm_rt rfl rfl (k1 h1 h2)
    · refine mm_go 2 (F' := (58, [some (.ref 12), some (.ref 7), some (.int i), some (.int n), some (.int e)], [.ref 12, .int n], HH x σ)) rfl ?_
      refine mm_kl (z := 16) (as := [.ref 12]) (S' := [.int n]) (L2 := [some (.ref 12)]) (v := some (.int (f_end_ σ))) (h1 := HH x σ) rfl rfl rfl rfl rfl (by omega) (r_end_ (by omega)) ?_
      show mm_Runs d 15 (61, [some (.ref 12), some (.ref 7), some (.int i), some (.int n), some (.int e)], [.int (f_end_ σ), .int n], HH x σ) r
      refine mm_go 1 (F' := (bif mm_cond .ge n (f_end_ σ) then 68 else 64, [some (.ref 12), some (.ref 7), some (.int i), some (.int n), some (.int e)], [], HH x σ)) rfl ?_
      refine mb_ge (fun h3 => ?_) (fun h3 => ?_)
      · refine mm_go 1 (F' := (69, [some (.ref 12), some (.ref 7), some (.int i), some (.int n), some (.int e)], [.int (-1 : Int32)], HH x σ)) rfl ?_
        exact mm_rt rfl rfl (k2 h1 h2 h3)
      · refine mm_go 2 (F' := (69, [some (.ref 12), some (.ref 7), some (.int i), some (.int n), some (.int e)], [.int n], HH x σ)) rfl ?_
        exact mm_rt rfl rfl (k3 h1 h2 h3)
  · refine mm_go 7 (F' := (35, [some (.ref 12), some (.ref 7), some (.int i), some (.int n), some (.int e)], [.int (i + e), .ref 11, .int e, .ref 12], HH x σ)) rfl ?_
    refine mm_gd (F' := (36, [some (.ref 12), some (.ref 7), some (.int i), some (.int n), some (.int e)], [.int ((σ.2.2.1 11) (i + e).toNatClampNeg), .int e, .ref 12], HH x σ)) rfl (k4 h1) ?_
    refine mm_kl (z := 17) (as := [.ref 12, .int e, .int ((σ.2.2.1 11) (i + e).toNatClampNeg)]) (S' := []) (L2 := [some (.ref 12), some (.int e), some (.int ((σ.2.2.1 11) (i + e).toNatClampNeg))]) (v := some (.int (mm_b (p_goesOn σ e ((σ.2.2.1 11) (i + e).toNatClampNeg))))) (h1 := HH x (g_goesOn σ e ((σ.2.2.1 11) (i + e).toNatClampNeg))) rfl rfl rfl rfl rfl (by omega) (r_goesOn (by omega) (k5 h1) (k6 h1)) ?_
    show mm_Runs d 15 (39, [some (.ref 12), some (.ref 7), some (.int i), some (.int n), some (.int e)], [.int (mm_b (p_goesOn σ e ((σ.2.2.1 11) (i + e).toNatClampNeg)))], HH x (g_goesOn σ e ((σ.2.2.1 11) (i + e).toNatClampNeg))) r
    refine mm_go 1 (F' := (bif mm_cond .ne (mm_b (p_goesOn σ e ((σ.2.2.1 11) (i + e).toNatClampNeg))) 0 then 45 else 42, [some (.ref 12), some (.ref 7), some (.int i), some (.int n), some (.int e)], [], HH x (g_goesOn σ e ((σ.2.2.1 11) (i + e).toNatClampNeg)))) rfl ?_
    refine mb_bne (fun h4 => ?_) (fun h4 => ?_)
    · refine mm_go 2 (F' := (18, [some (.ref 12), some (.ref 7), some (.int i), some (.int n), some (.int (e + (1 : Int32)))], [], HH x (g_goesOn σ e ((σ.2.2.1 11) (i + e).toNatClampNeg)))) rfl ?_
      exact mm_wk (by exact (And.intro rfl (And.intro rfl (And.intro rfl (And.intro rfl (And.intro rfl True.intro)))))) (k7 h1 h4)
    · refine mm_go 1 (F' := (44, [some (.ref 12), some (.ref 7), some (.int i), some (.int n), some (.int e)], [.int e], HH x (g_goesOn σ e ((σ.2.2.1 11) (i + e).toNatClampNeg)))) rfl ?_
      exact mm_rt rfl rfl (k8 h1 h4)
theorem vc_begin0 {d : Nat} {x : Nat × (Nat → Int32)} {σ : mm_S} {q : Int64} {h w : Int32} {r : Option Value × mm_H} (k1 : mm_Runs d 6 (20, [some (.ref 13), some (.int h), some (.int w), some (.long q), none, some (.int (0 : Int32))], [], HH x (ul (ui (ui σ 1306 w) 1305 (h * w)) 1303 (0 : Int64))) r) : mm_Runs d 6 (0, [some (.ref 13), some (.int h), some (.int w), some (.long q), none, none], [], HH x σ) r := by
  refine mm_go 2 (F' := (2, [some (.ref 13), some (.int h), some (.int w), some (.long q), none, none], [.int w, .ref 13], HH x σ)) rfl ?_
  refine mm_go 1 (F' := (5, [some (.ref 13), some (.int h), some (.int w), some (.long q), none, none], [], HH x (ui σ 1306 w))) rfl ?_
  refine mm_go 4 (F' := (9, [some (.ref 13), some (.int h), some (.int w), some (.long q), none, none], [.int (h * w), .ref 13], HH x (ui σ 1306 w))) rfl ?_
  refine mm_go 1 (F' := (12, [some (.ref 13), some (.int h), some (.int w), some (.long q), none, none], [], HH x (ui (ui σ 1306 w) 1305 (h * w)))) rfl ?_
  refine mm_go 2 (F' := (14, [some (.ref 13), some (.int h), some (.int w), some (.long q), none, none], [.long (0 : Int64), .ref 13], HH x (ui (ui σ 1306 w) 1305 (h * w)))) rfl ?_
  refine mm_go 1 (F' := (17, [some (.ref 13), some (.int h), some (.int w), some (.long q), none, none], [], HH x (ul (ui (ui σ 1306 w) 1305 (h * w)) 1303 (0 : Int64)))) rfl ?_
  refine mm_go 2 (F' := (20, [some (.ref 13), some (.int h), some (.int w), some (.long q), none, some (.int (0 : Int32))], [], HH x (ul (ui (ui σ 1306 w) 1305 (h * w)) 1303 (0 : Int64)))) rfl ?_
  exact mm_wk (by exact (And.intro rfl (And.intro rfl (And.intro rfl (And.intro rfl (And.intro rfl True.intro)))))) k1
theorem vc_beginh {d : Nat} {x : Nat × (Nat → Int32)} {σ : mm_S} {q : Int64} {h w e : Int32} {r : Option Value × mm_H} (hd : 1 ≤ d) (k1 : h ≤ e → (none, HH x (g_turnTo (ul σ 1304 ((σ.2.1 1303) <<< (Int32.toInt64 (w - (1 : Int32)) &&& 63))) q)) = r) (k2 : ¬ h ≤ e → mm_Runs d 6 (20, [some (.ref 13), some (.int h), some (.int w), some (.long q), none, some (.int (e + (1 : Int32)))], [], HH x (ul σ 1303 ((σ.2.1 1303) ||| ((1 : Int64) <<< (Int32.toInt64 (e * w) &&& 63))))) r) : mm_Runs d 6 (20, [some (.ref 13), some (.int h), some (.int w), some (.long q), none, some (.int e)], [], HH x σ) r := by
  refine mm_go 3 (F' := (bif mm_cond .ge e h then 47 else 26, [some (.ref 13), some (.int h), some (.int w), some (.long q), none, some (.int e)], [], HH x σ)) rfl ?_
  refine mb_ge (fun h1 => ?_) (fun h1 => ?_)
  · refine mm_go 7 (F' := (56, [some (.ref 13), some (.int h), some (.int w), some (.long q), none, some (.int e)], [.long ((σ.2.1 1303) <<< (Int32.toInt64 (w - (1 : Int32)) &&& 63)), .ref 13], HH x σ)) rfl ?_
    refine mm_go 1 (F' := (59, [some (.ref 13), some (.int h), some (.int w), some (.long q), none, some (.int e)], [], HH x (ul σ 1304 ((σ.2.1 1303) <<< (Int32.toInt64 (w - (1 : Int32)) &&& 63))))) rfl ?_
    refine mm_go 2 (F' := (61, [some (.ref 13), some (.int h), some (.int w), some (.long q), none, some (.int e)], [.long q, .ref 13], HH x (ul σ 1304 ((σ.2.1 1303) <<< (Int32.toInt64 (w - (1 : Int32)) &&& 63))))) rfl ?_
    refine mm_kl (z := 7) (as := [.ref 13, .long q]) (S' := []) (L2 := [some (.ref 13), some (.long q), none]) (v := none) (h1 := HH x (g_turnTo (ul σ 1304 ((σ.2.1 1303) <<< (Int32.toInt64 (w - (1 : Int32)) &&& 63))) q)) rfl rfl rfl rfl rfl (by omega) (r_turnTo (by omega)) ?_
    show mm_Runs d 6 (64, [some (.ref 13), some (.int h), some (.int w), some (.long q), none, some (.int e)], [], HH x (g_turnTo (ul σ 1304 ((σ.2.1 1303) <<< (Int32.toInt64 (w - (1 : Int32)) &&& 63))) q)) r
    exact mm_rt rfl rfl (k1 h1)
  · refine mm_go 9 (F' := (38, [some (.ref 13), some (.int h), some (.int w), some (.long q), none, some (.int e)], [.long ((σ.2.1 1303) ||| ((1 : Int64) <<< (Int32.toInt64 (e * w) &&& 63))), .ref 13], HH x σ)) rfl ?_
    refine mm_go 1 (F' := (41, [some (.ref 13), some (.int h), some (.int w), some (.long q), none, some (.int e)], [], HH x (ul σ 1303 ((σ.2.1 1303) ||| ((1 : Int64) <<< (Int32.toInt64 (e * w) &&& 63)))))) rfl ?_
    refine mm_go 2 (F' := (20, [some (.ref 13), some (.int h), some (.int w), some (.long q), none, some (.int (e + (1 : Int32)))], [], HH x (ul σ 1303 ((σ.2.1 1303) ||| ((1 : Int64) <<< (Int32.toInt64 (e * w) &&& 63)))))) rfl ?_
    exact mm_wk (by exact (And.intro rfl (And.intro rfl (And.intro rfl (And.intro rfl (And.intro rfl True.intro)))))) (k2 h1)
theorem mm_up_comm {α : Type} (f : Nat → α) {k k' : Nat} (h : k ≠ k') (x y : α) : mm_up (mm_up f k x) k' y = mm_up (mm_up f k' y) k x := by
  funext j
  unfold mm_up
  cases h1 : Nat.beq j k' with
  | false => rfl
  | true =>
    cases h2 : Nat.beq j k with
    | false => rfl
    | true => exact absurd ((Nat.eq_of_beq_eq_true h2).symm.trans (Nat.eq_of_beq_eq_true h1)) h
/-- a text: high, wide, where its rows end, where a cell's code stands -/
def rd_H (s : Nat → Int32) : Nat := (s 1).toNatClampNeg - 48
def rd_W (s : Nat → Int32) : Nat := (s 2).toNatClampNeg - 48
def rd_E (s : Nat → Int32) : Nat := 3 + rd_H s * (rd_W s + 1)
def rd_r (s : Nat → Int32) (k : Nat) : Prop := k < rd_E s ∧ (((k - 3) % (rd_W s + 1) = 0 ∧ s k = 59) ∨ (¬ (k - 3) % (rd_W s + 1) = 0 ∧ (s k = 46 ∨ s k = 35)))
def rd_ok (s : Nat → Int32) (k : Nat) : Prop := (k = 0 ∧ s 0 = 112) ∨ (k = 1 ∧ 49 ≤ s 1 ∧ s 1 ≤ 54) ∨ (k = 2 ∧ 49 ≤ s 2 ∧ s 2 ≤ 55) ∨ (3 ≤ k ∧ rd_r s k)
def rd_f (s : Nat → Int32) (n f : Nat) : Prop := ((f < n ∧ ¬ rd_ok s f) ∨ (f = n ∧ (n < 3 ∨ n < rd_E s))) ∧ ∀ j, j < f → rd_ok s j
def rd_t (s : Nat → Int32) (n : Nat) : Prop := 3 ≤ n ∧ rd_E s ≤ n ∧ ∀ j, j < n → rd_ok s j
theorem rd_uni {s : Nat → Int32} {n f g : Nat} (h1 : rd_f s n f) (h2 : rd_f s n g) : f = g := by
  rcases Nat.lt_trichotomy f g with q | q | q
  · rcases h1.1 with ⟨z1, z2⟩ | ⟨z1, z2⟩
    · exact absurd (h2.2 f q) z2
    · rcases h2.1 with ⟨y1, -⟩ | ⟨y1, -⟩ <;> omega
  · exact q
  · rcases h2.1 with ⟨z1, z2⟩ | ⟨z1, z2⟩
    · exact absurd (h1.2 g q) z2
    · rcases h1.1 with ⟨y1, -⟩ | ⟨y1, -⟩ <;> omega
theorem rd_ft {s : Nat → Int32} {n f : Nat} (h1 : rd_f s n f) (h2 : rd_t s n) : False := by
  obtain ⟨t1, t2, t3⟩ := h2
  rcases h1.1 with ⟨z1, z2⟩ | ⟨z1, z2⟩
  · exact z2 (t3 f z1)
  · omega
theorem rd_d {v : Int32} {m : Nat} (hm : m ≤ 60) (h1 : (49 : Int32) ≤ v) (h2 : v ≤ nI m) : ∃ u : Nat, 49 ≤ u ∧ u ≤ m ∧ v = nI u := by
  have e1 : (49 : Int32).toInt = 49 := rfl
  rw [Int32.le_iff_toInt_le, e1] at h1
  obtain ⟨u, hu, rfl⟩ := nI_of2 (M := nI m) (n := m) (nI_toInt (by omega)) (x := v) (by
    rw [Int32.lt_iff_toInt_lt, show (0 : Int32).toInt = 0 from rfl]
    omega) h2
  rw [nI_toInt (by omega)] at h1
  exact ⟨u, by omega, hu, rfl⟩
theorem rd_hw {s : Nat → Int32} (h1 : rd_ok s 1) (h2 : rd_ok s 2) : (1 ≤ rd_H s ∧ rd_H s ≤ 6 ∧ s 1 - 48 = nI (rd_H s)) ∧ 1 ≤ rd_W s ∧ rd_W s ≤ 7 ∧ s 2 - 48 = nI (rd_W s) := by
  have a1 : 49 ≤ s 1 ∧ s 1 ≤ 54 := by
    rcases h1 with ⟨z, -⟩ | ⟨-, z⟩ | ⟨z, -⟩ | ⟨z, -⟩
    · omega
    · exact z
    · omega
    · omega
  have a2 : 49 ≤ s 2 ∧ s 2 ≤ 55 := by
    rcases h2 with ⟨z, -⟩ | ⟨z, -⟩ | ⟨-, z⟩ | ⟨z, -⟩
    · omega
    · omega
    · exact z
    · omega
  obtain ⟨u, u1, u2, u3⟩ := rd_d (m := 54) (by omega) a1.1 a1.2
  obtain ⟨v, v1, v2, v3⟩ := rd_d (m := 55) (by omega) a2.1 a2.2
  unfold rd_H rd_W
  rw [u3, v3, nI_clamp (by omega), nI_clamp (by omega)]
  exact ⟨⟨by omega, by omega, pk_sub (a := u) (b := 48) (by omega)⟩, by omega, by omega, pk_sub (a := v) (b := 48) (by omega)⟩
/-- where a cell's code stands -/
def rd_p (W c : Nat) : Nat := 3 + c / W * (W + 1) + 1 + c % W
theorem rd_pk {H W k c : Nat} (h1 : 1 ≤ W) (h7 : W ≤ 7) (hk : 3 ≤ k) (hE : k < 3 + H * (W + 1)) : (rd_p W c = k ∧ c < H * W) ↔ (¬ (k - 3) % (W + 1) = 0 ∧ c = (k - 3) / (W + 1) * W + ((k - 3) % (W + 1) - 1)) := by
  unfold rd_p
  have : W = 1 ∨ W = 2 ∨ W = 3 ∨ W = 4 ∨ W = 5 ∨ W = 6 ∨ W = 7 := by omega
  rcases this with rfl | rfl | rfl | rfl | rfl | rfl | rfl <;> omega
theorem rd_pE {H W c : Nat} (h1 : 1 ≤ W) (h7 : W ≤ 7) (hc : c < H * W) : 3 < rd_p W c ∧ rd_p W c < 3 + H * (W + 1) := by
  unfold rd_p
  have : W = 1 ∨ W = 2 ∨ W = 3 ∨ W = 4 ∨ W = 5 ∨ W = 6 ∨ W = 7 := by omega
  rcases this with rfl | rfl | rfl | rfl | rfl | rfl | rfl <;> omega
theorem rd_ci {H W k : Nat} (h1 : 1 ≤ W) (h7 : W ≤ 7) (h6 : H ≤ 6) (hE : k < 3 + H * (W + 1)) (hk : 3 ≤ k) : (k - 3) / (W + 1) * W + ((k - 3) % (W + 1) - 1) < 64 := by
  have : W = 1 ∨ W = 2 ∨ W = 3 ∨ W = 4 ∨ W = 5 ∨ W = 6 ∨ W = 7 := by omega
  rcases this with rfl | rfl | rfl | rfl | rfl | rfl | rfl <;> omega
/-- which cells are read as water, ahead of k -/
def rd_w (s : Nat → Int32) (k c : Nat) : Bool := decide (c < rd_H s * rd_W s) && (decide (rd_p (rd_W s) c < k) && decide (s (rd_p (rd_W s) c) = 46))
def tx (σ : mm_S) (h w : Int32) (q : Int64) : mm_S := ul (ui (ui σ 1200 h) 1201 w) 1202 q
theorem tx_q (σ : mm_S) (h w : Int32) (q q' : Int64) : ul (tx σ h w q) 1202 q' = tx σ h w q' := by
  unfold tx ul
  simp only [mm_up_up]
theorem tx_h (σ : mm_S) (h w h' : Int32) (q : Int64) : ui (tx σ h w q) 1200 h' = tx σ h' w q := by
  unfold tx ul ui
  simp only
  rw [mm_up_comm (k := 1201) (k' := 1200) _ (by decide), mm_up_up]
theorem tx_w (σ : mm_S) (h w w' : Int32) (q : Int64) : ui (tx σ h w q) 1201 w' = tx σ h w' q := by
  unfold tx ul ui
  simp only [mm_up_up]
section RD
variable {σ : mm_S} {s : Nat → Int32} {q : Int64} {k : Nat}
theorem end_tx {H W : Nat} : f_end_ (tx σ (nI H) (nI W) q) = nI (3 + H * (W + 1)) := by
  show (3 : Int32) + nI H * (nI W + 1) = _
  rw [show nI W + (1 : Int32) = nI (W + 1) from nI_1 W, pk_mul, show (3 : Int32) = nI 3 from rfl, nI_add]
theorem k3 (hk : 3 ≤ k) (h : k < 2 ^ 31) : ¬ nI k = 0 ∧ ¬ nI k = 1 ∧ ¬ nI k = 2 := by
  refine ⟨fun z => ?_, fun z => ?_, fun z => ?_⟩
  · have := (nI_eq (a := k) (b := 0) h (by omega)).mp z; omega
  · have := (nI_eq (a := k) (b := 1) h (by omega)).mp z; omega
  · have := (nI_eq (a := k) (b := 2) h (by omega)).mp z; omega
/-- behind the head each code is looked at so -/
theorem go_3 {c : Int32} (hH : rd_H s ≤ 6) (hW1 : 1 ≤ rd_W s) (hW : rd_W s ≤ 7) (hk : 3 ≤ k) (hk2 : k < 2 ^ 30) (hc : c = s k) : (p_goesOn (tx σ (nI (rd_H s)) (nI (rd_W s)) q) (nI k) c ↔ rd_ok s k) ∧ ((∀ e, bt q e = rd_w s k e) → ∃ q', g_goesOn (tx σ (nI (rd_H s)) (nI (rd_W s)) q) (nI k) c = tx σ (nI (rd_H s)) (nI (rd_W s)) q' ∧ (rd_ok s k → ∀ e, bt q' e = rd_w s (k + 1) e)) := by
  obtain ⟨n0, n1, n2⟩ := k3 hk (by omega)
  have hE : rd_E s ≤ 60 := by
    unfold rd_E
    have := Nat.mul_le_mul hH (show rd_W s + 1 ≤ 8 by omega)
    omega
  have eE : f_end_ (tx σ (nI (rd_H s)) (nI (rd_W s)) q) = nI (rd_E s) := end_tx
  have ew : (tx σ (nI (rd_H s)) (nI (rd_W s)) q).1 1201 + (1 : Int32) = nI (rd_W s + 1) := nI_1 _
  have ew2 : (tx σ (nI (rd_H s)) (nI (rd_W s)) q).1 1201 = nI (rd_W s) := rfl
  have e3 : nI k - (3 : Int32) = nI (k - 3) := pk_sub (a := k) (b := 3) hk
  have er : nI (k - 3) - nI (k - 3) / nI (rd_W s + 1) * nI (rd_W s + 1) = nI ((k - 3) % (rd_W s + 1)) := pk_rem (by omega) (by omega) (by omega)
  have ed : nI (k - 3) / nI (rd_W s + 1) = nI ((k - 3) / (rd_W s + 1)) := pk_div (by omega) (by omega) (by omega)
  have hm := Nat.mod_lt (k - 3) (show 0 < rd_W s + 1 by omega)
  have z0 : 0 ≤ nI ((k - 3) % (rd_W s + 1)) - (1 : Int32) ↔ ¬ (k - 3) % (rd_W s + 1) = 0 := by
    rw [Int32.le_iff_toInt_le, show (1 : Int32) = nI 1 from rfl, pk_sub_toInt (by omega) (by omega), show (0 : Int32).toInt = 0 from rfl]
    omega
  have ok3 : rd_ok s k ↔ rd_r s k := ⟨fun z => by
    rcases z with ⟨y, -⟩ | ⟨y, -⟩ | ⟨y, -⟩ | ⟨-, y⟩
    · omega
    · omega
    · omega
    · exact y, fun z => Or.inr (Or.inr (Or.inr ⟨hk, z⟩))⟩
  constructor
  · rw [ok3]
    unfold p_goesOn p_goesOnInRows rd_r
    rw [eE, ew, e3, er, z0, nI_leI (by omega) (by omega), hc]
    constructor
    · intro z
      rcases z with ⟨y, -⟩ | ⟨-, ⟨y, -⟩ | ⟨-, ⟨y, -⟩ | ⟨-, y1, y2⟩⟩⟩
      · exact absurd y n0
      · exact absurd y n1
      · exact absurd y n2
      · refine ⟨by omega, ?_⟩
        rcases y2 with ⟨w1, w2⟩ | ⟨w1, w2⟩
        · exact Or.inr ⟨w1, w2⟩
        · exact Or.inl ⟨Decidable.not_not.mp w1, w2⟩
    · rintro ⟨y1, y2⟩
      refine Or.inr ⟨n0, Or.inr ⟨n1, Or.inr ⟨n2, by omega, ?_⟩⟩⟩
      rcases y2 with ⟨w1, w2⟩ | ⟨w1, w2⟩
      · exact Or.inr ⟨fun z => z w1, w2⟩
      · exact Or.inl ⟨w1, w2⟩
  · intro hq
    unfold g_goesOn g_goesOnInRows
    rw [if_neg n0, if_neg n1, if_neg n2, eE, ew, ew2, e3, er]
    by_cases hk3 : nI (rd_E s) ≤ nI k
    · rw [if_pos hk3]
      refine ⟨q, rfl, fun z => ?_⟩
      rw [ok3] at z
      rw [nI_leI (by omega) (by omega)] at hk3
      have := z.1
      omega
    · rw [if_neg hk3]
      have hkE : k < 3 + rd_H s * (rd_W s + 1) := by
        rw [nI_leI (by omega) (by omega)] at hk3
        unfold rd_E at hk3
        omega
      have ext : ∀ e, rd_w s (k + 1) e = (rd_w s k e || (decide (¬ (k - 3) % (rd_W s + 1) = 0 ∧ e = (k - 3) / (rd_W s + 1) * rd_W s + ((k - 3) % (rd_W s + 1) - 1)) && decide (s k = 46))) := by
        intro e
        have key := rd_pk (c := e) hW1 hW hk hkE
        have key2 : decide (¬ (k - 3) % (rd_W s + 1) = 0 ∧ e = (k - 3) / (rd_W s + 1) * rd_W s + ((k - 3) % (rd_W s + 1) - 1)) = decide (rd_p (rd_W s) e = k ∧ e < rd_H s * rd_W s) := decide_eq_decide.mpr key.symm
        rw [key2]
        unfold rd_w
        by_cases h1 : e < rd_H s * rd_W s
        · by_cases h2 : rd_p (rd_W s) e = k
          · simp [h1, h2]
          · by_cases h3 : rd_p (rd_W s) e < k
            · have h4 : rd_p (rd_W s) e < k + 1 := by omega
              simp [h1, h2, h3, h4]
            · have h4 : ¬ rd_p (rd_W s) e < k + 1 := by omega
              simp [h1, h2, h3, h4]
        · simp [h1]
      by_cases hz : (k - 3) % (rd_W s + 1) = 0
      · rw [if_neg (fun z => z0.mp z hz)]
        refine ⟨q, rfl, fun _ e => ?_⟩
        rw [hq, ext]
        simp [hz]
      · rw [if_pos (z0.mpr hz)]
        by_cases h46 : c = 46
        · rw [if_pos h46, ed, pk_mul, show nI ((k - 3) % (rd_W s + 1)) - (1 : Int32) = nI ((k - 3) % (rd_W s + 1) - 1) from pk_sub (b := 1) (by omega), nI_add, tx_q]
          refine ⟨_, rfl, fun _ e => ?_⟩
          have hb := rd_ci hW1 hW hH hkE hk
          show bt (q ||| _) e = _
          rw [bt_or, bt_one hb, hq, ext]
          rw [hc] at h46
          simp [hz, h46]
        · rw [if_neg h46]
          refine ⟨q, rfl, fun _ e => ?_⟩
          rw [hq, ext]
          rw [hc] at h46
          simp [h46]
end RD

theorem c_rd_h0 {d : Nat} {x : Nat × (Nat → Int32)} {σ : mm_S} {s : Nat → Int32} {i n : Nat} (hd : 2 ≤ d) (hin : i + n ≤ 60) (hs : ∀ k, k < n → σ.2.2.1 8 (i + k) = s k) : ∀ (m k : Nat), k + m = n → 3 ≤ k → (∀ j, j < k → rd_ok s j) → ∀ q, (∀ c, bt q c = rd_w s k c) →
    ∃ (v : Int32) (q' : Int64), mm_Runs d 15 (18, [some (.ref 12), some (.ref 4), some (.int (nI i)), some (.int (nI n)), some (.int (nI k))], [], HH x (tx σ (nI (rd_H s)) (nI (rd_W s)) q)) (some (.int v), HH x (tx σ (nI (rd_H s)) (nI (rd_W s)) q')) ∧ ((v = -1 ∧ rd_t s n ∧ ∀ c, bt q' c = rd_w s n c) ∨ ∃ f, v = nI f ∧ rd_f s n f)
  | 0, k, h, hk, ho, q, hq => by
    have e : k = n := by omega
    subst e
    have hhw := rd_hw (ho 1 (by omega)) (ho 2 (by omega))
    have hE : rd_E s ≤ 60 := by
      unfold rd_E
      have := Nat.mul_le_mul hhw.1.2.1 (show rd_W s + 1 ≤ 8 by omega)
      omega
    have hle : nI k ≤ nI k := nI_le (Nat.le_refl _) (by omega)
    have n3 : ¬ nI k < 3 := nI_nlt (a := k) (b := 3) hk (by omega)
    have eE : f_end_ (tx σ (nI (rd_H s)) (nI (rd_W s)) q) = nI (rd_E s) := end_tx
    by_cases z : rd_E s ≤ k
    · have z2 : f_end_ (tx σ (nI (rd_H s)) (nI (rd_W s)) q) ≤ nI k := by rw [eE]; exact nI_le z (by omega)
      exact ⟨-1, q, vc_readh_0 hd (fun _ y => absurd y n3) (fun _ _ _ => rfl) (fun _ _ y => absurd z2 y) (fun y => absurd hle y) (fun y => absurd hle y) (fun y => absurd hle y) (fun y => absurd hle y) (fun y => absurd hle y), Or.inl ⟨rfl, ⟨hk, z, ho⟩, hq⟩⟩
    · have z2 : ¬ f_end_ (tx σ (nI (rd_H s)) (nI (rd_W s)) q) ≤ nI k := by rw [eE]; exact nI_ge (by omega) (by omega)
      exact ⟨nI k, q, vc_readh_0 hd (fun _ y => absurd y n3) (fun _ _ y => absurd y z2) (fun _ _ _ => rfl) (fun y => absurd hle y) (fun y => absurd hle y) (fun y => absurd hle y) (fun y => absurd hle y) (fun y => absurd hle y), Or.inr ⟨k, rfl, Or.inr ⟨rfl, Or.inr (by omega)⟩, ho⟩⟩
  | m + 1, k, h, hk, ho, q, hq => by
    have hhw := rd_hw (ho 1 (by omega)) (ho 2 (by omega))
    have hlt : ¬ nI n ≤ nI k := nI_ge (by omega) (by omega)
    have ei : nI i + nI k = nI (i + k) := nI_add _ _
    have ci : (nI (i + k)).toNatClampNeg = i + k := nI_clamp (by omega)
    have ec : (tx σ (nI (rd_H s)) (nI (rd_W s)) q).2.2.1 8 (nI i + nI k).toNatClampNeg = s k := by
      rw [ei, ci]; exact hs k (by omega)
    have w0 : ¬ (tx σ (nI (rd_H s)) (nI (rd_W s)) q).1 1201 + (1 : Int32) = 0 := by
      show ¬ nI (rd_W s) + (1 : Int32) = 0
      rw [nI_1]; exact nI_ne0 (by omega) (by omega)
    obtain ⟨g1, g2⟩ := go_3 (σ := σ) (s := s) (q := q) (k := k) hhw.1.2.1 hhw.2.1 hhw.2.2.1 hk (by omega) ec
    obtain ⟨q', g3, g4⟩ := g2 hq
    by_cases ok : rd_ok s k
    · obtain ⟨v, q'', v1, v2⟩ := c_rd_h0 (d := d) (x := x) hd hin hs m (k + 1) (by omega) (by omega) (fun j hj => by
        rcases Nat.lt_or_ge j k with y | y
        · exact ho j y
        · have e : j = k := by omega
          subst e; exact ok) q' (g4 ok)
      refine ⟨v, q'', vc_readh_0 hd (fun y => absurd y hlt) (fun y => absurd y hlt) (fun y => absurd y hlt) (fun _ => by rw [ei]; exact nI_in (by omega) (by omega)) (fun _ _ _ => w0) (fun _ _ _ _ _ => w0) (fun _ _ => ?_) (fun _ y => absurd (g1.mpr ok) y), v2⟩
      rw [g3, show nI k + (1 : Int32) = nI (k + 1) from nI_1 k]
      exact v1
    · refine ⟨nI k, q', vc_readh_0 hd (fun y => absurd y hlt) (fun y => absurd y hlt) (fun y => absurd y hlt) (fun _ => by rw [ei]; exact nI_in (by omega) (by omega)) (fun _ _ _ => w0) (fun _ _ _ _ _ => w0) (fun _ y => absurd (g1.mp y) ok) (fun _ _ => by rw [g3]), Or.inr ⟨k, rfl, Or.inl ⟨by omega, ok⟩, ho⟩⟩
theorem c_read0 {d : Nat} {x : Nat × (Nat → Int32)} {σ : mm_S} {s : Nat → Int32} {i n : Nat} (hd : 2 ≤ d) (hin : i + n ≤ 60) (hs : ∀ k, k < n → σ.2.2.1 8 (i + k) = s k) :
    ∃ (v h w : Int32) (q : Int64), mm_Runs d 15 (0, [some (.ref 12), some (.ref 4), some (.int (nI i)), some (.int (nI n)), none], [], HH x σ) (some (.int v), HH x (tx σ h w q)) ∧ ((v = -1 ∧ rd_t s n ∧ h = nI (rd_H s) ∧ w = nI (rd_W s) ∧ ∀ c, bt q c = rd_w s n c) ∨ ∃ f, v = nI f ∧ rd_f s n f) := by
  have st : ∀ k, k < 3 → ∀ (h w : Int32) (q : Int64), (∀ j, j < k → rd_ok s j) → (k < n → rd_ok s k → ∀ h' w', ui σ 0 0 = ui σ 0 0 → (k = 0 → h' = h ∧ w' = w) → (k = 1 → h' = s 1 - 48 ∧ w' = w) → (k = 2 → h' = h ∧ w' = s 2 - 48) → ∃ (v h2 w2 : Int32) (q2 : Int64), mm_Runs d 15 (18, [some (.ref 12), some (.ref 4), some (.int (nI i)), some (.int (nI n)), some (.int (nI (k + 1)))], [], HH x (tx σ h' w' q)) (some (.int v), HH x (tx σ h2 w2 q2)) ∧ ((v = -1 ∧ rd_t s n ∧ h2 = nI (rd_H s) ∧ w2 = nI (rd_W s) ∧ ∀ c, bt q2 c = rd_w s n c) ∨ ∃ f, v = nI f ∧ rd_f s n f)) →
      ∃ (v h2 w2 : Int32) (q2 : Int64), mm_Runs d 15 (18, [some (.ref 12), some (.ref 4), some (.int (nI i)), some (.int (nI n)), some (.int (nI k))], [], HH x (tx σ h w q)) (some (.int v), HH x (tx σ h2 w2 q2)) ∧ ((v = -1 ∧ rd_t s n ∧ h2 = nI (rd_H s) ∧ w2 = nI (rd_W s) ∧ ∀ c, bt q2 c = rd_w s n c) ∨ ∃ f, v = nI f ∧ rd_f s n f) := by
    intro k hk h w q ho cont
    rcases Nat.lt_or_ge k n with hlt' | hge
    · have hlt : ¬ nI n ≤ nI k := nI_ge (by omega) (by omega)
      have ei : nI i + nI k = nI (i + k) := nI_add _ _
      have ci : (nI (i + k)).toNatClampNeg = i + k := nI_clamp (by omega)
      have ec : (tx σ h w q).2.2.1 8 (nI i + nI k).toNatClampNeg = s k := by
        rw [ei, ci]; exact hs k (by omega)
      have no : ¬ (¬ nI k = 0 ∧ ¬ nI k = 1 ∧ ¬ nI k = 2) := by
        match k, hk with
        | 0, _ => exact fun z => z.1 rfl
        | 1, _ => exact fun z => z.2.1 rfl
        | 2, _ => exact fun z => z.2.2 rfl
        | k + 3, h => omega
      have gg : ∃ h' w', g_goesOn (tx σ h w q) (nI k) (s k) = tx σ h' w' q ∧ (k = 0 → h' = h ∧ w' = w) ∧ (k = 1 → h' = s 1 - 48 ∧ w' = w) ∧ (k = 2 → h' = h ∧ w' = s 2 - 48) := by
        match k, hk with
        | 0, _ => exact ⟨h, w, by unfold g_goesOn; rw [if_pos (by rfl)], fun _ => ⟨rfl, rfl⟩, fun z => by omega, fun z => by omega⟩
        | 1, _ => exact ⟨s 1 - 48, w, by unfold g_goesOn; rw [if_neg (by decide), if_pos (by rfl), tx_h], fun z => by omega, fun _ => ⟨rfl, rfl⟩, fun z => by omega⟩
        | 2, _ => exact ⟨h, s 2 - 48, by unfold g_goesOn; rw [if_neg (by decide), if_neg (by decide), if_pos (by rfl), tx_w], fun z => by omega, fun z => by omega, fun _ => ⟨rfl, rfl⟩⟩
        | k + 3, h => omega
      have pp : p_goesOn (tx σ h w q) (nI k) (s k) ↔ rd_ok s k := by
        unfold rd_ok p_goesOn
        match k, hk with
        | 0, _ =>
          constructor
          · rintro (⟨-, z⟩ | ⟨z, -⟩)
            · exact Or.inl ⟨rfl, z⟩
            · exact absurd rfl z
          · rintro (⟨-, z⟩ | ⟨z, -⟩ | ⟨z, -⟩ | ⟨z, -⟩)
            · exact Or.inl ⟨rfl, z⟩
            · omega
            · omega
            · omega
        | 1, _ =>
          constructor
          · rintro (⟨z, -⟩ | ⟨-, ⟨-, z1, z2⟩ | ⟨z, -⟩⟩)
            · exact absurd z (by decide)
            · exact Or.inr (Or.inl ⟨rfl, Int32.not_lt.mp z1, Int32.not_lt.mp z2⟩)
            · exact absurd rfl z
          · rintro (⟨z, -⟩ | ⟨-, z1, z2⟩ | ⟨z, -⟩ | ⟨z, -⟩)
            · omega
            · exact Or.inr ⟨by decide, Or.inl ⟨rfl, Int32.not_lt.mpr z1, Int32.not_lt.mpr z2⟩⟩
            · omega
            · omega
        | 2, _ =>
          constructor
          · rintro (⟨z, -⟩ | ⟨-, ⟨z, -⟩ | ⟨-, ⟨-, z1, z2⟩ | ⟨z, -⟩⟩⟩)
            · exact absurd z (by decide)
            · exact absurd z (by decide)
            · exact Or.inr (Or.inr (Or.inl ⟨rfl, Int32.not_lt.mp z1, Int32.not_lt.mp z2⟩))
            · exact absurd rfl z
          · rintro (⟨z, -⟩ | ⟨z, -⟩ | ⟨-, z1, z2⟩ | ⟨z, -⟩)
            · omega
            · omega
            · exact Or.inr ⟨by decide, Or.inr ⟨by decide, Or.inl ⟨rfl, Int32.not_lt.mpr z1, Int32.not_lt.mpr z2⟩⟩⟩
            · omega
        | k + 3, h => omega
      obtain ⟨h', w', g0, g1, g2, g3⟩ := gg
      by_cases ok : rd_ok s k
      · obtain ⟨v, h2, w2, q2, v1, v2⟩ := cont hlt' ok h' w' rfl g1 g2 g3
        refine ⟨v, h2, w2, q2, vc_readh_0 hd (fun y => absurd y hlt) (fun y => absurd y hlt) (fun y => absurd y hlt) (fun _ => by rw [ei]; exact nI_in (by omega) (by omega)) (fun _ y => absurd y no) (fun _ y => absurd y no) (fun _ _ => ?_) (fun _ y => absurd (by rw [ec]; exact pp.mpr ok) y), v2⟩
        rw [ec, g0, show nI k + (1 : Int32) = nI (k + 1) from nI_1 k]
        exact v1
      · refine ⟨nI k, h', w', q, vc_readh_0 hd (fun y => absurd y hlt) (fun y => absurd y hlt) (fun y => absurd y hlt) (fun _ => by rw [ei]; exact nI_in (by omega) (by omega)) (fun _ y => absurd y no) (fun _ y => absurd y no) (fun _ y => absurd (by rw [ec] at y; exact pp.mp y) ok) (fun _ _ => by rw [ec, g0]), Or.inr ⟨k, rfl, Or.inl ⟨by omega, ok⟩, ho⟩⟩
    · have hle : nI n ≤ nI k := nI_le (by omega) (by omega)
      have l3 : nI n < 3 := nI_lt (a := n) (b := 3) (by omega) (by omega)
      refine ⟨nI n, h, w, q, vc_readh_0 hd (fun _ _ => rfl) (fun _ y => absurd l3 y) (fun _ y => absurd l3 y) (fun y => absurd hle y) (fun y => absurd hle y) (fun y => absurd hle y) (fun y => absurd hle y) (fun y => absurd hle y), Or.inr ⟨n, rfl, Or.inr ⟨rfl, Or.inl (by omega)⟩, fun j hj => ho j (by omega)⟩⟩
  have fin := st 0 (by omega) 0 0 0 (fun j hj => absurd hj (by omega)) (fun h0 o0 h' w' _ e0 _ _ => by
    obtain ⟨rfl, rfl⟩ := e0 rfl
    exact st 1 (by omega) 0 0 0 (fun j hj => by
      have e : j = 0 := by omega
      subst e; exact o0) (fun h1 o1 h' w' _ _ e1 _ => by
      obtain ⟨rfl, rfl⟩ := e1 rfl
      exact st 2 (by omega) (s 1 - 48) 0 0 (fun j hj => by
        rcases Nat.lt_or_ge j 1 with y | y
        · have e : j = 0 := by omega
          subst e; exact o0
        · have e : j = 1 := by omega
          subst e; exact o1) (fun h2 o2 h' w' _ _ _ e2 => by
        obtain ⟨rfl, rfl⟩ := e2 rfl
        have hhw := rd_hw o1 o2
        obtain ⟨v, q', v1, v2⟩ := c_rd_h0 (d := d) (x := x) (σ := σ) (s := s) hd hin hs (n - 3) 3 (by omega) (by omega) (fun j hj => by
          rcases Nat.lt_or_ge j 1 with y | y
          · have e : j = 0 := by omega
            subst e; exact o0
          · rcases Nat.lt_or_ge j 2 with y2 | y2
            · have e : j = 1 := by omega
              subst e; exact o1
            · have e : j = 2 := by omega
              subst e; exact o2) 0 (fun c => by
          rw [bt_0]
          unfold rd_w
          have : decide (rd_p (rd_W s) c < 3) = false := decide_eq_false (by unfold rd_p; omega)
          rw [this, Bool.false_and, Bool.and_false])
        rw [hhw.1.2.2, hhw.2.2.2]
        refine ⟨v, _, _, q', v1, ?_⟩
        rcases v2 with ⟨z1, z2, z3⟩ | z
        · exact Or.inl ⟨z1, z2, rfl, rfl, z3⟩
        · exact Or.inr z)))
  obtain ⟨v, h, w, q, v1, v2⟩ := fin
  exact ⟨v, h, w, q, vc_read0_0 v1, v2⟩

theorem c_rd_h1 {d : Nat} {x : Nat × (Nat → Int32)} {σ : mm_S} {s : Nat → Int32} {i n : Nat} (hd : 2 ≤ d) (hin : i + n ≤ 60) (hs : ∀ k, k < n → σ.2.2.1 9 (i + k) = s k) : ∀ (m k : Nat), k + m = n → 3 ≤ k → (∀ j, j < k → rd_ok s j) → ∀ q, (∀ c, bt q c = rd_w s k c) →
    ∃ (v : Int32) (q' : Int64), mm_Runs d 15 (18, [some (.ref 12), some (.ref 5), some (.int (nI i)), some (.int (nI n)), some (.int (nI k))], [], HH x (tx σ (nI (rd_H s)) (nI (rd_W s)) q)) (some (.int v), HH x (tx σ (nI (rd_H s)) (nI (rd_W s)) q')) ∧ ((v = -1 ∧ rd_t s n ∧ ∀ c, bt q' c = rd_w s n c) ∨ ∃ f, v = nI f ∧ rd_f s n f)
  | 0, k, h, hk, ho, q, hq => by
    have e : k = n := by omega
    subst e
    have hhw := rd_hw (ho 1 (by omega)) (ho 2 (by omega))
    have hE : rd_E s ≤ 60 := by
      unfold rd_E
      have := Nat.mul_le_mul hhw.1.2.1 (show rd_W s + 1 ≤ 8 by omega)
      omega
    have hle : nI k ≤ nI k := nI_le (Nat.le_refl _) (by omega)
    have n3 : ¬ nI k < 3 := nI_nlt (a := k) (b := 3) hk (by omega)
    have eE : f_end_ (tx σ (nI (rd_H s)) (nI (rd_W s)) q) = nI (rd_E s) := end_tx
    by_cases z : rd_E s ≤ k
    · have z2 : f_end_ (tx σ (nI (rd_H s)) (nI (rd_W s)) q) ≤ nI k := by rw [eE]; exact nI_le z (by omega)
      exact ⟨-1, q, vc_readh_1 hd (fun _ y => absurd y n3) (fun _ _ _ => rfl) (fun _ _ y => absurd z2 y) (fun y => absurd hle y) (fun y => absurd hle y) (fun y => absurd hle y) (fun y => absurd hle y) (fun y => absurd hle y), Or.inl ⟨rfl, ⟨hk, z, ho⟩, hq⟩⟩
    · have z2 : ¬ f_end_ (tx σ (nI (rd_H s)) (nI (rd_W s)) q) ≤ nI k := by rw [eE]; exact nI_ge (by omega) (by omega)
      exact ⟨nI k, q, vc_readh_1 hd (fun _ y => absurd y n3) (fun _ _ y => absurd y z2) (fun _ _ _ => rfl) (fun y => absurd hle y) (fun y => absurd hle y) (fun y => absurd hle y) (fun y => absurd hle y) (fun y => absurd hle y), Or.inr ⟨k, rfl, Or.inr ⟨rfl, Or.inr (by omega)⟩, ho⟩⟩
  | m + 1, k, h, hk, ho, q, hq => by
    have hhw := rd_hw (ho 1 (by omega)) (ho 2 (by omega))
    have hlt : ¬ nI n ≤ nI k := nI_ge (by omega) (by omega)
    have ei : nI i + nI k = nI (i + k) := nI_add _ _
    have ci : (nI (i + k)).toNatClampNeg = i + k := nI_clamp (by omega)
    have ec : (tx σ (nI (rd_H s)) (nI (rd_W s)) q).2.2.1 9 (nI i + nI k).toNatClampNeg = s k := by
      rw [ei, ci]; exact hs k (by omega)
    have w0 : ¬ (tx σ (nI (rd_H s)) (nI (rd_W s)) q).1 1201 + (1 : Int32) = 0 := by
      show ¬ nI (rd_W s) + (1 : Int32) = 0
      rw [nI_1]; exact nI_ne0 (by omega) (by omega)
    obtain ⟨g1, g2⟩ := go_3 (σ := σ) (s := s) (q := q) (k := k) hhw.1.2.1 hhw.2.1 hhw.2.2.1 hk (by omega) ec
    obtain ⟨q', g3, g4⟩ := g2 hq
    by_cases ok : rd_ok s k
    · obtain ⟨v, q'', v1, v2⟩ := c_rd_h1 (d := d) (x := x) hd hin hs m (k + 1) (by omega) (by omega) (fun j hj => by
        rcases Nat.lt_or_ge j k with y | y
        · exact ho j y
        · have e : j = k := by omega
          subst e; exact ok) q' (g4 ok)
      refine ⟨v, q'', vc_readh_1 hd (fun y => absurd y hlt) (fun y => absurd y hlt) (fun y => absurd y hlt) (fun _ => by rw [ei]; exact nI_in (by omega) (by omega)) (fun _ _ _ => w0) (fun _ _ _ _ _ => w0) (fun _ _ => ?_) (fun _ y => absurd (g1.mpr ok) y), v2⟩
      rw [g3, show nI k + (1 : Int32) = nI (k + 1) from nI_1 k]
      exact v1
    · refine ⟨nI k, q', vc_readh_1 hd (fun y => absurd y hlt) (fun y => absurd y hlt) (fun y => absurd y hlt) (fun _ => by rw [ei]; exact nI_in (by omega) (by omega)) (fun _ _ _ => w0) (fun _ _ _ _ _ => w0) (fun _ y => absurd (g1.mp y) ok) (fun _ _ => by rw [g3]), Or.inr ⟨k, rfl, Or.inl ⟨by omega, ok⟩, ho⟩⟩
theorem c_read1 {d : Nat} {x : Nat × (Nat → Int32)} {σ : mm_S} {s : Nat → Int32} {i n : Nat} (hd : 2 ≤ d) (hin : i + n ≤ 60) (hs : ∀ k, k < n → σ.2.2.1 9 (i + k) = s k) :
    ∃ (v h w : Int32) (q : Int64), mm_Runs d 15 (0, [some (.ref 12), some (.ref 5), some (.int (nI i)), some (.int (nI n)), none], [], HH x σ) (some (.int v), HH x (tx σ h w q)) ∧ ((v = -1 ∧ rd_t s n ∧ h = nI (rd_H s) ∧ w = nI (rd_W s) ∧ ∀ c, bt q c = rd_w s n c) ∨ ∃ f, v = nI f ∧ rd_f s n f) := by
  have st : ∀ k, k < 3 → ∀ (h w : Int32) (q : Int64), (∀ j, j < k → rd_ok s j) → (k < n → rd_ok s k → ∀ h' w', ui σ 0 0 = ui σ 0 0 → (k = 0 → h' = h ∧ w' = w) → (k = 1 → h' = s 1 - 48 ∧ w' = w) → (k = 2 → h' = h ∧ w' = s 2 - 48) → ∃ (v h2 w2 : Int32) (q2 : Int64), mm_Runs d 15 (18, [some (.ref 12), some (.ref 5), some (.int (nI i)), some (.int (nI n)), some (.int (nI (k + 1)))], [], HH x (tx σ h' w' q)) (some (.int v), HH x (tx σ h2 w2 q2)) ∧ ((v = -1 ∧ rd_t s n ∧ h2 = nI (rd_H s) ∧ w2 = nI (rd_W s) ∧ ∀ c, bt q2 c = rd_w s n c) ∨ ∃ f, v = nI f ∧ rd_f s n f)) →
      ∃ (v h2 w2 : Int32) (q2 : Int64), mm_Runs d 15 (18, [some (.ref 12), some (.ref 5), some (.int (nI i)), some (.int (nI n)), some (.int (nI k))], [], HH x (tx σ h w q)) (some (.int v), HH x (tx σ h2 w2 q2)) ∧ ((v = -1 ∧ rd_t s n ∧ h2 = nI (rd_H s) ∧ w2 = nI (rd_W s) ∧ ∀ c, bt q2 c = rd_w s n c) ∨ ∃ f, v = nI f ∧ rd_f s n f) := by
    intro k hk h w q ho cont
    rcases Nat.lt_or_ge k n with hlt' | hge
    · have hlt : ¬ nI n ≤ nI k := nI_ge (by omega) (by omega)
      have ei : nI i + nI k = nI (i + k) := nI_add _ _
      have ci : (nI (i + k)).toNatClampNeg = i + k := nI_clamp (by omega)
      have ec : (tx σ h w q).2.2.1 9 (nI i + nI k).toNatClampNeg = s k := by
        rw [ei, ci]; exact hs k (by omega)
      have no : ¬ (¬ nI k = 0 ∧ ¬ nI k = 1 ∧ ¬ nI k = 2) := by
        match k, hk with
        | 0, _ => exact fun z => z.1 rfl
        | 1, _ => exact fun z => z.2.1 rfl
        | 2, _ => exact fun z => z.2.2 rfl
        | k + 3, h => omega
      have gg : ∃ h' w', g_goesOn (tx σ h w q) (nI k) (s k) = tx σ h' w' q ∧ (k = 0 → h' = h ∧ w' = w) ∧ (k = 1 → h' = s 1 - 48 ∧ w' = w) ∧ (k = 2 → h' = h ∧ w' = s 2 - 48) := by
        match k, hk with
        | 0, _ => exact ⟨h, w, by unfold g_goesOn; rw [if_pos (by rfl)], fun _ => ⟨rfl, rfl⟩, fun z => by omega, fun z => by omega⟩
        | 1, _ => exact ⟨s 1 - 48, w, by unfold g_goesOn; rw [if_neg (by decide), if_pos (by rfl), tx_h], fun z => by omega, fun _ => ⟨rfl, rfl⟩, fun z => by omega⟩
        | 2, _ => exact ⟨h, s 2 - 48, by unfold g_goesOn; rw [if_neg (by decide), if_neg (by decide), if_pos (by rfl), tx_w], fun z => by omega, fun z => by omega, fun _ => ⟨rfl, rfl⟩⟩
        | k + 3, h => omega
      have pp : p_goesOn (tx σ h w q) (nI k) (s k) ↔ rd_ok s k := by
        unfold rd_ok p_goesOn
        match k, hk with
        | 0, _ =>
          constructor
          · rintro (⟨-, z⟩ | ⟨z, -⟩)
            · exact Or.inl ⟨rfl, z⟩
            · exact absurd rfl z
          · rintro (⟨-, z⟩ | ⟨z, -⟩ | ⟨z, -⟩ | ⟨z, -⟩)
            · exact Or.inl ⟨rfl, z⟩
            · omega
            · omega
            · omega
        | 1, _ =>
          constructor
          · rintro (⟨z, -⟩ | ⟨-, ⟨-, z1, z2⟩ | ⟨z, -⟩⟩)
            · exact absurd z (by decide)
            · exact Or.inr (Or.inl ⟨rfl, Int32.not_lt.mp z1, Int32.not_lt.mp z2⟩)
            · exact absurd rfl z
          · rintro (⟨z, -⟩ | ⟨-, z1, z2⟩ | ⟨z, -⟩ | ⟨z, -⟩)
            · omega
            · exact Or.inr ⟨by decide, Or.inl ⟨rfl, Int32.not_lt.mpr z1, Int32.not_lt.mpr z2⟩⟩
            · omega
            · omega
        | 2, _ =>
          constructor
          · rintro (⟨z, -⟩ | ⟨-, ⟨z, -⟩ | ⟨-, ⟨-, z1, z2⟩ | ⟨z, -⟩⟩⟩)
            · exact absurd z (by decide)
            · exact absurd z (by decide)
            · exact Or.inr (Or.inr (Or.inl ⟨rfl, Int32.not_lt.mp z1, Int32.not_lt.mp z2⟩))
            · exact absurd rfl z
          · rintro (⟨z, -⟩ | ⟨z, -⟩ | ⟨-, z1, z2⟩ | ⟨z, -⟩)
            · omega
            · omega
            · exact Or.inr ⟨by decide, Or.inr ⟨by decide, Or.inl ⟨rfl, Int32.not_lt.mpr z1, Int32.not_lt.mpr z2⟩⟩⟩
            · omega
        | k + 3, h => omega
      obtain ⟨h', w', g0, g1, g2, g3⟩ := gg
      by_cases ok : rd_ok s k
      · obtain ⟨v, h2, w2, q2, v1, v2⟩ := cont hlt' ok h' w' rfl g1 g2 g3
        refine ⟨v, h2, w2, q2, vc_readh_1 hd (fun y => absurd y hlt) (fun y => absurd y hlt) (fun y => absurd y hlt) (fun _ => by rw [ei]; exact nI_in (by omega) (by omega)) (fun _ y => absurd y no) (fun _ y => absurd y no) (fun _ _ => ?_) (fun _ y => absurd (by rw [ec]; exact pp.mpr ok) y), v2⟩
        rw [ec, g0, show nI k + (1 : Int32) = nI (k + 1) from nI_1 k]
        exact v1
      · refine ⟨nI k, h', w', q, vc_readh_1 hd (fun y => absurd y hlt) (fun y => absurd y hlt) (fun y => absurd y hlt) (fun _ => by rw [ei]; exact nI_in (by omega) (by omega)) (fun _ y => absurd y no) (fun _ y => absurd y no) (fun _ y => absurd (by rw [ec] at y; exact pp.mp y) ok) (fun _ _ => by rw [ec, g0]), Or.inr ⟨k, rfl, Or.inl ⟨by omega, ok⟩, ho⟩⟩
    · have hle : nI n ≤ nI k := nI_le (by omega) (by omega)
      have l3 : nI n < 3 := nI_lt (a := n) (b := 3) (by omega) (by omega)
      refine ⟨nI n, h, w, q, vc_readh_1 hd (fun _ _ => rfl) (fun _ y => absurd l3 y) (fun _ y => absurd l3 y) (fun y => absurd hle y) (fun y => absurd hle y) (fun y => absurd hle y) (fun y => absurd hle y) (fun y => absurd hle y), Or.inr ⟨n, rfl, Or.inr ⟨rfl, Or.inl (by omega)⟩, fun j hj => ho j (by omega)⟩⟩
  have fin := st 0 (by omega) 0 0 0 (fun j hj => absurd hj (by omega)) (fun h0 o0 h' w' _ e0 _ _ => by
    obtain ⟨rfl, rfl⟩ := e0 rfl
    exact st 1 (by omega) 0 0 0 (fun j hj => by
      have e : j = 0 := by omega
      subst e; exact o0) (fun h1 o1 h' w' _ _ e1 _ => by
      obtain ⟨rfl, rfl⟩ := e1 rfl
      exact st 2 (by omega) (s 1 - 48) 0 0 (fun j hj => by
        rcases Nat.lt_or_ge j 1 with y | y
        · have e : j = 0 := by omega
          subst e; exact o0
        · have e : j = 1 := by omega
          subst e; exact o1) (fun h2 o2 h' w' _ _ _ e2 => by
        obtain ⟨rfl, rfl⟩ := e2 rfl
        have hhw := rd_hw o1 o2
        obtain ⟨v, q', v1, v2⟩ := c_rd_h1 (d := d) (x := x) (σ := σ) (s := s) hd hin hs (n - 3) 3 (by omega) (by omega) (fun j hj => by
          rcases Nat.lt_or_ge j 1 with y | y
          · have e : j = 0 := by omega
            subst e; exact o0
          · rcases Nat.lt_or_ge j 2 with y2 | y2
            · have e : j = 1 := by omega
              subst e; exact o1
            · have e : j = 2 := by omega
              subst e; exact o2) 0 (fun c => by
          rw [bt_0]
          unfold rd_w
          have : decide (rd_p (rd_W s) c < 3) = false := decide_eq_false (by unfold rd_p; omega)
          rw [this, Bool.false_and, Bool.and_false])
        rw [hhw.1.2.2, hhw.2.2.2]
        refine ⟨v, _, _, q', v1, ?_⟩
        rcases v2 with ⟨z1, z2, z3⟩ | z
        · exact Or.inl ⟨z1, z2, rfl, rfl, z3⟩
        · exact Or.inr z)))
  obtain ⟨v, h, w, q, v1, v2⟩ := fin
  exact ⟨v, h, w, q, vc_read0_1 v1, v2⟩

theorem c_rd_h2 {d : Nat} {x : Nat × (Nat → Int32)} {σ : mm_S} {s : Nat → Int32} {i n : Nat} (hd : 2 ≤ d) (hin : i + n ≤ 60) (hs : ∀ k, k < n → σ.2.2.1 10 (i + k) = s k) : ∀ (m k : Nat), k + m = n → 3 ≤ k → (∀ j, j < k → rd_ok s j) → ∀ q, (∀ c, bt q c = rd_w s k c) →
    ∃ (v : Int32) (q' : Int64), mm_Runs d 15 (18, [some (.ref 12), some (.ref 6), some (.int (nI i)), some (.int (nI n)), some (.int (nI k))], [], HH x (tx σ (nI (rd_H s)) (nI (rd_W s)) q)) (some (.int v), HH x (tx σ (nI (rd_H s)) (nI (rd_W s)) q')) ∧ ((v = -1 ∧ rd_t s n ∧ ∀ c, bt q' c = rd_w s n c) ∨ ∃ f, v = nI f ∧ rd_f s n f)
  | 0, k, h, hk, ho, q, hq => by
    have e : k = n := by omega
    subst e
    have hhw := rd_hw (ho 1 (by omega)) (ho 2 (by omega))
    have hE : rd_E s ≤ 60 := by
      unfold rd_E
      have := Nat.mul_le_mul hhw.1.2.1 (show rd_W s + 1 ≤ 8 by omega)
      omega
    have hle : nI k ≤ nI k := nI_le (Nat.le_refl _) (by omega)
    have n3 : ¬ nI k < 3 := nI_nlt (a := k) (b := 3) hk (by omega)
    have eE : f_end_ (tx σ (nI (rd_H s)) (nI (rd_W s)) q) = nI (rd_E s) := end_tx
    by_cases z : rd_E s ≤ k
    · have z2 : f_end_ (tx σ (nI (rd_H s)) (nI (rd_W s)) q) ≤ nI k := by rw [eE]; exact nI_le z (by omega)
      exact ⟨-1, q, vc_readh_2 hd (fun _ y => absurd y n3) (fun _ _ _ => rfl) (fun _ _ y => absurd z2 y) (fun y => absurd hle y) (fun y => absurd hle y) (fun y => absurd hle y) (fun y => absurd hle y) (fun y => absurd hle y), Or.inl ⟨rfl, ⟨hk, z, ho⟩, hq⟩⟩
    · have z2 : ¬ f_end_ (tx σ (nI (rd_H s)) (nI (rd_W s)) q) ≤ nI k := by rw [eE]; exact nI_ge (by omega) (by omega)
      exact ⟨nI k, q, vc_readh_2 hd (fun _ y => absurd y n3) (fun _ _ y => absurd y z2) (fun _ _ _ => rfl) (fun y => absurd hle y) (fun y => absurd hle y) (fun y => absurd hle y) (fun y => absurd hle y) (fun y => absurd hle y), Or.inr ⟨k, rfl, Or.inr ⟨rfl, Or.inr (by omega)⟩, ho⟩⟩
  | m + 1, k, h, hk, ho, q, hq => by
    have hhw := rd_hw (ho 1 (by omega)) (ho 2 (by omega))
    have hlt : ¬ nI n ≤ nI k := nI_ge (by omega) (by omega)
    have ei : nI i + nI k = nI (i + k) := nI_add _ _
    have ci : (nI (i + k)).toNatClampNeg = i + k := nI_clamp (by omega)
    have ec : (tx σ (nI (rd_H s)) (nI (rd_W s)) q).2.2.1 10 (nI i + nI k).toNatClampNeg = s k := by
      rw [ei, ci]; exact hs k (by omega)
    have w0 : ¬ (tx σ (nI (rd_H s)) (nI (rd_W s)) q).1 1201 + (1 : Int32) = 0 := by
      show ¬ nI (rd_W s) + (1 : Int32) = 0
      rw [nI_1]; exact nI_ne0 (by omega) (by omega)
    obtain ⟨g1, g2⟩ := go_3 (σ := σ) (s := s) (q := q) (k := k) hhw.1.2.1 hhw.2.1 hhw.2.2.1 hk (by omega) ec
    obtain ⟨q', g3, g4⟩ := g2 hq
    by_cases ok : rd_ok s k
    · obtain ⟨v, q'', v1, v2⟩ := c_rd_h2 (d := d) (x := x) hd hin hs m (k + 1) (by omega) (by omega) (fun j hj => by
        rcases Nat.lt_or_ge j k with y | y
        · exact ho j y
        · have e : j = k := by omega
          subst e; exact ok) q' (g4 ok)
      refine ⟨v, q'', vc_readh_2 hd (fun y => absurd y hlt) (fun y => absurd y hlt) (fun y => absurd y hlt) (fun _ => by rw [ei]; exact nI_in (by omega) (by omega)) (fun _ _ _ => w0) (fun _ _ _ _ _ => w0) (fun _ _ => ?_) (fun _ y => absurd (g1.mpr ok) y), v2⟩
      rw [g3, show nI k + (1 : Int32) = nI (k + 1) from nI_1 k]
      exact v1
    · refine ⟨nI k, q', vc_readh_2 hd (fun y => absurd y hlt) (fun y => absurd y hlt) (fun y => absurd y hlt) (fun _ => by rw [ei]; exact nI_in (by omega) (by omega)) (fun _ _ _ => w0) (fun _ _ _ _ _ => w0) (fun _ y => absurd (g1.mp y) ok) (fun _ _ => by rw [g3]), Or.inr ⟨k, rfl, Or.inl ⟨by omega, ok⟩, ho⟩⟩
theorem c_read2 {d : Nat} {x : Nat × (Nat → Int32)} {σ : mm_S} {s : Nat → Int32} {i n : Nat} (hd : 2 ≤ d) (hin : i + n ≤ 60) (hs : ∀ k, k < n → σ.2.2.1 10 (i + k) = s k) :
    ∃ (v h w : Int32) (q : Int64), mm_Runs d 15 (0, [some (.ref 12), some (.ref 6), some (.int (nI i)), some (.int (nI n)), none], [], HH x σ) (some (.int v), HH x (tx σ h w q)) ∧ ((v = -1 ∧ rd_t s n ∧ h = nI (rd_H s) ∧ w = nI (rd_W s) ∧ ∀ c, bt q c = rd_w s n c) ∨ ∃ f, v = nI f ∧ rd_f s n f) := by
  have st : ∀ k, k < 3 → ∀ (h w : Int32) (q : Int64), (∀ j, j < k → rd_ok s j) → (k < n → rd_ok s k → ∀ h' w', ui σ 0 0 = ui σ 0 0 → (k = 0 → h' = h ∧ w' = w) → (k = 1 → h' = s 1 - 48 ∧ w' = w) → (k = 2 → h' = h ∧ w' = s 2 - 48) → ∃ (v h2 w2 : Int32) (q2 : Int64), mm_Runs d 15 (18, [some (.ref 12), some (.ref 6), some (.int (nI i)), some (.int (nI n)), some (.int (nI (k + 1)))], [], HH x (tx σ h' w' q)) (some (.int v), HH x (tx σ h2 w2 q2)) ∧ ((v = -1 ∧ rd_t s n ∧ h2 = nI (rd_H s) ∧ w2 = nI (rd_W s) ∧ ∀ c, bt q2 c = rd_w s n c) ∨ ∃ f, v = nI f ∧ rd_f s n f)) →
      ∃ (v h2 w2 : Int32) (q2 : Int64), mm_Runs d 15 (18, [some (.ref 12), some (.ref 6), some (.int (nI i)), some (.int (nI n)), some (.int (nI k))], [], HH x (tx σ h w q)) (some (.int v), HH x (tx σ h2 w2 q2)) ∧ ((v = -1 ∧ rd_t s n ∧ h2 = nI (rd_H s) ∧ w2 = nI (rd_W s) ∧ ∀ c, bt q2 c = rd_w s n c) ∨ ∃ f, v = nI f ∧ rd_f s n f) := by
    intro k hk h w q ho cont
    rcases Nat.lt_or_ge k n with hlt' | hge
    · have hlt : ¬ nI n ≤ nI k := nI_ge (by omega) (by omega)
      have ei : nI i + nI k = nI (i + k) := nI_add _ _
      have ci : (nI (i + k)).toNatClampNeg = i + k := nI_clamp (by omega)
      have ec : (tx σ h w q).2.2.1 10 (nI i + nI k).toNatClampNeg = s k := by
        rw [ei, ci]; exact hs k (by omega)
      have no : ¬ (¬ nI k = 0 ∧ ¬ nI k = 1 ∧ ¬ nI k = 2) := by
        match k, hk with
        | 0, _ => exact fun z => z.1 rfl
        | 1, _ => exact fun z => z.2.1 rfl
        | 2, _ => exact fun z => z.2.2 rfl
        | k + 3, h => omega
      have gg : ∃ h' w', g_goesOn (tx σ h w q) (nI k) (s k) = tx σ h' w' q ∧ (k = 0 → h' = h ∧ w' = w) ∧ (k = 1 → h' = s 1 - 48 ∧ w' = w) ∧ (k = 2 → h' = h ∧ w' = s 2 - 48) := by
        match k, hk with
        | 0, _ => exact ⟨h, w, by unfold g_goesOn; rw [if_pos (by rfl)], fun _ => ⟨rfl, rfl⟩, fun z => by omega, fun z => by omega⟩
        | 1, _ => exact ⟨s 1 - 48, w, by unfold g_goesOn; rw [if_neg (by decide), if_pos (by rfl), tx_h], fun z => by omega, fun _ => ⟨rfl, rfl⟩, fun z => by omega⟩
        | 2, _ => exact ⟨h, s 2 - 48, by unfold g_goesOn; rw [if_neg (by decide), if_neg (by decide), if_pos (by rfl), tx_w], fun z => by omega, fun z => by omega, fun _ => ⟨rfl, rfl⟩⟩
        | k + 3, h => omega
      have pp : p_goesOn (tx σ h w q) (nI k) (s k) ↔ rd_ok s k := by
        unfold rd_ok p_goesOn
        match k, hk with
        | 0, _ =>
          constructor
          · rintro (⟨-, z⟩ | ⟨z, -⟩)
            · exact Or.inl ⟨rfl, z⟩
            · exact absurd rfl z
          · rintro (⟨-, z⟩ | ⟨z, -⟩ | ⟨z, -⟩ | ⟨z, -⟩)
            · exact Or.inl ⟨rfl, z⟩
            · omega
            · omega
            · omega
        | 1, _ =>
          constructor
          · rintro (⟨z, -⟩ | ⟨-, ⟨-, z1, z2⟩ | ⟨z, -⟩⟩)
            · exact absurd z (by decide)
            · exact Or.inr (Or.inl ⟨rfl, Int32.not_lt.mp z1, Int32.not_lt.mp z2⟩)
            · exact absurd rfl z
          · rintro (⟨z, -⟩ | ⟨-, z1, z2⟩ | ⟨z, -⟩ | ⟨z, -⟩)
            · omega
            · exact Or.inr ⟨by decide, Or.inl ⟨rfl, Int32.not_lt.mpr z1, Int32.not_lt.mpr z2⟩⟩
            · omega
            · omega
        | 2, _ =>
          constructor
          · rintro (⟨z, -⟩ | ⟨-, ⟨z, -⟩ | ⟨-, ⟨-, z1, z2⟩ | ⟨z, -⟩⟩⟩)
            · exact absurd z (by decide)
            · exact absurd z (by decide)
            · exact Or.inr (Or.inr (Or.inl ⟨rfl, Int32.not_lt.mp z1, Int32.not_lt.mp z2⟩))
            · exact absurd rfl z
          · rintro (⟨z, -⟩ | ⟨z, -⟩ | ⟨-, z1, z2⟩ | ⟨z, -⟩)
            · omega
            · omega
            · exact Or.inr ⟨by decide, Or.inr ⟨by decide, Or.inl ⟨rfl, Int32.not_lt.mpr z1, Int32.not_lt.mpr z2⟩⟩⟩
            · omega
        | k + 3, h => omega
      obtain ⟨h', w', g0, g1, g2, g3⟩ := gg
      by_cases ok : rd_ok s k
      · obtain ⟨v, h2, w2, q2, v1, v2⟩ := cont hlt' ok h' w' rfl g1 g2 g3
        refine ⟨v, h2, w2, q2, vc_readh_2 hd (fun y => absurd y hlt) (fun y => absurd y hlt) (fun y => absurd y hlt) (fun _ => by rw [ei]; exact nI_in (by omega) (by omega)) (fun _ y => absurd y no) (fun _ y => absurd y no) (fun _ _ => ?_) (fun _ y => absurd (by rw [ec]; exact pp.mpr ok) y), v2⟩
        rw [ec, g0, show nI k + (1 : Int32) = nI (k + 1) from nI_1 k]
        exact v1
      · refine ⟨nI k, h', w', q, vc_readh_2 hd (fun y => absurd y hlt) (fun y => absurd y hlt) (fun y => absurd y hlt) (fun _ => by rw [ei]; exact nI_in (by omega) (by omega)) (fun _ y => absurd y no) (fun _ y => absurd y no) (fun _ y => absurd (by rw [ec] at y; exact pp.mp y) ok) (fun _ _ => by rw [ec, g0]), Or.inr ⟨k, rfl, Or.inl ⟨by omega, ok⟩, ho⟩⟩
    · have hle : nI n ≤ nI k := nI_le (by omega) (by omega)
      have l3 : nI n < 3 := nI_lt (a := n) (b := 3) (by omega) (by omega)
      refine ⟨nI n, h, w, q, vc_readh_2 hd (fun _ _ => rfl) (fun _ y => absurd l3 y) (fun _ y => absurd l3 y) (fun y => absurd hle y) (fun y => absurd hle y) (fun y => absurd hle y) (fun y => absurd hle y) (fun y => absurd hle y), Or.inr ⟨n, rfl, Or.inr ⟨rfl, Or.inl (by omega)⟩, fun j hj => ho j (by omega)⟩⟩
  have fin := st 0 (by omega) 0 0 0 (fun j hj => absurd hj (by omega)) (fun h0 o0 h' w' _ e0 _ _ => by
    obtain ⟨rfl, rfl⟩ := e0 rfl
    exact st 1 (by omega) 0 0 0 (fun j hj => by
      have e : j = 0 := by omega
      subst e; exact o0) (fun h1 o1 h' w' _ _ e1 _ => by
      obtain ⟨rfl, rfl⟩ := e1 rfl
      exact st 2 (by omega) (s 1 - 48) 0 0 (fun j hj => by
        rcases Nat.lt_or_ge j 1 with y | y
        · have e : j = 0 := by omega
          subst e; exact o0
        · have e : j = 1 := by omega
          subst e; exact o1) (fun h2 o2 h' w' _ _ _ e2 => by
        obtain ⟨rfl, rfl⟩ := e2 rfl
        have hhw := rd_hw o1 o2
        obtain ⟨v, q', v1, v2⟩ := c_rd_h2 (d := d) (x := x) (σ := σ) (s := s) hd hin hs (n - 3) 3 (by omega) (by omega) (fun j hj => by
          rcases Nat.lt_or_ge j 1 with y | y
          · have e : j = 0 := by omega
            subst e; exact o0
          · rcases Nat.lt_or_ge j 2 with y2 | y2
            · have e : j = 1 := by omega
              subst e; exact o1
            · have e : j = 2 := by omega
              subst e; exact o2) 0 (fun c => by
          rw [bt_0]
          unfold rd_w
          have : decide (rd_p (rd_W s) c < 3) = false := decide_eq_false (by unfold rd_p; omega)
          rw [this, Bool.false_and, Bool.and_false])
        rw [hhw.1.2.2, hhw.2.2.2]
        refine ⟨v, _, _, q', v1, ?_⟩
        rcases v2 with ⟨z1, z2, z3⟩ | z
        · exact Or.inl ⟨z1, z2, rfl, rfl, z3⟩
        · exact Or.inr z)))
  obtain ⟨v, h, w, q, v1, v2⟩ := fin
  exact ⟨v, h, w, q, vc_read0_2 v1, v2⟩

theorem c_rd_h3 {d : Nat} {x : Nat × (Nat → Int32)} {σ : mm_S} {s : Nat → Int32} {i n : Nat} (hd : 2 ≤ d) (hin : i + n ≤ 60) (hs : ∀ k, k < n → σ.2.2.1 11 (i + k) = s k) : ∀ (m k : Nat), k + m = n → 3 ≤ k → (∀ j, j < k → rd_ok s j) → ∀ q, (∀ c, bt q c = rd_w s k c) →
    ∃ (v : Int32) (q' : Int64), mm_Runs d 15 (18, [some (.ref 12), some (.ref 7), some (.int (nI i)), some (.int (nI n)), some (.int (nI k))], [], HH x (tx σ (nI (rd_H s)) (nI (rd_W s)) q)) (some (.int v), HH x (tx σ (nI (rd_H s)) (nI (rd_W s)) q')) ∧ ((v = -1 ∧ rd_t s n ∧ ∀ c, bt q' c = rd_w s n c) ∨ ∃ f, v = nI f ∧ rd_f s n f)
  | 0, k, h, hk, ho, q, hq => by
    have e : k = n := by omega
    subst e
    have hhw := rd_hw (ho 1 (by omega)) (ho 2 (by omega))
    have hE : rd_E s ≤ 60 := by
      unfold rd_E
      have := Nat.mul_le_mul hhw.1.2.1 (show rd_W s + 1 ≤ 8 by omega)
      omega
    have hle : nI k ≤ nI k := nI_le (Nat.le_refl _) (by omega)
    have n3 : ¬ nI k < 3 := nI_nlt (a := k) (b := 3) hk (by omega)
    have eE : f_end_ (tx σ (nI (rd_H s)) (nI (rd_W s)) q) = nI (rd_E s) := end_tx
    by_cases z : rd_E s ≤ k
    · have z2 : f_end_ (tx σ (nI (rd_H s)) (nI (rd_W s)) q) ≤ nI k := by rw [eE]; exact nI_le z (by omega)
      exact ⟨-1, q, vc_readh_3 hd (fun _ y => absurd y n3) (fun _ _ _ => rfl) (fun _ _ y => absurd z2 y) (fun y => absurd hle y) (fun y => absurd hle y) (fun y => absurd hle y) (fun y => absurd hle y) (fun y => absurd hle y), Or.inl ⟨rfl, ⟨hk, z, ho⟩, hq⟩⟩
    · have z2 : ¬ f_end_ (tx σ (nI (rd_H s)) (nI (rd_W s)) q) ≤ nI k := by rw [eE]; exact nI_ge (by omega) (by omega)
      exact ⟨nI k, q, vc_readh_3 hd (fun _ y => absurd y n3) (fun _ _ y => absurd y z2) (fun _ _ _ => rfl) (fun y => absurd hle y) (fun y => absurd hle y) (fun y => absurd hle y) (fun y => absurd hle y) (fun y => absurd hle y), Or.inr ⟨k, rfl, Or.inr ⟨rfl, Or.inr (by omega)⟩, ho⟩⟩
  | m + 1, k, h, hk, ho, q, hq => by
    have hhw := rd_hw (ho 1 (by omega)) (ho 2 (by omega))
    have hlt : ¬ nI n ≤ nI k := nI_ge (by omega) (by omega)
    have ei : nI i + nI k = nI (i + k) := nI_add _ _
    have ci : (nI (i + k)).toNatClampNeg = i + k := nI_clamp (by omega)
    have ec : (tx σ (nI (rd_H s)) (nI (rd_W s)) q).2.2.1 11 (nI i + nI k).toNatClampNeg = s k := by
      rw [ei, ci]; exact hs k (by omega)
    have w0 : ¬ (tx σ (nI (rd_H s)) (nI (rd_W s)) q).1 1201 + (1 : Int32) = 0 := by
      show ¬ nI (rd_W s) + (1 : Int32) = 0
      rw [nI_1]; exact nI_ne0 (by omega) (by omega)
    obtain ⟨g1, g2⟩ := go_3 (σ := σ) (s := s) (q := q) (k := k) hhw.1.2.1 hhw.2.1 hhw.2.2.1 hk (by omega) ec
    obtain ⟨q', g3, g4⟩ := g2 hq
    by_cases ok : rd_ok s k
    · obtain ⟨v, q'', v1, v2⟩ := c_rd_h3 (d := d) (x := x) hd hin hs m (k + 1) (by omega) (by omega) (fun j hj => by
        rcases Nat.lt_or_ge j k with y | y
        · exact ho j y
        · have e : j = k := by omega
          subst e; exact ok) q' (g4 ok)
      refine ⟨v, q'', vc_readh_3 hd (fun y => absurd y hlt) (fun y => absurd y hlt) (fun y => absurd y hlt) (fun _ => by rw [ei]; exact nI_in (by omega) (by omega)) (fun _ _ _ => w0) (fun _ _ _ _ _ => w0) (fun _ _ => ?_) (fun _ y => absurd (g1.mpr ok) y), v2⟩
      rw [g3, show nI k + (1 : Int32) = nI (k + 1) from nI_1 k]
      exact v1
    · refine ⟨nI k, q', vc_readh_3 hd (fun y => absurd y hlt) (fun y => absurd y hlt) (fun y => absurd y hlt) (fun _ => by rw [ei]; exact nI_in (by omega) (by omega)) (fun _ _ _ => w0) (fun _ _ _ _ _ => w0) (fun _ y => absurd (g1.mp y) ok) (fun _ _ => by rw [g3]), Or.inr ⟨k, rfl, Or.inl ⟨by omega, ok⟩, ho⟩⟩
theorem c_read3 {d : Nat} {x : Nat × (Nat → Int32)} {σ : mm_S} {s : Nat → Int32} {i n : Nat} (hd : 2 ≤ d) (hin : i + n ≤ 60) (hs : ∀ k, k < n → σ.2.2.1 11 (i + k) = s k) :
    ∃ (v h w : Int32) (q : Int64), mm_Runs d 15 (0, [some (.ref 12), some (.ref 7), some (.int (nI i)), some (.int (nI n)), none], [], HH x σ) (some (.int v), HH x (tx σ h w q)) ∧ ((v = -1 ∧ rd_t s n ∧ h = nI (rd_H s) ∧ w = nI (rd_W s) ∧ ∀ c, bt q c = rd_w s n c) ∨ ∃ f, v = nI f ∧ rd_f s n f) := by
  have st : ∀ k, k < 3 → ∀ (h w : Int32) (q : Int64), (∀ j, j < k → rd_ok s j) → (k < n → rd_ok s k → ∀ h' w', ui σ 0 0 = ui σ 0 0 → (k = 0 → h' = h ∧ w' = w) → (k = 1 → h' = s 1 - 48 ∧ w' = w) → (k = 2 → h' = h ∧ w' = s 2 - 48) → ∃ (v h2 w2 : Int32) (q2 : Int64), mm_Runs d 15 (18, [some (.ref 12), some (.ref 7), some (.int (nI i)), some (.int (nI n)), some (.int (nI (k + 1)))], [], HH x (tx σ h' w' q)) (some (.int v), HH x (tx σ h2 w2 q2)) ∧ ((v = -1 ∧ rd_t s n ∧ h2 = nI (rd_H s) ∧ w2 = nI (rd_W s) ∧ ∀ c, bt q2 c = rd_w s n c) ∨ ∃ f, v = nI f ∧ rd_f s n f)) →
      ∃ (v h2 w2 : Int32) (q2 : Int64), mm_Runs d 15 (18, [some (.ref 12), some (.ref 7), some (.int (nI i)), some (.int (nI n)), some (.int (nI k))], [], HH x (tx σ h w q)) (some (.int v), HH x (tx σ h2 w2 q2)) ∧ ((v = -1 ∧ rd_t s n ∧ h2 = nI (rd_H s) ∧ w2 = nI (rd_W s) ∧ ∀ c, bt q2 c = rd_w s n c) ∨ ∃ f, v = nI f ∧ rd_f s n f) := by
    intro k hk h w q ho cont
    rcases Nat.lt_or_ge k n with hlt' | hge
    · have hlt : ¬ nI n ≤ nI k := nI_ge (by omega) (by omega)
      have ei : nI i + nI k = nI (i + k) := nI_add _ _
      have ci : (nI (i + k)).toNatClampNeg = i + k := nI_clamp (by omega)
      have ec : (tx σ h w q).2.2.1 11 (nI i + nI k).toNatClampNeg = s k := by
        rw [ei, ci]; exact hs k (by omega)
      have no : ¬ (¬ nI k = 0 ∧ ¬ nI k = 1 ∧ ¬ nI k = 2) := by
        match k, hk with
        | 0, _ => exact fun z => z.1 rfl
        | 1, _ => exact fun z => z.2.1 rfl
        | 2, _ => exact fun z => z.2.2 rfl
        | k + 3, h => omega
      have gg : ∃ h' w', g_goesOn (tx σ h w q) (nI k) (s k) = tx σ h' w' q ∧ (k = 0 → h' = h ∧ w' = w) ∧ (k = 1 → h' = s 1 - 48 ∧ w' = w) ∧ (k = 2 → h' = h ∧ w' = s 2 - 48) := by
        match k, hk with
        | 0, _ => exact ⟨h, w, by unfold g_goesOn; rw [if_pos (by rfl)], fun _ => ⟨rfl, rfl⟩, fun z => by omega, fun z => by omega⟩
        | 1, _ => exact ⟨s 1 - 48, w, by unfold g_goesOn; rw [if_neg (by decide), if_pos (by rfl), tx_h], fun z => by omega, fun _ => ⟨rfl, rfl⟩, fun z => by omega⟩
        | 2, _ => exact ⟨h, s 2 - 48, by unfold g_goesOn; rw [if_neg (by decide), if_neg (by decide), if_pos (by rfl), tx_w], fun z => by omega, fun z => by omega, fun _ => ⟨rfl, rfl⟩⟩
        | k + 3, h => omega
      have pp : p_goesOn (tx σ h w q) (nI k) (s k) ↔ rd_ok s k := by
        unfold rd_ok p_goesOn
        match k, hk with
        | 0, _ =>
          constructor
          · rintro (⟨-, z⟩ | ⟨z, -⟩)
            · exact Or.inl ⟨rfl, z⟩
            · exact absurd rfl z
          · rintro (⟨-, z⟩ | ⟨z, -⟩ | ⟨z, -⟩ | ⟨z, -⟩)
            · exact Or.inl ⟨rfl, z⟩
            · omega
            · omega
            · omega
        | 1, _ =>
          constructor
          · rintro (⟨z, -⟩ | ⟨-, ⟨-, z1, z2⟩ | ⟨z, -⟩⟩)
            · exact absurd z (by decide)
            · exact Or.inr (Or.inl ⟨rfl, Int32.not_lt.mp z1, Int32.not_lt.mp z2⟩)
            · exact absurd rfl z
          · rintro (⟨z, -⟩ | ⟨-, z1, z2⟩ | ⟨z, -⟩ | ⟨z, -⟩)
            · omega
            · exact Or.inr ⟨by decide, Or.inl ⟨rfl, Int32.not_lt.mpr z1, Int32.not_lt.mpr z2⟩⟩
            · omega
            · omega
        | 2, _ =>
          constructor
          · rintro (⟨z, -⟩ | ⟨-, ⟨z, -⟩ | ⟨-, ⟨-, z1, z2⟩ | ⟨z, -⟩⟩⟩)
            · exact absurd z (by decide)
            · exact absurd z (by decide)
            · exact Or.inr (Or.inr (Or.inl ⟨rfl, Int32.not_lt.mp z1, Int32.not_lt.mp z2⟩))
            · exact absurd rfl z
          · rintro (⟨z, -⟩ | ⟨z, -⟩ | ⟨-, z1, z2⟩ | ⟨z, -⟩)
            · omega
            · omega
            · exact Or.inr ⟨by decide, Or.inr ⟨by decide, Or.inl ⟨rfl, Int32.not_lt.mpr z1, Int32.not_lt.mpr z2⟩⟩⟩
            · omega
        | k + 3, h => omega
      obtain ⟨h', w', g0, g1, g2, g3⟩ := gg
      by_cases ok : rd_ok s k
      · obtain ⟨v, h2, w2, q2, v1, v2⟩ := cont hlt' ok h' w' rfl g1 g2 g3
        refine ⟨v, h2, w2, q2, vc_readh_3 hd (fun y => absurd y hlt) (fun y => absurd y hlt) (fun y => absurd y hlt) (fun _ => by rw [ei]; exact nI_in (by omega) (by omega)) (fun _ y => absurd y no) (fun _ y => absurd y no) (fun _ _ => ?_) (fun _ y => absurd (by rw [ec]; exact pp.mpr ok) y), v2⟩
        rw [ec, g0, show nI k + (1 : Int32) = nI (k + 1) from nI_1 k]
        exact v1
      · refine ⟨nI k, h', w', q, vc_readh_3 hd (fun y => absurd y hlt) (fun y => absurd y hlt) (fun y => absurd y hlt) (fun _ => by rw [ei]; exact nI_in (by omega) (by omega)) (fun _ y => absurd y no) (fun _ y => absurd y no) (fun _ y => absurd (by rw [ec] at y; exact pp.mp y) ok) (fun _ _ => by rw [ec, g0]), Or.inr ⟨k, rfl, Or.inl ⟨by omega, ok⟩, ho⟩⟩
    · have hle : nI n ≤ nI k := nI_le (by omega) (by omega)
      have l3 : nI n < 3 := nI_lt (a := n) (b := 3) (by omega) (by omega)
      refine ⟨nI n, h, w, q, vc_readh_3 hd (fun _ _ => rfl) (fun _ y => absurd l3 y) (fun _ y => absurd l3 y) (fun y => absurd hle y) (fun y => absurd hle y) (fun y => absurd hle y) (fun y => absurd hle y) (fun y => absurd hle y), Or.inr ⟨n, rfl, Or.inr ⟨rfl, Or.inl (by omega)⟩, fun j hj => ho j (by omega)⟩⟩
  have fin := st 0 (by omega) 0 0 0 (fun j hj => absurd hj (by omega)) (fun h0 o0 h' w' _ e0 _ _ => by
    obtain ⟨rfl, rfl⟩ := e0 rfl
    exact st 1 (by omega) 0 0 0 (fun j hj => by
      have e : j = 0 := by omega
      subst e; exact o0) (fun h1 o1 h' w' _ _ e1 _ => by
      obtain ⟨rfl, rfl⟩ := e1 rfl
      exact st 2 (by omega) (s 1 - 48) 0 0 (fun j hj => by
        rcases Nat.lt_or_ge j 1 with y | y
        · have e : j = 0 := by omega
          subst e; exact o0
        · have e : j = 1 := by omega
          subst e; exact o1) (fun h2 o2 h' w' _ _ _ e2 => by
        obtain ⟨rfl, rfl⟩ := e2 rfl
        have hhw := rd_hw o1 o2
        obtain ⟨v, q', v1, v2⟩ := c_rd_h3 (d := d) (x := x) (σ := σ) (s := s) hd hin hs (n - 3) 3 (by omega) (by omega) (fun j hj => by
          rcases Nat.lt_or_ge j 1 with y | y
          · have e : j = 0 := by omega
            subst e; exact o0
          · rcases Nat.lt_or_ge j 2 with y2 | y2
            · have e : j = 1 := by omega
              subst e; exact o1
            · have e : j = 2 := by omega
              subst e; exact o2) 0 (fun c => by
          rw [bt_0]
          unfold rd_w
          have : decide (rd_p (rd_W s) c < 3) = false := decide_eq_false (by unfold rd_p; omega)
          rw [this, Bool.false_and, Bool.and_false])
        rw [hhw.1.2.2, hhw.2.2.2]
        refine ⟨v, _, _, q', v1, ?_⟩
        rcases v2 with ⟨z1, z2, z3⟩ | z
        · exact Or.inl ⟨z1, z2, rfl, rfl, z3⟩
        · exact Or.inr z)))
  obtain ⟨v, h, w, q, v1, v2⟩ := fin
  exact ⟨v, h, w, q, vc_read0_3 v1, v2⟩

/-- the columns -/
theorem c_begin_h {d : Nat} {x : Nat × (Nat → Int32)} {H W : Nat} {q : Int64} (hd : 1 ≤ d) (hH : H ≤ 6) (hW1 : 1 ≤ W) (hW : W ≤ 7) : ∀ (m e : Nat), e + m = H → ∀ (σ : mm_S), (∀ p, bt (σ.2.1 1303) p = decide (p < e * W ∧ p % W = 0)) →
    ∃ f : Int64, mm_Runs d 6 (20, [some (.ref 13), some (.int (nI H)), some (.int (nI W)), some (.long q), none, some (.int (nI e))], [], HH x σ) (none, HH x (ul (ul (ul (ul σ 1303 f) 1304 (f <<< (Int32.toInt64 (nI W - (1 : Int32)) &&& 63))) 1307 q) 1302 0)) ∧ ∀ p, bt f p = decide (p < H * W ∧ p % W = 0)
  | 0, e, h, σ, hp => by
    have e1 : e = H := by omega
    subst e1
    have hle : nI e ≤ nI e := nI_le (Nat.le_refl _) (by omega)
    refine ⟨σ.2.1 1303, ?_, hp⟩
    have e2 : ul σ 1303 (σ.2.1 1303) = σ := by unfold ul; rw [mm_up_self]
    rw [e2]
    exact vc_beginh hd (fun _ => rfl) (fun z => absurd hle z)
  | m + 1, e, h, σ, hp => by
    have hlt : ¬ nI H ≤ nI e := nI_ge (by omega) (by omega)
    have hb : e * W < 64 := by
      have := Nat.mul_le_mul (show e ≤ 6 by omega) hW
      omega
    obtain ⟨f, f1, f2⟩ := c_begin_h (d := d) (x := x) (q := q) hd hH hW1 hW m (e + 1) (by omega) (ul σ 1303 (σ.2.1 1303 ||| ((1 : Int64) <<< (Int32.toInt64 (nI (e * W)) &&& 63)))) (fun p => by
      show bt (σ.2.1 1303 ||| _) p = _
      rw [bt_or, bt_one hb, hp, Bool.eq_iff_iff]
      simp only [Bool.or_eq_true, decide_eq_true_eq]
      have : W = 1 ∨ W = 2 ∨ W = 3 ∨ W = 4 ∨ W = 5 ∨ W = 6 ∨ W = 7 := by omega
      rcases this with rfl | rfl | rfl | rfl | rfl | rfl | rfl <;> omega)
    refine ⟨f, vc_beginh hd (fun z => absurd z hlt) (fun _ => ?_), f2⟩
    rw [pk_mul, show nI e + (1 : Int32) = nI (e + 1) from nI_1 e]
    have e3 : ul (ul σ 1303 (σ.2.1 1303 ||| ((1 : Int64) <<< (Int32.toInt64 (nI (e * W)) &&& 63)))) 1303 f = ul σ 1303 f := by
      unfold ul
      simp only [mm_up_up]
    rw [e3] at f1
    exact f1
theorem c_begin {d : Nat} {x : Nat × (Nat → Int32)} {H W : Nat} {q : Int64} {σ : mm_S} (hd : 1 ≤ d) (hH : H ≤ 6) (hW1 : 1 ≤ W) (hW : W ≤ 7) :
    ∃ f g : Int64, mm_Runs d 6 (0, [some (.ref 13), some (.int (nI H)), some (.int (nI W)), some (.long q), none, none], [], HH x σ) (none, HH x (ul (ul (ul (ul (ui (ui σ 1306 (nI W)) 1305 (nI (H * W))) 1303 f) 1304 g) 1307 q) 1302 0)) ∧ (∀ p, bt f p = decide (p < H * W ∧ p % W = 0)) ∧ ∀ p, bt g p = decide (p < H * W ∧ (p + 1) % W = 0) := by
  obtain ⟨f, f1, f2⟩ := c_begin_h (d := d) (x := x) (q := q) hd hH hW1 hW H 0 (by omega) (ul (ui (ui σ 1306 (nI W)) 1305 (nI (H * W))) 1303 0) (fun p => by
    show bt 0 p = _
    rw [bt_0, Nat.zero_mul]
    simp)
  have e3 : ul (ul (ui (ui σ 1306 (nI W)) 1305 (nI (H * W))) 1303 0) 1303 f = ul (ui (ui σ 1306 (nI W)) 1305 (nI (H * W))) 1303 f := by
    unfold ul
    simp only [mm_up_up]
  rw [e3] at f1
  refine ⟨f, _, vc_begin0 (by rw [pk_mul]; exact f1), f2, fun p => ?_⟩
  rw [show nI W - (1 : Int32) = nI (W - 1) from pk_sub (a := W) (b := 1) hW1]
  have hHW : H * W ≤ 42 := Nat.le_trans (Nat.mul_le_mul hH hW) (by decide)
  rcases Nat.lt_or_ge p 64 with hp | hp
  · rw [bt_shl _ (by omega) hp, f2, Bool.eq_iff_iff]
    simp only [Bool.and_eq_true, decide_eq_true_eq]
    have : W = 1 ∨ W = 2 ∨ W = 3 ∨ W = 4 ∨ W = 5 ∨ W = 6 ∨ W = 7 := by omega
    rcases this with rfl | rfl | rfl | rfl | rfl | rfl | rfl <;> omega
  · rw [bt_big hp]
    symm
    rw [decide_eq_false_iff_not]
    omega

