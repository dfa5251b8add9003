/-! fits (written by wip/whole/t46.py) -/
theorem vc_firstFit {d : Nat} {x : Nat × (Nat → Int32)} {σ : mm_S} {c : Int32} {v1 : Int32} {σ1 : mm_S} {r : Option Value × mm_H} (hd : 1 ≤ d) (k1 : ¬ (σ.1 2403) = 0 → ¬ ((0 : Int32) < 0 ∨ 6 ≤ (0 : Int32).toNatClampNeg)) (k2 : ¬ (σ.1 2403) = 0 → ¬ ((0 : Int32) < 0 ∨ 6 ≤ (0 : Int32).toNatClampNeg)) (k3 : ¬ (σ.1 2403) = 0 → mm_Runs (d - 1) 10 (0, [some (.ref 13), some (.int c), some (.int ((σ.2.2.1 26) (0 : Int32).toNatClampNeg)), none, none], [], HH x σ) (some (.int v1), HH x σ1)) (k4 : ¬ (σ.1 2403) = 0 → (some (.int (((σ.2.2.1 27) (0 : Int32).toNatClampNeg) - v1)), HH x σ1) = r) (k5 : (σ.1 2403) = 0 → (some (.int (0 : Int32)), HH x σ) = r) : mm_Runs d 77 (0, [some (.ref 2), some (.int c)], [], HH x σ) r := by
  refine mm_go 4 (F' := (bif mm_cond .ne (σ.1 2403) 0 then 12 else 10, [some (.ref 2), some (.int c)], [], HH x σ)) rfl ?_
  refine mb_ne (fun h1 => ?_) (fun h1 => ?_)
  · refine mm_go 4 (F' := (20, [some (.ref 2), some (.int c)], [.int (0 : Int32), .ref 27], HH x σ)) rfl ?_
    refine mm_gd (F' := (21, [some (.ref 2), some (.int c)], [.int ((σ.2.2.1 27) (0 : Int32).toNatClampNeg)], HH x σ)) rfl (k1 h1) ?_
    refine mm_go 7 (F' := (34, [some (.ref 2), some (.int c)], [.int (0 : Int32), .ref 26, .int c, .ref 13, .int ((σ.2.2.1 27) (0 : Int32).toNatClampNeg)], HH x σ)) rfl ?_
    refine mm_gd (F' := (35, [some (.ref 2), some (.int c)], [.int ((σ.2.2.1 26) (0 : Int32).toNatClampNeg), .int c, .ref 13, .int ((σ.2.2.1 27) (0 : Int32).toNatClampNeg)], HH x σ)) rfl (k2 h1) ?_
    refine mm_kl (z := 10) (as := [.ref 13, .int c, .int ((σ.2.2.1 26) (0 : Int32).toNatClampNeg)]) (S' := [.int ((σ.2.2.1 27) (0 : Int32).toNatClampNeg)]) (L2 := [some (.ref 13), some (.int c), some (.int ((σ.2.2.1 26) (0 : Int32).toNatClampNeg)), none, none]) (v := some (.int v1)) (h1 := HH x σ1) rfl rfl rfl rfl rfl (by omega) (k3 h1) ?_
    show mm_Runs d 77 (38, [some (.ref 2), some (.int c)], [.int v1, .int ((σ.2.2.1 27) (0 : Int32).toNatClampNeg)], HH x σ1) r
    refine mm_go 1 (F' := (39, [some (.ref 2), some (.int c)], [.int (((σ.2.2.1 27) (0 : Int32).toNatClampNeg) - v1)], HH x σ1)) rfl ?_
    exact mm_rt rfl rfl (k4 h1)
  · refine mm_go 1 (F' := (11, [some (.ref 2), some (.int c)], [.int (0 : Int32)], HH x σ)) rfl ?_
    exact mm_rt rfl rfl (k5 h1)
theorem vc_fic0 {d : Nat} {x : Nat × (Nat → Int32)} {σ : mm_S} {k c : Int32} {v1 : Int32} {σ1 : mm_S} {r : Option Value × mm_H} (hd : 1 ≤ d) (k1 : (p_isWater σ c) → ¬ (σ.1 2403) = 0 → mm_Runs (d - 1) 77 (0, [some (.ref 2), some (.int c)], [], HH x σ) (some (.int v1), HH x σ1)) (k2 : (p_isWater σ c) → ¬ (σ.1 2403) = 0 → mm_Runs d 76 (35, [some (.ref 2), some (.int k), some (.int c), some (.int v1), some (.int (0 : Int32)), none], [], HH x σ1) r) (k3 : (p_isWater σ c) → (σ.1 2403) = 0 → (some (.int (100 : Int32)), HH x σ) = r) (k4 : ¬ (p_isWater σ c) → (some (.int (0 : Int32)), HH x σ) = r) : mm_Runs d 76 (0, [some (.ref 2), some (.int k), some (.int c), none, none, none], [], HH x σ) r := by
  refine mm_go 3 (F' := (5, [some (.ref 2), some (.int k), some (.int c), none, none, none], [.int c, .ref 13], HH x σ)) rfl ?_
  refine mm_kl (z := 9) (as := [.ref 13, .int c]) (S' := []) (L2 := [some (.ref 13), some (.int c)]) (v := some (.int (mm_b (p_isWater σ c)))) (h1 := HH x σ) rfl rfl rfl rfl rfl (by omega) (r_isWater (by omega)) ?_
  show mm_Runs d 76 (8, [some (.ref 2), some (.int k), some (.int c), none, none, none], [.int (mm_b (p_isWater σ c))], HH x σ) r
  refine mm_go 1 (F' := (bif mm_cond .ne (mm_b (p_isWater σ c)) 0 then 13 else 11, [some (.ref 2), some (.int k), some (.int c), none, none, none], [], HH x σ)) rfl ?_
  refine mb_bne (fun h1 => ?_) (fun h1 => ?_)
  · refine mm_go 4 (F' := (bif mm_cond .ne (σ.1 2403) 0 then 26 else 23, [some (.ref 2), some (.int k), some (.int c), none, none, none], [], HH x σ)) rfl ?_
    refine mb_ne (fun h2 => ?_) (fun h2 => ?_)
    · refine mm_go 2 (F' := (28, [some (.ref 2), some (.int k), some (.int c), none, none, none], [.int c, .ref 2], HH x σ)) rfl ?_
      refine mm_kl (z := 77) (as := [.ref 2, .int c]) (S' := []) (L2 := [some (.ref 2), some (.int c)]) (v := some (.int v1)) (h1 := HH x σ1) rfl rfl rfl rfl rfl (by omega) (k1 h1 h2) ?_
      show mm_Runs d 76 (31, [some (.ref 2), some (.int k), some (.int c), none, none, none], [.int v1], HH x σ1) r
      refine mm_go 3 (F' := (35, [some (.ref 2), some (.int k), some (.int c), some (.int v1), some (.int (0 : Int32)), none], [], HH x σ1)) rfl ?_
      exact mm_wk (by exact (And.intro rfl (And.intro rfl (And.intro rfl (And.intro rfl (And.intro rfl True.intro)))))) (k2 h1 h2)
    · refine mm_go 1 (F' := (25, [some (.ref 2), some (.int k), some (.int c), none, none, none], [.int (100 : Int32)], HH x σ)) rfl ?_
      exact mm_rt rfl rfl (k3 h1 h2)
  · refine mm_go 1 (F' := (12, [some (.ref 2), some (.int k), some (.int c), none, none, none], [.int (0 : Int32)], HH x σ)) rfl ?_
    exact mm_rt rfl rfl (k4 h1)
theorem vc_fich {d : Nat} {x : Nat × (Nat → Int32)} {σ : mm_S} {k c m u : Int32} {v1 : Int32} {σ1 : mm_S} {r : Option Value × mm_H} (hd : 1 ≤ d) (k1 : (σ.1 2403) ≤ u → m < 0 → (some (.int (0 : Int32)), HH x σ) = r) (k2 : (σ.1 2403) ≤ u → ¬ m < 0 → (some (.int (1 : Int32)), HH x σ) = r) (k3 : ¬ (σ.1 2403) ≤ u → ¬ (u < 0 ∨ 6 ≤ u.toNatClampNeg)) (k4 : ¬ (σ.1 2403) ≤ u → mm_Runs (d - 1) 10 (0, [some (.ref 13), some (.int c), some (.int ((σ.2.2.1 26) u.toNatClampNeg)), none, none], [], HH x σ) (some (.int v1), HH x σ1)) (k5 : ¬ (σ.1 2403) ≤ u → v1 = (-9 : Int32) → (some (.int (0 : Int32)), HH x σ1) = r) (k6 : ¬ (σ.1 2403) ≤ u → ¬ v1 = (-9 : Int32) → ¬ (k < 0 ∨ 3 ≤ k.toNatClampNeg)) (k7 : ¬ (σ.1 2403) ≤ u → ¬ v1 = (-9 : Int32) → (mm_reach k.toNatClampNeg) < v1 → (some (.int (0 : Int32)), HH x σ1) = r) (k8 : ¬ (σ.1 2403) ≤ u → ¬ v1 = (-9 : Int32) → ¬ (mm_reach k.toNatClampNeg) < v1 → ¬ (u < 0 ∨ 6 ≤ u.toNatClampNeg)) (k9 : ¬ (σ.1 2403) ≤ u → ¬ v1 = (-9 : Int32) → ¬ (mm_reach k.toNatClampNeg) < v1 → v1 = (((σ1.2.2.1 27) u.toNatClampNeg) - m) → mm_Runs d 76 (35, [some (.ref 2), some (.int k), some (.int c), some (.int m), some (.int (u + (1 : Int32))), none], [], HH x σ1) r) (k10 : ¬ (σ.1 2403) ≤ u → ¬ v1 = (-9 : Int32) → ¬ (mm_reach k.toNatClampNeg) < v1 → ¬ v1 = (((σ1.2.2.1 27) u.toNatClampNeg) - m) → (some (.int (0 : Int32)), HH x σ1) = r) : mm_Runs d 76 (35, [some (.ref 2), some (.int k), some (.int c), some (.int m), some (.int u), none], [], HH x σ) r := by
  refine mm_go 5 (F' := (bif mm_cond .ge u (σ.1 2403) then 109 else 47, [some (.ref 2), some (.int k), some (.int c), some (.int m), some (.int u), none], [], HH x σ)) rfl ?_
  refine mb_ge (fun h1 => ?_) (fun h1 => ?_)
  · refine mm_go 2 (F' := (bif mm_cond .lt m 0 then 117 else 113, [some (.ref 2), some (.int k), some (.int c), some (.int m), some (.int u), none], [], HH x σ)) rfl ?_
    refine mb_lt (fun h2 => ?_) (fun h2 => ?_)
    · refine mm_go 1 (F' := (118, [some (.ref 2), some (.int k), some (.int c), some (.int m), some (.int u), none], [.int (0 : Int32)], HH x σ)) rfl ?_
      exact mm_rt rfl rfl (k1 h1 h2)
    · refine mm_go 2 (F' := (118, [some (.ref 2), some (.int k), some (.int c), some (.int m), some (.int u), none], [.int (1 : Int32)], HH x σ)) rfl ?_
      exact mm_rt rfl rfl (k2 h1 h2)
  · refine mm_go 7 (F' := (61, [some (.ref 2), some (.int k), some (.int c), some (.int m), some (.int u), none], [.int u, .ref 26, .int c, .ref 13], HH x σ)) rfl ?_
    refine mm_gd (F' := (62, [some (.ref 2), some (.int k), some (.int c), some (.int m), some (.int u), none], [.int ((σ.2.2.1 26) u.toNatClampNeg), .int c, .ref 13], HH x σ)) rfl (k3 h1) ?_
    refine mm_kl (z := 10) (as := [.ref 13, .int c, .int ((σ.2.2.1 26) u.toNatClampNeg)]) (S' := []) (L2 := [some (.ref 13), some (.int c), some (.int ((σ.2.2.1 26) u.toNatClampNeg)), none, none]) (v := some (.int v1)) (h1 := HH x σ1) rfl rfl rfl rfl rfl (by omega) (k4 h1) ?_
    show mm_Runs d 76 (65, [some (.ref 2), some (.int k), some (.int c), some (.int m), some (.int u), none], [.int v1], HH x σ1) r
    refine mm_go 4 (F' := (bif mm_cond .eq v1 (-9 : Int32) then 101 else 74, [some (.ref 2), some (.int k), some (.int c), some (.int m), some (.int u), some (.int v1)], [], HH x σ1)) rfl ?_
    refine mb_eq (fun h3 => ?_) (fun h3 => ?_)
    · refine mm_go 1 (F' := (102, [some (.ref 2), some (.int k), some (.int c), some (.int m), some (.int u), some (.int v1)], [.int (0 : Int32)], HH x σ1)) rfl ?_
      exact mm_rt rfl rfl (k5 h1 h3)
    · refine mm_go 3 (F' := (80, [some (.ref 2), some (.int k), some (.int c), some (.int m), some (.int u), some (.int v1)], [.int k, .ref 0, .int v1], HH x σ1)) rfl ?_
      refine mm_gd (F' := (81, [some (.ref 2), some (.int k), some (.int c), some (.int m), some (.int u), some (.int v1)], [.int (mm_reach k.toNatClampNeg), .int v1], HH x σ1)) rfl (k6 h1 h3) ?_
      refine mm_go 1 (F' := (bif mm_cond .gt v1 (mm_reach k.toNatClampNeg) then 101 else 84, [some (.ref 2), some (.int k), some (.int c), some (.int m), some (.int u), some (.int v1)], [], HH x σ1)) rfl ?_
      refine mb_gt (fun h4 => ?_) (fun h4 => ?_)
      · refine mm_go 1 (F' := (102, [some (.ref 2), some (.int k), some (.int c), some (.int m), some (.int u), some (.int v1)], [.int (0 : Int32)], HH x σ1)) rfl ?_
        exact mm_rt rfl rfl (k7 h1 h3 h4)
      · refine mm_go 5 (F' := (95, [some (.ref 2), some (.int k), some (.int c), some (.int m), some (.int u), some (.int v1)], [.int u, .ref 27, .int v1], HH x σ1)) rfl ?_
        refine mm_gd (F' := (96, [some (.ref 2), some (.int k), some (.int c), some (.int m), some (.int u), some (.int v1)], [.int ((σ1.2.2.1 27) u.toNatClampNeg), .int v1], HH x σ1)) rfl (k8 h1 h3 h4) ?_
        refine mm_go 3 (F' := (bif mm_cond .eq v1 (((σ1.2.2.1 27) u.toNatClampNeg) - m) then 103 else 101, [some (.ref 2), some (.int k), some (.int c), some (.int m), some (.int u), some (.int v1)], [], HH x σ1)) rfl ?_
        refine mb_eq (fun h5 => ?_) (fun h5 => ?_)
        · refine mm_go 2 (F' := (35, [some (.ref 2), some (.int k), some (.int c), some (.int m), some (.int (u + (1 : Int32))), some (.int v1)], [], HH x σ1)) rfl ?_
          exact mm_wk (by exact (And.intro rfl (And.intro rfl (And.intro rfl (And.intro rfl (And.intro rfl True.intro)))))) (k9 h1 h3 h4 h5)
        · refine mm_go 1 (F' := (102, [some (.ref 2), some (.int k), some (.int c), some (.int m), some (.int u), some (.int v1)], [.int (0 : Int32)], HH x σ1)) rfl ?_
          exact mm_rt rfl rfl (k10 h1 h3 h4 h5)
theorem vc_fits0 {d : Nat} {x : Nat × (Nat → Int32)} {σ : mm_S} {t k : Int32} {r : Option Value × mm_H} (hd : 1 ≤ d) (k1 : (p_isKind σ t) → (-1 : Int32) ≤ k → mm_Runs d 57 (22, [some (.ref 2), some (.int t), some (.int k), some (.int (0 : Int32)), some (.int (0 : Int32)), none], [], HH x σ) r) (k2 : (p_isKind σ t) → ¬ (-1 : Int32) ≤ k → (some (.int (-1 : Int32)), HH x σ) = r) (k3 : ¬ (p_isKind σ t) → (some (.int (-2 : Int32)), HH x σ) = r) : mm_Runs d 57 (0, [some (.ref 2), some (.int t), some (.int k), none, none, none], [], HH x σ) r := by
  refine mm_go 1 (F' := (1, [some (.ref 2), some (.int t), some (.int k), none, none, none], [.int t], HH x σ)) rfl ?_
  refine mm_kl (z := 73) (as := [.int t]) (S' := []) (L2 := [some (.int t)]) (v := some (.int (mm_b (p_isKind σ t)))) (h1 := HH x σ) rfl rfl rfl rfl rfl (by omega) (r_isKind (by omega)) ?_
  show mm_Runs d 57 (4, [some (.ref 2), some (.int t), some (.int k), none, none, none], [.int (mm_b (p_isKind σ t))], HH x σ) r
  refine mm_go 1 (F' := (bif mm_cond .ne (mm_b (p_isKind σ t)) 0 then 10 else 7, [some (.ref 2), some (.int t), some (.int k), none, none, none], [], HH x σ)) rfl ?_
  refine mb_bne (fun h1 => ?_) (fun h1 => ?_)
  · refine mm_go 3 (F' := (bif mm_cond .ge k (-1 : Int32) then 17 else 15, [some (.ref 2), some (.int t), some (.int k), none, none, none], [], HH x σ)) rfl ?_
    refine mb_ge (fun h2 => ?_) (fun h2 => ?_)
    · refine mm_go 4 (F' := (22, [some (.ref 2), some (.int t), some (.int k), some (.int (0 : Int32)), some (.int (0 : Int32)), none], [], HH x σ)) rfl ?_
      exact mm_wk (by exact (And.intro rfl (And.intro rfl (And.intro rfl (And.intro rfl (And.intro rfl True.intro)))))) (k1 h1 h2)
    · refine mm_go 1 (F' := (16, [some (.ref 2), some (.int t), some (.int k), none, none, none], [.int (-1 : Int32)], HH x σ)) rfl ?_
      exact mm_rt rfl rfl (k2 h1 h2)
  · refine mm_go 1 (F' := (9, [some (.ref 2), some (.int t), some (.int k), none, none, none], [.int (-2 : Int32)], HH x σ)) rfl ?_
    exact mm_rt rfl rfl (k3 h1)
theorem vc_fitsh {d : Nat} {x : Nat × (Nat → Int32)} {σ : mm_S} {t k f c : Int32} {v1 v2 : Int32} {σ1 σ2 : mm_S} {r : Option Value × mm_H} (hd : 1 ≤ d) (k1 : (σ.1 1305) ≤ c → ¬ k = (-1 : Int32) → (some (.int (-9 : Int32)), HH x σ) = r) (k2 : (σ.1 1305) ≤ c → k = (-1 : Int32) → (some (.int f), HH x σ) = r) (k3 : ¬ (σ.1 1305) ≤ c → mm_Runs (d - 1) 76 (0, [some (.ref 2), some (.int t), some (.int c), none, none, none], [], HH x σ) (some (.int v1), HH x σ1)) (k4 : ¬ (σ.1 1305) ≤ c → k < f → mm_Runs d 57 (22, [some (.ref 2), some (.int t), some (.int k), some (.int (f + v1)), some (.int (c + (1 : Int32))), none], [], HH x σ1) r) (k5 : ¬ (σ.1 1305) ≤ c → ¬ k < f → (f + v1) ≤ k → mm_Runs d 57 (22, [some (.ref 2), some (.int t), some (.int k), some (.int (f + v1)), some (.int (c + (1 : Int32))), none], [], HH x σ1) r) (k6 : ¬ (σ.1 1305) ≤ c → ¬ k < f → ¬ (f + v1) ≤ k → mm_Runs (d - 1) 77 (0, [some (.ref 2), some (.int c)], [], HH x σ1) (some (.int v2), HH x σ2)) (k7 : ¬ (σ.1 1305) ≤ c → ¬ k < f → ¬ (f + v1) ≤ k → (some (.int (((((100 : Int32) * c) + v2) + k) - f)), HH x σ2) = r) : mm_Runs d 57 (22, [some (.ref 2), some (.int t), some (.int k), some (.int f), some (.int c), none], [], HH x σ) r := by
  refine mm_go 5 (F' := (bif mm_cond .ge c (σ.1 1305) then 84 else 34, [some (.ref 2), some (.int t), some (.int k), some (.int f), some (.int c), none], [], HH x σ)) rfl ?_
  refine mb_ge (fun h1 => ?_) (fun h1 => ?_)
  · refine mm_go 3 (F' := (bif mm_cond .ne k (-1 : Int32) then 93 else 89, [some (.ref 2), some (.int t), some (.int k), some (.int f), some (.int c), none], [], HH x σ)) rfl ?_
    refine mb_ne (fun h2 => ?_) (fun h2 => ?_)
    · refine mm_go 1 (F' := (95, [some (.ref 2), some (.int t), some (.int k), some (.int f), some (.int c), none], [.int (-9 : Int32)], HH x σ)) rfl ?_
      exact mm_rt rfl rfl (k1 h1 h2)
    · refine mm_go 2 (F' := (95, [some (.ref 2), some (.int t), some (.int k), some (.int f), some (.int c), none], [.int f], HH x σ)) rfl ?_
      exact mm_rt rfl rfl (k2 h1 h2)
  · refine mm_go 3 (F' := (38, [some (.ref 2), some (.int t), some (.int k), some (.int f), some (.int c), none], [.int c, .int t, .ref 2], HH x σ)) rfl ?_
    refine mm_kl (z := 76) (as := [.ref 2, .int t, .int c]) (S' := []) (L2 := [some (.ref 2), some (.int t), some (.int c), none, none, none]) (v := some (.int v1)) (h1 := HH x σ1) rfl rfl rfl rfl rfl (by omega) (k3 h1) ?_
    show mm_Runs d 57 (41, [some (.ref 2), some (.int t), some (.int k), some (.int f), some (.int c), none], [.int v1], HH x σ1) r
    refine mm_go 4 (F' := (bif mm_cond .lt k f then 73 else 48, [some (.ref 2), some (.int t), some (.int k), some (.int f), some (.int c), some (.int v1)], [], HH x σ1)) rfl ?_
    refine mb_lt (fun h3 => ?_) (fun h3 => ?_)
    · refine mm_go 6 (F' := (22, [some (.ref 2), some (.int t), some (.int k), some (.int (f + v1)), some (.int (c + (1 : Int32))), some (.int v1)], [], HH x σ1)) rfl ?_
      exact mm_wk (by exact (And.intro rfl (And.intro rfl (And.intro rfl (And.intro rfl (And.intro rfl True.intro)))))) (k4 h1 h3)
    · refine mm_go 5 (F' := (bif mm_cond .ge k (f + v1) then 73 else 56, [some (.ref 2), some (.int t), some (.int k), some (.int f), some (.int c), some (.int v1)], [], HH x σ1)) rfl ?_
      refine mb_ge (fun h4 => ?_) (fun h4 => ?_)
      · refine mm_go 6 (F' := (22, [some (.ref 2), some (.int t), some (.int k), some (.int (f + v1)), some (.int (c + (1 : Int32))), some (.int v1)], [], HH x σ1)) rfl ?_
        exact mm_wk (by exact (And.intro rfl (And.intro rfl (And.intro rfl (And.intro rfl (And.intro rfl True.intro)))))) (k5 h1 h3 h4)
      · refine mm_go 5 (F' := (64, [some (.ref 2), some (.int t), some (.int k), some (.int f), some (.int c), some (.int v1)], [.int c, .ref 2, .int ((100 : Int32) * c)], HH x σ1)) rfl ?_
        refine mm_kl (z := 77) (as := [.ref 2, .int c]) (S' := [.int ((100 : Int32) * c)]) (L2 := [some (.ref 2), some (.int c)]) (v := some (.int v2)) (h1 := HH x σ2) rfl rfl rfl rfl rfl (by omega) (k6 h1 h3 h4) ?_
        show mm_Runs d 57 (67, [some (.ref 2), some (.int t), some (.int k), some (.int f), some (.int c), some (.int v1)], [.int v2, .int ((100 : Int32) * c)], HH x σ2) r
        refine mm_go 5 (F' := (72, [some (.ref 2), some (.int t), some (.int k), some (.int f), some (.int c), some (.int v1)], [.int (((((100 : Int32) * c) + v2) + k) - f)], HH x σ2)) rfl ?_
        exact mm_rt rfl rfl (k7 h1 h3 h4)
theorem vc_m_df0 {d : Nat} {x : Nat × (Nat → Int32)} {σ : mm_S} {k c m : Int32} {r : Option Value × mm_H} (k1 : mm_Runs d 139 (3, [some (.ref 37), some (.int k), some (.int c), some (.int m), some (.int (0 : Int32))], [], HH x σ) r) : mm_Runs d 139 (0, [some (.ref 37), some (.int k), some (.int c), some (.int m), none], [], HH x σ) r := by
  refine mm_go 2 (F' := (3, [some (.ref 37), some (.int k), some (.int c), some (.int m), some (.int (0 : Int32))], [], HH x σ)) rfl ?_
  exact mm_wk (by exact (And.intro rfl (And.intro rfl (And.intro rfl (And.intro rfl (And.intro rfl True.intro)))))) k1
theorem vc_m_dfh {d : Nat} {x : Nat × (Nat → Int32)} {σ : mm_S} {k c m q : Int32} {r : Option Value × mm_H} (hd : 2 ≤ d) (k1 : (σ.1 3725) ≤ q → (some (.int (1 : Int32)), HH x σ) = r) (k2 : ¬ (σ.1 3725) ≤ q → ¬ (q < 0 ∨ 6 ≤ q.toNatClampNeg)) (k3 : ¬ (σ.1 3725) ≤ q → ¬ (q < 0 ∨ 6 ≤ q.toNatClampNeg)) (k4 : ¬ (σ.1 3725) ≤ q → ¬ (((σ.2.2.1 52) q.toNatClampNeg) - m) < 0 → ¬ (f_m_reach σ k) < (((σ.2.2.1 52) q.toNatClampNeg) - m) → ¬ ((((42 : Int32) * c) + ((σ.2.2.1 51) q.toNatClampNeg)) < 0 ∨ 1764 ≤ (((42 : Int32) * c) + ((σ.2.2.1 51) q.toNatClampNeg)).toNatClampNeg)) (k5 : ¬ (σ.1 3725) ≤ q → (p_m_comes σ k c ((σ.2.2.1 51) q.toNatClampNeg) (((σ.2.2.1 52) q.toNatClampNeg) - m)) → mm_Runs d 139 (3, [some (.ref 37), some (.int k), some (.int c), some (.int m), some (.int (q + (1 : Int32)))], [], HH x σ) r) (k6 : ¬ (σ.1 3725) ≤ q → ¬ (p_m_comes σ k c ((σ.2.2.1 51) q.toNatClampNeg) (((σ.2.2.1 52) q.toNatClampNeg) - m)) → (some (.int (0 : Int32)), HH x σ) = r) : mm_Runs d 139 (3, [some (.ref 37), some (.int k), some (.int c), some (.int m), some (.int q)], [], HH x σ) r := by
  refine mm_go 4 (F' := (bif mm_cond .ge q (σ.1 3725) then 45 else 12, [some (.ref 37), some (.int k), some (.int c), some (.int m), some (.int q)], [], HH x σ)) rfl ?_
  refine mb_ge (fun h1 => ?_) (fun h1 => ?_)
  · refine mm_go 1 (F' := (46, [some (.ref 37), some (.int k), some (.int c), some (.int m), some (.int q)], [.int (1 : Int32)], HH x σ)) rfl ?_
    exact mm_rtz rfl rfl (Or.inr rfl) (k1 h1)
  · refine mm_go 6 (F' := (21, [some (.ref 37), some (.int k), some (.int c), some (.int m), some (.int q)], [.int q, .ref 51, .int c, .int k, .ref 37], HH x σ)) rfl ?_
    refine mm_gd (F' := (22, [some (.ref 37), some (.int k), some (.int c), some (.int m), some (.int q)], [.int ((σ.2.2.1 51) q.toNatClampNeg), .int c, .int k, .ref 37], HH x σ)) rfl (k2 h1) ?_
    refine mm_go 3 (F' := (28, [some (.ref 37), some (.int k), some (.int c), some (.int m), some (.int q)], [.int q, .ref 52, .int ((σ.2.2.1 51) q.toNatClampNeg), .int c, .int k, .ref 37], HH x σ)) rfl ?_
    refine mm_gd (F' := (29, [some (.ref 37), some (.int k), some (.int c), some (.int m), some (.int q)], [.int ((σ.2.2.1 52) q.toNatClampNeg), .int ((σ.2.2.1 51) q.toNatClampNeg), .int c, .int k, .ref 37], HH x σ)) rfl (k3 h1) ?_
    refine mm_go 2 (F' := (31, [some (.ref 37), some (.int k), some (.int c), some (.int m), some (.int q)], [.int (((σ.2.2.1 52) q.toNatClampNeg) - m), .int ((σ.2.2.1 51) q.toNatClampNeg), .int c, .int k, .ref 37], HH x σ)) rfl ?_
    refine mm_kl (z := 106) (as := [.ref 37, .int k, .int c, .int ((σ.2.2.1 51) q.toNatClampNeg), .int (((σ.2.2.1 52) q.toNatClampNeg) - m)]) (S' := []) (L2 := [some (.ref 37), some (.int k), some (.int c), some (.int ((σ.2.2.1 51) q.toNatClampNeg)), some (.int (((σ.2.2.1 52) q.toNatClampNeg) - m))]) (v := some (.int (mm_b (p_m_comes σ k c ((σ.2.2.1 51) q.toNatClampNeg) (((σ.2.2.1 52) q.toNatClampNeg) - m))))) (h1 := HH x σ) rfl rfl rfl rfl rfl (by omega) (r_m_comes (by omega) (k4 h1)) ?_
    show mm_Runs d 139 (34, [some (.ref 37), some (.int k), some (.int c), some (.int m), some (.int q)], [.int (mm_b (p_m_comes σ k c ((σ.2.2.1 51) q.toNatClampNeg) (((σ.2.2.1 52) q.toNatClampNeg) - m)))], HH x σ) r
    refine mm_go 1 (F' := (bif mm_cond .ne (mm_b (p_m_comes σ k c ((σ.2.2.1 51) q.toNatClampNeg) (((σ.2.2.1 52) q.toNatClampNeg) - m))) 0 then 39 else 37, [some (.ref 37), some (.int k), some (.int c), some (.int m), some (.int q)], [], HH x σ)) rfl ?_
    refine mb_bne (fun h2 => ?_) (fun h2 => ?_)
    · refine mm_go 2 (F' := (3, [some (.ref 37), some (.int k), some (.int c), some (.int m), some (.int (q + (1 : Int32)))], [], HH x σ)) rfl ?_
      exact mm_wk (by exact (And.intro rfl (And.intro rfl (And.intro rfl (And.intro rfl (And.intro rfl True.intro)))))) (k5 h1 h2)
    · refine mm_go 1 (F' := (38, [some (.ref 37), some (.int k), some (.int c), some (.int m), some (.int q)], [.int (0 : Int32)], HH x σ)) rfl ?_
      exact mm_rtz rfl rfl (Or.inl rfl) (k6 h1 h2)
theorem vc_m_fits0 {d : Nat} {x : Nat × (Nat → Int32)} {σ : mm_S} {t k : Int32} {r : Option Value × mm_H} (hd : 1 ≤ d) (k1 : (p_m_within σ t (0 : Int32) (2 : Int32)) → (-1 : Int32) ≤ k → mm_Runs d 140 (24, [some (.ref 37), some (.int t), some (.int k), some (.int (0 : Int32)), some (.int (0 : Int32)), none], [], HH x σ) r) (k2 : (p_m_within σ t (0 : Int32) (2 : Int32)) → ¬ (-1 : Int32) ≤ k → (some (.int (-1 : Int32)), HH x σ) = r) (k3 : ¬ (p_m_within σ t (0 : Int32) (2 : Int32)) → (some (.int (-2 : Int32)), HH x σ) = r) : mm_Runs d 140 (0, [some (.ref 37), some (.int t), some (.int k), none, none, none], [], HH x σ) r := by
  refine mm_go 3 (F' := (3, [some (.ref 37), some (.int t), some (.int k), none, none, none], [.int (2 : Int32), .int (0 : Int32), .int t], HH x σ)) rfl ?_
  refine mm_kl (z := 90) (as := [.int t, .int (0 : Int32), .int (2 : Int32)]) (S' := []) (L2 := [some (.int t), some (.int (0 : Int32)), some (.int (2 : Int32))]) (v := some (.int (mm_b (p_m_within σ t (0 : Int32) (2 : Int32))))) (h1 := HH x σ) rfl rfl rfl rfl rfl (by omega) (r_m_within (by omega)) ?_
  show mm_Runs d 140 (6, [some (.ref 37), some (.int t), some (.int k), none, none, none], [.int (mm_b (p_m_within σ t (0 : Int32) (2 : Int32)))], HH x σ) r
  refine mm_go 1 (F' := (bif mm_cond .ne (mm_b (p_m_within σ t (0 : Int32) (2 : Int32))) 0 then 12 else 9, [some (.ref 37), some (.int t), some (.int k), none, none, none], [], HH x σ)) rfl ?_
  refine mb_bne (fun h1 => ?_) (fun h1 => ?_)
  · refine mm_go 3 (F' := (bif mm_cond .ge k (-1 : Int32) then 19 else 17, [some (.ref 37), some (.int t), some (.int k), none, none, none], [], HH x σ)) rfl ?_
    refine mb_ge (fun h2 => ?_) (fun h2 => ?_)
    · refine mm_go 4 (F' := (24, [some (.ref 37), some (.int t), some (.int k), some (.int (0 : Int32)), some (.int (0 : Int32)), none], [], HH x σ)) rfl ?_
      exact mm_wk (by exact (And.intro rfl (And.intro rfl (And.intro rfl (And.intro rfl (And.intro rfl True.intro)))))) (k1 h1 h2)
    · refine mm_go 1 (F' := (18, [some (.ref 37), some (.int t), some (.int k), none, none, none], [.int (-1 : Int32)], HH x σ)) rfl ?_
      exact mm_rt rfl rfl (k2 h1 h2)
  · refine mm_go 1 (F' := (11, [some (.ref 37), some (.int t), some (.int k), none, none, none], [.int (-2 : Int32)], HH x σ)) rfl ?_
    exact mm_rt rfl rfl (k3 h1)
theorem vc_m_fitsc {d : Nat} {x : Nat × (Nat → Int32)} {σ : mm_S} {t k n c : Int32} {r : Option Value × mm_H} (hd : 1 ≤ d) (k1 : (f_m_all σ) ≤ c → ¬ k = (-1 : Int32) → (some (.int (-9 : Int32)), HH x σ) = r) (k2 : (f_m_all σ) ≤ c → k = (-1 : Int32) → (some (.int n), HH x σ) = r) (k3 : ¬ (f_m_all σ) ≤ c → mm_Runs d 140 (36, [some (.ref 37), some (.int t), some (.int k), some (.int n), some (.int c), some (.int (0 : Int32))], [], HH x σ) r) : mm_Runs d 140 (24, [some (.ref 37), some (.int t), some (.int k), some (.int n), some (.int c), none], [], HH x σ) r := by
  refine mm_go 2 (F' := (27, [some (.ref 37), some (.int t), some (.int k), some (.int n), some (.int c), none], [.ref 37, .int c], HH x σ)) rfl ?_
  refine mm_kl (z := 94) (as := [.ref 37]) (S' := [.int c]) (L2 := [some (.ref 37)]) (v := some (.int (f_m_all σ))) (h1 := HH x σ) rfl rfl rfl rfl rfl (by omega) (r_m_all (by omega)) ?_
  show mm_Runs d 140 (30, [some (.ref 37), some (.int t), some (.int k), some (.int n), some (.int c), none], [.int (f_m_all σ), .int c], HH x σ) r
  refine mm_go 1 (F' := (bif mm_cond .ge c (f_m_all σ) then 94 else 33, [some (.ref 37), some (.int t), some (.int k), some (.int n), some (.int c), none], [], HH x σ)) rfl ?_
  refine mb_ge (fun h1 => ?_) (fun h1 => ?_)
  · refine mm_go 3 (F' := (bif mm_cond .ne k (-1 : Int32) then 103 else 99, [some (.ref 37), some (.int t), some (.int k), some (.int n), some (.int c), none], [], HH x σ)) rfl ?_
    refine mb_ne (fun h2 => ?_) (fun h2 => ?_)
    · refine mm_go 1 (F' := (105, [some (.ref 37), some (.int t), some (.int k), some (.int n), some (.int c), none], [.int (-9 : Int32)], HH x σ)) rfl ?_
      exact mm_rt rfl rfl (k1 h1 h2)
    · refine mm_go 2 (F' := (105, [some (.ref 37), some (.int t), some (.int k), some (.int n), some (.int c), none], [.int n], HH x σ)) rfl ?_
      exact mm_rt rfl rfl (k2 h1 h2)
  · refine mm_go 2 (F' := (36, [some (.ref 37), some (.int t), some (.int k), some (.int n), some (.int c), some (.int (0 : Int32))], [], HH x σ)) rfl ?_
    exact mm_wk (by exact (And.intro rfl (And.intro rfl (And.intro rfl (And.intro rfl (And.intro rfl (And.intro rfl True.intro))))))) (k3 h1)
theorem vc_m_fitsm {d : Nat} {x : Nat × (Nat → Int32)} {σ : mm_S} {t k n c m : Int32} {v1 : Int32} {σ1 : mm_S} {r : Option Value × mm_H} (hd : 1 ≤ d) (k1 : (99 : Int32) < m → mm_Runs d 140 (24, [some (.ref 37), some (.int t), some (.int k), some (.int n), some (.int (c + (1 : Int32))), none], [], HH x σ) r) (k2 : ¬ (99 : Int32) < m → ¬ (c < 0 ∨ 42 ≤ c.toNatClampNeg)) (k3 : ¬ (99 : Int32) < m → ((σ.2.2.1 41) c.toNatClampNeg) = 0 → mm_Runs d 140 (24, [some (.ref 37), some (.int t), some (.int k), some (.int n), some (.int (c + (1 : Int32))), none], [], HH x σ) r) (k4 : ¬ (99 : Int32) < m → ¬ ((σ.2.2.1 41) c.toNatClampNeg) = 0 → mm_Runs (d - 1) 139 (0, [some (.ref 37), some (.int t), some (.int c), some (.int m), none], [], HH x σ) (some (.int v1), HH x σ1)) (k5 : ¬ (99 : Int32) < m → ¬ ((σ.2.2.1 41) c.toNatClampNeg) = 0 → v1 = 0 → mm_Runs d 140 (36, [some (.ref 37), some (.int t), some (.int k), some (.int n), some (.int c), some (.int (m + (1 : Int32)))], [], HH x σ1) r) (k6 : ¬ (99 : Int32) < m → ¬ ((σ.2.2.1 41) c.toNatClampNeg) = 0 → ¬ v1 = 0 → ¬ n = k → mm_Runs d 140 (36, [some (.ref 37), some (.int t), some (.int k), some (.int (n + (1 : Int32))), some (.int c), some (.int (m + (1 : Int32)))], [], HH x σ1) r) (k7 : ¬ (99 : Int32) < m → ¬ ((σ.2.2.1 41) c.toNatClampNeg) = 0 → ¬ v1 = 0 → n = k → (some (.int (((100 : Int32) * c) + m)), HH x σ1) = r) : mm_Runs d 140 (36, [some (.ref 37), some (.int t), some (.int k), some (.int n), some (.int c), some (.int m)], [], HH x σ) r := by
  refine mm_go 3 (F' := (bif mm_cond .gt m (99 : Int32) then 88 else 43, [some (.ref 37), some (.int t), some (.int k), some (.int n), some (.int c), some (.int m)], [], HH x σ)) rfl ?_
  refine mb_gt (fun h1 => ?_) (fun h1 => ?_)
  · refine mm_go 2 (F' := (24, [some (.ref 37), some (.int t), some (.int k), some (.int n), some (.int (c + (1 : Int32))), some (.int m)], [], HH x σ)) rfl ?_
    exact mm_wk (by exact (And.intro rfl (And.intro rfl (And.intro rfl (And.intro rfl (And.intro rfl True.intro)))))) (k1 h1)
  · refine mm_go 3 (F' := (49, [some (.ref 37), some (.int t), some (.int k), some (.int n), some (.int c), some (.int m)], [.int c, .ref 41], HH x σ)) rfl ?_
    refine mm_gd (F' := (50, [some (.ref 37), some (.int t), some (.int k), some (.int n), some (.int c), some (.int m)], [.int ((σ.2.2.1 41) c.toNatClampNeg)], HH x σ)) rfl (k2 h1) ?_
    refine mm_go 1 (F' := (bif mm_cond .eq ((σ.2.2.1 41) c.toNatClampNeg) 0 then 88 else 53, [some (.ref 37), some (.int t), some (.int k), some (.int n), some (.int c), some (.int m)], [], HH x σ)) rfl ?_
    refine mb_eq (fun h2 => ?_) (fun h2 => ?_)
    · refine mm_go 2 (F' := (24, [some (.ref 37), some (.int t), some (.int k), some (.int n), some (.int (c + (1 : Int32))), some (.int m)], [], HH x σ)) rfl ?_
      exact mm_wk (by exact (And.intro rfl (And.intro rfl (And.intro rfl (And.intro rfl (And.intro rfl True.intro)))))) (k3 h1 h2)
    · refine mm_go 4 (F' := (59, [some (.ref 37), some (.int t), some (.int k), some (.int n), some (.int c), some (.int m)], [.int m, .int c, .int t, .ref 37], HH x σ)) rfl ?_
      refine mm_kl (z := 139) (as := [.ref 37, .int t, .int c, .int m]) (S' := []) (L2 := [some (.ref 37), some (.int t), some (.int c), some (.int m), none]) (v := some (.int v1)) (h1 := HH x σ1) rfl rfl rfl rfl rfl (by omega) (k4 h1 h2) ?_
      show mm_Runs d 140 (62, [some (.ref 37), some (.int t), some (.int k), some (.int n), some (.int c), some (.int m)], [.int v1], HH x σ1) r
      refine mm_go 1 (F' := (bif mm_cond .eq v1 0 then 82 else 65, [some (.ref 37), some (.int t), some (.int k), some (.int n), some (.int c), some (.int m)], [], HH x σ1)) rfl ?_
      refine mb_eq (fun h3 => ?_) (fun h3 => ?_)
      · refine mm_go 2 (F' := (36, [some (.ref 37), some (.int t), some (.int k), some (.int n), some (.int c), some (.int (m + (1 : Int32)))], [], HH x σ1)) rfl ?_
        exact mm_wk (by exact (And.intro rfl (And.intro rfl (And.intro rfl (And.intro rfl (And.intro rfl (And.intro rfl True.intro))))))) (k5 h1 h2 h3)
      · refine mm_go 3 (F' := (bif mm_cond .ne n k then 79 else 70, [some (.ref 37), some (.int t), some (.int k), some (.int n), some (.int c), some (.int m)], [], HH x σ1)) rfl ?_
        refine mb_ne (fun h4 => ?_) (fun h4 => ?_)
        · refine mm_go 3 (F' := (36, [some (.ref 37), some (.int t), some (.int k), some (.int (n + (1 : Int32))), some (.int c), some (.int (m + (1 : Int32)))], [], HH x σ1)) rfl ?_
          exact mm_wk (by exact (And.intro rfl (And.intro rfl (And.intro rfl (And.intro rfl (And.intro rfl (And.intro rfl True.intro))))))) (k6 h1 h2 h3 h4)
        · refine mm_go 5 (F' := (78, [some (.ref 37), some (.int t), some (.int k), some (.int n), some (.int c), some (.int m)], [.int (((100 : Int32) * c) + m)], HH x σ1)) rfl ?_
          exact mm_rt rfl rfl (k7 h1 h2 h3 h4)
theorem i_sub {a b : Int32} (ha : -(2 ^ 29) ≤ a.toInt ∧ a.toInt < 2 ^ 29) (hb : -(2 ^ 29) ≤ b.toInt ∧ b.toInt < 2 ^ 29) : (a - b).toInt = a.toInt - b.toInt := by
  rw [Int32.toInt_sub]
  exact Int.bmod_eq_of_le (by omega) (by omega)
theorem i_add {a b : Int32} (ha : -(2 ^ 29) ≤ a.toInt ∧ a.toInt < 2 ^ 29) (hb : -(2 ^ 29) ≤ b.toInt ∧ b.toInt < 2 ^ 29) : (a + b).toInt = a.toInt + b.toInt := by
  rw [Int32.toInt_add]
  exact Int.bmod_eq_of_le (by omega) (by omega)
theorem m9_toInt : (-9 : Int32).toInt = -9 := rfl
/-- the reeds, in the class and in the model -/
def r_rc (P : pd_T) (nr : Nat) (rc rm : Nat → Nat) (σ : mm_S) : Prop := nr ≤ 6 ∧ σ.1 2403 = nI nr ∧ ∀ i, i < nr → σ.2.2.1 26 i = nI (rc i) ∧ P.2.2 (rc i) = true ∧ σ.2.2.1 27 i = nI (rm i) ∧ rm i ≤ 99
def r_rm (P : pd_T) (nr : Nat) (rc rm : Nat → Nat) (σ : mm_S) : Prop := nr ≤ 6 ∧ σ.1 3725 = nI nr ∧ ∀ i, i < nr → σ.2.2.1 51 i = nI (rc i) ∧ P.2.2 (rc i) = true ∧ σ.2.2.1 52 i = nI (rm i) ∧ rm i ≤ 99
theorem re_cm {P : pd_T} {nr : Nat} {σ : mm_S} (hw : pd_wf P) (hn : pd_n P ≤ 42) (h : r_re P nr σ) : ∃ rc rm, r_rc P nr rc rm σ ∧ r_rm P nr rc rm σ := by
  obtain ⟨h1, h2, h3, h4⟩ := h
  refine ⟨fun i => (σ.2.2.1 26 i).toNatClampNeg, fun i => (σ.2.2.1 27 i).toNatClampNeg, ⟨h1, h2, fun i hi => ?_⟩, ⟨h1, h3, fun i hi => ?_⟩⟩
  · obtain ⟨⟨e1, e2⟩, ⟨c, e3, hc⟩, m, hm, e4⟩ := h4 i hi
    have := hw c hc
    show σ.2.2.1 26 i = nI (σ.2.2.1 26 i).toNatClampNeg ∧ P.2.2 (σ.2.2.1 26 i).toNatClampNeg = true ∧ σ.2.2.1 27 i = nI (σ.2.2.1 27 i).toNatClampNeg ∧ (σ.2.2.1 27 i).toNatClampNeg ≤ 99
    rw [e3, e4, nI_clamp (by omega), nI_clamp (by omega)]
    exact ⟨rfl, hc, rfl, hm⟩
  · obtain ⟨⟨e1, e2⟩, ⟨c, e3, hc⟩, m, hm, e4⟩ := h4 i hi
    have := hw c hc
    show σ.2.2.1 51 i = nI (σ.2.2.1 26 i).toNatClampNeg ∧ P.2.2 (σ.2.2.1 26 i).toNatClampNeg = true ∧ σ.2.2.1 52 i = nI (σ.2.2.1 27 i).toNatClampNeg ∧ (σ.2.2.1 27 i).toNatClampNeg ≤ 99
    rw [← e1, ← e2, e3, e4, nI_clamp (by omega), nI_clamp (by omega)]
    exact ⟨rfl, hc, rfl, hm⟩
theorem rc_LZ {P : pd_T} {nr : Nat} {rc rm : Nat → Nat} {σ σ' : mm_S} (h : r_rc P nr rc rm σ) (g : LZ P σ σ') : r_rc P nr rc rm σ' := by
  obtain ⟨⟨y, D, R, rfl⟩, -, -⟩ := g
  exact h
theorem rm_LZ {P : pd_T} {nr : Nat} {rc rm : Nat → Nat} {σ σ' : mm_S} (h : r_rm P nr rc rm σ) (g : LZ P σ σ') : r_rm P nr rc rm σ' := by
  obtain ⟨⟨y, D, R, rfl⟩, -, -⟩ := g
  exact h
def ft_is (P : pd_T) (k : Int32) (nr : Nat) (rc rm : Nat → Nat) (c m : Nat) : Prop := ∀ q, q < nr → ∃ t, rm q = m + t ∧ pd_th P k c t (rc q) = true
def ffv (P : pd_T) (nr : Nat) (rc rm : Nat → Nat) (c : Nat) : Int32 := if nr = 0 then 0 else nI (rm 0) - pd_way P c (rc 0)
def ft_S (P : pd_T) (k : Int32) (nr : Nat) (rc rm : Nat → Nat) (c mo ff : Nat) : Prop := (∀ m, m ≤ 99 → ((P.2.2 c = true ∧ ft_is P k nr rc rm c m) ↔ (ff ≤ m ∧ m < ff + mo))) ∧ ff + mo ≤ 100 ∧ (0 < mo → ffv P nr rc rm c = nI ff)
theorem ft_uni {P : pd_T} {k : Int32} {nr : Nat} {rc rm : Nat → Nat} {c mo ff mo' ff' : Nat} (h : ft_S P k nr rc rm c mo ff) (g : ft_S P k nr rc rm c mo' ff') : mo = mo' := by
  obtain ⟨h1, h2, -⟩ := h
  obtain ⟨g1, g2, -⟩ := g
  have key : ∀ m, m ≤ 99 → ((ff ≤ m ∧ m < ff + mo) ↔ (ff' ≤ m ∧ m < ff' + mo')) := fun m hm => (h1 m hm).symm.trans (g1 m hm)
  rcases Nat.eq_zero_or_pos mo with q | q
  · rcases Nat.eq_zero_or_pos mo' with q2 | q2
    · omega
    · have := (key ff' (by omega)).mpr (by omega); omega
  · rcases Nat.eq_zero_or_pos mo' with q2 | q2
    · have := (key ff (by omega)).mp (by omega); omega
    · have a1 := (key ff (by omega)).mp (by omega)
      have a2 := (key ff' (by omega)).mpr (by omega)
      have a3 := (key (ff + mo - 1) (by omega)).mp (by omega)
      have a4 := (key (ff' + mo' - 1) (by omega)).mpr (by omega)
      omega
section FT
variable {d : Nat} {x : Nat × (Nat → Int32)} {P : pd_T} {nr : Nat} {rc rm : Nat → Nat} {σ : mm_S}
theorem c_firstFit {c : Nat} (hd : 3 ≤ d) (h : LK P σ) (hre : r_rc P nr rc rm σ) (hc : c < pd_n P) : ∃ σ', mm_Runs d 77 (0, [some (.ref 2), some (.int (nI c))], [], HH x σ) (some (.int (ffv P nr rc rm c)), HH x σ') ∧ LZ P σ σ' := by
  unfold ffv
  by_cases hz : nr = 0
  · rw [if_pos hz]
    have e : σ.1 2403 = 0 := by rw [hre.2.1, hz]; rfl
    exact ⟨σ, vc_firstFit (v1 := 0) (σ1 := σ) (by omega) (fun z => absurd e z) (fun z => absurd e z) (fun z => absurd e z) (fun z => absurd e z) (fun _ => rfl), LZ_refl h.2.2⟩
  · rw [if_neg hz]
    have hn6 := hre.1
    have e : ¬ σ.1 2403 = 0 := by rw [hre.2.1]; exact nI_ne0 (by omega) (by omega)
    obtain ⟨r1, r2, r3, r4⟩ := hre.2.2 0 (by omega)
    obtain ⟨σ', s1, s2⟩ := c_steps (d := d - 1) (x := x) (by omega) h hc (pc_wf h.1 _ r2)
    refine ⟨σ', vc_firstFit (v1 := pd_way P c (rc 0)) (σ1 := σ') (by omega) (fun _ => by decide) (fun _ => by decide) (fun _ => ?_) (fun _ => ?_) (fun z => absurd z e), s2⟩
    · show mm_Runs (d - 1) 10 (0, [some (.ref 13), some (.int (nI c)), some (.int (σ.2.2.1 26 0)), none, none], [], HH x σ) _
      rw [r1]; exact s1
    · show (some (Value.int (σ.2.2.1 27 0 - pd_way P c (rc 0))), HH x σ') = _
      rw [r3]
/-- the reeds one by one -/
def ft_ok (P : pd_T) (k : Int32) (rc rm : Nat → Nat) (c : Nat) (Z : Int) (q : Nat) : Prop := ∃ t : Nat, t ≤ pd_rc k ∧ pd_lay P c t (rc q) = true ∧ (t : Int) = (rm q : Int) - Z
theorem c_fic_h {c : Nat} {k m0 : Int32} {Z : Int} (hd : 3 ≤ d) (hk : kd k) (hc : c < pd_n P) (hZ : m0.toInt = Z) (hZ1 : -50 ≤ Z) (hZ2 : Z ≤ 120) : ∀ (j q : Nat), q + j = nr → ∀ (σ : mm_S), LK P σ → r_rc P nr rc rm σ → (∀ p, p < q → ft_ok P k rc rm c Z p) →
    ∃ (v : Nat) (σ' : mm_S), mm_Runs d 76 (35, [some (.ref 2), some (.int k), some (.int (nI c)), some (.int m0), some (.int (nI q)), none], [], HH x σ) (some (.int (nI v)), HH x σ') ∧ LZ P σ σ' ∧ ((v = 1 ∧ 0 ≤ Z ∧ ∀ p, p < nr → ft_ok P k rc rm c Z p) ∨ (v = 0 ∧ (Z < 0 ∨ ∃ p, p < nr ∧ ¬ ft_ok P k rc rm c Z p)))
  | 0, q, h, σ, hl, hre, hq => by
    have e : q = nr := by omega
    subst e
    have hn6 := hre.1
    have hle : σ.1 2403 ≤ nI q := by rw [hre.2.1]; exact nI_le (Nat.le_refl _) (by omega)
    have z0 : (0 : Int32).toInt = 0 := rfl
    by_cases hm : m0 < 0
    · refine ⟨0, σ, ?_, LZ_refl hl.2.2, Or.inr ⟨rfl, Or.inl ?_⟩⟩
      · exact vc_fich (v1 := 0) (σ1 := σ) (by omega) (fun _ _ => rfl) (fun _ z => absurd hm z) (fun z => absurd hle z) (fun z => absurd hle z) (fun z => absurd hle z) (fun z => absurd hle z) (fun z => absurd hle z) (fun z => absurd hle z) (fun z => absurd hle z) (fun z => absurd hle z)
      · rw [Int32.lt_iff_toInt_lt, hZ] at hm; omega
    · refine ⟨1, σ, ?_, LZ_refl hl.2.2, Or.inl ⟨rfl, ?_, hq⟩⟩
      · exact vc_fich (v1 := 0) (σ1 := σ) (by omega) (fun _ z => absurd z hm) (fun _ _ => rfl) (fun z => absurd hle z) (fun z => absurd hle z) (fun z => absurd hle z) (fun z => absurd hle z) (fun z => absurd hle z) (fun z => absurd hle z) (fun z => absurd hle z) (fun z => absurd hle z)
      · rw [Int32.lt_iff_toInt_lt, hZ] at hm; omega
  | j + 1, q, h, σ, hl, hre, hq => by
    have hn6 := hre.1
    have hn := pc_n42 hl.1
    have hwf := pc_wf hl.1
    have hrc := rc_99 k
    have hlt : ¬ σ.1 2403 ≤ nI q := by rw [hre.2.1]; exact nI_ge (by omega) (by omega)
    obtain ⟨r1, r2, r3, r4⟩ := hre.2.2 q (by omega)
    obtain ⟨σ', s1, s2⟩ := c_steps (d := d - 1) (x := x) (by omega) hl hc (hwf _ r2)
    have qc : (nI q).toNatClampNeg = q := nI_clamp (by omega)
    have g6 : ¬ (nI q < 0 ∨ 6 ≤ (nI q).toNatClampNeg) := nI_in (by omega) (by omega)
    have s1' : mm_Runs (d - 1) 10 (0, [some (.ref 13), some (.int (nI c)), some (.int (σ.2.2.1 26 (nI q).toNatClampNeg)), none, none], [], HH x σ) (some (.int (pd_way P c (rc q))), HH x σ') := by rw [qc, r1]; exact s1
    have hre' := rc_LZ hre s2
    obtain ⟨-, -, r3', -⟩ := hre'.2.2 q (by omega)
    rcases wy_2 hwf hn c (rc q) with ⟨w, wl⟩ | ⟨t, ht, w, wl⟩
    · refine ⟨0, σ', ?_, s2, Or.inr ⟨rfl, Or.inr ⟨q, by omega, ?_⟩⟩⟩
      · exact vc_fich (v1 := pd_way P c (rc q)) (σ1 := σ') (by omega) (fun z => absurd z hlt) (fun z => absurd z hlt) (fun _ => g6) (fun _ => s1') (fun _ _ => rfl) (fun _ z => absurd w z) (fun _ z => absurd w z) (fun _ z => absurd w z) (fun _ z => absurd w z) (fun _ z => absurd w z)
      · rintro ⟨t, -, t2, -⟩
        rw [wl t] at t2; cases t2
    · have wn : ¬ pd_way P c (rc q) = -9 := fun z => by
        have h5 := congrArg Int32.toInt (w.symm.trans z)
        rw [nI_toInt (by omega), m9_toInt] at h5
        omega
      by_cases hr : t ≤ pd_rc k
      · have hr2 : ¬ mm_reach k.toNatClampNeg < pd_way P c (rc q) := by rw [rch_eq hk, w]; exact nI_nlt hr (by omega)
        have eq : pd_way P c (rc q) = σ'.2.2.1 27 (nI q).toNatClampNeg - m0 ↔ (t : Int) = (rm q : Int) - Z := by
          rw [qc, r3', w]
          have e1 : (nI (rm q) - m0).toInt = (rm q : Int) - Z := by
            rw [i_sub, hZ, nI_toInt (by omega)]
            · rw [nI_toInt (by omega)]; omega
            · rw [hZ]; omega
          constructor
          · intro z
            have h5 := congrArg Int32.toInt z
            rw [e1, nI_toInt (by omega)] at h5
            exact h5
          · intro z
            apply Int32.toInt_inj.mp
            rw [e1, nI_toInt (by omega)]
            exact z
        by_cases he : (t : Int) = (rm q : Int) - Z
        · obtain ⟨v, σ'', v1, v2, v3⟩ := c_fic_h (c := c) (k := k) (m0 := m0) hd hk hc hZ hZ1 hZ2 j (q + 1) (by omega) σ' (LK_of hl s2) hre' (fun p hp => by
            rcases Nat.lt_or_ge p q with y | y
            · exact hq p y
            · have e : p = q := by omega
              subst e; exact ⟨t, hr, wl, he⟩)
          refine ⟨v, σ'', ?_, LZ_trans s2 v2, v3⟩
          refine vc_fich (v1 := pd_way P c (rc q)) (σ1 := σ') (by omega) (fun z => absurd z hlt) (fun z => absurd z hlt) (fun _ => g6) (fun _ => s1') (fun _ z => absurd z wn) (fun _ _ => kd_g hk) (fun _ _ z => absurd z hr2) (fun _ _ _ => g6) (fun _ _ _ _ => ?_) (fun _ _ _ z => absurd (eq.mpr he) z)
          rw [show nI q + (1 : Int32) = nI (q + 1) from nI_1 q]
          exact v1
        · refine ⟨0, σ', ?_, s2, Or.inr ⟨rfl, Or.inr ⟨q, by omega, ?_⟩⟩⟩
          · exact vc_fich (v1 := pd_way P c (rc q)) (σ1 := σ') (by omega) (fun z => absurd z hlt) (fun z => absurd z hlt) (fun _ => g6) (fun _ => s1') (fun _ z => absurd z wn) (fun _ _ => kd_g hk) (fun _ _ z => absurd z hr2) (fun _ _ _ => g6) (fun _ _ _ z => absurd (eq.mp z) he) (fun _ _ _ _ => rfl)
          · rintro ⟨t', -, t2, t3⟩
            rw [bf_uni wl t2] at t3; exact he t3
      · have hr2 : mm_reach k.toNatClampNeg < pd_way P c (rc q) := by rw [rch_eq hk, w]; exact nI_lt (by omega) (by omega)
        refine ⟨0, σ', ?_, s2, Or.inr ⟨rfl, Or.inr ⟨q, by omega, ?_⟩⟩⟩
        · exact vc_fich (v1 := pd_way P c (rc q)) (σ1 := σ') (by omega) (fun z => absurd z hlt) (fun z => absurd z hlt) (fun _ => g6) (fun _ => s1') (fun _ z => absurd z wn) (fun _ _ => kd_g hk) (fun _ _ _ => rfl) (fun _ _ z => absurd hr2 z) (fun _ _ z => absurd hr2 z) (fun _ _ z => absurd hr2 z)
        · rintro ⟨t', t1, t2, -⟩
          rw [bf_uni wl t2] at t1; exact hr t1
theorem c_fic {c : Nat} {k : Int32} (hd : 4 ≤ d) (hk : kd k) (h : LK P σ) (hre : r_rc P nr rc rm σ) (hc : c < pd_n P) : ∃ (mo ff : Nat) (σ' : mm_S), mm_Runs d 76 (0, [some (.ref 2), some (.int k), some (.int (nI c)), none, none, none], [], HH x σ) (some (.int (nI mo)), HH x σ') ∧ LZ P σ σ' ∧ ft_S P k nr rc rm c mo ff := by
  have hn := pc_n42 h.1
  have hwf := pc_wf h.1
  have hn6 := hre.1
  by_cases hw : P.2.2 c = true
  · by_cases hz : nr = 0
    · have e : σ.1 2403 = 0 := by rw [hre.2.1, hz]; rfl
      refine ⟨100, 0, σ, vc_fic0 (v1 := 0) (σ1 := σ) (by omega) (fun _ z => absurd e z) (fun _ z => absurd e z) (fun _ _ => rfl) (fun z => absurd (isWater_of h.1 hw) z), LZ_refl h.2.2, fun m hm => ?_, by omega, fun _ => ?_⟩
      · exact ⟨fun _ => by omega, fun _ => ⟨hw, fun q hq => absurd hq (by omega)⟩⟩
      · unfold ffv; rw [if_pos hz]; rfl
    · have e : ¬ σ.1 2403 = 0 := by rw [hre.2.1]; exact nI_ne0 (by omega) (by omega)
      obtain ⟨r1, r2, r3, r4⟩ := hre.2.2 0 (by omega)
      obtain ⟨σ1, f1, f2⟩ := c_firstFit (d := d - 1) (x := x) (by omega) h hre hc
      have hv : ffv P nr rc rm c = nI (rm 0) - pd_way P c (rc 0) := by unfold ffv; rw [if_neg hz]
      have hZ : ∃ Z : Int, (ffv P nr rc rm c).toInt = Z ∧ -50 ≤ Z ∧ Z ≤ 120 ∧ ∀ t, pd_lay P c t (rc 0) = true → Z = (rm 0 : Int) - t := by
        rw [hv]
        rcases wy_2 hwf hn c (rc 0) with ⟨w, wl⟩ | ⟨t, ht, w, wl⟩
        · refine ⟨(rm 0 : Int) + 9, ?_, by omega, by omega, fun t ht => by rw [wl t] at ht; cases ht⟩
          rw [w, i_sub, nI_toInt (by omega), m9_toInt]
          · omega
          · rw [nI_toInt (by omega)]; omega
          · rw [m9_toInt]; omega
        · refine ⟨(rm 0 : Int) - t, ?_, by omega, by omega, fun u hu => by rw [bf_uni wl hu]⟩
          rw [w, i_sub, nI_toInt (by omega), nI_toInt (by omega)]
          · rw [nI_toInt (by omega)]; omega
          · rw [nI_toInt (by omega)]; omega
      obtain ⟨Z, hZ, hZ1, hZ2, hZ3⟩ := hZ
      obtain ⟨v, σ2, v1, v2, v3⟩ := c_fic_h (d := d) (x := x) (c := c) (k := k) (m0 := ffv P nr rc rm c) (by omega) hk hc hZ hZ1 hZ2 nr 0 (by omega) σ1 (LK_of h f2) (rc_LZ hre f2) (fun p hp => absurd hp (by omega))
      have run := vc_fic0 (d := d) (x := x) (σ := σ) (k := k) (c := nI c) (v1 := ffv P nr rc rm c) (σ1 := σ1) (r := (some (.int (nI v)), HH x σ2)) (by omega) (fun _ _ => f1) (fun _ _ => v1) (fun _ z => absurd z e) (fun z => absurd (isWater_of h.1 hw) z)
      -- a minute that fits is Z, and then all is well
      have fit1 : ∀ m, ft_is P k nr rc rm c m → (m : Int) = Z ∧ ∀ p, p < nr → ft_ok P k rc rm c Z p := by
        intro m hm
        obtain ⟨t, t1, t2⟩ := hm 0 (by omega)
        unfold pd_th at t2
        rw [Bool.and_eq_true] at t2
        have t3 := hZ3 t t2.1
        have em : (m : Int) = Z := by omega
        refine ⟨em, fun p hp => ?_⟩
        obtain ⟨u, u1, u2⟩ := hm p hp
        unfold pd_th at u2
        rw [Bool.and_eq_true, decide_eq_true_eq] at u2
        exact ⟨u, u2.2, u2.1, by omega⟩
      rcases v3 with ⟨rfl, vz, vo⟩ | ⟨rfl, vn⟩
      · obtain ⟨ff, rfl⟩ : ∃ ff : Nat, Z = (ff : Int) := ⟨Z.toNat, by omega⟩
        have hff : ff ≤ 99 := by
          obtain ⟨t, -, -, t3⟩ := vo 0 (by omega)
          omega
        refine ⟨1, ff, σ2, run, LZ_trans f2 v2, fun m hm => ?_, by omega, fun _ => ?_⟩
        · constructor
          · rintro ⟨-, z⟩
            have := (fit1 m z).1
            omega
          · intro z
            refine ⟨hw, fun q hq => ?_⟩
            obtain ⟨t, t1, t2, t3⟩ := vo q hq
            refine ⟨t, by omega, ?_⟩
            unfold pd_th
            rw [t2, decide_eq_true t1]; rfl
        · apply Int32.toInt_inj.mp
          rw [hZ, nI_toInt (by omega)]
      · refine ⟨0, 0, σ2, run, LZ_trans f2 v2, fun m hm => ?_, by omega, fun z => absurd z (by omega)⟩
        constructor
        · rintro ⟨-, z⟩
          obtain ⟨z1, z2⟩ := fit1 m z
          rcases vn with vn | ⟨p, p1, p2⟩
          · omega
          · exact absurd (z2 p p1) p2
        · intro z; omega
  · have hw2 : ¬ p_isWater σ (nI c) := fun z => hw ((isWater_iff h.1 hc).mp z)
    refine ⟨0, 0, σ, vc_fic0 (v1 := 0) (σ1 := σ) (by omega) (fun z => absurd z hw2) (fun z => absurd z hw2) (fun z => absurd z hw2) (fun _ => rfl), LZ_refl h.2.2, fun m hm => ?_, by omega, fun z => absurd z (by omega)⟩
    exact ⟨fun z => absurd z.1 hw, fun z => by omega⟩
/-- all cells -/
def ft_go (mo ff : Nat → Nat) (k : Int32) : Nat → Nat → Nat → Int32
  | 0, _, f => if k = -1 then nI f else -9
  | j + 1, c, f => if ¬ k < nI f ∧ k < nI (f + mo c) then nI (100 * c + ff c) + k - nI f else ft_go mo ff k j (c + 1) (f + mo c)
theorem c_fits_h {k t : Int32} {mo ff : Nat → Nat} (hd : 5 ≤ d) (hk : kd t) (hS : ∀ c, c < pd_n P → ft_S P t nr rc rm c (mo c) (ff c)) : ∀ (j c : Nat), c + j = pd_n P → ∀ f, f ≤ 100 * c → ∀ (σ : mm_S), LK P σ → r_rc P nr rc rm σ →
    ∃ σ', mm_Runs d 57 (22, [some (.ref 2), some (.int t), some (.int k), some (.int (nI f)), some (.int (nI c)), none], [], HH x σ) (some (.int (ft_go mo ff k j c f)), HH x σ') ∧ LZ P σ σ'
  | 0, c, h, f, hf, σ, hl, hre => by
    have hn := pc_n42 hl.1
    have e : c = pd_n P := by omega
    subst e
    have hle : σ.1 1305 ≤ nI (pd_n P) := by rw [hl.1.2.2.1]; exact nI_le (Nat.le_refl _) (by omega)
    refine ⟨σ, ?_, LZ_refl hl.2.2⟩
    unfold ft_go
    exact vc_fitsh (v1 := 0) (v2 := 0) (σ1 := σ) (σ2 := σ) (by omega) (fun _ z => by rw [if_neg z]) (fun _ z => by rw [if_pos z]) (fun z => absurd hle z) (fun z => absurd hle z) (fun z => absurd hle z) (fun z => absurd hle z) (fun z => absurd hle z)
  | j + 1, c, h, f, hf, σ, hl, hre => by
    have hn := pc_n42 hl.1
    have hlt : ¬ σ.1 1305 ≤ nI c := by rw [hl.1.2.2.1]; exact nI_ge (by omega) (by omega)
    obtain ⟨mo', ff', σ1, s1, s2, s3⟩ := c_fic (d := d - 1) (x := x) (c := c) (by omega) hk hl hre (by omega)
    have hSc := hS c (by omega)
    have em := ft_uni s3 hSc
    subst em
    have hmo := hSc.2.1
    obtain ⟨σ3, i1, i2⟩ := c_fits_h (k := k) hd hk hS j (c + 1) (by omega) (f + mo c) (by omega) σ1 (LK_of hl s2) (rc_LZ hre s2)
    obtain ⟨σ2, f1, f2⟩ := c_firstFit (d := d - 1) (x := x) (c := c) (by omega) (LK_of hl s2) (rc_LZ hre s2) (by omega)
    have e1 : nI f + nI (mo c) = nI (f + mo c) := nI_add _ _
    have e2 : nI c + (1 : Int32) = nI (c + 1) := nI_1 c
    unfold ft_go
    by_cases q1 : k < nI f
    · rw [if_neg (fun z => z.1 q1)]
      exact ⟨σ3, vc_fitsh (v1 := nI (mo c)) (v2 := 0) (σ1 := σ1) (σ2 := σ) (by omega) (fun z => absurd z hlt) (fun z => absurd z hlt) (fun _ => s1) (fun _ _ => by rw [e1, e2]; exact i1) (fun _ z => absurd q1 z) (fun _ z => absurd q1 z) (fun _ z => absurd q1 z), LZ_trans s2 i2⟩
    · by_cases q2 : k < nI (f + mo c)
      · rw [if_pos ⟨q1, q2⟩]
        have hm0 : 0 < mo c := by
          rcases Nat.eq_zero_or_pos (mo c) with z | z
          · rw [z, Nat.add_zero] at q2; exact absurd q2 q1
          · exact z
        have q3 : ¬ nI (f + mo c) ≤ k := fun z => Int32.not_lt.mpr z q2
        refine ⟨σ2, vc_fitsh (v1 := nI (mo c)) (v2 := ffv P nr rc rm c) (σ1 := σ1) (σ2 := σ2) (by omega) (fun z => absurd z hlt) (fun z => absurd z hlt) (fun _ => s1) (fun _ z => absurd z q1) (fun _ _ z => absurd (e1 ▸ z) q3) (fun _ _ _ => f1) (fun _ _ _ => ?_), LZ_trans s2 f2⟩
        rw [hSc.2.2 hm0, show (100 : Int32) * nI c = nI (100 * c) from pk_mul 100 c, nI_add]
      · rw [if_neg (fun z => q2 z.2)]
        have q3 : nI (f + mo c) ≤ k := Int32.not_lt.mp q2
        exact ⟨σ3, vc_fitsh (v1 := nI (mo c)) (v2 := 0) (σ1 := σ1) (σ2 := σ) (by omega) (fun z => absurd z hlt) (fun z => absurd z hlt) (fun _ => s1) (fun _ z => absurd z q1) (fun _ _ _ => by rw [e1, e2]; exact i1) (fun _ _ z => absurd (e1 ▸ q3) z) (fun _ _ z => absurd (e1 ▸ q3) z), LZ_trans s2 i2⟩
/-- the model: does a minute fit -/
theorem m_df_h {c m : Nat} {k : Int32} (hd : 2 ≤ d) (hk : kd k) (hp : r_pm P σ) (hwy : r_way P σ) (hre : r_rm P nr rc rm σ) (hc : c < pd_n P) (hm : m ≤ 99) : ∀ (j q : Nat), q + j = nr → (∀ p, p < q → ∃ t, rm p = m + t ∧ pd_th P k c t (rc p) = true) →
    ∃ v : Int32, mm_Runs d 139 (3, [some (.ref 37), some (.int k), some (.int (nI c)), some (.int (nI m)), some (.int (nI q))], [], HH x σ) (some (.int v), HH x σ) ∧ ((v = 1 ∧ ft_is P k nr rc rm c m) ∨ (v = 0 ∧ ¬ ft_is P k nr rc rm c m))
  | 0, q, h, hq => by
    have e : q = nr := by omega
    subst e
    have hn6 := hre.1
    have hle : σ.1 3725 ≤ nI q := by rw [hre.2.1]; exact nI_le (Nat.le_refl _) (by omega)
    exact ⟨1, vc_m_dfh hd (fun _ => rfl) (fun z => absurd hle z) (fun z => absurd hle z) (fun z => absurd hle z) (fun z => absurd hle z) (fun z => absurd hle z), Or.inl ⟨rfl, hq⟩⟩
  | j + 1, q, h, hq => by
    have hn6 := hre.1
    have hlt : ¬ σ.1 3725 ≤ nI q := by rw [hre.2.1]; exact nI_ge (by omega) (by omega)
    obtain ⟨r1, r2, r3, r4⟩ := hre.2.2 q (by omega)
    have qc : (nI q).toNatClampNeg = q := nI_clamp (by omega)
    have g6 : ¬ (nI q < 0 ∨ 6 ≤ (nI q).toNatClampNeg) := nI_in (by omega) (by omega)
    have hwf := pm_wf hp
    have gw := way_g hp hc (hwf _ r2)
    have ci := comes_iff hp hwy hk hc (hwf _ r2) (nI (rm q) - nI m)
    have key : (∃ t, nI (rm q) - nI m = nI t ∧ t < 42 ∧ pd_th P k c t (rc q) = true) ↔ ∃ t, rm q = m + t ∧ pd_th P k c t (rc q) = true := by
      constructor
      · rintro ⟨t, t1, t2, t3⟩
        refine ⟨t, ?_, t3⟩
        have h5 := congrArg Int32.toInt t1
        rw [pk_sub_toInt (by omega) (by omega), nI_toInt (by omega)] at h5
        omega
      · rintro ⟨t, t1, t3⟩
        refine ⟨t, ?_, ?_, t3⟩
        · rw [pk_sub (by omega)]; congr 1; omega
        · unfold pd_th at t3
          rw [Bool.and_eq_true] at t3
          have := lay_lt hwf t3.1
          have := pm_n42 hp
          omega
    rw [key] at ci
    by_cases z : p_m_comes σ k (nI c) (nI (rc q)) (nI (rm q) - nI m)
    · obtain ⟨v, v1, v2⟩ := m_df_h (c := c) (m := m) (k := k) hd hk hp hwy hre hc hm j (q + 1) (by omega) (fun p hp => by
        rcases Nat.lt_or_ge p q with y | y
        · exact hq p y
        · have e : p = q := by omega
          subst e; exact ci.mp z)
      refine ⟨v, vc_m_dfh hd (fun y => absurd y hlt) (fun _ => g6) (fun _ => g6) (fun _ _ _ => by rw [qc, r1]; exact gw) (fun _ _ => ?_) (fun _ y => absurd (by rw [qc, r1, r3]; exact z) y), v2⟩
      rw [show nI q + (1 : Int32) = nI (q + 1) from nI_1 q]
      exact v1
    · refine ⟨0, vc_m_dfh hd (fun y => absurd y hlt) (fun _ => g6) (fun _ => g6) (fun _ _ _ => by rw [qc, r1]; exact gw) (fun _ y => absurd (by rw [qc, r1, r3] at y; exact y) z) (fun _ _ => rfl), Or.inr ⟨rfl, fun y => z (ci.mpr (y q (by omega)))⟩⟩
theorem m_fits_m {k t : Int32} {c mo ff f : Nat} {r : Option Value × mm_H} (hd : 3 ≤ d) (hk : kd t) (hp : r_pm P σ) (hwy : r_way P σ) (hre : r_rm P nr rc rm σ) (hc : c < pd_n P) (hf : f ≤ 5000) (hS : ft_S P t nr rc rm c mo ff) (hw : P.2.2 c = true)
    (kr : ¬ k < nI f → k < nI (f + mo) → (some (.int (nI (100 * c + ff) + k - nI f)), HH x σ) = r)
    (kn : ¬ (¬ k < nI f ∧ k < nI (f + mo)) → mm_Runs d 140 (24, [some (.ref 37), some (.int t), some (.int k), some (.int (nI (f + mo))), some (.int (nI (c + 1))), none], [], HH x σ) r) : ∀ (j m : Nat), m + j = 100 → ∀ p, p = min m (ff + mo) - ff → (∀ i, i < p → ¬ k = nI (f + i)) →
    mm_Runs d 140 (36, [some (.ref 37), some (.int t), some (.int k), some (.int (nI (f + p))), some (.int (nI c)), some (.int (nI m))], [], HH x σ) r
  | 0, m, h, p, hpp, hi => by
    obtain ⟨h1, h2, h3⟩ := hS
    have e : m = 100 := by omega
    subst e
    have ep : p = mo := by omega
    subst ep
    have hlt : (99 : Int32) < nI 100 := by decide
    have no : ¬ (¬ k < nI f ∧ k < nI (f + p)) := by
      rintro ⟨z1, z2⟩
      rw [Int32.lt_iff_toInt_lt, nI_toInt (by omega)] at z1 z2
      obtain ⟨kk, hkk, rfl⟩ := nI_of (x := k) (by
        rw [Int32.lt_iff_toInt_lt, show (0 : Int32).toInt = 0 from rfl]
        omega)
      rw [nI_toInt hkk] at z1 z2
      refine hi (kk - f) (by omega) ?_
      congr 1; omega
    exact vc_m_fitsm (v1 := 0) (σ1 := σ) (by omega) (fun _ => by rw [show nI c + (1 : Int32) = nI (c + 1) from nI_1 c]; exact kn no) (fun z => absurd hlt z) (fun z => absurd hlt z) (fun z => absurd hlt z) (fun z => absurd hlt z) (fun z => absurd hlt z) (fun z => absurd hlt z)
  | j + 1, m, h, p, hpp, hi => by
    have hn := pm_n42 hp
    have hlt : ¬ (99 : Int32) < nI m := nI_nlt (a := 99) (b := m) (by omega) (by omega)
    have cc : (nI c).toNatClampNeg = c := nI_clamp (by omega)
    have g42 : ¬ (nI c < 0 ∨ 42 ≤ (nI c).toNatClampNeg) := nI_in (by omega) (by omega)
    have hwt : ¬ σ.2.2.1 41 (nI c).toNatClampNeg = 0 := by rw [cc, hp.2.2.2.2.2 c hc, if_pos hw]; decide
    obtain ⟨v, v1, v2⟩ := m_df_h (d := d - 1) (x := x) (c := c) (m := m) (k := t) (by omega) hk hp hwy hre hc (by omega) nr 0 (by omega) (fun p hp => absurd hp (by omega))
    have v1' : mm_Runs (d - 1) 139 (0, [some (.ref 37), some (.int t), some (.int (nI c)), some (.int (nI m)), none], [], HH x σ) (some (.int v), HH x σ) := vc_m_df0 v1
    have ih := m_fits_m (k := k) (c := c) hd hk hp hwy hre hc hf hS hw kr kn j (m + 1) (by omega)
    have hSm := hS.1 m (by omega)
    have h2 := hS.2.1
    rcases v2 with ⟨rfl, vf⟩ | ⟨rfl, vf⟩
    · have hin := hSm.mp ⟨hw, vf⟩
      have ep : p = m - ff := by omega
      by_cases hk2 : nI (f + p) = k
      · refine vc_m_fitsm (v1 := 1) (σ1 := σ) (by omega) (fun z => absurd z hlt) (fun _ => g42) (fun _ z => absurd z hwt) (fun _ _ => v1') (fun _ _ z => absurd z (by decide)) (fun _ _ _ z => absurd hk2 z) (fun _ _ _ _ => ?_)
        rw [← kr (by rw [← hk2]; exact nI_nlt (by omega) (by omega)) (by rw [← hk2]; exact nI_lt (by omega) (by omega)), ← hk2, show (100 : Int32) * nI c = nI (100 * c) from pk_mul 100 c, nI_add, nI_add, pk_sub (by omega)]
        congr 4
        omega
      · refine vc_m_fitsm (v1 := 1) (σ1 := σ) (by omega) (fun z => absurd z hlt) (fun _ => g42) (fun _ z => absurd z hwt) (fun _ _ => v1') (fun _ _ z => absurd z (by decide)) (fun _ _ _ _ => ?_) (fun _ _ _ z => absurd z hk2)
        have := ih (p + 1) (by omega) (fun i hi2 => by
          rcases Nat.lt_or_ge i p with y | y
          · exact hi i y
          · have e : i = p := by omega
            subst e; exact fun z => hk2 z.symm)
        rw [show nI m + (1 : Int32) = nI (m + 1) from nI_1 m, show nI (f + p) + (1 : Int32) = nI (f + p + 1) from nI_1 _]
        exact this
    · have hout : ¬ (ff ≤ m ∧ m < ff + mo) := fun z => vf (hSm.mpr z).2
      refine vc_m_fitsm (v1 := 0) (σ1 := σ) (by omega) (fun z => absurd z hlt) (fun _ => g42) (fun _ z => absurd z hwt) (fun _ _ => v1') (fun _ _ _ => ?_) (fun _ _ z => absurd rfl z) (fun _ _ z => absurd rfl z)
      have := ih p (by omega) hi
      rw [show nI m + (1 : Int32) = nI (m + 1) from nI_1 m]
      exact this
theorem m_fits_h {k t : Int32} {mo ff : Nat → Nat} (hd : 3 ≤ d) (hk : kd t) (hp : r_pm P σ) (hwy : r_way P σ) (hre : r_rm P nr rc rm σ) (hS : ∀ c, c < pd_n P → ft_S P t nr rc rm c (mo c) (ff c)) : ∀ (j c : Nat), c + j = pd_n P → ∀ f, f ≤ 100 * c →
    mm_Runs d 140 (24, [some (.ref 37), some (.int t), some (.int k), some (.int (nI f)), some (.int (nI c)), none], [], HH x σ) (some (.int (ft_go mo ff k j c f)), HH x σ)
  | 0, c, h, f, hf => by
    have hn := pm_n42 hp
    have e : c = pd_n P := by omega
    subst e
    have hle : f_m_all σ ≤ nI (pd_n P) := by rw [all_eq hp]; exact nI_le (Nat.le_refl _) (by omega)
    unfold ft_go
    exact vc_m_fitsc (by omega) (fun _ z => by rw [if_neg z]) (fun _ z => by rw [if_pos z]) (fun z => absurd hle z)
  | j + 1, c, h, f, hf => by
    have hn := pm_n42 hp
    have hlt : ¬ f_m_all σ ≤ nI c := by rw [all_eq hp]; exact nI_ge (by omega) (by omega)
    have hSc := hS c (by omega)
    have ih := m_fits_h (k := k) (mo := mo) (ff := ff) hd hk hp hwy hre hS j (c + 1) (by omega) (f + mo c) (by have := hSc.2.1; omega)
    refine vc_m_fitsc (by omega) (fun z => absurd z hlt) (fun z => absurd z hlt) (fun _ => ?_)
    by_cases hw : P.2.2 c = true
    · have := m_fits_m (d := d) (x := x) (k := k) (t := t) (c := c) (mo := mo c) (ff := ff c) (f := f) (r := (some (.int (ft_go mo ff k (j + 1) c f)), HH x σ)) hd hk hp hwy hre (by omega) (by omega) hSc hw (fun z1 z2 => by unfold ft_go; rw [if_pos ⟨z1, z2⟩]) (fun z => by unfold ft_go; rw [if_neg z]; exact ih) 100 0 (by omega) 0 (by omega) (fun i hi => absurd hi (by omega))
      exact this
    · have cc : (nI c).toNatClampNeg = c := nI_clamp (by omega)
      have g42 : ¬ (nI c < 0 ∨ 42 ≤ (nI c).toNatClampNeg) := nI_in (by omega) (by omega)
      have hwt : σ.2.2.1 41 (nI c).toNatClampNeg = 0 := by rw [cc, hp.2.2.2.2.2 c (by omega), if_neg hw]
      have em : mo c = 0 := by
        rcases Nat.eq_zero_or_pos (mo c) with z | z
        · exact z
        · have h2 := hSc.2.1
          exact absurd ((hSc.1 (ff c) (by omega)).mpr (by omega)).1 hw
      rw [show ft_go mo ff k (j + 1) c f = ft_go mo ff k j (c + 1) (f + mo c) by
        rw [ft_go, if_neg (fun z => by rw [em, Nat.add_zero] at z; exact z.1 z.2)]]
      rw [em, Nat.add_zero] at ih ⊢
      exact vc_m_fitsm (v1 := 0) (σ1 := σ) (by omega) (fun z => absurd z (by decide)) (fun _ => g42) (fun _ _ => by rw [show nI c + (1 : Int32) = nI (c + 1) from nI_1 c]; exact ih) (fun _ z => absurd hwt z) (fun _ z => absurd hwt z) (fun _ z => absurd hwt z) (fun _ z => absurd hwt z)
end FT
theorem op_fits : opI Rel i_X6_fits i_X7_fits 2 := by
  intro x σ as h hr
  obtain ⟨t, k, rfl⟩ := as_2 h
  obtain ⟨P, ns, nw, nr, hr⟩ := rel_RP.mp hr
  have ki := fun τ : mm_S => kind_iff τ σ t
  by_cases hk : p_isKind σ t
  · by_cases h1 : (-1 : Int32) ≤ k
    · have hp := RP_p hr
      have hn := pd_n42 hp
      have hwf := pond_wf hp
      obtain ⟨rc, rm, hrc, hrm⟩ := re_cm hwf hn (RP_re hr)
      have ex : ∀ c, ∃ z : Nat × Nat, c < pd_n P → ft_S P t nr rc rm c z.1 z.2 := by
        intro c
        by_cases hc : c < pd_n P
        · obtain ⟨mo, ff, -, -, -, hs⟩ := c_fic (d := 999) (x := x) (c := c) (by omega) (kind_kd hk) (RP_lk hr) hrc hc
          exact ⟨(mo, ff), fun _ => hs⟩
        · exact ⟨(0, 0), fun z => absurd z hc⟩
      obtain ⟨g, hg⟩ := Classical.axiomOfChoice ex
      obtain ⟨σ', s1, s2⟩ := c_fits_h (d := 999) (x := x) (k := k) (mo := fun c => (g c).1) (ff := fun c => (g c).2) (by omega) (kind_kd hk) hg (pd_n P) 0 (by omega) 0 (by omega) σ (RP_lk hr) hrc
      have hr' := RP_LZ hr s2
      have c := vc_fits0 (d := 999) (x := x) (σ := σ) (t := t) (k := k) (by omega) (fun _ _ => s1) (fun _ z => absurd h1 z) (fun z => absurd hk z)
      have m1 := m_fits_h (d := 999) (x := x) (σ := σ') (k := k) (mo := fun c => (g c).1) (ff := fun c => (g c).2) (by omega) (kind_kd hk) (RP_pm hr') (RP_wy hr') (rm_LZ hrm s2) hg (pd_n P) 0 (by omega) 0 (by omega)
      have m := vc_m_fits0 (d := 999) (x := x) (σ := σ') (t := t) (k := k) (by omega) (fun _ _ => m1) (fun _ z => absurd h1 z) (fun z => absurd ((ki σ').mpr hk) z)
      exact ⟨_, _, _, c, m, RP_rel hr'⟩
    · have c := vc_fits0 (d := 999) (x := x) (σ := σ) (t := t) (k := k) (r := (some (.int (-1)), HH x σ)) (by omega) (fun _ z => absurd z h1) (fun _ _ => rfl) (fun z => absurd hk z)
      have m := vc_m_fits0 (d := 999) (x := x) (σ := σ) (t := t) (k := k) (r := (some (.int (-1)), HH x σ)) (by omega) (fun _ z => absurd z h1) (fun _ _ => rfl) (fun z => absurd ((ki σ).mpr hk) z)
      exact ⟨_, _, _, c, m, RP_rel hr⟩
  · have c := vc_fits0 (d := 999) (x := x) (σ := σ) (t := t) (k := k) (r := (some (.int (-2)), HH x σ)) (by omega) (fun z => absurd z hk) (fun z => absurd z hk) (fun _ => rfl)
    have m := vc_m_fits0 (d := 999) (x := x) (σ := σ) (t := t) (k := k) (r := (some (.int (-2)), HH x σ)) (by omega) (fun z => absurd ((ki σ).mp z) hk) (fun z => absurd ((ki σ).mp z) hk) (fun _ => rfl)
    exact ⟨_, _, _, c, m, RP_rel hr⟩

