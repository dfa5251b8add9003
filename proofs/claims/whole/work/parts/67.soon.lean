/-! soonest (written by wip/whole/t67.py) -/
set_option maxRecDepth 100000 in
theorem vx_ft0 {d : Nat} {x : Nat × (Nat → Int32)} {σ : mm_S} {w o : Int32} {r : Option Value × mm_H} (hd : 1 ≤ d) (k1 : ¬ (((w * (6 : Int32)) + w) < 0 ∨ 42 ≤ ((w * (6 : Int32)) + w).toNatClampNeg)) (k2 : mm_Runs d 30 (18, [some (.ref 29), some (.int w), some (.int o), some (.long ((σ.2.2.2 32) ((w * (6 : Int32)) + w).toNatClampNeg)), none, some (.int (bc64 ((σ.2.2.2 32) ((w * (6 : Int32)) + w).toNatClampNeg))), none], [], HH x σ) r) : mm_Runs d 30 (0, [some (.ref 29), some (.int w), some (.int o), none, none, none, none], [], HH x σ) r := by
  refine mm_go 7 (F' := (10, [some (.ref 29), some (.int w), some (.int o), none, none, none, none], [.int ((w * (6 : Int32)) + w), .ref 32], HH x σ)) rfl ?_
  refine mm_gd (F' := (11, [some (.ref 29), some (.int w), some (.int o), none, none, none, none], [.long ((σ.2.2.2 32) ((w * (6 : Int32)) + w).toNatClampNeg)], HH x σ)) rfl k1 ?_
  refine mm_go 2 (F' := (13, [some (.ref 29), some (.int w), some (.int o), some (.long ((σ.2.2.2 32) ((w * (6 : Int32)) + w).toNatClampNeg)), none, none, none], [.long ((σ.2.2.2 32) ((w * (6 : Int32)) + w).toNatClampNeg)], HH x σ)) rfl ?_
  refine mm_kl (z := 155) (as := [.long ((σ.2.2.2 32) ((w * (6 : Int32)) + w).toNatClampNeg)]) (S' := []) (L2 := [some (.long ((σ.2.2.2 32) ((w * (6 : Int32)) + w).toNatClampNeg)), none]) (v := some (.int (bc64 ((σ.2.2.2 32) ((w * (6 : Int32)) + w).toNatClampNeg)))) (h1 := HH x σ) rfl rfl rfl rfl rfl (by omega) (r_bc64 (by omega)) ?_
  show mm_Runs d 30 (16, [some (.ref 29), some (.int w), some (.int o), some (.long ((σ.2.2.2 32) ((w * (6 : Int32)) + w).toNatClampNeg)), none, none, none], [.int (bc64 ((σ.2.2.2 32) ((w * (6 : Int32)) + w).toNatClampNeg))], HH x σ) r
  refine mm_go 1 (F' := (18, [some (.ref 29), some (.int w), some (.int o), some (.long ((σ.2.2.2 32) ((w * (6 : Int32)) + w).toNatClampNeg)), none, some (.int (bc64 ((σ.2.2.2 32) ((w * (6 : Int32)) + w).toNatClampNeg))), none], [], HH x σ)) rfl ?_
  exact mm_wk (by exact (And.intro rfl (And.intro rfl (And.intro rfl (And.intro rfl (And.intro rfl True.intro)))))) k2
theorem vx_ft0_p0 {d : Nat} {x : Nat × (Nat → Int32)} {σ : mm_S} {w o : Int32} {r : Option Value × mm_H} (hd : 1 ≤ d) (g1 : ¬ (((w * (6 : Int32)) + w) < 0 ∨ 42 ≤ ((w * (6 : Int32)) + w).toNatClampNeg)) (kk : mm_Runs d 30 (18, [some (.ref 29), some (.int w), some (.int o), some (.long ((σ.2.2.2 32) ((w * (6 : Int32)) + w).toNatClampNeg)), none, some (.int (bc64 ((σ.2.2.2 32) ((w * (6 : Int32)) + w).toNatClampNeg))), none], [], HH x σ) r) : mm_Runs d 30 (0, [some (.ref 29), some (.int w), some (.int o), none, none, none, none], [], HH x σ) r := vx_ft0 hd g1 kk
set_option maxRecDepth 100000 in
theorem vx_fth {d : Nat} {x : Nat × (Nat → Int32)} {σ : mm_S} {w o t : Int32} {q : Int64}  {v1 v2 : Int32} {σ1 σ2 : mm_S} {r : Option Value × mm_H} (hd : 2 ≤ d) (k1 : t ≤ 0 → (some (.int (0 : Int32)), HH x σ) = r) (k2 : ¬ t ≤ 0 → mm_Runs (d - 1) 37 (0, [some (.ref 29), some (.int w), some (.int o), some (.int w), some (.int (lowb q)), none, none, none, none, none, none], [], HH x σ) (some (.int v1), HH x σ1)) (k3 : ¬ t ≤ 0 → v1 = 0 → mm_Runs d 30 (18, [some (.ref 29), some (.int w), some (.int o), some (.long (q &&& (q - (1 : Int64)))), none, some (.int (t + (-1 : Int32))), none], [], HH x σ1) r) (k4 : ¬ t ≤ 0 → ¬ v1 = 0 → mm_Runs (d - 1) 35 (0, [some (.ref 29), some (.int (w + (1 : Int32))), some (.int o), none, none, none, none, none, none], [], HH x σ1) (some (.int v2), HH x σ2)) (k5 : ¬ t ≤ 0 → ¬ v1 = 0 → v2 = 0 → mm_Runs d 30 (18, [some (.ref 29), some (.int w), some (.int o), some (.long (q &&& (q - (1 : Int64)))), none, some (.int (t + (-1 : Int32))), none], [], HH x σ2) r) (k6 : ¬ t ≤ 0 → ¬ v1 = 0 → ¬ v2 = 0 → (some (.int (lowb q)), HH x σ2) = r) : mm_Runs d 30 (18, [some (.ref 29), some (.int w), some (.int o), some (.long q), none, some (.int t), none], [], HH x σ) r := by
  refine mm_go 2 (F' := (bif mm_cond .le t 0 then 67 else 23, [some (.ref 29), some (.int w), some (.int o), some (.long q), none, some (.int t), none], [], HH x σ)) rfl ?_
  refine mb_le (fun h1 => ?_) (fun h1 => ?_)
  · refine mm_go 1 (F' := (68, [some (.ref 29), some (.int w), some (.int o), some (.long q), none, some (.int t), none], [.int (0 : Int32)], HH x σ)) rfl ?_
    exact mm_rt rfl rfl (k1 h1)
  · refine mm_go 1 (F' := (24, [some (.ref 29), some (.int w), some (.int o), some (.long q), none, some (.int t), none], [.long q], HH x σ)) rfl ?_
    refine mm_kl (z := 75) (as := [.long q]) (S' := []) (L2 := [some (.long q), none]) (v := some (.int (lowb q))) (h1 := HH x σ) rfl rfl rfl rfl rfl (by omega) (r_low (by omega)) ?_
    show mm_Runs d 30 (27, [some (.ref 29), some (.int w), some (.int o), some (.long q), none, some (.int t), none], [.int (lowb q)], HH x σ) r
    refine mm_go 12 (F' := (41, [some (.ref 29), some (.int w), some (.int o), some (.long (q &&& (q - (1 : Int64)))), none, some (.int t), some (.int (lowb q))], [.int (lowb q), .int w, .int o, .int w, .ref 29], HH x σ)) rfl ?_
    refine mm_kl (z := 37) (as := [.ref 29, .int w, .int o, .int w, .int (lowb q)]) (S' := []) (L2 := [some (.ref 29), some (.int w), some (.int o), some (.int w), some (.int (lowb q)), none, none, none, none, none, none]) (v := some (.int v1)) (h1 := HH x σ1) rfl rfl rfl rfl rfl (by omega) (k2 h1) ?_
    show mm_Runs d 30 (44, [some (.ref 29), some (.int w), some (.int o), some (.long (q &&& (q - (1 : Int64)))), none, some (.int t), some (.int (lowb q))], [.int v1], HH x σ1) r
    refine mm_go 1 (F' := (bif mm_cond .eq v1 0 then 61 else 47, [some (.ref 29), some (.int w), some (.int o), some (.long (q &&& (q - (1 : Int64)))), none, some (.int t), some (.int (lowb q))], [], HH x σ1)) rfl ?_
    refine mb_eq (fun h2 => ?_) (fun h2 => ?_)
    · refine mm_go 2 (F' := (18, [some (.ref 29), some (.int w), some (.int o), some (.long (q &&& (q - (1 : Int64)))), none, some (.int (t + (-1 : Int32))), some (.int (lowb q))], [], HH x σ1)) rfl ?_
      exact mm_wk (by exact (And.intro rfl (And.intro rfl (And.intro rfl (And.intro rfl (And.intro rfl True.intro)))))) (k3 h1 h2)
    · refine mm_go 5 (F' := (52, [some (.ref 29), some (.int w), some (.int o), some (.long (q &&& (q - (1 : Int64)))), none, some (.int t), some (.int (lowb q))], [.int o, .int (w + (1 : Int32)), .ref 29], HH x σ1)) rfl ?_
      refine mm_kl (z := 35) (as := [.ref 29, .int (w + (1 : Int32)), .int o]) (S' := []) (L2 := [some (.ref 29), some (.int (w + (1 : Int32))), some (.int o), none, none, none, none, none, none]) (v := some (.int v2)) (h1 := HH x σ2) rfl rfl rfl rfl rfl (by omega) (k4 h1 h2) ?_
      show mm_Runs d 30 (55, [some (.ref 29), some (.int w), some (.int o), some (.long (q &&& (q - (1 : Int64)))), none, some (.int t), some (.int (lowb q))], [.int v2], HH x σ2) r
      refine mm_go 1 (F' := (bif mm_cond .eq v2 0 then 61 else 58, [some (.ref 29), some (.int w), some (.int o), some (.long (q &&& (q - (1 : Int64)))), none, some (.int t), some (.int (lowb q))], [], HH x σ2)) rfl ?_
      refine mb_eq (fun h3 => ?_) (fun h3 => ?_)
      · refine mm_go 2 (F' := (18, [some (.ref 29), some (.int w), some (.int o), some (.long (q &&& (q - (1 : Int64)))), none, some (.int (t + (-1 : Int32))), some (.int (lowb q))], [], HH x σ2)) rfl ?_
        exact mm_wk (by exact (And.intro rfl (And.intro rfl (And.intro rfl (And.intro rfl (And.intro rfl True.intro)))))) (k5 h1 h2 h3)
      · refine mm_go 1 (F' := (60, [some (.ref 29), some (.int w), some (.int o), some (.long (q &&& (q - (1 : Int64)))), none, some (.int t), some (.int (lowb q))], [.int (lowb q)], HH x σ2)) rfl ?_
        exact mm_rt rfl rfl (k6 h1 h2 h3)
theorem vx_fth_p0 {d : Nat} {x : Nat × (Nat → Int32)} {σ : mm_S} {w o t : Int32} {q : Int64}  {v1 v2 : Int32} {σ1 σ2 : mm_S} (hd : 2 ≤ d) (h1 : t ≤ 0) : mm_Runs d 30 (18, [some (.ref 29), some (.int w), some (.int o), some (.long q), none, some (.int t), none], [], HH x σ) (some (.int (0 : Int32)), HH x σ) := vx_fth (v1 := v1) (v2 := v2) (σ1 := σ1) (σ2 := σ2) hd (fun _ => rfl) (fun  z => absurd h1 z) (fun  z _ => absurd h1 z) (fun  z _ => absurd h1 z) (fun  z _ _ => absurd h1 z) (fun  z _ _ => absurd h1 z)
theorem vx_fth_p1 {d : Nat} {x : Nat × (Nat → Int32)} {σ : mm_S} {w o t : Int32} {q : Int64}  {v1 v2 : Int32} {σ1 σ2 : mm_S} {r : Option Value × mm_H} (hd : 2 ≤ d) (h1 : ¬ t ≤ 0) (h2 : v1 = 0) (g1 : mm_Runs (d - 1) 37 (0, [some (.ref 29), some (.int w), some (.int o), some (.int w), some (.int (lowb q)), none, none, none, none, none, none], [], HH x σ) (some (.int v1), HH x σ1)) (kk : mm_Runs d 30 (18, [some (.ref 29), some (.int w), some (.int o), some (.long (q &&& (q - (1 : Int64)))), none, some (.int (t + (-1 : Int32))), none], [], HH x σ1) r) : mm_Runs d 30 (18, [some (.ref 29), some (.int w), some (.int o), some (.long q), none, some (.int t), none], [], HH x σ) r := vx_fth (v1 := v1) (v2 := v2) (σ1 := σ1) (σ2 := σ2) hd (fun  z => absurd z h1) (fun _ => g1) (fun _ _ => kk) (fun _ z => absurd h2 z) (fun _ z _ => absurd h2 z) (fun _ z _ => absurd h2 z)
theorem vx_fth_p2 {d : Nat} {x : Nat × (Nat → Int32)} {σ : mm_S} {w o t : Int32} {q : Int64}  {v1 v2 : Int32} {σ1 σ2 : mm_S} {r : Option Value × mm_H} (hd : 2 ≤ d) (h1 : ¬ t ≤ 0) (h2 : ¬ v1 = 0) (h3 : v2 = 0) (g1 : mm_Runs (d - 1) 37 (0, [some (.ref 29), some (.int w), some (.int o), some (.int w), some (.int (lowb q)), none, none, none, none, none, none], [], HH x σ) (some (.int v1), HH x σ1)) (g2 : mm_Runs (d - 1) 35 (0, [some (.ref 29), some (.int (w + (1 : Int32))), some (.int o), none, none, none, none, none, none], [], HH x σ1) (some (.int v2), HH x σ2)) (kk : mm_Runs d 30 (18, [some (.ref 29), some (.int w), some (.int o), some (.long (q &&& (q - (1 : Int64)))), none, some (.int (t + (-1 : Int32))), none], [], HH x σ2) r) : mm_Runs d 30 (18, [some (.ref 29), some (.int w), some (.int o), some (.long q), none, some (.int t), none], [], HH x σ) r := vx_fth (v1 := v1) (v2 := v2) (σ1 := σ1) (σ2 := σ2) hd (fun  z => absurd z h1) (fun _ => g1) (fun _ z => absurd z h2) (fun _ _ => g2) (fun _ _ _ => kk) (fun _ _ z => absurd h3 z)
theorem vx_fth_p3 {d : Nat} {x : Nat × (Nat → Int32)} {σ : mm_S} {w o t : Int32} {q : Int64}  {v1 v2 : Int32} {σ1 σ2 : mm_S} (hd : 2 ≤ d) (h1 : ¬ t ≤ 0) (h2 : ¬ v1 = 0) (h3 : ¬ v2 = 0) (g1 : mm_Runs (d - 1) 37 (0, [some (.ref 29), some (.int w), some (.int o), some (.int w), some (.int (lowb q)), none, none, none, none, none, none], [], HH x σ) (some (.int v1), HH x σ1)) (g2 : mm_Runs (d - 1) 35 (0, [some (.ref 29), some (.int (w + (1 : Int32))), some (.int o), none, none, none, none, none, none], [], HH x σ1) (some (.int v2), HH x σ2)) : mm_Runs d 30 (18, [some (.ref 29), some (.int w), some (.int o), some (.long q), none, some (.int t), none], [], HH x σ) (some (.int (lowb q)), HH x σ2) := vx_fth (v1 := v1) (v2 := v2) (σ1 := σ1) (σ2 := σ2) hd (fun  z => absurd z h1) (fun _ => g1) (fun _ z => absurd z h2) (fun _ _ => g2) (fun _ _ z => absurd z h3) (fun _ _ _ => rfl)
set_option maxRecDepth 100000 in
theorem vx_wp0 {d : Nat} {x : Nat × (Nat → Int32)} {σ : mm_S} {n : Int32} {r : Option Value × mm_H} (k1 : mm_Runs d 31 (4, [some (.ref 29), some (.int n), some (.int (0 : Int32)), some (.int (0 : Int32)), none], [], HH x σ) r) : mm_Runs d 31 (0, [some (.ref 29), some (.int n), none, none, none], [], HH x σ) r := by
  refine mm_go 4 (F' := (4, [some (.ref 29), some (.int n), some (.int (0 : Int32)), some (.int (0 : Int32)), none], [], HH x σ)) rfl ?_
  exact mm_wk (by exact (And.intro rfl (And.intro rfl (And.intro rfl (And.intro rfl True.intro))))) k1
theorem vx_wp0_p0 {d : Nat} {x : Nat × (Nat → Int32)} {σ : mm_S} {n : Int32} {r : Option Value × mm_H}  (kk : mm_Runs d 31 (4, [some (.ref 29), some (.int n), some (.int (0 : Int32)), some (.int (0 : Int32)), none], [], HH x σ) r) : mm_Runs d 31 (0, [some (.ref 29), some (.int n), none, none, none], [], HH x σ) r := vx_wp0 kk
set_option maxRecDepth 100000 in
theorem vx_wpi {d : Nat} {x : Nat × (Nat → Int32)} {σ : mm_S} {n l i : Int32} {r : Option Value × mm_H} (k1 : n ≤ i → (some (.int l), HH x σ) = r) (k2 : ¬ n ≤ i → mm_Runs d 31 (14, [some (.ref 29), some (.int n), some (.int l), some (.int i), some (.int (i + (1 : Int32)))], [], HH x σ) r) : mm_Runs d 31 (4, [some (.ref 29), some (.int n), some (.int l), some (.int i), none], [], HH x σ) r := by
  refine mm_go 3 (F' := (bif mm_cond .ge i n then 54 else 9, [some (.ref 29), some (.int n), some (.int l), some (.int i), none], [], HH x σ)) rfl ?_
  refine mb_ge (fun h1 => ?_) (fun h1 => ?_)
  · refine mm_go 1 (F' := (55, [some (.ref 29), some (.int n), some (.int l), some (.int i), none], [.int l], HH x σ)) rfl ?_
    exact mm_rt rfl rfl (k1 h1)
  · refine mm_go 4 (F' := (14, [some (.ref 29), some (.int n), some (.int l), some (.int i), some (.int (i + (1 : Int32)))], [], HH x σ)) rfl ?_
    exact mm_wk (by exact (And.intro rfl (And.intro rfl (And.intro rfl (And.intro rfl (And.intro rfl True.intro)))))) (k2 h1)
theorem vx_wpi_p0 {d : Nat} {x : Nat × (Nat → Int32)} {σ : mm_S} {n l i : Int32}  (h1 : n ≤ i) : mm_Runs d 31 (4, [some (.ref 29), some (.int n), some (.int l), some (.int i), none], [], HH x σ) (some (.int l), HH x σ) := vx_wpi (fun _ => rfl) (fun  z => absurd h1 z)
theorem vx_wpi_p1 {d : Nat} {x : Nat × (Nat → Int32)} {σ : mm_S} {n l i : Int32} {r : Option Value × mm_H}  (h1 : ¬ n ≤ i) (kk : mm_Runs d 31 (14, [some (.ref 29), some (.int n), some (.int l), some (.int i), some (.int (i + (1 : Int32)))], [], HH x σ) r) : mm_Runs d 31 (4, [some (.ref 29), some (.int n), some (.int l), some (.int i), none], [], HH x σ) r := vx_wpi (fun  z => absurd z h1) (fun _ => kk)
set_option maxRecDepth 100000 in
theorem vx_wpj {d : Nat} {x : Nat × (Nat → Int32)} {σ : mm_S} {n l i j : Int32}  {v1 v2 : Int32} {r : Option Value × mm_H} (hd : 1 ≤ d) (k1 : n ≤ j → mm_Runs d 31 (4, [some (.ref 29), some (.int n), some (.int l), some (.int (i + (1 : Int32))), none], [], HH x σ) r) (k2 : ¬ n ≤ j → mm_Runs (d - 1) 26 (0, [some (.ref 29), some (.int i), some (.int j)], [], HH x σ) (some (.int v1), HH x σ)) (k3 : ¬ n ≤ j → mm_Runs (d - 1) 26 (0, [some (.ref 29), some (.int j), some (.int i)], [], HH x σ) (some (.int v2), HH x σ)) (k4 : ¬ n ≤ j → mm_Runs d 31 (14, [some (.ref 29), some (.int n), some (.int (if l < (if v2 < v1 then v2 else v1) then (if v2 < v1 then v2 else v1) else l)), some (.int i), some (.int (j + (1 : Int32)))], [], HH x σ) r) : mm_Runs d 31 (14, [some (.ref 29), some (.int n), some (.int l), some (.int i), some (.int j)], [], HH x σ) r := by
  refine mm_go 3 (F' := (bif mm_cond .ge j n then 48 else 20, [some (.ref 29), some (.int n), some (.int l), some (.int i), some (.int j)], [], HH x σ)) rfl ?_
  refine mb_ge (fun h1 => ?_) (fun h1 => ?_)
  · refine mm_go 2 (F' := (4, [some (.ref 29), some (.int n), some (.int l), some (.int (i + (1 : Int32))), some (.int j)], [], HH x σ)) rfl ?_
    exact mm_wk (by exact (And.intro rfl (And.intro rfl (And.intro rfl (And.intro rfl True.intro))))) (k1 h1)
  · refine mm_go 4 (F' := (25, [some (.ref 29), some (.int n), some (.int l), some (.int i), some (.int j)], [.int j, .int i, .ref 29, .int l], HH x σ)) rfl ?_
    refine mm_kl (z := 26) (as := [.ref 29, .int i, .int j]) (S' := [.int l]) (L2 := [some (.ref 29), some (.int i), some (.int j)]) (v := some (.int v1)) (h1 := HH x σ) rfl rfl rfl rfl rfl (by omega) (k2 h1) ?_
    show mm_Runs d 31 (28, [some (.ref 29), some (.int n), some (.int l), some (.int i), some (.int j)], [.int v1, .int l], HH x σ) r
    refine mm_go 3 (F' := (32, [some (.ref 29), some (.int n), some (.int l), some (.int i), some (.int j)], [.int i, .int j, .ref 29, .int v1, .int l], HH x σ)) rfl ?_
    refine mm_kl (z := 26) (as := [.ref 29, .int j, .int i]) (S' := [.int v1, .int l]) (L2 := [some (.ref 29), some (.int j), some (.int i)]) (v := some (.int v2)) (h1 := HH x σ) rfl rfl rfl rfl rfl (by omega) (k3 h1) ?_
    show mm_Runs d 31 (35, [some (.ref 29), some (.int n), some (.int l), some (.int i), some (.int j)], [.int v2, .int v1, .int l], HH x σ) r
    refine mm_go 5 (F' := (14, [some (.ref 29), some (.int n), some (.int (if l < (if v2 < v1 then v2 else v1) then (if v2 < v1 then v2 else v1) else l)), some (.int i), some (.int (j + (1 : Int32)))], [], HH x σ)) rfl ?_
    exact mm_wk (by exact (And.intro rfl (And.intro rfl (And.intro rfl (And.intro rfl (And.intro rfl True.intro)))))) (k4 h1)
theorem vx_wpj_p0 {d : Nat} {x : Nat × (Nat → Int32)} {σ : mm_S} {n l i j : Int32}  {v1 v2 : Int32} {r : Option Value × mm_H} (hd : 1 ≤ d) (h1 : n ≤ j) (kk : mm_Runs d 31 (4, [some (.ref 29), some (.int n), some (.int l), some (.int (i + (1 : Int32))), none], [], HH x σ) r) : mm_Runs d 31 (14, [some (.ref 29), some (.int n), some (.int l), some (.int i), some (.int j)], [], HH x σ) r := vx_wpj (v1 := v1) (v2 := v2) hd (fun _ => kk) (fun  z => absurd h1 z) (fun  z => absurd h1 z) (fun  z => absurd h1 z)
theorem vx_wpj_p1 {d : Nat} {x : Nat × (Nat → Int32)} {σ : mm_S} {n l i j : Int32}  {v1 v2 : Int32} {r : Option Value × mm_H} (hd : 1 ≤ d) (h1 : ¬ n ≤ j) (g1 : mm_Runs (d - 1) 26 (0, [some (.ref 29), some (.int i), some (.int j)], [], HH x σ) (some (.int v1), HH x σ)) (g2 : mm_Runs (d - 1) 26 (0, [some (.ref 29), some (.int j), some (.int i)], [], HH x σ) (some (.int v2), HH x σ)) (kk : mm_Runs d 31 (14, [some (.ref 29), some (.int n), some (.int (if l < (if v2 < v1 then v2 else v1) then (if v2 < v1 then v2 else v1) else l)), some (.int i), some (.int (j + (1 : Int32)))], [], HH x σ) r) : mm_Runs d 31 (14, [some (.ref 29), some (.int n), some (.int l), some (.int i), some (.int j)], [], HH x σ) r := vx_wpj (v1 := v1) (v2 := v2) hd (fun  z => absurd z h1) (fun _ => g1) (fun _ => g2) (fun _ => kk)
set_option maxRecDepth 100000 in
theorem vx_mp0 {d : Nat} {x : Nat × (Nat → Int32)} {σ : mm_S} {n : Int32}  {v1 : Int32} {r : Option Value × mm_H} (hd : 1 ≤ d) (k1 : (σ.1 2904) = 0 → mm_Runs (d - 1) 31 (0, [some (.ref 29), some (.int n), none, none, none], [], HH x σ) (some (.int v1), HH x σ)) (k2 : (σ.1 2904) = 0 → mm_Runs d 29 (20, [some (.ref 29), some (.int n), some (.int (((1 : Int32) <<< (n &&& 31)) - (1 : Int32))), some (.int v1), none], [], HH x σ) r) (k3 : ¬ (σ.1 2904) = 0 → (none, HH x σ) = r) : mm_Runs d 29 (0, [some (.ref 29), some (.int n), none, none, none], [], HH x σ) r := by
  refine mm_go 3 (F' := (bif mm_cond .eq (σ.1 2904) 0 then 8 else 7, [some (.ref 29), some (.int n), none, none, none], [], HH x σ)) rfl ?_
  refine mb_eq (fun h1 => ?_) (fun h1 => ?_)
  · refine mm_go 8 (F' := (16, [some (.ref 29), some (.int n), some (.int (((1 : Int32) <<< (n &&& 31)) - (1 : Int32))), none, none], [.int n, .ref 29], HH x σ)) rfl ?_
    refine mm_kl (z := 31) (as := [.ref 29, .int n]) (S' := []) (L2 := [some (.ref 29), some (.int n), none, none, none]) (v := some (.int v1)) (h1 := HH x σ) rfl rfl rfl rfl rfl (by omega) (k1 h1) ?_
    show mm_Runs d 29 (19, [some (.ref 29), some (.int n), some (.int (((1 : Int32) <<< (n &&& 31)) - (1 : Int32))), none, none], [.int v1], HH x σ) r
    refine mm_go 1 (F' := (20, [some (.ref 29), some (.int n), some (.int (((1 : Int32) <<< (n &&& 31)) - (1 : Int32))), some (.int v1), none], [], HH x σ)) rfl ?_
    exact mm_wk (by exact (And.intro rfl (And.intro rfl (And.intro rfl (And.intro rfl True.intro))))) (k2 h1)
  · exact mm_rt rfl rfl (k3 h1)
theorem vx_mp0_p0 {d : Nat} {x : Nat × (Nat → Int32)} {σ : mm_S} {n : Int32}  {v1 : Int32} {r : Option Value × mm_H} (hd : 1 ≤ d) (h1 : (σ.1 2904) = 0) (g1 : mm_Runs (d - 1) 31 (0, [some (.ref 29), some (.int n), none, none, none], [], HH x σ) (some (.int v1), HH x σ)) (kk : mm_Runs d 29 (20, [some (.ref 29), some (.int n), some (.int (((1 : Int32) <<< (n &&& 31)) - (1 : Int32))), some (.int v1), none], [], HH x σ) r) : mm_Runs d 29 (0, [some (.ref 29), some (.int n), none, none, none], [], HH x σ) r := vx_mp0 (v1 := v1) hd (fun _ => g1) (fun _ => kk) (fun  z => absurd h1 z)
theorem vx_mp0_p1 {d : Nat} {x : Nat × (Nat → Int32)} {σ : mm_S} {n : Int32}  {v1 : Int32} (hd : 1 ≤ d) (h1 : ¬ (σ.1 2904) = 0) : mm_Runs d 29 (0, [some (.ref 29), some (.int n), none, none, none], [], HH x σ) (none, HH x σ) := vx_mp0 (v1 := v1) hd (fun  z => absurd z h1) (fun  z => absurd z h1) (fun _ => rfl)
set_option maxRecDepth 100000 in
theorem vx_mpl {d : Nat} {x : Nat × (Nat → Int32)} {σ : mm_S} {n a l : Int32}  {v1 : Int32} {σ1 : mm_S} {r : Option Value × mm_H} (hd : 1 ≤ d) (k1 : mm_Runs (d - 1) 33 (0, [some (.ref 29), some (.int a), some (.int l), none], [], HH x σ) (some (.int v1), HH x σ1)) (k2 : ¬ v1 = 0 → mm_Runs d 29 (49, [some (.ref 29), some (.int n), some (.int a), none, some (.int (0 : Int32))], [], HH x (ui σ1 2907 l)) r) (k3 : v1 = 0 → (63 : Int32) ≤ l → mm_Runs d 29 (49, [some (.ref 29), some (.int n), some (.int a), none, some (.int (0 : Int32))], [], HH x (ui σ1 2907 l)) r) (k4 : v1 = 0 → ¬ (63 : Int32) ≤ l → mm_Runs d 29 (20, [some (.ref 29), some (.int n), some (.int a), some (.int (l + (1 : Int32))), none], [], HH x σ1) r) : mm_Runs d 29 (20, [some (.ref 29), some (.int n), some (.int a), some (.int l), none], [], HH x σ) r := by
  refine mm_go 3 (F' := (23, [some (.ref 29), some (.int n), some (.int a), some (.int l), none], [.int l, .int a, .ref 29], HH x σ)) rfl ?_
  refine mm_kl (z := 33) (as := [.ref 29, .int a, .int l]) (S' := []) (L2 := [some (.ref 29), some (.int a), some (.int l), none]) (v := some (.int v1)) (h1 := HH x σ1) rfl rfl rfl rfl rfl (by omega) k1 ?_
  show mm_Runs d 29 (26, [some (.ref 29), some (.int n), some (.int a), some (.int l), none], [.int v1], HH x σ1) r
  refine mm_go 1 (F' := (bif mm_cond .ne v1 0 then 41 else 29, [some (.ref 29), some (.int n), some (.int a), some (.int l), none], [], HH x σ1)) rfl ?_
  refine mb_ne (fun h1 => ?_) (fun h1 => ?_)
  · refine mm_go 2 (F' := (43, [some (.ref 29), some (.int n), some (.int a), some (.int l), none], [.int l, .ref 29], HH x σ1)) rfl ?_
    refine mm_go 1 (F' := (46, [some (.ref 29), some (.int n), some (.int a), some (.int l), none], [], HH x (ui σ1 2907 l))) rfl ?_
    refine mm_go 2 (F' := (49, [some (.ref 29), some (.int n), some (.int a), some (.int l), some (.int (0 : Int32))], [], HH x (ui σ1 2907 l))) rfl ?_
    exact mm_wk (by exact (And.intro rfl (And.intro rfl (And.intro rfl (And.intro rfl True.intro))))) (k2 h1)
  · refine mm_go 3 (F' := (bif mm_cond .ge l (63 : Int32) then 41 else 35, [some (.ref 29), some (.int n), some (.int a), some (.int l), none], [], HH x σ1)) rfl ?_
    refine mb_ge (fun h2 => ?_) (fun h2 => ?_)
    · refine mm_go 2 (F' := (43, [some (.ref 29), some (.int n), some (.int a), some (.int l), none], [.int l, .ref 29], HH x σ1)) rfl ?_
      refine mm_go 1 (F' := (46, [some (.ref 29), some (.int n), some (.int a), some (.int l), none], [], HH x (ui σ1 2907 l))) rfl ?_
      refine mm_go 2 (F' := (49, [some (.ref 29), some (.int n), some (.int a), some (.int l), some (.int (0 : Int32))], [], HH x (ui σ1 2907 l))) rfl ?_
      exact mm_wk (by exact (And.intro rfl (And.intro rfl (And.intro rfl (And.intro rfl True.intro))))) (k3 h1 h2)
    · refine mm_go 2 (F' := (20, [some (.ref 29), some (.int n), some (.int a), some (.int (l + (1 : Int32))), none], [], HH x σ1)) rfl ?_
      exact mm_wk (by exact (And.intro rfl (And.intro rfl (And.intro rfl (And.intro rfl True.intro))))) (k4 h1 h2)
theorem vx_mpl_p0 {d : Nat} {x : Nat × (Nat → Int32)} {σ : mm_S} {n a l : Int32}  {v1 : Int32} {σ1 : mm_S} {r : Option Value × mm_H} (hd : 1 ≤ d) (h1 : ¬ v1 = 0) (g1 : mm_Runs (d - 1) 33 (0, [some (.ref 29), some (.int a), some (.int l), none], [], HH x σ) (some (.int v1), HH x σ1)) (kk : mm_Runs d 29 (49, [some (.ref 29), some (.int n), some (.int a), none, some (.int (0 : Int32))], [], HH x (ui σ1 2907 l)) r) : mm_Runs d 29 (20, [some (.ref 29), some (.int n), some (.int a), some (.int l), none], [], HH x σ) r := vx_mpl (v1 := v1) (σ1 := σ1) hd g1 (fun _ => kk) (fun  z _ => absurd z h1) (fun  z _ => absurd z h1)
theorem vx_mpl_p1 {d : Nat} {x : Nat × (Nat → Int32)} {σ : mm_S} {n a l : Int32}  {v1 : Int32} {σ1 : mm_S} {r : Option Value × mm_H} (hd : 1 ≤ d) (h1 : v1 = 0) (h2 : (63 : Int32) ≤ l) (g1 : mm_Runs (d - 1) 33 (0, [some (.ref 29), some (.int a), some (.int l), none], [], HH x σ) (some (.int v1), HH x σ1)) (kk : mm_Runs d 29 (49, [some (.ref 29), some (.int n), some (.int a), none, some (.int (0 : Int32))], [], HH x (ui σ1 2907 l)) r) : mm_Runs d 29 (20, [some (.ref 29), some (.int n), some (.int a), some (.int l), none], [], HH x σ) r := vx_mpl (v1 := v1) (σ1 := σ1) hd g1 (fun  z => absurd h1 z) (fun _ _ => kk) (fun _ z => absurd h2 z)
theorem vx_mpl_p2 {d : Nat} {x : Nat × (Nat → Int32)} {σ : mm_S} {n a l : Int32}  {v1 : Int32} {σ1 : mm_S} {r : Option Value × mm_H} (hd : 1 ≤ d) (h1 : v1 = 0) (h2 : ¬ (63 : Int32) ≤ l) (g1 : mm_Runs (d - 1) 33 (0, [some (.ref 29), some (.int a), some (.int l), none], [], HH x σ) (some (.int v1), HH x σ1)) (kk : mm_Runs d 29 (20, [some (.ref 29), some (.int n), some (.int a), some (.int (l + (1 : Int32))), none], [], HH x σ1) r) : mm_Runs d 29 (20, [some (.ref 29), some (.int n), some (.int a), some (.int l), none], [], HH x σ) r := vx_mpl (v1 := v1) (σ1 := σ1) hd g1 (fun  z => absurd h1 z) (fun _ z => absurd z h2) (fun _ _ => kk)
set_option maxRecDepth 100000 in
theorem vx_mpw {d : Nat} {x : Nat × (Nat → Int32)} {σ : mm_S} {n a w : Int32}  {v1 : Int32} {σ1 : mm_S} {r : Option Value × mm_H} (hd : 1 ≤ d) (k1 : n ≤ w → (none, HH x (ui σ 2904 (1 : Int32))) = r) (k2 : ¬ n ≤ w → mm_Runs (d - 1) 30 (0, [some (.ref 29), some (.int w), some (.int ((a >>> ((w + (1 : Int32)) &&& 31)) <<< ((w + (1 : Int32)) &&& 31))), none, none, none, none], [], HH x σ) (some (.int v1), HH x σ1)) (k3 : ¬ n ≤ w → ¬ (w < 0 ∨ 6 ≤ w.toNatClampNeg)) (k4 : ¬ n ≤ w → mm_Runs d 29 (49, [some (.ref 29), some (.int n), some (.int a), none, some (.int (w + (1 : Int32)))], [], HH x (ua σ1 35 (upd (σ1.2.2.1 35) w.toNatClampNeg v1))) r) : mm_Runs d 29 (49, [some (.ref 29), some (.int n), some (.int a), none, some (.int w)], [], HH x σ) r := by
  refine mm_go 3 (F' := (bif mm_cond .ge w n then 85 else 55, [some (.ref 29), some (.int n), some (.int a), none, some (.int w)], [], HH x σ)) rfl ?_
  refine mb_ge (fun h1 => ?_) (fun h1 => ?_)
  · refine mm_go 2 (F' := (87, [some (.ref 29), some (.int n), some (.int a), none, some (.int w)], [.int (1 : Int32), .ref 29], HH x σ)) rfl ?_
    refine mm_gt (c := (1 : Int32) = 0 ∨ (1 : Int32) = 1) (F' := (90, [some (.ref 29), some (.int n), some (.int a), none, some (.int w)], [], HH x (ui σ 2904 (1 : Int32)))) rfl (Or.inr rfl) ?_
    exact mm_rt rfl rfl (k1 h1)
  · refine mm_go 14 (F' := (75, [some (.ref 29), some (.int n), some (.int a), none, some (.int w)], [.int ((a >>> ((w + (1 : Int32)) &&& 31)) <<< ((w + (1 : Int32)) &&& 31)), .int w, .ref 29, .int w, .ref 35], HH x σ)) rfl ?_
    refine mm_kl (z := 30) (as := [.ref 29, .int w, .int ((a >>> ((w + (1 : Int32)) &&& 31)) <<< ((w + (1 : Int32)) &&& 31))]) (S' := [.int w, .ref 35]) (L2 := [some (.ref 29), some (.int w), some (.int ((a >>> ((w + (1 : Int32)) &&& 31)) <<< ((w + (1 : Int32)) &&& 31))), none, none, none, none]) (v := some (.int v1)) (h1 := HH x σ1) rfl rfl rfl rfl rfl (by omega) (k2 h1) ?_
    show mm_Runs d 29 (78, [some (.ref 29), some (.int n), some (.int a), none, some (.int w)], [.int v1, .int w, .ref 35], HH x σ1) r
    refine mm_gd (F' := (79, [some (.ref 29), some (.int n), some (.int a), none, some (.int w)], [], HH x (ua σ1 35 (upd (σ1.2.2.1 35) w.toNatClampNeg v1)))) rfl (k3 h1) ?_
    refine mm_go 2 (F' := (49, [some (.ref 29), some (.int n), some (.int a), none, some (.int (w + (1 : Int32)))], [], HH x (ua σ1 35 (upd (σ1.2.2.1 35) w.toNatClampNeg v1)))) rfl ?_
    exact mm_wk (by exact (And.intro rfl (And.intro rfl (And.intro rfl (And.intro rfl True.intro))))) (k4 h1)
theorem vx_mpw_p0 {d : Nat} {x : Nat × (Nat → Int32)} {σ : mm_S} {n a w : Int32}  {v1 : Int32} {σ1 : mm_S} (hd : 1 ≤ d) (h1 : n ≤ w) : mm_Runs d 29 (49, [some (.ref 29), some (.int n), some (.int a), none, some (.int w)], [], HH x σ) (none, HH x (ui σ 2904 (1 : Int32))) := vx_mpw (v1 := v1) (σ1 := σ1) hd (fun _ => rfl) (fun  z => absurd h1 z) (fun  z => absurd h1 z) (fun  z => absurd h1 z)
theorem vx_mpw_p1 {d : Nat} {x : Nat × (Nat → Int32)} {σ : mm_S} {n a w : Int32}  {v1 : Int32} {σ1 : mm_S} {r : Option Value × mm_H} (hd : 1 ≤ d) (h1 : ¬ n ≤ w) (g1 : mm_Runs (d - 1) 30 (0, [some (.ref 29), some (.int w), some (.int ((a >>> ((w + (1 : Int32)) &&& 31)) <<< ((w + (1 : Int32)) &&& 31))), none, none, none, none], [], HH x σ) (some (.int v1), HH x σ1)) (g2 : ¬ (w < 0 ∨ 6 ≤ w.toNatClampNeg)) (kk : mm_Runs d 29 (49, [some (.ref 29), some (.int n), some (.int a), none, some (.int (w + (1 : Int32)))], [], HH x (ua σ1 35 (upd (σ1.2.2.1 35) w.toNatClampNeg v1))) r) : mm_Runs d 29 (49, [some (.ref 29), some (.int n), some (.int a), none, some (.int w)], [], HH x σ) r := vx_mpw (v1 := v1) (σ1 := σ1) hd (fun  z => absurd z h1) (fun _ => g1) (fun _ => g2) (fun _ => kk)
set_option maxRecDepth 100000 in
theorem vx_soon {d : Nat} {x : Nat × (Nat → Int32)} {σ : mm_S} {w : Int32}  {σ1 σ2 : mm_S} {r : Option Value × mm_H} (hd : 1 ≤ d) (k1 : w = (-1 : Int32) → ¬ (σ.1 2003) = 0 → mm_Runs (d - 1) 29 (0, [some (.ref 29), some (.int (σ.1 2003)), none, none, none], [], HH x σ) (none, HH x σ1)) (k2 : w = (-1 : Int32) → ¬ (σ.1 2003) = 0 → (some (.int (σ1.1 2907)), HH x σ1) = r) (k3 : w = (-1 : Int32) → (σ.1 2003) = 0 → (some (.int (-9 : Int32)), HH x σ) = r) (k4 : ¬ w = (-1 : Int32) → (p_has_20 σ w) → ¬ (σ.1 2003) = 0 → mm_Runs (d - 1) 29 (0, [some (.ref 29), some (.int (σ.1 2003)), none, none, none], [], HH x σ) (none, HH x σ2)) (k5 : ¬ w = (-1 : Int32) → (p_has_20 σ w) → ¬ (σ.1 2003) = 0 → ¬ (w < 0 ∨ 6 ≤ w.toNatClampNeg)) (k6 : ¬ w = (-1 : Int32) → (p_has_20 σ w) → ¬ (σ.1 2003) = 0 → (some (.int ((σ2.2.2.1 35) w.toNatClampNeg)), HH x σ2) = r) (k7 : ¬ w = (-1 : Int32) → (p_has_20 σ w) → (σ.1 2003) = 0 → (some (.int (-9 : Int32)), HH x σ) = r) (k8 : ¬ w = (-1 : Int32) → ¬ (p_has_20 σ w) → (some (.int (-1 : Int32)), HH x σ) = r) : mm_Runs d 52 (0, [some (.ref 2), some (.int w)], [], HH x σ) r := by
  refine mm_go 3 (F' := (bif mm_cond .eq w (-1 : Int32) then 18 else 5, [some (.ref 2), some (.int w)], [], HH x σ)) rfl ?_
  refine mb_eq (fun h1 => ?_) (fun h1 => ?_)
  · refine mm_go 4 (F' := (bif mm_cond .ne (σ.1 2003) 0 then 31 else 28, [some (.ref 2), some (.int w)], [], HH x σ)) rfl ?_
    refine mb_ne (fun h2 => ?_) (fun h2 => ?_)
    · refine mm_go 5 (F' := (42, [some (.ref 2), some (.int w)], [.int (σ.1 2003), .ref 29], HH x σ)) rfl ?_
      refine mm_kl (z := 29) (as := [.ref 29, .int (σ.1 2003)]) (S' := []) (L2 := [some (.ref 29), some (.int (σ.1 2003)), none, none, none]) (v := none) (h1 := HH x σ1) rfl rfl rfl rfl rfl (by omega) (k1 h1 h2) ?_
      show mm_Runs d 52 (45, [some (.ref 2), some (.int w)], [], HH x σ1) r
      refine mm_go 3 (F' := (bif mm_cond .ne w (-1 : Int32) then 60 else 50, [some (.ref 2), some (.int w)], [], HH x σ1)) rfl ?_
      refine mb_ne (fun h3 => absurd h1 h3) (fun _ => ?_)
      refine mm_go 4 (F' := (69, [some (.ref 2), some (.int w)], [.int (σ1.1 2907)], HH x σ1)) rfl ?_
      exact mm_rt rfl rfl (k2 h1 h2)
    · refine mm_go 1 (F' := (30, [some (.ref 2), some (.int w)], [.int (-9 : Int32)], HH x σ)) rfl ?_
      exact mm_rt rfl rfl (k3 h1 h2)
  · refine mm_go 3 (F' := (10, [some (.ref 2), some (.int w)], [.int w, .ref 20], HH x σ)) rfl ?_
    refine mm_kl (z := 0) (as := [.ref 20, .int w]) (S' := []) (L2 := [some (.ref 20), some (.int w)]) (v := some (.int (mm_b (p_has_20 σ w)))) (h1 := HH x σ) rfl rfl rfl rfl rfl (by omega) (r_has_20 (by omega)) ?_
    show mm_Runs d 52 (13, [some (.ref 2), some (.int w)], [.int (mm_b (p_has_20 σ w))], HH x σ) r
    refine mm_go 1 (F' := (bif mm_cond .ne (mm_b (p_has_20 σ w)) 0 then 18 else 16, [some (.ref 2), some (.int w)], [], HH x σ)) rfl ?_
    refine mb_bne (fun h4 => ?_) (fun h4 => ?_)
    · refine mm_go 4 (F' := (bif mm_cond .ne (σ.1 2003) 0 then 31 else 28, [some (.ref 2), some (.int w)], [], HH x σ)) rfl ?_
      refine mb_ne (fun h5 => ?_) (fun h5 => ?_)
      · refine mm_go 5 (F' := (42, [some (.ref 2), some (.int w)], [.int (σ.1 2003), .ref 29], HH x σ)) rfl ?_
        refine mm_kl (z := 29) (as := [.ref 29, .int (σ.1 2003)]) (S' := []) (L2 := [some (.ref 29), some (.int (σ.1 2003)), none, none, none]) (v := none) (h1 := HH x σ2) rfl rfl rfl rfl rfl (by omega) (k4 h1 h4 h5) ?_
        show mm_Runs d 52 (45, [some (.ref 2), some (.int w)], [], HH x σ2) r
        refine mm_go 3 (F' := (bif mm_cond .ne w (-1 : Int32) then 60 else 50, [some (.ref 2), some (.int w)], [], HH x σ2)) rfl ?_
        refine mb_ne (fun _ => ?_) (fun h6 => absurd h6 h1)
        refine mm_go 4 (F' := (68, [some (.ref 2), some (.int w)], [.int w, .ref 35], HH x σ2)) rfl ?_
        refine mm_gd (F' := (69, [some (.ref 2), some (.int w)], [.int ((σ2.2.2.1 35) w.toNatClampNeg)], HH x σ2)) rfl (k5 h1 h4 h5) ?_
        exact mm_rt rfl rfl (k6 h1 h4 h5)
      · refine mm_go 1 (F' := (30, [some (.ref 2), some (.int w)], [.int (-9 : Int32)], HH x σ)) rfl ?_
        exact mm_rt rfl rfl (k7 h1 h4 h5)
    · refine mm_go 1 (F' := (17, [some (.ref 2), some (.int w)], [.int (-1 : Int32)], HH x σ)) rfl ?_
      exact mm_rt rfl rfl (k8 h1 h4)
theorem vx_soon_p0 {d : Nat} {x : Nat × (Nat → Int32)} {σ : mm_S} {w : Int32}  {σ1 σ2 : mm_S} (hd : 1 ≤ d) (h1 : w = (-1 : Int32)) (h2 : ¬ (σ.1 2003) = 0) (g1 : mm_Runs (d - 1) 29 (0, [some (.ref 29), some (.int (σ.1 2003)), none, none, none], [], HH x σ) (none, HH x σ1)) : mm_Runs d 52 (0, [some (.ref 2), some (.int w)], [], HH x σ) (some (.int (σ1.1 2907)), HH x σ1) := vx_soon (σ1 := σ1) (σ2 := σ2) hd (fun _ _ => g1) (fun _ _ => rfl) (fun _ z => absurd z h2) (fun  z _ _ => absurd h1 z) (fun  z _ _ => absurd h1 z) (fun  z _ _ => absurd h1 z) (fun  z _ _ => absurd h1 z) (fun  z _ => absurd h1 z)
theorem vx_soon_p1 {d : Nat} {x : Nat × (Nat → Int32)} {σ : mm_S} {w : Int32}  {σ1 σ2 : mm_S} (hd : 1 ≤ d) (h1 : w = (-1 : Int32)) (h2 : (σ.1 2003) = 0) : mm_Runs d 52 (0, [some (.ref 2), some (.int w)], [], HH x σ) (some (.int (-9 : Int32)), HH x σ) := vx_soon (σ1 := σ1) (σ2 := σ2) hd (fun _ z => absurd h2 z) (fun _ z => absurd h2 z) (fun _ _ => rfl) (fun  z _ _ => absurd h1 z) (fun  z _ _ => absurd h1 z) (fun  z _ _ => absurd h1 z) (fun  z _ _ => absurd h1 z) (fun  z _ => absurd h1 z)
theorem vx_soon_p2 {d : Nat} {x : Nat × (Nat → Int32)} {σ : mm_S} {w : Int32}  {σ1 σ2 : mm_S} (hd : 1 ≤ d) (h1 : ¬ w = (-1 : Int32)) (h2 : (p_has_20 σ w)) (h3 : ¬ (σ.1 2003) = 0) (g1 : mm_Runs (d - 1) 29 (0, [some (.ref 29), some (.int (σ.1 2003)), none, none, none], [], HH x σ) (none, HH x σ2)) (g2 : ¬ (w < 0 ∨ 6 ≤ w.toNatClampNeg)) : mm_Runs d 52 (0, [some (.ref 2), some (.int w)], [], HH x σ) (some (.int ((σ2.2.2.1 35) w.toNatClampNeg)), HH x σ2) := vx_soon (σ1 := σ1) (σ2 := σ2) hd (fun  z _ => absurd z h1) (fun  z _ => absurd z h1) (fun  z _ => absurd z h1) (fun _ _ _ => g1) (fun _ _ _ => g2) (fun _ _ _ => rfl) (fun _ _ z => absurd z h3) (fun _ z => absurd h2 z)
theorem vx_soon_p3 {d : Nat} {x : Nat × (Nat → Int32)} {σ : mm_S} {w : Int32}  {σ1 σ2 : mm_S} (hd : 1 ≤ d) (h1 : ¬ w = (-1 : Int32)) (h2 : (p_has_20 σ w)) (h3 : (σ.1 2003) = 0) : mm_Runs d 52 (0, [some (.ref 2), some (.int w)], [], HH x σ) (some (.int (-9 : Int32)), HH x σ) := vx_soon (σ1 := σ1) (σ2 := σ2) hd (fun  z _ => absurd z h1) (fun  z _ => absurd z h1) (fun  z _ => absurd z h1) (fun _ _ z => absurd h3 z) (fun _ _ z => absurd h3 z) (fun _ _ z => absurd h3 z) (fun _ _ _ => rfl) (fun _ z => absurd h2 z)
theorem vx_soon_p4 {d : Nat} {x : Nat × (Nat → Int32)} {σ : mm_S} {w : Int32}  {σ1 σ2 : mm_S} (hd : 1 ≤ d) (h1 : ¬ w = (-1 : Int32)) (h2 : ¬ (p_has_20 σ w)) : mm_Runs d 52 (0, [some (.ref 2), some (.int w)], [], HH x σ) (some (.int (-1 : Int32)), HH x σ) := vx_soon (σ1 := σ1) (σ2 := σ2) hd (fun  z _ => absurd z h1) (fun  z _ => absurd z h1) (fun  z _ => absurd z h1) (fun _ z _ => absurd z h2) (fun _ z _ => absurd z h2) (fun _ z _ => absurd z h2) (fun _ z _ => absurd z h2) (fun _ _ => rfl)
set_option maxRecDepth 100000 in
theorem vx_m_so0 {d : Nat} {x : Nat × (Nat → Int32)} {σ : mm_S} {w : Int32}  {σ1 σ2 : mm_S} {r : Option Value × mm_H} (hd : 1 ≤ d) (k1 : w = (-1 : Int32) → ¬ (σ.1 3720) = 0 → mm_Runs (d - 1) 124 (0, [some (.ref 37), none, none, none], [], HH x σ) (none, HH x σ1)) (k2 : w = (-1 : Int32) → ¬ (σ.1 3720) = 0 → mm_Runs d 134 (31, [some (.ref 37), some (.int w), some (.int (0 : Int32))], [], HH x σ1) r) (k3 : w = (-1 : Int32) → (σ.1 3720) = 0 → (some (.int (-9 : Int32)), HH x σ) = r) (k4 : ¬ w = (-1 : Int32) → (p_m_isWish σ w) → ¬ (σ.1 3720) = 0 → mm_Runs (d - 1) 124 (0, [some (.ref 37), none, none, none], [], HH x σ) (none, HH x σ2)) (k5 : ¬ w = (-1 : Int32) → (p_m_isWish σ w) → ¬ (σ.1 3720) = 0 → mm_Runs d 134 (31, [some (.ref 37), some (.int w), some (.int (0 : Int32))], [], HH x σ2) r) (k6 : ¬ w = (-1 : Int32) → (p_m_isWish σ w) → (σ.1 3720) = 0 → (some (.int (-9 : Int32)), HH x σ) = r) (k7 : ¬ w = (-1 : Int32) → ¬ (p_m_isWish σ w) → (some (.int (-1 : Int32)), HH x σ) = r) : mm_Runs d 134 (0, [some (.ref 37), some (.int w), none], [], HH x σ) r := by
  refine mm_go 3 (F' := (bif mm_cond .eq w (-1 : Int32) then 15 else 5, [some (.ref 37), some (.int w), none], [], HH x σ)) rfl ?_
  refine mb_eq (fun h1 => ?_) (fun h1 => ?_)
  · refine mm_go 3 (F' := (bif mm_cond .ne (σ.1 3720) 0 then 25 else 22, [some (.ref 37), some (.int w), none], [], HH x σ)) rfl ?_
    refine mb_ne (fun h2 => ?_) (fun h2 => ?_)
    · refine mm_go 1 (F' := (26, [some (.ref 37), some (.int w), none], [.ref 37], HH x σ)) rfl ?_
      refine mm_kl (z := 124) (as := [.ref 37]) (S' := []) (L2 := [some (.ref 37), none, none, none]) (v := none) (h1 := HH x σ1) rfl rfl rfl rfl rfl (by omega) (k1 h1 h2) ?_
      show mm_Runs d 134 (29, [some (.ref 37), some (.int w), none], [], HH x σ1) r
      refine mm_go 2 (F' := (31, [some (.ref 37), some (.int w), some (.int (0 : Int32))], [], HH x σ1)) rfl ?_
      exact mm_wk (by exact (And.intro rfl (And.intro rfl (And.intro rfl True.intro)))) (k2 h1 h2)
    · refine mm_go 1 (F' := (24, [some (.ref 37), some (.int w), none], [.int (-9 : Int32)], HH x σ)) rfl ?_
      exact mm_rt rfl rfl (k3 h1 h2)
  · refine mm_go 2 (F' := (7, [some (.ref 37), some (.int w), none], [.int w, .ref 37], HH x σ)) rfl ?_
    refine mm_kl (z := 118) (as := [.ref 37, .int w]) (S' := []) (L2 := [some (.ref 37), some (.int w)]) (v := some (.int (mm_b (p_m_isWish σ w)))) (h1 := HH x σ) rfl rfl rfl rfl rfl (by omega) (r_m_isWish (by omega)) ?_
    show mm_Runs d 134 (10, [some (.ref 37), some (.int w), none], [.int (mm_b (p_m_isWish σ w))], HH x σ) r
    refine mm_go 1 (F' := (bif mm_cond .ne (mm_b (p_m_isWish σ w)) 0 then 15 else 13, [some (.ref 37), some (.int w), none], [], HH x σ)) rfl ?_
    refine mb_bne (fun h3 => ?_) (fun h3 => ?_)
    · refine mm_go 3 (F' := (bif mm_cond .ne (σ.1 3720) 0 then 25 else 22, [some (.ref 37), some (.int w), none], [], HH x σ)) rfl ?_
      refine mb_ne (fun h4 => ?_) (fun h4 => ?_)
      · refine mm_go 1 (F' := (26, [some (.ref 37), some (.int w), none], [.ref 37], HH x σ)) rfl ?_
        refine mm_kl (z := 124) (as := [.ref 37]) (S' := []) (L2 := [some (.ref 37), none, none, none]) (v := none) (h1 := HH x σ2) rfl rfl rfl rfl rfl (by omega) (k4 h1 h3 h4) ?_
        show mm_Runs d 134 (29, [some (.ref 37), some (.int w), none], [], HH x σ2) r
        refine mm_go 2 (F' := (31, [some (.ref 37), some (.int w), some (.int (0 : Int32))], [], HH x σ2)) rfl ?_
        exact mm_wk (by exact (And.intro rfl (And.intro rfl (And.intro rfl True.intro)))) (k5 h1 h3 h4)
      · refine mm_go 1 (F' := (24, [some (.ref 37), some (.int w), none], [.int (-9 : Int32)], HH x σ)) rfl ?_
        exact mm_rt rfl rfl (k6 h1 h3 h4)
    · refine mm_go 1 (F' := (14, [some (.ref 37), some (.int w), none], [.int (-1 : Int32)], HH x σ)) rfl ?_
      exact mm_rt rfl rfl (k7 h1 h3)
theorem vx_m_so0_p0 {d : Nat} {x : Nat × (Nat → Int32)} {σ : mm_S} {w : Int32}  {σ1 σ2 : mm_S} {r : Option Value × mm_H} (hd : 1 ≤ d) (h1 : w = (-1 : Int32)) (h2 : ¬ (σ.1 3720) = 0) (g1 : mm_Runs (d - 1) 124 (0, [some (.ref 37), none, none, none], [], HH x σ) (none, HH x σ1)) (kk : mm_Runs d 134 (31, [some (.ref 37), some (.int w), some (.int (0 : Int32))], [], HH x σ1) r) : mm_Runs d 134 (0, [some (.ref 37), some (.int w), none], [], HH x σ) r := vx_m_so0 (σ1 := σ1) (σ2 := σ2) hd (fun _ _ => g1) (fun _ _ => kk) (fun _ z => absurd z h2) (fun  z _ _ => absurd h1 z) (fun  z _ _ => absurd h1 z) (fun  z _ _ => absurd h1 z) (fun  z _ => absurd h1 z)
theorem vx_m_so0_p1 {d : Nat} {x : Nat × (Nat → Int32)} {σ : mm_S} {w : Int32}  {σ1 σ2 : mm_S} (hd : 1 ≤ d) (h1 : w = (-1 : Int32)) (h2 : (σ.1 3720) = 0) : mm_Runs d 134 (0, [some (.ref 37), some (.int w), none], [], HH x σ) (some (.int (-9 : Int32)), HH x σ) := vx_m_so0 (σ1 := σ1) (σ2 := σ2) hd (fun _ z => absurd h2 z) (fun _ z => absurd h2 z) (fun _ _ => rfl) (fun  z _ _ => absurd h1 z) (fun  z _ _ => absurd h1 z) (fun  z _ _ => absurd h1 z) (fun  z _ => absurd h1 z)
theorem vx_m_so0_p2 {d : Nat} {x : Nat × (Nat → Int32)} {σ : mm_S} {w : Int32}  {σ1 σ2 : mm_S} {r : Option Value × mm_H} (hd : 1 ≤ d) (h1 : ¬ w = (-1 : Int32)) (h2 : (p_m_isWish σ w)) (h3 : ¬ (σ.1 3720) = 0) (g1 : mm_Runs (d - 1) 124 (0, [some (.ref 37), none, none, none], [], HH x σ) (none, HH x σ2)) (kk : mm_Runs d 134 (31, [some (.ref 37), some (.int w), some (.int (0 : Int32))], [], HH x σ2) r) : mm_Runs d 134 (0, [some (.ref 37), some (.int w), none], [], HH x σ) r := vx_m_so0 (σ1 := σ1) (σ2 := σ2) hd (fun  z _ => absurd z h1) (fun  z _ => absurd z h1) (fun  z _ => absurd z h1) (fun _ _ _ => g1) (fun _ _ _ => kk) (fun _ _ z => absurd z h3) (fun _ z => absurd h2 z)
theorem vx_m_so0_p3 {d : Nat} {x : Nat × (Nat → Int32)} {σ : mm_S} {w : Int32}  {σ1 σ2 : mm_S} (hd : 1 ≤ d) (h1 : ¬ w = (-1 : Int32)) (h2 : (p_m_isWish σ w)) (h3 : (σ.1 3720) = 0) : mm_Runs d 134 (0, [some (.ref 37), some (.int w), none], [], HH x σ) (some (.int (-9 : Int32)), HH x σ) := vx_m_so0 (σ1 := σ1) (σ2 := σ2) hd (fun  z _ => absurd z h1) (fun  z _ => absurd z h1) (fun  z _ => absurd z h1) (fun _ _ z => absurd h3 z) (fun _ _ z => absurd h3 z) (fun _ _ _ => rfl) (fun _ z => absurd h2 z)
theorem vx_m_so0_p4 {d : Nat} {x : Nat × (Nat → Int32)} {σ : mm_S} {w : Int32}  {σ1 σ2 : mm_S} (hd : 1 ≤ d) (h1 : ¬ w = (-1 : Int32)) (h2 : ¬ (p_m_isWish σ w)) : mm_Runs d 134 (0, [some (.ref 37), some (.int w), none], [], HH x σ) (some (.int (-1 : Int32)), HH x σ) := vx_m_so0 (σ1 := σ1) (σ2 := σ2) hd (fun  z _ => absurd z h1) (fun  z _ => absurd z h1) (fun  z _ => absurd z h1) (fun _ z _ => absurd z h2) (fun _ z _ => absurd z h2) (fun _ z _ => absurd z h2) (fun _ _ => rfl)
set_option maxRecDepth 100000 in
theorem vx_m_soh {d : Nat} {x : Nat × (Nat → Int32)} {σ : mm_S} {w l : Int32}  {v1 : Int32} {σ1 : mm_S} {r : Option Value × mm_H} (hd : 1 ≤ d) (k1 : mm_Runs (d - 1) 133 (0, [some (.ref 37), some (.int (((1 : Int32) <<< ((σ.1 3720) &&& 31)) - (1 : Int32))), some (.int l), none, none], [], HH x σ) (some (.int v1), HH x σ1)) (k2 : ¬ v1 = 0 → ¬ w = (-1 : Int32) → ¬ (w < 0 ∨ 6 ≤ w.toNatClampNeg)) (k3 : ¬ v1 = 0 → ¬ w = (-1 : Int32) → (some (.int ((σ1.2.2.1 50) w.toNatClampNeg)), HH x σ1) = r) (k4 : ¬ v1 = 0 → w = (-1 : Int32) → (some (.int l), HH x σ1) = r) (k5 : v1 = 0 → mm_Runs d 134 (31, [some (.ref 37), some (.int w), some (.int (l + (1 : Int32)))], [], HH x σ1) r) : mm_Runs d 134 (31, [some (.ref 37), some (.int w), some (.int l)], [], HH x σ) r := by
  refine mm_go 8 (F' := (41, [some (.ref 37), some (.int w), some (.int l)], [.int l, .int (((1 : Int32) <<< ((σ.1 3720) &&& 31)) - (1 : Int32)), .ref 37], HH x σ)) rfl ?_
  refine mm_kl (z := 133) (as := [.ref 37, .int (((1 : Int32) <<< ((σ.1 3720) &&& 31)) - (1 : Int32)), .int l]) (S' := []) (L2 := [some (.ref 37), some (.int (((1 : Int32) <<< ((σ.1 3720) &&& 31)) - (1 : Int32))), some (.int l), none, none]) (v := some (.int v1)) (h1 := HH x σ1) rfl rfl rfl rfl rfl (by omega) k1 ?_
  show mm_Runs d 134 (44, [some (.ref 37), some (.int w), some (.int l)], [.int v1], HH x σ1) r
  refine mm_go 1 (F' := (bif mm_cond .ne v1 0 then 53 else 47, [some (.ref 37), some (.int w), some (.int l)], [], HH x σ1)) rfl ?_
  refine mb_ne (fun h1 => ?_) (fun h1 => ?_)
  · refine mm_go 3 (F' := (bif mm_cond .ne w (-1 : Int32) then 62 else 58, [some (.ref 37), some (.int w), some (.int l)], [], HH x σ1)) rfl ?_
    refine mb_ne (fun h2 => ?_) (fun h2 => ?_)
    · refine mm_go 3 (F' := (67, [some (.ref 37), some (.int w), some (.int l)], [.int w, .ref 50], HH x σ1)) rfl ?_
      refine mm_gd (F' := (68, [some (.ref 37), some (.int w), some (.int l)], [.int ((σ1.2.2.1 50) w.toNatClampNeg)], HH x σ1)) rfl (k2 h1 h2) ?_
      exact mm_rt rfl rfl (k3 h1 h2)
    · refine mm_go 2 (F' := (68, [some (.ref 37), some (.int w), some (.int l)], [.int l], HH x σ1)) rfl ?_
      exact mm_rt rfl rfl (k4 h1 h2)
  · refine mm_go 2 (F' := (31, [some (.ref 37), some (.int w), some (.int (l + (1 : Int32)))], [], HH x σ1)) rfl ?_
    exact mm_wk (by exact (And.intro rfl (And.intro rfl (And.intro rfl True.intro)))) (k5 h1)
theorem vx_m_soh_p0 {d : Nat} {x : Nat × (Nat → Int32)} {σ : mm_S} {w l : Int32}  {v1 : Int32} {σ1 : mm_S} (hd : 1 ≤ d) (h1 : ¬ v1 = 0) (h2 : ¬ w = (-1 : Int32)) (g1 : mm_Runs (d - 1) 133 (0, [some (.ref 37), some (.int (((1 : Int32) <<< ((σ.1 3720) &&& 31)) - (1 : Int32))), some (.int l), none, none], [], HH x σ) (some (.int v1), HH x σ1)) (g2 : ¬ (w < 0 ∨ 6 ≤ w.toNatClampNeg)) : mm_Runs d 134 (31, [some (.ref 37), some (.int w), some (.int l)], [], HH x σ) (some (.int ((σ1.2.2.1 50) w.toNatClampNeg)), HH x σ1) := vx_m_soh (v1 := v1) (σ1 := σ1) hd g1 (fun _ _ => g2) (fun _ _ => rfl) (fun _ z => absurd z h2) (fun  z => absurd z h1)
theorem vx_m_soh_p1 {d : Nat} {x : Nat × (Nat → Int32)} {σ : mm_S} {w l : Int32}  {v1 : Int32} {σ1 : mm_S} (hd : 1 ≤ d) (h1 : ¬ v1 = 0) (h2 : w = (-1 : Int32)) (g1 : mm_Runs (d - 1) 133 (0, [some (.ref 37), some (.int (((1 : Int32) <<< ((σ.1 3720) &&& 31)) - (1 : Int32))), some (.int l), none, none], [], HH x σ) (some (.int v1), HH x σ1)) : mm_Runs d 134 (31, [some (.ref 37), some (.int w), some (.int l)], [], HH x σ) (some (.int l), HH x σ1) := vx_m_soh (v1 := v1) (σ1 := σ1) hd g1 (fun _ z => absurd h2 z) (fun _ z => absurd h2 z) (fun _ _ => rfl) (fun  z => absurd z h1)
theorem vx_m_soh_p2 {d : Nat} {x : Nat × (Nat → Int32)} {σ : mm_S} {w l : Int32}  {v1 : Int32} {σ1 : mm_S} {r : Option Value × mm_H} (hd : 1 ≤ d) (h1 : v1 = 0) (g1 : mm_Runs (d - 1) 133 (0, [some (.ref 37), some (.int (((1 : Int32) <<< ((σ.1 3720) &&& 31)) - (1 : Int32))), some (.int l), none, none], [], HH x σ) (some (.int v1), HH x σ1)) (kk : mm_Runs d 134 (31, [some (.ref 37), some (.int w), some (.int (l + (1 : Int32)))], [], HH x σ1) r) : mm_Runs d 134 (31, [some (.ref 37), some (.int w), some (.int l)], [], HH x σ) r := vx_m_soh (v1 := v1) (σ1 := σ1) hd g1 (fun  z _ => absurd h1 z) (fun  z _ => absurd h1 z) (fun  z _ => absurd h1 z) (fun _ => kk)
theorem sw_tb : ∀ n, n < 7 → ∀ w, w ≤ n → ∀ e, e < 6 → tb (2 ^ n - 2 ^ w) e = (decide (w ≤ e) && decide (e < n)) := by decide +kernel
theorem sw_pc : ∀ n, n < 7 → ∀ w, w ≤ n → pc6 (2 ^ n - 2 ^ w) = n - w := by decide +kernel
theorem sw_o : ∀ n, n < 7 → ∀ w, w < n → ((nI (2 ^ n - 1) >>> ((nI w + (1 : Int32)) &&& 31)) <<< ((nI w + (1 : Int32)) &&& 31)) = nI (2 ^ n - 2 ^ (w + 1)) := by decide +kernel
theorem all_sh : ∀ n, n < 7 → ((1 : Int32) <<< (nI n &&& 31)) - (1 : Int32) = nI (2 ^ n - 1) := by decide +kernel
theorem sw_lt {n w : Nat} : 2 ^ n - 2 ^ w < 2 ^ n := by
  have h1 : 1 ≤ 2 ^ n := Nat.one_le_two_pow
  have h2 : 1 ≤ 2 ^ w := Nat.one_le_two_pow
  omega
theorem all_tb {n : Nat} (h6 : n ≤ 6) {e : Nat} (he : e < n) : tb (2 ^ n - 1) e = true := by
  have := sw_tb n (by omega) 0 (by omega) e (by omega)
  rw [Nat.pow_zero] at this
  rw [this]; simp [he]
theorem pl_pok {P : pd_T} {σ : mm_S} {n T : Nat} (h6 : n ≤ 6) (p : Nat → Nat) : pl_ok P (σ.2.2.1 21) (σ.2.2.1 22) n T p ↔ pok P (kkc σ) (ccc σ) n (2 ^ n - 1) T p := by
  constructor
  · rintro ⟨a, b⟩
    refine ⟨fun i hi _ => a i hi, fun i j hij hj _ _ z => ?_⟩
    rcases z with ⟨z1, z2⟩ | ⟨z1, z2⟩
    · exact b i j (by omega) hj (by omega) z1 z2
    · exact b j i hj (by omega) (by omega) (by omega) z2
  · rintro ⟨a, b⟩
    refine ⟨fun i hi => a i hi (all_tb h6 hi), fun i j hi hj hij hp z => ?_⟩
    have cf : CF P (kkc σ) (ccc σ) i j (p i) (p j) := Or.inl ⟨hp, z⟩
    rcases Nat.lt_or_ge i j with q | q
    · exact b i j q hj (all_tb h6 hi) (all_tb h6 hj) cf
    · exact b j i (by omega) hi (all_tb h6 hj) (all_tb h6 hi) (CF_sym.mp cf)
section SO
variable {d : Nat} {x : Nat × (Nat → Int32)} {P : pd_T} {σ : mm_S} {n : Nat}
theorem c_ft_h {w : Nat} {L : Nat → Int64} (hd : 11 ≤ d) (ht : tiX P σ n) (h6 : n ≤ 6) (hw : w < n) : ∀ (t : Nat) (q : Int64) (L1 : Nat → Int64), ct64 q = t → (∀ m, bt q m = true → bt (L (6 * w + w)) m = true) → (∀ y, y < 6 * (w + 1) → L1 y = L y) → (∀ p, CPX P σ n w (2 ^ n - 2 ^ w) L p → bt q (p w) = true) → (∃ p, CPX P σ n w (2 ^ n - 2 ^ w) L p) →
    ∃ (m : Nat) (L' : Nat → Int64), m < 64 ∧ mm_Runs d 30 (18, [some (.ref 29), some (.int (nI w)), some (.int (nI (2 ^ n - 2 ^ (w + 1)))), some (.long q), none, some (.int (nI t)), none], [], HH x (ub σ 32 L1)) (some (.int (nI m)), HH x (ub σ 32 L')) ∧ (∀ e, w < e → e < n → ∀ m', bt (L' (6 * (w + 1) + e)) m' = true ↔ (bt (L (6 * w + e)) m' = true ∧ ¬ CF P (kkc σ) (ccc σ) w e m m')) ∧ (∃ p, CPX P σ n w (2 ^ n - 2 ^ w) L p ∧ p w = m) ∧ ∀ p, CPX P σ n w (2 ^ n - 2 ^ w) L p → m ≤ p w
  | 0, q, L1, hq, h1, h2, h3, h4 => by
    exfalso
    obtain ⟨p, hp⟩ := h4
    have := h3 p hp
    rw [ct_z hq, bt_0] at this; cases this
  | t + 1, q, L1, hq, h1, h2, h3, h4 => by
    have h64 := p2_64 h6
    have hq0 : ¬ q = 0 := fun z => by rw [z, ct_00] at hq; omega
    obtain ⟨m, m1, m2, m3, m4⟩ := low_ex hq0
    have ht1 : t + 1 ≤ 64 := by rw [← hq]; exact ct_64 q
    have nt : ¬ nI (t + 1) ≤ 0 := nI_nle (by omega) (by omega)
    have T1 := sw_tb n (by omega) w (by omega)
    have T2 := sw_tb n (by omega) (w + 1) (by omega)
    have tbw : tb (2 ^ n - 2 ^ (w + 1)) w = false := by rw [T2 w (by omega)]; simp; omega
    have tbs : ∀ e, e < n → (tb (2 ^ n - 2 ^ w) e = true ↔ w ≤ e) := fun e he => by rw [T1 e (by omega)]; simp [he]
    have tbo : ∀ e, e < n → (tb (2 ^ n - 2 ^ (w + 1)) e = true ↔ w < e) := fun e he => by rw [T2 e (by omega)]; simp [he]; omega
    have hr4 : w ≤ 4 ∨ 2 ^ n - 2 ^ (w + 1) = 0 := by
      rcases Nat.lt_or_ge w 5 with z | z
      · exact Or.inl (by omega)
      · have e1 : w = 5 := by omega
        have e2 : n = 6 := by omega
        subst e1; subst e2
        exact Or.inr (by decide)
    have low : ∀ p, CPX P σ n w (2 ^ n - 2 ^ w) L p → m ≤ p w := fun p hp => by
      rcases Nat.lt_or_ge (p w) m with z | z
      · have := h3 p hp
        rw [m4 _ z] at this; cases this
      · exact z
    obtain ⟨v1, L2, r1, r2, r3⟩ := c_lr_h (d := d - 1) (x := x) (L := L) (m := m) ht h6 (sw_lt (w := w + 1)) hw tbw m1 hr4 6 0 (by omega) L1 h2 (fun e' z => absurd z (by omega))
    have r1' := vx_lr0_p0 r1
    have next : ∀ (L3 : Nat → Int64), (∀ y, y < 6 * (w + 1) → L3 y = L y) → (∀ p, CPX P σ n w (2 ^ n - 2 ^ w) L p → p w ≠ m) → ∃ (m' : Nat) (L' : Nat → Int64), m' < 64 ∧ mm_Runs d 30 (18, [some (.ref 29), some (.int (nI w)), some (.int (nI (2 ^ n - 2 ^ (w + 1)))), some (.long (q &&& (q - 1))), none, some (.int (nI (t + 1) + (-1))), none], [], HH x (ub σ 32 L3)) (some (.int (nI m')), HH x (ub σ 32 L')) ∧ (∀ e, w < e → e < n → ∀ m2, bt (L' (6 * (w + 1) + e)) m2 = true ↔ (bt (L (6 * w + e)) m2 = true ∧ ¬ CF P (kkc σ) (ccc σ) w e m' m2)) ∧ (∃ p, CPX P σ n w (2 ^ n - 2 ^ w) L p ∧ p w = m') ∧ ∀ p, CPX P σ n w (2 ^ n - 2 ^ w) L p → m' ≤ p w := fun L3 k1 k2 => by
      rw [pk_m1]
      have e1 := ct_clear m3 m4
      refine c_ft_h hd ht h6 hw t (q &&& (q - 1)) L3 (by omega) (fun m' z => ?_) k1 (fun p z => ?_) h4
      · rw [bt_clear m3 m4, Bool.and_eq_true] at z
        exact h1 m' z.1
      · rw [bt_clear m3 m4, h3 p z]
        have := k2 p z
        simp [this]
    rcases r3 with ⟨rfl, r3⟩ | ⟨rfl, e, e1, e2, e3⟩
    · have pcw := sw_pc n (by omega) (w + 1) (by omega)
      obtain ⟨v2, L3, g1, g2, g3⟩ := c_cp (x := x) ht h6 (n - (w + 1)) (d - 1) (by omega) (w + 1) (2 ^ n - 2 ^ (w + 1)) L2 pcw (by omega) sw_lt
      have g4 : ∀ y, y < 6 * (w + 1) → L3 y = L y := fun y hy => by rw [g2 y (by omega)]; exact r2 y hy
      rw [← nI_1] at g1
      rcases g3 with ⟨rfl, p, g5, g6⟩ | ⟨rfl, g5⟩
      · refine ⟨m, L3, m1, ?_, fun e he1 he2 m' => ?_, ⟨gset p w m, ⟨fun e he z => ?_, fun i j hi hj hij z1 z2 => ?_⟩, gset_s⟩, low⟩
        · have := vx_fth_p3 (d := d) (x := x) (σ := ub σ 32 L1) (w := nI w) (o := nI (2 ^ n - 2 ^ (w + 1))) (q := q) (t := nI (t + 1)) (v1 := 1) (v2 := 1) (σ1 := ub σ 32 L2) (σ2 := ub σ 32 L3) (by omega) nt (by decide) (by decide) (by rw [m2]; exact r1') g1
          rw [m2] at this
          exact this
        · rw [g2 _ (by omega)]
          exact r3 e (by omega) ((tbo e he2).mpr he1) m'
        · have hwe := (tbs e he).mp z
          by_cases ew : e = w
          · subst ew; rw [gset_s]; exact h1 m m3
          · rw [gset_n ew]
            have z2 := (tbo e he).mpr (by omega)
            exact ((r3 e (by omega) z2 (p e)).mp (g5 e he z2)).1
        · have hwi := (tbs i hi).mp z1
          have hwj := (tbs j hj).mp z2
          by_cases iw : i = w
          · subst iw
            have jw : j ≠ i := fun y => hij y.symm
            have y2 := (tbo j hj).mpr (by omega)
            rw [gset_s, gset_n jw]
            exact ((r3 j (by omega) y2 (p j)).mp (g5 j hj y2)).2
          · have y1 := (tbo i hi).mpr (by omega)
            by_cases jw : j = w
            · subst jw
              rw [gset_s, gset_n iw, CF_sym]
              exact ((r3 i (by omega) y1 (p i)).mp (g5 i hi y1)).2
            · have y2 := (tbo j hj).mpr (by omega)
              rw [gset_n iw, gset_n jw]
              exact g6 i j hi hj hij y1 y2
      · obtain ⟨m', L', n0, n1, n2⟩ := next L3 g4 (fun p z y => g5 p ⟨fun e he q1 => by
          have q3 := (tbo e he).mp q1
          have q2 := (tbs e he).mpr (by omega)
          refine (r3 e (by omega) q1 (p e)).mpr ⟨z.1 e he q2, ?_⟩
          rw [← y]
          exact z.2 w e hw he (by omega) ((tbs w hw).mpr (Nat.le_refl _)) q2, fun i j hi hj hij q1 q2 => z.2 i j hi hj hij ((tbs i hi).mpr (by have := (tbo i hi).mp q1; omega)) ((tbs j hj).mpr (by have := (tbo j hj).mp q2; omega))⟩)
        exact ⟨m', L', n0, vx_fth_p2 (v1 := 1) (v2 := 0) (σ1 := ub σ 32 L2) (σ2 := ub σ 32 L3) (by omega) nt (by decide) rfl (by rw [m2]; exact r1') g1 n1, n2⟩
    · have en : e < n := tb_n n (by omega) _ sw_lt e e1 e2
      have q3 := (tbo e en).mp e2
      have q2 := (tbs e en).mpr (by omega)
      obtain ⟨m', L', n0, n1, n2⟩ := next L2 r2 (fun p z y => e3 (p e) ⟨z.1 e en q2, by
        rw [← y]
        exact z.2 w e hw en (by omega) ((tbs w hw).mpr (Nat.le_refl _)) q2⟩)
      exact ⟨m', L', n0, vx_fth_p1 (v1 := 0) (v2 := 0) (σ1 := ub σ 32 L2) (σ2 := σ) (by omega) nt rfl (by rw [m2]; exact r1') n1, n2⟩
/-- the rows, the wishes ahead of w having their minutes -/
def mpI (P : pd_T) (σ : mm_S) (n T w : Nat) (p : Nat → Nat) (L : Nat → Int64) : Prop := (∀ e, w ≤ e → e < n → ∀ m, bt (L (6 * w + e)) m = true ↔ (m ≤ T ∧ ∀ a, a < w → ¬ CF P (kkc σ) (ccc σ) a e (p a) m)) ∧ (∃ p', pok P (kkc σ) (ccc σ) n (2 ^ n - 1) T p' ∧ ∀ a, a < w → p' a = p a) ∧ ∀ p', pok P (kkc σ) (ccc σ) n (2 ^ n - 1) T p' → ∀ i, i < w → (∀ j, j < i → p' j = p j) → p i ≤ p' i
theorem cpx_pok {T w : Nat} {p p' : Nat → Nat} {L : Nat → Int64} (h6 : n ≤ 6) (hw : w ≤ n) (hI : mpI P σ n T w p L) (he : ∀ a, a < w → p' a = p a) : CPX P σ n w (2 ^ n - 2 ^ w) L p' ↔ pok P (kkc σ) (ccc σ) n (2 ^ n - 1) T p' := by
  have T1 := sw_tb n (by omega) w hw
  have tbs : ∀ e, e < n → (tb (2 ^ n - 2 ^ w) e = true ↔ w ≤ e) := fun e he => by rw [T1 e (by omega)]; simp [he]
  constructor
  · rintro ⟨a, b⟩
    obtain ⟨p0, ⟨c1, c2⟩, c3⟩ := hI.2.1
    have row : ∀ e, w ≤ e → e < n → p' e ≤ T ∧ ∀ a, a < w → ¬ CF P (kkc σ) (ccc σ) a e (p a) (p' e) := fun e h1 h2 => (hI.1 e h1 h2 (p' e)).mp (a e h2 ((tbs e h2).mpr h1))
    refine ⟨fun i hi _ => ?_, fun i j hij hj z1 z2 => ?_⟩
    · rcases Nat.lt_or_ge i w with q | q
      · rw [he i q, ← c3 i q]; exact c1 i hi (all_tb h6 hi)
      · exact (row i q hi).1
    · rcases Nat.lt_or_ge j w with q | q
      · rw [he i (by omega), he j q, ← c3 i (by omega), ← c3 j q]
        exact c2 i j hij hj z1 z2
      · rcases Nat.lt_or_ge i w with y | y
        · rw [he i y]; exact (row j q hj).2 i y
        · exact b i j (by omega) hj (by omega) ((tbs i (by omega)).mpr y) ((tbs j hj).mpr q)
  · rintro ⟨a, b⟩
    have two : ∀ i j, i < n → j < n → i ≠ j → ¬ CF P (kkc σ) (ccc σ) i j (p' i) (p' j) := fun i j hi hj hij => by
      rcases Nat.lt_or_ge i j with q | q
      · exact b i j q hj (all_tb h6 hi) (all_tb h6 hj)
      · rw [CF_sym]; exact b j i (by omega) hi (all_tb h6 hj) (all_tb h6 hi)
    refine ⟨fun e h1 h2 => ?_, fun i j hi hj hij _ _ => two i j hi hj hij⟩
    have hwe := (tbs e h1).mp h2
    refine (hI.1 e hwe h1 (p' e)).mpr ⟨a e h1 (all_tb h6 h1), fun a' ha => ?_⟩
    rw [← he a' ha]
    exact two a' e (by omega) h1 (by omega)
theorem c_mp_w {τ : mm_S} {T : Nat} (hd : 12 ≤ d) (ht : tiX P τ n) (h6 : n ≤ 6) : ∀ (i w : Nat), w + i = n → ∀ (p : Nat → Nat) (Qp : Nat → Int32) (L : Nat → Int64), mpI P τ n T w p L → (∀ a, a < w → Qp a = nI (p a)) → ∃ (p' : Nat → Nat) (Q' : Nat → Int32) (L' : Nat → Int64), mm_Runs d 29 (49, [some (.ref 29), some (.int (nI n)), some (.int (nI (2 ^ n - 1))), none, some (.int (nI w))], [], HH x (ub (ua τ 35 Qp) 32 L)) (none, HH x (ui (ub (ua τ 35 Q') 32 L') 2904 1)) ∧ (∀ a, a < n → Q' a = nI (p' a)) ∧ pok P (kkc τ) (ccc τ) n (2 ^ n - 1) T p' ∧ ∀ p2, pok P (kkc τ) (ccc τ) n (2 ^ n - 1) T p2 → ∀ i, i < n → (∀ j, j < i → p2 j = p' j) → p' i ≤ p2 i
  | 0, w, h, p, Qp, L, hI, hQ => by
    have e : w = n := by omega
    subst e
    obtain ⟨p0, c1, c2⟩ := hI.2.1
    refine ⟨p, Qp, L, vx_mpw_p0 (v1 := 0) (σ1 := τ) (by omega) (nI_le (Nat.le_refl _) (by omega)), hQ, ?_, hI.2.2⟩
    refine ⟨fun i hi z => ?_, fun i j hij hj z1 z2 => ?_⟩
    · rw [← c2 i hi]; exact c1.1 i hi z
    · rw [← c2 i (by omega), ← c2 j hj]; exact c1.2 i j hij hj z1 z2
  | i + 1, w, h, p, Qp, L, hI, hQ => by
    have h64 := p2_64 h6
    have hw : w < n := by omega
    have ht' : tiX P (ua τ 35 Qp) n := ht
    have cw : (nI w).toNatClampNeg = w := nI_clamp (by omega)
    obtain ⟨p0, c1, c2⟩ := id hI.2.1
    have hI' : mpI P (ua τ 35 Qp) n T w p L := hI
    obtain ⟨m, L', m1, r1, r2, ⟨pm, r3, r4⟩, r5⟩ := c_ft_h (d := d - 1) (x := x) (L := L) (by omega) ht' h6 hw (ct64 (L (6 * w + w))) (L (6 * w + w)) L rfl (fun _ z => z) (fun _ _ => rfl) (fun p' z => z.1 w hw (by rw [sw_tb n (by omega) w (by omega) w (by omega)]; simp [hw])) ⟨p0, (cpx_pok h6 (by omega) hI' c2).mpr c1⟩
    -- the plan so far
    obtain ⟨pg, hpg⟩ : ∃ pg : Nat → Nat, pg = fun a => if a < w then p a else pm a := ⟨_, rfl⟩
    have pg1 : ∀ a, a < w → pg a = p a := fun a ha => by rw [hpg]; simp [ha]
    have pg2 : ∀ a, w ≤ a → pg a = pm a := fun a ha => by
      rw [hpg]
      have : ¬ a < w := by omega
      simp [this]
    have T1 := sw_tb n (by omega) w (by omega)
    have tbs : ∀ e, e < n → (tb (2 ^ n - 2 ^ w) e = true ↔ w ≤ e) := fun e he => by rw [T1 e (by omega)]; simp [he]
    have cpg : CPX P (ua τ 35 Qp) n w (2 ^ n - 2 ^ w) L pg := ⟨fun e he z => by rw [pg2 e ((tbs e he).mp z)]; exact r3.1 e he z, fun i j hi hj hij z1 z2 => by
      rw [pg2 i ((tbs i hi).mp z1), pg2 j ((tbs j hj).mp z2)]; exact r3.2 i j hi hj hij z1 z2⟩
    have okg := (cpx_pok h6 (by omega) hI' pg1).mp cpg
    have hI2 : mpI P τ n T (w + 1) (gset p w m) L' := by
      refine ⟨fun e he1 he2 m' => ?_, ⟨pg, okg, fun a ha => ?_⟩, fun p' z i hi hj => ?_⟩
      · rw [r2 e (by omega) he2 m']
        have hb := hI.1 e (by omega) he2 m'
        constructor
        · rintro ⟨y1, y2⟩
          obtain ⟨y3, y4⟩ := hb.mp y1
          refine ⟨y3, fun a ha => ?_⟩
          rcases Nat.lt_or_ge a w with q | q
          · rw [gset_n (by omega)]; exact y4 a q
          · rw [show a = w by omega, gset_s]; exact y2
        · rintro ⟨y1, y2⟩
          refine ⟨hb.mpr ⟨y1, fun a ha => ?_⟩, ?_⟩
          · have := y2 a (by omega)
            rw [gset_n (by omega)] at this; exact this
          · have := y2 w (by omega)
            rw [gset_s] at this; exact this
      · rcases Nat.lt_or_ge a w with q | q
        · rw [gset_n (by omega), pg1 a q]
        · rw [show a = w by omega, gset_s, pg2 w (Nat.le_refl _)]; exact r4
      · rcases Nat.lt_or_ge i w with q | q
        · rw [gset_n (by omega)]
          refine hI.2.2 p' z i q (fun j hj2 => ?_)
          rw [hj j hj2, gset_n (by omega)]
        · have ei : i = w := by omega
          subst ei
          rw [gset_s]
          have ext : ∀ a, a < i → p' a = p a := fun a ha => by rw [hj a ha, gset_n (by omega)]
          exact r5 p' ((cpx_pok h6 (by omega) hI' ext).mpr z)
    obtain ⟨p', Q', L2, b1, b2⟩ := c_mp_w hd ht h6 i (w + 1) (by omega) (gset p w m) (upd Qp w (nI m)) L' hI2 (fun a ha => by
      rcases Nat.lt_or_ge a w with q | q
      · rw [pk_un (by omega), gset_n (by omega)]; exact hQ a q
      · rw [show a = w by omega, pk_us, gset_s])
    refine ⟨p', Q', L2, vx_mpw_p1 (v1 := nI m) (σ1 := ub (ua τ 35 Qp) 32 L') (by omega) (nI_ge hw (by omega)) ?_ (nI_in (by omega) (by omega)) ?_, b2⟩
    · rw [sw_o n (by omega) w hw]
      have ei : ((nI w * (6 : Int32)) + nI w).toNatClampNeg = 6 * w + w := by rw [w6, nI_clamp (by omega)]
      refine vx_ft0_p0 (by omega) (by rw [w6]; exact nI_in (by omega) (by omega)) ?_
      rw [ei]
      show mm_Runs (d - 1) 30 (18, [some (.ref 29), some (.int (nI w)), some (.int (nI (2 ^ n - 2 ^ (w + 1)))), some (.long (L (6 * w + w))), none, some (.int (bc64 (L (6 * w + w)))), none], [], HH x (ub (ua τ 35 Qp) 32 L)) _
      rw [bc64_ct]
      exact r1
    · rw [cw, nI_1]
      have e2 : ua (ub (ua τ 35 Qp) 32 L') 35 (upd ((ub (ua τ 35 Qp) 32 L').2.2.1 35) w (nI m)) = ub (ua τ 35 (upd Qp w (nI m))) 32 L' := by
        rw [← ua_2 τ 35 Qp (upd Qp w (nI m))]; rfl
      rw [e2]
      exact b1
theorem c_lg {w u : Nat} (hd : 2 ≤ d) (hwf : pd_wf P) (hn : pd_n P ≤ 42) (ht : tiX P σ n) (h6 : n ≤ 6) (hw : w < n) (hu : u < n) (hwu : w ≠ u) : ∃ e, e ≤ 42 ∧ (∀ g, g < e → pd_mt P (kkc σ w) (ccc σ w) (kkc σ u) (ccc σ u) g) ∧ mm_Runs d 26 (0, [some (.ref 29), some (.int (nI w)), some (.int (nI u))], [], HH x σ) (some (.int (nI e)), HH x σ) := by
  have hti := ht w u hw hu hwu
  have nb : ∀ g, g < 64 → (bt ((σ.2.2.2 30 (6 * w + u)) ^^^ (-1 : Int64)) g = true ↔ ¬ pd_mt P (kkc σ w) (ccc σ w) (kkc σ u) (ccc σ u) g) := fun g hg => by
    rw [bt_not hg]
    have h1 := (hti g hg).1
    cases hb : bt (σ.2.2.2 30 (6 * w + u)) g with
    | false =>
      rw [hb] at h1
      exact ⟨fun _ z => absurd (h1.mpr z) (by decide), fun _ => rfl⟩
    | true =>
      rw [hb] at h1
      exact ⟨fun z => absurd z (by decide), fun z => absurd (h1.mp rfl) z⟩
  have b42 := (nb 42 (by omega)).mpr (fun z => by have := mt_42 hwf hn z; omega)
  obtain ⟨e, e1, e2, e3, e4⟩ := low_ex (bt_nz b42)
  have c9 := vx_lg_p0 (d := d) (x := x) (σ := σ) (i := nI w) (j := nI u) hd (by rw [w6]; exact nI_in (by omega) (by omega))
  rw [w6, nI_clamp (by omega), e2] at c9
  refine ⟨e, ?_, fun g hg => ?_, c9⟩
  · rcases Nat.lt_or_ge 42 e with q | q
    · rw [e4 42 q] at b42; cases b42
    · exact q
  · refine Classical.byContradiction fun z => ?_
    have := (nb g (by omega)).mpr z
    rw [e4 g hg] at this; cases this
theorem c_wp_j {i : Nat} (hd : 3 ≤ d) (hwf : pd_wf P) (hn : pd_n P ≤ 42) (ht : tiX P σ n) (h6 : n ≤ 6) (hi : i < n) : ∀ (k j : Nat), j + k = n → i < j → ∀ l, l ≤ 42 → (∀ T p, pok P (kkc σ) (ccc σ) n (2 ^ n - 1) T p → l ≤ T) → ∃ l', l' ≤ 42 ∧ (∀ T p, pok P (kkc σ) (ccc σ) n (2 ^ n - 1) T p → l' ≤ T) ∧ ∀ r, mm_Runs d 31 (4, [some (.ref 29), some (.int (nI n)), some (.int (nI l')), some (.int (nI (i + 1))), none], [], HH x σ) r → mm_Runs d 31 (14, [some (.ref 29), some (.int (nI n)), some (.int (nI l)), some (.int (nI i)), some (.int (nI j))], [], HH x σ) r
  | 0, j, h, hij, l, hl, hb => ⟨l, hl, hb, fun r k => vx_wpj_p0 (v1 := 0) (v2 := 0) (by omega) (nI_le (by omega) (by omega)) (by rw [nI_1]; exact k)⟩
  | k + 1, j, h, hij, l, hl, hb => by
    obtain ⟨a, a1, a2, a3⟩ := c_lg (d := d - 1) (x := x) (by omega) hwf hn ht h6 hi (show j < n by omega) (by omega)
    obtain ⟨b, b1, b2, b3⟩ := c_lg (d := d - 1) (x := x) (by omega) hwf hn ht h6 (show j < n by omega) hi (by omega)
    have emin : (if nI b < nI a then nI b else nI a) = nI (min a b) := by
      rcases Nat.lt_or_ge b a with q | q
      · rw [if_pos (nI_lt q (by omega)), Nat.min_eq_right (by omega)]
      · rw [if_neg (nI_nlt q (by omega)), Nat.min_eq_left q]
    have emax : (if nI l < nI (min a b) then nI (min a b) else nI l) = nI (max l (min a b)) := mx_if (by omega) (by omega)
    obtain ⟨l', c1, c2, c3⟩ := c_wp_j hd hwf hn ht h6 hi k (j + 1) (by omega) (by omega) (max l (min a b)) (by omega) (fun T p hp => by
      have h1 := hb T p hp
      have h2 := hp.1 i hi (all_tb h6 hi)
      have h3 := hp.1 j (by omega) (all_tb h6 (by omega))
      have h4 := hp.2 i j hij (by omega) (all_tb h6 hi) (all_tb h6 (by omega))
      refine Nat.max_le.mpr ⟨h1, ?_⟩
      rcases Nat.lt_or_ge (p j) (p i) with q | q
      · have : ¬ p i - p j < b := fun z => h4 (Or.inr ⟨q, b2 _ z⟩)
        omega
      · have : ¬ p j - p i < a := fun z => h4 (Or.inl ⟨q, a2 _ z⟩)
        omega)
    refine ⟨l', c1, c2, fun r k => vx_wpj_p1 (v1 := nI a) (v2 := nI b) (by omega) (nI_ge (by omega) (by omega)) a3 b3 ?_⟩
    rw [emin, emax, nI_1]
    exact c3 r k
theorem c_wp_i (hd : 3 ≤ d) (hwf : pd_wf P) (hn : pd_n P ≤ 42) (ht : tiX P σ n) (h6 : n ≤ 6) : ∀ (k i : Nat), i + k = n → ∀ l, l ≤ 42 → (∀ T p, pok P (kkc σ) (ccc σ) n (2 ^ n - 1) T p → l ≤ T) → ∃ l', l' ≤ 42 ∧ (∀ T p, pok P (kkc σ) (ccc σ) n (2 ^ n - 1) T p → l' ≤ T) ∧ mm_Runs d 31 (4, [some (.ref 29), some (.int (nI n)), some (.int (nI l)), some (.int (nI i)), none], [], HH x σ) (some (.int (nI l')), HH x σ)
  | 0, i, h, l, hl, hb => ⟨l, hl, hb, vx_wpi_p0 (nI_le (by omega) (by omega))⟩
  | k + 1, i, h, l, hl, hb => by
    obtain ⟨l1, a1, a2, a3⟩ := c_wp_j (d := d) (x := x) hd hwf hn ht h6 (show i < n by omega) (n - (i + 1)) (i + 1) (by omega) (by omega) l hl hb
    obtain ⟨l', b1, b2, b3⟩ := c_wp_i hd hwf hn ht h6 k (i + 1) (by omega) l1 a1 a2
    exact ⟨l', b1, b2, vx_wpi_p1 (nI_ge (by omega) (by omega)) (by rw [nI_1]; exact a3 _ b3)⟩
/-- what planning may change -/
def SP (σ σ' : mm_S) : Prop := FR [2800, 2801, 3717, 3718, 3719, 2904, 2907] [1302] [15, 33, 34, 36, 49, 50, 35] [14, 32] σ σ'
theorem c_mp_l (hd : 12 ≤ d) (ht : tiX P σ n) (h6 : n ≤ 6) (h63 : ∃ p, pok P (kkc σ) (ccc σ) n (2 ^ n - 1) 63 p) : ∀ (k l : Nat), l + k = 63 → (∀ T p, pok P (kkc σ) (ccc σ) n (2 ^ n - 1) T p → l ≤ T) → ∀ (W : Nat → Int32) (L : Nat → Int64), ∃ (T : Nat) (p : Nat → Nat) (σ' : mm_S), T ≤ 63 ∧ mm_Runs d 29 (20, [some (.ref 29), some (.int (nI n)), some (.int (nI (2 ^ n - 1))), some (.int (nI l)), none], [], HH x (ub (ua σ 33 W) 32 L)) (none, HH x σ') ∧ SP σ σ' ∧ (σ'.2.1 1302 = σ.2.1 1302 ∧ σ'.2.2.1 15 = σ.2.2.1 15 ∧ σ'.2.2.2 14 = σ.2.2.2 14) ∧ σ'.1 2904 = 1 ∧ σ'.1 2907 = nI T ∧ (∀ a, a < n → σ'.2.2.1 35 a = nI (p a)) ∧ pok P (kkc σ) (ccc σ) n (2 ^ n - 1) T p ∧ (∀ T' p', pok P (kkc σ) (ccc σ) n (2 ^ n - 1) T' p' → T ≤ T') ∧ ∀ p2, pok P (kkc σ) (ccc σ) n (2 ^ n - 1) T p2 → ∀ i, i < n → (∀ j, j < i → p2 j = p j) → p i ≤ p2 i
  | k, l, h, hb, W, L => by
    have h64 := p2_64 h6
    have h1 : 1 ≤ 2 ^ n := Nat.one_le_two_pow
    have ht' : tiX P (ub (ua σ 33 W) 32 L) n := ht
    obtain ⟨v, W1, L1, r1, r2, r3⟩ := c_canThrow (d := d - 1) (x := x) (σ := ub (ua σ 33 W) 32 L) (s := 2 ^ n - 1) (T := l) (by omega) ht' h6 (by omega) (by omega)
    have est : ub (ua (ub (ua σ 33 W) 32 L) 33 W1) 32 L1 = ub (ua σ 33 W1) 32 L1 := by
      rw [← ub_2 (ua σ 33 W1) 32 L L1, ← ua_2 σ 33 W W1]; rfl
    rw [est] at r1
    have r3' : (v = 1 ∧ ∃ p, pok P (kkc σ) (ccc σ) n (2 ^ n - 1) l p) ∨ (v = 0 ∧ ∀ p, ¬ pok P (kkc σ) (ccc σ) n (2 ^ n - 1) l p) := r3
    rcases r3' with ⟨rfl, p0, r4⟩ | ⟨rfl, r4⟩
    · obtain ⟨τ, hτ⟩ : ∃ τ, τ = ui (ua σ 33 W1) 2907 (nI l) := ⟨_, rfl⟩
      have htτ : tiX P τ n := by rw [hτ]; exact ht
      have ekτ : kkc τ = kkc σ := by rw [hτ]; rfl
      have ecτ : ccc τ = ccc σ := by rw [hτ]; rfl
      obtain ⟨p, Q', L', b1, b2, b3, b4⟩ := c_mp_w (d := d) (x := x) (τ := τ) (T := l) hd htτ h6 n 0 (by omega) p0 (τ.2.2.1 35) L1 ⟨fun e _ he m => by
        rw [Nat.mul_zero, Nat.zero_add, r2 e (by omega), decide_eq_true_eq]
        exact ⟨fun z => ⟨z, fun a ha => absurd ha (by omega)⟩, fun z => z.1⟩, ⟨p0, by rw [ekτ, ecτ]; exact r4, fun _ _ => rfl⟩, fun p' _ i hi => absurd hi (by omega)⟩ (fun a ha => absurd ha (by omega))
      rw [ua_self] at b1
      rw [ekτ, ecτ] at b3 b4
      refine ⟨l, p, ui (ub (ua τ 35 Q') 32 L') 2904 1, by omega, vx_mpl_p0 (v1 := 1) (σ1 := ub (ua σ 33 W1) 32 L1) (by omega) (by decide) r1 ?_, ?_, ?_, rfl, ?_, (fun a ha => (show Q' a = nI (p a) from b2 a ha)), b3, hb, b4⟩
      · have e3 : ui (ub (ua σ 33 W1) 32 L1) 2907 (nI l) = ub τ 32 L1 := by rw [hτ]; rfl
        rw [e3]
        exact b1
      · rw [hτ]
        exact FR_ui rfl (FR_ub rfl (FR_ua rfl (FR_ui rfl (FR_ua rfl (FR_refl _ _ _ _ _)))))
      · rw [hτ]; exact ⟨rfl, rfl, rfl⟩
      · rw [hτ]; rfl
    · have nx : ∀ T p, pok P (kkc σ) (ccc σ) n (2 ^ n - 1) T p → l + 1 ≤ T := fun T p hp => by
        have := hb T p hp
        rcases Nat.lt_or_ge l T with q | q
        · exact q
        · rw [show T = l by omega] at hp; exact absurd hp (r4 p)
      match k, h with
      | 0, h =>
        exfalso
        obtain ⟨p, hp⟩ := h63
        have := nx 63 p hp
        omega
      | k + 1, h =>
        obtain ⟨T, p, σ', c1, c2, c3⟩ := c_mp_l hd ht h6 h63 k (l + 1) (by omega) nx W1 L1
        exact ⟨T, p, σ', c1, vx_mpl_p2 (v1 := 0) (σ1 := ub (ua σ 33 W1) 32 L1) (by omega) rfl (nI_ge (b := 63) (by omega) (by omega)) r1 (by rw [nI_1]; exact c2), c3⟩
end SO

