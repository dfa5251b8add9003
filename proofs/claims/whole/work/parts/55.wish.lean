/-! wish (written by wip/whole/t55.py) -/
set_option maxRecDepth 100000 in
theorem vx_lp0 {d : Nat} {x : Nat × (Nat → Int32)} {σ : mm_S} {i j : Nat}  {v1 : Int32} {σ1 : mm_S} {r : Option Value × mm_H} (hd : 1 ≤ d) (k1 : ¬ ((nI i) < 0 ∨ 6 ≤ (nI i).toNatClampNeg)) (k2 : ¬ ((nI i) < 0 ∨ 6 ≤ (nI i).toNatClampNeg)) (k3 : ¬ (((σ.2.2.1 21) (nI i).toNatClampNeg) < 0 ∨ 3 ≤ ((σ.2.2.1 21) (nI i).toNatClampNeg).toNatClampNeg)) (k4 : mm_Runs (d - 1) 11 (0, [some (.ref 13), some (.int ((σ.2.2.1 22) (nI i).toNatClampNeg)), some (.int (f_reach_20 σ (nI i)))], [], HH x σ) (some (.int v1), HH x σ1)) (k5 : mm_Runs d 25 (28, [some (.ref 29), some (.int (nI i)), some (.int (nI j)), some (.ref 13), some (.ref 20), some (.ref 28), some (.long (0 : Int64)), none, some (.long (0 : Int64)), none, some (.int v1), some (.int (0 : Int32))], [], HH x σ1) r) : mm_Runs d 25 (0, [some (.ref 29), some (.int (nI i)), some (.int (nI j)), some (.ref 13), some (.ref 20), some (.ref 28), none, none, none, none, none, none], [], HH x σ) r := by
  refine mm_go 8 (F' := (13, [some (.ref 29), some (.int (nI i)), some (.int (nI j)), some (.ref 13), some (.ref 20), some (.ref 28), some (.long (0 : Int64)), none, some (.long (0 : Int64)), none, none, none], [.int (nI i), .ref 22, .ref 13], HH x σ)) rfl ?_
  refine mm_gd (F' := (14, [some (.ref 29), some (.int (nI i)), some (.int (nI j)), some (.ref 13), some (.ref 20), some (.ref 28), some (.long (0 : Int64)), none, some (.long (0 : Int64)), none, none, none], [.int ((σ.2.2.1 22) (nI i).toNatClampNeg), .ref 13], HH x σ)) rfl k1 ?_
  refine mm_go 2 (F' := (17, [some (.ref 29), some (.int (nI i)), some (.int (nI j)), some (.ref 13), some (.ref 20), some (.ref 28), some (.long (0 : Int64)), none, some (.long (0 : Int64)), none, none, none], [.int (nI i), .ref 20, .int ((σ.2.2.1 22) (nI i).toNatClampNeg), .ref 13], HH x σ)) rfl ?_
  refine mm_kl (z := 1) (as := [.ref 20, .int (nI i)]) (S' := [.int ((σ.2.2.1 22) (nI i).toNatClampNeg), .ref 13]) (L2 := [some (.ref 20), some (.int (nI i))]) (v := some (.int (f_reach_20 σ (nI i)))) (h1 := HH x σ) rfl rfl rfl rfl rfl (by omega) (r_reach_20 (by omega) k2 k3) ?_
  show mm_Runs d 25 (20, [some (.ref 29), some (.int (nI i)), some (.int (nI j)), some (.ref 13), some (.ref 20), some (.ref 28), some (.long (0 : Int64)), none, some (.long (0 : Int64)), none, none, none], [.int (f_reach_20 σ (nI i)), .int ((σ.2.2.1 22) (nI i).toNatClampNeg), .ref 13], HH x σ) r
  refine mm_kl (z := 11) (as := [.ref 13, .int ((σ.2.2.1 22) (nI i).toNatClampNeg), .int (f_reach_20 σ (nI i))]) (S' := []) (L2 := [some (.ref 13), some (.int ((σ.2.2.1 22) (nI i).toNatClampNeg)), some (.int (f_reach_20 σ (nI i)))]) (v := some (.int v1)) (h1 := HH x σ1) rfl rfl rfl rfl rfl (by omega) k4 ?_
  show mm_Runs d 25 (23, [some (.ref 29), some (.int (nI i)), some (.int (nI j)), some (.ref 13), some (.ref 20), some (.ref 28), some (.long (0 : Int64)), none, some (.long (0 : Int64)), none, none, none], [.int v1], HH x σ1) r
  refine mm_go 3 (F' := (28, [some (.ref 29), some (.int (nI i)), some (.int (nI j)), some (.ref 13), some (.ref 20), some (.ref 28), some (.long (0 : Int64)), none, some (.long (0 : Int64)), none, some (.int v1), some (.int (0 : Int32))], [], HH x σ1)) rfl ?_
  exact mm_wk (by exact (And.intro rfl (And.intro rfl (And.intro rfl (And.intro rfl (And.intro rfl (And.intro rfl (And.intro rfl (And.intro rfl (And.intro rfl (And.intro rfl True.intro))))))))))) k5
theorem vx_lp0_p0 {d : Nat} {x : Nat × (Nat → Int32)} {σ : mm_S} {i j : Nat}  {v1 : Int32} {σ1 : mm_S} {r : Option Value × mm_H} (hd : 1 ≤ d) (g1 : ¬ ((nI i) < 0 ∨ 6 ≤ (nI i).toNatClampNeg)) (g2 : ¬ (((σ.2.2.1 21) (nI i).toNatClampNeg) < 0 ∨ 3 ≤ ((σ.2.2.1 21) (nI i).toNatClampNeg).toNatClampNeg)) (g3 : mm_Runs (d - 1) 11 (0, [some (.ref 13), some (.int ((σ.2.2.1 22) (nI i).toNatClampNeg)), some (.int (f_reach_20 σ (nI i)))], [], HH x σ) (some (.int v1), HH x σ1)) (kk : mm_Runs d 25 (28, [some (.ref 29), some (.int (nI i)), some (.int (nI j)), some (.ref 13), some (.ref 20), some (.ref 28), some (.long (0 : Int64)), none, some (.long (0 : Int64)), none, some (.int v1), some (.int (0 : Int32))], [], HH x σ1) r) : mm_Runs d 25 (0, [some (.ref 29), some (.int (nI i)), some (.int (nI j)), some (.ref 13), some (.ref 20), some (.ref 28), none, none, none, none, none, none], [], HH x σ) r := vx_lp0 (v1 := v1) (σ1 := σ1) hd g1 g1 g2 g3 kk
set_option maxRecDepth 100000 in
theorem vx_lph {d : Nat} {x : Nat × (Nat → Int32)} {σ : mm_S} {i j m g : Int32} {p q : Int64}  {v1 : Int32} {σ1 : mm_S} {r : Option Value × mm_H} (hd : 1 ≤ d) (k1 : m ≤ g → mm_Runs d 25 (77, [some (.ref 29), some (.int i), some (.int j), none, none, none, some (.long p), none, some (.long q), none, none, none], [], HH x σ) r) (k2 : ¬ m ≤ g → mm_Runs (d - 1) 5 (0, [some (.ref 28), some (.ref 13), some (.ref 20), some (.int i), some (.int j), some (.int g), none, none, none, none, none, none, none, none, none, none, none, none, none, none, none], [], HH x σ) (some (.int v1), HH x σ1)) (k3 : ¬ m ≤ g → v1 = 0 → mm_Runs d 25 (28, [some (.ref 29), some (.int i), some (.int j), some (.ref 13), some (.ref 20), some (.ref 28), some (.long p), none, some (.long q), none, some (.int m), some (.int (g + (1 : Int32)))], [], HH x σ1) r) (k4 : ¬ m ≤ g → ¬ v1 = 0 → mm_Runs d 25 (28, [some (.ref 29), some (.int i), some (.int j), some (.ref 13), some (.ref 20), some (.ref 28), some (.long (p ||| ((1 : Int64) <<< (Int32.toInt64 g &&& 63)))), none, some (.long (q ||| ((1 : Int64) <<< (Int32.toInt64 ((63 : Int32) - g) &&& 63)))), none, some (.int m), some (.int (g + (1 : Int32)))], [], HH x σ1) r) : mm_Runs d 25 (28, [some (.ref 29), some (.int i), some (.int j), some (.ref 13), some (.ref 20), some (.ref 28), some (.long p), none, some (.long q), none, some (.int m), some (.int g)], [], HH x σ) r := by
  refine mm_go 3 (F' := (bif mm_cond .ge g m then 77 else 35, [some (.ref 29), some (.int i), some (.int j), some (.ref 13), some (.ref 20), some (.ref 28), some (.long p), none, some (.long q), none, some (.int m), some (.int g)], [], HH x σ)) rfl ?_
  refine mb_ge (fun h1 => ?_) (fun h1 => ?_)
  · exact mm_wk (by exact (And.intro rfl (And.intro rfl (And.intro rfl (And.intro rfl (And.intro rfl True.intro)))))) (k1 h1)
  · refine mm_go 6 (F' := (44, [some (.ref 29), some (.int i), some (.int j), some (.ref 13), some (.ref 20), some (.ref 28), some (.long p), none, some (.long q), none, some (.int m), some (.int g)], [.int g, .int j, .int i, .ref 20, .ref 13, .ref 28], HH x σ)) rfl ?_
    refine mm_kl (z := 5) (as := [.ref 28, .ref 13, .ref 20, .int i, .int j, .int g]) (S' := []) (L2 := [some (.ref 28), some (.ref 13), some (.ref 20), some (.int i), some (.int j), some (.int g), none, none, none, none, none, none, none, none, none, none, none, none, none, none, none]) (v := some (.int v1)) (h1 := HH x σ1) rfl rfl rfl rfl rfl (by omega) (k2 h1) ?_
    show mm_Runs d 25 (47, [some (.ref 29), some (.int i), some (.int j), some (.ref 13), some (.ref 20), some (.ref 28), some (.long p), none, some (.long q), none, some (.int m), some (.int g)], [.int v1], HH x σ1) r
    refine mm_go 1 (F' := (bif mm_cond .eq v1 0 then 71 else 50, [some (.ref 29), some (.int i), some (.int j), some (.ref 13), some (.ref 20), some (.ref 28), some (.long p), none, some (.long q), none, some (.int m), some (.int g)], [], HH x σ1)) rfl ?_
    refine mb_eq (fun h2 => ?_) (fun h2 => ?_)
    · refine mm_go 2 (F' := (28, [some (.ref 29), some (.int i), some (.int j), some (.ref 13), some (.ref 20), some (.ref 28), some (.long p), none, some (.long q), none, some (.int m), some (.int (g + (1 : Int32)))], [], HH x σ1)) rfl ?_
      exact mm_wk (by exact (And.intro rfl (And.intro rfl (And.intro rfl (And.intro rfl (And.intro rfl (And.intro rfl (And.intro rfl (And.intro rfl (And.intro rfl (And.intro rfl True.intro))))))))))) (k3 h1 h2)
    · refine mm_go 16 (F' := (28, [some (.ref 29), some (.int i), some (.int j), some (.ref 13), some (.ref 20), some (.ref 28), some (.long (p ||| ((1 : Int64) <<< (Int32.toInt64 g &&& 63)))), none, some (.long (q ||| ((1 : Int64) <<< (Int32.toInt64 ((63 : Int32) - g) &&& 63)))), none, some (.int m), some (.int (g + (1 : Int32)))], [], HH x σ1)) rfl ?_
      exact mm_wk (by exact (And.intro rfl (And.intro rfl (And.intro rfl (And.intro rfl (And.intro rfl (And.intro rfl (And.intro rfl (And.intro rfl (And.intro rfl (And.intro rfl True.intro))))))))))) (k4 h1 h2)
theorem vx_lph_p0 {d : Nat} {x : Nat × (Nat → Int32)} {σ : mm_S} {i j m g : Int32} {p q : Int64}  {v1 : Int32} {σ1 : mm_S} {r : Option Value × mm_H} (hd : 1 ≤ d) (h1 : m ≤ g) (kk : mm_Runs d 25 (77, [some (.ref 29), some (.int i), some (.int j), none, none, none, some (.long p), none, some (.long q), none, none, none], [], HH x σ) r) : mm_Runs d 25 (28, [some (.ref 29), some (.int i), some (.int j), some (.ref 13), some (.ref 20), some (.ref 28), some (.long p), none, some (.long q), none, some (.int m), some (.int g)], [], HH x σ) r := vx_lph (v1 := v1) (σ1 := σ1) hd (fun _ => kk) (fun  z => absurd h1 z) (fun  z _ => absurd h1 z) (fun  z _ => absurd h1 z)
theorem vx_lph_p1 {d : Nat} {x : Nat × (Nat → Int32)} {σ : mm_S} {i j m g : Int32} {p q : Int64}  {v1 : Int32} {σ1 : mm_S} {r : Option Value × mm_H} (hd : 1 ≤ d) (h1 : ¬ m ≤ g) (h2 : v1 = 0) (g1 : mm_Runs (d - 1) 5 (0, [some (.ref 28), some (.ref 13), some (.ref 20), some (.int i), some (.int j), some (.int g), none, none, none, none, none, none, none, none, none, none, none, none, none, none, none], [], HH x σ) (some (.int v1), HH x σ1)) (kk : mm_Runs d 25 (28, [some (.ref 29), some (.int i), some (.int j), some (.ref 13), some (.ref 20), some (.ref 28), some (.long p), none, some (.long q), none, some (.int m), some (.int (g + (1 : Int32)))], [], HH x σ1) r) : mm_Runs d 25 (28, [some (.ref 29), some (.int i), some (.int j), some (.ref 13), some (.ref 20), some (.ref 28), some (.long p), none, some (.long q), none, some (.int m), some (.int g)], [], HH x σ) r := vx_lph (v1 := v1) (σ1 := σ1) hd (fun  z => absurd z h1) (fun _ => g1) (fun _ _ => kk) (fun _ z => absurd h2 z)
theorem vx_lph_p2 {d : Nat} {x : Nat × (Nat → Int32)} {σ : mm_S} {i j m g : Int32} {p q : Int64}  {v1 : Int32} {σ1 : mm_S} {r : Option Value × mm_H} (hd : 1 ≤ d) (h1 : ¬ m ≤ g) (h2 : ¬ v1 = 0) (g1 : mm_Runs (d - 1) 5 (0, [some (.ref 28), some (.ref 13), some (.ref 20), some (.int i), some (.int j), some (.int g), none, none, none, none, none, none, none, none, none, none, none, none, none, none, none], [], HH x σ) (some (.int v1), HH x σ1)) (kk : mm_Runs d 25 (28, [some (.ref 29), some (.int i), some (.int j), some (.ref 13), some (.ref 20), some (.ref 28), some (.long (p ||| ((1 : Int64) <<< (Int32.toInt64 g &&& 63)))), none, some (.long (q ||| ((1 : Int64) <<< (Int32.toInt64 ((63 : Int32) - g) &&& 63)))), none, some (.int m), some (.int (g + (1 : Int32)))], [], HH x σ1) r) : mm_Runs d 25 (28, [some (.ref 29), some (.int i), some (.int j), some (.ref 13), some (.ref 20), some (.ref 28), some (.long p), none, some (.long q), none, some (.int m), some (.int g)], [], HH x σ) r := vx_lph (v1 := v1) (σ1 := σ1) hd (fun  z => absurd z h1) (fun _ => g1) (fun _ z => absurd z h2) (fun _ _ => kk)
set_option maxRecDepth 100000 in
theorem vx_lpx {d : Nat} {x : Nat × (Nat → Int32)} {σ : mm_S} {i j : Int32} {p q : Int64} {r : Option Value × mm_H} (k1 : mm_Runs d 25 (87, [some (.ref 29), some (.int i), some (.int j), none, none, none, some (.long p), none, some (.long q), none, none, none], [.int ((i * (6 : Int32)) + j), .ref 30], HH x σ) r) : mm_Runs d 25 (77, [some (.ref 29), some (.int i), some (.int j), none, none, none, some (.long p), none, some (.long q), none, none, none], [], HH x σ) r := by
  refine mm_go 7 (F' := (87, [some (.ref 29), some (.int i), some (.int j), none, none, none, some (.long p), none, some (.long q), none, none, none], [.int ((i * (6 : Int32)) + j), .ref 30], HH x σ)) rfl ?_
  exact mm_wk (by exact (And.intro rfl (And.intro rfl (And.intro rfl (And.intro rfl (And.intro rfl True.intro)))))) k1
theorem vx_lpx_p0 {d : Nat} {x : Nat × (Nat → Int32)} {σ : mm_S} {i j : Int32} {p q : Int64} {r : Option Value × mm_H}  (kk : mm_Runs d 25 (87, [some (.ref 29), some (.int i), some (.int j), none, none, none, some (.long p), none, some (.long q), none, none, none], [.int ((i * (6 : Int32)) + j), .ref 30], HH x σ) r) : mm_Runs d 25 (77, [some (.ref 29), some (.int i), some (.int j), none, none, none, some (.long p), none, some (.long q), none, none, none], [], HH x σ) r := vx_lpx kk
set_option maxRecDepth 100000 in
theorem vx_lpy {d : Nat} {x : Nat × (Nat → Int32)} {σ : mm_S} {i j a : Int32} {p q : Int64} {r : Option Value × mm_H} (k1 : ¬ (a < 0 ∨ 36 ≤ a.toNatClampNeg)) (k2 : mm_Runs d 25 (100, [none, none, none, none, none, none, none, none, some (.long q), none, none, none], [.int ((j * (6 : Int32)) + i), .ref 31], HH x (ub σ 30 (vp_updL (σ.2.2.2 30) a.toNatClampNeg p))) r) : mm_Runs d 25 (87, [some (.ref 29), some (.int i), some (.int j), none, none, none, some (.long p), none, some (.long q), none, none, none], [.int a, .ref 30], HH x σ) r := by
  refine mm_go 1 (F' := (89, [some (.ref 29), some (.int i), some (.int j), none, none, none, some (.long p), none, some (.long q), none, none, none], [.long p, .int a, .ref 30], HH x σ)) rfl ?_
  refine mm_gd (F' := (90, [some (.ref 29), some (.int i), some (.int j), none, none, none, some (.long p), none, some (.long q), none, none, none], [], HH x (ub σ 30 (vp_updL (σ.2.2.2 30) a.toNatClampNeg p)))) rfl k1 ?_
  refine mm_go 7 (F' := (100, [some (.ref 29), some (.int i), some (.int j), none, none, none, some (.long p), none, some (.long q), none, none, none], [.int ((j * (6 : Int32)) + i), .ref 31], HH x (ub σ 30 (vp_updL (σ.2.2.2 30) a.toNatClampNeg p)))) rfl ?_
  exact mm_wk (by exact (And.intro rfl True.intro)) k2
theorem vx_lpy_p0 {d : Nat} {x : Nat × (Nat → Int32)} {σ : mm_S} {i j a : Int32} {p q : Int64} {r : Option Value × mm_H}  (g1 : ¬ (a < 0 ∨ 36 ≤ a.toNatClampNeg)) (kk : mm_Runs d 25 (100, [none, none, none, none, none, none, none, none, some (.long q), none, none, none], [.int ((j * (6 : Int32)) + i), .ref 31], HH x (ub σ 30 (vp_updL (σ.2.2.2 30) a.toNatClampNeg p))) r) : mm_Runs d 25 (87, [some (.ref 29), some (.int i), some (.int j), none, none, none, some (.long p), none, some (.long q), none, none, none], [.int a, .ref 30], HH x σ) r := vx_lpy g1 kk
set_option maxRecDepth 100000 in
theorem vx_lpz {d : Nat} {x : Nat × (Nat → Int32)} {σ : mm_S} {a : Int32} {q : Int64} {r : Option Value × mm_H} (k1 : ¬ (a < 0 ∨ 36 ≤ a.toNatClampNeg)) (k2 : (none, HH x (ub σ 31 (vp_updL (σ.2.2.2 31) a.toNatClampNeg q))) = r) : mm_Runs d 25 (100, [none, none, none, none, none, none, none, none, some (.long q), none, none, none], [.int a, .ref 31], HH x σ) r := by
  refine mm_go 1 (F' := (102, [none, none, none, none, none, none, none, none, some (.long q), none, none, none], [.long q, .int a, .ref 31], HH x σ)) rfl ?_
  refine mm_gd (F' := (103, [none, none, none, none, none, none, none, none, some (.long q), none, none, none], [], HH x (ub σ 31 (vp_updL (σ.2.2.2 31) a.toNatClampNeg q)))) rfl k1 ?_
  exact mm_rt rfl rfl k2
theorem vx_lpz_p0 {d : Nat} {x : Nat × (Nat → Int32)} {σ : mm_S} {a : Int32} {q : Int64}  (g1 : ¬ (a < 0 ∨ 36 ≤ a.toNatClampNeg)) : mm_Runs d 25 (100, [none, none, none, none, none, none, none, none, some (.long q), none, none, none], [.int a, .ref 31], HH x σ) (none, HH x (ub σ 31 (vp_updL (σ.2.2.2 31) a.toNatClampNeg q))) := vx_lpz g1 rfl
set_option maxRecDepth 100000 in
theorem vx_le0 {d : Nat} {x : Nat × (Nat → Int32)} {σ : mm_S} {w : Nat} {r : Option Value × mm_H} (hd : 1 ≤ d) (k1 : mm_Runs d 24 (7, [some (.ref 29), some (.int (nI w)), some (.ref 13), some (.ref 20), some (.ref 28), some (.int (0 : Int32))], [], HH x (g_forgetPlan σ)) r) : mm_Runs d 24 (0, [some (.ref 29), some (.int (nI w)), some (.ref 13), some (.ref 20), some (.ref 28), none], [], HH x σ) r := by
  refine mm_go 1 (F' := (1, [some (.ref 29), some (.int (nI w)), some (.ref 13), some (.ref 20), some (.ref 28), none], [.ref 29], HH x σ)) rfl ?_
  refine mm_kl (z := 23) (as := [.ref 29]) (S' := []) (L2 := [some (.ref 29)]) (v := none) (h1 := HH x (g_forgetPlan σ)) rfl rfl rfl rfl rfl (by omega) (r_forgetPlan (by omega)) ?_
  show mm_Runs d 24 (4, [some (.ref 29), some (.int (nI w)), some (.ref 13), some (.ref 20), some (.ref 28), none], [], HH x (g_forgetPlan σ)) r
  refine mm_go 2 (F' := (7, [some (.ref 29), some (.int (nI w)), some (.ref 13), some (.ref 20), some (.ref 28), some (.int (0 : Int32))], [], HH x (g_forgetPlan σ))) rfl ?_
  exact mm_wk (by exact (And.intro rfl (And.intro rfl (And.intro rfl (And.intro rfl (And.intro rfl (And.intro rfl True.intro))))))) k1
theorem vx_le0_p0 {d : Nat} {x : Nat × (Nat → Int32)} {σ : mm_S} {w : Nat} {r : Option Value × mm_H} (hd : 1 ≤ d) (kk : mm_Runs d 24 (7, [some (.ref 29), some (.int (nI w)), some (.ref 13), some (.ref 20), some (.ref 28), some (.int (0 : Int32))], [], HH x (g_forgetPlan σ)) r) : mm_Runs d 24 (0, [some (.ref 29), some (.int (nI w)), some (.ref 13), some (.ref 20), some (.ref 28), none], [], HH x σ) r := vx_le0 hd kk
set_option maxRecDepth 100000 in
theorem vx_leh {d : Nat} {x : Nat × (Nat → Int32)} {σ : mm_S} {w v : Nat}  {σ1 σ2 : mm_S} {r : Option Value × mm_H} (hd : 1 ≤ d) (k1 : (nI w) ≤ (nI v) → (none, HH x σ) = r) (k2 : ¬ (nI w) ≤ (nI v) → mm_Runs (d - 1) 25 (0, [some (.ref 29), some (.int (nI v)), some (.int (nI w)), some (.ref 13), some (.ref 20), some (.ref 28), none, none, none, none, none, none], [], HH x σ) (none, HH x σ1)) (k3 : ¬ (nI w) ≤ (nI v) → mm_Runs (d - 1) 25 (0, [some (.ref 29), some (.int (nI w)), some (.int (nI v)), some (.ref 13), some (.ref 20), some (.ref 28), none, none, none, none, none, none], [], HH x σ1) (none, HH x σ2)) (k4 : ¬ (nI w) ≤ (nI v) → mm_Runs d 24 (7, [some (.ref 29), some (.int (nI w)), some (.ref 13), some (.ref 20), some (.ref 28), some (.int ((nI v) + (1 : Int32)))], [], HH x σ2) r) : mm_Runs d 24 (7, [some (.ref 29), some (.int (nI w)), some (.ref 13), some (.ref 20), some (.ref 28), some (.int (nI v))], [], HH x σ) r := by
  refine mm_go 3 (F' := (bif mm_cond .ge (nI v) (nI w) then 41 else 13, [some (.ref 29), some (.int (nI w)), some (.ref 13), some (.ref 20), some (.ref 28), some (.int (nI v))], [], HH x σ)) rfl ?_
  refine mb_ge (fun h1 => ?_) (fun h1 => ?_)
  · exact mm_rt rfl rfl (k1 h1)
  · refine mm_go 6 (F' := (21, [some (.ref 29), some (.int (nI w)), some (.ref 13), some (.ref 20), some (.ref 28), some (.int (nI v))], [.ref 28, .ref 20, .ref 13, .int (nI w), .int (nI v), .ref 29], HH x σ)) rfl ?_
    refine mm_kl (z := 25) (as := [.ref 29, .int (nI v), .int (nI w), .ref 13, .ref 20, .ref 28]) (S' := []) (L2 := [some (.ref 29), some (.int (nI v)), some (.int (nI w)), some (.ref 13), some (.ref 20), some (.ref 28), none, none, none, none, none, none]) (v := none) (h1 := HH x σ1) rfl rfl rfl rfl rfl (by omega) (k2 h1) ?_
    show mm_Runs d 24 (24, [some (.ref 29), some (.int (nI w)), some (.ref 13), some (.ref 20), some (.ref 28), some (.int (nI v))], [], HH x σ1) r
    refine mm_go 6 (F' := (32, [some (.ref 29), some (.int (nI w)), some (.ref 13), some (.ref 20), some (.ref 28), some (.int (nI v))], [.ref 28, .ref 20, .ref 13, .int (nI v), .int (nI w), .ref 29], HH x σ1)) rfl ?_
    refine mm_kl (z := 25) (as := [.ref 29, .int (nI w), .int (nI v), .ref 13, .ref 20, .ref 28]) (S' := []) (L2 := [some (.ref 29), some (.int (nI w)), some (.int (nI v)), some (.ref 13), some (.ref 20), some (.ref 28), none, none, none, none, none, none]) (v := none) (h1 := HH x σ2) rfl rfl rfl rfl rfl (by omega) (k3 h1) ?_
    show mm_Runs d 24 (35, [some (.ref 29), some (.int (nI w)), some (.ref 13), some (.ref 20), some (.ref 28), some (.int (nI v))], [], HH x σ2) r
    refine mm_go 2 (F' := (7, [some (.ref 29), some (.int (nI w)), some (.ref 13), some (.ref 20), some (.ref 28), some (.int ((nI v) + (1 : Int32)))], [], HH x σ2)) rfl ?_
    exact mm_wk (by exact (And.intro rfl (And.intro rfl (And.intro rfl (And.intro rfl (And.intro rfl (And.intro rfl True.intro))))))) (k4 h1)
theorem vx_leh_p0 {d : Nat} {x : Nat × (Nat → Int32)} {σ : mm_S} {w v : Nat}  {σ1 σ2 : mm_S} (hd : 1 ≤ d) (h1 : (nI w) ≤ (nI v)) : mm_Runs d 24 (7, [some (.ref 29), some (.int (nI w)), some (.ref 13), some (.ref 20), some (.ref 28), some (.int (nI v))], [], HH x σ) (none, HH x σ) := vx_leh (σ1 := σ1) (σ2 := σ2) hd (fun _ => rfl) (fun  z => absurd h1 z) (fun  z => absurd h1 z) (fun  z => absurd h1 z)
theorem vx_leh_p1 {d : Nat} {x : Nat × (Nat → Int32)} {σ : mm_S} {w v : Nat}  {σ1 σ2 : mm_S} {r : Option Value × mm_H} (hd : 1 ≤ d) (h1 : ¬ (nI w) ≤ (nI v)) (g1 : mm_Runs (d - 1) 25 (0, [some (.ref 29), some (.int (nI v)), some (.int (nI w)), some (.ref 13), some (.ref 20), some (.ref 28), none, none, none, none, none, none], [], HH x σ) (none, HH x σ1)) (g2 : mm_Runs (d - 1) 25 (0, [some (.ref 29), some (.int (nI w)), some (.int (nI v)), some (.ref 13), some (.ref 20), some (.ref 28), none, none, none, none, none, none], [], HH x σ1) (none, HH x σ2)) (kk : mm_Runs d 24 (7, [some (.ref 29), some (.int (nI w)), some (.ref 13), some (.ref 20), some (.ref 28), some (.int ((nI v) + (1 : Int32)))], [], HH x σ2) r) : mm_Runs d 24 (7, [some (.ref 29), some (.int (nI w)), some (.ref 13), some (.ref 20), some (.ref 28), some (.int (nI v))], [], HH x σ) r := vx_leh (σ1 := σ1) (σ2 := σ2) hd (fun  z => absurd z h1) (fun _ => g1) (fun _ => g2) (fun _ => kk)
set_option maxRecDepth 100000 in
theorem vx_wish {d : Nat} {x : Nat × (Nat → Int32)} {σ : mm_S} {k c : Int32}  {σ1 : mm_S} {r : Option Value × mm_H} (hd : 1 ≤ d) (k1 : (p_has_13 σ c) → (p_isKind σ k) → (p_isWater σ c) → (σ.1 2003) < (Int32.ofNat 6) → ¬ ((σ.1 2003) < 0 ∨ 6 ≤ (σ.1 2003).toNatClampNeg)) (k2 : (p_has_13 σ c) → (p_isKind σ k) → (p_isWater σ c) → (σ.1 2003) < (Int32.ofNat 6) → ¬ ((σ.1 2003) < 0 ∨ 6 ≤ (σ.1 2003).toNatClampNeg)) (k3 : (p_has_13 σ c) → (p_isKind σ k) → (p_isWater σ c) → (σ.1 2003) < (Int32.ofNat 6) → ¬ ((σ.1 2003) < 0 ∨ 6 ≤ (σ.1 2003).toNatClampNeg)) (k4 : (p_has_13 σ c) → (p_isKind σ k) → (p_isWater σ c) → (f_add_20 σ k c (0 : Int32)) < 0 → (some (.int (f_add_20 σ k c (0 : Int32))), HH x (g_add_20 σ k c (0 : Int32))) = r) (k5 : (p_has_13 σ c) → (p_isKind σ k) → (p_isWater σ c) → ¬ (f_add_20 σ k c (0 : Int32)) < 0 → mm_Runs (d - 1) 24 (0, [some (.ref 29), some (.int (f_add_20 σ k c (0 : Int32))), some (.ref 13), some (.ref 20), some (.ref 28), none], [], HH x (g_add_20 σ k c (0 : Int32))) (none, HH x σ1)) (k6 : (p_has_13 σ c) → (p_isKind σ k) → (p_isWater σ c) → ¬ (f_add_20 σ k c (0 : Int32)) < 0 → (some (.int (f_add_20 σ k c (0 : Int32))), HH x σ1) = r) (k7 : (p_has_13 σ c) → (p_isKind σ k) → ¬ (p_isWater σ c) → (some (.int (-3 : Int32)), HH x σ) = r) (k8 : (p_has_13 σ c) → ¬ (p_isKind σ k) → (some (.int (-2 : Int32)), HH x σ) = r) (k9 : ¬ (p_has_13 σ c) → (some (.int (-1 : Int32)), HH x σ) = r) : mm_Runs d 47 (0, [some (.ref 2), some (.int k), some (.int c), none], [], HH x σ) r := by
  refine mm_go 3 (F' := (5, [some (.ref 2), some (.int k), some (.int c), none], [.int c, .ref 13], HH x σ)) rfl ?_
  refine mm_kl (z := 8) (as := [.ref 13, .int c]) (S' := []) (L2 := [some (.ref 13), some (.int c)]) (v := some (.int (mm_b (p_has_13 σ c)))) (h1 := HH x σ) rfl rfl rfl rfl rfl (by omega) (r_has_13 (by omega)) ?_
  show mm_Runs d 47 (8, [some (.ref 2), some (.int k), some (.int c), none], [.int (mm_b (p_has_13 σ c))], HH x σ) r
  refine mm_go 1 (F' := (bif mm_cond .ne (mm_b (p_has_13 σ c)) 0 then 13 else 11, [some (.ref 2), some (.int k), some (.int c), none], [], HH x σ)) rfl ?_
  refine mb_bne (fun h1 => ?_) (fun h1 => ?_)
  · refine mm_go 1 (F' := (14, [some (.ref 2), some (.int k), some (.int c), none], [.int k], HH x σ)) rfl ?_
    refine mm_kl (z := 73) (as := [.int k]) (S' := []) (L2 := [some (.int k)]) (v := some (.int (mm_b (p_isKind σ k)))) (h1 := HH x σ) rfl rfl rfl rfl rfl (by omega) (r_isKind (by omega)) ?_
    show mm_Runs d 47 (17, [some (.ref 2), some (.int k), some (.int c), none], [.int (mm_b (p_isKind σ k))], HH x σ) r
    refine mm_go 1 (F' := (bif mm_cond .ne (mm_b (p_isKind σ k)) 0 then 23 else 20, [some (.ref 2), some (.int k), some (.int c), none], [], HH x σ)) rfl ?_
    refine mb_bne (fun h2 => ?_) (fun h2 => ?_)
    · refine mm_go 3 (F' := (28, [some (.ref 2), some (.int k), some (.int c), none], [.int c, .ref 13], HH x σ)) rfl ?_
      refine mm_kl (z := 9) (as := [.ref 13, .int c]) (S' := []) (L2 := [some (.ref 13), some (.int c)]) (v := some (.int (mm_b (p_isWater σ c)))) (h1 := HH x σ) rfl rfl rfl rfl rfl (by omega) (r_isWater (by omega)) ?_
      show mm_Runs d 47 (31, [some (.ref 2), some (.int k), some (.int c), none], [.int (mm_b (p_isWater σ c))], HH x σ) r
      refine mm_go 1 (F' := (bif mm_cond .ne (mm_b (p_isWater σ c)) 0 then 37 else 34, [some (.ref 2), some (.int k), some (.int c), none], [], HH x σ)) rfl ?_
      refine mb_bne (fun h3 => ?_) (fun h3 => ?_)
      · refine mm_go 5 (F' := (44, [some (.ref 2), some (.int k), some (.int c), none], [.int (0 : Int32), .int c, .int k, .ref 20], HH x σ)) rfl ?_
        refine mm_kl (z := 2) (as := [.ref 20, .int k, .int c, .int (0 : Int32)]) (S' := []) (L2 := [some (.ref 20), some (.int k), some (.int c), some (.int (0 : Int32))]) (v := some (.int (f_add_20 σ k c (0 : Int32)))) (h1 := HH x (g_add_20 σ k c (0 : Int32))) rfl rfl rfl rfl rfl (by omega) (r_add_20 (by omega) (k1 h1 h2 h3) (k2 h1 h2 h3) (k3 h1 h2 h3)) ?_
        show mm_Runs d 47 (47, [some (.ref 2), some (.int k), some (.int c), none], [.int (f_add_20 σ k c (0 : Int32))], HH x (g_add_20 σ k c (0 : Int32))) r
        refine mm_go 3 (F' := (bif mm_cond .lt (f_add_20 σ k c (0 : Int32)) 0 then 72 else 52, [some (.ref 2), some (.int k), some (.int c), some (.int (f_add_20 σ k c (0 : Int32)))], [], HH x (g_add_20 σ k c (0 : Int32)))) rfl ?_
        refine mb_lt (fun h4 => ?_) (fun h4 => ?_)
        · refine mm_go 1 (F' := (73, [some (.ref 2), some (.int k), some (.int c), some (.int (f_add_20 σ k c (0 : Int32)))], [.int (f_add_20 σ k c (0 : Int32))], HH x (g_add_20 σ k c (0 : Int32)))) rfl ?_
          exact mm_rt rfl rfl (k4 h1 h2 h3 h4)
        · refine mm_go 9 (F' := (69, [some (.ref 2), some (.int k), some (.int c), some (.int (f_add_20 σ k c (0 : Int32)))], [.ref 28, .ref 20, .ref 13, .int (f_add_20 σ k c (0 : Int32)), .ref 29], HH x (g_add_20 σ k c (0 : Int32)))) rfl ?_
          refine mm_kl (z := 24) (as := [.ref 29, .int (f_add_20 σ k c (0 : Int32)), .ref 13, .ref 20, .ref 28]) (S' := []) (L2 := [some (.ref 29), some (.int (f_add_20 σ k c (0 : Int32))), some (.ref 13), some (.ref 20), some (.ref 28), none]) (v := none) (h1 := HH x σ1) rfl rfl rfl rfl rfl (by omega) (k5 h1 h2 h3 h4) ?_
          show mm_Runs d 47 (72, [some (.ref 2), some (.int k), some (.int c), some (.int (f_add_20 σ k c (0 : Int32)))], [], HH x σ1) r
          refine mm_go 1 (F' := (73, [some (.ref 2), some (.int k), some (.int c), some (.int (f_add_20 σ k c (0 : Int32)))], [.int (f_add_20 σ k c (0 : Int32))], HH x σ1)) rfl ?_
          exact mm_rt rfl rfl (k6 h1 h2 h3 h4)
      · refine mm_go 1 (F' := (36, [some (.ref 2), some (.int k), some (.int c), none], [.int (-3 : Int32)], HH x σ)) rfl ?_
        exact mm_rt rfl rfl (k7 h1 h2 h3)
    · refine mm_go 1 (F' := (22, [some (.ref 2), some (.int k), some (.int c), none], [.int (-2 : Int32)], HH x σ)) rfl ?_
      exact mm_rt rfl rfl (k8 h1 h2)
  · refine mm_go 1 (F' := (12, [some (.ref 2), some (.int k), some (.int c), none], [.int (-1 : Int32)], HH x σ)) rfl ?_
    exact mm_rt rfl rfl (k9 h1)
theorem vx_wish_p0 {d : Nat} {x : Nat × (Nat → Int32)} {σ : mm_S} {k c : Int32}  {σ1 : mm_S} (hd : 1 ≤ d) (h1 : (p_has_13 σ c)) (h2 : (p_isKind σ k)) (h3 : (p_isWater σ c)) (h4 : (f_add_20 σ k c (0 : Int32)) < 0) (g1 : (σ.1 2003) < (Int32.ofNat 6) → ¬ ((σ.1 2003) < 0 ∨ 6 ≤ (σ.1 2003).toNatClampNeg)) : mm_Runs d 47 (0, [some (.ref 2), some (.int k), some (.int c), none], [], HH x σ) (some (.int (f_add_20 σ k c (0 : Int32))), HH x (g_add_20 σ k c (0 : Int32))) := vx_wish (σ1 := σ1) hd (fun _ _ _ => g1) (fun _ _ _ => g1) (fun _ _ _ => g1) (fun _ _ _ _ => rfl) (fun _ _ _ z => absurd h4 z) (fun _ _ _ z => absurd h4 z) (fun _ _ z => absurd h3 z) (fun _ z => absurd h2 z) (fun  z => absurd h1 z)
theorem vx_wish_p1 {d : Nat} {x : Nat × (Nat → Int32)} {σ : mm_S} {k c : Int32}  {σ1 : mm_S} (hd : 1 ≤ d) (h1 : (p_has_13 σ c)) (h2 : (p_isKind σ k)) (h3 : (p_isWater σ c)) (h4 : ¬ (f_add_20 σ k c (0 : Int32)) < 0) (g1 : (σ.1 2003) < (Int32.ofNat 6) → ¬ ((σ.1 2003) < 0 ∨ 6 ≤ (σ.1 2003).toNatClampNeg)) (g2 : mm_Runs (d - 1) 24 (0, [some (.ref 29), some (.int (f_add_20 σ k c (0 : Int32))), some (.ref 13), some (.ref 20), some (.ref 28), none], [], HH x (g_add_20 σ k c (0 : Int32))) (none, HH x σ1)) : mm_Runs d 47 (0, [some (.ref 2), some (.int k), some (.int c), none], [], HH x σ) (some (.int (f_add_20 σ k c (0 : Int32))), HH x σ1) := vx_wish (σ1 := σ1) hd (fun _ _ _ => g1) (fun _ _ _ => g1) (fun _ _ _ => g1) (fun _ _ _ z => absurd z h4) (fun _ _ _ _ => g2) (fun _ _ _ _ => rfl) (fun _ _ z => absurd h3 z) (fun _ z => absurd h2 z) (fun  z => absurd h1 z)
theorem vx_wish_p2 {d : Nat} {x : Nat × (Nat → Int32)} {σ : mm_S} {k c : Int32}  {σ1 : mm_S} (hd : 1 ≤ d) (h1 : (p_has_13 σ c)) (h2 : (p_isKind σ k)) (h3 : ¬ (p_isWater σ c)) : mm_Runs d 47 (0, [some (.ref 2), some (.int k), some (.int c), none], [], HH x σ) (some (.int (-3 : Int32)), HH x σ) := vx_wish (σ1 := σ1) hd (fun _ _ z => absurd z h3) (fun _ _ z => absurd z h3) (fun _ _ z => absurd z h3) (fun _ _ z _ => absurd z h3) (fun _ _ z _ => absurd z h3) (fun _ _ z _ => absurd z h3) (fun _ _ _ => rfl) (fun _ z => absurd h2 z) (fun  z => absurd h1 z)
theorem vx_wish_p3 {d : Nat} {x : Nat × (Nat → Int32)} {σ : mm_S} {k c : Int32}  {σ1 : mm_S} (hd : 1 ≤ d) (h1 : (p_has_13 σ c)) (h2 : ¬ (p_isKind σ k)) : mm_Runs d 47 (0, [some (.ref 2), some (.int k), some (.int c), none], [], HH x σ) (some (.int (-2 : Int32)), HH x σ) := vx_wish (σ1 := σ1) hd (fun _ z _ => absurd z h2) (fun _ z _ => absurd z h2) (fun _ z _ => absurd z h2) (fun _ z _ _ => absurd z h2) (fun _ z _ _ => absurd z h2) (fun _ z _ _ => absurd z h2) (fun _ z _ => absurd z h2) (fun _ _ => rfl) (fun  z => absurd h1 z)
theorem vx_wish_p4 {d : Nat} {x : Nat × (Nat → Int32)} {σ : mm_S} {k c : Int32}  {σ1 : mm_S} (hd : 1 ≤ d) (h1 : ¬ (p_has_13 σ c)) : mm_Runs d 47 (0, [some (.ref 2), some (.int k), some (.int c), none], [], HH x σ) (some (.int (-1 : Int32)), HH x σ) := vx_wish (σ1 := σ1) hd (fun  z _ _ => absurd z h1) (fun  z _ _ => absurd z h1) (fun  z _ _ => absurd z h1) (fun  z _ _ _ => absurd z h1) (fun  z _ _ _ => absurd z h1) (fun  z _ _ _ => absurd z h1) (fun  z _ _ => absurd z h1) (fun  z _ => absurd z h1) (fun _ => rfl)
theorem mt_mw {P : pd_T} {k1 k2 : Int32} {c1 c2 g : Nat} : pd_mt P k1 c1 k2 c2 g ↔ ∃ t b, mw P k1 c1 k2 c2 g t b := by
  constructor
  · rintro ⟨t, a, h | ⟨b, h1, h2, h3, h4, h5⟩⟩
    · exact ⟨t, a, Or.inl h⟩
    · by_cases q : ∃ a, ow P k1 c1 k2 c2 g t a
      · obtain ⟨a', q⟩ := q
        exact ⟨t, a', Or.inl q⟩
      · have no : ∀ a, ¬ ow P k1 c1 k2 c2 g t a := fun a z => q ⟨a, z⟩
        rcases Nat.lt_trichotomy a b with w | w | w
        · exact ⟨t, a, Or.inr ⟨no, b, w, h1, Or.inl ⟨⟨h2, h5⟩, h3, h4⟩⟩⟩
        · subst w
          exact absurd ⟨h2, h3⟩ (no a)
        · exact ⟨t, b, Or.inr ⟨no, a, w, adj_sym h1, Or.inr ⟨⟨h3, h4⟩, h2, h5⟩⟩⟩
  · rintro ⟨t, b, h | ⟨-, a, h1, h2, h | h⟩⟩
    · exact ⟨t, b, Or.inl h⟩
    · exact ⟨t, b, Or.inr ⟨a, h2, h.1.1, h.2.1, h.2.2, h.1.2⟩⟩
    · exact ⟨t, a, Or.inr ⟨b, adj_sym h2, h.2.1, h.1.1, h.1.2, h.2.2⟩⟩
theorem mt_lt {P : pd_T} {k1 k2 : Int32} {c1 c2 g L : Nat} (hL : isL P c1 (pd_rc k1) L) (h : pd_mt P k1 c1 k2 c2 g) : g < L := by
  obtain ⟨t, b, h⟩ := mt_mw.mp h
  have := mw_L1 hL h
  omega
theorem tw_mt {P : pd_T} {k1 k2 : Int32} {c1 c2 g : Nat} {v : Int32} {σ : mm_S} (h : tw_r P k1 c1 k2 c2 g v σ) : (v = 0 ∧ ¬ pd_mt P k1 c1 k2 c2 g) ∨ (v = 1 ∧ pd_mt P k1 c1 k2 c2 g) := by
  rcases h with ⟨h1, h2⟩ | ⟨h1, t, b, -, h2, -⟩
  · exact Or.inl ⟨h1, fun z => by
      obtain ⟨t, b, z⟩ := mt_mw.mp z
      exact h2 t b z⟩
  · exact Or.inr ⟨h1, mt_mw.mpr ⟨t, b, h2.1⟩⟩
theorem w6 {a b : Nat} : nI a * (6 : Int32) + nI b = nI (6 * a + b) := by
  rw [show (6 : Int32) = nI 6 from rfl, pk_mul, nI_add, Nat.mul_comm]
def wsc (P : pd_T) (σ : mm_S) (i : Nat) (k : Int32) (c : Nat) : Prop := i < 6 ∧ kd k ∧ σ.2.2.1 21 i = k ∧ σ.2.2.1 22 i = nI c ∧ P.2.2 c = true
theorem wsc_SC {P : pd_T} {σ σ' : mm_S} {i c : Nat} {k : Int32} (h : wsc P σ i k c) (g : SC P σ σ') : wsc P σ' i k c := by
  obtain ⟨⟨f1, f2, f3, f4⟩, hr⟩ := g
  unfold wsc at h ⊢
  rw [f3 21 rfl, f3 22 rfl]; exact h
/-- what learning a wish may change -/
def SW (P : pd_T) (σ σ' : mm_S) : Prop := FR [2800, 2801, 3717, 3718, 3719] [1302] [15, 33, 34, 36, 49, 50] [14, 32, 30, 31] σ σ' ∧ r_rip P σ'
theorem SW_SC {P : pd_T} {σ σ' : mm_S} (h : SC P σ σ') : SW P σ σ' := ⟨⟨h.1.1, h.1.2.1, h.1.2.2.1, fun k z => h.1.2.2.2 k (by
  simp only [List.contains_cons, List.contains_nil, Bool.or_false, Bool.or_eq_false_iff] at z ⊢
  exact ⟨z.1, z.2.1⟩)⟩, h.2⟩
theorem SW_trans {P : pd_T} {σ τ υ : mm_S} (h : SW P σ τ) (g : SW P τ υ) : SW P σ υ := ⟨FR_trans h.1 g.1, g.2⟩
theorem LK_SW {P : pd_T} {σ σ' : mm_S} (h : LK P σ) (g : SW P σ σ') : LK P σ' := by
  obtain ⟨⟨f1, f2, f3, f4⟩, hr⟩ := g
  refine ⟨?_, ?_, hr⟩
  · have h1 := h.1
    unfold r_pc at h1 ⊢
    rw [f1 1305 rfl, f1 1306 rfl, f2 1307 rfl]; exact h1
  · have h1 := h.2.1
    unfold r_col at h1 ⊢
    rw [f2 1303 rfl, f2 1304 rfl]; exact h1
theorem wsc_SW {P : pd_T} {σ σ' : mm_S} {i c : Nat} {k : Int32} (h : wsc P σ i k c) (g : SW P σ σ') : wsc P σ' i k c := by
  obtain ⟨⟨f1, f2, f3, f4⟩, hr⟩ := g
  unfold wsc at h ⊢
  rw [f3 21 rfl, f3 22 rfl]; exact h
section LE
variable {d : Nat} {x : Nat × (Nat → Int32)} {P : pd_T} {σ0 : mm_S}
theorem c_lp_h {i j c1 c2 L : Nat} {k1 k2 : Int32} (hd : 4 ≤ d) (h0 : LK P σ0) (w1 : wsc P σ0 i k1 c1) (w2 : wsc P σ0 j k2 c2) (hL : isL P c1 (pd_rc k1) L) : ∀ (n g : Nat), g + n = 43 → ∀ (p q : Int64) (σ : mm_S), SC P σ0 σ → (∀ e, e < 64 → (bt p e = true ↔ (e < g ∧ pd_mt P k1 c1 k2 c2 e))) → (∀ e, e < 64 → (bt q (63 - e) = true ↔ (e < g ∧ pd_mt P k1 c1 k2 c2 e))) →
    ∃ (τ : mm_S) (p' q' : Int64), SC P σ0 τ ∧ (∀ e, e < 64 → (bt p' e = true ↔ pd_mt P k1 c1 k2 c2 e)) ∧ (∀ e, e < 64 → (bt q' (63 - e) = true ↔ pd_mt P k1 c1 k2 c2 e)) ∧ mm_Runs d 25 (28, [some (.ref 29), some (.int (nI i)), some (.int (nI j)), some (.ref 13), some (.ref 20), some (.ref 28), some (.long p), none, some (.long q), none, some (.int (nI L)), some (.int (nI g))], [], HH x σ) (none, HH x (ub (ub τ 30 (vp_updL (τ.2.2.2 30) (6 * i + j) p')) 31 (vp_updL (τ.2.2.2 31) (6 * j + i) q')))
  | n, g, hg, p, q, σ, hs, hp, hq => by
    have hi := w1.1
    have hj := w2.1
    have hL42 := hL.1
    rcases Nat.lt_or_ge g L with z | z
    · match n, hg with
      | 0, hg => omega
      | n + 1, hg =>
        have h := LK_SC h0 hs
        obtain ⟨-, a1, a2, a3, a4⟩ := wsc_SC w1 hs
        obtain ⟨-, b1, b2, b3, b4⟩ := wsc_SC w2 hs
        obtain ⟨v, σ1, r1, r2, r3⟩ := c_two20 (d := d - 1) (x := x) (g := g) (by omega) h hi hj a2 a3 b2 b3 a1 b1 a4 b4 (by omega)
        have ng : ¬ nI L ≤ nI g := nI_ge z (by omega)
        rcases tw_mt r3 with ⟨rfl, r4⟩ | ⟨rfl, r4⟩
        · obtain ⟨τ, p', q', t1, t2, t3, t4⟩ := c_lp_h hd h0 w1 w2 hL n (g + 1) (by omega) p q σ1 (SC_trans hs r2) (fun e he => (hp e he).trans ⟨fun y => ⟨by omega, y.2⟩, fun y => ⟨by
              rcases Nat.lt_or_ge e g with w | w
              · exact w
              · rw [show e = g by omega] at y; exact absurd y.2 r4, y.2⟩⟩) (fun e he => (hq e he).trans ⟨fun y => ⟨by omega, y.2⟩, fun y => ⟨by
              rcases Nat.lt_or_ge e g with w | w
              · exact w
              · rw [show e = g by omega] at y; exact absurd y.2 r4, y.2⟩⟩)
          exact ⟨τ, p', q', t1, t2, t3, vx_lph_p1 (v1 := 0) (σ1 := σ1) (by omega) ng rfl r1 (by rw [nI_1]; exact t4)⟩
        · obtain ⟨τ, p', q', t1, t2, t3, t4⟩ := c_lp_h hd h0 w1 w2 hL n (g + 1) (by omega) (p ||| ((1 : Int64) <<< (Int32.toInt64 (nI g) &&& 63))) (q ||| ((1 : Int64) <<< (Int32.toInt64 (nI (63 - g)) &&& 63))) σ1 (SC_trans hs r2) (fun e he => by
              rw [bt_or, bt_one (by omega), Bool.or_eq_true, hp e he, decide_eq_true_eq]
              constructor
              · rintro (y | rfl)
                · exact ⟨by omega, y.2⟩
                · exact ⟨by omega, r4⟩
              · rintro ⟨y1, y2⟩
                rcases Nat.lt_or_ge e g with w | w
                · exact Or.inl ⟨w, y2⟩
                · exact Or.inr (by omega)) (fun e he => by
              rw [bt_or, bt_one (by omega), Bool.or_eq_true, hq e he, decide_eq_true_eq]
              constructor
              · rintro (y | y)
                · exact ⟨by omega, y.2⟩
                · have : e = g := by omega
                  subst this
                  exact ⟨by omega, r4⟩
              · rintro ⟨y1, y2⟩
                rcases Nat.lt_or_ge e g with w | w
                · exact Or.inl ⟨w, y2⟩
                · exact Or.inr (by omega))
          refine ⟨τ, p', q', t1, t2, t3, vx_lph_p2 (v1 := 1) (σ1 := σ1) (by omega) ng (by decide) r1 ?_⟩
          rw [nI_1, show (63 : Int32) - nI g = nI (63 - g) from pk_sub (a := 63) (by omega)]
          exact t4
    · have all : ∀ e, pd_mt P k1 c1 k2 c2 e → e < g := fun e y => by have := mt_lt hL y; omega
      refine ⟨σ, p, q, hs, fun e he => (hp e he).trans ⟨fun y => y.2, fun y => ⟨all e y, y⟩⟩, fun e he => (hq e he).trans ⟨fun y => y.2, fun y => ⟨all e y, y⟩⟩, ?_⟩
      refine vx_lph_p0 (v1 := 0) (σ1 := σ) (by omega) (nI_le z (by omega)) (vx_lpx_p0 ?_)
      rw [w6]
      refine vx_lpy_p0 (nI_in (by omega) (by omega)) ?_
      rw [w6, nI_clamp (by omega)]
      have e := vx_lpz_p0 (d := d) (x := x) (σ := ub σ 30 (vp_updL (σ.2.2.2 30) (6 * i + j) p)) (a := nI (6 * j + i)) (q := q) (nI_in (by omega) (by omega))
      rw [nI_clamp (by omega)] at e
      exact e
def tiA (P : pd_T) (kn ce : Nat → Int32) (a b : Nat → Int64) (i j : Nat) : Prop := ∀ e, e < 64 → (bt (a (6 * i + j)) e = true ↔ ws_mt P kn ce i j e) ∧ (bt (b (6 * j + i)) (63 - e) = true ↔ ws_mt P kn ce i j e)
theorem c_lp {i j c1 c2 : Nat} {k1 k2 : Int32} (hd : 4 ≤ d) (h0 : LK P σ0) (w1 : wsc P σ0 i k1 c1) (w2 : wsc P σ0 j k2 c2) : ∃ σ', mm_Runs d 25 (0, [some (.ref 29), some (.int (nI i)), some (.int (nI j)), some (.ref 13), some (.ref 20), some (.ref 28), none, none, none, none, none, none], [], HH x σ0) (none, HH x σ') ∧ SW P σ0 σ' ∧ tiA P (σ0.2.2.1 21) (σ0.2.2.1 22) (σ'.2.2.2 30) (σ'.2.2.2 31) i j ∧ (∀ y, y ≠ 6 * i + j → σ'.2.2.2 30 y = σ0.2.2.2 30 y) ∧ ∀ y, y ≠ 6 * j + i → σ'.2.2.2 31 y = σ0.2.2.2 31 y := by
  obtain ⟨hi, a1, a2, a3, a4⟩ := id w1
  obtain ⟨hj, b1, b2, b3, b4⟩ := id w2
  have hn := pc_n42 h0.1
  have hc1 := pc_wf h0.1 c1 a4
  have hc2 := pc_wf h0.1 c2 b4
  have ci : (nI i).toNatClampNeg = i := nI_clamp (by omega)
  obtain ⟨L, σ1, s1, s2, s3, s4⟩ := c_lastr (d := d - 1) (x := x) (by omega) h0 a4 (rc_99 k1)
  obtain ⟨τ, p, q, t1, t2, t3, t4⟩ := c_lp_h (d := d) (x := x) hd h0 w1 w2 s3 43 0 (by omega) 0 0 σ1 (SC_LZ s2) (fun e he => by rw [bt_0]; simp) (fun e he => by rw [bt_0]; simp)
  refine ⟨_, vx_lp0_p0 (v1 := nI L) (σ1 := σ1) (by omega) (nI_in hi (by omega)) ?_ ?_ t4, ⟨FR_ub rfl (FR_ub rfl (SW_SC t1).1), t1.2⟩, fun e he => ?_, fun y hy => ?_, fun y hy => ?_⟩
  · rw [ci, a2]; exact kd_g a1
  · unfold f_reach_20
    rw [ci, a2, a3, rch_eq a1]; exact s1
  · have ew : ws_mt P (σ0.2.2.1 21) (σ0.2.2.1 22) i j e ↔ pd_mt P k1 c1 k2 c2 e := by
      unfold ws_mt
      rw [a2, a3, b2, b3, nI_clamp (by omega), nI_clamp (by omega)]
    rw [ew]
    show (bt (vp_updL (τ.2.2.2 30) (6 * i + j) p (6 * i + j)) e = true ↔ _) ∧ (bt (vp_updL (τ.2.2.2 31) (6 * j + i) q (6 * j + i)) (63 - e) = true ↔ _)
    rw [pk_uLs, pk_uLs]
    exact ⟨t2 e he, t3 e he⟩
  · show vp_updL (τ.2.2.2 30) (6 * i + j) p y = _
    rw [pk_uLn hy, t1.1.2.2.2 30 rfl]
  · show vp_updL (τ.2.2.2 31) (6 * j + i) q y = _
    rw [pk_uLn hy, t1.1.2.2.2 31 rfl]
theorem c_le_h {w : Nat} (hd : 5 ≤ d) (h0 : LK P σ0) (hw : w < 6) (hws : ∀ i, i ≤ w → ∃ k c, wsc P σ0 i k c) : ∀ (n v : Nat), v + n = w → ∀ σ, SW P σ0 σ → (∀ i j, i < w → j < w → i ≠ j → tiA P (σ0.2.2.1 21) (σ0.2.2.1 22) (σ.2.2.2 30) (σ.2.2.2 31) i j) → (∀ i, i < v → tiA P (σ0.2.2.1 21) (σ0.2.2.1 22) (σ.2.2.2 30) (σ.2.2.2 31) i w ∧ tiA P (σ0.2.2.1 21) (σ0.2.2.1 22) (σ.2.2.2 30) (σ.2.2.2 31) w i) →
    ∃ σ', mm_Runs d 24 (7, [some (.ref 29), some (.int (nI w)), some (.ref 13), some (.ref 20), some (.ref 28), some (.int (nI v))], [], HH x σ) (none, HH x σ') ∧ SW P σ0 σ' ∧ (∀ i j, i ≤ w → j ≤ w → i ≠ j → tiA P (σ0.2.2.1 21) (σ0.2.2.1 22) (σ'.2.2.2 30) (σ'.2.2.2 31) i j)
  | 0, v, hv, σ, hs, h1, h2 => by
    have e : v = w := by omega
    subst e
    refine ⟨σ, vx_leh_p0 (σ1 := σ) (σ2 := σ) (by omega) (nI_le (Nat.le_refl _) (by omega)), hs, fun i j hi hj hij => ?_⟩
    rcases Nat.lt_or_ge i v with y | y
    · rcases Nat.lt_or_ge j v with z | z
      · exact h1 i j y z hij
      · rw [show j = v by omega]; exact (h2 i y).1
    · rw [show i = v by omega]; exact (h2 j (by omega)).2
  | n + 1, v, hv, σ, hs, h1, h2 => by
    obtain ⟨k1, c1, p1⟩ := hws v (by omega)
    obtain ⟨k2, c2, p2⟩ := hws w (by omega)
    obtain ⟨σ1, r1, r2, r3, r4, r5⟩ := c_lp (d := d - 1) (x := x) (by omega) (LK_SW h0 hs) (wsc_SW p1 hs) (wsc_SW p2 hs)
    have hs1 := SW_trans hs r2
    obtain ⟨σ2, g1, g2, g3, g4, g5⟩ := c_lp (d := d - 1) (x := x) (by omega) (LK_SW h0 hs1) (wsc_SW p2 hs1) (wsc_SW p1 hs1)
    have hs2 := SW_trans hs1 g2
    rw [hs.1.2.2.1 21 rfl, hs.1.2.2.1 22 rfl] at r3
    rw [hs1.1.2.2.1 21 rfl, hs1.1.2.2.1 22 rfl] at g3
    have keep : ∀ i j, i ≤ w → j ≤ w → ¬ (i = v ∧ j = w) → ¬ (i = w ∧ j = v) → tiA P (σ0.2.2.1 21) (σ0.2.2.1 22) (σ.2.2.2 30) (σ.2.2.2 31) i j → tiA P (σ0.2.2.1 21) (σ0.2.2.1 22) (σ2.2.2.2 30) (σ2.2.2.2 31) i j := fun i j hi hj z1 z2 z => by
      unfold tiA at z ⊢
      rw [g4 _ (by omega), r4 _ (by omega), g5 _ (by omega), r5 _ (by omega)]
      exact z
    have vw : tiA P (σ0.2.2.1 21) (σ0.2.2.1 22) (σ2.2.2.2 30) (σ2.2.2.2 31) v w := by
      unfold tiA at r3 ⊢
      rw [g4 _ (by omega), g5 _ (by omega)]
      exact r3
    obtain ⟨σ', t1, t2, t3⟩ := c_le_h hd h0 hw hws n (v + 1) (by omega) σ2 hs2 (fun i j hi hj hij => keep i j (by omega) (by omega) (by omega) (by omega) (h1 i j hi hj hij)) (fun i hi => by
      rcases Nat.lt_or_ge i v with y | y
      · exact ⟨keep i w (by omega) (by omega) (by omega) (by omega) (h2 i y).1, keep w i (by omega) (by omega) (by omega) (by omega) (h2 i y).2⟩
      · rw [show i = v by omega]; exact ⟨vw, g3⟩)
    exact ⟨σ', vx_leh_p1 (σ1 := σ1) (σ2 := σ2) (by omega) (nI_ge (by omega) (by omega)) r1 g1 (by rw [nI_1]; exact t1), t2, t3⟩
end LE
theorem ws_loc {P : pd_T} {kn kn' ce ce' : Nat → Int32} {i j e : Nat} (h1 : kn' i = kn i) (h2 : ce' i = ce i) (h3 : kn' j = kn j) (h4 : ce' j = ce j) : ws_mt P kn' ce' i j e ↔ ws_mt P kn ce i j e := by
  unfold ws_mt
  rw [h1, h2, h3, h4]
theorem op_wish : opI Rel i_X6_wish i_X7_wish 2 := by
  intro x σ as h hr
  obtain ⟨k, c, rfl⟩ := as_2 h
  obtain ⟨P, ns, nw, nr, hr⟩ := rel_RP.mp hr
  have hp := RP_p hr
  have hwi := RP_wi hr
  have hn6 := hwi.1
  have en := hwi.2.1
  have em := hwi.2.2.1
  have hn := pd_n42 hp
  rcases cell_3 hp c with ⟨q1, q2⟩ | ⟨e, he, rfl, q1, q2, qg, qc, qw, qx⟩
  · have m9 := r_m_wish (d := 999) (x := x) (σ := σ) (k := k) (c := c) (by omega) (fun z => absurd z q2) (fun z => absurd z q2) (fun z => absurd z q2)
    rw [show f_m_wish σ k c = -1 by unfold f_m_wish; rw [if_neg q2], show g_m_wish σ k c = σ by unfold g_m_wish; rw [if_neg q2]] at m9
    exact ⟨-1, σ, σ, vx_wish_p4 (σ1 := σ) (by decide) q1, m9, RP_rel hr⟩
  have gm : ∀ τ : mm_S, τ.1 3720 = nI nw → ¬ (τ.1 3720) = (6 : Int32) → ¬ ((τ.1 3720) < 0 ∨ 6 ≤ (τ.1 3720).toNatClampNeg) := fun τ z1 z2 => by
    rw [z1] at z2 ⊢
    rcases Nat.lt_or_ge nw 6 with y | y
    · exact nI_in y (by omega)
    · rw [show nw = 6 by omega] at z2; exact absurd rfl z2
  by_cases qk : kd k
  · have k1 : p_isKind σ k := by rcases qk with rfl | rfl | rfl <;> (unfold p_isKind; decide)
    have k2 : ∀ τ, p_m_within τ k 0 2 := fun τ => by rcases qk with rfl | rfl | rfl <;> (unfold p_m_within; decide)
    by_cases ew : P.2.2 e = true
    · have x0 : ¬ σ.2.2.1 41 e = 0 := fun z => qx.mp z ew
      have gC : (σ.1 2003) < (Int32.ofNat 6) → ¬ ((σ.1 2003) < 0 ∨ 6 ≤ (σ.1 2003).toNatClampNeg) := fun z => by
        rw [en] at z ⊢
        have z2 : nI nw < nI 6 := z
        rw [nI_ltI (by omega) (by omega)] at z2
        exact nI_in z2 (by omega)
      rcases Nat.lt_or_ge nw 6 with y | y
      · have lt6 : (σ.1 2003) < (Int32.ofNat 6) := by rw [en]; exact nI_lt (b := 6) y (by omega)
        have cn : (σ.1 2003).toNatClampNeg = nw := by rw [en]; exact nI_clamp (by omega)
        have ef : f_add_20 σ k (nI e) 0 = nI nw := by unfold f_add_20; rw [if_pos lt6, en, nI_p1m1]
        obtain ⟨σa, hσa⟩ : ∃ σa, σa = g_add_20 σ k (nI e) 0 := ⟨_, rfl⟩
        have ea : σa = ui (ua (ua (ua σ 21 (upd (σ.2.2.1 21) nw k)) 22 (upd (σ.2.2.1 22) nw (nI e))) 23 (upd (σ.2.2.1 23) nw 0)) 2003 (nI (nw + 1)) := by
          rw [hσa]; unfold g_add_20; rw [if_pos lt6, cn, en, nI_1]
        have a21 : σa.2.2.1 21 = upd (σ.2.2.1 21) nw k := by rw [ea]; rfl
        have a22 : σa.2.2.1 22 = upd (σ.2.2.1 22) nw (nI e) := by rw [ea]; rfl
        have lka : LK P (g_forgetPlan σa) := by
          have l := RP_lk hr
          rw [ea]; exact ⟨l.1, l.2.1, l.2.2⟩
        have wss : ∀ i, i ≤ nw → ∃ k' c', wsc P (g_forgetPlan σa) i k' c' := fun i hi => by
          rcases Nat.lt_or_ge i nw with z | z
          · obtain ⟨-, w2, c', w3, w4⟩ := hwi.2.2.2 i z
            refine ⟨_, c', by omega, w2, ?_, ?_, w4⟩
            · show σa.2.2.1 21 i = _
              rw [a21, pk_un (by omega)]
            · show σa.2.2.1 22 i = _
              rw [a22, pk_un (by omega)]; exact w3
          · have ei : i = nw := by omega
            subst ei
            refine ⟨k, e, by omega, qk, ?_, ?_, ew⟩
            · show σa.2.2.1 21 i = _
              rw [a21, pk_us]
            · show σa.2.2.1 22 i = _
              rw [a22, pk_us]
        have old : ∀ i j, i < nw → j < nw → ∀ d, ws_mt P (upd (σ.2.2.1 21) nw k) (upd (σ.2.2.1 22) nw (nI e)) i j d ↔ ws_mt P (σ.2.2.1 21) (σ.2.2.1 22) i j d := fun i j hi hj d => ws_loc (pk_un (by omega)) (pk_un (by omega)) (pk_un (by omega)) (pk_un (by omega))
        obtain ⟨σ1, r1, r2, r3⟩ := c_le_h (d := 998) (x := x) (σ0 := g_forgetPlan σa) (w := nw) (by omega) lka y wss nw 0 (by omega) (g_forgetPlan σa) ⟨FR_refl _ _ _ _ _, lka.2.2⟩ (fun i j hi hj hij d hd => by
          have ht := (RP_ti hr).1 i j hi hj hij d hd
          have e30 : (g_forgetPlan σa).2.2.2 30 = σ.2.2.2 30 := by rw [ea]; rfl
          have e31 : (g_forgetPlan σa).2.2.2 31 = σ.2.2.2 31 := by rw [ea]; rfl
          have ek : (g_forgetPlan σa).2.2.1 21 = upd (σ.2.2.1 21) nw k := a21
          have ec : (g_forgetPlan σa).2.2.1 22 = upd (σ.2.2.1 22) nw (nI e) := a22
          rw [e30, e31, ek, ec, old i j hi hj d]
          exact ht) (fun i hi => absurd hi (by omega))
        have f := r2.1
        have g3720 : σ1.1 3720 = nI nw := by rw [f.1 3720 rfl]; show σa.1 3720 = _; rw [ea]; exact em
        have c9 : mm_Runs 999 i_X6_wish (0, [some (.ref 2), some (.int k), some (.int (nI e)), none], [], HH x σ) (some (.int (nI nw)), HH x σ1) := by
          have := vx_wish_p1 (d := 999) (x := x) (σ := σ) (k := k) (c := nI e) (σ1 := σ1) (by decide) q1 k1 (qw.mpr ew) (by rw [ef]; exact nI_pos (by omega)) gC (by
            rw [ef, ← hσa]
            exact vx_le0_p0 (by decide) r1)
          rw [ef] at this
          exact this
        have cell1 : p_m_isCell σ1 (nI e) := by
          have h1 : σ1.1 3705 = σ.1 3705 := by rw [f.1 3705 rfl]; show σa.1 3705 = _; rw [ea]; rfl
          have h2 : σ1.1 3706 = σ.1 3706 := by rw [f.1 3706 rfl]; show σa.1 3706 = _; rw [ea]; rfl
          unfold p_m_isCell f_m_all at q2 ⊢
          rw [h1, h2]; exact q2
        have x1 : ¬ σ1.2.2.1 41 (nI e).toNatClampNeg = 0 := by
          rw [qc, f.2.2.1 41 rfl]
          show ¬ σa.2.2.1 41 e = 0
          rw [ea]; exact x0
        have m9 := r_m_wish (d := 999) (x := x) (σ := σ1) (k := k) (c := nI e) (by omega) (fun _ _ => qg) (fun _ _ _ z => gm σ1 g3720 z) (fun _ _ _ z => gm σ1 g3720 z)
        have n6 : ¬ σ1.1 3720 = 6 := by rw [g3720]; intro z; have := (nI_eq (b := 6) (by omega) (by omega)).mp z; omega
        have e1 : f_m_wish σ1 k (nI e) = nI nw := by
          unfold f_m_wish
          rw [if_pos cell1, if_pos (k2 _), if_neg x1, if_neg n6, g3720, nI_p1m1]
        have e2 : g_m_wish σ1 k (nI e) = ui (ua (ua σ1 47 (upd (σ1.2.2.1 47) nw k)) 48 (upd (σ1.2.2.1 48) nw (nI e))) 3720 (nI (nw + 1)) := by
          unfold g_m_wish
          rw [if_pos cell1, if_pos (k2 _), if_neg x1, if_neg n6, g3720, nI_1, nI_clamp (by omega)]
        rw [e1, e2] at m9
        refine ⟨nI nw, σ1, _, c9, m9, ?_⟩
        have F1 : ∀ q, [2800, 2801, 3717, 3718, 3719, 2003, 2904].contains q = false → σ1.1 q = σ.1 q := fun q hq => by
          have z : [2800, 2801, 3717, 3718, 3719].contains q = false ∧ q ≠ 2003 ∧ q ≠ 2904 := by
            simp only [List.contains_cons, List.contains_nil, Bool.or_false, Bool.or_eq_false_iff, beq_eq_false_iff_ne] at hq ⊢
            exact ⟨⟨hq.1, hq.2.1, hq.2.2.1, hq.2.2.2.1, hq.2.2.2.2.1⟩, hq.2.2.2.2.2.1, hq.2.2.2.2.2.2⟩
          rw [f.1 q z.1]
          show mm_up σa.1 2904 0 q = _
          rw [up_ne (l := [2904]) rfl q (by simp [z.2.2]), ea]
          exact up_ne (l := [2003]) rfl q (by simp [z.2.1])
        have F2 : ∀ q, [1302].contains q = false → σ1.2.1 q = σ.2.1 q := fun q hq => by
          rw [f.2.1 q hq]; show σa.2.1 q = _; rw [ea]; rfl
        have F3 : ∀ q, [15, 33, 34, 36, 49, 50, 21, 22, 23].contains q = false → σ1.2.2.1 q = σ.2.2.1 q := fun q hq => by
          have z : [15, 33, 34, 36, 49, 50].contains q = false ∧ q ≠ 21 ∧ q ≠ 22 ∧ q ≠ 23 := by
            simp only [List.contains_cons, List.contains_nil, Bool.or_false, Bool.or_eq_false_iff, beq_eq_false_iff_ne] at hq ⊢
            exact ⟨⟨hq.1, hq.2.1, hq.2.2.1, hq.2.2.2.1, hq.2.2.2.2.1, hq.2.2.2.2.2.1⟩, hq.2.2.2.2.2.2.1, hq.2.2.2.2.2.2.2.1, hq.2.2.2.2.2.2.2.2⟩
          rw [f.2.2.1 q z.1]
          show σa.2.2.1 q = _
          rw [ea]
          show mm_up (mm_up (mm_up σ.2.2.1 21 _) 22 _) 23 _ q = _
          rw [up_ne (l := [23]) rfl q (by simp [z.2.2.2]), up_ne (l := [22]) rfl q (by simp [z.2.2.1]), up_ne (l := [21]) rfl q (by simp [z.2.1])]
        have b21 : σ1.2.2.1 21 = upd (σ.2.2.1 21) nw k := by rw [f.2.2.1 21 rfl]; exact a21
        have b22 : σ1.2.2.1 22 = upd (σ.2.2.1 22) nw (nI e) := by rw [f.2.2.1 22 rfl]; exact a22
        have c2003 : σ1.1 2003 = nI (nw + 1) := by rw [f.1 2003 rfl]; show σa.1 2003 = _; rw [ea]; rfl
        have c2904 : σ1.1 2904 = 0 := by rw [f.1 2904 rfl]; rfl
        obtain ⟨h1, h2, h3, h4, h5, h6, h7, h8, h9, h10⟩ := hr
        refine rel_RP.mpr ⟨P, ns, nw + 1, nr, ?_, ?_, ?_, ?_, r2.2, ?_, ?_, ?_, ?_, ?_⟩
        · unfold r_misc at h1 ⊢
          show σ1.1 210 = σ1.1 3700 ∧ σ1.1 209 = σ1.1 3701
          rw [F1 210 rfl, F1 3700 rfl, F1 209 rfl, F1 3701 rfl]; exact h1
        · unfold r_she at h2
          show r_sh 0 (σ1.1 401) (σ1.1 402) (σ1.1 403) (σ1.2.2.1 8) (σ1.2.2.1 38) (σ1.2.2.1 39) (σ1.2.2.1 40) ∧ r_sh 1 (σ1.1 501) (σ1.1 502) (σ1.1 503) (σ1.2.2.1 9) (σ1.2.2.1 38) (σ1.2.2.1 39) (σ1.2.2.1 40) ∧ r_sh 2 (σ1.1 601) (σ1.1 602) (σ1.1 603) (σ1.2.2.1 10) (σ1.2.2.1 38) (σ1.2.2.1 39) (σ1.2.2.1 40) ∧ r_sh 3 (σ1.1 701) (σ1.1 702) (σ1.1 703) (σ1.2.2.1 11) (σ1.2.2.1 38) (σ1.2.2.1 39) (σ1.2.2.1 40)
          rw [F1 401 rfl, F1 402 rfl, F1 403 rfl, F1 501 rfl, F1 502 rfl, F1 503 rfl, F1 601 rfl, F1 602 rfl, F1 603 rfl, F1 701 rfl, F1 702 rfl, F1 703 rfl, F3 8 rfl, F3 9 rfl, F3 10 rfl, F3 11 rfl, F3 38 rfl, F3 39 rfl, F3 40 rfl]; exact h2
        · unfold r_pond at h3
          show _ ∧ _ ∧ σ1.1 1305 = _ ∧ σ1.1 1306 = _ ∧ σ1.1 3705 = _ ∧ σ1.1 3706 = _ ∧ _ ∧ (∀ c, bt (σ1.2.1 1307) c = _) ∧ ∀ c, c < pd_n P → σ1.2.2.1 41 c = _
          rw [F1 1305 rfl, F1 1306 rfl, F1 3705 rfl, F1 3706 rfl, F2 1307 rfl, F3 41 rfl]; exact h3
        · unfold r_col at h4
          show (∀ p, bt (σ1.2.1 1303) p = _) ∧ ∀ p, bt (σ1.2.1 1304) p = _
          rw [F2 1303 rfl, F2 1304 rfl]; exact h4
        · unfold r_way at h6
          show ∀ a b, a < pd_n P → b < pd_n P → σ1.2.2.1 42 (42 * a + b) = _
          rw [F3 42 rfl]; exact h6
        · unfold r_st at h7
          show ns ≤ 8 ∧ σ1.1 1603 = nI ns ∧ σ1.1 3713 = nI ns ∧ ∀ i, i < ns → (σ1.2.2.1 17 i = σ1.2.2.1 44 i ∧ σ1.2.2.1 18 i = σ1.2.2.1 45 i ∧ σ1.2.2.1 19 i = σ1.2.2.1 46 i) ∧ kd (σ1.2.2.1 17 i) ∧ (∃ c, σ1.2.2.1 18 i = nI c ∧ P.2.2 c = true) ∧ ∃ m : Nat, m ≤ 99 ∧ σ1.2.2.1 19 i = nI m
          rw [F1 1603 rfl, F1 3713 rfl, F3 17 rfl, F3 18 rfl, F3 19 rfl, F3 44 rfl, F3 45 rfl, F3 46 rfl]; exact h7
        · refine ⟨by omega, c2003, rfl, fun i hi => ?_⟩
          show (σ1.2.2.1 21 i = upd (σ1.2.2.1 47) nw k i ∧ σ1.2.2.1 22 i = upd (σ1.2.2.1 48) nw (nI e) i) ∧ kd (σ1.2.2.1 21 i) ∧ ∃ c, σ1.2.2.1 22 i = nI c ∧ P.2.2 c = true
          rw [b21, b22, F3 47 rfl, F3 48 rfl]
          rcases Nat.lt_or_ge i nw with z | z
          · rw [pk_un (by omega), pk_un (by omega), pk_un (by omega), pk_un (by omega)]
            exact h8.2.2.2 i z
          · have ei : i = nw := by omega
            subst ei
            rw [pk_us, pk_us, pk_us, pk_us]
            exact ⟨⟨rfl, rfl⟩, qk, e, rfl, ew⟩
        · unfold r_re at h9
          show nr ≤ 6 ∧ σ1.1 2403 = nI nr ∧ σ1.1 3725 = nI nr ∧ ∀ i, i < nr → (σ1.2.2.1 26 i = σ1.2.2.1 51 i ∧ σ1.2.2.1 27 i = σ1.2.2.1 52 i) ∧ (∃ c, σ1.2.2.1 26 i = nI c ∧ P.2.2 c = true) ∧ ∃ m : Nat, m ≤ 99 ∧ σ1.2.2.1 27 i = nI m
          rw [F1 2403 rfl, F1 3725 rfl, F3 26 rfl, F3 27 rfl, F3 51 rfl, F3 52 rfl]; exact h9
        · refine ⟨fun i j hi hj hij d hd => ?_, Or.inl c2904⟩
          have z := r3 i j (by omega) (by omega) hij d hd
          have ek : (g_forgetPlan σa).2.2.1 21 = σ1.2.2.1 21 := by rw [b21]; exact a21
          have ec : (g_forgetPlan σa).2.2.1 22 = σ1.2.2.1 22 := by rw [b22]; exact a22
          rw [ek, ec] at z
          exact z
      · have e6 : nw = 6 := by omega
        subst e6
        have ge6 : ¬ (σ.1 2003) < (Int32.ofNat 6) := by rw [en]; decide
        have ef : f_add_20 σ k (nI e) 0 = -4 := by unfold f_add_20; rw [if_neg ge6]
        have eg : g_add_20 σ k (nI e) 0 = σ := by unfold g_add_20; rw [if_neg ge6]
        have c9 := vx_wish_p0 (d := 999) (x := x) (σ := σ) (k := k) (c := nI e) (σ1 := σ) (by decide) q1 k1 (qw.mpr ew) (by rw [ef]; decide) gC
        rw [ef, eg] at c9
        have n6 : σ.1 3720 = 6 := em
        have m9 := r_m_wish (d := 999) (x := x) (σ := σ) (k := k) (c := nI e) (by omega) (fun _ _ => qg) (fun _ _ _ z => absurd n6 z) (fun _ _ _ z => absurd n6 z)
        rw [show f_m_wish σ k (nI e) = -4 by unfold f_m_wish; rw [if_pos q2, if_pos (k2 _), qc, if_neg x0, if_pos n6], show g_m_wish σ k (nI e) = σ by unfold g_m_wish; rw [if_pos q2, if_pos (k2 _), qc, if_neg x0, if_pos n6]] at m9
        exact ⟨-4, σ, σ, c9, m9, RP_rel hr⟩
    · have x0 : σ.2.2.1 41 (nI e).toNatClampNeg = 0 := by rw [qc]; exact qx.mpr ew
      have m9 := r_m_wish (d := 999) (x := x) (σ := σ) (k := k) (c := nI e) (by omega) (fun _ _ => qg) (fun _ _ z => absurd x0 z) (fun _ _ z => absurd x0 z)
      rw [show f_m_wish σ k (nI e) = -3 by unfold f_m_wish; rw [if_pos q2, if_pos (k2 _), if_pos x0], show g_m_wish σ k (nI e) = σ by unfold g_m_wish; rw [if_pos q2, if_pos (k2 _), if_pos x0]] at m9
      exact ⟨-3, σ, σ, vx_wish_p2 (σ1 := σ) (by decide) q1 k1 (fun z => ew (qw.mp z)), m9, RP_rel hr⟩
  · have k1 : ¬ p_isKind σ k := fun z => qk (kind_kd (σ := σ) z)
    have k2 : ¬ p_m_within σ k 0 2 := fun z => qk (kind_kd (σ := σ) ⟨z.1, fun y => z.2 (Int32.lt_of_lt_of_le (by decide) y)⟩)
    have m9 := r_m_wish (d := 999) (x := x) (σ := σ) (k := k) (c := nI e) (by omega) (fun _ z => absurd z k2) (fun _ z => absurd z k2) (fun _ z => absurd z k2)
    rw [show f_m_wish σ k (nI e) = -2 by unfold f_m_wish; rw [if_pos q2, if_neg k2], show g_m_wish σ k (nI e) = σ by unfold g_m_wish; rw [if_pos q2, if_neg k2]] at m9
    exact ⟨-2, σ, σ, vx_wish_p3 (σ1 := σ) (by decide) q1 k1, m9, RP_rel hr⟩

