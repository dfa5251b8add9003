/-! which wishes meet, in the model (written by wip/whole/t56.py) -/
set_option maxRecDepth 100000 in
theorem vx_lma0 {d : Nat} {x : Nat × (Nat → Int32)} {σ : mm_S} {w u c : Int32}  {v1 v2 v3 v4 : Int32} {r : Option Value × mm_H} (hd : 1 ≤ d) (k1 : mm_Runs (d - 1) 122 (0, [some (.ref 37), some (.int w), some (.int c), none], [], HH x σ) (some (.int v1), HH x σ)) (k2 : ¬ v1 = 0 → ¬ (w < 0 ∨ 6 ≤ w.toNatClampNeg)) (k3 : ¬ v1 = 0 → mm_Runs (d - 1) 100 (0, [some (.ref 37), some (.int ((σ.2.2.1 48) w.toNatClampNeg)), some (.int c)], [], HH x σ) (some (.int v2), HH x σ)) (k4 : ¬ v1 = 0 → mm_Runs (d - 1) 122 (0, [some (.ref 37), some (.int u), some (.int c), none], [], HH x σ) (some (.int v3), HH x σ)) (k5 : ¬ v1 = 0 → v3 = 0 → mm_Runs d 125 (72, [some (.ref 37), some (.int w), some (.int u), some (.int c), some (.int (((101 : Int32) * (((6 : Int32) * w) + u)) + (50 : Int32))), some (.int v2), some (.int (0 : Int32)), none, none], [], HH x σ) r) (k6 : ¬ v1 = 0 → ¬ v3 = 0 → ¬ (u < 0 ∨ 6 ≤ u.toNatClampNeg)) (k7 : ¬ v1 = 0 → ¬ v3 = 0 → mm_Runs (d - 1) 100 (0, [some (.ref 37), some (.int ((σ.2.2.1 48) u.toNatClampNeg)), some (.int c)], [], HH x σ) (some (.int v4), HH x σ)) (k8 : ¬ v1 = 0 → ¬ v3 = 0 → ¬ ((((((101 : Int32) * (((6 : Int32) * w) + u)) + (50 : Int32)) + v2) - v4) < 0 ∨ 3636 ≤ (((((101 : Int32) * (((6 : Int32) * w) + u)) + (50 : Int32)) + v2) - v4).toNatClampNeg)) (k9 : ¬ v1 = 0 → ¬ v3 = 0 → mm_Runs d 125 (72, [some (.ref 37), some (.int w), some (.int u), some (.int c), some (.int (((101 : Int32) * (((6 : Int32) * w) + u)) + (50 : Int32))), some (.int v2), some (.int (0 : Int32)), none, none], [], HH x (ua σ 49 (upd (σ.2.2.1 49) (((((101 : Int32) * (((6 : Int32) * w) + u)) + (50 : Int32)) + v2) - v4).toNatClampNeg (1 : Int32)))) r) (k10 : v1 = 0 → (none, HH x σ) = r) : mm_Runs d 125 (0, [some (.ref 37), some (.int w), some (.int u), some (.int c), none, none, none, none, none], [], HH x σ) r := by
  refine mm_go 3 (F' := (3, [some (.ref 37), some (.int w), some (.int u), some (.int c), none, none, none, none, none], [.int c, .int w, .ref 37], HH x σ)) rfl ?_
  refine mm_kl (z := 122) (as := [.ref 37, .int w, .int c]) (S' := []) (L2 := [some (.ref 37), some (.int w), some (.int c), none]) (v := some (.int v1)) (h1 := HH x σ) rfl rfl rfl rfl rfl (by omega) k1 ?_
  show mm_Runs d 125 (6, [some (.ref 37), some (.int w), some (.int u), some (.int c), none, none, none, none, none], [.int v1], HH x σ) r
  refine mm_go 1 (F' := (bif mm_cond .ne v1 0 then 10 else 9, [some (.ref 37), some (.int w), some (.int u), some (.int c), none, none, none, none, none], [], HH x σ)) rfl ?_
  refine mb_ne (fun h1 => ?_) (fun h1 => ?_)
  · refine mm_go 14 (F' := (30, [some (.ref 37), some (.int w), some (.int u), some (.int c), some (.int (((101 : Int32) * (((6 : Int32) * w) + u)) + (50 : Int32))), none, none, none, none], [.int w, .ref 48, .ref 37], HH x σ)) rfl ?_
    refine mm_gd (F' := (31, [some (.ref 37), some (.int w), some (.int u), some (.int c), some (.int (((101 : Int32) * (((6 : Int32) * w) + u)) + (50 : Int32))), none, none, none, none], [.int ((σ.2.2.1 48) w.toNatClampNeg), .ref 37], HH x σ)) rfl (k2 h1) ?_
    refine mm_go 1 (F' := (32, [some (.ref 37), some (.int w), some (.int u), some (.int c), some (.int (((101 : Int32) * (((6 : Int32) * w) + u)) + (50 : Int32))), none, none, none, none], [.int c, .int ((σ.2.2.1 48) w.toNatClampNeg), .ref 37], HH x σ)) rfl ?_
    refine mm_kl (z := 100) (as := [.ref 37, .int ((σ.2.2.1 48) w.toNatClampNeg), .int c]) (S' := []) (L2 := [some (.ref 37), some (.int ((σ.2.2.1 48) w.toNatClampNeg)), some (.int c)]) (v := some (.int v2)) (h1 := HH x σ) rfl rfl rfl rfl rfl (by omega) (k3 h1) ?_
    show mm_Runs d 125 (35, [some (.ref 37), some (.int w), some (.int u), some (.int c), some (.int (((101 : Int32) * (((6 : Int32) * w) + u)) + (50 : Int32))), none, none, none, none], [.int v2], HH x σ) r
    refine mm_go 4 (F' := (40, [some (.ref 37), some (.int w), some (.int u), some (.int c), some (.int (((101 : Int32) * (((6 : Int32) * w) + u)) + (50 : Int32))), some (.int v2), none, none, none], [.int c, .int u, .ref 37], HH x σ)) rfl ?_
    refine mm_kl (z := 122) (as := [.ref 37, .int u, .int c]) (S' := []) (L2 := [some (.ref 37), some (.int u), some (.int c), none]) (v := some (.int v3)) (h1 := HH x σ) rfl rfl rfl rfl rfl (by omega) (k4 h1) ?_
    show mm_Runs d 125 (43, [some (.ref 37), some (.int w), some (.int u), some (.int c), some (.int (((101 : Int32) * (((6 : Int32) * w) + u)) + (50 : Int32))), some (.int v2), none, none, none], [.int v3], HH x σ) r
    refine mm_go 1 (F' := (bif mm_cond .eq v3 0 then 69 else 46, [some (.ref 37), some (.int w), some (.int u), some (.int c), some (.int (((101 : Int32) * (((6 : Int32) * w) + u)) + (50 : Int32))), some (.int v2), none, none, none], [], HH x σ)) rfl ?_
    refine mb_eq (fun h2 => ?_) (fun h2 => ?_)
    · refine mm_go 2 (F' := (72, [some (.ref 37), some (.int w), some (.int u), some (.int c), some (.int (((101 : Int32) * (((6 : Int32) * w) + u)) + (50 : Int32))), some (.int v2), some (.int (0 : Int32)), none, none], [], HH x σ)) rfl ?_
      exact mm_wk (by exact (And.intro rfl (And.intro rfl (And.intro rfl (And.intro rfl (And.intro rfl (And.intro rfl (And.intro rfl True.intro)))))))) (k5 h1 h2)
    · refine mm_go 9 (F' := (61, [some (.ref 37), some (.int w), some (.int u), some (.int c), some (.int (((101 : Int32) * (((6 : Int32) * w) + u)) + (50 : Int32))), some (.int v2), none, none, none], [.int u, .ref 48, .ref 37, .int ((((101 : Int32) * (((6 : Int32) * w) + u)) + (50 : Int32)) + v2), .ref 49], HH x σ)) rfl ?_
      refine mm_gd (F' := (62, [some (.ref 37), some (.int w), some (.int u), some (.int c), some (.int (((101 : Int32) * (((6 : Int32) * w) + u)) + (50 : Int32))), some (.int v2), none, none, none], [.int ((σ.2.2.1 48) u.toNatClampNeg), .ref 37, .int ((((101 : Int32) * (((6 : Int32) * w) + u)) + (50 : Int32)) + v2), .ref 49], HH x σ)) rfl (k6 h1 h2) ?_
      refine mm_go 1 (F' := (63, [some (.ref 37), some (.int w), some (.int u), some (.int c), some (.int (((101 : Int32) * (((6 : Int32) * w) + u)) + (50 : Int32))), some (.int v2), none, none, none], [.int c, .int ((σ.2.2.1 48) u.toNatClampNeg), .ref 37, .int ((((101 : Int32) * (((6 : Int32) * w) + u)) + (50 : Int32)) + v2), .ref 49], HH x σ)) rfl ?_
      refine mm_kl (z := 100) (as := [.ref 37, .int ((σ.2.2.1 48) u.toNatClampNeg), .int c]) (S' := [.int ((((101 : Int32) * (((6 : Int32) * w) + u)) + (50 : Int32)) + v2), .ref 49]) (L2 := [some (.ref 37), some (.int ((σ.2.2.1 48) u.toNatClampNeg)), some (.int c)]) (v := some (.int v4)) (h1 := HH x σ) rfl rfl rfl rfl rfl (by omega) (k7 h1 h2) ?_
      show mm_Runs d 125 (66, [some (.ref 37), some (.int w), some (.int u), some (.int c), some (.int (((101 : Int32) * (((6 : Int32) * w) + u)) + (50 : Int32))), some (.int v2), none, none, none], [.int v4, .int ((((101 : Int32) * (((6 : Int32) * w) + u)) + (50 : Int32)) + v2), .ref 49], HH x σ) r
      refine mm_go 2 (F' := (68, [some (.ref 37), some (.int w), some (.int u), some (.int c), some (.int (((101 : Int32) * (((6 : Int32) * w) + u)) + (50 : Int32))), some (.int v2), none, none, none], [.int (1 : Int32), .int (((((101 : Int32) * (((6 : Int32) * w) + u)) + (50 : Int32)) + v2) - v4), .ref 49], HH x σ)) rfl ?_
      refine mm_gdt (b := (1 : Int32) = 0 ∨ (1 : Int32) = 1) (F' := (69, [some (.ref 37), some (.int w), some (.int u), some (.int c), some (.int (((101 : Int32) * (((6 : Int32) * w) + u)) + (50 : Int32))), some (.int v2), none, none, none], [], HH x (ua σ 49 (upd (σ.2.2.1 49) (((((101 : Int32) * (((6 : Int32) * w) + u)) + (50 : Int32)) + v2) - v4).toNatClampNeg (1 : Int32))))) rfl (k8 h1 h2) (Or.inr rfl) ?_
      refine mm_go 2 (F' := (72, [some (.ref 37), some (.int w), some (.int u), some (.int c), some (.int (((101 : Int32) * (((6 : Int32) * w) + u)) + (50 : Int32))), some (.int v2), some (.int (0 : Int32)), none, none], [], HH x (ua σ 49 (upd (σ.2.2.1 49) (((((101 : Int32) * (((6 : Int32) * w) + u)) + (50 : Int32)) + v2) - v4).toNatClampNeg (1 : Int32))))) rfl ?_
      exact mm_wk (by exact (And.intro rfl (And.intro rfl (And.intro rfl (And.intro rfl (And.intro rfl (And.intro rfl (And.intro rfl True.intro)))))))) (k9 h1 h2)
  · exact mm_rt rfl rfl (k10 h1)
theorem vx_lma0_p0 {d : Nat} {x : Nat × (Nat → Int32)} {σ : mm_S} {w u c : Int32}  {v1 v2 v3 v4 : Int32} {r : Option Value × mm_H} (hd : 1 ≤ d) (h1 : ¬ v1 = 0) (h2 : v3 = 0) (g1 : mm_Runs (d - 1) 122 (0, [some (.ref 37), some (.int w), some (.int c), none], [], HH x σ) (some (.int v1), HH x σ)) (g2 : ¬ (w < 0 ∨ 6 ≤ w.toNatClampNeg)) (g3 : mm_Runs (d - 1) 100 (0, [some (.ref 37), some (.int ((σ.2.2.1 48) w.toNatClampNeg)), some (.int c)], [], HH x σ) (some (.int v2), HH x σ)) (g4 : mm_Runs (d - 1) 122 (0, [some (.ref 37), some (.int u), some (.int c), none], [], HH x σ) (some (.int v3), HH x σ)) (kk : mm_Runs d 125 (72, [some (.ref 37), some (.int w), some (.int u), some (.int c), some (.int (((101 : Int32) * (((6 : Int32) * w) + u)) + (50 : Int32))), some (.int v2), some (.int (0 : Int32)), none, none], [], HH x σ) r) : mm_Runs d 125 (0, [some (.ref 37), some (.int w), some (.int u), some (.int c), none, none, none, none, none], [], HH x σ) r := vx_lma0 (v1 := v1) (v2 := v2) (v3 := v3) (v4 := v4) hd g1 (fun _ => g2) (fun _ => g3) (fun _ => g4) (fun _ _ => kk) (fun _ z => absurd h2 z) (fun _ z => absurd h2 z) (fun _ z => absurd h2 z) (fun _ z => absurd h2 z) (fun  z => absurd z h1)
theorem vx_lma0_p1 {d : Nat} {x : Nat × (Nat → Int32)} {σ : mm_S} {w u c : Int32}  {v1 v2 v3 v4 : Int32} {r : Option Value × mm_H} (hd : 1 ≤ d) (h1 : ¬ v1 = 0) (h2 : ¬ v3 = 0) (g1 : mm_Runs (d - 1) 122 (0, [some (.ref 37), some (.int w), some (.int c), none], [], HH x σ) (some (.int v1), HH x σ)) (g2 : ¬ (w < 0 ∨ 6 ≤ w.toNatClampNeg)) (g3 : mm_Runs (d - 1) 100 (0, [some (.ref 37), some (.int ((σ.2.2.1 48) w.toNatClampNeg)), some (.int c)], [], HH x σ) (some (.int v2), HH x σ)) (g4 : mm_Runs (d - 1) 122 (0, [some (.ref 37), some (.int u), some (.int c), none], [], HH x σ) (some (.int v3), HH x σ)) (g5 : ¬ (u < 0 ∨ 6 ≤ u.toNatClampNeg)) (g6 : mm_Runs (d - 1) 100 (0, [some (.ref 37), some (.int ((σ.2.2.1 48) u.toNatClampNeg)), some (.int c)], [], HH x σ) (some (.int v4), HH x σ)) (g7 : ¬ ((((((101 : Int32) * (((6 : Int32) * w) + u)) + (50 : Int32)) + v2) - v4) < 0 ∨ 3636 ≤ (((((101 : Int32) * (((6 : Int32) * w) + u)) + (50 : Int32)) + v2) - v4).toNatClampNeg)) (kk : mm_Runs d 125 (72, [some (.ref 37), some (.int w), some (.int u), some (.int c), some (.int (((101 : Int32) * (((6 : Int32) * w) + u)) + (50 : Int32))), some (.int v2), some (.int (0 : Int32)), none, none], [], HH x (ua σ 49 (upd (σ.2.2.1 49) (((((101 : Int32) * (((6 : Int32) * w) + u)) + (50 : Int32)) + v2) - v4).toNatClampNeg (1 : Int32)))) r) : mm_Runs d 125 (0, [some (.ref 37), some (.int w), some (.int u), some (.int c), none, none, none, none, none], [], HH x σ) r := vx_lma0 (v1 := v1) (v2 := v2) (v3 := v3) (v4 := v4) hd g1 (fun _ => g2) (fun _ => g3) (fun _ => g4) (fun _ z => absurd z h2) (fun _ _ => g5) (fun _ _ => g6) (fun _ _ => g7) (fun _ _ => kk) (fun  z => absurd z h1)
theorem vx_lma0_p2 {d : Nat} {x : Nat × (Nat → Int32)} {σ : mm_S} {w u c : Int32}  {v1 v2 v3 v4 : Int32} (hd : 1 ≤ d) (h1 : v1 = 0) (g1 : mm_Runs (d - 1) 122 (0, [some (.ref 37), some (.int w), some (.int c), none], [], HH x σ) (some (.int v1), HH x σ)) : mm_Runs d 125 (0, [some (.ref 37), some (.int w), some (.int u), some (.int c), none, none, none, none, none], [], HH x σ) (none, HH x σ) := vx_lma0 (v1 := v1) (v2 := v2) (v3 := v3) (v4 := v4) hd g1 (fun  z => absurd h1 z) (fun  z => absurd h1 z) (fun  z => absurd h1 z) (fun  z _ => absurd h1 z) (fun  z _ => absurd h1 z) (fun  z _ => absurd h1 z) (fun  z _ => absurd h1 z) (fun  z _ => absurd h1 z) (fun _ => rfl)
set_option maxRecDepth 100000 in
theorem vx_lmah {d : Nat} {x : Nat × (Nat → Int32)} {σ : mm_S} {w u c f n j : Int32}  {v1 v2 v3 v4 v5 v6 v7 v8 : Int32} {r : Option Value × mm_H} (hd : 1 ≤ d) (k1 : (4 : Int32) ≤ j → (none, HH x σ) = r) (k2 : ¬ (4 : Int32) ≤ j → mm_Runs (d - 1) 99 (0, [some (.ref 37), some (.int c), some (.int j), none, none, none], [], HH x σ) (some (.int v1), HH x σ)) (k3 : ¬ (4 : Int32) ≤ j → v1 = (-9 : Int32) → mm_Runs d 125 (72, [some (.ref 37), some (.int w), some (.int u), some (.int c), some (.int f), some (.int n), some (.int (j + (1 : Int32))), none, none], [], HH x σ) r) (k4 : ¬ (4 : Int32) ≤ j → ¬ v1 = (-9 : Int32) → mm_Runs (d - 1) 122 (0, [some (.ref 37), some (.int w), some (.int v1), none], [], HH x σ) (some (.int v2), HH x σ)) (k5 : ¬ (4 : Int32) ≤ j → ¬ v1 = (-9 : Int32) → v2 = 0 → mm_Runs d 125 (72, [some (.ref 37), some (.int w), some (.int u), some (.int c), some (.int f), some (.int n), some (.int (j + (1 : Int32))), none, none], [], HH x σ) r) (k6 : ¬ (4 : Int32) ≤ j → ¬ v1 = (-9 : Int32) → ¬ v2 = 0 → mm_Runs (d - 1) 122 (0, [some (.ref 37), some (.int u), some (.int v1), none], [], HH x σ) (some (.int v3), HH x σ)) (k7 : ¬ (4 : Int32) ≤ j → ¬ v1 = (-9 : Int32) → ¬ v2 = 0 → v3 = 0 → mm_Runs d 125 (72, [some (.ref 37), some (.int w), some (.int u), some (.int c), some (.int f), some (.int n), some (.int (j + (1 : Int32))), none, none], [], HH x σ) r) (k8 : ¬ (4 : Int32) ≤ j → ¬ v1 = (-9 : Int32) → ¬ v2 = 0 → ¬ v3 = 0 → mm_Runs (d - 1) 122 (0, [some (.ref 37), some (.int u), some (.int c), none], [], HH x σ) (some (.int v4), HH x σ)) (k9 : ¬ (4 : Int32) ≤ j → ¬ v1 = (-9 : Int32) → ¬ v2 = 0 → ¬ v3 = 0 → v4 = 0 → mm_Runs d 125 (72, [some (.ref 37), some (.int w), some (.int u), some (.int c), some (.int f), some (.int n), some (.int (j + (1 : Int32))), none, none], [], HH x σ) r) (k10 : ¬ (4 : Int32) ≤ j → ¬ v1 = (-9 : Int32) → ¬ v2 = 0 → ¬ v3 = 0 → ¬ v4 = 0 → ¬ (w < 0 ∨ 6 ≤ w.toNatClampNeg)) (k11 : ¬ (4 : Int32) ≤ j → ¬ v1 = (-9 : Int32) → ¬ v2 = 0 → ¬ v3 = 0 → ¬ v4 = 0 → mm_Runs (d - 1) 100 (0, [some (.ref 37), some (.int ((σ.2.2.1 48) w.toNatClampNeg)), some (.int v1)], [], HH x σ) (some (.int v5), HH x σ)) (k12 : ¬ (4 : Int32) ≤ j → ¬ v1 = (-9 : Int32) → ¬ v2 = 0 → ¬ v3 = 0 → ¬ v4 = 0 → ¬ v5 = (n + (1 : Int32)) → mm_Runs d 125 (72, [some (.ref 37), some (.int w), some (.int u), some (.int c), some (.int f), some (.int n), some (.int (j + (1 : Int32))), none, none], [], HH x σ) r) (k13 : ¬ (4 : Int32) ≤ j → ¬ v1 = (-9 : Int32) → ¬ v2 = 0 → ¬ v3 = 0 → ¬ v4 = 0 → v5 = (n + (1 : Int32)) → ¬ (u < 0 ∨ 6 ≤ u.toNatClampNeg)) (k14 : ¬ (4 : Int32) ≤ j → ¬ v1 = (-9 : Int32) → ¬ v2 = 0 → ¬ v3 = 0 → ¬ v4 = 0 → v5 = (n + (1 : Int32)) → mm_Runs (d - 1) 100 (0, [some (.ref 37), some (.int ((σ.2.2.1 48) u.toNatClampNeg)), some (.int c)], [], HH x σ) (some (.int v6), HH x σ)) (k15 : ¬ (4 : Int32) ≤ j → ¬ v1 = (-9 : Int32) → ¬ v2 = 0 → ¬ v3 = 0 → ¬ v4 = 0 → v5 = (n + (1 : Int32)) → ¬ (u < 0 ∨ 6 ≤ u.toNatClampNeg)) (k16 : ¬ (4 : Int32) ≤ j → ¬ v1 = (-9 : Int32) → ¬ v2 = 0 → ¬ v3 = 0 → ¬ v4 = 0 → v5 = (n + (1 : Int32)) → mm_Runs (d - 1) 100 (0, [some (.ref 37), some (.int ((σ.2.2.1 48) u.toNatClampNeg)), some (.int v1)], [], HH x σ) (some (.int v7), HH x σ)) (k17 : ¬ (4 : Int32) ≤ j → ¬ v1 = (-9 : Int32) → ¬ v2 = 0 → ¬ v3 = 0 → ¬ v4 = 0 → v5 = (n + (1 : Int32)) → ¬ v6 = (v7 + (1 : Int32)) → mm_Runs d 125 (72, [some (.ref 37), some (.int w), some (.int u), some (.int c), some (.int f), some (.int n), some (.int (j + (1 : Int32))), none, none], [], HH x σ) r) (k18 : ¬ (4 : Int32) ≤ j → ¬ v1 = (-9 : Int32) → ¬ v2 = 0 → ¬ v3 = 0 → ¬ v4 = 0 → v5 = (n + (1 : Int32)) → v6 = (v7 + (1 : Int32)) → ¬ (u < 0 ∨ 6 ≤ u.toNatClampNeg)) (k19 : ¬ (4 : Int32) ≤ j → ¬ v1 = (-9 : Int32) → ¬ v2 = 0 → ¬ v3 = 0 → ¬ v4 = 0 → v5 = (n + (1 : Int32)) → v6 = (v7 + (1 : Int32)) → mm_Runs (d - 1) 100 (0, [some (.ref 37), some (.int ((σ.2.2.1 48) u.toNatClampNeg)), some (.int v1)], [], HH x σ) (some (.int v8), HH x σ)) (k20 : ¬ (4 : Int32) ≤ j → ¬ v1 = (-9 : Int32) → ¬ v2 = 0 → ¬ v3 = 0 → ¬ v4 = 0 → v5 = (n + (1 : Int32)) → v6 = (v7 + (1 : Int32)) → ¬ (((f + n) - v8) < 0 ∨ 3636 ≤ ((f + n) - v8).toNatClampNeg)) (k21 : ¬ (4 : Int32) ≤ j → ¬ v1 = (-9 : Int32) → ¬ v2 = 0 → ¬ v3 = 0 → ¬ v4 = 0 → v5 = (n + (1 : Int32)) → v6 = (v7 + (1 : Int32)) → mm_Runs d 125 (72, [some (.ref 37), some (.int w), some (.int u), some (.int c), some (.int f), some (.int n), some (.int (j + (1 : Int32))), none, none], [], HH x (ua σ 49 (upd (σ.2.2.1 49) ((f + n) - v8).toNatClampNeg (1 : Int32)))) r) : mm_Runs d 125 (72, [some (.ref 37), some (.int w), some (.int u), some (.int c), some (.int f), some (.int n), some (.int j), none, none], [], HH x σ) r := by
  refine mm_go 3 (F' := (bif mm_cond .ge j (4 : Int32) then 212 else 78, [some (.ref 37), some (.int w), some (.int u), some (.int c), some (.int f), some (.int n), some (.int j), none, none], [], HH x σ)) rfl ?_
  refine mb_ge (fun h1 => ?_) (fun h1 => ?_)
  · exact mm_rt rfl rfl (k1 h1)
  · refine mm_go 3 (F' := (82, [some (.ref 37), some (.int w), some (.int u), some (.int c), some (.int f), some (.int n), some (.int j), none, none], [.int j, .int c, .ref 37], HH x σ)) rfl ?_
    refine mm_kl (z := 99) (as := [.ref 37, .int c, .int j]) (S' := []) (L2 := [some (.ref 37), some (.int c), some (.int j), none, none, none]) (v := some (.int v1)) (h1 := HH x σ) rfl rfl rfl rfl rfl (by omega) (k2 h1) ?_
    show mm_Runs d 125 (85, [some (.ref 37), some (.int w), some (.int u), some (.int c), some (.int f), some (.int n), some (.int j), none, none], [.int v1], HH x σ) r
    refine mm_go 4 (F' := (bif mm_cond .eq v1 (-9 : Int32) then 127 else 94, [some (.ref 37), some (.int w), some (.int u), some (.int c), some (.int f), some (.int n), some (.int j), some (.int v1), none], [], HH x σ)) rfl ?_
    refine mb_eq (fun h2 => ?_) (fun h2 => ?_)
    · refine mm_go 6 (F' := (72, [some (.ref 37), some (.int w), some (.int u), some (.int c), some (.int f), some (.int n), some (.int (j + (1 : Int32))), some (.int v1), some (.int (0 : Int32))], [], HH x σ)) rfl ?_
      exact mm_wk (by exact (And.intro rfl (And.intro rfl (And.intro rfl (And.intro rfl (And.intro rfl (And.intro rfl (And.intro rfl True.intro)))))))) (k3 h1 h2)
    · refine mm_go 3 (F' := (98, [some (.ref 37), some (.int w), some (.int u), some (.int c), some (.int f), some (.int n), some (.int j), some (.int v1), none], [.int v1, .int w, .ref 37], HH x σ)) rfl ?_
      refine mm_kl (z := 122) (as := [.ref 37, .int w, .int v1]) (S' := []) (L2 := [some (.ref 37), some (.int w), some (.int v1), none]) (v := some (.int v2)) (h1 := HH x σ) rfl rfl rfl rfl rfl (by omega) (k4 h1 h2) ?_
      show mm_Runs d 125 (101, [some (.ref 37), some (.int w), some (.int u), some (.int c), some (.int f), some (.int n), some (.int j), some (.int v1), none], [.int v2], HH x σ) r
      refine mm_go 1 (F' := (bif mm_cond .eq v2 0 then 127 else 104, [some (.ref 37), some (.int w), some (.int u), some (.int c), some (.int f), some (.int n), some (.int j), some (.int v1), none], [], HH x σ)) rfl ?_
      refine mb_eq (fun h3 => ?_) (fun h3 => ?_)
      · refine mm_go 6 (F' := (72, [some (.ref 37), some (.int w), some (.int u), some (.int c), some (.int f), some (.int n), some (.int (j + (1 : Int32))), some (.int v1), some (.int (0 : Int32))], [], HH x σ)) rfl ?_
        exact mm_wk (by exact (And.intro rfl (And.intro rfl (And.intro rfl (And.intro rfl (And.intro rfl (And.intro rfl (And.intro rfl True.intro)))))))) (k5 h1 h2 h3)
      · refine mm_go 3 (F' := (108, [some (.ref 37), some (.int w), some (.int u), some (.int c), some (.int f), some (.int n), some (.int j), some (.int v1), none], [.int v1, .int u, .ref 37], HH x σ)) rfl ?_
        refine mm_kl (z := 122) (as := [.ref 37, .int u, .int v1]) (S' := []) (L2 := [some (.ref 37), some (.int u), some (.int v1), none]) (v := some (.int v3)) (h1 := HH x σ) rfl rfl rfl rfl rfl (by omega) (k6 h1 h2 h3) ?_
        show mm_Runs d 125 (111, [some (.ref 37), some (.int w), some (.int u), some (.int c), some (.int f), some (.int n), some (.int j), some (.int v1), none], [.int v3], HH x σ) r
        refine mm_go 1 (F' := (bif mm_cond .eq v3 0 then 127 else 114, [some (.ref 37), some (.int w), some (.int u), some (.int c), some (.int f), some (.int n), some (.int j), some (.int v1), none], [], HH x σ)) rfl ?_
        refine mb_eq (fun h4 => ?_) (fun h4 => ?_)
        · refine mm_go 6 (F' := (72, [some (.ref 37), some (.int w), some (.int u), some (.int c), some (.int f), some (.int n), some (.int (j + (1 : Int32))), some (.int v1), some (.int (0 : Int32))], [], HH x σ)) rfl ?_
          exact mm_wk (by exact (And.intro rfl (And.intro rfl (And.intro rfl (And.intro rfl (And.intro rfl (And.intro rfl (And.intro rfl True.intro)))))))) (k7 h1 h2 h3 h4)
        · refine mm_go 3 (F' := (117, [some (.ref 37), some (.int w), some (.int u), some (.int c), some (.int f), some (.int n), some (.int j), some (.int v1), none], [.int c, .int u, .ref 37], HH x σ)) rfl ?_
          refine mm_kl (z := 122) (as := [.ref 37, .int u, .int c]) (S' := []) (L2 := [some (.ref 37), some (.int u), some (.int c), none]) (v := some (.int v4)) (h1 := HH x σ) rfl rfl rfl rfl rfl (by omega) (k8 h1 h2 h3 h4) ?_
          show mm_Runs d 125 (120, [some (.ref 37), some (.int w), some (.int u), some (.int c), some (.int f), some (.int n), some (.int j), some (.int v1), none], [.int v4], HH x σ) r
          refine mm_go 1 (F' := (bif mm_cond .eq v4 0 then 127 else 123, [some (.ref 37), some (.int w), some (.int u), some (.int c), some (.int f), some (.int n), some (.int j), some (.int v1), none], [], HH x σ)) rfl ?_
          refine mb_eq (fun h5 => ?_) (fun h5 => ?_)
          · refine mm_go 6 (F' := (72, [some (.ref 37), some (.int w), some (.int u), some (.int c), some (.int f), some (.int n), some (.int (j + (1 : Int32))), some (.int v1), some (.int (0 : Int32))], [], HH x σ)) rfl ?_
            exact mm_wk (by exact (And.intro rfl (And.intro rfl (And.intro rfl (And.intro rfl (And.intro rfl (And.intro rfl (And.intro rfl True.intro)))))))) (k9 h1 h2 h3 h4 h5)
          · refine mm_go 9 (F' := (141, [some (.ref 37), some (.int w), some (.int u), some (.int c), some (.int f), some (.int n), some (.int j), some (.int v1), some (.int (1 : Int32))], [.int w, .ref 48, .ref 37], HH x σ)) rfl ?_
            refine mm_gd (F' := (142, [some (.ref 37), some (.int w), some (.int u), some (.int c), some (.int f), some (.int n), some (.int j), some (.int v1), some (.int (1 : Int32))], [.int ((σ.2.2.1 48) w.toNatClampNeg), .ref 37], HH x σ)) rfl (k10 h1 h2 h3 h4 h5) ?_
            refine mm_go 1 (F' := (144, [some (.ref 37), some (.int w), some (.int u), some (.int c), some (.int f), some (.int n), some (.int j), some (.int v1), some (.int (1 : Int32))], [.int v1, .int ((σ.2.2.1 48) w.toNatClampNeg), .ref 37], HH x σ)) rfl ?_
            refine mm_kl (z := 100) (as := [.ref 37, .int ((σ.2.2.1 48) w.toNatClampNeg), .int v1]) (S' := []) (L2 := [some (.ref 37), some (.int ((σ.2.2.1 48) w.toNatClampNeg)), some (.int v1)]) (v := some (.int v5)) (h1 := HH x σ) rfl rfl rfl rfl rfl (by omega) (k11 h1 h2 h3 h4 h5) ?_
            show mm_Runs d 125 (147, [some (.ref 37), some (.int w), some (.int u), some (.int c), some (.int f), some (.int n), some (.int j), some (.int v1), some (.int (1 : Int32))], [.int v5], HH x σ) r
            refine mm_go 4 (F' := (bif mm_cond .ne v5 (n + (1 : Int32)) then 206 else 154, [some (.ref 37), some (.int w), some (.int u), some (.int c), some (.int f), some (.int n), some (.int j), some (.int v1), some (.int (1 : Int32))], [], HH x σ)) rfl ?_
            refine mb_ne (fun h6 => ?_) (fun h6 => ?_)
            · refine mm_go 2 (F' := (72, [some (.ref 37), some (.int w), some (.int u), some (.int c), some (.int f), some (.int n), some (.int (j + (1 : Int32))), some (.int v1), some (.int (1 : Int32))], [], HH x σ)) rfl ?_
              exact mm_wk (by exact (And.intro rfl (And.intro rfl (And.intro rfl (And.intro rfl (And.intro rfl (And.intro rfl (And.intro rfl True.intro)))))))) (k12 h1 h2 h3 h4 h5 h6)
            · refine mm_go 4 (F' := (160, [some (.ref 37), some (.int w), some (.int u), some (.int c), some (.int f), some (.int n), some (.int j), some (.int v1), some (.int (1 : Int32))], [.int u, .ref 48, .ref 37], HH x σ)) rfl ?_
              refine mm_gd (F' := (161, [some (.ref 37), some (.int w), some (.int u), some (.int c), some (.int f), some (.int n), some (.int j), some (.int v1), some (.int (1 : Int32))], [.int ((σ.2.2.1 48) u.toNatClampNeg), .ref 37], HH x σ)) rfl (k13 h1 h2 h3 h4 h5 h6) ?_
              refine mm_go 1 (F' := (162, [some (.ref 37), some (.int w), some (.int u), some (.int c), some (.int f), some (.int n), some (.int j), some (.int v1), some (.int (1 : Int32))], [.int c, .int ((σ.2.2.1 48) u.toNatClampNeg), .ref 37], HH x σ)) rfl ?_
              refine mm_kl (z := 100) (as := [.ref 37, .int ((σ.2.2.1 48) u.toNatClampNeg), .int c]) (S' := []) (L2 := [some (.ref 37), some (.int ((σ.2.2.1 48) u.toNatClampNeg)), some (.int c)]) (v := some (.int v6)) (h1 := HH x σ) rfl rfl rfl rfl rfl (by omega) (k14 h1 h2 h3 h4 h5 h6) ?_
              show mm_Runs d 125 (165, [some (.ref 37), some (.int w), some (.int u), some (.int c), some (.int f), some (.int n), some (.int j), some (.int v1), some (.int (1 : Int32))], [.int v6], HH x σ) r
              refine mm_go 4 (F' := (171, [some (.ref 37), some (.int w), some (.int u), some (.int c), some (.int f), some (.int n), some (.int j), some (.int v1), some (.int (1 : Int32))], [.int u, .ref 48, .ref 37, .int v6], HH x σ)) rfl ?_
              refine mm_gd (F' := (172, [some (.ref 37), some (.int w), some (.int u), some (.int c), some (.int f), some (.int n), some (.int j), some (.int v1), some (.int (1 : Int32))], [.int ((σ.2.2.1 48) u.toNatClampNeg), .ref 37, .int v6], HH x σ)) rfl (k15 h1 h2 h3 h4 h5 h6) ?_
              refine mm_go 1 (F' := (174, [some (.ref 37), some (.int w), some (.int u), some (.int c), some (.int f), some (.int n), some (.int j), some (.int v1), some (.int (1 : Int32))], [.int v1, .int ((σ.2.2.1 48) u.toNatClampNeg), .ref 37, .int v6], HH x σ)) rfl ?_
              refine mm_kl (z := 100) (as := [.ref 37, .int ((σ.2.2.1 48) u.toNatClampNeg), .int v1]) (S' := [.int v6]) (L2 := [some (.ref 37), some (.int ((σ.2.2.1 48) u.toNatClampNeg)), some (.int v1)]) (v := some (.int v7)) (h1 := HH x σ) rfl rfl rfl rfl rfl (by omega) (k16 h1 h2 h3 h4 h5 h6) ?_
              show mm_Runs d 125 (177, [some (.ref 37), some (.int w), some (.int u), some (.int c), some (.int f), some (.int n), some (.int j), some (.int v1), some (.int (1 : Int32))], [.int v7, .int v6], HH x σ) r
              refine mm_go 3 (F' := (bif mm_cond .ne v6 (v7 + (1 : Int32)) then 206 else 182, [some (.ref 37), some (.int w), some (.int u), some (.int c), some (.int f), some (.int n), some (.int j), some (.int v1), some (.int (1 : Int32))], [], HH x σ)) rfl ?_
              refine mb_ne (fun h7 => ?_) (fun h7 => ?_)
              · refine mm_go 2 (F' := (72, [some (.ref 37), some (.int w), some (.int u), some (.int c), some (.int f), some (.int n), some (.int (j + (1 : Int32))), some (.int v1), some (.int (1 : Int32))], [], HH x σ)) rfl ?_
                exact mm_wk (by exact (And.intro rfl (And.intro rfl (And.intro rfl (And.intro rfl (And.intro rfl (And.intro rfl (And.intro rfl True.intro)))))))) (k17 h1 h2 h3 h4 h5 h6 h7)
              · refine mm_go 9 (F' := (197, [some (.ref 37), some (.int w), some (.int u), some (.int c), some (.int f), some (.int n), some (.int j), some (.int v1), some (.int (1 : Int32))], [.int u, .ref 48, .ref 37, .int (f + n), .ref 49], HH x σ)) rfl ?_
                refine mm_gd (F' := (198, [some (.ref 37), some (.int w), some (.int u), some (.int c), some (.int f), some (.int n), some (.int j), some (.int v1), some (.int (1 : Int32))], [.int ((σ.2.2.1 48) u.toNatClampNeg), .ref 37, .int (f + n), .ref 49], HH x σ)) rfl (k18 h1 h2 h3 h4 h5 h6 h7) ?_
                refine mm_go 1 (F' := (200, [some (.ref 37), some (.int w), some (.int u), some (.int c), some (.int f), some (.int n), some (.int j), some (.int v1), some (.int (1 : Int32))], [.int v1, .int ((σ.2.2.1 48) u.toNatClampNeg), .ref 37, .int (f + n), .ref 49], HH x σ)) rfl ?_
                refine mm_kl (z := 100) (as := [.ref 37, .int ((σ.2.2.1 48) u.toNatClampNeg), .int v1]) (S' := [.int (f + n), .ref 49]) (L2 := [some (.ref 37), some (.int ((σ.2.2.1 48) u.toNatClampNeg)), some (.int v1)]) (v := some (.int v8)) (h1 := HH x σ) rfl rfl rfl rfl rfl (by omega) (k19 h1 h2 h3 h4 h5 h6 h7) ?_
                show mm_Runs d 125 (203, [some (.ref 37), some (.int w), some (.int u), some (.int c), some (.int f), some (.int n), some (.int j), some (.int v1), some (.int (1 : Int32))], [.int v8, .int (f + n), .ref 49], HH x σ) r
                refine mm_go 2 (F' := (205, [some (.ref 37), some (.int w), some (.int u), some (.int c), some (.int f), some (.int n), some (.int j), some (.int v1), some (.int (1 : Int32))], [.int (1 : Int32), .int ((f + n) - v8), .ref 49], HH x σ)) rfl ?_
                refine mm_gdt (b := (1 : Int32) = 0 ∨ (1 : Int32) = 1) (F' := (206, [some (.ref 37), some (.int w), some (.int u), some (.int c), some (.int f), some (.int n), some (.int j), some (.int v1), some (.int (1 : Int32))], [], HH x (ua σ 49 (upd (σ.2.2.1 49) ((f + n) - v8).toNatClampNeg (1 : Int32))))) rfl (k20 h1 h2 h3 h4 h5 h6 h7) (Or.inr rfl) ?_
                refine mm_go 2 (F' := (72, [some (.ref 37), some (.int w), some (.int u), some (.int c), some (.int f), some (.int n), some (.int (j + (1 : Int32))), some (.int v1), some (.int (1 : Int32))], [], HH x (ua σ 49 (upd (σ.2.2.1 49) ((f + n) - v8).toNatClampNeg (1 : Int32))))) rfl ?_
                exact mm_wk (by exact (And.intro rfl (And.intro rfl (And.intro rfl (And.intro rfl (And.intro rfl (And.intro rfl (And.intro rfl True.intro)))))))) (k21 h1 h2 h3 h4 h5 h6 h7)
theorem vx_lmah_p0 {d : Nat} {x : Nat × (Nat → Int32)} {σ : mm_S} {w u c f n j : Int32}  {v1 v2 v3 v4 v5 v6 v7 v8 : Int32} (hd : 1 ≤ d) (h1 : (4 : Int32) ≤ j) : mm_Runs d 125 (72, [some (.ref 37), some (.int w), some (.int u), some (.int c), some (.int f), some (.int n), some (.int j), none, none], [], HH x σ) (none, HH x σ) := vx_lmah (v1 := v1) (v2 := v2) (v3 := v3) (v4 := v4) (v5 := v5) (v6 := v6) (v7 := v7) (v8 := v8) hd (fun _ => rfl) (fun  z => absurd h1 z) (fun  z _ => absurd h1 z) (fun  z _ => absurd h1 z) (fun  z _ _ => absurd h1 z) (fun  z _ _ => absurd h1 z) (fun  z _ _ _ => absurd h1 z) (fun  z _ _ _ => absurd h1 z) (fun  z _ _ _ _ => absurd h1 z) (fun  z _ _ _ _ => absurd h1 z) (fun  z _ _ _ _ => absurd h1 z) (fun  z _ _ _ _ _ => absurd h1 z) (fun  z _ _ _ _ _ => absurd h1 z) (fun  z _ _ _ _ _ => absurd h1 z) (fun  z _ _ _ _ _ => absurd h1 z) (fun  z _ _ _ _ _ => absurd h1 z) (fun  z _ _ _ _ _ _ => absurd h1 z) (fun  z _ _ _ _ _ _ => absurd h1 z) (fun  z _ _ _ _ _ _ => absurd h1 z) (fun  z _ _ _ _ _ _ => absurd h1 z) (fun  z _ _ _ _ _ _ => absurd h1 z)
theorem vx_lmah_p1 {d : Nat} {x : Nat × (Nat → Int32)} {σ : mm_S} {w u c f n j : Int32}  {v1 v2 v3 v4 v5 v6 v7 v8 : Int32} {r : Option Value × mm_H} (hd : 1 ≤ d) (h1 : ¬ (4 : Int32) ≤ j) (h2 : v1 = (-9 : Int32)) (g1 : mm_Runs (d - 1) 99 (0, [some (.ref 37), some (.int c), some (.int j), none, none, none], [], HH x σ) (some (.int v1), HH x σ)) (kk : mm_Runs d 125 (72, [some (.ref 37), some (.int w), some (.int u), some (.int c), some (.int f), some (.int n), some (.int (j + (1 : Int32))), none, none], [], HH x σ) r) : mm_Runs d 125 (72, [some (.ref 37), some (.int w), some (.int u), some (.int c), some (.int f), some (.int n), some (.int j), none, none], [], HH x σ) r := vx_lmah (v1 := v1) (v2 := v2) (v3 := v3) (v4 := v4) (v5 := v5) (v6 := v6) (v7 := v7) (v8 := v8) hd (fun  z => absurd z h1) (fun _ => g1) (fun _ _ => kk) (fun _ z => absurd h2 z) (fun _ z _ => absurd h2 z) (fun _ z _ => absurd h2 z) (fun _ z _ _ => absurd h2 z) (fun _ z _ _ => absurd h2 z) (fun _ z _ _ _ => absurd h2 z) (fun _ z _ _ _ => absurd h2 z) (fun _ z _ _ _ => absurd h2 z) (fun _ z _ _ _ _ => absurd h2 z) (fun _ z _ _ _ _ => absurd h2 z) (fun _ z _ _ _ _ => absurd h2 z) (fun _ z _ _ _ _ => absurd h2 z) (fun _ z _ _ _ _ => absurd h2 z) (fun _ z _ _ _ _ _ => absurd h2 z) (fun _ z _ _ _ _ _ => absurd h2 z) (fun _ z _ _ _ _ _ => absurd h2 z) (fun _ z _ _ _ _ _ => absurd h2 z) (fun _ z _ _ _ _ _ => absurd h2 z)
theorem vx_lmah_p2 {d : Nat} {x : Nat × (Nat → Int32)} {σ : mm_S} {w u c f n j : Int32}  {v1 v2 v3 v4 v5 v6 v7 v8 : Int32} {r : Option Value × mm_H} (hd : 1 ≤ d) (h1 : ¬ (4 : Int32) ≤ j) (h2 : ¬ v1 = (-9 : Int32)) (h3 : v2 = 0) (g1 : mm_Runs (d - 1) 99 (0, [some (.ref 37), some (.int c), some (.int j), none, none, none], [], HH x σ) (some (.int v1), HH x σ)) (g2 : mm_Runs (d - 1) 122 (0, [some (.ref 37), some (.int w), some (.int v1), none], [], HH x σ) (some (.int v2), HH x σ)) (kk : mm_Runs d 125 (72, [some (.ref 37), some (.int w), some (.int u), some (.int c), some (.int f), some (.int n), some (.int (j + (1 : Int32))), none, none], [], HH x σ) r) : mm_Runs d 125 (72, [some (.ref 37), some (.int w), some (.int u), some (.int c), some (.int f), some (.int n), some (.int j), none, none], [], HH x σ) r := vx_lmah (v1 := v1) (v2 := v2) (v3 := v3) (v4 := v4) (v5 := v5) (v6 := v6) (v7 := v7) (v8 := v8) hd (fun  z => absurd z h1) (fun _ => g1) (fun _ z => absurd z h2) (fun _ _ => g2) (fun _ _ _ => kk) (fun _ _ z => absurd h3 z) (fun _ _ z _ => absurd h3 z) (fun _ _ z _ => absurd h3 z) (fun _ _ z _ _ => absurd h3 z) (fun _ _ z _ _ => absurd h3 z) (fun _ _ z _ _ => absurd h3 z) (fun _ _ z _ _ _ => absurd h3 z) (fun _ _ z _ _ _ => absurd h3 z) (fun _ _ z _ _ _ => absurd h3 z) (fun _ _ z _ _ _ => absurd h3 z) (fun _ _ z _ _ _ => absurd h3 z) (fun _ _ z _ _ _ _ => absurd h3 z) (fun _ _ z _ _ _ _ => absurd h3 z) (fun _ _ z _ _ _ _ => absurd h3 z) (fun _ _ z _ _ _ _ => absurd h3 z) (fun _ _ z _ _ _ _ => absurd h3 z)
theorem vx_lmah_p3 {d : Nat} {x : Nat × (Nat → Int32)} {σ : mm_S} {w u c f n j : Int32}  {v1 v2 v3 v4 v5 v6 v7 v8 : Int32} {r : Option Value × mm_H} (hd : 1 ≤ d) (h1 : ¬ (4 : Int32) ≤ j) (h2 : ¬ v1 = (-9 : Int32)) (h3 : ¬ v2 = 0) (h4 : v3 = 0) (g1 : mm_Runs (d - 1) 99 (0, [some (.ref 37), some (.int c), some (.int j), none, none, none], [], HH x σ) (some (.int v1), HH x σ)) (g2 : mm_Runs (d - 1) 122 (0, [some (.ref 37), some (.int w), some (.int v1), none], [], HH x σ) (some (.int v2), HH x σ)) (g3 : mm_Runs (d - 1) 122 (0, [some (.ref 37), some (.int u), some (.int v1), none], [], HH x σ) (some (.int v3), HH x σ)) (kk : mm_Runs d 125 (72, [some (.ref 37), some (.int w), some (.int u), some (.int c), some (.int f), some (.int n), some (.int (j + (1 : Int32))), none, none], [], HH x σ) r) : mm_Runs d 125 (72, [some (.ref 37), some (.int w), some (.int u), some (.int c), some (.int f), some (.int n), some (.int j), none, none], [], HH x σ) r := vx_lmah (v1 := v1) (v2 := v2) (v3 := v3) (v4 := v4) (v5 := v5) (v6 := v6) (v7 := v7) (v8 := v8) hd (fun  z => absurd z h1) (fun _ => g1) (fun _ z => absurd z h2) (fun _ _ => g2) (fun _ _ z => absurd z h3) (fun _ _ _ => g3) (fun _ _ _ _ => kk) (fun _ _ _ z => absurd h4 z) (fun _ _ _ z _ => absurd h4 z) (fun _ _ _ z _ => absurd h4 z) (fun _ _ _ z _ => absurd h4 z) (fun _ _ _ z _ _ => absurd h4 z) (fun _ _ _ z _ _ => absurd h4 z) (fun _ _ _ z _ _ => absurd h4 z) (fun _ _ _ z _ _ => absurd h4 z) (fun _ _ _ z _ _ => absurd h4 z) (fun _ _ _ z _ _ _ => absurd h4 z) (fun _ _ _ z _ _ _ => absurd h4 z) (fun _ _ _ z _ _ _ => absurd h4 z) (fun _ _ _ z _ _ _ => absurd h4 z) (fun _ _ _ z _ _ _ => absurd h4 z)
theorem vx_lmah_p4 {d : Nat} {x : Nat × (Nat → Int32)} {σ : mm_S} {w u c f n j : Int32}  {v1 v2 v3 v4 v5 v6 v7 v8 : Int32} {r : Option Value × mm_H} (hd : 1 ≤ d) (h1 : ¬ (4 : Int32) ≤ j) (h2 : ¬ v1 = (-9 : Int32)) (h3 : ¬ v2 = 0) (h4 : ¬ v3 = 0) (h5 : v4 = 0) (g1 : mm_Runs (d - 1) 99 (0, [some (.ref 37), some (.int c), some (.int j), none, none, none], [], HH x σ) (some (.int v1), HH x σ)) (g2 : mm_Runs (d - 1) 122 (0, [some (.ref 37), some (.int w), some (.int v1), none], [], HH x σ) (some (.int v2), HH x σ)) (g3 : mm_Runs (d - 1) 122 (0, [some (.ref 37), some (.int u), some (.int v1), none], [], HH x σ) (some (.int v3), HH x σ)) (g4 : mm_Runs (d - 1) 122 (0, [some (.ref 37), some (.int u), some (.int c), none], [], HH x σ) (some (.int v4), HH x σ)) (kk : mm_Runs d 125 (72, [some (.ref 37), some (.int w), some (.int u), some (.int c), some (.int f), some (.int n), some (.int (j + (1 : Int32))), none, none], [], HH x σ) r) : mm_Runs d 125 (72, [some (.ref 37), some (.int w), some (.int u), some (.int c), some (.int f), some (.int n), some (.int j), none, none], [], HH x σ) r := vx_lmah (v1 := v1) (v2 := v2) (v3 := v3) (v4 := v4) (v5 := v5) (v6 := v6) (v7 := v7) (v8 := v8) hd (fun  z => absurd z h1) (fun _ => g1) (fun _ z => absurd z h2) (fun _ _ => g2) (fun _ _ z => absurd z h3) (fun _ _ _ => g3) (fun _ _ _ z => absurd z h4) (fun _ _ _ _ => g4) (fun _ _ _ _ _ => kk) (fun _ _ _ _ z => absurd h5 z) (fun _ _ _ _ z => absurd h5 z) (fun _ _ _ _ z _ => absurd h5 z) (fun _ _ _ _ z _ => absurd h5 z) (fun _ _ _ _ z _ => absurd h5 z) (fun _ _ _ _ z _ => absurd h5 z) (fun _ _ _ _ z _ => absurd h5 z) (fun _ _ _ _ z _ _ => absurd h5 z) (fun _ _ _ _ z _ _ => absurd h5 z) (fun _ _ _ _ z _ _ => absurd h5 z) (fun _ _ _ _ z _ _ => absurd h5 z) (fun _ _ _ _ z _ _ => absurd h5 z)
theorem vx_lmah_p5 {d : Nat} {x : Nat × (Nat → Int32)} {σ : mm_S} {w u c f n j : Int32}  {v1 v2 v3 v4 v5 v6 v7 v8 : Int32} {r : Option Value × mm_H} (hd : 1 ≤ d) (h1 : ¬ (4 : Int32) ≤ j) (h2 : ¬ v1 = (-9 : Int32)) (h3 : ¬ v2 = 0) (h4 : ¬ v3 = 0) (h5 : ¬ v4 = 0) (h6 : ¬ v5 = (n + (1 : Int32))) (g1 : mm_Runs (d - 1) 99 (0, [some (.ref 37), some (.int c), some (.int j), none, none, none], [], HH x σ) (some (.int v1), HH x σ)) (g2 : mm_Runs (d - 1) 122 (0, [some (.ref 37), some (.int w), some (.int v1), none], [], HH x σ) (some (.int v2), HH x σ)) (g3 : mm_Runs (d - 1) 122 (0, [some (.ref 37), some (.int u), some (.int v1), none], [], HH x σ) (some (.int v3), HH x σ)) (g4 : mm_Runs (d - 1) 122 (0, [some (.ref 37), some (.int u), some (.int c), none], [], HH x σ) (some (.int v4), HH x σ)) (g5 : ¬ (w < 0 ∨ 6 ≤ w.toNatClampNeg)) (g6 : mm_Runs (d - 1) 100 (0, [some (.ref 37), some (.int ((σ.2.2.1 48) w.toNatClampNeg)), some (.int v1)], [], HH x σ) (some (.int v5), HH x σ)) (kk : mm_Runs d 125 (72, [some (.ref 37), some (.int w), some (.int u), some (.int c), some (.int f), some (.int n), some (.int (j + (1 : Int32))), none, none], [], HH x σ) r) : mm_Runs d 125 (72, [some (.ref 37), some (.int w), some (.int u), some (.int c), some (.int f), some (.int n), some (.int j), none, none], [], HH x σ) r := vx_lmah (v1 := v1) (v2 := v2) (v3 := v3) (v4 := v4) (v5 := v5) (v6 := v6) (v7 := v7) (v8 := v8) hd (fun  z => absurd z h1) (fun _ => g1) (fun _ z => absurd z h2) (fun _ _ => g2) (fun _ _ z => absurd z h3) (fun _ _ _ => g3) (fun _ _ _ z => absurd z h4) (fun _ _ _ _ => g4) (fun _ _ _ _ z => absurd z h5) (fun _ _ _ _ _ => g5) (fun _ _ _ _ _ => g6) (fun _ _ _ _ _ _ => kk) (fun _ _ _ _ _ z => absurd z h6) (fun _ _ _ _ _ z => absurd z h6) (fun _ _ _ _ _ z => absurd z h6) (fun _ _ _ _ _ z => absurd z h6) (fun _ _ _ _ _ z _ => absurd z h6) (fun _ _ _ _ _ z _ => absurd z h6) (fun _ _ _ _ _ z _ => absurd z h6) (fun _ _ _ _ _ z _ => absurd z h6) (fun _ _ _ _ _ z _ => absurd z h6)
theorem vx_lmah_p6 {d : Nat} {x : Nat × (Nat → Int32)} {σ : mm_S} {w u c f n j : Int32}  {v1 v2 v3 v4 v5 v6 v7 v8 : Int32} {r : Option Value × mm_H} (hd : 1 ≤ d) (h1 : ¬ (4 : Int32) ≤ j) (h2 : ¬ v1 = (-9 : Int32)) (h3 : ¬ v2 = 0) (h4 : ¬ v3 = 0) (h5 : ¬ v4 = 0) (h6 : v5 = (n + (1 : Int32))) (h7 : ¬ v6 = (v7 + (1 : Int32))) (g1 : mm_Runs (d - 1) 99 (0, [some (.ref 37), some (.int c), some (.int j), none, none, none], [], HH x σ) (some (.int v1), HH x σ)) (g2 : mm_Runs (d - 1) 122 (0, [some (.ref 37), some (.int w), some (.int v1), none], [], HH x σ) (some (.int v2), HH x σ)) (g3 : mm_Runs (d - 1) 122 (0, [some (.ref 37), some (.int u), some (.int v1), none], [], HH x σ) (some (.int v3), HH x σ)) (g4 : mm_Runs (d - 1) 122 (0, [some (.ref 37), some (.int u), some (.int c), none], [], HH x σ) (some (.int v4), HH x σ)) (g5 : ¬ (w < 0 ∨ 6 ≤ w.toNatClampNeg)) (g6 : mm_Runs (d - 1) 100 (0, [some (.ref 37), some (.int ((σ.2.2.1 48) w.toNatClampNeg)), some (.int v1)], [], HH x σ) (some (.int v5), HH x σ)) (g7 : ¬ (u < 0 ∨ 6 ≤ u.toNatClampNeg)) (g8 : mm_Runs (d - 1) 100 (0, [some (.ref 37), some (.int ((σ.2.2.1 48) u.toNatClampNeg)), some (.int c)], [], HH x σ) (some (.int v6), HH x σ)) (g9 : mm_Runs (d - 1) 100 (0, [some (.ref 37), some (.int ((σ.2.2.1 48) u.toNatClampNeg)), some (.int v1)], [], HH x σ) (some (.int v7), HH x σ)) (kk : mm_Runs d 125 (72, [some (.ref 37), some (.int w), some (.int u), some (.int c), some (.int f), some (.int n), some (.int (j + (1 : Int32))), none, none], [], HH x σ) r) : mm_Runs d 125 (72, [some (.ref 37), some (.int w), some (.int u), some (.int c), some (.int f), some (.int n), some (.int j), none, none], [], HH x σ) r := vx_lmah (v1 := v1) (v2 := v2) (v3 := v3) (v4 := v4) (v5 := v5) (v6 := v6) (v7 := v7) (v8 := v8) hd (fun  z => absurd z h1) (fun _ => g1) (fun _ z => absurd z h2) (fun _ _ => g2) (fun _ _ z => absurd z h3) (fun _ _ _ => g3) (fun _ _ _ z => absurd z h4) (fun _ _ _ _ => g4) (fun _ _ _ _ z => absurd z h5) (fun _ _ _ _ _ => g5) (fun _ _ _ _ _ => g6) (fun _ _ _ _ _ z => absurd h6 z) (fun _ _ _ _ _ _ => g7) (fun _ _ _ _ _ _ => g8) (fun _ _ _ _ _ _ => g7) (fun _ _ _ _ _ _ => g9) (fun _ _ _ _ _ _ _ => kk) (fun _ _ _ _ _ _ z => absurd z h7) (fun _ _ _ _ _ _ z => absurd z h7) (fun _ _ _ _ _ _ z => absurd z h7) (fun _ _ _ _ _ _ z => absurd z h7)
theorem vx_lmah_p7 {d : Nat} {x : Nat × (Nat → Int32)} {σ : mm_S} {w u c f n j : Int32}  {v1 v2 v3 v4 v5 v6 v7 v8 : Int32} {r : Option Value × mm_H} (hd : 1 ≤ d) (h1 : ¬ (4 : Int32) ≤ j) (h2 : ¬ v1 = (-9 : Int32)) (h3 : ¬ v2 = 0) (h4 : ¬ v3 = 0) (h5 : ¬ v4 = 0) (h6 : v5 = (n + (1 : Int32))) (h7 : v6 = (v7 + (1 : Int32))) (g1 : mm_Runs (d - 1) 99 (0, [some (.ref 37), some (.int c), some (.int j), none, none, none], [], HH x σ) (some (.int v1), HH x σ)) (g2 : mm_Runs (d - 1) 122 (0, [some (.ref 37), some (.int w), some (.int v1), none], [], HH x σ) (some (.int v2), HH x σ)) (g3 : mm_Runs (d - 1) 122 (0, [some (.ref 37), some (.int u), some (.int v1), none], [], HH x σ) (some (.int v3), HH x σ)) (g4 : mm_Runs (d - 1) 122 (0, [some (.ref 37), some (.int u), some (.int c), none], [], HH x σ) (some (.int v4), HH x σ)) (g5 : ¬ (w < 0 ∨ 6 ≤ w.toNatClampNeg)) (g6 : mm_Runs (d - 1) 100 (0, [some (.ref 37), some (.int ((σ.2.2.1 48) w.toNatClampNeg)), some (.int v1)], [], HH x σ) (some (.int v5), HH x σ)) (g7 : ¬ (u < 0 ∨ 6 ≤ u.toNatClampNeg)) (g8 : mm_Runs (d - 1) 100 (0, [some (.ref 37), some (.int ((σ.2.2.1 48) u.toNatClampNeg)), some (.int c)], [], HH x σ) (some (.int v6), HH x σ)) (g9 : mm_Runs (d - 1) 100 (0, [some (.ref 37), some (.int ((σ.2.2.1 48) u.toNatClampNeg)), some (.int v1)], [], HH x σ) (some (.int v7), HH x σ)) (g10 : mm_Runs (d - 1) 100 (0, [some (.ref 37), some (.int ((σ.2.2.1 48) u.toNatClampNeg)), some (.int v1)], [], HH x σ) (some (.int v8), HH x σ)) (g11 : ¬ (((f + n) - v8) < 0 ∨ 3636 ≤ ((f + n) - v8).toNatClampNeg)) (kk : mm_Runs d 125 (72, [some (.ref 37), some (.int w), some (.int u), some (.int c), some (.int f), some (.int n), some (.int (j + (1 : Int32))), none, none], [], HH x (ua σ 49 (upd (σ.2.2.1 49) ((f + n) - v8).toNatClampNeg (1 : Int32)))) r) : mm_Runs d 125 (72, [some (.ref 37), some (.int w), some (.int u), some (.int c), some (.int f), some (.int n), some (.int j), none, none], [], HH x σ) r := vx_lmah (v1 := v1) (v2 := v2) (v3 := v3) (v4 := v4) (v5 := v5) (v6 := v6) (v7 := v7) (v8 := v8) hd (fun  z => absurd z h1) (fun _ => g1) (fun _ z => absurd z h2) (fun _ _ => g2) (fun _ _ z => absurd z h3) (fun _ _ _ => g3) (fun _ _ _ z => absurd z h4) (fun _ _ _ _ => g4) (fun _ _ _ _ z => absurd z h5) (fun _ _ _ _ _ => g5) (fun _ _ _ _ _ => g6) (fun _ _ _ _ _ z => absurd h6 z) (fun _ _ _ _ _ _ => g7) (fun _ _ _ _ _ _ => g8) (fun _ _ _ _ _ _ => g7) (fun _ _ _ _ _ _ => g9) (fun _ _ _ _ _ _ z => absurd h7 z) (fun _ _ _ _ _ _ _ => g7) (fun _ _ _ _ _ _ _ => g10) (fun _ _ _ _ _ _ _ => g11) (fun _ _ _ _ _ _ _ => kk)
set_option maxRecDepth 100000 in
theorem vx_lm0 {d : Nat} {x : Nat × (Nat → Int32)} {σ : mm_S} {r : Option Value × mm_H} (k1 : mm_Runs d 124 (2, [some (.ref 37), some (.int (0 : Int32)), none, none], [], HH x σ) r) : mm_Runs d 124 (0, [some (.ref 37), none, none, none], [], HH x σ) r := by
  refine mm_go 2 (F' := (2, [some (.ref 37), some (.int (0 : Int32)), none, none], [], HH x σ)) rfl ?_
  exact mm_wk (by exact (And.intro rfl (And.intro rfl True.intro))) k1
theorem vx_lm0_p0 {d : Nat} {x : Nat × (Nat → Int32)} {σ : mm_S} {r : Option Value × mm_H}  (kk : mm_Runs d 124 (2, [some (.ref 37), some (.int (0 : Int32)), none, none], [], HH x σ) r) : mm_Runs d 124 (0, [some (.ref 37), none, none, none], [], HH x σ) r := vx_lm0 kk
set_option maxRecDepth 100000 in
theorem vx_lmk {d : Nat} {x : Nat × (Nat → Int32)} {σ : mm_S} {k : Int32} {r : Option Value × mm_H} (k1 : (3636 : Int32) ≤ k → mm_Runs d 124 (24, [some (.ref 37), some (.int (0 : Int32)), none, none], [], HH x σ) r) (k2 : ¬ (3636 : Int32) ≤ k → ¬ (k < 0 ∨ 3636 ≤ k.toNatClampNeg)) (k3 : ¬ (3636 : Int32) ≤ k → mm_Runs d 124 (2, [some (.ref 37), some (.int (k + (1 : Int32))), none, none], [], HH x (ua σ 49 (upd (σ.2.2.1 49) k.toNatClampNeg (0 : Int32)))) r) : mm_Runs d 124 (2, [some (.ref 37), some (.int k), none, none], [], HH x σ) r := by
  refine mm_go 3 (F' := (bif mm_cond .ge k (3636 : Int32) then 22 else 9, [some (.ref 37), some (.int k), none, none], [], HH x σ)) rfl ?_
  refine mb_ge (fun h1 => ?_) (fun h1 => ?_)
  · refine mm_go 2 (F' := (24, [some (.ref 37), some (.int (0 : Int32)), none, none], [], HH x σ)) rfl ?_
    exact mm_wk (by exact (And.intro rfl (And.intro rfl True.intro))) (k1 h1)
  · refine mm_go 4 (F' := (15, [some (.ref 37), some (.int k), none, none], [.int (0 : Int32), .int k, .ref 49], HH x σ)) rfl ?_
    refine mm_gdt (b := (0 : Int32) = 0 ∨ (0 : Int32) = 1) (F' := (16, [some (.ref 37), some (.int k), none, none], [], HH x (ua σ 49 (upd (σ.2.2.1 49) k.toNatClampNeg (0 : Int32))))) rfl (k2 h1) (Or.inl rfl) ?_
    refine mm_go 2 (F' := (2, [some (.ref 37), some (.int (k + (1 : Int32))), none, none], [], HH x (ua σ 49 (upd (σ.2.2.1 49) k.toNatClampNeg (0 : Int32))))) rfl ?_
    exact mm_wk (by exact (And.intro rfl (And.intro rfl True.intro))) (k3 h1)
theorem vx_lmk_p0 {d : Nat} {x : Nat × (Nat → Int32)} {σ : mm_S} {k : Int32} {r : Option Value × mm_H}  (h1 : (3636 : Int32) ≤ k) (kk : mm_Runs d 124 (24, [some (.ref 37), some (.int (0 : Int32)), none, none], [], HH x σ) r) : mm_Runs d 124 (2, [some (.ref 37), some (.int k), none, none], [], HH x σ) r := vx_lmk (fun _ => kk) (fun  z => absurd h1 z) (fun  z => absurd h1 z)
theorem vx_lmk_p1 {d : Nat} {x : Nat × (Nat → Int32)} {σ : mm_S} {k : Int32} {r : Option Value × mm_H}  (h1 : ¬ (3636 : Int32) ≤ k) (g1 : ¬ (k < 0 ∨ 3636 ≤ k.toNatClampNeg)) (kk : mm_Runs d 124 (2, [some (.ref 37), some (.int (k + (1 : Int32))), none, none], [], HH x (ua σ 49 (upd (σ.2.2.1 49) k.toNatClampNeg (0 : Int32)))) r) : mm_Runs d 124 (2, [some (.ref 37), some (.int k), none, none], [], HH x σ) r := vx_lmk (fun  z => absurd z h1) (fun _ => g1) (fun _ => kk)
set_option maxRecDepth 100000 in
theorem vx_lmw {d : Nat} {x : Nat × (Nat → Int32)} {σ : mm_S} {w : Int32} {r : Option Value × mm_H} (k1 : (σ.1 3720) ≤ w → (none, HH x σ) = r) (k2 : ¬ (σ.1 3720) ≤ w → mm_Runs d 124 (34, [some (.ref 37), some (.int w), some (.int (0 : Int32)), none], [], HH x σ) r) : mm_Runs d 124 (24, [some (.ref 37), some (.int w), none, none], [], HH x σ) r := by
  refine mm_go 4 (F' := (bif mm_cond .ge w (σ.1 3720) then 82 else 32, [some (.ref 37), some (.int w), none, none], [], HH x σ)) rfl ?_
  refine mb_ge (fun h1 => ?_) (fun h1 => ?_)
  · exact mm_rt rfl rfl (k1 h1)
  · refine mm_go 2 (F' := (34, [some (.ref 37), some (.int w), some (.int (0 : Int32)), none], [], HH x σ)) rfl ?_
    exact mm_wk (by exact (And.intro rfl (And.intro rfl (And.intro rfl True.intro)))) (k2 h1)
theorem vx_lmw_p0 {d : Nat} {x : Nat × (Nat → Int32)} {σ : mm_S} {w : Int32}  (h1 : (σ.1 3720) ≤ w) : mm_Runs d 124 (24, [some (.ref 37), some (.int w), none, none], [], HH x σ) (none, HH x σ) := vx_lmw (fun _ => rfl) (fun  z => absurd h1 z)
theorem vx_lmw_p1 {d : Nat} {x : Nat × (Nat → Int32)} {σ : mm_S} {w : Int32} {r : Option Value × mm_H}  (h1 : ¬ (σ.1 3720) ≤ w) (kk : mm_Runs d 124 (34, [some (.ref 37), some (.int w), some (.int (0 : Int32)), none], [], HH x σ) r) : mm_Runs d 124 (24, [some (.ref 37), some (.int w), none, none], [], HH x σ) r := vx_lmw (fun  z => absurd z h1) (fun _ => kk)
set_option maxRecDepth 100000 in
theorem vx_lmo {d : Nat} {x : Nat × (Nat → Int32)} {σ : mm_S} {w u : Int32} {r : Option Value × mm_H} (k1 : (σ.1 3720) ≤ u → mm_Runs d 124 (24, [some (.ref 37), some (.int (w + (1 : Int32))), none, none], [], HH x σ) r) (k2 : ¬ (σ.1 3720) ≤ u → mm_Runs d 124 (44, [some (.ref 37), some (.int w), some (.int u), some (.int (0 : Int32))], [], HH x σ) r) : mm_Runs d 124 (34, [some (.ref 37), some (.int w), some (.int u), none], [], HH x σ) r := by
  refine mm_go 4 (F' := (bif mm_cond .ge u (σ.1 3720) then 76 else 42, [some (.ref 37), some (.int w), some (.int u), none], [], HH x σ)) rfl ?_
  refine mb_ge (fun h1 => ?_) (fun h1 => ?_)
  · refine mm_go 2 (F' := (24, [some (.ref 37), some (.int (w + (1 : Int32))), some (.int u), none], [], HH x σ)) rfl ?_
    exact mm_wk (by exact (And.intro rfl (And.intro rfl True.intro))) (k1 h1)
  · refine mm_go 2 (F' := (44, [some (.ref 37), some (.int w), some (.int u), some (.int (0 : Int32))], [], HH x σ)) rfl ?_
    exact mm_wk (by exact (And.intro rfl (And.intro rfl (And.intro rfl (And.intro rfl True.intro))))) (k2 h1)
theorem vx_lmo_p0 {d : Nat} {x : Nat × (Nat → Int32)} {σ : mm_S} {w u : Int32} {r : Option Value × mm_H}  (h1 : (σ.1 3720) ≤ u) (kk : mm_Runs d 124 (24, [some (.ref 37), some (.int (w + (1 : Int32))), none, none], [], HH x σ) r) : mm_Runs d 124 (34, [some (.ref 37), some (.int w), some (.int u), none], [], HH x σ) r := vx_lmo (fun _ => kk) (fun  z => absurd h1 z)
theorem vx_lmo_p1 {d : Nat} {x : Nat × (Nat → Int32)} {σ : mm_S} {w u : Int32} {r : Option Value × mm_H}  (h1 : ¬ (σ.1 3720) ≤ u) (kk : mm_Runs d 124 (44, [some (.ref 37), some (.int w), some (.int u), some (.int (0 : Int32))], [], HH x σ) r) : mm_Runs d 124 (34, [some (.ref 37), some (.int w), some (.int u), none], [], HH x σ) r := vx_lmo (fun  z => absurd z h1) (fun _ => kk)
set_option maxRecDepth 100000 in
theorem vx_lmc {d : Nat} {x : Nat × (Nat → Int32)} {σ : mm_S} {w u c : Int32}  {σ1 : mm_S} {r : Option Value × mm_H} (hd : 1 ≤ d) (k1 : (f_m_all σ) ≤ c → mm_Runs d 124 (34, [some (.ref 37), some (.int w), some (.int (u + (1 : Int32))), none], [], HH x σ) r) (k2 : ¬ (f_m_all σ) ≤ c → w = u → mm_Runs d 124 (34, [some (.ref 37), some (.int w), some (.int (u + (1 : Int32))), none], [], HH x σ) r) (k3 : ¬ (f_m_all σ) ≤ c → ¬ w = u → mm_Runs (d - 1) 125 (0, [some (.ref 37), some (.int w), some (.int u), some (.int c), none, none, none, none, none], [], HH x σ) (none, HH x σ1)) (k4 : ¬ (f_m_all σ) ≤ c → ¬ w = u → mm_Runs d 124 (44, [some (.ref 37), some (.int w), some (.int u), some (.int (c + (1 : Int32)))], [], HH x σ1) r) : mm_Runs d 124 (44, [some (.ref 37), some (.int w), some (.int u), some (.int c)], [], HH x σ) r := by
  refine mm_go 2 (F' := (46, [some (.ref 37), some (.int w), some (.int u), some (.int c)], [.ref 37, .int c], HH x σ)) rfl ?_
  refine mm_kl (z := 94) (as := [.ref 37]) (S' := [.int c]) (L2 := [some (.ref 37)]) (v := some (.int (f_m_all σ))) (h1 := HH x σ) rfl rfl rfl rfl rfl (by omega) (r_m_all (by omega)) ?_
  show mm_Runs d 124 (49, [some (.ref 37), some (.int w), some (.int u), some (.int c)], [.int (f_m_all σ), .int c], HH x σ) r
  refine mm_go 1 (F' := (bif mm_cond .ge c (f_m_all σ) then 70 else 52, [some (.ref 37), some (.int w), some (.int u), some (.int c)], [], HH x σ)) rfl ?_
  refine mb_ge (fun h1 => ?_) (fun h1 => ?_)
  · refine mm_go 2 (F' := (34, [some (.ref 37), some (.int w), some (.int (u + (1 : Int32))), some (.int c)], [], HH x σ)) rfl ?_
    exact mm_wk (by exact (And.intro rfl (And.intro rfl (And.intro rfl True.intro)))) (k1 h1)
  · refine mm_go 3 (F' := (bif mm_cond .eq w u then 70 else 57, [some (.ref 37), some (.int w), some (.int u), some (.int c)], [], HH x σ)) rfl ?_
    refine mb_eq (fun h2 => ?_) (fun h2 => ?_)
    · refine mm_go 2 (F' := (34, [some (.ref 37), some (.int w), some (.int (u + (1 : Int32))), some (.int c)], [], HH x σ)) rfl ?_
      exact mm_wk (by exact (And.intro rfl (And.intro rfl (And.intro rfl True.intro)))) (k2 h1 h2)
    · refine mm_go 4 (F' := (61, [some (.ref 37), some (.int w), some (.int u), some (.int c)], [.int c, .int u, .int w, .ref 37], HH x σ)) rfl ?_
      refine mm_kl (z := 125) (as := [.ref 37, .int w, .int u, .int c]) (S' := []) (L2 := [some (.ref 37), some (.int w), some (.int u), some (.int c), none, none, none, none, none]) (v := none) (h1 := HH x σ1) rfl rfl rfl rfl rfl (by omega) (k3 h1 h2) ?_
      show mm_Runs d 124 (64, [some (.ref 37), some (.int w), some (.int u), some (.int c)], [], HH x σ1) r
      refine mm_go 2 (F' := (44, [some (.ref 37), some (.int w), some (.int u), some (.int (c + (1 : Int32)))], [], HH x σ1)) rfl ?_
      exact mm_wk (by exact (And.intro rfl (And.intro rfl (And.intro rfl (And.intro rfl True.intro))))) (k4 h1 h2)
theorem vx_lmc_p0 {d : Nat} {x : Nat × (Nat → Int32)} {σ : mm_S} {w u c : Int32}  {σ1 : mm_S} {r : Option Value × mm_H} (hd : 1 ≤ d) (h1 : (f_m_all σ) ≤ c) (kk : mm_Runs d 124 (34, [some (.ref 37), some (.int w), some (.int (u + (1 : Int32))), none], [], HH x σ) r) : mm_Runs d 124 (44, [some (.ref 37), some (.int w), some (.int u), some (.int c)], [], HH x σ) r := vx_lmc (σ1 := σ1) hd (fun _ => kk) (fun  z _ => absurd h1 z) (fun  z _ => absurd h1 z) (fun  z _ => absurd h1 z)
theorem vx_lmc_p1 {d : Nat} {x : Nat × (Nat → Int32)} {σ : mm_S} {w u c : Int32}  {σ1 : mm_S} {r : Option Value × mm_H} (hd : 1 ≤ d) (h1 : ¬ (f_m_all σ) ≤ c) (h2 : w = u) (kk : mm_Runs d 124 (34, [some (.ref 37), some (.int w), some (.int (u + (1 : Int32))), none], [], HH x σ) r) : mm_Runs d 124 (44, [some (.ref 37), some (.int w), some (.int u), some (.int c)], [], HH x σ) r := vx_lmc (σ1 := σ1) hd (fun  z => absurd z h1) (fun _ _ => kk) (fun _ z => absurd h2 z) (fun _ z => absurd h2 z)
theorem vx_lmc_p2 {d : Nat} {x : Nat × (Nat → Int32)} {σ : mm_S} {w u c : Int32}  {σ1 : mm_S} {r : Option Value × mm_H} (hd : 1 ≤ d) (h1 : ¬ (f_m_all σ) ≤ c) (h2 : ¬ w = u) (g1 : mm_Runs (d - 1) 125 (0, [some (.ref 37), some (.int w), some (.int u), some (.int c), none, none, none, none, none], [], HH x σ) (none, HH x σ1)) (kk : mm_Runs d 124 (44, [some (.ref 37), some (.int w), some (.int u), some (.int (c + (1 : Int32)))], [], HH x σ1) r) : mm_Runs d 124 (44, [some (.ref 37), some (.int w), some (.int u), some (.int c)], [], HH x σ) r := vx_lmc (σ1 := σ1) hd (fun  z => absurd z h1) (fun _ z => absurd z h2) (fun _ _ => g1) (fun _ _ => kk)
def wn (P : pd_T) (k : Int32) (c b : Nat) : Bool := (List.range 42).any (fun t => pd_th P k c t b)
theorem wn_iff {P : pd_T} {k : Int32} {c b : Nat} (hw : pd_wf P) (hn : pd_n P ≤ 42) : wn P k c b = true ↔ ∃ t, pd_th P k c t b = true := by
  unfold wn
  rw [List.any_eq_true]
  constructor
  · rintro ⟨t, -, h⟩; exact ⟨t, h⟩
  · rintro ⟨t, h⟩
    have := lay_lt hw (th_lay h).1
    exact ⟨t, List.mem_range.mpr (by omega), h⟩
def wsm (P : pd_T) (σ : mm_S) (i : Nat) (k : Int32) (c : Nat) : Prop := i < 6 ∧ kd k ∧ σ.2.2.1 47 i = k ∧ σ.2.2.1 48 i = nI c ∧ P.2.2 c = true
/-- the second one so much later (less 50) meets the first, the first being at a -/
def LMc (P : pd_T) (k1 : Int32) (c1 : Nat) (k2 : Int32) (c2 a y : Nat) : Prop := ∃ t s, t + 50 = s + y ∧ ((pd_th P k1 c1 t a = true ∧ pd_th P k2 c2 s a = true) ∨ ∃ b, pd_adj P a b = true ∧ pd_th P k1 c1 t a = true ∧ pd_th P k2 c2 s b = true ∧ pd_th P k1 c1 (t + 1) b = true ∧ pd_th P k2 c2 (s + 1) a = true)
def LM (P : pd_T) (k1 : Int32) (c1 : Nat) (k2 : Int32) (c2 y : Nat) : Prop := ∃ a, LMc P k1 c1 k2 c2 a y
theorem LM_fwd {P : pd_T} {k1 k2 : Int32} {c1 c2 g : Nat} : LM P k1 c1 k2 c2 (50 + g) ↔ pd_mt P k1 c1 k2 c2 g := by
  constructor
  · rintro ⟨a, t, s, e, h⟩
    have e2 : t = s + g := by omega
    subst e2
    exact ⟨s, a, h⟩
  · rintro ⟨s, a, h⟩
    exact ⟨a, s + g, s, by omega, h⟩
theorem LM_bwd {P : pd_T} {k1 k2 : Int32} {c1 c2 g y : Nat} (hy : y + g = 50) : LM P k1 c1 k2 c2 y ↔ pd_mt P k2 c2 k1 c1 g := by
  constructor
  · rintro ⟨a, t, s, e, h⟩
    have e2 : s = t + g := by omega
    subst e2
    rcases h with h | ⟨b, h1, h2, h3, h4, h5⟩
    · exact ⟨t, a, Or.inl h.symm⟩
    · exact ⟨t, b, Or.inr ⟨a, adj_sym h1, h3, h2, h5, h4⟩⟩
  · rintro ⟨t, a, h | ⟨b, h1, h2, h3, h4, h5⟩⟩
    · exact ⟨a, t, t + g, by omega, Or.inl h.symm⟩
    · exact ⟨b, t, t + g, by omega, Or.inr ⟨a, adj_sym h1, h3, h2, h5, h4⟩⟩
theorem LM_y {P : pd_T} {k1 k2 : Int32} {c1 c2 y : Nat} (hw : pd_wf P) (hn : pd_n P ≤ 42) (h : LM P k1 c1 k2 c2 y) : 9 ≤ y ∧ y ≤ 91 := by
  obtain ⟨a, t, s, e, h⟩ := h
  have h1 : t < 42 ∧ s < 42 := by
    rcases h with h | ⟨b, h1, h2, h3, h4, h5⟩
    · have := lay_lt hw (th_lay h.1).1
      have := lay_lt hw (th_lay h.2).1
      omega
    · have := lay_lt hw (th_lay h2).1
      have := lay_lt hw (th_lay h3).1
      omega
  omega
def dmk (S : Nat → Prop) (D : Nat → Int32) : Prop := ∀ i, i < 3636 → (D i = 1 ∧ S i) ∨ (D i = 0 ∧ ¬ S i)
theorem dmk_cong {S S' : Nat → Prop} {D : Nat → Int32} (e : ∀ i, S i ↔ S' i) (h : dmk S D) : dmk S' D := fun i hi => by
  rcases h i hi with z | z
  · exact Or.inl ⟨z.1, (e i).mp z.2⟩
  · exact Or.inr ⟨z.1, fun y => z.2 ((e i).mpr y)⟩
theorem dmk_set {S : Nat → Prop} {D : Nat → Int32} (h : dmk S D) (k : Nat) : dmk (fun i => S i ∨ i = k) (upd D k 1) := fun i hi => by
  by_cases e : i = k
  · subst e
    exact Or.inl ⟨pk_us, Or.inr rfl⟩
  · rw [pk_un e]
    rcases h i hi with z | z
    · exact Or.inl ⟨z.1, Or.inl z.2⟩
    · exact Or.inr ⟨z.1, fun y => y.elim z.2 e⟩
section LMS
variable {d : Nat} {x : Nat × (Nat → Int32)} {P : pd_T} {σ : mm_S}
theorem m_within {w c b : Nat} {k : Int32} (hd : 1 ≤ d) (hp : r_pm P σ) (hwy : r_way P σ) (h : wsm P σ w k c) (hb : b < pd_n P) : mm_Runs d 122 (0, [some (.ref 37), some (.int (nI w)), some (.int (nI b)), none], [], HH x σ) (some (.int (bI (wn P k c b))), HH x σ) := by
  obtain ⟨h6, hk, e1, e2, hc⟩ := h
  have hn := pm_n42 hp
  have hwf := pm_wf hp
  have hc' := hwf c hc
  have cw : (nI w).toNatClampNeg = w := nI_clamp (by omega)
  have g := nI_in (c := w) (N := 6) h6 (by omega)
  have ew : f_m_way σ ((σ.2.2.1 48) (nI w).toNatClampNeg) (nI b) = pd_way P c b := by rw [cw, e2, way_eq hp hwy hc' hb]
  have key := r_m_isWithin (d := d) (x := x) (σ := σ) (w := nI w) (c := nI b) hd g (by rw [cw, e2]; exact way_g hp hc' hb) (fun _ => g)
  have e : p_m_isWithin σ (nI w) (nI b) ↔ wn P k c b = true := by
    unfold p_m_isWithin
    rw [ew, cw, e1, mrc_eq hk, wn_iff hwf hn]
    have hrc := rc_99 k
    rcases wy_2 hwf hn c b with ⟨z1, z2⟩ | ⟨t, ht, z1, z2⟩
    · constructor
      · intro z; exact absurd z1 z.1
      · rintro ⟨t, y⟩
        have := (th_lay y).1
        rw [z2] at this; cases this
    · rw [z1, nI_ltI (by omega) (by omega)]
      constructor
      · intro z
        refine ⟨t, ?_⟩
        unfold pd_th
        rw [z2, Bool.true_and, decide_eq_true_eq]; omega
      · rintro ⟨s, y⟩
        have := bf_uni z2 (th_lay y).1
        have := (th_lay y).2
        exact ⟨nI_n9 (by omega), by omega⟩
  unfold bI
  by_cases z : wn P k c b = true
  · rw [mm_b_pos (e.mpr z)] at key
    rw [if_pos z]; exact key
  · rw [mm_b_neg (fun y => z (e.mp y))] at key
    rw [if_neg z]; exact key
theorem m_wayr {a b : Nat} (hp : r_pm P σ) (hwy : r_way P σ) (ha : a < pd_n P) (hb : b < pd_n P) : mm_Runs d 100 (0, [some (.ref 37), some (.int (nI a)), some (.int (nI b))], [], HH x σ) (some (.int (pd_way P a b)), HH x σ) := by
  have key := r_m_way (d := d) (x := x) (σ := σ) (a := nI a) (b := nI b) (by omega) (way_g hp ha hb)
  rw [way_eq hp hwy ha hb] at key
  exact key
theorem way_th {k : Int32} {c b t : Nat} (hw : pd_wf P) (hn : pd_n P ≤ 42) (h : wn P k c b = true) (e : pd_way P c b = nI t) (ht : t < 2 ^ 31) : pd_th P k c t b = true := by
  obtain ⟨s, hs⟩ := (wn_iff hw hn).mp h
  obtain ⟨h1, h2⟩ := (wy_lay hw hn).mp (th_lay hs).1
  rw [h2, nI_eq (by omega) ht] at e
  rw [← e]; exact hs
theorem th_way {k : Int32} {c b t : Nat} (hw : pd_wf P) (hn : pd_n P ≤ 42) (h : pd_th P k c t b = true) : wn P k c b = true ∧ pd_way P c b = nI t ∧ t < 42 := ⟨(wn_iff hw hn).mpr ⟨t, h⟩, ((wy_lay hw hn).mp (th_lay h).1).2, ((wy_lay hw hn).mp (th_lay h).1).1⟩
theorem m_lma_j {w u c c1 c2 t : Nat} {k1 k2 : Int32} (hd : 3 ≤ d) (hp : r_pm P σ) (hwy : r_way P σ) (q1 : wsm P σ w k1 c1) (q2 : wsm P σ u k2 c2) (hc : c < pd_n P) (ht : pd_th P k1 c1 t c = true) :
    ∀ (i j : Nat), j + i = 4 → ∀ (S : Nat → Prop) (D : Nat → Int32), dmk S D → ∃ D', mm_Runs d 125 (72, [some (.ref 37), some (.int (nI w)), some (.int (nI u)), some (.int (nI c)), some (.int (nI (101 * (6 * w + u) + 50))), some (.int (nI t)), some (.int (nI j)), none, none], [], HH x (ua σ 49 D)) (none, HH x (ua σ 49 D')) ∧ dmk (fun e => S e ∨ ∃ j' b s, j ≤ j' ∧ j' < 4 ∧ pd_nb P c j' = some b ∧ pd_th P k2 c2 s b = true ∧ pd_th P k1 c1 (t + 1) b = true ∧ pd_th P k2 c2 (s + 1) c = true ∧ e + s = 101 * (6 * w + u) + 50 + t) D'
  | 0, j, h, S, D, hD => by
    have e : j = 4 := by omega
    subst e
    exact ⟨D, vx_lmah_p0 (v1 := 0) (v2 := 0) (v3 := 0) (v4 := 0) (v5 := 0) (v6 := 0) (v7 := 0) (v8 := 0) (by omega) (by decide), dmk_cong (fun i => ⟨Or.inl, fun z => z.elim id (fun ⟨j', b, s, y1, y2, _⟩ => absurd y2 (by omega))⟩) hD⟩
  | i + 1, j, h, S, D, hD => by
    have hn := pm_n42 hp
    have hwf := pm_wf hp
    have hw6 := q1.1
    have hu6 := q2.1
    have hc1 := hwf c1 q1.2.2.2.2
    have hc2 := hwf c2 q2.2.2.2.2
    have cw : (nI w).toNatClampNeg = w := nI_clamp (by omega)
    have cu : (nI u).toNatClampNeg = u := nI_clamp (by omega)
    have ht42 := lay_lt hwf (th_lay ht).1
    have hp' : r_pm P (ua σ 49 D) := hp
    have hwy' : r_way P (ua σ 49 D) := hwy
    have q1' : wsm P (ua σ 49 D) w k1 c1 := q1
    have q2' : wsm P (ua σ 49 D) u k2 c2 := q2
    have e48w : ((ua σ 49 D).2.2.1 48) (nI w).toNatClampNeg = nI c1 := by rw [cw]; exact q1.2.2.2.1
    have e48u : ((ua σ 49 D).2.2.1 48) (nI u).toNatClampNeg = nI c2 := by rw [cu]; exact q2.2.2.2.1
    have nj : ¬ (4 : Int32) ≤ nI j := nI_ge (a := j) (b := 4) (by omega) (by omega)
    have bes := m_bes (d := d - 1) (x := x) hp' hc (j := j) (by omega)
    have skip : (∀ b s, pd_nb P c j = some b → pd_th P k2 c2 s b = true → pd_th P k1 c1 (t + 1) b = true → pd_th P k2 c2 (s + 1) c = true → False) → ∃ D', mm_Runs d 125 (72, [some (.ref 37), some (.int (nI w)), some (.int (nI u)), some (.int (nI c)), some (.int (nI (101 * (6 * w + u) + 50))), some (.int (nI t)), some (.int (nI j + 1)), none, none], [], HH x (ua σ 49 D)) (none, HH x (ua σ 49 D')) ∧ dmk (fun e => S e ∨ ∃ j' b s, j ≤ j' ∧ j' < 4 ∧ pd_nb P c j' = some b ∧ pd_th P k2 c2 s b = true ∧ pd_th P k1 c1 (t + 1) b = true ∧ pd_th P k2 c2 (s + 1) c = true ∧ e + s = 101 * (6 * w + u) + 50 + t) D' := fun z => by
      obtain ⟨D', r1, r2⟩ := m_lma_j hd hp hwy q1 q2 hc ht i (j + 1) (by omega) S D hD
      rw [nI_1]
      refine ⟨D', r1, dmk_cong (fun e => or_congr Iff.rfl ⟨?_, ?_⟩) r2⟩
      · rintro ⟨j', b, s, y1, y2⟩; exact ⟨j', b, s, by omega, y2⟩
      · rintro ⟨j', b, s, y1, y2, y3, y4, y5, y6, y7⟩
        rcases Nat.lt_or_ge j j' with w' | w'
        · exact ⟨j', b, s, by omega, y2, y3, y4, y5, y6, y7⟩
        · have ej : j' = j := by omega
          subst ej
          exact absurd (z b s y3 y4 y5 y6) (by simp)
    rcases bs_2 hn (bs_w hp hc) hp.2.1 hc j with ⟨z1, z2⟩ | ⟨b, hb1, hb2, hb3, hb4⟩
    · obtain ⟨D', r1, r2⟩ := skip (fun b s y1 y2 y3 y4 => by
        have := th_wat y2
        rw [z2 b y1] at this; cases this)
      exact ⟨D', vx_lmah_p1 (v1 := pd_bs P c j) (v2 := 0) (v3 := 0) (v4 := 0) (v5 := 0) (v6 := 0) (v7 := 0) (v8 := 0) (by omega) nj z1 bes r1, r2⟩
    · rw [hb4] at bes
      have n9 : ¬ nI b = -9 := nI_n9 (by omega)
      have same : ∀ b' : Nat, pd_nb P c j = some b' → b' = b := fun b' y => by rw [hb2] at y; cases y; rfl
      have t2 := m_within (d := d - 1) (x := x) (b := b) (by omega) hp' hwy' q1' hb1
      have t3 := m_within (d := d - 1) (x := x) (b := b) (by omega) hp' hwy' q2' hb1
      have t4 := m_within (d := d - 1) (x := x) (b := c) (by omega) hp' hwy' q2' hc
      cases v2 : wn P k1 c1 b with
      | false =>
        rw [v2] at t2
        obtain ⟨D', r1, r2⟩ := skip (fun b' s y1 y2 y3 y4 => by
          rw [same b' y1] at y3
          have := (th_way hwf hn y3).1
          rw [v2] at this; cases this)
        exact ⟨D', vx_lmah_p2 (v1 := nI b) (v2 := 0) (v3 := 0) (v4 := 0) (v5 := 0) (v6 := 0) (v7 := 0) (v8 := 0) (by omega) nj n9 rfl bes t2 r1, r2⟩
      | true =>
        rw [v2] at t2
        cases v3 : wn P k2 c2 b with
        | false =>
          rw [v3] at t3
          obtain ⟨D', r1, r2⟩ := skip (fun b' s y1 y2 y3 y4 => by
            rw [same b' y1] at y2
            have := (th_way hwf hn y2).1
            rw [v3] at this; cases this)
          exact ⟨D', vx_lmah_p3 (v1 := nI b) (v2 := 1) (v3 := 0) (v4 := 0) (v5 := 0) (v6 := 0) (v7 := 0) (v8 := 0) (by omega) nj n9 (by decide) rfl bes t2 t3 r1, r2⟩
        | true =>
          rw [v3] at t3
          cases v4 : wn P k2 c2 c with
          | false =>
            rw [v4] at t4
            obtain ⟨D', r1, r2⟩ := skip (fun b' s y1 y2 y3 y4 => by
              have := (th_way hwf hn y4).1
              rw [v4] at this; cases this)
            exact ⟨D', vx_lmah_p4 (v1 := nI b) (v2 := 1) (v3 := 1) (v4 := 0) (v5 := 0) (v6 := 0) (v7 := 0) (v8 := 0) (by omega) nj n9 (by decide) (by decide) rfl bes t2 t3 t4 r1, r2⟩
          | true =>
            rw [v4] at t4
            have t6 := m_wayr (d := d - 1) (x := x) hp' hwy' hc1 hb1
            have t8 := m_wayr (d := d - 1) (x := x) hp' hwy' hc2 hc
            have t9 := m_wayr (d := d - 1) (x := x) hp' hwy' hc2 hb1
            rw [← e48w] at t6
            rw [← e48u] at t8 t9
            have gw := nI_in (c := w) (N := 6) hw6 (by omega)
            have gu := nI_in (c := u) (N := 6) hu6 (by omega)
            by_cases v5 : pd_way P c1 b = nI t + 1
            · by_cases v6 : pd_way P c2 c = pd_way P c2 b + 1
              · obtain ⟨s, hs⟩ := (wn_iff hwf hn).mp v3
                obtain ⟨-, es, hs42⟩ := th_way hwf hn hs
                have hb : pd_th P k1 c1 (t + 1) b = true := way_th hwf hn v2 (by rw [v5, nI_1]) (by omega)
                have hcs : pd_th P k2 c2 (s + 1) c = true := way_th hwf hn v4 (by rw [v6, es, nI_1]) (by omega)
                have eix : nI (101 * (6 * w + u) + 50) + nI t - pd_way P c2 b = nI (101 * (6 * w + u) + 50 + t - s) := by rw [es, nI_add, pk_sub (by omega)]
                obtain ⟨D', r1, r2⟩ := m_lma_j hd hp hwy q1 q2 hc ht i (j + 1) (by omega) _ _ (dmk_set hD (101 * (6 * w + u) + 50 + t - s))
                refine ⟨D', vx_lmah_p7 (v1 := nI b) (v2 := 1) (v3 := 1) (v4 := 1) (v5 := pd_way P c1 b) (v6 := pd_way P c2 c) (v7 := pd_way P c2 b) (v8 := pd_way P c2 b) (by omega) nj n9 (by decide) (by decide) (by decide) v5 v6 bes t2 t3 t4 gw t6 gu t8 t9 t9 ?_ ?_, dmk_cong (fun e => ?_) r2⟩
                · rw [eix]; exact nI_in (by omega) (by omega)
                · rw [eix, nI_clamp (by omega), nI_1]
                  have e2 : ua (ua σ 49 D) 49 (upd ((ua σ 49 D).2.2.1 49) (101 * (6 * w + u) + 50 + t - s) 1) = ua σ 49 (upd D (101 * (6 * w + u) + 50 + t - s) 1) := ua_2 _ _ _ _
                  rw [e2]
                  exact r1
                · constructor
                  · rintro ((y | y) | ⟨j', b', s', y1, y2⟩)
                    · exact Or.inl y
                    · exact Or.inr ⟨j, b, s, by omega, by omega, hb2, hs, hb, hcs, by omega⟩
                    · exact Or.inr ⟨j', b', s', by omega, y2⟩
                  · rintro (y | ⟨j', b', s', y1, y2, y3, y4, y5, y6, y7⟩)
                    · exact Or.inl (Or.inl y)
                    · rcases Nat.lt_or_ge j j' with w' | w'
                      · exact Or.inr ⟨j', b', s', by omega, y2, y3, y4, y5, y6, y7⟩
                      · have ej : j' = j := by omega
                        subst ej
                        rw [same b' y3] at y4
                        have es' := (th_way hwf hn y4).2
                        rw [es, nI_eq (by omega) (by omega)] at es'
                        exact Or.inl (Or.inr (by omega))
              · obtain ⟨D', r1, r2⟩ := skip (fun b' s y1 y2 y3 y4 => by
                  rw [same b' y1] at y2
                  apply v6
                  rw [(th_way hwf hn y4).2.1, (th_way hwf hn y2).2.1, nI_1])
                exact ⟨D', vx_lmah_p6 (v1 := nI b) (v2 := 1) (v3 := 1) (v4 := 1) (v5 := pd_way P c1 b) (v6 := pd_way P c2 c) (v7 := pd_way P c2 b) (v8 := 0) (by omega) nj n9 (by decide) (by decide) (by decide) v5 v6 bes t2 t3 t4 gw t6 gu t8 t9 r1, r2⟩
            · obtain ⟨D', r1, r2⟩ := skip (fun b' s y1 y2 y3 y4 => by
                rw [same b' y1] at y3
                apply v5
                rw [(th_way hwf hn y3).2.1, nI_1])
              exact ⟨D', vx_lmah_p5 (v1 := nI b) (v2 := 1) (v3 := 1) (v4 := 1) (v5 := pd_way P c1 b) (v6 := 0) (v7 := 0) (v8 := 0) (by omega) nj n9 (by decide) (by decide) (by decide) v5 bes t2 t3 t4 gw t6 r1, r2⟩
theorem f101 {w u : Nat} : (101 : Int32) * ((6 : Int32) * nI w + nI u) + (50 : Int32) = nI (101 * (6 * w + u) + 50) := by
  rw [show (101 : Int32) = nI 101 from rfl, show (6 : Int32) = nI 6 from rfl, show (50 : Int32) = nI 50 from rfl, pk_mul, nI_add, pk_mul, nI_add]
def mkc (P : pd_T) (w : Nat) (k1 : Int32) (c1 u : Nat) (k2 : Int32) (c2 a e : Nat) : Prop := ∃ y, e = 101 * (6 * w + u) + y ∧ LMc P k1 c1 k2 c2 a y
theorem m_lma {w u c c1 c2 : Nat} {k1 k2 : Int32} (hd : 3 ≤ d) (hp : r_pm P σ) (hwy : r_way P σ) (q1 : wsm P σ w k1 c1) (q2 : wsm P σ u k2 c2) (hc : c < pd_n P) {S : Nat → Prop} {D : Nat → Int32} (hD : dmk S D) : ∃ D', mm_Runs d 125 (0, [some (.ref 37), some (.int (nI w)), some (.int (nI u)), some (.int (nI c)), none, none, none, none, none], [], HH x (ua σ 49 D)) (none, HH x (ua σ 49 D')) ∧ dmk (fun e => S e ∨ mkc P w k1 c1 u k2 c2 c e) D' := by
  have hn := pm_n42 hp
  have hwf := pm_wf hp
  have hw6 := q1.1
  have hu6 := q2.1
  have hc1 := hwf c1 q1.2.2.2.2
  have hc2 := hwf c2 q2.2.2.2.2
  have cw : (nI w).toNatClampNeg = w := nI_clamp (by omega)
  have cu : (nI u).toNatClampNeg = u := nI_clamp (by omega)
  have hp' : r_pm P (ua σ 49 D) := hp
  have hwy' : r_way P (ua σ 49 D) := hwy
  have q1' : wsm P (ua σ 49 D) w k1 c1 := q1
  have q2' : wsm P (ua σ 49 D) u k2 c2 := q2
  have e48w : ((ua σ 49 D).2.2.1 48) (nI w).toNatClampNeg = nI c1 := by rw [cw]; exact q1.2.2.2.1
  have e48u : ((ua σ 49 D).2.2.1 48) (nI u).toNatClampNeg = nI c2 := by rw [cu]; exact q2.2.2.2.1
  have gw := nI_in (c := w) (N := 6) hw6 (by omega)
  have gu := nI_in (c := u) (N := 6) hu6 (by omega)
  have t1 := m_within (d := d - 1) (x := x) (b := c) (by omega) hp' hwy' q1' hc
  have t4 := m_within (d := d - 1) (x := x) (b := c) (by omega) hp' hwy' q2' hc
  cases v1 : wn P k1 c1 c with
  | false =>
    rw [v1] at t1
    refine ⟨D, vx_lma0_p2 (v1 := 0) (v2 := 0) (v3 := 0) (v4 := 0) (by omega) rfl t1, dmk_cong (fun e => ⟨Or.inl, fun z => z.elim id (fun ⟨y, _, t, s, _, z⟩ => ?_)⟩) hD⟩
    exfalso
    have z2 : pd_th P k1 c1 t c = true := by
      rcases z with z | ⟨b, -, z, -⟩
      · exact z.1
      · exact z
    have := (th_way hwf hn z2).1
    rw [v1] at this; cases this
  | true =>
    rw [v1] at t1
    obtain ⟨t, ht⟩ := (wn_iff hwf hn).mp v1
    obtain ⟨-, et, ht42⟩ := th_way hwf hn ht
    have t3 := m_wayr (d := d - 1) (x := x) hp' hwy' hc1 hc
    rw [← e48w, et] at t3
    have uni : ∀ t', pd_th P k1 c1 t' c = true → t' = t := fun t' z => bf_uni (th_lay ht).1 (th_lay z).1
    have conv : ∀ (S' : Nat → Prop) e, (S' e ∨ ∃ j' b s, 0 ≤ j' ∧ j' < 4 ∧ pd_nb P c j' = some b ∧ pd_th P k2 c2 s b = true ∧ pd_th P k1 c1 (t + 1) b = true ∧ pd_th P k2 c2 (s + 1) c = true ∧ e + s = 101 * (6 * w + u) + 50 + t) ↔ (S' e ∨ ∃ y, e = 101 * (6 * w + u) + y ∧ ∃ s, t + 50 = s + y ∧ ∃ b, pd_adj P c b = true ∧ pd_th P k1 c1 t c = true ∧ pd_th P k2 c2 s b = true ∧ pd_th P k1 c1 (t + 1) b = true ∧ pd_th P k2 c2 (s + 1) c = true) := fun S' e => by
      refine or_congr Iff.rfl ⟨?_, ?_⟩
      · rintro ⟨j, b, s, -, j4, y1, y2, y3, y4, y5⟩
        have hs42 := lay_lt hwf (th_lay y2).1
        exact ⟨50 + t - s, by omega, s, by omega, b, (nb_adj (bs_w hp hc) hp.2.1 hc (hwf b (th_wat y2))).mpr ⟨j, j4, y1⟩, ht, y2, y3, y4⟩
      · rintro ⟨y, y1, s, y2, b, y3, y4, y5, y6, y7⟩
        obtain ⟨j, j4, j5⟩ := (nb_adj (bs_w hp hc) hp.2.1 hc (hwf b (th_wat y5))).mp y3
        exact ⟨j, b, s, by omega, j4, j5, y5, y6, y7, by omega⟩
    cases v3 : wn P k2 c2 c with
    | false =>
      rw [v3] at t4
      obtain ⟨D', r1, r2⟩ := m_lma_j (x := x) hd hp hwy q1 q2 hc ht 4 0 (by omega) S D hD
      refine ⟨D', vx_lma0_p0 (v1 := 1) (v2 := nI t) (v3 := 0) (v4 := 0) (by omega) (by decide) rfl t1 gw t3 t4 (by rw [f101]; exact r1), dmk_cong (fun e => ?_) r2⟩
      rw [conv]
      refine or_congr Iff.rfl ⟨?_, ?_⟩
      · rintro ⟨y, y1, s, y2, y3⟩
        exact ⟨y, y1, t, s, y2, Or.inr y3⟩
      · rintro ⟨y, y1, t', s, y2, y3 | ⟨b, y3⟩⟩
        · have := (th_way hwf hn y3.2).1
          rw [v3] at this; cases this
        · have := (th_way hwf hn y3.2.2.2.2).1
          rw [v3] at this; cases this
    | true =>
      rw [v3] at t4
      obtain ⟨s0, hs0⟩ := (wn_iff hwf hn).mp v3
      obtain ⟨-, es, hs42⟩ := th_way hwf hn hs0
      have t6 := m_wayr (d := d - 1) (x := x) hp' hwy' hc2 hc
      rw [← e48u, es] at t6
      have eix : nI (101 * (6 * w + u) + 50) + nI t - nI s0 = nI (101 * (6 * w + u) + 50 + t - s0) := by rw [nI_add, pk_sub (by omega)]
      obtain ⟨D', r1, r2⟩ := m_lma_j (x := x) hd hp hwy q1 q2 hc ht 4 0 (by omega) _ _ (dmk_set hD (101 * (6 * w + u) + 50 + t - s0))
      refine ⟨D', vx_lma0_p1 (v1 := 1) (v2 := nI t) (v3 := 1) (v4 := nI s0) (by omega) (by decide) (by decide) t1 gw t3 t4 gu t6 ?_ ?_, dmk_cong (fun e => ?_) r2⟩
      · rw [f101, eix]; exact nI_in (by omega) (by omega)
      · rw [f101, eix, nI_clamp (by omega)]
        have e2 : ua (ua σ 49 D) 49 (upd ((ua σ 49 D).2.2.1 49) (101 * (6 * w + u) + 50 + t - s0) 1) = ua σ 49 (upd D (101 * (6 * w + u) + 50 + t - s0) 1) := ua_2 _ _ _ _
        rw [e2]
        exact r1
      · refine (conv (fun e => S e ∨ e = 101 * (6 * w + u) + 50 + t - s0) e).trans ?_
        constructor
        · rintro ((y | y) | ⟨y, y1, s, y2, y3⟩)
          · exact Or.inl y
          · exact Or.inr ⟨50 + t - s0, by omega, t, s0, by omega, Or.inl ⟨ht, hs0⟩⟩
          · exact Or.inr ⟨y, y1, t, s, y2, Or.inr y3⟩
        · rintro (y | ⟨y, y1, t', s, y2, y3 | ⟨b, y3⟩⟩)
          · exact Or.inl (Or.inl y)
          · have e1 := uni t' y3.1
            have e2 : s = s0 := bf_uni (th_lay hs0).1 (th_lay y3.2).1
            exact Or.inl (Or.inr (by omega))
          · have e1 := uni t' y3.2.1
            subst e1
            exact Or.inr ⟨y, y1, s, y2, b, y3⟩
theorem m_lm_c {w u c1 c2 n : Nat} {k1 k2 : Int32} (hd : 4 ≤ d) (hp : r_pm P σ) (hwy : r_way P σ) (q1 : wsm P σ w k1 c1) (q2 : wsm P σ u k2 c2) (hwu : w ≠ u) :
    ∀ (i c : Nat), c + i = pd_n P → ∀ (S : Nat → Prop) (D : Nat → Int32), dmk S D → ∃ D', dmk (fun e => S e ∨ ∃ a, c ≤ a ∧ a < pd_n P ∧ mkc P w k1 c1 u k2 c2 a e) D' ∧ ∀ r, mm_Runs d 124 (34, [some (.ref 37), some (.int (nI w)), some (.int (nI (u + 1))), none], [], HH x (ua σ 49 D')) r → mm_Runs d 124 (44, [some (.ref 37), some (.int (nI w)), some (.int (nI u)), some (.int (nI c))], [], HH x (ua σ 49 D)) r
  | 0, c, h, S, D, hD => by
    have hn := pm_n42 hp
    have hp' : r_pm P (ua σ 49 D) := hp
    refine ⟨D, dmk_cong (fun e => ⟨Or.inl, fun z => z.elim id (fun ⟨a, y1, y2, _⟩ => absurd y2 (by omega))⟩) hD, fun r k => vx_lmc_p0 (σ1 := σ) (by omega) (by rw [all_eq hp']; exact nI_le (by omega) (by omega)) (by rw [nI_1]; exact k)⟩
  | i + 1, c, h, S, D, hD => by
    have hn := pm_n42 hp
    have hp' : r_pm P (ua σ 49 D) := hp
    have hw6 := q1.1
    have hu6 := q2.1
    obtain ⟨D1, r1, r2⟩ := m_lma (d := d - 1) (x := x) (by omega) hp hwy q1 q2 (show c < pd_n P by omega) hD
    obtain ⟨D', s1, s2⟩ := m_lm_c (n := n) hd hp hwy q1 q2 hwu i (c + 1) (by omega) _ D1 r2
    refine ⟨D', dmk_cong (fun e => ?_) s1, fun r k => vx_lmc_p2 (σ1 := ua σ 49 D1) (by omega) (by rw [all_eq hp']; exact nI_ge (by omega) (by omega)) (by rw [nI_eq (by omega) (by omega)]; exact hwu) r1 (by rw [nI_1]; exact s2 r k)⟩
    constructor
    · rintro ((y | y) | ⟨a, y1, y2⟩)
      · exact Or.inl y
      · exact Or.inr ⟨c, by omega, by omega, y⟩
      · exact Or.inr ⟨a, by omega, y2⟩
    · rintro (y | ⟨a, y1, y2, y3⟩)
      · exact Or.inl (Or.inl y)
      · rcases Nat.lt_or_ge c a with z | z
        · exact Or.inr ⟨a, by omega, y2, y3⟩
        · rw [show a = c by omega] at y3; exact Or.inl (Or.inr y3)
/-- the wishes by their numbers -/
def wms (P : pd_T) (σ : mm_S) (n : Nat) (kk : Nat → Int32) (cc : Nat → Nat) : Prop := n ≤ 6 ∧ σ.1 3720 = nI n ∧ ∀ i, i < n → wsm P σ i (kk i) (cc i)
def mkp (P : pd_T) (kk : Nat → Int32) (cc : Nat → Nat) (w u e : Nat) : Prop := w ≠ u ∧ ∃ a, a < pd_n P ∧ mkc P w (kk w) (cc w) u (kk u) (cc u) a e
theorem m_lm_o {w n : Nat} {kk : Nat → Int32} {cc : Nat → Nat} (hd : 4 ≤ d) (hp : r_pm P σ) (hwy : r_way P σ) (hm : wms P σ n kk cc) (hw : w < n) :
    ∀ (i u : Nat), u + i = n → ∀ (S : Nat → Prop) (D : Nat → Int32), dmk S D → ∃ D', dmk (fun e => S e ∨ ∃ u', u ≤ u' ∧ u' < n ∧ mkp P kk cc w u' e) D' ∧ ∀ r, mm_Runs d 124 (24, [some (.ref 37), some (.int (nI (w + 1))), none, none], [], HH x (ua σ 49 D')) r → mm_Runs d 124 (34, [some (.ref 37), some (.int (nI w)), some (.int (nI u)), none], [], HH x (ua σ 49 D)) r
  | 0, u, h, S, D, hD => by
    have h6 := hm.1
    refine ⟨D, dmk_cong (fun e => ⟨Or.inl, fun z => z.elim id (fun ⟨a, y1, y2, _⟩ => absurd y2 (by omega))⟩) hD, fun r k => vx_lmo_p0 ?_ (by rw [nI_1]; exact k)⟩
    show σ.1 3720 ≤ nI u
    rw [hm.2.1]; exact nI_le (by omega) (by omega)
  | i + 1, u, h, S, D, hD => by
    have h6 := hm.1
    have hn := pm_n42 hp
    have nu : ¬ (ua σ 49 D).1 3720 ≤ nI u := by
      show ¬ σ.1 3720 ≤ nI u
      rw [hm.2.1]; exact nI_ge (by omega) (by omega)
    by_cases e : w = u
    · obtain ⟨D', s1, s2⟩ := m_lm_o hd hp hwy hm hw i (u + 1) (by omega) S D hD
      have hp' : r_pm P (ua σ 49 D) := hp
      refine ⟨D', dmk_cong (fun e' => or_congr Iff.rfl ⟨?_, ?_⟩) s1, fun r k => vx_lmo_p1 nu ?_⟩
      · rintro ⟨u', y1, y2⟩; exact ⟨u', by omega, y2⟩
      · rintro ⟨u', y1, y2, y3⟩
        rcases Nat.lt_or_ge u u' with z | z
        · exact ⟨u', by omega, y2, y3⟩
        · exact absurd (show w = u' by omega) y3.1
      · by_cases q : 0 < pd_n P
        · exact vx_lmc_p1 (σ1 := σ) (by omega) (by rw [all_eq hp']; exact nI_ge (b := pd_n P) q (by omega)) (by rw [e]) (by rw [nI_1]; exact s2 r k)
        · exact vx_lmc_p0 (σ1 := σ) (by omega) (by rw [all_eq hp']; exact nI_le (b := 0) (by omega) (by omega)) (by rw [nI_1]; exact s2 r k)
    · obtain ⟨D1, r1, r2⟩ := m_lm_c (d := d) (x := x) (n := n) hd hp hwy (hm.2.2 w hw) (hm.2.2 u (by omega)) e (pd_n P) 0 (by omega) S D hD
      obtain ⟨D', s1, s2⟩ := m_lm_o hd hp hwy hm hw i (u + 1) (by omega) _ D1 r1
      refine ⟨D', dmk_cong (fun e' => ?_) s1, fun r k => vx_lmo_p1 nu (r2 r (s2 r k))⟩
      constructor
      · rintro ((y | ⟨a, -, y⟩) | ⟨u', y1, y2⟩)
        · exact Or.inl y
        · exact Or.inr ⟨u, by omega, by omega, e, a, y⟩
        · exact Or.inr ⟨u', by omega, y2⟩
      · rintro (y | ⟨u', y1, y2, y3⟩)
        · exact Or.inl (Or.inl y)
        · rcases Nat.lt_or_ge u u' with z | z
          · exact Or.inr ⟨u', by omega, y2, y3⟩
          · rw [show u' = u by omega] at y3
            obtain ⟨-, a, y3⟩ := y3
            exact Or.inl (Or.inr ⟨a, by omega, y3⟩)
theorem m_lm_w {n : Nat} {kk : Nat → Int32} {cc : Nat → Nat} (hd : 4 ≤ d) (hp : r_pm P σ) (hwy : r_way P σ) (hm : wms P σ n kk cc) :
    ∀ (i w : Nat), w + i = n → ∀ (S : Nat → Prop) (D : Nat → Int32), dmk S D → ∃ D', dmk (fun e => S e ∨ ∃ w' u', w ≤ w' ∧ w' < n ∧ u' < n ∧ mkp P kk cc w' u' e) D' ∧ mm_Runs d 124 (24, [some (.ref 37), some (.int (nI w)), none, none], [], HH x (ua σ 49 D)) (none, HH x (ua σ 49 D'))
  | 0, w, h, S, D, hD => by
    have h6 := hm.1
    refine ⟨D, dmk_cong (fun e => ⟨Or.inl, fun z => z.elim id (fun ⟨a, b, y1, y2, _⟩ => absurd y2 (by omega))⟩) hD, vx_lmw_p0 ?_⟩
    show σ.1 3720 ≤ nI w
    rw [hm.2.1]; exact nI_le (by omega) (by omega)
  | i + 1, w, h, S, D, hD => by
    have h6 := hm.1
    have nu : ¬ (ua σ 49 D).1 3720 ≤ nI w := by
      show ¬ σ.1 3720 ≤ nI w
      rw [hm.2.1]; exact nI_ge (by omega) (by omega)
    obtain ⟨D1, r1, r2⟩ := m_lm_o (d := d) (x := x) hd hp hwy hm (show w < n by omega) n 0 (by omega) S D hD
    obtain ⟨D', s1, s2⟩ := m_lm_w hd hp hwy hm i (w + 1) (by omega) _ D1 r1
    refine ⟨D', dmk_cong (fun e' => ?_) s1, vx_lmw_p1 nu (r2 _ s2)⟩
    constructor
    · rintro ((y | ⟨u', -, y1, y2⟩) | ⟨w', u', y1, y2⟩)
      · exact Or.inl y
      · exact Or.inr ⟨w, u', by omega, by omega, y1, y2⟩
      · exact Or.inr ⟨w', u', by omega, y2⟩
    · rintro (y | ⟨w', u', y1, y2, y3, y4⟩)
      · exact Or.inl (Or.inl y)
      · rcases Nat.lt_or_ge w w' with z | z
        · exact Or.inr ⟨w', u', by omega, y2, y3, y4⟩
        · rw [show w' = w by omega] at y4
          exact Or.inl (Or.inr ⟨u', by omega, y3, y4⟩)
theorem m_lm_k {r : Option Value × mm_H} : ∀ (i k : Nat), k + i = 3636 → ∀ (D : Nat → Int32), (∀ e, e < k → D e = 0) → ∃ D', (∀ e, e < 3636 → D' e = 0) ∧ ∀ r, mm_Runs d 124 (24, [some (.ref 37), some (.int (0 : Int32)), none, none], [], HH x (ua σ 49 D')) r → mm_Runs d 124 (2, [some (.ref 37), some (.int (nI k)), none, none], [], HH x (ua σ 49 D)) r
  | 0, k, h, D, hD => ⟨D, fun e he => hD e (by omega), fun r kk => vx_lmk_p0 (by rw [show k = 3636 by omega]; decide) kk⟩
  | i + 1, k, h, D, hD => by
    obtain ⟨D', r1, r2⟩ := m_lm_k (r := r) i (k + 1) (by omega) (upd D k 0) (fun e he => by
      by_cases q : e = k
      · subst q; exact pk_us
      · rw [pk_un q]; exact hD e (by omega))
    refine ⟨D', r1, fun r kk => vx_lmk_p1 (nI_ge (a := k) (b := 3636) (by omega) (by omega)) (nI_in (by omega) (by omega)) ?_⟩
    rw [nI_clamp (by omega), nI_1]
    have e2 : ua (ua σ 49 D) 49 (upd ((ua σ 49 D).2.2.1 49) k 0) = ua σ 49 (upd D k 0) := ua_2 _ _ _ _
    rw [e2]
    exact r2 r kk
def dm_ok (P : pd_T) (kk : Nat → Int32) (cc : Nat → Nat) (n : Nat) (D : Nat → Int32) : Prop := ∀ w u, w < n → u < n → w ≠ u → ∀ y, y ≤ 100 → (D (101 * (6 * w + u) + y) = 1 ∧ LM P (kk w) (cc w) (kk u) (cc u) y) ∨ (D (101 * (6 * w + u) + y) = 0 ∧ ¬ LM P (kk w) (cc w) (kk u) (cc u) y)
theorem m_layMeets {n : Nat} {kk : Nat → Int32} {cc : Nat → Nat} (hd : 4 ≤ d) (hp : r_pm P σ) (hwy : r_way P σ) (hm : wms P σ n kk cc) : ∃ D, mm_Runs d 124 (0, [some (.ref 37), none, none, none], [], HH x σ) (none, HH x (ua σ 49 D)) ∧ dm_ok P kk cc n D := by
  have h6 := hm.1
  have hn := pm_n42 hp
  have hwf := pm_wf hp
  obtain ⟨D0, a1, a2⟩ := m_lm_k (d := d) (x := x) (σ := σ) (r := (none, HH x σ)) 3636 0 (by omega) (σ.2.2.1 49) (fun e he => absurd he (by omega))
  obtain ⟨D, b1, b2⟩ := m_lm_w (d := d) (x := x) hd hp hwy hm n 0 (by omega) (fun _ => False) D0 (fun i hi => Or.inr ⟨a1 i hi, fun z => z⟩)
  refine ⟨D, vx_lm0_p0 ?_, fun w u hw hu hwu y hy => ?_⟩
  · have := a2 _ b2
    rw [ua_self] at this
    exact this
  · have key : (False ∨ ∃ w' u', 0 ≤ w' ∧ w' < n ∧ u' < n ∧ mkp P kk cc w' u' (101 * (6 * w + u) + y)) ↔ LM P (kk w) (cc w) (kk u) (cc u) y := by
      constructor
      · rintro (z | ⟨w', u', -, z1, z2, z3, a, z4, y', z5, z6⟩)
        · exact absurd z (by simp)
        · have := LM_y hwf hn ⟨a, z6⟩
          have e1 : w' = w := by omega
          have e2 : u' = u := by omega
          subst e1; subst e2
          have e3 : y' = y := by omega
          subst e3
          exact ⟨a, z6⟩
      · rintro ⟨a, z⟩
        refine Or.inr ⟨w, u, by omega, hw, hu, hwu, a, ?_, y, rfl, z⟩
        obtain ⟨t, s, -, z⟩ := z
        rcases z with z | ⟨b, -, z, -⟩
        · exact hwf a (th_wat z.1)
        · exact hwf a (th_wat z)
    rcases b1 (101 * (6 * w + u) + y) (by omega) with z | z
    · exact Or.inl ⟨z.1, key.mp z.2⟩
    · exact Or.inr ⟨z.1, fun q => z.2 (key.mpr q)⟩
end LMS

