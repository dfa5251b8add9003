/-! find, in the model (written by wip/whole/t61.py) -/
set_option maxRecDepth 100000 in
theorem vx_gb0 {d : Nat} {x : Nat × (Nat → Int32)} {σ : mm_S} {s w l : Int32} {r : Option Value × mm_H} (k1 : mm_Runs d 132 (5, [some (.ref 37), some (.int s), some (.int w), some (.int l), some (.int (w + (1 : Int32))), none, none], [], HH x σ) r) : mm_Runs d 132 (0, [some (.ref 37), some (.int s), some (.int w), some (.int l), none, none, none], [], HH x σ) r := by
  refine mm_go 4 (F' := (5, [some (.ref 37), some (.int s), some (.int w), some (.int l), some (.int (w + (1 : Int32))), none, none], [], HH x σ)) rfl ?_
  exact mm_wk (by exact (And.intro rfl (And.intro rfl (And.intro rfl (And.intro rfl (And.intro rfl True.intro)))))) k1
theorem vx_gb0_p0 {d : Nat} {x : Nat × (Nat → Int32)} {σ : mm_S} {s w l : Int32} {r : Option Value × mm_H}  (kk : mm_Runs d 132 (5, [some (.ref 37), some (.int s), some (.int w), some (.int l), some (.int (w + (1 : Int32))), none, none], [], HH x σ) r) : mm_Runs d 132 (0, [some (.ref 37), some (.int s), some (.int w), some (.int l), none, none, none], [], HH x σ) r := vx_gb0 kk
set_option maxRecDepth 100000 in
theorem vx_gbb {d : Nat} {x : Nat × (Nat → Int32)} {σ : mm_S} {s w l b : Int32} {r : Option Value × mm_H} (k1 : (σ.1 3720) ≤ b → (some (.int (1 : Int32)), HH x σ) = r) (k2 : ¬ (σ.1 3720) ≤ b → ¬ ((s >>> (b &&& 31)) &&& (1 : Int32)) = 0 → mm_Runs d 132 (33, [some (.ref 37), some (.int s), some (.int w), some (.int l), some (.int b), some (.int (0 : Int32)), some (.int (0 : Int32))], [], HH x σ) r) (k3 : ¬ (σ.1 3720) ≤ b → ((s >>> (b &&& 31)) &&& (1 : Int32)) = 0 → mm_Runs d 132 (33, [some (.ref 37), some (.int s), some (.int w), some (.int l), some (.int b), some (.int (1 : Int32)), some (.int (0 : Int32))], [], HH x σ) r) : mm_Runs d 132 (5, [some (.ref 37), some (.int s), some (.int w), some (.int l), some (.int b), none, none], [], HH x σ) r := by
  refine mm_go 4 (F' := (bif mm_cond .ge b (σ.1 3720) then 77 else 14, [some (.ref 37), some (.int s), some (.int w), some (.int l), some (.int b), none, none], [], HH x σ)) rfl ?_
  refine mb_ge (fun h1 => ?_) (fun h1 => ?_)
  · refine mm_go 1 (F' := (78, [some (.ref 37), some (.int s), some (.int w), some (.int l), some (.int b), none, none], [.int (1 : Int32)], HH x σ)) rfl ?_
    exact mm_rtz rfl rfl (Or.inr rfl) (k1 h1)
  · refine mm_go 6 (F' := (bif mm_cond .ne ((s >>> (b &&& 31)) &&& (1 : Int32)) 0 then 27 else 23, [some (.ref 37), some (.int s), some (.int w), some (.int l), some (.int b), none, none], [], HH x σ)) rfl ?_
    refine mb_ne (fun h2 => ?_) (fun h2 => ?_)
    · refine mm_go 4 (F' := (33, [some (.ref 37), some (.int s), some (.int w), some (.int l), some (.int b), some (.int (0 : Int32)), some (.int (0 : Int32))], [], HH x σ)) rfl ?_
      exact mm_wk (by exact (And.intro rfl (And.intro rfl (And.intro rfl (And.intro rfl (And.intro rfl (And.intro rfl (And.intro rfl True.intro)))))))) (k2 h1 h2)
    · refine mm_go 5 (F' := (33, [some (.ref 37), some (.int s), some (.int w), some (.int l), some (.int b), some (.int (1 : Int32)), some (.int (0 : Int32))], [], HH x σ)) rfl ?_
      exact mm_wk (by exact (And.intro rfl (And.intro rfl (And.intro rfl (And.intro rfl (And.intro rfl (And.intro rfl (And.intro rfl True.intro)))))))) (k3 h1 h2)
theorem vx_gbb_p0 {d : Nat} {x : Nat × (Nat → Int32)} {σ : mm_S} {s w l b : Int32}  (h1 : (σ.1 3720) ≤ b) : mm_Runs d 132 (5, [some (.ref 37), some (.int s), some (.int w), some (.int l), some (.int b), none, none], [], HH x σ) (some (.int (1 : Int32)), HH x σ) := vx_gbb (fun _ => rfl) (fun  z _ => absurd h1 z) (fun  z _ => absurd h1 z)
theorem vx_gbb_p1 {d : Nat} {x : Nat × (Nat → Int32)} {σ : mm_S} {s w l b : Int32} {r : Option Value × mm_H}  (h1 : ¬ (σ.1 3720) ≤ b) (h2 : ¬ ((s >>> (b &&& 31)) &&& (1 : Int32)) = 0) (kk : mm_Runs d 132 (33, [some (.ref 37), some (.int s), some (.int w), some (.int l), some (.int b), some (.int (0 : Int32)), some (.int (0 : Int32))], [], HH x σ) r) : mm_Runs d 132 (5, [some (.ref 37), some (.int s), some (.int w), some (.int l), some (.int b), none, none], [], HH x σ) r := vx_gbb (fun  z => absurd z h1) (fun _ _ => kk) (fun _ z => absurd z h2)
theorem vx_gbb_p2 {d : Nat} {x : Nat × (Nat → Int32)} {σ : mm_S} {s w l b : Int32} {r : Option Value × mm_H}  (h1 : ¬ (σ.1 3720) ≤ b) (h2 : ((s >>> (b &&& 31)) &&& (1 : Int32)) = 0) (kk : mm_Runs d 132 (33, [some (.ref 37), some (.int s), some (.int w), some (.int l), some (.int b), some (.int (1 : Int32)), some (.int (0 : Int32))], [], HH x σ) r) : mm_Runs d 132 (5, [some (.ref 37), some (.int s), some (.int w), some (.int l), some (.int b), none, none], [], HH x σ) r := vx_gbb (fun  z => absurd z h1) (fun _ z => absurd h2 z) (fun _ _ => kk)
set_option maxRecDepth 100000 in
theorem vx_gbm {d : Nat} {x : Nat × (Nat → Int32)} {σ : mm_S} {s w l b y m : Int32}  {v1 : Int32} {r : Option Value × mm_H} (hd : 1 ≤ d) (k1 : l < m → ¬ y = 0 → mm_Runs d 132 (5, [some (.ref 37), some (.int s), some (.int w), some (.int l), some (.int (b + (1 : Int32))), none, none], [], HH x σ) r) (k2 : l < m → y = 0 → (some (.int (0 : Int32)), HH x σ) = r) (k3 : ¬ l < m → ¬ y = 0 → mm_Runs d 132 (5, [some (.ref 37), some (.int s), some (.int w), some (.int l), some (.int (b + (1 : Int32))), none, none], [], HH x σ) r) (k4 : ¬ l < m → y = 0 → mm_Runs (d - 1) 131 (0, [some (.ref 37), some (.int s), some (.int b), some (.int m), some (.int (w + (1 : Int32))), none], [], HH x σ) (some (.int v1), HH x σ)) (k5 : ¬ l < m → y = 0 → mm_Runs d 132 (33, [some (.ref 37), some (.int s), some (.int w), some (.int l), some (.int b), some (.int v1), some (.int (m + (1 : Int32)))], [], HH x σ) r) : mm_Runs d 132 (33, [some (.ref 37), some (.int s), some (.int w), some (.int l), some (.int b), some (.int y), some (.int m)], [], HH x σ) r := by
  refine mm_go 3 (F' := (bif mm_cond .gt m l then 64 else 39, [some (.ref 37), some (.int s), some (.int w), some (.int l), some (.int b), some (.int y), some (.int m)], [], HH x σ)) rfl ?_
  refine mb_gt (fun h1 => ?_) (fun h1 => ?_)
  · refine mm_go 2 (F' := (bif mm_cond .ne y 0 then 71 else 69, [some (.ref 37), some (.int s), some (.int w), some (.int l), some (.int b), some (.int y), some (.int m)], [], HH x σ)) rfl ?_
    refine mb_ne (fun h2 => ?_) (fun h2 => ?_)
    · refine mm_go 2 (F' := (5, [some (.ref 37), some (.int s), some (.int w), some (.int l), some (.int (b + (1 : Int32))), some (.int y), some (.int m)], [], HH x σ)) rfl ?_
      exact mm_wk (by exact (And.intro rfl (And.intro rfl (And.intro rfl (And.intro rfl (And.intro rfl True.intro)))))) (k1 h1 h2)
    · refine mm_go 1 (F' := (70, [some (.ref 37), some (.int s), some (.int w), some (.int l), some (.int b), some (.int y), some (.int m)], [.int (0 : Int32)], HH x σ)) rfl ?_
      exact mm_rtz rfl rfl (Or.inl rfl) (k2 h1 h2)
  · refine mm_go 2 (F' := (bif mm_cond .ne y 0 then 64 else 44, [some (.ref 37), some (.int s), some (.int w), some (.int l), some (.int b), some (.int y), some (.int m)], [], HH x σ)) rfl ?_
    refine mb_ne (fun h3 => ?_) (fun h3 => ?_)
    · refine mm_go 2 (F' := (bif mm_cond .ne y 0 then 71 else 69, [some (.ref 37), some (.int s), some (.int w), some (.int l), some (.int b), some (.int y), some (.int m)], [], HH x σ)) rfl ?_
      refine mb_ne (fun _ => ?_) (fun h4 => absurd h4 h3)
      refine mm_go 2 (F' := (5, [some (.ref 37), some (.int s), some (.int w), some (.int l), some (.int (b + (1 : Int32))), some (.int y), some (.int m)], [], HH x σ)) rfl ?_
      exact mm_wk (by exact (And.intro rfl (And.intro rfl (And.intro rfl (And.intro rfl (And.intro rfl True.intro)))))) (k3 h1 h3)
    · refine mm_go 7 (F' := (53, [some (.ref 37), some (.int s), some (.int w), some (.int l), some (.int b), some (.int y), some (.int m)], [.int (w + (1 : Int32)), .int m, .int b, .int s, .ref 37], HH x σ)) rfl ?_
      refine mm_kl (z := 131) (as := [.ref 37, .int s, .int b, .int m, .int (w + (1 : Int32))]) (S' := []) (L2 := [some (.ref 37), some (.int s), some (.int b), some (.int m), some (.int (w + (1 : Int32))), none]) (v := some (.int v1)) (h1 := HH x σ) rfl rfl rfl rfl rfl (by omega) (k4 h1 h3) ?_
      show mm_Runs d 132 (56, [some (.ref 37), some (.int s), some (.int w), some (.int l), some (.int b), some (.int y), some (.int m)], [.int v1], HH x σ) r
      refine mm_go 3 (F' := (33, [some (.ref 37), some (.int s), some (.int w), some (.int l), some (.int b), some (.int v1), some (.int (m + (1 : Int32)))], [], HH x σ)) rfl ?_
      exact mm_wk (by exact (And.intro rfl (And.intro rfl (And.intro rfl (And.intro rfl (And.intro rfl (And.intro rfl (And.intro rfl True.intro)))))))) (k5 h1 h3)
theorem vx_gbm_p0 {d : Nat} {x : Nat × (Nat → Int32)} {σ : mm_S} {s w l b y m : Int32}  {v1 : Int32} {r : Option Value × mm_H} (hd : 1 ≤ d) (h1 : l < m) (h2 : ¬ y = 0) (kk : mm_Runs d 132 (5, [some (.ref 37), some (.int s), some (.int w), some (.int l), some (.int (b + (1 : Int32))), none, none], [], HH x σ) r) : mm_Runs d 132 (33, [some (.ref 37), some (.int s), some (.int w), some (.int l), some (.int b), some (.int y), some (.int m)], [], HH x σ) r := vx_gbm (v1 := v1) hd (fun _ _ => kk) (fun _ z => absurd z h2) (fun  z _ => absurd h1 z) (fun  z _ => absurd h1 z) (fun  z _ => absurd h1 z)
theorem vx_gbm_p1 {d : Nat} {x : Nat × (Nat → Int32)} {σ : mm_S} {s w l b y m : Int32}  {v1 : Int32} (hd : 1 ≤ d) (h1 : l < m) (h2 : y = 0) : mm_Runs d 132 (33, [some (.ref 37), some (.int s), some (.int w), some (.int l), some (.int b), some (.int y), some (.int m)], [], HH x σ) (some (.int (0 : Int32)), HH x σ) := vx_gbm (v1 := v1) hd (fun _ z => absurd h2 z) (fun _ _ => rfl) (fun  z _ => absurd h1 z) (fun  z _ => absurd h1 z) (fun  z _ => absurd h1 z)
theorem vx_gbm_p2 {d : Nat} {x : Nat × (Nat → Int32)} {σ : mm_S} {s w l b y m : Int32}  {v1 : Int32} {r : Option Value × mm_H} (hd : 1 ≤ d) (h1 : ¬ l < m) (h2 : ¬ y = 0) (kk : mm_Runs d 132 (5, [some (.ref 37), some (.int s), some (.int w), some (.int l), some (.int (b + (1 : Int32))), none, none], [], HH x σ) r) : mm_Runs d 132 (33, [some (.ref 37), some (.int s), some (.int w), some (.int l), some (.int b), some (.int y), some (.int m)], [], HH x σ) r := vx_gbm (v1 := v1) hd (fun  z _ => absurd z h1) (fun  z _ => absurd z h1) (fun _ _ => kk) (fun _ z => absurd z h2) (fun _ z => absurd z h2)
theorem vx_gbm_p3 {d : Nat} {x : Nat × (Nat → Int32)} {σ : mm_S} {s w l b y m : Int32}  {v1 : Int32} {r : Option Value × mm_H} (hd : 1 ≤ d) (h1 : ¬ l < m) (h2 : y = 0) (g1 : mm_Runs (d - 1) 131 (0, [some (.ref 37), some (.int s), some (.int b), some (.int m), some (.int (w + (1 : Int32))), none], [], HH x σ) (some (.int v1), HH x σ)) (kk : mm_Runs d 132 (33, [some (.ref 37), some (.int s), some (.int w), some (.int l), some (.int b), some (.int v1), some (.int (m + (1 : Int32)))], [], HH x σ) r) : mm_Runs d 132 (33, [some (.ref 37), some (.int s), some (.int w), some (.int l), some (.int b), some (.int y), some (.int m)], [], HH x σ) r := vx_gbm (v1 := v1) hd (fun  z _ => absurd z h1) (fun  z _ => absurd z h1) (fun _ z => absurd h2 z) (fun _ _ => g1) (fun _ _ => kk)
set_option maxRecDepth 100000 in
theorem vx_fd0 {d : Nat} {x : Nat × (Nat → Int32)} {σ : mm_S} {s l : Int32} {r : Option Value × mm_H} (k1 : mm_Runs d 133 (5, [some (.ref 37), some (.int s), some (.int l), some (.int (0 : Int32)), some (.int (0 : Int32))], [], HH x σ) r) : mm_Runs d 133 (0, [some (.ref 37), some (.int s), some (.int l), none, none], [], HH x σ) r := by
  refine mm_go 4 (F' := (5, [some (.ref 37), some (.int s), some (.int l), some (.int (0 : Int32)), some (.int (0 : Int32))], [], HH x σ)) rfl ?_
  exact mm_wk (by exact (And.intro rfl (And.intro rfl (And.intro rfl (And.intro rfl (And.intro rfl True.intro)))))) k1
theorem vx_fd0_p0 {d : Nat} {x : Nat × (Nat → Int32)} {σ : mm_S} {s l : Int32} {r : Option Value × mm_H}  (kk : mm_Runs d 133 (5, [some (.ref 37), some (.int s), some (.int l), some (.int (0 : Int32)), some (.int (0 : Int32))], [], HH x σ) r) : mm_Runs d 133 (0, [some (.ref 37), some (.int s), some (.int l), none, none], [], HH x σ) r := vx_fd0 kk
set_option maxRecDepth 100000 in
theorem vx_fda {d : Nat} {x : Nat × (Nat → Int32)} {σ : mm_S} {s l w a : Int32} {r : Option Value × mm_H} (k1 : (σ.1 3720) ≤ a → mm_Runs d 133 (28, [some (.ref 37), some (.int s), some (.int l), some (.int w), none], [], HH x σ) r) (k2 : ¬ (σ.1 3720) ≤ a → ¬ (a < 0 ∨ 6 ≤ a.toNatClampNeg)) (k3 : ¬ (σ.1 3720) ≤ a → mm_Runs d 133 (5, [some (.ref 37), some (.int s), some (.int l), some (.int w), some (.int (a + (1 : Int32)))], [], HH x (ua σ 50 (upd (σ.2.2.1 50) a.toNatClampNeg (-1 : Int32)))) r) : mm_Runs d 133 (5, [some (.ref 37), some (.int s), some (.int l), some (.int w), some (.int a)], [], HH x σ) r := by
  refine mm_go 4 (F' := (bif mm_cond .ge a (σ.1 3720) then 28 else 14, [some (.ref 37), some (.int s), some (.int l), some (.int w), some (.int a)], [], HH x σ)) rfl ?_
  refine mb_ge (fun h1 => ?_) (fun h1 => ?_)
  · exact mm_wk (by exact (And.intro rfl (And.intro rfl (And.intro rfl (And.intro rfl True.intro))))) (k1 h1)
  · refine mm_go 4 (F' := (21, [some (.ref 37), some (.int s), some (.int l), some (.int w), some (.int a)], [.int (-1 : Int32), .int a, .ref 50], HH x σ)) rfl ?_
    refine mm_gd (F' := (22, [some (.ref 37), some (.int s), some (.int l), some (.int w), some (.int a)], [], HH x (ua σ 50 (upd (σ.2.2.1 50) a.toNatClampNeg (-1 : Int32))))) rfl (k2 h1) ?_
    refine mm_go 2 (F' := (5, [some (.ref 37), some (.int s), some (.int l), some (.int w), some (.int (a + (1 : Int32)))], [], HH x (ua σ 50 (upd (σ.2.2.1 50) a.toNatClampNeg (-1 : Int32))))) rfl ?_
    exact mm_wk (by exact (And.intro rfl (And.intro rfl (And.intro rfl (And.intro rfl (And.intro rfl True.intro)))))) (k3 h1)
theorem vx_fda_p0 {d : Nat} {x : Nat × (Nat → Int32)} {σ : mm_S} {s l w a : Int32} {r : Option Value × mm_H}  (h1 : (σ.1 3720) ≤ a) (kk : mm_Runs d 133 (28, [some (.ref 37), some (.int s), some (.int l), some (.int w), none], [], HH x σ) r) : mm_Runs d 133 (5, [some (.ref 37), some (.int s), some (.int l), some (.int w), some (.int a)], [], HH x σ) r := vx_fda (fun _ => kk) (fun  z => absurd h1 z) (fun  z => absurd h1 z)
theorem vx_fda_p1 {d : Nat} {x : Nat × (Nat → Int32)} {σ : mm_S} {s l w a : Int32} {r : Option Value × mm_H}  (h1 : ¬ (σ.1 3720) ≤ a) (g1 : ¬ (a < 0 ∨ 6 ≤ a.toNatClampNeg)) (kk : mm_Runs d 133 (5, [some (.ref 37), some (.int s), some (.int l), some (.int w), some (.int (a + (1 : Int32)))], [], HH x (ua σ 50 (upd (σ.2.2.1 50) a.toNatClampNeg (-1 : Int32)))) r) : mm_Runs d 133 (5, [some (.ref 37), some (.int s), some (.int l), some (.int w), some (.int a)], [], HH x σ) r := vx_fda (fun  z => absurd z h1) (fun _ => g1) (fun _ => kk)
set_option maxRecDepth 100000 in
theorem vx_fdw {d : Nat} {x : Nat × (Nat → Int32)} {σ : mm_S} {s l w : Int32} {r : Option Value × mm_H} (k1 : w < 0 → ¬ w = (σ.1 3720) → (some (.int (0 : Int32)), HH x σ) = r) (k2 : w < 0 → w = (σ.1 3720) → (some (.int (1 : Int32)), HH x σ) = r) (k3 : ¬ w < 0 → (σ.1 3720) ≤ w → ¬ w = (σ.1 3720) → (some (.int (0 : Int32)), HH x σ) = r) (k4 : ¬ w < 0 → (σ.1 3720) ≤ w → w = (σ.1 3720) → (some (.int (1 : Int32)), HH x σ) = r) (k5 : ¬ w < 0 → ¬ (σ.1 3720) ≤ w → ¬ ((s >>> (w &&& 31)) &&& (1 : Int32)) = 0 → ¬ ((s >>> (w &&& 31)) &&& (1 : Int32)) = (1 : Int32) → ¬ (w < 0 ∨ 6 ≤ w.toNatClampNeg)) (k6 : ¬ w < 0 → ¬ (σ.1 3720) ≤ w → ¬ ((s >>> (w &&& 31)) &&& (1 : Int32)) = 0 → ¬ ((s >>> (w &&& 31)) &&& (1 : Int32)) = (1 : Int32) → mm_Runs d 133 (28, [some (.ref 37), some (.int s), some (.int l), some (.int (w + (-1 : Int32))), none], [], HH x (ua σ 50 (upd (σ.2.2.1 50) w.toNatClampNeg (-1 : Int32)))) r) (k7 : ¬ w < 0 → ¬ (σ.1 3720) ≤ w → ¬ ((s >>> (w &&& 31)) &&& (1 : Int32)) = 0 → ((s >>> (w &&& 31)) &&& (1 : Int32)) = (1 : Int32) → ¬ (w < 0 ∨ 6 ≤ w.toNatClampNeg)) (k8 : ¬ w < 0 → ¬ (σ.1 3720) ≤ w → ¬ ((s >>> (w &&& 31)) &&& (1 : Int32)) = 0 → ((s >>> (w &&& 31)) &&& (1 : Int32)) = (1 : Int32) → ¬ (w < 0 ∨ 6 ≤ w.toNatClampNeg)) (k9 : ¬ w < 0 → ¬ (σ.1 3720) ≤ w → ¬ ((s >>> (w &&& 31)) &&& (1 : Int32)) = 0 → ((s >>> (w &&& 31)) &&& (1 : Int32)) = (1 : Int32) → mm_Runs d 133 (100, [some (.ref 37), some (.int s), some (.int l), some (.int w), none], [], HH x (ua σ 50 (upd (σ.2.2.1 50) w.toNatClampNeg (((σ.2.2.1 50) w.toNatClampNeg) + (1 : Int32))))) r) (k10 : ¬ w < 0 → ¬ (σ.1 3720) ≤ w → ((s >>> (w &&& 31)) &&& (1 : Int32)) = 0 → ¬ (w < 0 ∨ 6 ≤ w.toNatClampNeg)) (k11 : ¬ w < 0 → ¬ (σ.1 3720) ≤ w → ((s >>> (w &&& 31)) &&& (1 : Int32)) = 0 → ¬ ((σ.2.2.1 50) w.toNatClampNeg) = (-1 : Int32) → ¬ ((s >>> (w &&& 31)) &&& (1 : Int32)) = (1 : Int32) → ¬ (w < 0 ∨ 6 ≤ w.toNatClampNeg)) (k12 : ¬ w < 0 → ¬ (σ.1 3720) ≤ w → ((s >>> (w &&& 31)) &&& (1 : Int32)) = 0 → ¬ ((σ.2.2.1 50) w.toNatClampNeg) = (-1 : Int32) → ¬ ((s >>> (w &&& 31)) &&& (1 : Int32)) = (1 : Int32) → mm_Runs d 133 (28, [some (.ref 37), some (.int s), some (.int l), some (.int (w + (-1 : Int32))), none], [], HH x (ua σ 50 (upd (σ.2.2.1 50) w.toNatClampNeg (-1 : Int32)))) r) (k13 : ¬ w < 0 → ¬ (σ.1 3720) ≤ w → ((s >>> (w &&& 31)) &&& (1 : Int32)) = 0 → ¬ ((σ.2.2.1 50) w.toNatClampNeg) = (-1 : Int32) → ((s >>> (w &&& 31)) &&& (1 : Int32)) = (1 : Int32) → ¬ (w < 0 ∨ 6 ≤ w.toNatClampNeg)) (k14 : ¬ w < 0 → ¬ (σ.1 3720) ≤ w → ((s >>> (w &&& 31)) &&& (1 : Int32)) = 0 → ¬ ((σ.2.2.1 50) w.toNatClampNeg) = (-1 : Int32) → ((s >>> (w &&& 31)) &&& (1 : Int32)) = (1 : Int32) → ¬ (w < 0 ∨ 6 ≤ w.toNatClampNeg)) (k15 : ¬ w < 0 → ¬ (σ.1 3720) ≤ w → ((s >>> (w &&& 31)) &&& (1 : Int32)) = 0 → ¬ ((σ.2.2.1 50) w.toNatClampNeg) = (-1 : Int32) → ((s >>> (w &&& 31)) &&& (1 : Int32)) = (1 : Int32) → mm_Runs d 133 (100, [some (.ref 37), some (.int s), some (.int l), some (.int w), none], [], HH x (ua σ 50 (upd (σ.2.2.1 50) w.toNatClampNeg (((σ.2.2.1 50) w.toNatClampNeg) + (1 : Int32))))) r) (k16 : ¬ w < 0 → ¬ (σ.1 3720) ≤ w → ((s >>> (w &&& 31)) &&& (1 : Int32)) = 0 → ((σ.2.2.1 50) w.toNatClampNeg) = (-1 : Int32) → ¬ (w < 0 ∨ 6 ≤ w.toNatClampNeg)) (k17 : ¬ w < 0 → ¬ (σ.1 3720) ≤ w → ((s >>> (w &&& 31)) &&& (1 : Int32)) = 0 → ((σ.2.2.1 50) w.toNatClampNeg) = (-1 : Int32) → mm_Runs d 133 (28, [some (.ref 37), some (.int s), some (.int l), some (.int (w + (1 : Int32))), none], [], HH x (ua σ 50 (upd (σ.2.2.1 50) w.toNatClampNeg (-9 : Int32)))) r) : mm_Runs d 133 (28, [some (.ref 37), some (.int s), some (.int l), some (.int w), none], [], HH x σ) r := by
  refine mm_go 2 (F' := (bif mm_cond .lt w 0 then 194 else 32, [some (.ref 37), some (.int s), some (.int l), some (.int w), none], [], HH x σ)) rfl ?_
  refine mb_lt (fun h1 => ?_) (fun h1 => ?_)
  · refine mm_go 4 (F' := (bif mm_cond .ne w (σ.1 3720) then 206 else 202, [some (.ref 37), some (.int s), some (.int l), some (.int w), none], [], HH x σ)) rfl ?_
    refine mb_ne (fun h2 => ?_) (fun h2 => ?_)
    · refine mm_go 1 (F' := (207, [some (.ref 37), some (.int s), some (.int l), some (.int w), none], [.int (0 : Int32)], HH x σ)) rfl ?_
      exact mm_rtz rfl rfl (Or.inl rfl) (k1 h1 h2)
    · refine mm_go 2 (F' := (207, [some (.ref 37), some (.int s), some (.int l), some (.int w), none], [.int (1 : Int32)], HH x σ)) rfl ?_
      exact mm_rtz rfl rfl (Or.inr rfl) (k2 h1 h2)
  · refine mm_go 4 (F' := (bif mm_cond .ge w (σ.1 3720) then 194 else 40, [some (.ref 37), some (.int s), some (.int l), some (.int w), none], [], HH x σ)) rfl ?_
    refine mb_ge (fun h3 => ?_) (fun h3 => ?_)
    · refine mm_go 4 (F' := (bif mm_cond .ne w (σ.1 3720) then 206 else 202, [some (.ref 37), some (.int s), some (.int l), some (.int w), none], [], HH x σ)) rfl ?_
      refine mb_ne (fun h4 => ?_) (fun h4 => ?_)
      · refine mm_go 1 (F' := (207, [some (.ref 37), some (.int s), some (.int l), some (.int w), none], [.int (0 : Int32)], HH x σ)) rfl ?_
        exact mm_rtz rfl rfl (Or.inl rfl) (k3 h1 h3 h4)
      · refine mm_go 2 (F' := (207, [some (.ref 37), some (.int s), some (.int l), some (.int w), none], [.int (1 : Int32)], HH x σ)) rfl ?_
        exact mm_rtz rfl rfl (Or.inr rfl) (k4 h1 h3 h4)
    · refine mm_go 6 (F' := (bif mm_cond .ne ((s >>> (w &&& 31)) &&& (1 : Int32)) 0 then 62 else 48, [some (.ref 37), some (.int s), some (.int l), some (.int w), none], [], HH x σ)) rfl ?_
      refine mb_ne (fun h5 => ?_) (fun h5 => ?_)
      · refine mm_go 11 (F' := (bif mm_cond .ne ((s >>> (w &&& 31)) &&& (1 : Int32)) (1 : Int32) then 166 else 90, [some (.ref 37), some (.int s), some (.int l), some (.int w), some (.int (0 : Int32))], [], HH x σ)) rfl ?_
        refine mb_ne (fun h6 => ?_) (fun h6 => ?_)
        · refine mm_go 6 (F' := (177, [some (.ref 37), some (.int s), some (.int l), some (.int w), some (.int (0 : Int32))], [.int (-1 : Int32), .int w, .ref 50], HH x σ)) rfl ?_
          refine mm_gd (F' := (178, [some (.ref 37), some (.int s), some (.int l), some (.int w), some (.int (0 : Int32))], [], HH x (ua σ 50 (upd (σ.2.2.1 50) w.toNatClampNeg (-1 : Int32))))) rfl (k5 h1 h3 h5 h6) ?_
          refine mm_go 7 (F' := (28, [some (.ref 37), some (.int s), some (.int l), some (.int (w + (-1 : Int32))), some (.int (0 : Int32))], [], HH x (ua σ 50 (upd (σ.2.2.1 50) w.toNatClampNeg (-1 : Int32))))) rfl ?_
          exact mm_wk (by exact (And.intro rfl (And.intro rfl (And.intro rfl (And.intro rfl True.intro))))) (k6 h1 h3 h5 h6)
        · refine mm_go 4 (F' := (96, [some (.ref 37), some (.int s), some (.int l), some (.int w), some (.int (0 : Int32))], [.int w, .ref 50, .int w, .ref 50], HH x σ)) rfl ?_
          refine mm_gd (F' := (97, [some (.ref 37), some (.int s), some (.int l), some (.int w), some (.int (0 : Int32))], [.int ((σ.2.2.1 50) w.toNatClampNeg), .int w, .ref 50], HH x σ)) rfl (k7 h1 h3 h5 h6) ?_
          refine mm_go 2 (F' := (99, [some (.ref 37), some (.int s), some (.int l), some (.int w), some (.int (0 : Int32))], [.int (((σ.2.2.1 50) w.toNatClampNeg) + (1 : Int32)), .int w, .ref 50], HH x σ)) rfl ?_
          refine mm_gd (F' := (100, [some (.ref 37), some (.int s), some (.int l), some (.int w), some (.int (0 : Int32))], [], HH x (ua σ 50 (upd (σ.2.2.1 50) w.toNatClampNeg (((σ.2.2.1 50) w.toNatClampNeg) + (1 : Int32)))))) rfl (k8 h1 h3 h5 h6) ?_
          exact mm_wk (by exact (And.intro rfl (And.intro rfl (And.intro rfl (And.intro rfl True.intro))))) (k9 h1 h3 h5 h6)
      · refine mm_go 3 (F' := (53, [some (.ref 37), some (.int s), some (.int l), some (.int w), none], [.int w, .ref 50], HH x σ)) rfl ?_
        refine mm_gd (F' := (54, [some (.ref 37), some (.int s), some (.int l), some (.int w), none], [.int ((σ.2.2.1 50) w.toNatClampNeg)], HH x σ)) rfl (k10 h1 h3 h5) ?_
        refine mm_go 2 (F' := (bif mm_cond .ne ((σ.2.2.1 50) w.toNatClampNeg) (-1 : Int32) then 62 else 58, [some (.ref 37), some (.int s), some (.int l), some (.int w), none], [], HH x σ)) rfl ?_
        refine mb_ne (fun h7 => ?_) (fun h7 => ?_)
        · refine mm_go 11 (F' := (bif mm_cond .ne ((s >>> (w &&& 31)) &&& (1 : Int32)) (1 : Int32) then 166 else 90, [some (.ref 37), some (.int s), some (.int l), some (.int w), some (.int (0 : Int32))], [], HH x σ)) rfl ?_
          refine mb_ne (fun h8 => ?_) (fun h8 => ?_)
          · refine mm_go 6 (F' := (177, [some (.ref 37), some (.int s), some (.int l), some (.int w), some (.int (0 : Int32))], [.int (-1 : Int32), .int w, .ref 50], HH x σ)) rfl ?_
            refine mm_gd (F' := (178, [some (.ref 37), some (.int s), some (.int l), some (.int w), some (.int (0 : Int32))], [], HH x (ua σ 50 (upd (σ.2.2.1 50) w.toNatClampNeg (-1 : Int32))))) rfl (k11 h1 h3 h5 h7 h8) ?_
            refine mm_go 7 (F' := (28, [some (.ref 37), some (.int s), some (.int l), some (.int (w + (-1 : Int32))), some (.int (0 : Int32))], [], HH x (ua σ 50 (upd (σ.2.2.1 50) w.toNatClampNeg (-1 : Int32))))) rfl ?_
            exact mm_wk (by exact (And.intro rfl (And.intro rfl (And.intro rfl (And.intro rfl True.intro))))) (k12 h1 h3 h5 h7 h8)
          · refine mm_go 4 (F' := (96, [some (.ref 37), some (.int s), some (.int l), some (.int w), some (.int (0 : Int32))], [.int w, .ref 50, .int w, .ref 50], HH x σ)) rfl ?_
            refine mm_gd (F' := (97, [some (.ref 37), some (.int s), some (.int l), some (.int w), some (.int (0 : Int32))], [.int ((σ.2.2.1 50) w.toNatClampNeg), .int w, .ref 50], HH x σ)) rfl (k13 h1 h3 h5 h7 h8) ?_
            refine mm_go 2 (F' := (99, [some (.ref 37), some (.int s), some (.int l), some (.int w), some (.int (0 : Int32))], [.int (((σ.2.2.1 50) w.toNatClampNeg) + (1 : Int32)), .int w, .ref 50], HH x σ)) rfl ?_
            refine mm_gd (F' := (100, [some (.ref 37), some (.int s), some (.int l), some (.int w), some (.int (0 : Int32))], [], HH x (ua σ 50 (upd (σ.2.2.1 50) w.toNatClampNeg (((σ.2.2.1 50) w.toNatClampNeg) + (1 : Int32)))))) rfl (k14 h1 h3 h5 h7 h8) ?_
            exact mm_wk (by exact (And.intro rfl (And.intro rfl (And.intro rfl (And.intro rfl True.intro))))) (k15 h1 h3 h5 h7 h8)
        · refine mm_go 9 (F' := (77, [some (.ref 37), some (.int s), some (.int l), some (.int w), some (.int (1 : Int32))], [.int (-9 : Int32), .int w, .ref 50], HH x σ)) rfl ?_
          refine mm_gd (F' := (78, [some (.ref 37), some (.int s), some (.int l), some (.int w), some (.int (1 : Int32))], [], HH x (ua σ 50 (upd (σ.2.2.1 50) w.toNatClampNeg (-9 : Int32))))) rfl (k16 h1 h3 h5 h7) ?_
          refine mm_go 11 (F' := (28, [some (.ref 37), some (.int s), some (.int l), some (.int (w + (1 : Int32))), some (.int (1 : Int32))], [], HH x (ua σ 50 (upd (σ.2.2.1 50) w.toNatClampNeg (-9 : Int32))))) rfl ?_
          exact mm_wk (by exact (And.intro rfl (And.intro rfl (And.intro rfl (And.intro rfl True.intro))))) (k17 h1 h3 h5 h7)
theorem vx_fdw_p0 {d : Nat} {x : Nat × (Nat → Int32)} {σ : mm_S} {s l w : Int32}  (h1 : w < 0) (h2 : ¬ w = (σ.1 3720)) : mm_Runs d 133 (28, [some (.ref 37), some (.int s), some (.int l), some (.int w), none], [], HH x σ) (some (.int (0 : Int32)), HH x σ) := vx_fdw (fun _ _ => rfl) (fun _ z => absurd z h2) (fun  z _ _ => absurd h1 z) (fun  z _ _ => absurd h1 z) (fun  z _ _ _ => absurd h1 z) (fun  z _ _ _ => absurd h1 z) (fun  z _ _ _ => absurd h1 z) (fun  z _ _ _ => absurd h1 z) (fun  z _ _ _ => absurd h1 z) (fun  z _ _ => absurd h1 z) (fun  z _ _ _ _ => absurd h1 z) (fun  z _ _ _ _ => absurd h1 z) (fun  z _ _ _ _ => absurd h1 z) (fun  z _ _ _ _ => absurd h1 z) (fun  z _ _ _ _ => absurd h1 z) (fun  z _ _ _ => absurd h1 z) (fun  z _ _ _ => absurd h1 z)
theorem vx_fdw_p1 {d : Nat} {x : Nat × (Nat → Int32)} {σ : mm_S} {s l w : Int32}  (h1 : w < 0) (h2 : w = (σ.1 3720)) : mm_Runs d 133 (28, [some (.ref 37), some (.int s), some (.int l), some (.int w), none], [], HH x σ) (some (.int (1 : Int32)), HH x σ) := vx_fdw (fun _ z => absurd h2 z) (fun _ _ => rfl) (fun  z _ _ => absurd h1 z) (fun  z _ _ => absurd h1 z) (fun  z _ _ _ => absurd h1 z) (fun  z _ _ _ => absurd h1 z) (fun  z _ _ _ => absurd h1 z) (fun  z _ _ _ => absurd h1 z) (fun  z _ _ _ => absurd h1 z) (fun  z _ _ => absurd h1 z) (fun  z _ _ _ _ => absurd h1 z) (fun  z _ _ _ _ => absurd h1 z) (fun  z _ _ _ _ => absurd h1 z) (fun  z _ _ _ _ => absurd h1 z) (fun  z _ _ _ _ => absurd h1 z) (fun  z _ _ _ => absurd h1 z) (fun  z _ _ _ => absurd h1 z)
theorem vx_fdw_p2 {d : Nat} {x : Nat × (Nat → Int32)} {σ : mm_S} {s l w : Int32}  (h1 : ¬ w < 0) (h2 : (σ.1 3720) ≤ w) (h3 : ¬ w = (σ.1 3720)) : mm_Runs d 133 (28, [some (.ref 37), some (.int s), some (.int l), some (.int w), none], [], HH x σ) (some (.int (0 : Int32)), HH x σ) := vx_fdw (fun  z _ => absurd z h1) (fun  z _ => absurd z h1) (fun _ _ _ => rfl) (fun _ _ z => absurd z h3) (fun _ z _ _ => absurd h2 z) (fun _ z _ _ => absurd h2 z) (fun _ z _ _ => absurd h2 z) (fun _ z _ _ => absurd h2 z) (fun _ z _ _ => absurd h2 z) (fun _ z _ => absurd h2 z) (fun _ z _ _ _ => absurd h2 z) (fun _ z _ _ _ => absurd h2 z) (fun _ z _ _ _ => absurd h2 z) (fun _ z _ _ _ => absurd h2 z) (fun _ z _ _ _ => absurd h2 z) (fun _ z _ _ => absurd h2 z) (fun _ z _ _ => absurd h2 z)
theorem vx_fdw_p3 {d : Nat} {x : Nat × (Nat → Int32)} {σ : mm_S} {s l w : Int32}  (h1 : ¬ w < 0) (h2 : (σ.1 3720) ≤ w) (h3 : w = (σ.1 3720)) : mm_Runs d 133 (28, [some (.ref 37), some (.int s), some (.int l), some (.int w), none], [], HH x σ) (some (.int (1 : Int32)), HH x σ) := vx_fdw (fun  z _ => absurd z h1) (fun  z _ => absurd z h1) (fun _ _ z => absurd h3 z) (fun _ _ _ => rfl) (fun _ z _ _ => absurd h2 z) (fun _ z _ _ => absurd h2 z) (fun _ z _ _ => absurd h2 z) (fun _ z _ _ => absurd h2 z) (fun _ z _ _ => absurd h2 z) (fun _ z _ => absurd h2 z) (fun _ z _ _ _ => absurd h2 z) (fun _ z _ _ _ => absurd h2 z) (fun _ z _ _ _ => absurd h2 z) (fun _ z _ _ _ => absurd h2 z) (fun _ z _ _ _ => absurd h2 z) (fun _ z _ _ => absurd h2 z) (fun _ z _ _ => absurd h2 z)
theorem vx_fdw_p4 {d : Nat} {x : Nat × (Nat → Int32)} {σ : mm_S} {s l w : Int32} {r : Option Value × mm_H}  (h1 : ¬ w < 0) (h2 : ¬ (σ.1 3720) ≤ w) (h3 : ¬ ((s >>> (w &&& 31)) &&& (1 : Int32)) = 0) (h4 : ¬ ((s >>> (w &&& 31)) &&& (1 : Int32)) = (1 : Int32)) (g1 : ¬ (w < 0 ∨ 6 ≤ w.toNatClampNeg)) (kk : mm_Runs d 133 (28, [some (.ref 37), some (.int s), some (.int l), some (.int (w + (-1 : Int32))), none], [], HH x (ua σ 50 (upd (σ.2.2.1 50) w.toNatClampNeg (-1 : Int32)))) r) : mm_Runs d 133 (28, [some (.ref 37), some (.int s), some (.int l), some (.int w), none], [], HH x σ) r := vx_fdw (fun  z _ => absurd z h1) (fun  z _ => absurd z h1) (fun _ z _ => absurd z h2) (fun _ z _ => absurd z h2) (fun _ _ _ _ => g1) (fun _ _ _ _ => kk) (fun _ _ _ z => absurd z h4) (fun _ _ _ z => absurd z h4) (fun _ _ _ z => absurd z h4) (fun _ _ z => absurd z h3) (fun _ _ z _ _ => absurd z h3) (fun _ _ z _ _ => absurd z h3) (fun _ _ z _ _ => absurd z h3) (fun _ _ z _ _ => absurd z h3) (fun _ _ z _ _ => absurd z h3) (fun _ _ z _ => absurd z h3) (fun _ _ z _ => absurd z h3)
theorem vx_fdw_p5 {d : Nat} {x : Nat × (Nat → Int32)} {σ : mm_S} {s l w : Int32} {r : Option Value × mm_H}  (h1 : ¬ w < 0) (h2 : ¬ (σ.1 3720) ≤ w) (h3 : ¬ ((s >>> (w &&& 31)) &&& (1 : Int32)) = 0) (h4 : ((s >>> (w &&& 31)) &&& (1 : Int32)) = (1 : Int32)) (g1 : ¬ (w < 0 ∨ 6 ≤ w.toNatClampNeg)) (kk : mm_Runs d 133 (100, [some (.ref 37), some (.int s), some (.int l), some (.int w), none], [], HH x (ua σ 50 (upd (σ.2.2.1 50) w.toNatClampNeg (((σ.2.2.1 50) w.toNatClampNeg) + (1 : Int32))))) r) : mm_Runs d 133 (28, [some (.ref 37), some (.int s), some (.int l), some (.int w), none], [], HH x σ) r := vx_fdw (fun  z _ => absurd z h1) (fun  z _ => absurd z h1) (fun _ z _ => absurd z h2) (fun _ z _ => absurd z h2) (fun _ _ _ z => absurd h4 z) (fun _ _ _ z => absurd h4 z) (fun _ _ _ _ => g1) (fun _ _ _ _ => g1) (fun _ _ _ _ => kk) (fun _ _ z => absurd z h3) (fun _ _ z _ _ => absurd z h3) (fun _ _ z _ _ => absurd z h3) (fun _ _ z _ _ => absurd z h3) (fun _ _ z _ _ => absurd z h3) (fun _ _ z _ _ => absurd z h3) (fun _ _ z _ => absurd z h3) (fun _ _ z _ => absurd z h3)
theorem vx_fdw_p6 {d : Nat} {x : Nat × (Nat → Int32)} {σ : mm_S} {s l w : Int32} {r : Option Value × mm_H}  (h1 : ¬ w < 0) (h2 : ¬ (σ.1 3720) ≤ w) (h3 : ((s >>> (w &&& 31)) &&& (1 : Int32)) = 0) (h4 : ¬ ((σ.2.2.1 50) w.toNatClampNeg) = (-1 : Int32)) (h5 : ¬ ((s >>> (w &&& 31)) &&& (1 : Int32)) = (1 : Int32)) (g1 : ¬ (w < 0 ∨ 6 ≤ w.toNatClampNeg)) (kk : mm_Runs d 133 (28, [some (.ref 37), some (.int s), some (.int l), some (.int (w + (-1 : Int32))), none], [], HH x (ua σ 50 (upd (σ.2.2.1 50) w.toNatClampNeg (-1 : Int32)))) r) : mm_Runs d 133 (28, [some (.ref 37), some (.int s), some (.int l), some (.int w), none], [], HH x σ) r := vx_fdw (fun  z _ => absurd z h1) (fun  z _ => absurd z h1) (fun _ z _ => absurd z h2) (fun _ z _ => absurd z h2) (fun _ _ z _ => absurd h3 z) (fun _ _ z _ => absurd h3 z) (fun _ _ z _ => absurd h3 z) (fun _ _ z _ => absurd h3 z) (fun _ _ z _ => absurd h3 z) (fun _ _ _ => g1) (fun _ _ _ _ _ => g1) (fun _ _ _ _ _ => kk) (fun _ _ _ _ z => absurd z h5) (fun _ _ _ _ z => absurd z h5) (fun _ _ _ _ z => absurd z h5) (fun _ _ _ z => absurd z h4) (fun _ _ _ z => absurd z h4)
theorem vx_fdw_p7 {d : Nat} {x : Nat × (Nat → Int32)} {σ : mm_S} {s l w : Int32} {r : Option Value × mm_H}  (h1 : ¬ w < 0) (h2 : ¬ (σ.1 3720) ≤ w) (h3 : ((s >>> (w &&& 31)) &&& (1 : Int32)) = 0) (h4 : ¬ ((σ.2.2.1 50) w.toNatClampNeg) = (-1 : Int32)) (h5 : ((s >>> (w &&& 31)) &&& (1 : Int32)) = (1 : Int32)) (g1 : ¬ (w < 0 ∨ 6 ≤ w.toNatClampNeg)) (kk : mm_Runs d 133 (100, [some (.ref 37), some (.int s), some (.int l), some (.int w), none], [], HH x (ua σ 50 (upd (σ.2.2.1 50) w.toNatClampNeg (((σ.2.2.1 50) w.toNatClampNeg) + (1 : Int32))))) r) : mm_Runs d 133 (28, [some (.ref 37), some (.int s), some (.int l), some (.int w), none], [], HH x σ) r := vx_fdw (fun  z _ => absurd z h1) (fun  z _ => absurd z h1) (fun _ z _ => absurd z h2) (fun _ z _ => absurd z h2) (fun _ _ z _ => absurd h3 z) (fun _ _ z _ => absurd h3 z) (fun _ _ z _ => absurd h3 z) (fun _ _ z _ => absurd h3 z) (fun _ _ z _ => absurd h3 z) (fun _ _ _ => g1) (fun _ _ _ _ z => absurd h5 z) (fun _ _ _ _ z => absurd h5 z) (fun _ _ _ _ _ => g1) (fun _ _ _ _ _ => g1) (fun _ _ _ _ _ => kk) (fun _ _ _ z => absurd z h4) (fun _ _ _ z => absurd z h4)
theorem vx_fdw_p8 {d : Nat} {x : Nat × (Nat → Int32)} {σ : mm_S} {s l w : Int32} {r : Option Value × mm_H}  (h1 : ¬ w < 0) (h2 : ¬ (σ.1 3720) ≤ w) (h3 : ((s >>> (w &&& 31)) &&& (1 : Int32)) = 0) (h4 : ((σ.2.2.1 50) w.toNatClampNeg) = (-1 : Int32)) (g1 : ¬ (w < 0 ∨ 6 ≤ w.toNatClampNeg)) (kk : mm_Runs d 133 (28, [some (.ref 37), some (.int s), some (.int l), some (.int (w + (1 : Int32))), none], [], HH x (ua σ 50 (upd (σ.2.2.1 50) w.toNatClampNeg (-9 : Int32)))) r) : mm_Runs d 133 (28, [some (.ref 37), some (.int s), some (.int l), some (.int w), none], [], HH x σ) r := vx_fdw (fun  z _ => absurd z h1) (fun  z _ => absurd z h1) (fun _ z _ => absurd z h2) (fun _ z _ => absurd z h2) (fun _ _ z _ => absurd h3 z) (fun _ _ z _ => absurd h3 z) (fun _ _ z _ => absurd h3 z) (fun _ _ z _ => absurd h3 z) (fun _ _ z _ => absurd h3 z) (fun _ _ _ => g1) (fun _ _ _ z _ => absurd h4 z) (fun _ _ _ z _ => absurd h4 z) (fun _ _ _ z _ => absurd h4 z) (fun _ _ _ z _ => absurd h4 z) (fun _ _ _ z _ => absurd h4 z) (fun _ _ _ _ => g1) (fun _ _ _ _ => kk)
set_option maxRecDepth 100000 in
theorem vx_fdm {d : Nat} {x : Nat × (Nat → Int32)} {σ : mm_S} {s l w : Int32}  {v1 v2 : Int32} {r : Option Value × mm_H} (hd : 1 ≤ d) (k1 : ¬ (w < 0 ∨ 6 ≤ w.toNatClampNeg)) (k2 : l < ((σ.2.2.1 50) w.toNatClampNeg) → ¬ (w < 0 ∨ 6 ≤ w.toNatClampNeg)) (k3 : l < ((σ.2.2.1 50) w.toNatClampNeg) → ¬ (w < 0 ∨ 6 ≤ w.toNatClampNeg)) (k4 : l < ((σ.2.2.1 50) w.toNatClampNeg) → mm_Runs d 133 (28, [some (.ref 37), some (.int s), some (.int l), some (.int (w + (-1 : Int32))), none], [], HH x (ua σ 50 (upd (σ.2.2.1 50) w.toNatClampNeg (-1 : Int32)))) r) (k5 : ¬ l < ((σ.2.2.1 50) w.toNatClampNeg) → ¬ (w < 0 ∨ 6 ≤ w.toNatClampNeg)) (k6 : ¬ l < ((σ.2.2.1 50) w.toNatClampNeg) → mm_Runs (d - 1) 131 (0, [some (.ref 37), some (.int s), some (.int w), some (.int ((σ.2.2.1 50) w.toNatClampNeg)), some (.int w), none], [], HH x σ) (some (.int v1), HH x σ)) (k7 : ¬ l < ((σ.2.2.1 50) w.toNatClampNeg) → v1 = 0 → ¬ (w < 0 ∨ 6 ≤ w.toNatClampNeg)) (k8 : ¬ l < ((σ.2.2.1 50) w.toNatClampNeg) → v1 = 0 → ¬ (w < 0 ∨ 6 ≤ w.toNatClampNeg)) (k9 : ¬ l < ((σ.2.2.1 50) w.toNatClampNeg) → v1 = 0 → mm_Runs d 133 (100, [some (.ref 37), some (.int s), some (.int l), some (.int w), none], [], HH x (ua σ 50 (upd (σ.2.2.1 50) w.toNatClampNeg (((σ.2.2.1 50) w.toNatClampNeg) + (1 : Int32))))) r) (k10 : ¬ l < ((σ.2.2.1 50) w.toNatClampNeg) → ¬ v1 = 0 → mm_Runs (d - 1) 132 (0, [some (.ref 37), some (.int s), some (.int w), some (.int l), none, none, none], [], HH x σ) (some (.int v2), HH x σ)) (k11 : ¬ l < ((σ.2.2.1 50) w.toNatClampNeg) → ¬ v1 = 0 → ¬ v2 = 0 → ¬ (w < 0 ∨ 6 ≤ w.toNatClampNeg)) (k12 : ¬ l < ((σ.2.2.1 50) w.toNatClampNeg) → ¬ v1 = 0 → ¬ v2 = 0 → mm_Runs d 133 (28, [some (.ref 37), some (.int s), some (.int l), some (.int (w + (1 : Int32))), none], [], HH x σ) r) (k13 : ¬ l < ((σ.2.2.1 50) w.toNatClampNeg) → ¬ v1 = 0 → v2 = 0 → ¬ (w < 0 ∨ 6 ≤ w.toNatClampNeg)) (k14 : ¬ l < ((σ.2.2.1 50) w.toNatClampNeg) → ¬ v1 = 0 → v2 = 0 → ¬ (w < 0 ∨ 6 ≤ w.toNatClampNeg)) (k15 : ¬ l < ((σ.2.2.1 50) w.toNatClampNeg) → ¬ v1 = 0 → v2 = 0 → mm_Runs d 133 (100, [some (.ref 37), some (.int s), some (.int l), some (.int w), none], [], HH x (ua σ 50 (upd (σ.2.2.1 50) w.toNatClampNeg (((σ.2.2.1 50) w.toNatClampNeg) + (1 : Int32))))) r) : mm_Runs d 133 (100, [some (.ref 37), some (.int s), some (.int l), some (.int w), none], [], HH x σ) r := by
  refine mm_go 3 (F' := (105, [some (.ref 37), some (.int s), some (.int l), some (.int w), none], [.int w, .ref 50], HH x σ)) rfl ?_
  refine mm_gd (F' := (106, [some (.ref 37), some (.int s), some (.int l), some (.int w), none], [.int ((σ.2.2.1 50) w.toNatClampNeg)], HH x σ)) rfl k1 ?_
  refine mm_go 2 (F' := (bif mm_cond .gt ((σ.2.2.1 50) w.toNatClampNeg) l then 149 else 110, [some (.ref 37), some (.int s), some (.int l), some (.int w), none], [], HH x σ)) rfl ?_
  refine mb_gt (fun h1 => ?_) (fun h1 => ?_)
  · refine mm_go 3 (F' := (154, [some (.ref 37), some (.int s), some (.int l), some (.int w), none], [.int w, .ref 50], HH x σ)) rfl ?_
    refine mm_gd (F' := (155, [some (.ref 37), some (.int s), some (.int l), some (.int w), none], [.int ((σ.2.2.1 50) w.toNatClampNeg)], HH x σ)) rfl (k2 h1) ?_
    refine mm_go 2 (F' := (bif mm_cond .gt ((σ.2.2.1 50) w.toNatClampNeg) l then 163 else 159, [some (.ref 37), some (.int s), some (.int l), some (.int w), none], [], HH x σ)) rfl ?_
    refine mb_gt (fun _ => ?_) (fun h2 => absurd h1 h2)
    refine mm_go 8 (F' := (177, [some (.ref 37), some (.int s), some (.int l), some (.int w), some (.int (0 : Int32))], [.int (-1 : Int32), .int w, .ref 50], HH x σ)) rfl ?_
    refine mm_gd (F' := (178, [some (.ref 37), some (.int s), some (.int l), some (.int w), some (.int (0 : Int32))], [], HH x (ua σ 50 (upd (σ.2.2.1 50) w.toNatClampNeg (-1 : Int32))))) rfl (k3 h1) ?_
    refine mm_go 7 (F' := (28, [some (.ref 37), some (.int s), some (.int l), some (.int (w + (-1 : Int32))), some (.int (0 : Int32))], [], HH x (ua σ 50 (upd (σ.2.2.1 50) w.toNatClampNeg (-1 : Int32))))) rfl ?_
    exact mm_wk (by exact (And.intro rfl (And.intro rfl (And.intro rfl (And.intro rfl True.intro))))) (k4 h1)
  · refine mm_go 6 (F' := (118, [some (.ref 37), some (.int s), some (.int l), some (.int w), none], [.int w, .ref 50, .int w, .int s, .ref 37], HH x σ)) rfl ?_
    refine mm_gd (F' := (119, [some (.ref 37), some (.int s), some (.int l), some (.int w), none], [.int ((σ.2.2.1 50) w.toNatClampNeg), .int w, .int s, .ref 37], HH x σ)) rfl (k5 h1) ?_
    refine mm_go 1 (F' := (120, [some (.ref 37), some (.int s), some (.int l), some (.int w), none], [.int w, .int ((σ.2.2.1 50) w.toNatClampNeg), .int w, .int s, .ref 37], HH x σ)) rfl ?_
    refine mm_kl (z := 131) (as := [.ref 37, .int s, .int w, .int ((σ.2.2.1 50) w.toNatClampNeg), .int w]) (S' := []) (L2 := [some (.ref 37), some (.int s), some (.int w), some (.int ((σ.2.2.1 50) w.toNatClampNeg)), some (.int w), none]) (v := some (.int v1)) (h1 := HH x σ) rfl rfl rfl rfl rfl (by omega) (k6 h1) ?_
    show mm_Runs d 133 (123, [some (.ref 37), some (.int s), some (.int l), some (.int w), none], [.int v1], HH x σ) r
    refine mm_go 1 (F' := (bif mm_cond .eq v1 0 then 136 else 126, [some (.ref 37), some (.int s), some (.int l), some (.int w), none], [], HH x σ)) rfl ?_
    refine mb_eq (fun h3 => ?_) (fun h3 => ?_)
    · refine mm_go 4 (F' := (142, [some (.ref 37), some (.int s), some (.int l), some (.int w), none], [.int w, .ref 50, .int w, .ref 50], HH x σ)) rfl ?_
      refine mm_gd (F' := (143, [some (.ref 37), some (.int s), some (.int l), some (.int w), none], [.int ((σ.2.2.1 50) w.toNatClampNeg), .int w, .ref 50], HH x σ)) rfl (k7 h1 h3) ?_
      refine mm_go 2 (F' := (145, [some (.ref 37), some (.int s), some (.int l), some (.int w), none], [.int (((σ.2.2.1 50) w.toNatClampNeg) + (1 : Int32)), .int w, .ref 50], HH x σ)) rfl ?_
      refine mm_gd (F' := (146, [some (.ref 37), some (.int s), some (.int l), some (.int w), none], [], HH x (ua σ 50 (upd (σ.2.2.1 50) w.toNatClampNeg (((σ.2.2.1 50) w.toNatClampNeg) + (1 : Int32)))))) rfl (k8 h1 h3) ?_
      refine mm_go 1 (F' := (100, [some (.ref 37), some (.int s), some (.int l), some (.int w), none], [], HH x (ua σ 50 (upd (σ.2.2.1 50) w.toNatClampNeg (((σ.2.2.1 50) w.toNatClampNeg) + (1 : Int32)))))) rfl ?_
      exact mm_wk (by exact (And.intro rfl (And.intro rfl (And.intro rfl (And.intro rfl True.intro))))) (k9 h1 h3)
    · refine mm_go 4 (F' := (130, [some (.ref 37), some (.int s), some (.int l), some (.int w), none], [.int l, .int w, .int s, .ref 37], HH x σ)) rfl ?_
      refine mm_kl (z := 132) (as := [.ref 37, .int s, .int w, .int l]) (S' := []) (L2 := [some (.ref 37), some (.int s), some (.int w), some (.int l), none, none, none]) (v := some (.int v2)) (h1 := HH x σ) rfl rfl rfl rfl rfl (by omega) (k10 h1 h3) ?_
      show mm_Runs d 133 (133, [some (.ref 37), some (.int s), some (.int l), some (.int w), none], [.int v2], HH x σ) r
      refine mm_go 1 (F' := (bif mm_cond .ne v2 0 then 149 else 136, [some (.ref 37), some (.int s), some (.int l), some (.int w), none], [], HH x σ)) rfl ?_
      refine mb_ne (fun h4 => ?_) (fun h4 => ?_)
      · refine mm_go 3 (F' := (154, [some (.ref 37), some (.int s), some (.int l), some (.int w), none], [.int w, .ref 50], HH x σ)) rfl ?_
        refine mm_gd (F' := (155, [some (.ref 37), some (.int s), some (.int l), some (.int w), none], [.int ((σ.2.2.1 50) w.toNatClampNeg)], HH x σ)) rfl (k11 h1 h3 h4) ?_
        refine mm_go 2 (F' := (bif mm_cond .gt ((σ.2.2.1 50) w.toNatClampNeg) l then 163 else 159, [some (.ref 37), some (.int s), some (.int l), some (.int w), none], [], HH x σ)) rfl ?_
        refine mb_gt (fun h5 => absurd h5 h1) (fun _ => ?_)
        refine mm_go 13 (F' := (28, [some (.ref 37), some (.int s), some (.int l), some (.int (w + (1 : Int32))), some (.int (1 : Int32))], [], HH x σ)) rfl ?_
        exact mm_wk (by exact (And.intro rfl (And.intro rfl (And.intro rfl (And.intro rfl True.intro))))) (k12 h1 h3 h4)
      · refine mm_go 4 (F' := (142, [some (.ref 37), some (.int s), some (.int l), some (.int w), none], [.int w, .ref 50, .int w, .ref 50], HH x σ)) rfl ?_
        refine mm_gd (F' := (143, [some (.ref 37), some (.int s), some (.int l), some (.int w), none], [.int ((σ.2.2.1 50) w.toNatClampNeg), .int w, .ref 50], HH x σ)) rfl (k13 h1 h3 h4) ?_
        refine mm_go 2 (F' := (145, [some (.ref 37), some (.int s), some (.int l), some (.int w), none], [.int (((σ.2.2.1 50) w.toNatClampNeg) + (1 : Int32)), .int w, .ref 50], HH x σ)) rfl ?_
        refine mm_gd (F' := (146, [some (.ref 37), some (.int s), some (.int l), some (.int w), none], [], HH x (ua σ 50 (upd (σ.2.2.1 50) w.toNatClampNeg (((σ.2.2.1 50) w.toNatClampNeg) + (1 : Int32)))))) rfl (k14 h1 h3 h4) ?_
        refine mm_go 1 (F' := (100, [some (.ref 37), some (.int s), some (.int l), some (.int w), none], [], HH x (ua σ 50 (upd (σ.2.2.1 50) w.toNatClampNeg (((σ.2.2.1 50) w.toNatClampNeg) + (1 : Int32)))))) rfl ?_
        exact mm_wk (by exact (And.intro rfl (And.intro rfl (And.intro rfl (And.intro rfl True.intro))))) (k15 h1 h3 h4)
theorem vx_fdm_p0 {d : Nat} {x : Nat × (Nat → Int32)} {σ : mm_S} {s l w : Int32}  {v1 v2 : Int32} {r : Option Value × mm_H} (hd : 1 ≤ d) (h1 : l < ((σ.2.2.1 50) w.toNatClampNeg)) (g1 : ¬ (w < 0 ∨ 6 ≤ w.toNatClampNeg)) (kk : mm_Runs d 133 (28, [some (.ref 37), some (.int s), some (.int l), some (.int (w + (-1 : Int32))), none], [], HH x (ua σ 50 (upd (σ.2.2.1 50) w.toNatClampNeg (-1 : Int32)))) r) : mm_Runs d 133 (100, [some (.ref 37), some (.int s), some (.int l), some (.int w), none], [], HH x σ) r := vx_fdm (v1 := v1) (v2 := v2) hd g1 (fun _ => g1) (fun _ => g1) (fun _ => kk) (fun  z => absurd h1 z) (fun  z => absurd h1 z) (fun  z _ => absurd h1 z) (fun  z _ => absurd h1 z) (fun  z _ => absurd h1 z) (fun  z _ => absurd h1 z) (fun  z _ _ => absurd h1 z) (fun  z _ _ => absurd h1 z) (fun  z _ _ => absurd h1 z) (fun  z _ _ => absurd h1 z) (fun  z _ _ => absurd h1 z)
theorem vx_fdm_p1 {d : Nat} {x : Nat × (Nat → Int32)} {σ : mm_S} {s l w : Int32}  {v1 v2 : Int32} {r : Option Value × mm_H} (hd : 1 ≤ d) (h1 : ¬ l < ((σ.2.2.1 50) w.toNatClampNeg)) (h2 : v1 = 0) (g1 : ¬ (w < 0 ∨ 6 ≤ w.toNatClampNeg)) (g2 : mm_Runs (d - 1) 131 (0, [some (.ref 37), some (.int s), some (.int w), some (.int ((σ.2.2.1 50) w.toNatClampNeg)), some (.int w), none], [], HH x σ) (some (.int v1), HH x σ)) (kk : mm_Runs d 133 (100, [some (.ref 37), some (.int s), some (.int l), some (.int w), none], [], HH x (ua σ 50 (upd (σ.2.2.1 50) w.toNatClampNeg (((σ.2.2.1 50) w.toNatClampNeg) + (1 : Int32))))) r) : mm_Runs d 133 (100, [some (.ref 37), some (.int s), some (.int l), some (.int w), none], [], HH x σ) r := vx_fdm (v1 := v1) (v2 := v2) hd g1 (fun  z => absurd z h1) (fun  z => absurd z h1) (fun  z => absurd z h1) (fun _ => g1) (fun _ => g2) (fun _ _ => g1) (fun _ _ => g1) (fun _ _ => kk) (fun _ z => absurd h2 z) (fun _ z _ => absurd h2 z) (fun _ z _ => absurd h2 z) (fun _ z _ => absurd h2 z) (fun _ z _ => absurd h2 z) (fun _ z _ => absurd h2 z)
theorem vx_fdm_p2 {d : Nat} {x : Nat × (Nat → Int32)} {σ : mm_S} {s l w : Int32}  {v1 v2 : Int32} {r : Option Value × mm_H} (hd : 1 ≤ d) (h1 : ¬ l < ((σ.2.2.1 50) w.toNatClampNeg)) (h2 : ¬ v1 = 0) (h3 : ¬ v2 = 0) (g1 : ¬ (w < 0 ∨ 6 ≤ w.toNatClampNeg)) (g2 : mm_Runs (d - 1) 131 (0, [some (.ref 37), some (.int s), some (.int w), some (.int ((σ.2.2.1 50) w.toNatClampNeg)), some (.int w), none], [], HH x σ) (some (.int v1), HH x σ)) (g3 : mm_Runs (d - 1) 132 (0, [some (.ref 37), some (.int s), some (.int w), some (.int l), none, none, none], [], HH x σ) (some (.int v2), HH x σ)) (kk : mm_Runs d 133 (28, [some (.ref 37), some (.int s), some (.int l), some (.int (w + (1 : Int32))), none], [], HH x σ) r) : mm_Runs d 133 (100, [some (.ref 37), some (.int s), some (.int l), some (.int w), none], [], HH x σ) r := vx_fdm (v1 := v1) (v2 := v2) hd g1 (fun  z => absurd z h1) (fun  z => absurd z h1) (fun  z => absurd z h1) (fun _ => g1) (fun _ => g2) (fun _ z => absurd z h2) (fun _ z => absurd z h2) (fun _ z => absurd z h2) (fun _ _ => g3) (fun _ _ _ => g1) (fun _ _ _ => kk) (fun _ _ z => absurd z h3) (fun _ _ z => absurd z h3) (fun _ _ z => absurd z h3)
theorem vx_fdm_p3 {d : Nat} {x : Nat × (Nat → Int32)} {σ : mm_S} {s l w : Int32}  {v1 v2 : Int32} {r : Option Value × mm_H} (hd : 1 ≤ d) (h1 : ¬ l < ((σ.2.2.1 50) w.toNatClampNeg)) (h2 : ¬ v1 = 0) (h3 : v2 = 0) (g1 : ¬ (w < 0 ∨ 6 ≤ w.toNatClampNeg)) (g2 : mm_Runs (d - 1) 131 (0, [some (.ref 37), some (.int s), some (.int w), some (.int ((σ.2.2.1 50) w.toNatClampNeg)), some (.int w), none], [], HH x σ) (some (.int v1), HH x σ)) (g3 : mm_Runs (d - 1) 132 (0, [some (.ref 37), some (.int s), some (.int w), some (.int l), none, none, none], [], HH x σ) (some (.int v2), HH x σ)) (kk : mm_Runs d 133 (100, [some (.ref 37), some (.int s), some (.int l), some (.int w), none], [], HH x (ua σ 50 (upd (σ.2.2.1 50) w.toNatClampNeg (((σ.2.2.1 50) w.toNatClampNeg) + (1 : Int32))))) r) : mm_Runs d 133 (100, [some (.ref 37), some (.int s), some (.int l), some (.int w), none], [], HH x σ) r := vx_fdm (v1 := v1) (v2 := v2) hd g1 (fun  z => absurd z h1) (fun  z => absurd z h1) (fun  z => absurd z h1) (fun _ => g1) (fun _ => g2) (fun _ z => absurd z h2) (fun _ z => absurd z h2) (fun _ z => absurd z h2) (fun _ _ => g3) (fun _ _ z => absurd h3 z) (fun _ _ z => absurd h3 z) (fun _ _ _ => g1) (fun _ _ _ => g1) (fun _ _ _ => kk)
/-- minutes for a set of wishes, by a last one -/
def pok (P : pd_T) (kk : Nat → Int32) (cc : Nat → Nat) (n s T : Nat) (p : Nat → Nat) : Prop := (∀ i, i < n → tb s i = true → p i ≤ T) ∧ ∀ i j, i < j → j < n → tb s i = true → tb s j = true → ¬ CF P kk cc i j (p i) (p j)
def pmn (P : pd_T) (kk : Nat → Int32) (cc : Nat → Nat) (n s T w : Nat) (p : Nat → Nat) : Prop := ∀ p', pok P kk cc n s T p' → (∀ a, a < w → tb s a = true → p' a = p a) → ∀ i, i < n → tb s i = true → (∀ j, j < i → tb s j = true → p' j = p j) → p i ≤ p' i
def fdI (P : pd_T) (kk : Nat → Int32) (cc : Nat → Nat) (n s T w : Nat) (p : Nat → Nat) (M : Nat → Int32) : Prop := (∀ a, a < w → (tb s a = true → M a = nI (p a) ∧ p a ≤ T) ∧ (tb s a = false → M a = -9)) ∧ (∀ i j, i < j → j < w → tb s i = true → tb s j = true → ¬ CF P kk cc i j (p i) (p j))
def fdN (n w : Nat) (M : Nat → Int32) : Prop := ∀ a, w ≤ a → a < n → M a = -1
section FD
variable {d : Nat} {x : Nat × (Nat → Int32)} {P : pd_T} {σ : mm_S} {kk : Nat → Int32} {cc : Nat → Nat} {n s T : Nat}
theorem tbS (hs : s < 64) : ∀ a, a < 6 → (((nI s >>> (nI a &&& 31)) &&& 1) = (1 : Int32) ↔ tb s a = true) := fun a ha => tb_1 hs ha
theorem m_gb_m {w b : Nat} {g : Nat → Nat} (hd : 3 ≤ d) (hwf : pd_wf P) (hn : pd_n P ≤ 42) (hm : wms P σ n kk cc) (hD : dm_ok P kk cc n (σ.2.2.1 49)) (hs : s < 64) (hT : T < 2 ^ 18) (hw : w < n) (hb : b < n) (hg : ∀ a, a < w + 1 → tb s a = true → a ≠ b → σ.2.2.1 50 a = nI (g a) ∧ g a < 2 ^ 19) : ∀ (i m : Nat), m + i = T + 1 → (∀ m', m' < m → ¬ ∀ a, a < w + 1 → tb s a = true → a ≠ b → ¬ CF P kk cc a b (g a) m') → ((¬ ∃ m', m' ≤ T ∧ ∀ a, a < w + 1 → tb s a = true → a ≠ b → ¬ CF P kk cc a b (g a) m') ∧ mm_Runs d 132 (33, [some (.ref 37), some (.int (nI s)), some (.int (nI w)), some (.int (nI T)), some (.int (nI b)), some (.int (0 : Int32)), some (.int (nI m))], [], HH x σ) (some (.int 0), HH x σ)) ∨ ((∃ m', m' ≤ T ∧ ∀ a, a < w + 1 → tb s a = true → a ≠ b → ¬ CF P kk cc a b (g a) m') ∧ ∀ r, mm_Runs d 132 (5, [some (.ref 37), some (.int (nI s)), some (.int (nI w)), some (.int (nI T)), some (.int (nI (b + 1))), none, none], [], HH x σ) r → mm_Runs d 132 (33, [some (.ref 37), some (.int (nI s)), some (.int (nI w)), some (.int (nI T)), some (.int (nI b)), some (.int (0 : Int32)), some (.int (nI m))], [], HH x σ) r)
  | 0, m, h, hb' => Or.inl ⟨fun ⟨m', z1, z2⟩ => hb' m' (by omega) z2, vx_gbm_p1 (v1 := 0) (by omega) (nI_lt (by omega) (by omega)) rfl⟩
  | i + 1, m, h, hb' => by
    have h6 := hm.1
    have nl : ¬ nI T < nI m := nI_nlt (by omega) (by omega)
    have t := m_mb (d := d - 1) (x := x) (g := g) (m := m) (t := w + 1) (by omega) hwf hn h6 hD (tbS hs) hb (by omega) (by omega) hg
    rw [← nI_1] at t
    by_cases z : ∀ a, a < w + 1 → tb s a = true → a ≠ b → ¬ CF P kk cc a b (g a) m
    · rw [dcd_t z] at t
      refine Or.inr ⟨⟨m, by omega, z⟩, fun r k => vx_gbm_p3 (v1 := 1) (by omega) nl rfl t ?_⟩
      rw [nI_1]
      rcases Nat.lt_or_ge T (m + 1) with q | q
      · exact vx_gbm_p0 (v1 := 0) (by omega) (nI_lt q (by omega)) (by decide) (by rw [nI_1]; exact k)
      · exact vx_gbm_p2 (v1 := 0) (by omega) (nI_nlt q (by omega)) (by decide) (by rw [nI_1]; exact k)
    · rw [dcd_f z] at t
      rcases m_gb_m hd hwf hn hm hD hs hT hw hb hg i (m + 1) (by omega) (fun m' hm' => by
        rcases Nat.lt_or_ge m' m with q | q
        · exact hb' m' q
        · rw [show m' = m by omega]; exact z) with ⟨r1, r2⟩ | ⟨r1, r2⟩
      · exact Or.inl ⟨r1, vx_gbm_p3 (v1 := 0) (by omega) nl rfl t (by rw [nI_1]; exact r2)⟩
      · exact Or.inr ⟨r1, fun r k => vx_gbm_p3 (v1 := 0) (by omega) nl rfl t (by rw [nI_1]; exact r2 r k)⟩
def gook (P : pd_T) (kk : Nat → Int32) (cc : Nat → Nat) (n s T w : Nat) (g : Nat → Nat) : Prop := ∀ b, w < b → b < n → tb s b = true → ∃ m', m' ≤ T ∧ ∀ a, a < w + 1 → tb s a = true → a ≠ b → ¬ CF P kk cc a b (g a) m'
theorem m_gb_b {w : Nat} {g : Nat → Nat} (hd : 3 ≤ d) (hwf : pd_wf P) (hn : pd_n P ≤ 42) (hm : wms P σ n kk cc) (hD : dm_ok P kk cc n (σ.2.2.1 49)) (hs : s < 64) (hT : T < 2 ^ 18) (hw : w < n) (hg : ∀ a, a < w + 1 → tb s a = true → σ.2.2.1 50 a = nI (g a) ∧ g a < 2 ^ 19) : ∀ (i b : Nat), b + i = n → w < b → (∀ b', w < b' → b' < b → tb s b' = true → ∃ m', m' ≤ T ∧ ∀ a, a < w + 1 → tb s a = true → a ≠ b' → ¬ CF P kk cc a b' (g a) m') → mm_Runs d 132 (5, [some (.ref 37), some (.int (nI s)), some (.int (nI w)), some (.int (nI T)), some (.int (nI b)), none, none], [], HH x σ) (some (.int (bI (dcd (gook P kk cc n s T w g)))), HH x σ)
  | 0, b, h, hwb, hb' => by
    have h6 := hm.1
    rw [dcd_t (show gook P kk cc n s T w g from fun b' z1 z2 => hb' b' z1 (by omega))]
    exact vx_gbb_p0 (by rw [hm.2.1]; exact nI_le (by omega) (by omega))
  | i + 1, b, h, hwb, hb' => by
    have h6 := hm.1
    have nb : ¬ σ.1 3720 ≤ nI b := by rw [hm.2.1]; exact nI_ge (by omega) (by omega)
    cases hv : tb s b with
    | false =>
      refine vx_gbb_p2 nb ((tb_0 hs (by omega)).mpr hv) ?_
      have k := m_gb_b hd hwf hn hm hD hs hT hw hg i (b + 1) (by omega) (by omega) (fun b' z1 z2 z3 => by
        rcases Nat.lt_or_ge b' b with q | q
        · exact hb' b' z1 q z3
        · rw [show b' = b by omega, hv] at z3; cases z3)
      exact vx_gbm_p2 (v1 := 0) (by omega) (nI_nlt (b := 0) (by omega) (by omega)) (by decide) (by rw [nI_1]; exact k)
    | true =>
      refine vx_gbb_p1 nb (fun z => by rw [(tb_0 hs (by omega)).mp z] at hv; cases hv) ?_
      rcases m_gb_m (d := d) (x := x) (b := b) hd hwf hn hm hD hs hT hw (by omega) (fun a z1 z2 _ => hg a z1 z2) (T + 1) 0 (by omega) (fun m' z => absurd z (by omega)) with ⟨r1, r2⟩ | ⟨r1, r2⟩
      · rw [dcd_f (fun z : gook P kk cc n s T w g => r1 (z b hwb (by omega) hv))]
        exact r2
      · refine r2 _ (m_gb_b hd hwf hn hm hD hs hT hw hg i (b + 1) (by omega) (by omega) (fun b' z1 z2 z3 => ?_))
        rcases Nat.lt_or_ge b' b with q | q
        · exact hb' b' z1 q z3
        · rw [show b' = b by omega]; exact r1
theorem m_go_on {w : Nat} {g : Nat → Nat} (hd : 3 ≤ d) (hwf : pd_wf P) (hn : pd_n P ≤ 42) (hm : wms P σ n kk cc) (hD : dm_ok P kk cc n (σ.2.2.1 49)) (hs : s < 64) (hT : T < 2 ^ 18) (hw : w < n) (hg : ∀ a, a < w + 1 → tb s a = true → σ.2.2.1 50 a = nI (g a) ∧ g a < 2 ^ 19) : mm_Runs d 132 (0, [some (.ref 37), some (.int (nI s)), some (.int (nI w)), some (.int (nI T)), none, none, none], [], HH x σ) (some (.int (bI (dcd (gook P kk cc n s T w g)))), HH x σ) := vx_gb0_p0 (by
    rw [nI_1]
    exact m_gb_b hd hwf hn hm hD hs hT hw hg (n - (w + 1)) (w + 1) (by omega) (by omega) (fun b' z1 z2 => absurd z2 (by omega)))
/-- what is shown of a level of the search -/
def LV (d : Nat) (x : Nat × (Nat → Int32)) (P : pd_T) (σ : mm_S) (kk : Nat → Int32) (cc : Nat → Nat) (n s T w : Nat) : Prop := ∀ (p : Nat → Nat) (M : Nat → Int32), fdI P kk cc n s T w p M → fdN n w M →
  (∃ (p' : Nat → Nat) (M' : Nat → Int32), pok P kk cc n s T p' ∧ (∀ a, a < w → tb s a = true → p' a = p a) ∧ (∀ a, a < n → tb s a = true → M' a = nI (p' a)) ∧ pmn P kk cc n s T w p' ∧ mm_Runs d 133 (28, [some (.ref 37), some (.int (nI s)), some (.int (nI T)), some (.int (nI w)), none], [], HH x (ua σ 50 M)) (some (.int 1), HH x (ua σ 50 M'))) ∨
  ((∀ p', pok P kk cc n s T p' → (∀ a, a < w → tb s a = true → p' a = p a) → False) ∧ ∃ M', (∀ a, a < w → M' a = M a) ∧ fdN n w M' ∧ ∀ r, mm_Runs d 133 (28, [some (.ref 37), some (.int (nI s)), some (.int (nI T)), some (.int (nI w + (-1))), none], [], HH x (ua σ 50 M')) r → mm_Runs d 133 (28, [some (.ref 37), some (.int (nI s)), some (.int (nI T)), some (.int (nI w)), none], [], HH x (ua σ 50 M)) r)
theorem fd_m {w : Nat} {p : Nat → Nat} (hd : 4 ≤ d) (hwf : pd_wf P) (hn : pd_n P ≤ 42) (hm : wms P σ n kk cc) (hD : dm_ok P kk cc n (σ.2.2.1 49)) (hs : s < 64) (hT : T < 2 ^ 18) (hw : w < n) (htb : tb s w = true) (ih : LV d x P σ kk cc n s T (w + 1)) : ∀ (i m : Nat), m + i = T + 1 → ∀ (M : Nat → Int32), fdI P kk cc n s T w p M → M w = nI m → fdN n (w + 1) M → (∀ p', pok P kk cc n s T p' → (∀ a, a < w → tb s a = true → p' a = p a) → m ≤ p' w) →
  (∃ (p' : Nat → Nat) (M' : Nat → Int32), pok P kk cc n s T p' ∧ (∀ a, a < w → tb s a = true → p' a = p a) ∧ (∀ a, a < n → tb s a = true → M' a = nI (p' a)) ∧ pmn P kk cc n s T w p' ∧ mm_Runs d 133 (100, [some (.ref 37), some (.int (nI s)), some (.int (nI T)), some (.int (nI w)), none], [], HH x (ua σ 50 M)) (some (.int 1), HH x (ua σ 50 M'))) ∨
  ((∀ p', pok P kk cc n s T p' → (∀ a, a < w → tb s a = true → p' a = p a) → False) ∧ ∃ M', (∀ a, a < w → M' a = M a) ∧ fdN n w M' ∧ ∀ r, mm_Runs d 133 (28, [some (.ref 37), some (.int (nI s)), some (.int (nI T)), some (.int (nI w + (-1))), none], [], HH x (ua σ 50 M')) r → mm_Runs d 133 (100, [some (.ref 37), some (.int (nI s)), some (.int (nI T)), some (.int (nI w)), none], [], HH x (ua σ 50 M)) r)
  | 0, m, h, M, hI, hMw, hN, hlo => by
    have h6 := hm.1
    have cw : (nI w).toNatClampNeg = w := nI_clamp (by omega)
    have e50 : (ua σ 50 M).2.2.1 50 (nI w).toNatClampNeg = nI m := by rw [cw]; exact hMw
    refine Or.inr ⟨fun p' z1 z2 => ?_, upd M w (-1), fun a ha => pk_un (by omega), fun a h1 h2 => ?_, fun r k => ?_⟩
    · have := hlo p' z1 z2
      have := z1.1 w hw htb
      omega
    · by_cases e : a = w
      · subst e; exact pk_us
      · rw [pk_un e]; exact hN a (by omega) h2
    · refine vx_fdm_p0 (v1 := 0) (v2 := 0) (by omega) (by rw [e50]; exact nI_lt (by omega) (by omega)) (nI_in (by omega) (by omega)) ?_
      rw [cw]
      have e2 : ua (ua σ 50 M) 50 (upd ((ua σ 50 M).2.2.1 50) w (-1)) = ua σ 50 (upd M w (-1)) := ua_2 _ _ _ _
      rw [e2]; exact k
  | i + 1, m, h, M, hI, hMw, hN, hlo => by
    have h6 := hm.1
    have cw : (nI w).toNatClampNeg = w := nI_clamp (by omega)
    have gw := nI_in (c := w) (N := 6) (by omega) (by omega)
    have e50 : (ua σ 50 M).2.2.1 50 (nI w).toNatClampNeg = nI m := by rw [cw]; exact hMw
    have nl : ¬ nI T < (ua σ 50 M).2.2.1 50 (nI w).toNatClampNeg := by rw [e50]; exact nI_nlt (by omega) (by omega)
    have hm' : wms P (ua σ 50 M) n kk cc := hm
    have up : ∀ (M1 : Nat → Int32), (∀ a, a < w → M1 a = M a) → fdN n (w + 1) M1 → M1 w = nI m → (∀ p', pok P kk cc n s T p' → (∀ a, a < w → tb s a = true → p' a = p a) → p' w ≠ m) → ((∃ (p' : Nat → Nat) (M' : Nat → Int32), pok P kk cc n s T p' ∧ (∀ a, a < w → tb s a = true → p' a = p a) ∧ (∀ a, a < n → tb s a = true → M' a = nI (p' a)) ∧ pmn P kk cc n s T w p' ∧ mm_Runs d 133 (100, [some (.ref 37), some (.int (nI s)), some (.int (nI T)), some (.int (nI w)), none], [], HH x (ua σ 50 (upd M1 w (nI m + 1)))) (some (.int 1), HH x (ua σ 50 M'))) ∨
  ((∀ p', pok P kk cc n s T p' → (∀ a, a < w → tb s a = true → p' a = p a) → False) ∧ ∃ M', (∀ a, a < w → M' a = M a) ∧ fdN n w M' ∧ ∀ r, mm_Runs d 133 (28, [some (.ref 37), some (.int (nI s)), some (.int (nI T)), some (.int (nI w + (-1))), none], [], HH x (ua σ 50 M')) r → mm_Runs d 133 (100, [some (.ref 37), some (.int (nI s)), some (.int (nI T)), some (.int (nI w)), none], [], HH x (ua σ 50 (upd M1 w (nI m + 1)))) r)) := fun M1 k1 k2 k3 k4 => by
      rw [nI_1]
      have key := fd_m hd hwf hn hm hD hs hT hw htb ih i (m + 1) (by omega) (upd M1 w (nI (m + 1))) ⟨fun a ha => by
          rw [pk_un (show a ≠ w by omega), k1 a ha]; exact hI.1 a ha, hI.2⟩ pk_us (fun a h1 h2 => by
          rw [pk_un (show a ≠ w by omega)]; exact k2 a h1 h2) (fun p' z1 z2 => by
          have := hlo p' z1 z2
          have := k4 p' z1 z2
          omega)
      rcases key with key | ⟨f1, M', f2, f3, f4⟩
      · exact Or.inl key
      · exact Or.inr ⟨f1, M', fun a ha => by rw [f2 a ha, pk_un (show a ≠ w by omega), k1 a ha], f3, f4⟩
    have eup : ∀ M1 : Nat → Int32, M1 w = nI m → ua (ua σ 50 M1) 50 (upd ((ua σ 50 M1).2.2.1 50) (nI w).toNatClampNeg ((ua σ 50 M1).2.2.1 50 (nI w).toNatClampNeg + 1)) = ua σ 50 (upd M1 w (nI m + 1)) := fun M1 k => by
      rw [cw, show (ua σ 50 M1).2.2.1 50 w = nI m from k]
      exact ua_2 _ _ _ _
    have t1 := m_mb (d := d - 1) (x := x) (σ := ua σ 50 M) (kk := kk) (cc := cc) (g := p) (w := w) (m := m) (t := w) (by omega) hwf hn h6 hD (tbS hs) hw (by omega) (by omega) (fun a ha hb _ => ⟨((hI.1 a ha).1 hb).1, by have := ((hI.1 a ha).1 hb).2; omega⟩)
    rw [← e50] at t1
    by_cases z1 : ∀ a, a < w → tb s a = true → a ≠ w → ¬ CF P kk cc a w (p a) m
    · rw [dcd_t z1] at t1
      have t2 := m_go_on (d := d - 1) (x := x) (σ := ua σ 50 M) (kk := kk) (cc := cc) (g := gset p w m) (w := w) (T := T) (by omega) hwf hn hm' hD hs hT hw (fun a ha hb => by
        rcases Nat.lt_or_ge a w with q | q
        · rw [gset_n (show a ≠ w by omega)]
          exact ⟨((hI.1 a q).1 hb).1, by have := ((hI.1 a q).1 hb).2; omega⟩
        · rw [show a = w by omega, gset_s]
          exact ⟨hMw, by omega⟩)
      by_cases z2 : gook P kk cc n s T w (gset p w m)
      · rw [dcd_t z2] at t2
        have hI' : fdI P kk cc n s T (w + 1) (gset p w m) M := by
          refine ⟨fun a ha => ?_, fun i j hij hj hi1 hj1 => ?_⟩
          · rcases Nat.lt_or_ge a w with q | q
            · rw [gset_n (show a ≠ w by omega)]; exact hI.1 a q
            · have e : a = w := by omega
              subst e
              rw [gset_s]
              exact ⟨fun _ => ⟨hMw, by omega⟩, fun y => by rw [htb] at y; cases y⟩
          · rw [gset_n (show i ≠ w by omega)]
            rcases Nat.lt_or_ge j w with q | q
            · rw [gset_n (show j ≠ w by omega)]; exact hI.2 i j hij q hi1 hj1
            · have e : j = w := by omega
              subst e
              rw [gset_s]
              exact z1 i hij hi1 (by omega)
        rcases ih (gset p w m) M hI' hN with ⟨p', M', a1, a2, a3, a4, a5⟩ | ⟨a1, M', a2, a3, a4⟩
        · have pw : p' w = m := by rw [a2 w (by omega) htb, gset_s]
          have pa : ∀ a, a < w → tb s a = true → p' a = p a := fun a ha hb => by rw [a2 a (by omega) hb, gset_n (by omega)]
          refine Or.inl ⟨p', M', a1, pa, a3, fun p2 b1 b2 i b3 b4 b5 => ?_, vx_fdm_p2 (v1 := 1) (v2 := 1) (by omega) nl (by decide) (by decide) gw t1 t2 (by rw [nI_1]; exact a5)⟩
          have lo := hlo p2 b1 (fun a ha hb => by rw [b2 a ha hb]; exact pa a ha hb)
          rcases Nat.lt_trichotomy (p2 w) m with q | q | q
          · omega
          · refine a4 p2 b1 (fun a ha hb => ?_) i b3 b4 b5
            rcases Nat.lt_or_ge a w with y | y
            · exact b2 a y hb
            · rw [show a = w by omega, q, pw]
          · rcases Nat.lt_trichotomy i w with y | y | y
            · rw [b2 i y b4]; exact Nat.le_refl _
            · subst y; omega
            · have := b5 w y htb; omega
        · have hMw' : M' w = nI m := by rw [a2 w (by omega)]; exact hMw
          have rest := up M' (fun a ha => a2 a (by omega)) a3 hMw' (fun p' y1 y2 y3 => a1 p' y1 (fun a ha hb => by
            rcases Nat.lt_or_ge a w with q | q
            · rw [gset_n (by omega)]; exact y2 a q hb
            · rw [show a = w by omega, gset_s]; exact y3))
          have nb0 : ¬ ((nI s >>> (nI w &&& 31)) &&& 1) = (0 : Int32) := fun y => by rw [(tb_0 hs (by omega)).mp y] at htb; cases htb
          have le : ¬ (ua σ 50 M').1 3720 ≤ nI w := by
            show ¬ σ.1 3720 ≤ nI w
            rw [hm.2.1]; exact nI_ge hw (by omega)
          have back : ∀ r, mm_Runs d 133 (100, [some (.ref 37), some (.int (nI s)), some (.int (nI T)), some (.int (nI w)), none], [], HH x (ua σ 50 (upd M' w (nI m + 1)))) r → mm_Runs d 133 (100, [some (.ref 37), some (.int (nI s)), some (.int (nI T)), some (.int (nI w)), none], [], HH x (ua σ 50 M)) r := fun r k => by
            refine vx_fdm_p2 (v1 := 1) (v2 := 1) (by omega) nl (by decide) (by decide) gw t1 t2 ?_
            rw [nI_1]
            refine a4 r ?_
            rw [show nI (w + 1) + (-1) = nI w from pk_m1 w]
            refine vx_fdw_p5 (nI_pos (by omega)) le nb0 ((tb_1 hs (by omega)).mpr htb) gw ?_
            rw [eup M' hMw']; exact k
          rcases rest with ⟨p', M2, b1, b2, b3, b4, b5⟩ | ⟨b1, M2, b2, b3, b4⟩
          · exact Or.inl ⟨p', M2, b1, b2, b3, b4, back _ b5⟩
          · exact Or.inr ⟨b1, M2, b2, b3, fun r k => back r (b4 r k)⟩
      · rw [dcd_f z2] at t2
        have rest := up M (fun a ha => rfl) hN hMw (fun p' y1 y2 y3 => z2 (fun b hb1 hb2 hb3 => ⟨p' b, y1.1 b hb2 hb3, fun a ha hb _ => by
          rcases Nat.lt_or_ge a w with q | q
          · rw [gset_n (show a ≠ w by omega), ← y2 a q hb]; exact y1.2 a b (by omega) hb2 hb hb3
          · rw [show a = w by omega, gset_s, ← y3]; exact y1.2 w b hb1 hb2 htb hb3⟩))
        have back : ∀ r, mm_Runs d 133 (100, [some (.ref 37), some (.int (nI s)), some (.int (nI T)), some (.int (nI w)), none], [], HH x (ua σ 50 (upd M w (nI m + 1)))) r → mm_Runs d 133 (100, [some (.ref 37), some (.int (nI s)), some (.int (nI T)), some (.int (nI w)), none], [], HH x (ua σ 50 M)) r := fun r k => by
          refine vx_fdm_p3 (v1 := 1) (v2 := 0) (by omega) nl (by decide) rfl gw t1 t2 ?_
          rw [eup M hMw]; exact k
        rcases rest with ⟨p', M2, b1, b2, b3, b4, b5⟩ | ⟨b1, M2, b2, b3, b4⟩
        · exact Or.inl ⟨p', M2, b1, b2, b3, b4, back _ b5⟩
        · exact Or.inr ⟨b1, M2, b2, b3, fun r k => back r (b4 r k)⟩
    · rw [dcd_f z1] at t1
      have rest := up M (fun a ha => rfl) hN hMw (fun p' y1 y2 y3 => z1 (fun a ha hb _ => by
        rw [← y2 a ha hb, ← y3]; exact y1.2 a w ha hw hb htb))
      have back : ∀ r, mm_Runs d 133 (100, [some (.ref 37), some (.int (nI s)), some (.int (nI T)), some (.int (nI w)), none], [], HH x (ua σ 50 (upd M w (nI m + 1)))) r → mm_Runs d 133 (100, [some (.ref 37), some (.int (nI s)), some (.int (nI T)), some (.int (nI w)), none], [], HH x (ua σ 50 M)) r := fun r k => by
        refine vx_fdm_p1 (v1 := 0) (v2 := 0) (by omega) nl rfl gw t1 ?_
        rw [eup M hMw]; exact k
      rcases rest with ⟨p', M2, b1, b2, b3, b4, b5⟩ | ⟨b1, M2, b2, b3, b4⟩
      · exact Or.inl ⟨p', M2, b1, b2, b3, b4, back _ b5⟩
      · exact Or.inr ⟨b1, M2, b2, b3, fun r k => back r (b4 r k)⟩
theorem fd_lv (hd : 4 ≤ d) (hwf : pd_wf P) (hn : pd_n P ≤ 42) (hm : wms P σ n kk cc) (hD : dm_ok P kk cc n (σ.2.2.1 49)) (hs : s < 64) (hT : T < 2 ^ 18) : ∀ (k w : Nat), w + k = n → LV d x P σ kk cc n s T w
  | 0, w, h => fun p M hI hN => by
    have h6 := hm.1
    have e : w = n := by omega
    subst e
    have e37 : nI w = (ua σ 50 M).1 3720 := by
      show nI w = σ.1 3720
      exact hm.2.1.symm
    refine Or.inl ⟨p, M, ⟨fun i hi hb => ((hI.1 i hi).1 hb).2, hI.2⟩, fun _ _ _ => rfl, fun a ha hb => ((hI.1 a ha).1 hb).1, fun p' z1 z2 i z3 z4 z5 => by rw [z2 i z3 z4]; exact Nat.le_refl _, vx_fdw_p3 (nI_pos (by omega)) ?_ e37⟩
    rw [← e37]; exact nI_le (Nat.le_refl _) (by omega)
  | k + 1, w, h => fun p M hI hN => by
    have h6 := hm.1
    have ih := fd_lv hd hwf hn hm hD hs hT k (w + 1) (by omega)
    have hw : w < n := by omega
    have cw : (nI w).toNatClampNeg = w := nI_clamp (by omega)
    have gw := nI_in (c := w) (N := 6) (by omega) (by omega)
    have le : ∀ M' : Nat → Int32, ¬ (ua σ 50 M').1 3720 ≤ nI w := fun M' => by
      show ¬ σ.1 3720 ≤ nI w
      rw [hm.2.1]; exact nI_ge hw (by omega)
    have np := nI_pos (n := w) (by omega)
    have hMw : M w = -1 := hN w (Nat.le_refl _) hw
    cases hv : tb s w with
    | false =>
      have b0 := (tb_0 hs (show w < 6 by omega)).mpr hv
      have n1 : ¬ ((nI s >>> (nI w &&& 31)) &&& 1) = (1 : Int32) := fun y => by rw [(tb_1 hs (by omega)).mp y] at hv; cases hv
      have hI' : fdI P kk cc n s T (w + 1) p (upd M w (-9)) := by
        refine ⟨fun a ha => ?_, fun i j hij hj hi1 hj1 => ?_⟩
        · rcases Nat.lt_or_ge a w with q | q
          · rw [pk_un (show a ≠ w by omega)]; exact hI.1 a q
          · have e : a = w := by omega
            subst e
            exact ⟨fun y => absurd y (by rw [hv]; decide), fun _ => pk_us⟩
        · rcases Nat.lt_or_ge j w with q | q
          · exact hI.2 i j hij q hi1 hj1
          · rw [show j = w by omega, hv] at hj1; cases hj1
      have go : ∀ r, mm_Runs d 133 (28, [some (.ref 37), some (.int (nI s)), some (.int (nI T)), some (.int (nI (w + 1))), none], [], HH x (ua σ 50 (upd M w (-9)))) r → mm_Runs d 133 (28, [some (.ref 37), some (.int (nI s)), some (.int (nI T)), some (.int (nI w)), none], [], HH x (ua σ 50 M)) r := fun r k => by
        refine vx_fdw_p8 np (le M) b0 (by rw [cw]; exact hMw) gw ?_
        rw [nI_1, cw]
        have e2 : ua (ua σ 50 M) 50 (upd ((ua σ 50 M).2.2.1 50) w (-9)) = ua σ 50 (upd M w (-9)) := ua_2 _ _ _ _
        rw [e2]; exact k
      have ex : ∀ (p' q : Nat → Nat), (∀ a, a < w → tb s a = true → p' a = q a) ↔ (∀ a, a < w + 1 → tb s a = true → p' a = q a) := fun p' q => ⟨fun y a ha hb => by
          rcases Nat.lt_or_ge a w with z | z
          · exact y a z hb
          · exact absurd hb (by rw [show a = w by omega, hv]; decide), fun y a ha hb => y a (by omega) hb⟩
      rcases ih p (upd M w (-9)) hI' (fun a h1 h2 => by rw [pk_un (show a ≠ w by omega)]; exact hN a (by omega) h2) with ⟨p', M', a1, a2, a3, a4, a5⟩ | ⟨a1, M', a2, a3, a4⟩
      · exact Or.inl ⟨p', M', a1, (ex _ _).mpr a2, a3, fun p2 b1 b2 => a4 p2 b1 ((ex _ _).mp b2), go _ a5⟩
      · refine Or.inr ⟨fun p' y1 y2 => a1 p' y1 ((ex _ _).mp y2), upd M' w (-1), fun a ha => ?_, fun a h1 h2 => ?_, fun r k => go r (a4 r ?_)⟩
        · rw [pk_un (show a ≠ w by omega), a2 a (by omega), pk_un (show a ≠ w by omega)]
        · by_cases e : a = w
          · subst e; exact pk_us
          · rw [pk_un e]; exact a3 a (by omega) h2
        · rw [show nI (w + 1) + (-1) = nI w from pk_m1 w]
          refine vx_fdw_p6 np (le M') b0 ?_ n1 gw ?_
          · rw [cw]
            show ¬ M' w = -1
            rw [a2 w (by omega), pk_us]; decide
          · rw [cw]
            have e2 : ua (ua σ 50 M') 50 (upd ((ua σ 50 M').2.2.1 50) w (-1)) = ua σ 50 (upd M' w (-1)) := ua_2 _ _ _ _
            rw [e2]; exact k
    | true =>
      have nb0 : ¬ ((nI s >>> (nI w &&& 31)) &&& 1) = (0 : Int32) := fun y => by rw [(tb_0 hs (by omega)).mp y] at hv; cases hv
      have go : ∀ r, mm_Runs d 133 (100, [some (.ref 37), some (.int (nI s)), some (.int (nI T)), some (.int (nI w)), none], [], HH x (ua σ 50 (upd M w (nI 0)))) r → mm_Runs d 133 (28, [some (.ref 37), some (.int (nI s)), some (.int (nI T)), some (.int (nI w)), none], [], HH x (ua σ 50 M)) r := fun r k => by
        refine vx_fdw_p5 np (le M) nb0 ((tb_1 hs (by omega)).mpr hv) gw ?_
        rw [cw]
        have e3 : (ua σ 50 M).2.2.1 50 w + 1 = nI 0 := by
          show M w + 1 = nI 0
          rw [hMw]; rfl
        rw [e3]
        have e2 : ua (ua σ 50 M) 50 (upd ((ua σ 50 M).2.2.1 50) w (nI 0)) = ua σ 50 (upd M w (nI 0)) := ua_2 _ _ _ _
        rw [e2]; exact k
      have key := fd_m (d := d) (x := x) (p := p) hd hwf hn hm hD hs hT hw hv ih (T + 1) 0 (by omega) (upd M w (nI 0)) ⟨fun a ha => by
        rw [pk_un (show a ≠ w by omega)]; exact hI.1 a ha, hI.2⟩ pk_us (fun a h1 h2 => by rw [pk_un (show a ≠ w by omega)]; exact hN a (by omega) h2) (fun _ _ _ => Nat.zero_le _)
      rcases key with ⟨p', M', a1, a2, a3, a4, a5⟩ | ⟨a1, M', a2, a3, a4⟩
      · exact Or.inl ⟨p', M', a1, a2, a3, a4, go _ a5⟩
      · exact Or.inr ⟨a1, M', fun a ha => by rw [a2 a ha, pk_un (show a ≠ w by omega)], a3, fun r k => go r (a4 r k)⟩
theorem fd_a (hm : wms P σ n kk cc) : ∀ (i a : Nat), a + i = n → ∀ (M : Nat → Int32), (∀ b, b < a → M b = -1) → ∃ M', fdN n 0 M' ∧ ∀ r, mm_Runs d 133 (28, [some (.ref 37), some (.int (nI s)), some (.int (nI T)), some (.int (0 : Int32)), none], [], HH x (ua σ 50 M')) r → mm_Runs d 133 (5, [some (.ref 37), some (.int (nI s)), some (.int (nI T)), some (.int (0 : Int32)), some (.int (nI a))], [], HH x (ua σ 50 M)) r
  | 0, a, h, M, hM => by
    have h6 := hm.1
    refine ⟨M, fun b _ hb => hM b (by omega), fun r k => vx_fda_p0 ?_ k⟩
    show σ.1 3720 ≤ nI a
    rw [hm.2.1]; exact nI_le (by omega) (by omega)
  | i + 1, a, h, M, hM => by
    have h6 := hm.1
    obtain ⟨M', r1, r2⟩ := fd_a hm i (a + 1) (by omega) (upd M a (-1)) (fun b hb => by
      by_cases e : b = a
      · subst e; exact pk_us
      · rw [pk_un e]; exact hM b (by omega))
    refine ⟨M', r1, fun r k => vx_fda_p1 ?_ (nI_in (by omega) (by omega)) ?_⟩
    · show ¬ σ.1 3720 ≤ nI a
      rw [hm.2.1]; exact nI_ge (by omega) (by omega)
    · rw [nI_1, nI_clamp (by omega)]
      have e2 : ua (ua σ 50 M) 50 (upd ((ua σ 50 M).2.2.1 50) a (-1)) = ua σ 50 (upd M a (-1)) := ua_2 _ _ _ _
      rw [e2]; exact r2 r k
/-- the whole search -/
theorem m_find (hd : 4 ≤ d) (hwf : pd_wf P) (hn : pd_n P ≤ 42) (hm : wms P σ n kk cc) (hD : dm_ok P kk cc n (σ.2.2.1 49)) (hs : s < 64) (hT : T < 2 ^ 18) : ∃ (v : Int32) (M : Nat → Int32), mm_Runs d 133 (0, [some (.ref 37), some (.int (nI s)), some (.int (nI T)), none, none], [], HH x σ) (some (.int v), HH x (ua σ 50 M)) ∧ ((v = 1 ∧ ∃ p, pok P kk cc n s T p ∧ pmn P kk cc n s T 0 p ∧ ∀ a, a < n → tb s a = true → M a = nI (p a)) ∨ (v = 0 ∧ ∀ p, ¬ pok P kk cc n s T p)) := by
  have h6 := hm.1
  obtain ⟨M0, r1, r2⟩ := fd_a (d := d) (x := x) (s := s) (T := T) hm n 0 (by omega) (σ.2.2.1 50) (fun b hb => absurd hb (by omega))
  rw [ua_self] at r2
  rcases fd_lv (d := d) (x := x) hd hwf hn hm hD hs hT n 0 (by omega) (fun _ => 0) M0 ⟨fun a ha => absurd ha (by omega), fun i j _ hj => absurd hj (by omega)⟩ r1 with ⟨p, M, a1, a2, a3, a4, a5⟩ | ⟨a1, M, a2, a3, a4⟩
  · exact ⟨1, M, vx_fd0_p0 (r2 _ a5), Or.inl ⟨rfl, p, a1, a4, a3⟩⟩
  · refine ⟨0, M, vx_fd0_p0 (r2 _ (a4 _ (vx_fdw_p0 (by decide) ?_))), Or.inr ⟨rfl, fun p z => a1 p z (fun a ha => absurd ha (by omega))⟩⟩
    show ¬ nI 0 + (-1) = σ.1 3720
    rw [hm.2.1]
    intro z
    have h1 := congrArg Int32.toInt z
    rw [nI_toInt (by omega)] at h1
    have h2 : (nI 0 + (-1) : Int32).toInt = -1 := rfl
    omega
end FD

