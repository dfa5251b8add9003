/-! at once, in the class; atOnce (written by wip/whole/t58.py) -/
set_option maxRecDepth 100000 in
theorem vx_fc0 {d : Nat} {x : Nat × (Nat → Int32)} {σ : mm_S} {r : Option Value × mm_H} (hd : 1 ≤ d) (k1 : mm_Runs d 80 (10, [some (.ref 2), some (.int (0 : Int32)), none], [], HH x (ua σ 36 (fl 6 (0 : Int32) (σ.2.2.1 36)))) r) : mm_Runs d 80 (0, [some (.ref 2), none, none], [], HH x σ) r := by
  refine mm_go 3 (F' := (5, [some (.ref 2), none, none], [.int (0 : Int32), .ref 36], HH x σ)) rfl ?_
  refine mm_kl (z := 157) (as := [.ref 36, .int (0 : Int32)]) (S' := []) (L2 := [some (.ref 36), some (.int (0 : Int32)), none, none]) (v := none) (h1 := HH x (ua σ 36 (fl 6 (0 : Int32) (σ.2.2.1 36)))) rfl rfl rfl rfl rfl (by omega) (r_fill_36 (by omega)) ?_
  show mm_Runs d 80 (8, [some (.ref 2), none, none], [], HH x (ua σ 36 (fl 6 (0 : Int32) (σ.2.2.1 36)))) r
  refine mm_go 2 (F' := (10, [some (.ref 2), some (.int (0 : Int32)), none], [], HH x (ua σ 36 (fl 6 (0 : Int32) (σ.2.2.1 36))))) rfl ?_
  exact mm_wk (by exact (And.intro rfl (And.intro rfl True.intro))) k1
theorem vx_fc0_p0 {d : Nat} {x : Nat × (Nat → Int32)} {σ : mm_S} {r : Option Value × mm_H} (hd : 1 ≤ d) (kk : mm_Runs d 80 (10, [some (.ref 2), some (.int (0 : Int32)), none], [], HH x (ua σ 36 (fl 6 (0 : Int32) (σ.2.2.1 36)))) r) : mm_Runs d 80 (0, [some (.ref 2), none, none], [], HH x σ) r := vx_fc0 hd kk
set_option maxRecDepth 100000 in
theorem vx_fca {d : Nat} {x : Nat × (Nat → Int32)} {σ : mm_S} {a : Int32} {r : Option Value × mm_H} (k1 : (σ.1 2003) ≤ a → (none, HH x σ) = r) (k2 : ¬ (σ.1 2003) ≤ a → mm_Runs d 80 (25, [some (.ref 2), some (.int a), some (.int (a + (1 : Int32)))], [], HH x σ) r) : mm_Runs d 80 (10, [some (.ref 2), some (.int a), none], [], HH x σ) r := by
  refine mm_go 5 (F' := (bif mm_cond .ge a (σ.1 2003) then 81 else 21, [some (.ref 2), some (.int a), none], [], HH x σ)) rfl ?_
  refine mb_ge (fun h1 => ?_) (fun h1 => ?_)
  · exact mm_rt rfl rfl (k1 h1)
  · refine mm_go 4 (F' := (25, [some (.ref 2), some (.int a), some (.int (a + (1 : Int32)))], [], HH x σ)) rfl ?_
    exact mm_wk (by exact (And.intro rfl (And.intro rfl (And.intro rfl True.intro)))) (k2 h1)
theorem vx_fca_p0 {d : Nat} {x : Nat × (Nat → Int32)} {σ : mm_S} {a : Int32}  (h1 : (σ.1 2003) ≤ a) : mm_Runs d 80 (10, [some (.ref 2), some (.int a), none], [], HH x σ) (none, HH x σ) := vx_fca (fun _ => rfl) (fun  z => absurd h1 z)
theorem vx_fca_p1 {d : Nat} {x : Nat × (Nat → Int32)} {σ : mm_S} {a : Int32} {r : Option Value × mm_H}  (h1 : ¬ (σ.1 2003) ≤ a) (kk : mm_Runs d 80 (25, [some (.ref 2), some (.int a), some (.int (a + (1 : Int32)))], [], HH x σ) r) : mm_Runs d 80 (10, [some (.ref 2), some (.int a), none], [], HH x σ) r := vx_fca (fun  z => absurd z h1) (fun _ => kk)
set_option maxRecDepth 100000 in
theorem vx_fcb {d : Nat} {x : Nat × (Nat → Int32)} {σ : mm_S} {a b : Int32}  {v1 : Int32} {σ1 : mm_S} {r : Option Value × mm_H} (hd : 1 ≤ d) (k1 : (σ.1 2003) ≤ b → mm_Runs d 80 (10, [some (.ref 2), some (.int (a + (1 : Int32))), none], [], HH x σ) r) (k2 : ¬ (σ.1 2003) ≤ b → mm_Runs (d - 1) 5 (0, [some (.ref 28), some (.ref 13), some (.ref 20), some (.int a), some (.int b), some (.int (0 : Int32)), none, none, none, none, none, none, none, none, none, none, none, none, none, none, none], [], HH x σ) (some (.int v1), HH x σ1)) (k3 : ¬ (σ.1 2003) ≤ b → v1 = 0 → mm_Runs d 80 (25, [some (.ref 2), some (.int a), some (.int (b + (1 : Int32)))], [], HH x σ1) r) (k4 : ¬ (σ.1 2003) ≤ b → ¬ v1 = 0 → ¬ (b < 0 ∨ 6 ≤ b.toNatClampNeg)) (k5 : ¬ (σ.1 2003) ≤ b → ¬ v1 = 0 → ¬ (b < 0 ∨ 6 ≤ b.toNatClampNeg)) (k6 : ¬ (σ.1 2003) ≤ b → ¬ v1 = 0 → mm_Runs d 80 (25, [some (.ref 2), some (.int a), some (.int (b + (1 : Int32)))], [], HH x (ua σ1 36 (upd (σ1.2.2.1 36) b.toNatClampNeg (((σ1.2.2.1 36) b.toNatClampNeg) ||| ((1 : Int32) <<< (a &&& 31)))))) r) : mm_Runs d 80 (25, [some (.ref 2), some (.int a), some (.int b)], [], HH x σ) r := by
  refine mm_go 5 (F' := (bif mm_cond .ge b (σ.1 2003) then 75 else 36, [some (.ref 2), some (.int a), some (.int b)], [], HH x σ)) rfl ?_
  refine mb_ge (fun h1 => ?_) (fun h1 => ?_)
  · refine mm_go 2 (F' := (10, [some (.ref 2), some (.int (a + (1 : Int32))), some (.int b)], [], HH x σ)) rfl ?_
    exact mm_wk (by exact (And.intro rfl (And.intro rfl True.intro))) (k1 h1)
  · refine mm_go 9 (F' := (51, [some (.ref 2), some (.int a), some (.int b)], [.int (0 : Int32), .int b, .int a, .ref 20, .ref 13, .ref 28], HH x σ)) rfl ?_
    refine mm_kl (z := 5) (as := [.ref 28, .ref 13, .ref 20, .int a, .int b, .int (0 : Int32)]) (S' := []) (L2 := [some (.ref 28), some (.ref 13), some (.ref 20), some (.int a), some (.int b), some (.int (0 : Int32)), none, none, none, none, none, none, none, none, none, none, none, none, none, none, none]) (v := some (.int v1)) (h1 := HH x σ1) rfl rfl rfl rfl rfl (by omega) (k2 h1) ?_
    show mm_Runs d 80 (54, [some (.ref 2), some (.int a), some (.int b)], [.int v1], HH x σ1) r
    refine mm_go 1 (F' := (bif mm_cond .eq v1 0 then 69 else 57, [some (.ref 2), some (.int a), some (.int b)], [], HH x σ1)) rfl ?_
    refine mb_eq (fun h2 => ?_) (fun h2 => ?_)
    · refine mm_go 2 (F' := (25, [some (.ref 2), some (.int a), some (.int (b + (1 : Int32)))], [], HH x σ1)) rfl ?_
      exact mm_wk (by exact (And.intro rfl (And.intro rfl (And.intro rfl True.intro)))) (k3 h1 h2)
    · refine mm_go 4 (F' := (63, [some (.ref 2), some (.int a), some (.int b)], [.int b, .ref 36, .int b, .ref 36], HH x σ1)) rfl ?_
      refine mm_gd (F' := (64, [some (.ref 2), some (.int a), some (.int b)], [.int ((σ1.2.2.1 36) b.toNatClampNeg), .int b, .ref 36], HH x σ1)) rfl (k4 h1 h2) ?_
      refine mm_go 4 (F' := (68, [some (.ref 2), some (.int a), some (.int b)], [.int (((σ1.2.2.1 36) b.toNatClampNeg) ||| ((1 : Int32) <<< (a &&& 31))), .int b, .ref 36], HH x σ1)) rfl ?_
      refine mm_gd (F' := (69, [some (.ref 2), some (.int a), some (.int b)], [], HH x (ua σ1 36 (upd (σ1.2.2.1 36) b.toNatClampNeg (((σ1.2.2.1 36) b.toNatClampNeg) ||| ((1 : Int32) <<< (a &&& 31))))))) rfl (k5 h1 h2) ?_
      refine mm_go 2 (F' := (25, [some (.ref 2), some (.int a), some (.int (b + (1 : Int32)))], [], HH x (ua σ1 36 (upd (σ1.2.2.1 36) b.toNatClampNeg (((σ1.2.2.1 36) b.toNatClampNeg) ||| ((1 : Int32) <<< (a &&& 31))))))) rfl ?_
      exact mm_wk (by exact (And.intro rfl (And.intro rfl (And.intro rfl True.intro)))) (k6 h1 h2)
theorem vx_fcb_p0 {d : Nat} {x : Nat × (Nat → Int32)} {σ : mm_S} {a b : Int32}  {v1 : Int32} {σ1 : mm_S} {r : Option Value × mm_H} (hd : 1 ≤ d) (h1 : (σ.1 2003) ≤ b) (kk : mm_Runs d 80 (10, [some (.ref 2), some (.int (a + (1 : Int32))), none], [], HH x σ) r) : mm_Runs d 80 (25, [some (.ref 2), some (.int a), some (.int b)], [], HH x σ) r := vx_fcb (v1 := v1) (σ1 := σ1) hd (fun _ => kk) (fun  z => absurd h1 z) (fun  z _ => absurd h1 z) (fun  z _ => absurd h1 z) (fun  z _ => absurd h1 z) (fun  z _ => absurd h1 z)
theorem vx_fcb_p1 {d : Nat} {x : Nat × (Nat → Int32)} {σ : mm_S} {a b : Int32}  {v1 : Int32} {σ1 : mm_S} {r : Option Value × mm_H} (hd : 1 ≤ d) (h1 : ¬ (σ.1 2003) ≤ b) (h2 : v1 = 0) (g1 : mm_Runs (d - 1) 5 (0, [some (.ref 28), some (.ref 13), some (.ref 20), some (.int a), some (.int b), some (.int (0 : Int32)), none, none, none, none, none, none, none, none, none, none, none, none, none, none, none], [], HH x σ) (some (.int v1), HH x σ1)) (kk : mm_Runs d 80 (25, [some (.ref 2), some (.int a), some (.int (b + (1 : Int32)))], [], HH x σ1) r) : mm_Runs d 80 (25, [some (.ref 2), some (.int a), some (.int b)], [], HH x σ) r := vx_fcb (v1 := v1) (σ1 := σ1) hd (fun  z => absurd z h1) (fun _ => g1) (fun _ _ => kk) (fun _ z => absurd h2 z) (fun _ z => absurd h2 z) (fun _ z => absurd h2 z)
theorem vx_fcb_p2 {d : Nat} {x : Nat × (Nat → Int32)} {σ : mm_S} {a b : Int32}  {v1 : Int32} {σ1 : mm_S} {r : Option Value × mm_H} (hd : 1 ≤ d) (h1 : ¬ (σ.1 2003) ≤ b) (h2 : ¬ v1 = 0) (g1 : mm_Runs (d - 1) 5 (0, [some (.ref 28), some (.ref 13), some (.ref 20), some (.int a), some (.int b), some (.int (0 : Int32)), none, none, none, none, none, none, none, none, none, none, none, none, none, none, none], [], HH x σ) (some (.int v1), HH x σ1)) (g2 : ¬ (b < 0 ∨ 6 ≤ b.toNatClampNeg)) (kk : mm_Runs d 80 (25, [some (.ref 2), some (.int a), some (.int (b + (1 : Int32)))], [], HH x (ua σ1 36 (upd (σ1.2.2.1 36) b.toNatClampNeg (((σ1.2.2.1 36) b.toNatClampNeg) ||| ((1 : Int32) <<< (a &&& 31)))))) r) : mm_Runs d 80 (25, [some (.ref 2), some (.int a), some (.int b)], [], HH x σ) r := vx_fcb (v1 := v1) (σ1 := σ1) hd (fun  z => absurd z h1) (fun _ => g1) (fun _ z => absurd z h2) (fun _ _ => g2) (fun _ _ => g2) (fun _ _ => kk)
set_option maxRecDepth 100000 in
theorem vx_pf0 {d : Nat} {x : Nat × (Nat → Int32)} {σ : mm_S} {s : Int32} {r : Option Value × mm_H} (k1 : mm_Runs d 81 (2, [some (.ref 2), some (.int s), some (.int (0 : Int32))], [], HH x σ) r) : mm_Runs d 81 (0, [some (.ref 2), some (.int s), none], [], HH x σ) r := by
  refine mm_go 2 (F' := (2, [some (.ref 2), some (.int s), some (.int (0 : Int32))], [], HH x σ)) rfl ?_
  exact mm_wk (by exact (And.intro rfl (And.intro rfl (And.intro rfl True.intro)))) k1
theorem vx_pf0_p0 {d : Nat} {x : Nat × (Nat → Int32)} {σ : mm_S} {s : Int32} {r : Option Value × mm_H}  (kk : mm_Runs d 81 (2, [some (.ref 2), some (.int s), some (.int (0 : Int32))], [], HH x σ) r) : mm_Runs d 81 (0, [some (.ref 2), some (.int s), none], [], HH x σ) r := vx_pf0 kk
set_option maxRecDepth 100000 in
theorem vx_pfh {d : Nat} {x : Nat × (Nat → Int32)} {σ : mm_S} {s w : Int32} {r : Option Value × mm_H} (k1 : (σ.1 2003) ≤ w → (some (.int (1 : Int32)), HH x σ) = r) (k2 : ¬ (σ.1 2003) ≤ w → ((s >>> (w &&& 31)) &&& (1 : Int32)) = 0 → mm_Runs d 81 (2, [some (.ref 2), some (.int s), some (.int (w + (1 : Int32)))], [], HH x σ) r) (k3 : ¬ (σ.1 2003) ≤ w → ¬ ((s >>> (w &&& 31)) &&& (1 : Int32)) = 0 → ¬ (w < 0 ∨ 6 ≤ w.toNatClampNeg)) (k4 : ¬ (σ.1 2003) ≤ w → ¬ ((s >>> (w &&& 31)) &&& (1 : Int32)) = 0 → (s &&& ((σ.2.2.1 36) w.toNatClampNeg)) = 0 → mm_Runs d 81 (2, [some (.ref 2), some (.int s), some (.int (w + (1 : Int32)))], [], HH x σ) r) (k5 : ¬ (σ.1 2003) ≤ w → ¬ ((s >>> (w &&& 31)) &&& (1 : Int32)) = 0 → ¬ (s &&& ((σ.2.2.1 36) w.toNatClampNeg)) = 0 → (some (.int (0 : Int32)), HH x σ) = r) : mm_Runs d 81 (2, [some (.ref 2), some (.int s), some (.int w)], [], HH x σ) r := by
  refine mm_go 5 (F' := (bif mm_cond .ge w (σ.1 2003) then 40 else 13, [some (.ref 2), some (.int s), some (.int w)], [], HH x σ)) rfl ?_
  refine mb_ge (fun h1 => ?_) (fun h1 => ?_)
  · refine mm_go 1 (F' := (41, [some (.ref 2), some (.int s), some (.int w)], [.int (1 : Int32)], HH x σ)) rfl ?_
    exact mm_rtz rfl rfl (Or.inr rfl) (k1 h1)
  · refine mm_go 6 (F' := (bif mm_cond .eq ((s >>> (w &&& 31)) &&& (1 : Int32)) 0 then 34 else 21, [some (.ref 2), some (.int s), some (.int w)], [], HH x σ)) rfl ?_
    refine mb_eq (fun h2 => ?_) (fun h2 => ?_)
    · refine mm_go 2 (F' := (2, [some (.ref 2), some (.int s), some (.int (w + (1 : Int32)))], [], HH x σ)) rfl ?_
      exact mm_wk (by exact (And.intro rfl (And.intro rfl (And.intro rfl True.intro)))) (k2 h1 h2)
    · refine mm_go 4 (F' := (27, [some (.ref 2), some (.int s), some (.int w)], [.int w, .ref 36, .int s], HH x σ)) rfl ?_
      refine mm_gd (F' := (28, [some (.ref 2), some (.int s), some (.int w)], [.int ((σ.2.2.1 36) w.toNatClampNeg), .int s], HH x σ)) rfl (k3 h1 h2) ?_
      refine mm_go 2 (F' := (bif mm_cond .eq (s &&& ((σ.2.2.1 36) w.toNatClampNeg)) 0 then 34 else 32, [some (.ref 2), some (.int s), some (.int w)], [], HH x σ)) rfl ?_
      refine mb_eq (fun h3 => ?_) (fun h3 => ?_)
      · refine mm_go 2 (F' := (2, [some (.ref 2), some (.int s), some (.int (w + (1 : Int32)))], [], HH x σ)) rfl ?_
        exact mm_wk (by exact (And.intro rfl (And.intro rfl (And.intro rfl True.intro)))) (k4 h1 h2 h3)
      · refine mm_go 1 (F' := (33, [some (.ref 2), some (.int s), some (.int w)], [.int (0 : Int32)], HH x σ)) rfl ?_
        exact mm_rtz rfl rfl (Or.inl rfl) (k5 h1 h2 h3)
theorem vx_pfh_p0 {d : Nat} {x : Nat × (Nat → Int32)} {σ : mm_S} {s w : Int32}  (h1 : (σ.1 2003) ≤ w) : mm_Runs d 81 (2, [some (.ref 2), some (.int s), some (.int w)], [], HH x σ) (some (.int (1 : Int32)), HH x σ) := vx_pfh (fun _ => rfl) (fun  z _ => absurd h1 z) (fun  z _ => absurd h1 z) (fun  z _ _ => absurd h1 z) (fun  z _ _ => absurd h1 z)
theorem vx_pfh_p1 {d : Nat} {x : Nat × (Nat → Int32)} {σ : mm_S} {s w : Int32} {r : Option Value × mm_H}  (h1 : ¬ (σ.1 2003) ≤ w) (h2 : ((s >>> (w &&& 31)) &&& (1 : Int32)) = 0) (kk : mm_Runs d 81 (2, [some (.ref 2), some (.int s), some (.int (w + (1 : Int32)))], [], HH x σ) r) : mm_Runs d 81 (2, [some (.ref 2), some (.int s), some (.int w)], [], HH x σ) r := vx_pfh (fun  z => absurd z h1) (fun _ _ => kk) (fun _ z => absurd h2 z) (fun _ z _ => absurd h2 z) (fun _ z _ => absurd h2 z)
theorem vx_pfh_p2 {d : Nat} {x : Nat × (Nat → Int32)} {σ : mm_S} {s w : Int32} {r : Option Value × mm_H}  (h1 : ¬ (σ.1 2003) ≤ w) (h2 : ¬ ((s >>> (w &&& 31)) &&& (1 : Int32)) = 0) (h3 : (s &&& ((σ.2.2.1 36) w.toNatClampNeg)) = 0) (g1 : ¬ (w < 0 ∨ 6 ≤ w.toNatClampNeg)) (kk : mm_Runs d 81 (2, [some (.ref 2), some (.int s), some (.int (w + (1 : Int32)))], [], HH x σ) r) : mm_Runs d 81 (2, [some (.ref 2), some (.int s), some (.int w)], [], HH x σ) r := vx_pfh (fun  z => absurd z h1) (fun _ z => absurd z h2) (fun _ _ => g1) (fun _ _ _ => kk) (fun _ _ z => absurd h3 z)
theorem vx_pfh_p3 {d : Nat} {x : Nat × (Nat → Int32)} {σ : mm_S} {s w : Int32}  (h1 : ¬ (σ.1 2003) ≤ w) (h2 : ¬ ((s >>> (w &&& 31)) &&& (1 : Int32)) = 0) (h3 : ¬ (s &&& ((σ.2.2.1 36) w.toNatClampNeg)) = 0) (g1 : ¬ (w < 0 ∨ 6 ≤ w.toNatClampNeg)) : mm_Runs d 81 (2, [some (.ref 2), some (.int s), some (.int w)], [], HH x σ) (some (.int (0 : Int32)), HH x σ) := vx_pfh (fun  z => absurd z h1) (fun _ z => absurd z h2) (fun _ _ => g1) (fun _ _ z => absurd z h3) (fun _ _ _ => rfl)
set_option maxRecDepth 100000 in
theorem vx_mt0 {d : Nat} {x : Nat × (Nat → Int32)} {σ : mm_S} {σ1 : mm_S} {r : Option Value × mm_H} (hd : 1 ≤ d) (k1 : mm_Runs (d - 1) 80 (0, [some (.ref 2), none, none], [], HH x σ) (none, HH x σ1)) (k2 : mm_Runs d 79 (8, [some (.ref 2), some (.int (0 : Int32)), some (.int (1 : Int32))], [], HH x σ1) r) : mm_Runs d 79 (0, [some (.ref 2), none, none], [], HH x σ) r := by
  refine mm_go 1 (F' := (1, [some (.ref 2), none, none], [.ref 2], HH x σ)) rfl ?_
  refine mm_kl (z := 80) (as := [.ref 2]) (S' := []) (L2 := [some (.ref 2), none, none]) (v := none) (h1 := HH x σ1) rfl rfl rfl rfl rfl (by omega) k1 ?_
  show mm_Runs d 79 (4, [some (.ref 2), none, none], [], HH x σ1) r
  refine mm_go 4 (F' := (8, [some (.ref 2), some (.int (0 : Int32)), some (.int (1 : Int32))], [], HH x σ1)) rfl ?_
  exact mm_wk (by exact (And.intro rfl (And.intro rfl (And.intro rfl True.intro)))) k2
theorem vx_mt0_p0 {d : Nat} {x : Nat × (Nat → Int32)} {σ : mm_S} {σ1 : mm_S} {r : Option Value × mm_H} (hd : 1 ≤ d) (g1 : mm_Runs (d - 1) 80 (0, [some (.ref 2), none, none], [], HH x σ) (none, HH x σ1)) (kk : mm_Runs d 79 (8, [some (.ref 2), some (.int (0 : Int32)), some (.int (1 : Int32))], [], HH x σ1) r) : mm_Runs d 79 (0, [some (.ref 2), none, none], [], HH x σ) r := vx_mt0 (σ1 := σ1) hd g1 kk
set_option maxRecDepth 100000 in
theorem vx_mth {d : Nat} {x : Nat × (Nat → Int32)} {σ : mm_S} {b s : Int32}  {v1 : Int32} {r : Option Value × mm_H} (hd : 1 ≤ d) (k1 : ((1 : Int32) <<< ((σ.1 2003) &&& 31)) ≤ s → (some (.int b), HH x σ) = r) (k2 : ¬ ((1 : Int32) <<< ((σ.1 2003) &&& 31)) ≤ s → (bc32 s) ≤ (bc32 b) → mm_Runs d 79 (8, [some (.ref 2), some (.int b), some (.int (s + (1 : Int32)))], [], HH x σ) r) (k3 : ¬ ((1 : Int32) <<< ((σ.1 2003) &&& 31)) ≤ s → ¬ (bc32 s) ≤ (bc32 b) → mm_Runs (d - 1) 81 (0, [some (.ref 2), some (.int s), none], [], HH x σ) (some (.int v1), HH x σ)) (k4 : ¬ ((1 : Int32) <<< ((σ.1 2003) &&& 31)) ≤ s → ¬ (bc32 s) ≤ (bc32 b) → v1 = 0 → mm_Runs d 79 (8, [some (.ref 2), some (.int b), some (.int (s + (1 : Int32)))], [], HH x σ) r) (k5 : ¬ ((1 : Int32) <<< ((σ.1 2003) &&& 31)) ≤ s → ¬ (bc32 s) ≤ (bc32 b) → ¬ v1 = 0 → mm_Runs d 79 (8, [some (.ref 2), some (.int s), some (.int (s + (1 : Int32)))], [], HH x σ) r) : mm_Runs d 79 (8, [some (.ref 2), some (.int b), some (.int s)], [], HH x σ) r := by
  refine mm_go 7 (F' := (bif mm_cond .ge s ((1 : Int32) <<< ((σ.1 2003) &&& 31)) then 48 else 21, [some (.ref 2), some (.int b), some (.int s)], [], HH x σ)) rfl ?_
  refine mb_ge (fun h1 => ?_) (fun h1 => ?_)
  · refine mm_go 1 (F' := (49, [some (.ref 2), some (.int b), some (.int s)], [.int b], HH x σ)) rfl ?_
    exact mm_rt rfl rfl (k1 h1)
  · refine mm_go 1 (F' := (22, [some (.ref 2), some (.int b), some (.int s)], [.int s], HH x σ)) rfl ?_
    refine mm_kl (z := 154) (as := [.int s]) (S' := []) (L2 := [some (.int s)]) (v := some (.int (bc32 s))) (h1 := HH x σ) rfl rfl rfl rfl rfl (by omega) (r_bc32 (by omega)) ?_
    show mm_Runs d 79 (25, [some (.ref 2), some (.int b), some (.int s)], [.int (bc32 s)], HH x σ) r
    refine mm_go 1 (F' := (26, [some (.ref 2), some (.int b), some (.int s)], [.int b, .int (bc32 s)], HH x σ)) rfl ?_
    refine mm_kl (z := 154) (as := [.int b]) (S' := [.int (bc32 s)]) (L2 := [some (.int b)]) (v := some (.int (bc32 b))) (h1 := HH x σ) rfl rfl rfl rfl rfl (by omega) (r_bc32 (by omega)) ?_
    show mm_Runs d 79 (29, [some (.ref 2), some (.int b), some (.int s)], [.int (bc32 b), .int (bc32 s)], HH x σ) r
    refine mm_go 1 (F' := (bif mm_cond .le (bc32 s) (bc32 b) then 42 else 32, [some (.ref 2), some (.int b), some (.int s)], [], HH x σ)) rfl ?_
    refine mb_le (fun h2 => ?_) (fun h2 => ?_)
    · refine mm_go 2 (F' := (8, [some (.ref 2), some (.int b), some (.int (s + (1 : Int32)))], [], HH x σ)) rfl ?_
      exact mm_wk (by exact (And.intro rfl (And.intro rfl (And.intro rfl True.intro)))) (k2 h1 h2)
    · refine mm_go 2 (F' := (34, [some (.ref 2), some (.int b), some (.int s)], [.int s, .ref 2], HH x σ)) rfl ?_
      refine mm_kl (z := 81) (as := [.ref 2, .int s]) (S' := []) (L2 := [some (.ref 2), some (.int s), none]) (v := some (.int v1)) (h1 := HH x σ) rfl rfl rfl rfl rfl (by omega) (k3 h1 h2) ?_
      show mm_Runs d 79 (37, [some (.ref 2), some (.int b), some (.int s)], [.int v1], HH x σ) r
      refine mm_go 1 (F' := (bif mm_cond .eq v1 0 then 42 else 40, [some (.ref 2), some (.int b), some (.int s)], [], HH x σ)) rfl ?_
      refine mb_eq (fun h3 => ?_) (fun h3 => ?_)
      · refine mm_go 2 (F' := (8, [some (.ref 2), some (.int b), some (.int (s + (1 : Int32)))], [], HH x σ)) rfl ?_
        exact mm_wk (by exact (And.intro rfl (And.intro rfl (And.intro rfl True.intro)))) (k4 h1 h2 h3)
      · refine mm_go 4 (F' := (8, [some (.ref 2), some (.int s), some (.int (s + (1 : Int32)))], [], HH x σ)) rfl ?_
        exact mm_wk (by exact (And.intro rfl (And.intro rfl (And.intro rfl True.intro)))) (k5 h1 h2 h3)
theorem vx_mth_p0 {d : Nat} {x : Nat × (Nat → Int32)} {σ : mm_S} {b s : Int32}  {v1 : Int32} (hd : 1 ≤ d) (h1 : ((1 : Int32) <<< ((σ.1 2003) &&& 31)) ≤ s) : mm_Runs d 79 (8, [some (.ref 2), some (.int b), some (.int s)], [], HH x σ) (some (.int b), HH x σ) := vx_mth (v1 := v1) hd (fun _ => rfl) (fun  z _ => absurd h1 z) (fun  z _ => absurd h1 z) (fun  z _ _ => absurd h1 z) (fun  z _ _ => absurd h1 z)
theorem vx_mth_p1 {d : Nat} {x : Nat × (Nat → Int32)} {σ : mm_S} {b s : Int32}  {v1 : Int32} {r : Option Value × mm_H} (hd : 1 ≤ d) (h1 : ¬ ((1 : Int32) <<< ((σ.1 2003) &&& 31)) ≤ s) (h2 : (bc32 s) ≤ (bc32 b)) (kk : mm_Runs d 79 (8, [some (.ref 2), some (.int b), some (.int (s + (1 : Int32)))], [], HH x σ) r) : mm_Runs d 79 (8, [some (.ref 2), some (.int b), some (.int s)], [], HH x σ) r := vx_mth (v1 := v1) hd (fun  z => absurd z h1) (fun _ _ => kk) (fun _ z => absurd h2 z) (fun _ z _ => absurd h2 z) (fun _ z _ => absurd h2 z)
theorem vx_mth_p2 {d : Nat} {x : Nat × (Nat → Int32)} {σ : mm_S} {b s : Int32}  {v1 : Int32} {r : Option Value × mm_H} (hd : 1 ≤ d) (h1 : ¬ ((1 : Int32) <<< ((σ.1 2003) &&& 31)) ≤ s) (h2 : ¬ (bc32 s) ≤ (bc32 b)) (h3 : v1 = 0) (g1 : mm_Runs (d - 1) 81 (0, [some (.ref 2), some (.int s), none], [], HH x σ) (some (.int v1), HH x σ)) (kk : mm_Runs d 79 (8, [some (.ref 2), some (.int b), some (.int (s + (1 : Int32)))], [], HH x σ) r) : mm_Runs d 79 (8, [some (.ref 2), some (.int b), some (.int s)], [], HH x σ) r := vx_mth (v1 := v1) hd (fun  z => absurd z h1) (fun _ z => absurd z h2) (fun _ _ => g1) (fun _ _ _ => kk) (fun _ _ z => absurd h3 z)
theorem vx_mth_p3 {d : Nat} {x : Nat × (Nat → Int32)} {σ : mm_S} {b s : Int32}  {v1 : Int32} {r : Option Value × mm_H} (hd : 1 ≤ d) (h1 : ¬ ((1 : Int32) <<< ((σ.1 2003) &&& 31)) ≤ s) (h2 : ¬ (bc32 s) ≤ (bc32 b)) (h3 : ¬ v1 = 0) (g1 : mm_Runs (d - 1) 81 (0, [some (.ref 2), some (.int s), none], [], HH x σ) (some (.int v1), HH x σ)) (kk : mm_Runs d 79 (8, [some (.ref 2), some (.int s), some (.int (s + (1 : Int32)))], [], HH x σ) r) : mm_Runs d 79 (8, [some (.ref 2), some (.int b), some (.int s)], [], HH x σ) r := vx_mth (v1 := v1) hd (fun  z => absurd z h1) (fun _ z => absurd z h2) (fun _ _ => g1) (fun _ _ z => absurd z h3) (fun _ _ _ => kk)
set_option maxRecDepth 100000 in
theorem vx_at {d : Nat} {x : Nat × (Nat → Int32)} {σ : mm_S} {v1 : Int32} {σ1 : mm_S} {r : Option Value × mm_H} (hd : 1 ≤ d) (k1 : mm_Runs (d - 1) 79 (0, [some (.ref 2), none, none], [], HH x σ) (some (.int v1), HH x σ1)) (k2 : (some (.int v1), HH x σ1) = r) : mm_Runs d 51 (0, [some (.ref 2)], [], HH x σ) r := by
  refine mm_go 1 (F' := (1, [some (.ref 2)], [.ref 2], HH x σ)) rfl ?_
  refine mm_kl (z := 79) (as := [.ref 2]) (S' := []) (L2 := [some (.ref 2), none, none]) (v := some (.int v1)) (h1 := HH x σ1) rfl rfl rfl rfl rfl (by omega) k1 ?_
  show mm_Runs d 51 (4, [some (.ref 2)], [.int v1], HH x σ1) r
  exact mm_rt rfl rfl k2
theorem vx_at_p0 {d : Nat} {x : Nat × (Nat → Int32)} {σ : mm_S} {v1 : Int32} {σ1 : mm_S} (hd : 1 ≤ d) (g1 : mm_Runs (d - 1) 79 (0, [some (.ref 2), none, none], [], HH x σ) (some (.int v1), HH x σ1)) : mm_Runs d 51 (0, [some (.ref 2)], [], HH x σ) (some (.int v1), HH x σ1) := vx_at (v1 := v1) (σ1 := σ1) hd g1 rfl
theorem nx_and (a b : Nat) : nI a &&& nI b = nI (a &&& b) := by
  apply Int32.toBitVec_inj.1
  show BitVec.ofNat 32 a &&& BitVec.ofNat 32 b = BitVec.ofNat 32 (a &&& b)
  apply BitVec.eq_of_getLsbD_eq
  intro i hi
  simp [hi]
theorem and_0 : ∀ s, s < 64 → ∀ m, m < 64 → ((s &&& m) = 0 ↔ ∀ a, a < 6 → ¬ (tb s a = true ∧ tb m a = true)) := by decide +kernel
theorem and_64 : ∀ s, s < 64 → ∀ m, m < 64 → (s &&& m) < 64 := by decide +kernel
theorem or_b : ∀ m, m < 64 → ∀ a, a < 6 → (nI m ||| ((1 : Int32) <<< (nI a &&& 31))) = nI (m ||| 2 ^ a) ∧ (m ||| 2 ^ a) < 64 := by decide +kernel
theorem or_t : ∀ m, m < 64 → ∀ a, a < 6 → ∀ e, e < 6 → tb (m ||| 2 ^ a) e = (tb m e || decide (e = a)) := by decide +kernel
theorem tb_00 : ∀ a, a < 6 → tb 0 a = false := by decide +kernel
def CK (P : pd_T) (kk : Nat → Int32) (cc : Nat → Nat) (pr : Nat → Nat → Prop) (C : Nat → Int32) : Prop := ∀ b, b < 6 → ∃ m, m < 64 ∧ C b = nI m ∧ ∀ a, a < 6 → (tb m a = true ↔ (pr a b ∧ pd_mt P (kk a) (cc a) (kk b) (cc b) 0))
theorem CK_cong {P : pd_T} {kk : Nat → Int32} {cc : Nat → Nat} {pr pr' : Nat → Nat → Prop} {C : Nat → Int32} (e : ∀ a b, a < 6 → b < 6 → pd_mt P (kk a) (cc a) (kk b) (cc b) 0 → (pr a b ↔ pr' a b)) (h : CK P kk cc pr C) : CK P kk cc pr' C := fun b hb => by
  obtain ⟨m, h1, h2, h3⟩ := h b hb
  refine ⟨m, h1, h2, fun a ha => (h3 a ha).trans ⟨fun z => ⟨(e a b ha hb z.2).mp z.1, z.2⟩, fun z => ⟨(e a b ha hb z.2).mpr z.1, z.2⟩⟩⟩
/-- the wishes, in the class -/
def wcs (P : pd_T) (σ : mm_S) (n : Nat) (kk : Nat → Int32) (cc : Nat → Nat) : Prop := n ≤ 6 ∧ σ.1 2003 = nI n ∧ ∀ i, i < n → wsc P σ i (kk i) (cc i)
theorem wcs_SC {P : pd_T} {σ σ' : mm_S} {n : Nat} {kk : Nat → Int32} {cc : Nat → Nat} (h : wcs P σ n kk cc) (g : SC P σ σ') : wcs P σ' n kk cc := ⟨h.1, by rw [g.1.1 2003 rfl]; exact h.2.1, fun i hi => wsc_SC (h.2.2 i hi) g⟩
theorem wi_wcs {P : pd_T} {n : Nat} {σ : mm_S} (hw : pd_wf P) (hn : pd_n P ≤ 42) (h : r_wi P n σ) : wcs P σ n (kkc σ) (ccc σ) := ⟨h.1, h.2.1, wi_cs hw hn h⟩
/-- what two rings' meeting may change -/
def SF (P : pd_T) (σ σ' : mm_S) : Prop := FR [2800, 2801] [1302] [15] [14] σ σ' ∧ r_rip P σ'
theorem SF_refl {P : pd_T} {σ : mm_S} (h : r_rip P σ) : SF P σ σ := ⟨FR_refl _ _ _ _ _, h⟩
theorem SF_trans {P : pd_T} {σ τ υ : mm_S} (h : SF P σ τ) (g : SF P τ υ) : SF P σ υ := ⟨FR_trans h.1 g.1, g.2⟩
theorem SF_LZ {P : pd_T} {σ τ : mm_S} (h : LZ P σ τ) : SF P σ τ := by
  obtain ⟨⟨y, D, R, rfl⟩, h2, h3⟩ := h
  exact ⟨FR_ub rfl (FR_ua rfl (FR_ul rfl (FR_refl _ _ _ _ _))), h2⟩
theorem ct_sub {l l' : List Nat} (h : ∀ k, l.contains k = true → l'.contains k = true) {k : Nat} (z : l'.contains k = false) : l.contains k = false := by
  cases e : l.contains k with
  | false => rfl
  | true => rw [h k e] at z; cases z
theorem SF_SC {P : pd_T} {σ τ : mm_S} (h : SF P σ τ) : SC P σ τ := by
  refine ⟨⟨fun k z => h.1.1 k (ct_sub (fun k y => ?_) z), fun k z => h.1.2.1 k z, fun k z => h.1.2.2.1 k (ct_sub (fun k y => ?_) z), fun k z => h.1.2.2.2 k (ct_sub (fun k y => ?_) z)⟩, h.2⟩
  · simp only [List.contains_cons, List.contains_nil, Bool.or_false, Bool.or_eq_true] at y ⊢
    rcases y with y | y <;> simp [y]
  · simp only [List.contains_cons, List.contains_nil, Bool.or_false, Bool.or_eq_true] at y ⊢
    simp [y]
  · simp only [List.contains_cons, List.contains_nil, Bool.or_false, Bool.or_eq_true] at y ⊢
    simp [y]
section TWF
variable {d : Nat} {x : Nat × (Nat → Int32)} {P : pd_T} {σ : mm_S}
theorem c_twf_h {k1 k2 : Int32} {c1 c2 g el ll : Nat} (hd : 2 ≤ d) (h : LK P σ) (w1 : P.2.2 c1 = true) (w2 : P.2.2 c2 = true) (l1 : rgl P σ k1 c1 el) (l2 : rgl P σ k2 c2 ll) (hg : g ≤ 200) : ∀ (j t : Nat), t + j = 43 → (∀ t', t' < t → ∀ b, ¬ mw P k1 c1 k2 c2 g t' b) →
    ∃ (v : Int32) (σ' : mm_S), mm_Runs d 5 (47, [some (.ref 28), some (.ref 13), none, none, none, some (.int (nI g)), some (.int (nI c1)), some (.int (nI c2)), some (.int (nI el)), some (.int (nI ll)), some (.int (nI t)), none, none, none, none, none, none, none, none, none, none], [], HH x σ) (some (.int v), HH x σ') ∧ SF P σ σ' ∧ tw_r P k1 c1 k2 c2 g v σ'
  | 0, t, ht, hf => by
    have hL := l2.1.1
    refine ⟨0, σ, vx_twoh_p0 hd (nI_le (by omega) (by omega)), SF_refl h.2.2, Or.inl ⟨rfl, fun t' b z => ?_⟩⟩
    have := mw_L2 l2.1 z
    exact hf t' (by omega) b z
  | j + 1, t, ht, hf => by
    have hL1 := l1.1.1
    have hL2 := l2.1.1
    have hn := pc_n42 h.1
    have hc1 := pc_wf h.1 c1 w1
    have hc2 := pc_wf h.1 c2 w2
    rcases Nat.lt_or_ge t ll with q1 | q1
    · rcases Nat.lt_or_ge (t + g) el with q2 | q2
      · have n1 : ¬ (nI ll) ≤ (nI t) := nI_ge q1 (by omega)
        have n2 : ¬ (nI el) ≤ ((nI t) + (nI g)) := by rw [nI_add]; exact nI_ge q2 (by omega)
        have bA := fun (s : Nat) (hs : s < 2 ^ 20) (b : Nat) => ringAt_bt (t := s) h w1 l1 hs b
        have bB := fun (s : Nat) (hs : s < 2 ^ 20) (b : Nat) => ringAt_bt (t := s) h w2 l2 hs b
        have g1 : (p_has_13 σ (nI c1)) → ¬ ((nI t) + (nI g)) < 0 → ¬ (nI el) ≤ ((nI t) + (nI g)) → ¬ ((((nI c1) * (42 : Int32)) + ((nI t) + (nI g))) < 0 ∨ 1764 ≤ (((nI c1) * (42 : Int32)) + ((nI t) + (nI g))).toNatClampNeg) := fun _ _ z => by
          rw [nI_add] at z ⊢; exact ring_g (by omega) hL1 z (by omega)
        have g2 : (p_has_13 σ (nI c2)) → ¬ (nI t) < 0 → ¬ (nI ll) ≤ (nI t) → ¬ ((((nI c2) * (42 : Int32)) + (nI t)) < 0 ∨ 1764 ≤ (((nI c2) * (42 : Int32)) + (nI t)).toNatClampNeg) := fun _ _ z => ring_g (by omega) hL2 z (by omega)
        by_cases qm : ((f_ringAt σ (nI c1) (nI el) ((nI t) + (nI g))) &&& (f_ringAt σ (nI c2) (nI ll) (nI t))) = (0 : Int64)
        · have no : ∀ b, ¬ ow P k1 c1 k2 c2 g t b := fun b z => by
            have e := bt_zero.mp qm b
            rw [bt_and, nI_add, bA _ (by omega), bB _ (by omega), z.1, z.2] at e
            cases e
          have g3 : (p_has_13 σ (nI c1)) → ¬ (((nI t) + (nI g)) + (1 : Int32)) < 0 → ¬ (nI el) ≤ (((nI t) + (nI g)) + (1 : Int32)) → ¬ ((((nI c1) * (42 : Int32)) + (((nI t) + (nI g)) + (1 : Int32))) < 0 ∨ 1764 ≤ (((nI c1) * (42 : Int32)) + (((nI t) + (nI g)) + (1 : Int32))).toNatClampNeg) := fun _ _ z => by
            rw [nI_add, nI_1] at z ⊢; exact ring_g (by omega) hL1 z (by omega)
          have g4 : (p_has_13 σ (nI c2)) → ¬ ((nI t) + (1 : Int32)) < 0 → ¬ (nI ll) ≤ ((nI t) + (1 : Int32)) → ¬ ((((nI c2) * (42 : Int32)) + ((nI t) + (1 : Int32))) < 0 ∨ 1764 ≤ (((nI c2) * (42 : Int32)) + ((nI t) + (1 : Int32))).toNatClampNeg) := fun _ _ z => by
            rw [nI_1] at z ⊢; exact ring_g (by omega) hL2 z (by omega)
          have lb := fun (b : Nat) => lesser_bt (b := b) (u := (f_ringAt σ (nI c1) (nI el) ((nI t) + (nI g))) &&& (f_ringAt σ (nI c2) (nI ll) ((nI t) + (1 : Int32)))) (v := (f_ringAt σ (nI c2) (nI ll) (nI t)) &&& (f_ringAt σ (nI c1) (nI el) (((nI t) + (nI g)) + (1 : Int32)))) h (fun b z => by
            rw [bt_and, nI_add, bA _ (by omega), Bool.and_eq_true] at z; exact pc_wf h.1 b (th_wat z.1)) (fun b z => by
            rw [bt_and, bB _ (by omega), Bool.and_eq_true] at z; exact pc_wf h.1 b (th_wat z.1))
          have lp : ∀ b, bt (f_lesserBeside σ ((f_ringAt σ (nI c1) (nI el) ((nI t) + (nI g))) &&& (f_ringAt σ (nI c2) (nI ll) ((nI t) + (1 : Int32)))) ((f_ringAt σ (nI c2) (nI ll) (nI t)) &&& (f_ringAt σ (nI c1) (nI el) (((nI t) + (nI g)) + (1 : Int32))))) b = true ↔ mw P k1 c1 k2 c2 g t b := fun b => by
            rw [lb b]
            simp only [bt_and, nI_add, nI_1, bA (t + g) (by omega), bA (t + g + 1) (by omega), bB t (by omega), bB (t + 1) (by omega), Bool.and_eq_true]
            exact ⟨fun z => Or.inr ⟨no, z⟩, fun z => z.elim (fun y => absurd y (no b)) (fun y => y.2)⟩
          by_cases qp : (f_lesserBeside σ ((f_ringAt σ (nI c1) (nI el) ((nI t) + (nI g))) &&& (f_ringAt σ (nI c2) (nI ll) ((nI t) + (1 : Int32)))) ((f_ringAt σ (nI c2) (nI ll) (nI t)) &&& (f_ringAt σ (nI c1) (nI el) (((nI t) + (nI g)) + (1 : Int32))))) = (0 : Int64)
          · obtain ⟨v, σ', r1, r2, r3⟩ := c_twf_h hd h w1 w2 l1 l2 hg j (t + 1) (by omega) (fun t' z b y => by
              rcases Nat.lt_or_ge t' t with q | q
              · exact hf t' q b y
              · rw [show t' = t by omega] at y
                have := (lp b).mpr y
                rw [bt_zero.mp qp b] at this
                cases this)
            exact ⟨v, σ', vx_twoh_p3 hd n1 n2 qm qp g1 g2 g3 g4 (by rw [nI_1]; exact r1), r2, r3⟩
          · obtain ⟨i, i1, i2, i3, i4⟩ := low_ex qp
            refine ⟨1, _, vx_twoh_p4 hd n1 n2 qm qp g1 g2 g3 g4, ⟨FR_ui rfl (FR_ui rfl (FR_refl _ _ _ _ _)), h.2.2⟩, Or.inr ⟨rfl, t, i, by omega, ⟨(lp i).mp i3, fun b' z => ?_, hf⟩, nI_add t g, i2⟩⟩
            rcases Nat.lt_or_ge b' i with q | q
            · have := i4 b' q
              rw [(lp b').mpr z] at this; cases this
            · exact q
        · have lo : ∀ b, bt ((f_ringAt σ (nI c1) (nI el) ((nI t) + (nI g))) &&& (f_ringAt σ (nI c2) (nI ll) (nI t))) b = true ↔ ow P k1 c1 k2 c2 g t b := fun b => by
            rw [bt_and, nI_add, bA _ (by omega), bB _ (by omega), Bool.and_eq_true]; exact Iff.rfl
          obtain ⟨i, i1, i2, i3, i4⟩ := low_ex qm
          refine ⟨1, _, vx_twoh_p2 hd n1 n2 qm g1 g2, ⟨FR_ui rfl (FR_ui rfl (FR_refl _ _ _ _ _)), h.2.2⟩, Or.inr ⟨rfl, t, i, by omega, ⟨Or.inl ((lo i).mp i3), fun b' z => ?_, hf⟩, nI_add t g, i2⟩⟩
          rcases z with z | z
          · rcases Nat.lt_or_ge b' i with q | q
            · have := i4 b' q
              rw [(lo b').mpr z] at this; cases this
            · exact q
          · exact absurd ((lo i).mp i3) (z.1 i)
      · refine ⟨0, σ, vx_twoh_p1 hd (nI_ge q1 (by omega)) (by rw [nI_add]; exact nI_le q2 (by omega)), SF_refl h.2.2, Or.inl ⟨rfl, fun t' b z => ?_⟩⟩
        have := mw_L1 l1.1 z
        exact hf t' (by omega) b z
    · refine ⟨0, σ, vx_twoh_p0 hd (nI_le q1 (by omega)), SF_refl h.2.2, Or.inl ⟨rfl, fun t' b z => ?_⟩⟩
      have := mw_L2 l2.1 z
      exact hf t' (by omega) b z
theorem c_twf20 {k1 k2 : Int32} {a b c1 c2 g : Nat} (hd : 3 ≤ d) (h : LK P σ) (ha : a < 6) (hb : b < 6) (e1 : σ.2.2.1 21 a = k1) (e2 : σ.2.2.1 22 a = nI c1) (e3 : σ.2.2.1 21 b = k2) (e4 : σ.2.2.1 22 b = nI c2) (hk1 : kd k1) (hk2 : kd k2) (w1 : P.2.2 c1 = true) (w2 : P.2.2 c2 = true) (hg : g ≤ 200) :
    ∃ (v : Int32) (σ' : mm_S), mm_Runs d 5 (0, [some (.ref 28), some (.ref 13), some (.ref 20), some (.int (nI a)), some (.int (nI b)), some (.int (nI g)), none, none, none, none, none, none, none, none, none, none, none, none, none, none, none], [], HH x σ) (some (.int v), HH x σ') ∧ SF P σ σ' ∧ tw_r P k1 c1 k2 c2 g v σ' := by
  have ca : (nI a).toNatClampNeg = a := nI_clamp (by omega)
  have cb : (nI b).toNatClampNeg = b := nI_clamp (by omega)
  obtain ⟨L1, σ1, s1, s2, s3, s4⟩ := c_lastr (d := d - 1) (x := x) (by omega) h w1 (rc_99 k1)
  have h1 := LK_of h s2
  obtain ⟨L2, σ2, t1, t2, t3, t4⟩ := c_lastr (d := d - 1) (x := x) (by omega) h1 w2 (rc_99 k2)
  have h2 := LK_of h1 t2
  have f1 := (SF_LZ s2).1
  obtain ⟨v, σ', u1, u2, u3⟩ := c_twf_h (d := d) (x := x) (g := g) (by omega) h2 w1 w2 (rgl_of s3 h2 (t2.2.2 _ s4)) (rgl_of t3 h2 t4) hg 43 0 (by omega) (fun t' z => absurd z (by omega))
  have e3' : σ1.2.2.1 21 b = k2 := by rw [f1.2.2.1 21 rfl]; exact e3
  refine ⟨v, σ', vx_two20_p0 (v1 := nI L1) (v2 := nI L2) (σ1 := σ1) (σ2 := σ2) (by omega) (nI_in ha (by omega)) (nI_in hb (by omega)) ?_ ?_ ?_ ?_ ?_, SF_trans (SF_LZ s2) (SF_trans (SF_LZ t2) u2), u3⟩
  · rw [ca, e1]; exact kd_g hk1
  · unfold f_reach_20
    rw [ca, e1, e2, rch_eq hk1]; exact s1
  · rw [cb, e3']; exact kd_g hk2
  · unfold f_reach_20
    rw [cb, e3', e4, rch_eq hk2]; exact t1
  · rw [ca, cb, e2, e4]; exact u1
end TWF
section FC
variable {d : Nat} {x : Nat × (Nat → Int32)} {P : pd_T} {σ0 : mm_S} {kk : Nat → Int32} {cc : Nat → Nat} {n : Nat}
theorem c_fc_b {a : Nat} (hd : 4 ≤ d) (h0 : LK P σ0) (hw : wcs P σ0 n kk cc) (ha : a < n) : ∀ (i b : Nat), b + i = n → a < b → ∀ σ, SC P σ0 σ → CK P kk cc (fun a' b' => a' < b' ∧ b' < n ∧ (a' < a ∨ (a' = a ∧ b' < b))) (σ.2.2.1 36) → ∃ σ', SC P σ0 σ' ∧ CK P kk cc (fun a' b' => a' < b' ∧ b' < n ∧ a' < a + 1) (σ'.2.2.1 36) ∧ ∀ r, mm_Runs d 80 (10, [some (.ref 2), some (.int (nI (a + 1))), none], [], HH x σ') r → mm_Runs d 80 (25, [some (.ref 2), some (.int (nI a)), some (.int (nI b))], [], HH x σ) r
  | 0, b, h, hab, σ, hs, hC => by
    have h6 := hw.1
    exact ⟨σ, hs, CK_cong (fun a' b' _ _ _ => ⟨fun z => ⟨z.1, z.2.1, by omega⟩, fun z => ⟨z.1, z.2.1, by omega⟩⟩) hC, fun r k => vx_fcb_p0 (v1 := 0) (σ1 := σ) (by omega) (by rw [(wcs_SC hw hs).2.1]; exact nI_le (by omega) (by omega)) (by rw [nI_1]; exact k)⟩
  | i + 1, b, h, hab, σ, hs, hC => by
    have h6 := hw.1
    have hw' := wcs_SC hw hs
    have nb : ¬ (σ.1 2003) ≤ nI b := by rw [hw'.2.1]; exact nI_ge (by omega) (by omega)
    obtain ⟨a0, a1, a2, a3, a4⟩ := hw'.2.2 a ha
    obtain ⟨b0, b1, b2, b3, b4⟩ := hw'.2.2 b (by omega)
    obtain ⟨v, σ1, r1, r2, r3⟩ := c_twf20 (d := d - 1) (x := x) (g := 0) (by omega) (LK_SC h0 hs) a0 b0 a2 a3 b2 b3 a1 b1 a4 b4 (by omega)
    have hs1 := SC_trans hs (SF_SC r2)
    have keep36 : σ1.2.2.1 36 = σ.2.2.1 36 := r2.1.2.2.1 36 rfl
    rcases tw_mt r3 with ⟨rfl, r4⟩ | ⟨rfl, r4⟩
    · obtain ⟨σ', t1, t2, t3⟩ := c_fc_b hd h0 hw ha i (b + 1) (by omega) (by omega) σ1 hs1 (by
        rw [keep36]
        refine CK_cong (fun a' b' _ _ hm => ⟨fun z => ⟨z.1, z.2.1, by omega⟩, fun z => ⟨z.1, z.2.1, ?_⟩⟩) hC
        rcases Nat.lt_or_ge a' a with q | q
        · exact Or.inl q
        · rcases Nat.lt_or_ge b' b with q2 | q2
          · exact Or.inr ⟨by omega, q2⟩
          · exfalso
            have e1 : a' = a := by omega
            have e2 : b' = b := by omega
            subst e1; subst e2
            exact r4 hm)
      exact ⟨σ', t1, t2, fun r k => vx_fcb_p1 (v1 := 0) (σ1 := σ1) (by omega) nb rfl r1 (by rw [nI_1]; exact t3 r k)⟩
    · obtain ⟨m, m1, m2, m3⟩ := hC b b0
      obtain ⟨o1, o2⟩ := or_b m m1 a a0
      have cb : (nI b).toNatClampNeg = b := nI_clamp (by omega)
      obtain ⟨σ', t1, t2, t3⟩ := c_fc_b hd h0 hw ha i (b + 1) (by omega) (by omega) (ua σ1 36 (upd (σ1.2.2.1 36) b (nI (m ||| 2 ^ a)))) ⟨FR_ua rfl hs1.1, hs1.2⟩ (by
        show CK P kk cc _ (upd (σ1.2.2.1 36) b (nI (m ||| 2 ^ a)))
        rw [keep36]
        intro b' hb'
        by_cases e : b' = b
        · subst e
          refine ⟨m ||| 2 ^ a, o2, pk_us, fun a' ha' => ?_⟩
          rw [or_t m m1 a a0 a' ha', Bool.or_eq_true, m3 a' ha', decide_eq_true_eq]
          constructor
          · rintro (z | rfl)
            · exact ⟨⟨z.1.1, z.1.2.1, by omega⟩, z.2⟩
            · exact ⟨⟨hab, by omega, Or.inr ⟨rfl, by omega⟩⟩, r4⟩
          · rintro ⟨⟨z1, z2, z3⟩, z4⟩
            rcases Nat.lt_or_ge a' a with q | q
            · exact Or.inl ⟨⟨z1, z2, Or.inl q⟩, z4⟩
            · exact Or.inr (by omega)
        · rw [pk_un e]
          obtain ⟨m', p1, p2, p3⟩ := hC b' hb'
          refine ⟨m', p1, p2, fun a' ha' => (p3 a' ha').trans ⟨fun z => ⟨⟨z.1.1, z.1.2.1, by omega⟩, z.2⟩, fun z => ⟨⟨z.1.1, z.1.2.1, by omega⟩, z.2⟩⟩⟩)
      refine ⟨σ', t1, t2, fun r k => vx_fcb_p2 (v1 := 1) (σ1 := σ1) (by omega) nb (by decide) r1 (nI_in b0 (by omega)) ?_⟩
      rw [nI_1, cb, show σ1.2.2.1 36 b = nI m by rw [keep36]; exact m2, o1]
      exact t3 r k
theorem c_fc_a (hd : 4 ≤ d) (h0 : LK P σ0) (hw : wcs P σ0 n kk cc) : ∀ (i a : Nat), a + i = n → ∀ σ, SC P σ0 σ → CK P kk cc (fun a' b' => a' < b' ∧ b' < n ∧ a' < a) (σ.2.2.1 36) → ∃ σ', mm_Runs d 80 (10, [some (.ref 2), some (.int (nI a)), none], [], HH x σ) (none, HH x σ') ∧ SC P σ0 σ' ∧ CK P kk cc (fun a' b' => a' < b' ∧ b' < n) (σ'.2.2.1 36)
  | 0, a, h, σ, hs, hC => by
    have h6 := hw.1
    exact ⟨σ, vx_fca_p0 (by rw [(wcs_SC hw hs).2.1]; exact nI_le (by omega) (by omega)), hs, CK_cong (fun a' b' _ _ _ => ⟨fun z => ⟨z.1, z.2.1⟩, fun z => ⟨z.1, z.2, by omega⟩⟩) hC⟩
  | i + 1, a, h, σ, hs, hC => by
    have h6 := hw.1
    obtain ⟨σ1, t1, t2, t3⟩ := c_fc_b (d := d) (x := x) hd h0 hw (show a < n by omega) (n - (a + 1)) (a + 1) (by omega) (by omega) σ hs (CK_cong (fun a' b' _ _ _ => ⟨fun z => ⟨z.1, z.2.1, Or.inl z.2.2⟩, fun z => ⟨z.1, z.2.1, by omega⟩⟩) hC)
    obtain ⟨σ', u1, u2, u3⟩ := c_fc_a hd h0 hw i (a + 1) (by omega) σ1 t1 t2
    exact ⟨σ', vx_fca_p1 (by rw [(wcs_SC hw hs).2.1]; exact nI_ge (by omega) (by omega)) (by rw [nI_1]; exact t3 _ u1), u2, u3⟩
theorem c_pf {σ : mm_S} {s : Nat} (hw : wcs P σ n kk cc) (hC : CK P kk cc (fun a' b' => a' < b' ∧ b' < n) (σ.2.2.1 36)) (hs : s < 64) : ∀ (i w : Nat), w + i = n → (∀ a b, a < b → b < w → tb s a = true → tb s b = true → ¬ pd_mt P (kk a) (cc a) (kk b) (cc b) 0) → mm_Runs d 81 (2, [some (.ref 2), some (.int (nI s)), some (.int (nI w))], [], HH x σ) (some (.int (bI (dcd (pfs P kk cc n s)))), HH x σ)
  | 0, w, h, hb => by
    have h6 := hw.1
    have e : w = n := by omega
    subst e
    rw [dcd_t (show pfs P kk cc w s from hb)]
    exact vx_pfh_p0 (by rw [hw.2.1]; exact nI_le (by omega) (by omega))
  | i + 1, w, h, hb => by
    have h6 := hw.1
    have nw : ¬ (σ.1 2003) ≤ nI w := by rw [hw.2.1]; exact nI_ge (by omega) (by omega)
    have cw : (nI w).toNatClampNeg = w := nI_clamp (by omega)
    by_cases z : tb s w = true
    · have z1 : ¬ ((nI s >>> (nI w &&& 31)) &&& 1) = (0 : Int32) := fun y => by rw [(tb_0 hs (by omega)).mp y] at z; cases z
      obtain ⟨m, m1, m2, m3⟩ := hC w (by omega)
      have e0 : (nI s &&& σ.2.2.1 36 (nI w).toNatClampNeg) = 0 ↔ ∀ a, a < 6 → ¬ (tb s a = true ∧ tb m a = true) := by
        rw [cw, m2, nx_and]
        have l64 := and_64 s hs m m1
        rw [← and_0 s hs m m1]
        exact ⟨fun y => (nI_eq (b := 0) (by omega) (by omega)).mp y, fun y => by rw [y]; rfl⟩
      by_cases y : (nI s &&& σ.2.2.1 36 (nI w).toNatClampNeg) = 0
      · refine vx_pfh_p2 nw z1 y (nI_in (by omega) (by omega)) ?_
        rw [nI_1]
        refine c_pf hw hC hs i (w + 1) (by omega) (fun a b q1 q2 q3 q4 q5 => ?_)
        rcases Nat.lt_or_ge b w with q | q
        · exact hb a b q1 q q3 q4 q5
        · have e : b = w := by omega
          subst e
          exact e0.mp y a (by omega) ⟨q3, (m3 a (by omega)).mpr ⟨⟨q1, by omega⟩, q5⟩⟩
      · rw [dcd_f (show ¬ pfs P kk cc n s from fun q => y (e0.mpr (fun a ha q2 => by
          obtain ⟨⟨q3, q4⟩, q5⟩ := (m3 a ha).mp q2.2
          exact q a w q3 q4 q2.1 z q5)))]
        exact vx_pfh_p3 nw z1 y (nI_in (by omega) (by omega))
    · have z1 : ((nI s >>> (nI w &&& 31)) &&& 1) = (0 : Int32) := (tb_0 hs (by omega)).mpr (by cases hh : tb s w with | false => rfl | true => exact absurd hh z)
      refine vx_pfh_p1 nw z1 ?_
      rw [nI_1]
      refine c_pf hw hC hs i (w + 1) (by omega) (fun a b q1 q2 q3 q4 => ?_)
      rcases Nat.lt_or_ge b w with q | q
      · exact hb a b q1 q q3 q4
      · rw [show b = w by omega] at q4; exact absurd q4 z
theorem c_mt_h {σ : mm_S} (hd : 1 ≤ d) (hw : wcs P σ n kk cc) (hC : CK P kk cc (fun a' b' => a' < b' ∧ b' < n) (σ.2.2.1 36)) : ∀ (k s b : Nat), s + k = 2 ^ n → b < 64 → mm_Runs d 79 (8, [some (.ref 2), some (.int (nI b)), some (.int (nI s))], [], HH x σ) (some (.int (nI (bestS (fun s => dcd (pfs P kk cc n s)) k s b))), HH x σ)
  | 0, s, b, h, hb => by
    have h6 := hw.1
    have h64 := p2_64 h6
    refine vx_mth_p0 (v1 := 0) (by omega) ?_
    rw [hw.2.1, pw2 n (by omega)]
    exact nI_le (by omega) (by omega)
  | k + 1, s, b, h, hb => by
    have h6 := hw.1
    have h64 := p2_64 h6
    have ns : ¬ ((1 : Int32) <<< ((σ.1 2003) &&& 31)) ≤ nI s := by
      rw [hw.2.1, pw2 n (by omega)]
      exact nI_ge (by omega) (by omega)
    have t3 := vx_pf0_p0 (c_pf (d := d - 1) (x := x) hw hC (s := s) (by omega) n 0 (by omega) (fun a' b' _ z => absurd z (by omega)))
    have p64 : ∀ s, s < 64 → pc6 s < 7 := by decide +kernel
    have q1 := p64 s (by omega)
    have q2 := p64 b hb
    show mm_Runs d 79 _ (some (.int (nI (bestS (fun s => dcd (pfs P kk cc n s)) k (s + 1) (if pc6 b < pc6 s ∧ dcd (pfs P kk cc n s) = true then s else b)))), HH x σ)
    rcases Nat.lt_or_ge (pc6 b) (pc6 s) with z | z
    · have nl : ¬ bc32 (nI s) ≤ bc32 (nI b) := by rw [bc32_6 s (by omega), bc32_6 b hb]; exact nI_ge z (by omega)
      cases hv : dcd (pfs P kk cc n s) with
      | false =>
        rw [hv] at t3
        rw [if_neg (fun y => absurd y.2 (by simp))]
        exact vx_mth_p2 (v1 := 0) (by omega) ns nl rfl t3 (by rw [nI_1]; exact c_mt_h hd hw hC k (s + 1) b (by omega) hb)
      | true =>
        rw [hv] at t3
        rw [if_pos ⟨z, rfl⟩]
        exact vx_mth_p3 (v1 := 1) (by omega) ns nl (by decide) t3 (by rw [nI_1]; exact c_mt_h hd hw hC k (s + 1) s (by omega) (by omega))
    · rw [if_neg (fun y => absurd y.1 (by omega))]
      exact vx_mth_p1 (v1 := 0) (by omega) ns (by rw [bc32_6 s (by omega), bc32_6 b hb]; exact nI_le z (by omega)) (by rw [nI_1]; exact c_mt_h hd hw hC k (s + 1) b (by omega) hb)
theorem c_most (hd : 6 ≤ d) (h0 : LK P σ0) (hw : wcs P σ0 n kk cc) : ∃ σ', mm_Runs d 79 (0, [some (.ref 2), none, none], [], HH x σ0) (some (.int (nI (mostS P kk cc n))), HH x σ') ∧ SC P σ0 σ' := by
  have h6 := hw.1
  have h1 : 1 ≤ 2 ^ n := Nat.one_le_two_pow
  obtain ⟨σ1, r1, r2, r3⟩ := c_fc_a (d := d - 1) (x := x) (by omega) h0 hw n 0 (by omega) (ua σ0 36 (fl 6 (0 : Int32) (σ0.2.2.1 36))) ⟨FR_ua rfl (FR_refl _ _ _ _ _), h0.2.2⟩ (fun b hb => ⟨0, by omega, by
    show fl 6 (0 : Int32) (σ0.2.2.1 36) b = nI 0
    unfold fl; rw [if_pos hb]; rfl, fun a ha => by rw [tb_00 a ha]; exact ⟨fun z => absurd z (by simp), fun z => absurd z.1.2.2 (by omega)⟩⟩)
  exact ⟨σ1, vx_mt0_p0 (σ1 := σ1) (by omega) (vx_fc0_p0 (by omega) r1) (c_mt_h (d := d) (x := x) (by omega) (wcs_SC hw r2) r3 (2 ^ n - 1) 1 0 (by omega) (by omega)), r2⟩
end FC
theorem op_atOnce : opI Rel i_X6_atOnce i_X7_atOnce 0 := by
  intro x σ as h hr
  have e : as = [] := List.length_eq_zero_iff.mp h
  subst e
  obtain ⟨P, ns, nw, nr, hr⟩ := rel_RP.mp hr
  have hwf := pond_wf (RP_p hr)
  have hn := pd_n42 (RP_p hr)
  obtain ⟨σ1, r1, r2⟩ := c_most (d := 998) (x := x) (by omega) (RP_lk hr) (wi_wcs hwf hn (RP_wi hr))
  have hr1 := RP_SC hr r2
  obtain ⟨D, g1⟩ := m_most (d := 998) (x := x) (by omega) (RP_pm hr1) (RP_wy hr1) (wi_ms hwf hn (RP_wi hr1))
  have ek : kkc σ1 = kkc σ := r2.1.2.2.1 21 rfl
  have ec : ccc σ1 = ccc σ := by unfold ccc; rw [r2.1.2.2.1 22 rfl]
  rw [ek, ec] at g1
  exact ⟨_, σ1, ua σ1 49 D, vx_at_p0 (σ1 := σ1) (by decide) r1, vx_m_at_p0 (σ1 := ua σ1 49 D) (by decide) g1, RP_rel (RP_SC hr1 ⟨FR_ua rfl (FR_refl _ _ _ _ _), r2.2⟩)⟩

