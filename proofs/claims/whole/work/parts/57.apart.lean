/-! apart; at once, in the model (written by wip/whole/t57.py) -/
set_option maxRecDepth 100000 in
theorem vx_lg {d : Nat} {x : Nat × (Nat → Int32)} {σ : mm_S} {i j : Int32} {r : Option Value × mm_H} (hd : 2 ≤ d) (k1 : ¬ (((i * (6 : Int32)) + j) < 0 ∨ 36 ≤ ((i * (6 : Int32)) + j).toNatClampNeg)) (k2 : (some (.int (lowb (((σ.2.2.2 30) ((i * (6 : Int32)) + j).toNatClampNeg) ^^^ (-1 : Int64)))), HH x σ) = r) : mm_Runs d 26 (0, [some (.ref 29), some (.int i), some (.int j)], [], HH x σ) r := by
  refine mm_go 7 (F' := (10, [some (.ref 29), some (.int i), some (.int j)], [.int ((i * (6 : Int32)) + j), .ref 30], HH x σ)) rfl ?_
  refine mm_gd (F' := (11, [some (.ref 29), some (.int i), some (.int j)], [.long ((σ.2.2.2 30) ((i * (6 : Int32)) + j).toNatClampNeg)], HH x σ)) rfl k1 ?_
  refine mm_go 2 (F' := (15, [some (.ref 29), some (.int i), some (.int j)], [.long (((σ.2.2.2 30) ((i * (6 : Int32)) + j).toNatClampNeg) ^^^ (-1 : Int64))], HH x σ)) rfl ?_
  refine mm_kl (z := 75) (as := [.long (((σ.2.2.2 30) ((i * (6 : Int32)) + j).toNatClampNeg) ^^^ (-1 : Int64))]) (S' := []) (L2 := [some (.long (((σ.2.2.2 30) ((i * (6 : Int32)) + j).toNatClampNeg) ^^^ (-1 : Int64))), none]) (v := some (.int (lowb (((σ.2.2.2 30) ((i * (6 : Int32)) + j).toNatClampNeg) ^^^ (-1 : Int64))))) (h1 := HH x σ) rfl rfl rfl rfl rfl (by omega) (r_low (by omega)) ?_
  show mm_Runs d 26 (18, [some (.ref 29), some (.int i), some (.int j)], [.int (lowb (((σ.2.2.2 30) ((i * (6 : Int32)) + j).toNatClampNeg) ^^^ (-1 : Int64)))], HH x σ) r
  exact mm_rt rfl rfl k2
theorem vx_lg_p0 {d : Nat} {x : Nat × (Nat → Int32)} {σ : mm_S} {i j : Int32} (hd : 2 ≤ d) (g1 : ¬ (((i * (6 : Int32)) + j) < 0 ∨ 36 ≤ ((i * (6 : Int32)) + j).toNatClampNeg)) : mm_Runs d 26 (0, [some (.ref 29), some (.int i), some (.int j)], [], HH x σ) (some (.int (lowb (((σ.2.2.2 30) ((i * (6 : Int32)) + j).toNatClampNeg) ^^^ (-1 : Int64)))), HH x σ) := vx_lg hd g1 rfl
set_option maxRecDepth 100000 in
theorem vx_apart {d : Nat} {x : Nat × (Nat → Int32)} {σ : mm_S} {a b : Int32}  {v1 : Int32} {r : Option Value × mm_H} (hd : 1 ≤ d) (k1 : ¬ (p_has_20 σ a) → (some (.int (-1 : Int32)), HH x σ) = r) (k2 : (p_has_20 σ a) → ¬ (p_has_20 σ b) → (some (.int (-1 : Int32)), HH x σ) = r) (k3 : (p_has_20 σ a) → (p_has_20 σ b) → ¬ a = b → mm_Runs (d - 1) 26 (0, [some (.ref 29), some (.int a), some (.int b)], [], HH x σ) (some (.int v1), HH x σ)) (k4 : (p_has_20 σ a) → (p_has_20 σ b) → ¬ a = b → (some (.int v1), HH x σ) = r) (k5 : (p_has_20 σ a) → (p_has_20 σ b) → a = b → (some (.int (-1 : Int32)), HH x σ) = r) : mm_Runs d 50 (0, [some (.ref 2), some (.int a), some (.int b)], [], HH x σ) r := by
  refine mm_go 3 (F' := (5, [some (.ref 2), some (.int a), some (.int b)], [.int a, .ref 20], HH x σ)) rfl ?_
  refine mm_kl (z := 0) (as := [.ref 20, .int a]) (S' := []) (L2 := [some (.ref 20), some (.int a)]) (v := some (.int (mm_b (p_has_20 σ a)))) (h1 := HH x σ) rfl rfl rfl rfl rfl (by omega) (r_has_20 (by omega)) ?_
  show mm_Runs d 50 (8, [some (.ref 2), some (.int a), some (.int b)], [.int (mm_b (p_has_20 σ a))], HH x σ) r
  refine mm_go 1 (F' := (bif mm_cond .eq (mm_b (p_has_20 σ a)) 0 then 27 else 11, [some (.ref 2), some (.int a), some (.int b)], [], HH x σ)) rfl ?_
  refine mb_beq (fun h1 => ?_) (fun h1 => ?_)
  · refine mm_go 1 (F' := (28, [some (.ref 2), some (.int a), some (.int b)], [.int (-1 : Int32)], HH x σ)) rfl ?_
    exact mm_rt rfl rfl (k1 h1)
  · refine mm_go 3 (F' := (16, [some (.ref 2), some (.int a), some (.int b)], [.int b, .ref 20], HH x σ)) rfl ?_
    refine mm_kl (z := 0) (as := [.ref 20, .int b]) (S' := []) (L2 := [some (.ref 20), some (.int b)]) (v := some (.int (mm_b (p_has_20 σ b)))) (h1 := HH x σ) rfl rfl rfl rfl rfl (by omega) (r_has_20 (by omega)) ?_
    show mm_Runs d 50 (19, [some (.ref 2), some (.int a), some (.int b)], [.int (mm_b (p_has_20 σ b))], HH x σ) r
    refine mm_go 1 (F' := (bif mm_cond .eq (mm_b (p_has_20 σ b)) 0 then 27 else 22, [some (.ref 2), some (.int a), some (.int b)], [], HH x σ)) rfl ?_
    refine mb_beq (fun h2 => ?_) (fun h2 => ?_)
    · refine mm_go 1 (F' := (28, [some (.ref 2), some (.int a), some (.int b)], [.int (-1 : Int32)], HH x σ)) rfl ?_
      exact mm_rt rfl rfl (k2 h1 h2)
    · refine mm_go 3 (F' := (bif mm_cond .ne a b then 29 else 27, [some (.ref 2), some (.int a), some (.int b)], [], HH x σ)) rfl ?_
      refine mb_ne (fun h3 => ?_) (fun h3 => ?_)
      · refine mm_go 4 (F' := (35, [some (.ref 2), some (.int a), some (.int b)], [.int b, .int a, .ref 29], HH x σ)) rfl ?_
        refine mm_kl (z := 26) (as := [.ref 29, .int a, .int b]) (S' := []) (L2 := [some (.ref 29), some (.int a), some (.int b)]) (v := some (.int v1)) (h1 := HH x σ) rfl rfl rfl rfl rfl (by omega) (k3 h1 h2 h3) ?_
        show mm_Runs d 50 (38, [some (.ref 2), some (.int a), some (.int b)], [.int v1], HH x σ) r
        exact mm_rt rfl rfl (k4 h1 h2 h3)
      · refine mm_go 1 (F' := (28, [some (.ref 2), some (.int a), some (.int b)], [.int (-1 : Int32)], HH x σ)) rfl ?_
        exact mm_rt rfl rfl (k5 h1 h2 h3)
theorem vx_apart_p0 {d : Nat} {x : Nat × (Nat → Int32)} {σ : mm_S} {a b : Int32}  {v1 : Int32} (hd : 1 ≤ d) (h1 : ¬ (p_has_20 σ a)) : mm_Runs d 50 (0, [some (.ref 2), some (.int a), some (.int b)], [], HH x σ) (some (.int (-1 : Int32)), HH x σ) := vx_apart (v1 := v1) hd (fun _ => rfl) (fun  z _ => absurd z h1) (fun  z _ _ => absurd z h1) (fun  z _ _ => absurd z h1) (fun  z _ _ => absurd z h1)
theorem vx_apart_p1 {d : Nat} {x : Nat × (Nat → Int32)} {σ : mm_S} {a b : Int32}  {v1 : Int32} (hd : 1 ≤ d) (h1 : (p_has_20 σ a)) (h2 : ¬ (p_has_20 σ b)) : mm_Runs d 50 (0, [some (.ref 2), some (.int a), some (.int b)], [], HH x σ) (some (.int (-1 : Int32)), HH x σ) := vx_apart (v1 := v1) hd (fun  z => absurd h1 z) (fun _ _ => rfl) (fun _ z _ => absurd z h2) (fun _ z _ => absurd z h2) (fun _ z _ => absurd z h2)
theorem vx_apart_p2 {d : Nat} {x : Nat × (Nat → Int32)} {σ : mm_S} {a b : Int32}  {v1 : Int32} (hd : 1 ≤ d) (h1 : (p_has_20 σ a)) (h2 : (p_has_20 σ b)) (h3 : ¬ a = b) (g1 : mm_Runs (d - 1) 26 (0, [some (.ref 29), some (.int a), some (.int b)], [], HH x σ) (some (.int v1), HH x σ)) : mm_Runs d 50 (0, [some (.ref 2), some (.int a), some (.int b)], [], HH x σ) (some (.int v1), HH x σ) := vx_apart (v1 := v1) hd (fun  z => absurd h1 z) (fun _ z => absurd h2 z) (fun _ _ _ => g1) (fun _ _ _ => rfl) (fun _ _ z => absurd z h3)
theorem vx_apart_p3 {d : Nat} {x : Nat × (Nat → Int32)} {σ : mm_S} {a b : Int32}  {v1 : Int32} (hd : 1 ≤ d) (h1 : (p_has_20 σ a)) (h2 : (p_has_20 σ b)) (h3 : a = b) : mm_Runs d 50 (0, [some (.ref 2), some (.int a), some (.int b)], [], HH x σ) (some (.int (-1 : Int32)), HH x σ) := vx_apart (v1 := v1) hd (fun  z => absurd h1 z) (fun _ z => absurd h2 z) (fun _ _ z => absurd h3 z) (fun _ _ z => absurd h3 z) (fun _ _ _ => rfl)
set_option maxRecDepth 100000 in
theorem vx_m_ap0 {d : Nat} {x : Nat × (Nat → Int32)} {σ : mm_S} {a b : Int32}  {σ1 : mm_S} {r : Option Value × mm_H} (hd : 1 ≤ d) (k1 : ¬ (p_m_isWish σ a) → (some (.int (-1 : Int32)), HH x σ) = r) (k2 : (p_m_isWish σ a) → ¬ (p_m_isWish σ b) → (some (.int (-1 : Int32)), HH x σ) = r) (k3 : (p_m_isWish σ a) → (p_m_isWish σ b) → ¬ a = b → mm_Runs (d - 1) 124 (0, [some (.ref 37), none, none, none], [], HH x σ) (none, HH x σ1)) (k4 : (p_m_isWish σ a) → (p_m_isWish σ b) → ¬ a = b → mm_Runs d 126 (29, [some (.ref 37), some (.int a), some (.int b), some (.int (0 : Int32))], [], HH x σ1) r) (k5 : (p_m_isWish σ a) → (p_m_isWish σ b) → a = b → (some (.int (-1 : Int32)), HH x σ) = r) : mm_Runs d 126 (0, [some (.ref 37), some (.int a), some (.int b), none], [], HH x σ) r := by
  refine mm_go 2 (F' := (2, [some (.ref 37), some (.int a), some (.int b), none], [.int a, .ref 37], HH x σ)) rfl ?_
  refine mm_kl (z := 118) (as := [.ref 37, .int a]) (S' := []) (L2 := [some (.ref 37), some (.int a)]) (v := some (.int (mm_b (p_m_isWish σ a)))) (h1 := HH x σ) rfl rfl rfl rfl rfl (by omega) (r_m_isWish (by omega)) ?_
  show mm_Runs d 126 (5, [some (.ref 37), some (.int a), some (.int b), none], [.int (mm_b (p_m_isWish σ a))], HH x σ) r
  refine mm_go 1 (F' := (bif mm_cond .eq (mm_b (p_m_isWish σ a)) 0 then 21 else 8, [some (.ref 37), some (.int a), some (.int b), none], [], HH x σ)) rfl ?_
  refine mb_beq (fun h1 => ?_) (fun h1 => ?_)
  · refine mm_go 1 (F' := (22, [some (.ref 37), some (.int a), some (.int b), none], [.int (-1 : Int32)], HH x σ)) rfl ?_
    exact mm_rt rfl rfl (k1 h1)
  · refine mm_go 2 (F' := (10, [some (.ref 37), some (.int a), some (.int b), none], [.int b, .ref 37], HH x σ)) rfl ?_
    refine mm_kl (z := 118) (as := [.ref 37, .int b]) (S' := []) (L2 := [some (.ref 37), some (.int b)]) (v := some (.int (mm_b (p_m_isWish σ b)))) (h1 := HH x σ) rfl rfl rfl rfl rfl (by omega) (r_m_isWish (by omega)) ?_
    show mm_Runs d 126 (13, [some (.ref 37), some (.int a), some (.int b), none], [.int (mm_b (p_m_isWish σ b))], HH x σ) r
    refine mm_go 1 (F' := (bif mm_cond .eq (mm_b (p_m_isWish σ b)) 0 then 21 else 16, [some (.ref 37), some (.int a), some (.int b), none], [], HH x σ)) rfl ?_
    refine mb_beq (fun h2 => ?_) (fun h2 => ?_)
    · refine mm_go 1 (F' := (22, [some (.ref 37), some (.int a), some (.int b), none], [.int (-1 : Int32)], HH x σ)) rfl ?_
      exact mm_rt rfl rfl (k2 h1 h2)
    · refine mm_go 3 (F' := (bif mm_cond .ne a b then 23 else 21, [some (.ref 37), some (.int a), some (.int b), none], [], HH x σ)) rfl ?_
      refine mb_ne (fun h3 => ?_) (fun h3 => ?_)
      · refine mm_go 1 (F' := (24, [some (.ref 37), some (.int a), some (.int b), none], [.ref 37], HH x σ)) rfl ?_
        refine mm_kl (z := 124) (as := [.ref 37]) (S' := []) (L2 := [some (.ref 37), none, none, none]) (v := none) (h1 := HH x σ1) rfl rfl rfl rfl rfl (by omega) (k3 h1 h2 h3) ?_
        show mm_Runs d 126 (27, [some (.ref 37), some (.int a), some (.int b), none], [], HH x σ1) r
        refine mm_go 2 (F' := (29, [some (.ref 37), some (.int a), some (.int b), some (.int (0 : Int32))], [], HH x σ1)) rfl ?_
        exact mm_wk (by exact (And.intro rfl (And.intro rfl (And.intro rfl (And.intro rfl True.intro))))) (k4 h1 h2 h3)
      · refine mm_go 1 (F' := (22, [some (.ref 37), some (.int a), some (.int b), none], [.int (-1 : Int32)], HH x σ)) rfl ?_
        exact mm_rt rfl rfl (k5 h1 h2 h3)
theorem vx_m_ap0_p0 {d : Nat} {x : Nat × (Nat → Int32)} {σ : mm_S} {a b : Int32}  {σ1 : mm_S} (hd : 1 ≤ d) (h1 : ¬ (p_m_isWish σ a)) : mm_Runs d 126 (0, [some (.ref 37), some (.int a), some (.int b), none], [], HH x σ) (some (.int (-1 : Int32)), HH x σ) := vx_m_ap0 (σ1 := σ1) hd (fun _ => rfl) (fun  z _ => absurd z h1) (fun  z _ _ => absurd z h1) (fun  z _ _ => absurd z h1) (fun  z _ _ => absurd z h1)
theorem vx_m_ap0_p1 {d : Nat} {x : Nat × (Nat → Int32)} {σ : mm_S} {a b : Int32}  {σ1 : mm_S} (hd : 1 ≤ d) (h1 : (p_m_isWish σ a)) (h2 : ¬ (p_m_isWish σ b)) : mm_Runs d 126 (0, [some (.ref 37), some (.int a), some (.int b), none], [], HH x σ) (some (.int (-1 : Int32)), HH x σ) := vx_m_ap0 (σ1 := σ1) hd (fun  z => absurd h1 z) (fun _ _ => rfl) (fun _ z _ => absurd z h2) (fun _ z _ => absurd z h2) (fun _ z _ => absurd z h2)
theorem vx_m_ap0_p2 {d : Nat} {x : Nat × (Nat → Int32)} {σ : mm_S} {a b : Int32}  {σ1 : mm_S} {r : Option Value × mm_H} (hd : 1 ≤ d) (h1 : (p_m_isWish σ a)) (h2 : (p_m_isWish σ b)) (h3 : ¬ a = b) (g1 : mm_Runs (d - 1) 124 (0, [some (.ref 37), none, none, none], [], HH x σ) (none, HH x σ1)) (kk : mm_Runs d 126 (29, [some (.ref 37), some (.int a), some (.int b), some (.int (0 : Int32))], [], HH x σ1) r) : mm_Runs d 126 (0, [some (.ref 37), some (.int a), some (.int b), none], [], HH x σ) r := vx_m_ap0 (σ1 := σ1) hd (fun  z => absurd h1 z) (fun _ z => absurd h2 z) (fun _ _ _ => g1) (fun _ _ _ => kk) (fun _ _ z => absurd z h3)
theorem vx_m_ap0_p3 {d : Nat} {x : Nat × (Nat → Int32)} {σ : mm_S} {a b : Int32}  {σ1 : mm_S} (hd : 1 ≤ d) (h1 : (p_m_isWish σ a)) (h2 : (p_m_isWish σ b)) (h3 : a = b) : mm_Runs d 126 (0, [some (.ref 37), some (.int a), some (.int b), none], [], HH x σ) (some (.int (-1 : Int32)), HH x σ) := vx_m_ap0 (σ1 := σ1) hd (fun  z => absurd h1 z) (fun _ z => absurd h2 z) (fun _ _ z => absurd h3 z) (fun _ _ z => absurd h3 z) (fun _ _ _ => rfl)
set_option maxRecDepth 100000 in
theorem vx_m_aph {d : Nat} {x : Nat × (Nat → Int32)} {σ : mm_S} {a b e : Int32}  {v1 : Int32} {r : Option Value × mm_H} (hd : 1 ≤ d) (k1 : mm_Runs (d - 1) 123 (0, [some (.ref 37), some (.int a), some (.int b), some (.int e)], [], HH x σ) (some (.int v1), HH x σ)) (k2 : v1 = 0 → (some (.int e), HH x σ) = r) (k3 : ¬ v1 = 0 → mm_Runs d 126 (29, [some (.ref 37), some (.int a), some (.int b), some (.int (e + (1 : Int32)))], [], HH x σ) r) : mm_Runs d 126 (29, [some (.ref 37), some (.int a), some (.int b), some (.int e)], [], HH x σ) r := by
  refine mm_go 4 (F' := (33, [some (.ref 37), some (.int a), some (.int b), some (.int e)], [.int e, .int b, .int a, .ref 37], HH x σ)) rfl ?_
  refine mm_kl (z := 123) (as := [.ref 37, .int a, .int b, .int e]) (S' := []) (L2 := [some (.ref 37), some (.int a), some (.int b), some (.int e)]) (v := some (.int v1)) (h1 := HH x σ) rfl rfl rfl rfl rfl (by omega) k1 ?_
  show mm_Runs d 126 (36, [some (.ref 37), some (.int a), some (.int b), some (.int e)], [.int v1], HH x σ) r
  refine mm_go 1 (F' := (bif mm_cond .eq v1 0 then 45 else 39, [some (.ref 37), some (.int a), some (.int b), some (.int e)], [], HH x σ)) rfl ?_
  refine mb_eq (fun h1 => ?_) (fun h1 => ?_)
  · refine mm_go 1 (F' := (46, [some (.ref 37), some (.int a), some (.int b), some (.int e)], [.int e], HH x σ)) rfl ?_
    exact mm_rt rfl rfl (k2 h1)
  · refine mm_go 2 (F' := (29, [some (.ref 37), some (.int a), some (.int b), some (.int (e + (1 : Int32)))], [], HH x σ)) rfl ?_
    exact mm_wk (by exact (And.intro rfl (And.intro rfl (And.intro rfl (And.intro rfl True.intro))))) (k3 h1)
theorem vx_m_aph_p0 {d : Nat} {x : Nat × (Nat → Int32)} {σ : mm_S} {a b e : Int32}  {v1 : Int32} (hd : 1 ≤ d) (h1 : v1 = 0) (g1 : mm_Runs (d - 1) 123 (0, [some (.ref 37), some (.int a), some (.int b), some (.int e)], [], HH x σ) (some (.int v1), HH x σ)) : mm_Runs d 126 (29, [some (.ref 37), some (.int a), some (.int b), some (.int e)], [], HH x σ) (some (.int e), HH x σ) := vx_m_aph (v1 := v1) hd g1 (fun _ => rfl) (fun  z => absurd h1 z)
theorem vx_m_aph_p1 {d : Nat} {x : Nat × (Nat → Int32)} {σ : mm_S} {a b e : Int32}  {v1 : Int32} {r : Option Value × mm_H} (hd : 1 ≤ d) (h1 : ¬ v1 = 0) (g1 : mm_Runs (d - 1) 123 (0, [some (.ref 37), some (.int a), some (.int b), some (.int e)], [], HH x σ) (some (.int v1), HH x σ)) (kk : mm_Runs d 126 (29, [some (.ref 37), some (.int a), some (.int b), some (.int (e + (1 : Int32)))], [], HH x σ) r) : mm_Runs d 126 (29, [some (.ref 37), some (.int a), some (.int b), some (.int e)], [], HH x σ) r := vx_m_aph (v1 := v1) hd g1 (fun  z => absurd z h1) (fun _ => kk)
set_option maxRecDepth 100000 in
theorem vx_m_size0 {d : Nat} {x : Nat × (Nat → Int32)} {σ : mm_S} {s : Int32} {r : Option Value × mm_H} (k1 : mm_Runs d 127 (4, [none, some (.int (0 : Int32)), some (.int s)], [], HH x σ) r) : mm_Runs d 127 (0, [some (.int s), none, none], [], HH x σ) r := by
  refine mm_go 4 (F' := (4, [some (.int s), some (.int (0 : Int32)), some (.int s)], [], HH x σ)) rfl ?_
  exact mm_wk (by exact (And.intro rfl (And.intro rfl True.intro))) k1
theorem vx_m_size0_p0 {d : Nat} {x : Nat × (Nat → Int32)} {σ : mm_S} {s : Int32} {r : Option Value × mm_H}  (kk : mm_Runs d 127 (4, [none, some (.int (0 : Int32)), some (.int s)], [], HH x σ) r) : mm_Runs d 127 (0, [some (.int s), none, none], [], HH x σ) r := vx_m_size0 kk
set_option maxRecDepth 100000 in
theorem vx_m_sizeh {d : Nat} {x : Nat × (Nat → Int32)} {σ : mm_S} {n l : Int32} {r : Option Value × mm_H} (k1 : l ≤ 0 → (some (.int n), HH x σ) = r) (k2 : ¬ l ≤ 0 → mm_Runs d 127 (4, [none, some (.int (n + (l &&& (1 : Int32)))), some (.int (l >>> ((1 : Int32) &&& 31)))], [], HH x σ) r) : mm_Runs d 127 (4, [none, some (.int n), some (.int l)], [], HH x σ) r := by
  refine mm_go 2 (F' := (bif mm_cond .le l 0 then 21 else 8, [none, some (.int n), some (.int l)], [], HH x σ)) rfl ?_
  refine mb_le (fun h1 => ?_) (fun h1 => ?_)
  · refine mm_go 1 (F' := (22, [none, some (.int n), some (.int l)], [.int n], HH x σ)) rfl ?_
    exact mm_rt rfl rfl (k1 h1)
  · refine mm_go 11 (F' := (4, [none, some (.int (n + (l &&& (1 : Int32)))), some (.int (l >>> ((1 : Int32) &&& 31)))], [], HH x σ)) rfl ?_
    exact mm_wk (by exact (And.intro rfl (And.intro rfl True.intro))) (k2 h1)
theorem vx_m_sizeh_p0 {d : Nat} {x : Nat × (Nat → Int32)} {σ : mm_S} {n l : Int32}  (h1 : l ≤ 0) : mm_Runs d 127 (4, [none, some (.int n), some (.int l)], [], HH x σ) (some (.int n), HH x σ) := vx_m_sizeh (fun _ => rfl) (fun  z => absurd h1 z)
theorem vx_m_sizeh_p1 {d : Nat} {x : Nat × (Nat → Int32)} {σ : mm_S} {n l : Int32} {r : Option Value × mm_H}  (h1 : ¬ l ≤ 0) (kk : mm_Runs d 127 (4, [none, some (.int (n + (l &&& (1 : Int32)))), some (.int (l >>> ((1 : Int32) &&& 31)))], [], HH x σ) r) : mm_Runs d 127 (4, [none, some (.int n), some (.int l)], [], HH x σ) r := vx_m_sizeh (fun  z => absurd z h1) (fun _ => kk)
set_option maxRecDepth 100000 in
theorem vx_m_mao0 {d : Nat} {x : Nat × (Nat → Int32)} {σ : mm_S} {s : Int32} {r : Option Value × mm_H} (k1 : mm_Runs d 128 (2, [some (.ref 37), some (.int s), some (.int (0 : Int32)), none], [], HH x σ) r) : mm_Runs d 128 (0, [some (.ref 37), some (.int s), none, none], [], HH x σ) r := by
  refine mm_go 2 (F' := (2, [some (.ref 37), some (.int s), some (.int (0 : Int32)), none], [], HH x σ)) rfl ?_
  exact mm_wk (by exact (And.intro rfl (And.intro rfl (And.intro rfl True.intro)))) k1
theorem vx_m_mao0_p0 {d : Nat} {x : Nat × (Nat → Int32)} {σ : mm_S} {s : Int32} {r : Option Value × mm_H}  (kk : mm_Runs d 128 (2, [some (.ref 37), some (.int s), some (.int (0 : Int32)), none], [], HH x σ) r) : mm_Runs d 128 (0, [some (.ref 37), some (.int s), none, none], [], HH x σ) r := vx_m_mao0 kk
set_option maxRecDepth 100000 in
theorem vx_m_maoa {d : Nat} {x : Nat × (Nat → Int32)} {σ : mm_S} {s a : Int32} {r : Option Value × mm_H} (k1 : (σ.1 3720) ≤ a → (some (.int (1 : Int32)), HH x σ) = r) (k2 : ¬ (σ.1 3720) ≤ a → mm_Runs d 128 (14, [some (.ref 37), some (.int s), some (.int a), some (.int (a + (1 : Int32)))], [], HH x σ) r) : mm_Runs d 128 (2, [some (.ref 37), some (.int s), some (.int a), none], [], HH x σ) r := by
  refine mm_go 4 (F' := (bif mm_cond .ge a (σ.1 3720) then 64 else 10, [some (.ref 37), some (.int s), some (.int a), none], [], HH x σ)) rfl ?_
  refine mb_ge (fun h1 => ?_) (fun h1 => ?_)
  · refine mm_go 1 (F' := (65, [some (.ref 37), some (.int s), some (.int a), none], [.int (1 : Int32)], HH x σ)) rfl ?_
    exact mm_rtz rfl rfl (Or.inr rfl) (k1 h1)
  · refine mm_go 4 (F' := (14, [some (.ref 37), some (.int s), some (.int a), some (.int (a + (1 : Int32)))], [], HH x σ)) rfl ?_
    exact mm_wk (by exact (And.intro rfl (And.intro rfl (And.intro rfl (And.intro rfl True.intro))))) (k2 h1)
theorem vx_m_maoa_p0 {d : Nat} {x : Nat × (Nat → Int32)} {σ : mm_S} {s a : Int32}  (h1 : (σ.1 3720) ≤ a) : mm_Runs d 128 (2, [some (.ref 37), some (.int s), some (.int a), none], [], HH x σ) (some (.int (1 : Int32)), HH x σ) := vx_m_maoa (fun _ => rfl) (fun  z => absurd h1 z)
theorem vx_m_maoa_p1 {d : Nat} {x : Nat × (Nat → Int32)} {σ : mm_S} {s a : Int32} {r : Option Value × mm_H}  (h1 : ¬ (σ.1 3720) ≤ a) (kk : mm_Runs d 128 (14, [some (.ref 37), some (.int s), some (.int a), some (.int (a + (1 : Int32)))], [], HH x σ) r) : mm_Runs d 128 (2, [some (.ref 37), some (.int s), some (.int a), none], [], HH x σ) r := vx_m_maoa (fun  z => absurd z h1) (fun _ => kk)
set_option maxRecDepth 100000 in
theorem vx_m_maob {d : Nat} {x : Nat × (Nat → Int32)} {σ : mm_S} {s a b : Int32}  {v1 : Int32} {r : Option Value × mm_H} (hd : 1 ≤ d) (k1 : (σ.1 3720) ≤ b → mm_Runs d 128 (2, [some (.ref 37), some (.int s), some (.int (a + (1 : Int32))), none], [], HH x σ) r) (k2 : ¬ (σ.1 3720) ≤ b → ¬ ((s >>> (a &&& 31)) &&& (1 : Int32)) = (1 : Int32) → mm_Runs d 128 (14, [some (.ref 37), some (.int s), some (.int a), some (.int (b + (1 : Int32)))], [], HH x σ) r) (k3 : ¬ (σ.1 3720) ≤ b → ((s >>> (a &&& 31)) &&& (1 : Int32)) = (1 : Int32) → ¬ ((s >>> (b &&& 31)) &&& (1 : Int32)) = (1 : Int32) → mm_Runs d 128 (14, [some (.ref 37), some (.int s), some (.int a), some (.int (b + (1 : Int32)))], [], HH x σ) r) (k4 : ¬ (σ.1 3720) ≤ b → ((s >>> (a &&& 31)) &&& (1 : Int32)) = (1 : Int32) → ((s >>> (b &&& 31)) &&& (1 : Int32)) = (1 : Int32) → mm_Runs (d - 1) 123 (0, [some (.ref 37), some (.int a), some (.int b), some (.int (0 : Int32))], [], HH x σ) (some (.int v1), HH x σ)) (k5 : ¬ (σ.1 3720) ≤ b → ((s >>> (a &&& 31)) &&& (1 : Int32)) = (1 : Int32) → ((s >>> (b &&& 31)) &&& (1 : Int32)) = (1 : Int32) → v1 = 0 → mm_Runs d 128 (14, [some (.ref 37), some (.int s), some (.int a), some (.int (b + (1 : Int32)))], [], HH x σ) r) (k6 : ¬ (σ.1 3720) ≤ b → ((s >>> (a &&& 31)) &&& (1 : Int32)) = (1 : Int32) → ((s >>> (b &&& 31)) &&& (1 : Int32)) = (1 : Int32) → ¬ v1 = 0 → (some (.int (0 : Int32)), HH x σ) = r) : mm_Runs d 128 (14, [some (.ref 37), some (.int s), some (.int a), some (.int b)], [], HH x σ) r := by
  refine mm_go 4 (F' := (bif mm_cond .ge b (σ.1 3720) then 58 else 22, [some (.ref 37), some (.int s), some (.int a), some (.int b)], [], HH x σ)) rfl ?_
  refine mb_ge (fun h1 => ?_) (fun h1 => ?_)
  · refine mm_go 2 (F' := (2, [some (.ref 37), some (.int s), some (.int (a + (1 : Int32))), some (.int b)], [], HH x σ)) rfl ?_
    exact mm_wk (by exact (And.intro rfl (And.intro rfl (And.intro rfl True.intro)))) (k1 h1)
  · refine mm_go 7 (F' := (bif mm_cond .ne ((s >>> (a &&& 31)) &&& (1 : Int32)) (1 : Int32) then 52 else 31, [some (.ref 37), some (.int s), some (.int a), some (.int b)], [], HH x σ)) rfl ?_
    refine mb_ne (fun h2 => ?_) (fun h2 => ?_)
    · refine mm_go 2 (F' := (14, [some (.ref 37), some (.int s), some (.int a), some (.int (b + (1 : Int32)))], [], HH x σ)) rfl ?_
      exact mm_wk (by exact (And.intro rfl (And.intro rfl (And.intro rfl (And.intro rfl True.intro))))) (k2 h1 h2)
    · refine mm_go 7 (F' := (bif mm_cond .ne ((s >>> (b &&& 31)) &&& (1 : Int32)) (1 : Int32) then 52 else 40, [some (.ref 37), some (.int s), some (.int a), some (.int b)], [], HH x σ)) rfl ?_
      refine mb_ne (fun h3 => ?_) (fun h3 => ?_)
      · refine mm_go 2 (F' := (14, [some (.ref 37), some (.int s), some (.int a), some (.int (b + (1 : Int32)))], [], HH x σ)) rfl ?_
        exact mm_wk (by exact (And.intro rfl (And.intro rfl (And.intro rfl (And.intro rfl True.intro))))) (k3 h1 h2 h3)
      · refine mm_go 4 (F' := (44, [some (.ref 37), some (.int s), some (.int a), some (.int b)], [.int (0 : Int32), .int b, .int a, .ref 37], HH x σ)) rfl ?_
        refine mm_kl (z := 123) (as := [.ref 37, .int a, .int b, .int (0 : Int32)]) (S' := []) (L2 := [some (.ref 37), some (.int a), some (.int b), some (.int (0 : Int32))]) (v := some (.int v1)) (h1 := HH x σ) rfl rfl rfl rfl rfl (by omega) (k4 h1 h2 h3) ?_
        show mm_Runs d 128 (47, [some (.ref 37), some (.int s), some (.int a), some (.int b)], [.int v1], HH x σ) r
        refine mm_go 1 (F' := (bif mm_cond .eq v1 0 then 52 else 50, [some (.ref 37), some (.int s), some (.int a), some (.int b)], [], HH x σ)) rfl ?_
        refine mb_eq (fun h4 => ?_) (fun h4 => ?_)
        · refine mm_go 2 (F' := (14, [some (.ref 37), some (.int s), some (.int a), some (.int (b + (1 : Int32)))], [], HH x σ)) rfl ?_
          exact mm_wk (by exact (And.intro rfl (And.intro rfl (And.intro rfl (And.intro rfl True.intro))))) (k5 h1 h2 h3 h4)
        · refine mm_go 1 (F' := (51, [some (.ref 37), some (.int s), some (.int a), some (.int b)], [.int (0 : Int32)], HH x σ)) rfl ?_
          exact mm_rtz rfl rfl (Or.inl rfl) (k6 h1 h2 h3 h4)
theorem vx_m_maob_p0 {d : Nat} {x : Nat × (Nat → Int32)} {σ : mm_S} {s a b : Int32}  {v1 : Int32} {r : Option Value × mm_H} (hd : 1 ≤ d) (h1 : (σ.1 3720) ≤ b) (kk : mm_Runs d 128 (2, [some (.ref 37), some (.int s), some (.int (a + (1 : Int32))), none], [], HH x σ) r) : mm_Runs d 128 (14, [some (.ref 37), some (.int s), some (.int a), some (.int b)], [], HH x σ) r := vx_m_maob (v1 := v1) hd (fun _ => kk) (fun  z _ => absurd h1 z) (fun  z _ _ => absurd h1 z) (fun  z _ _ => absurd h1 z) (fun  z _ _ _ => absurd h1 z) (fun  z _ _ _ => absurd h1 z)
theorem vx_m_maob_p1 {d : Nat} {x : Nat × (Nat → Int32)} {σ : mm_S} {s a b : Int32}  {v1 : Int32} {r : Option Value × mm_H} (hd : 1 ≤ d) (h1 : ¬ (σ.1 3720) ≤ b) (h2 : ¬ ((s >>> (a &&& 31)) &&& (1 : Int32)) = (1 : Int32)) (kk : mm_Runs d 128 (14, [some (.ref 37), some (.int s), some (.int a), some (.int (b + (1 : Int32)))], [], HH x σ) r) : mm_Runs d 128 (14, [some (.ref 37), some (.int s), some (.int a), some (.int b)], [], HH x σ) r := vx_m_maob (v1 := v1) hd (fun  z => absurd z h1) (fun _ _ => kk) (fun _ z _ => absurd z h2) (fun _ z _ => absurd z h2) (fun _ z _ _ => absurd z h2) (fun _ z _ _ => absurd z h2)
theorem vx_m_maob_p2 {d : Nat} {x : Nat × (Nat → Int32)} {σ : mm_S} {s a b : Int32}  {v1 : Int32} {r : Option Value × mm_H} (hd : 1 ≤ d) (h1 : ¬ (σ.1 3720) ≤ b) (h2 : ((s >>> (a &&& 31)) &&& (1 : Int32)) = (1 : Int32)) (h3 : ¬ ((s >>> (b &&& 31)) &&& (1 : Int32)) = (1 : Int32)) (kk : mm_Runs d 128 (14, [some (.ref 37), some (.int s), some (.int a), some (.int (b + (1 : Int32)))], [], HH x σ) r) : mm_Runs d 128 (14, [some (.ref 37), some (.int s), some (.int a), some (.int b)], [], HH x σ) r := vx_m_maob (v1 := v1) hd (fun  z => absurd z h1) (fun _ z => absurd h2 z) (fun _ _ _ => kk) (fun _ _ z => absurd z h3) (fun _ _ z _ => absurd z h3) (fun _ _ z _ => absurd z h3)
theorem vx_m_maob_p3 {d : Nat} {x : Nat × (Nat → Int32)} {σ : mm_S} {s a b : Int32}  {v1 : Int32} {r : Option Value × mm_H} (hd : 1 ≤ d) (h1 : ¬ (σ.1 3720) ≤ b) (h2 : ((s >>> (a &&& 31)) &&& (1 : Int32)) = (1 : Int32)) (h3 : ((s >>> (b &&& 31)) &&& (1 : Int32)) = (1 : Int32)) (h4 : v1 = 0) (g1 : mm_Runs (d - 1) 123 (0, [some (.ref 37), some (.int a), some (.int b), some (.int (0 : Int32))], [], HH x σ) (some (.int v1), HH x σ)) (kk : mm_Runs d 128 (14, [some (.ref 37), some (.int s), some (.int a), some (.int (b + (1 : Int32)))], [], HH x σ) r) : mm_Runs d 128 (14, [some (.ref 37), some (.int s), some (.int a), some (.int b)], [], HH x σ) r := vx_m_maob (v1 := v1) hd (fun  z => absurd z h1) (fun _ z => absurd h2 z) (fun _ _ z => absurd h3 z) (fun _ _ _ => g1) (fun _ _ _ _ => kk) (fun _ _ _ z => absurd h4 z)
theorem vx_m_maob_p4 {d : Nat} {x : Nat × (Nat → Int32)} {σ : mm_S} {s a b : Int32}  {v1 : Int32} (hd : 1 ≤ d) (h1 : ¬ (σ.1 3720) ≤ b) (h2 : ((s >>> (a &&& 31)) &&& (1 : Int32)) = (1 : Int32)) (h3 : ((s >>> (b &&& 31)) &&& (1 : Int32)) = (1 : Int32)) (h4 : ¬ v1 = 0) (g1 : mm_Runs (d - 1) 123 (0, [some (.ref 37), some (.int a), some (.int b), some (.int (0 : Int32))], [], HH x σ) (some (.int v1), HH x σ)) : mm_Runs d 128 (14, [some (.ref 37), some (.int s), some (.int a), some (.int b)], [], HH x σ) (some (.int (0 : Int32)), HH x σ) := vx_m_maob (v1 := v1) hd (fun  z => absurd z h1) (fun _ z => absurd h2 z) (fun _ _ z => absurd h3 z) (fun _ _ _ => g1) (fun _ _ _ z => absurd z h4) (fun _ _ _ _ => rfl)
set_option maxRecDepth 100000 in
theorem vx_m_mo0 {d : Nat} {x : Nat × (Nat → Int32)} {σ : mm_S} {σ1 : mm_S} {r : Option Value × mm_H} (hd : 1 ≤ d) (k1 : mm_Runs (d - 1) 124 (0, [some (.ref 37), none, none, none], [], HH x σ) (none, HH x σ1)) (k2 : mm_Runs d 129 (8, [some (.ref 37), some (.int (0 : Int32)), some (.int (1 : Int32))], [], HH x σ1) r) : mm_Runs d 129 (0, [some (.ref 37), none, none], [], HH x σ) r := by
  refine mm_go 1 (F' := (1, [some (.ref 37), none, none], [.ref 37], HH x σ)) rfl ?_
  refine mm_kl (z := 124) (as := [.ref 37]) (S' := []) (L2 := [some (.ref 37), none, none, none]) (v := none) (h1 := HH x σ1) rfl rfl rfl rfl rfl (by omega) k1 ?_
  show mm_Runs d 129 (4, [some (.ref 37), none, none], [], HH x σ1) r
  refine mm_go 4 (F' := (8, [some (.ref 37), some (.int (0 : Int32)), some (.int (1 : Int32))], [], HH x σ1)) rfl ?_
  exact mm_wk (by exact (And.intro rfl (And.intro rfl (And.intro rfl True.intro)))) k2
theorem vx_m_mo0_p0 {d : Nat} {x : Nat × (Nat → Int32)} {σ : mm_S} {σ1 : mm_S} {r : Option Value × mm_H} (hd : 1 ≤ d) (g1 : mm_Runs (d - 1) 124 (0, [some (.ref 37), none, none, none], [], HH x σ) (none, HH x σ1)) (kk : mm_Runs d 129 (8, [some (.ref 37), some (.int (0 : Int32)), some (.int (1 : Int32))], [], HH x σ1) r) : mm_Runs d 129 (0, [some (.ref 37), none, none], [], HH x σ) r := vx_m_mo0 (σ1 := σ1) hd g1 kk
set_option maxRecDepth 100000 in
theorem vx_m_moh {d : Nat} {x : Nat × (Nat → Int32)} {σ : mm_S} {b s : Int32}  {v1 v2 v3 : Int32} {r : Option Value × mm_H} (hd : 1 ≤ d) (k1 : ((1 : Int32) <<< ((σ.1 3720) &&& 31)) ≤ s → (some (.int b), HH x σ) = r) (k2 : ¬ ((1 : Int32) <<< ((σ.1 3720) &&& 31)) ≤ s → mm_Runs (d - 1) 127 (0, [some (.int s), none, none], [], HH x σ) (some (.int v1), HH x σ)) (k3 : ¬ ((1 : Int32) <<< ((σ.1 3720) &&& 31)) ≤ s → mm_Runs (d - 1) 127 (0, [some (.int b), none, none], [], HH x σ) (some (.int v2), HH x σ)) (k4 : ¬ ((1 : Int32) <<< ((σ.1 3720) &&& 31)) ≤ s → v1 ≤ v2 → mm_Runs d 129 (8, [some (.ref 37), some (.int b), some (.int (s + (1 : Int32)))], [], HH x σ) r) (k5 : ¬ ((1 : Int32) <<< ((σ.1 3720) &&& 31)) ≤ s → ¬ v1 ≤ v2 → mm_Runs (d - 1) 128 (0, [some (.ref 37), some (.int s), none, none], [], HH x σ) (some (.int v3), HH x σ)) (k6 : ¬ ((1 : Int32) <<< ((σ.1 3720) &&& 31)) ≤ s → ¬ v1 ≤ v2 → v3 = 0 → mm_Runs d 129 (8, [some (.ref 37), some (.int b), some (.int (s + (1 : Int32)))], [], HH x σ) r) (k7 : ¬ ((1 : Int32) <<< ((σ.1 3720) &&& 31)) ≤ s → ¬ v1 ≤ v2 → ¬ v3 = 0 → mm_Runs d 129 (8, [some (.ref 37), some (.int s), some (.int (s + (1 : Int32)))], [], HH x σ) r) : mm_Runs d 129 (8, [some (.ref 37), some (.int b), some (.int s)], [], HH x σ) r := by
  refine mm_go 6 (F' := (bif mm_cond .ge s ((1 : Int32) <<< ((σ.1 3720) &&& 31)) then 49 else 18, [some (.ref 37), some (.int b), some (.int s)], [], HH x σ)) rfl ?_
  refine mb_ge (fun h1 => ?_) (fun h1 => ?_)
  · refine mm_go 1 (F' := (50, [some (.ref 37), some (.int b), some (.int s)], [.int b], HH x σ)) rfl ?_
    exact mm_rt rfl rfl (k1 h1)
  · refine mm_go 1 (F' := (19, [some (.ref 37), some (.int b), some (.int s)], [.int s], HH x σ)) rfl ?_
    refine mm_kl (z := 127) (as := [.int s]) (S' := []) (L2 := [some (.int s), none, none]) (v := some (.int v1)) (h1 := HH x σ) rfl rfl rfl rfl rfl (by omega) (k2 h1) ?_
    show mm_Runs d 129 (22, [some (.ref 37), some (.int b), some (.int s)], [.int v1], HH x σ) r
    refine mm_go 1 (F' := (23, [some (.ref 37), some (.int b), some (.int s)], [.int b, .int v1], HH x σ)) rfl ?_
    refine mm_kl (z := 127) (as := [.int b]) (S' := [.int v1]) (L2 := [some (.int b), none, none]) (v := some (.int v2)) (h1 := HH x σ) rfl rfl rfl rfl rfl (by omega) (k3 h1) ?_
    show mm_Runs d 129 (26, [some (.ref 37), some (.int b), some (.int s)], [.int v2, .int v1], HH x σ) r
    refine mm_go 1 (F' := (bif mm_cond .le v1 v2 then 41 else 29, [some (.ref 37), some (.int b), some (.int s)], [], HH x σ)) rfl ?_
    refine mb_le (fun h2 => ?_) (fun h2 => ?_)
    · refine mm_go 4 (F' := (8, [some (.ref 37), some (.int b), some (.int (s + (1 : Int32)))], [], HH x σ)) rfl ?_
      exact mm_wk (by exact (And.intro rfl (And.intro rfl (And.intro rfl True.intro)))) (k4 h1 h2)
    · refine mm_go 2 (F' := (31, [some (.ref 37), some (.int b), some (.int s)], [.int s, .ref 37], HH x σ)) rfl ?_
      refine mm_kl (z := 128) (as := [.ref 37, .int s]) (S' := []) (L2 := [some (.ref 37), some (.int s), none, none]) (v := some (.int v3)) (h1 := HH x σ) rfl rfl rfl rfl rfl (by omega) (k5 h1 h2) ?_
      show mm_Runs d 129 (34, [some (.ref 37), some (.int b), some (.int s)], [.int v3], HH x σ) r
      refine mm_go 1 (F' := (bif mm_cond .eq v3 0 then 41 else 37, [some (.ref 37), some (.int b), some (.int s)], [], HH x σ)) rfl ?_
      refine mb_eq (fun h3 => ?_) (fun h3 => ?_)
      · refine mm_go 4 (F' := (8, [some (.ref 37), some (.int b), some (.int (s + (1 : Int32)))], [], HH x σ)) rfl ?_
        exact mm_wk (by exact (And.intro rfl (And.intro rfl (And.intro rfl True.intro)))) (k6 h1 h2 h3)
      · refine mm_go 5 (F' := (8, [some (.ref 37), some (.int s), some (.int (s + (1 : Int32)))], [], HH x σ)) rfl ?_
        exact mm_wk (by exact (And.intro rfl (And.intro rfl (And.intro rfl True.intro)))) (k7 h1 h2 h3)
theorem vx_m_moh_p0 {d : Nat} {x : Nat × (Nat → Int32)} {σ : mm_S} {b s : Int32}  {v1 v2 v3 : Int32} (hd : 1 ≤ d) (h1 : ((1 : Int32) <<< ((σ.1 3720) &&& 31)) ≤ s) : mm_Runs d 129 (8, [some (.ref 37), some (.int b), some (.int s)], [], HH x σ) (some (.int b), HH x σ) := vx_m_moh (v1 := v1) (v2 := v2) (v3 := v3) hd (fun _ => rfl) (fun  z => absurd h1 z) (fun  z => absurd h1 z) (fun  z _ => absurd h1 z) (fun  z _ => absurd h1 z) (fun  z _ _ => absurd h1 z) (fun  z _ _ => absurd h1 z)
theorem vx_m_moh_p1 {d : Nat} {x : Nat × (Nat → Int32)} {σ : mm_S} {b s : Int32}  {v1 v2 v3 : Int32} {r : Option Value × mm_H} (hd : 1 ≤ d) (h1 : ¬ ((1 : Int32) <<< ((σ.1 3720) &&& 31)) ≤ s) (h2 : v1 ≤ v2) (g1 : mm_Runs (d - 1) 127 (0, [some (.int s), none, none], [], HH x σ) (some (.int v1), HH x σ)) (g2 : mm_Runs (d - 1) 127 (0, [some (.int b), none, none], [], HH x σ) (some (.int v2), HH x σ)) (kk : mm_Runs d 129 (8, [some (.ref 37), some (.int b), some (.int (s + (1 : Int32)))], [], HH x σ) r) : mm_Runs d 129 (8, [some (.ref 37), some (.int b), some (.int s)], [], HH x σ) r := vx_m_moh (v1 := v1) (v2 := v2) (v3 := v3) hd (fun  z => absurd z h1) (fun _ => g1) (fun _ => g2) (fun _ _ => kk) (fun _ z => absurd h2 z) (fun _ z _ => absurd h2 z) (fun _ z _ => absurd h2 z)
theorem vx_m_moh_p2 {d : Nat} {x : Nat × (Nat → Int32)} {σ : mm_S} {b s : Int32}  {v1 v2 v3 : Int32} {r : Option Value × mm_H} (hd : 1 ≤ d) (h1 : ¬ ((1 : Int32) <<< ((σ.1 3720) &&& 31)) ≤ s) (h2 : ¬ v1 ≤ v2) (h3 : v3 = 0) (g1 : mm_Runs (d - 1) 127 (0, [some (.int s), none, none], [], HH x σ) (some (.int v1), HH x σ)) (g2 : mm_Runs (d - 1) 127 (0, [some (.int b), none, none], [], HH x σ) (some (.int v2), HH x σ)) (g3 : mm_Runs (d - 1) 128 (0, [some (.ref 37), some (.int s), none, none], [], HH x σ) (some (.int v3), HH x σ)) (kk : mm_Runs d 129 (8, [some (.ref 37), some (.int b), some (.int (s + (1 : Int32)))], [], HH x σ) r) : mm_Runs d 129 (8, [some (.ref 37), some (.int b), some (.int s)], [], HH x σ) r := vx_m_moh (v1 := v1) (v2 := v2) (v3 := v3) hd (fun  z => absurd z h1) (fun _ => g1) (fun _ => g2) (fun _ z => absurd z h2) (fun _ _ => g3) (fun _ _ _ => kk) (fun _ _ z => absurd h3 z)
theorem vx_m_moh_p3 {d : Nat} {x : Nat × (Nat → Int32)} {σ : mm_S} {b s : Int32}  {v1 v2 v3 : Int32} {r : Option Value × mm_H} (hd : 1 ≤ d) (h1 : ¬ ((1 : Int32) <<< ((σ.1 3720) &&& 31)) ≤ s) (h2 : ¬ v1 ≤ v2) (h3 : ¬ v3 = 0) (g1 : mm_Runs (d - 1) 127 (0, [some (.int s), none, none], [], HH x σ) (some (.int v1), HH x σ)) (g2 : mm_Runs (d - 1) 127 (0, [some (.int b), none, none], [], HH x σ) (some (.int v2), HH x σ)) (g3 : mm_Runs (d - 1) 128 (0, [some (.ref 37), some (.int s), none, none], [], HH x σ) (some (.int v3), HH x σ)) (kk : mm_Runs d 129 (8, [some (.ref 37), some (.int s), some (.int (s + (1 : Int32)))], [], HH x σ) r) : mm_Runs d 129 (8, [some (.ref 37), some (.int b), some (.int s)], [], HH x σ) r := vx_m_moh (v1 := v1) (v2 := v2) (v3 := v3) hd (fun  z => absurd z h1) (fun _ => g1) (fun _ => g2) (fun _ z => absurd z h2) (fun _ _ => g3) (fun _ _ z => absurd z h3) (fun _ _ _ => kk)
set_option maxRecDepth 100000 in
theorem vx_m_at {d : Nat} {x : Nat × (Nat → Int32)} {σ : mm_S} {v1 : Int32} {σ1 : mm_S} {r : Option Value × mm_H} (hd : 1 ≤ d) (k1 : mm_Runs (d - 1) 129 (0, [some (.ref 37), none, none], [], HH x σ) (some (.int v1), HH x σ1)) (k2 : (some (.int v1), HH x σ1) = r) : mm_Runs d 130 (0, [some (.ref 37)], [], HH x σ) r := by
  refine mm_go 1 (F' := (1, [some (.ref 37)], [.ref 37], HH x σ)) rfl ?_
  refine mm_kl (z := 129) (as := [.ref 37]) (S' := []) (L2 := [some (.ref 37), none, none]) (v := some (.int v1)) (h1 := HH x σ1) rfl rfl rfl rfl rfl (by omega) k1 ?_
  show mm_Runs d 130 (4, [some (.ref 37)], [.int v1], HH x σ1) r
  exact mm_rt rfl rfl k2
theorem vx_m_at_p0 {d : Nat} {x : Nat × (Nat → Int32)} {σ : mm_S} {v1 : Int32} {σ1 : mm_S} (hd : 1 ≤ d) (g1 : mm_Runs (d - 1) 129 (0, [some (.ref 37), none, none], [], HH x σ) (some (.int v1), HH x σ1)) : mm_Runs d 130 (0, [some (.ref 37)], [], HH x σ) (some (.int v1), HH x σ1) := vx_m_at (v1 := v1) (σ1 := σ1) hd g1 rfl
/-- two wishes, thrown in minutes p and q, meet -/
def CF (P : pd_T) (kk : Nat → Int32) (cc : Nat → Nat) (w u p q : Nat) : Prop := (p ≤ q ∧ pd_mt P (kk w) (cc w) (kk u) (cc u) (q - p)) ∨ (q < p ∧ pd_mt P (kk u) (cc u) (kk w) (cc w) (p - q))
theorem mt_0 {P : pd_T} {k1 k2 : Int32} {c1 c2 : Nat} : pd_mt P k1 c1 k2 c2 0 ↔ pd_mt P k2 c2 k1 c1 0 := (LM_fwd (g := 0)).symm.trans (LM_bwd (g := 0) (y := 50) rfl)
theorem CF_sym {P : pd_T} {kk : Nat → Int32} {cc : Nat → Nat} {w u p q : Nat} : CF P kk cc w u p q ↔ CF P kk cc u w q p := by
  unfold CF
  rcases Nat.lt_trichotomy p q with h | h | h
  · constructor
    · rintro (z | z)
      · exact Or.inr ⟨h, z.2⟩
      · omega
    · rintro (z | z)
      · omega
      · exact Or.inl ⟨by omega, z.2⟩
  · subst h
    rw [Nat.sub_self]
    constructor
    · rintro (z | z)
      · exact Or.inl ⟨z.1, mt_0.mp z.2⟩
      · omega
    · rintro (z | z)
      · exact Or.inl ⟨z.1, mt_0.mp z.2⟩
      · omega
  · constructor
    · rintro (z | z)
      · omega
      · exact Or.inl ⟨by omega, z.2⟩
    · rintro (z | z)
      · exact Or.inr ⟨h, z.2⟩
      · omega
theorem mt_42 {P : pd_T} {k1 k2 : Int32} {c1 c2 g : Nat} (hw : pd_wf P) (hn : pd_n P ≤ 42) (h : pd_mt P k1 c1 k2 c2 g) : g ≤ 41 := by
  have := LM_y hw hn (LM_fwd.mpr h)
  omega
theorem ix101 {w u : Nat} {l : Int32} {y : Nat} (h : l + (50 : Int32) = nI y) : (((101 : Int32) * ((6 : Int32) * nI w + nI u)) + l) + (50 : Int32) = nI (101 * (6 * w + u) + y) := by
  rw [Int32.add_assoc, h, show (101 : Int32) = nI 101 from rfl, show (6 : Int32) = nI 6 from rfl, pk_mul, nI_add, pk_mul, nI_add]
def kkc (σ : mm_S) : Nat → Int32 := σ.2.2.1 21
def ccc (σ : mm_S) (i : Nat) : Nat := (σ.2.2.1 22 i).toNatClampNeg
theorem wi_ms {P : pd_T} {n : Nat} {σ : mm_S} (hw : pd_wf P) (hn : pd_n P ≤ 42) (h : r_wi P n σ) : wms P σ n (kkc σ) (ccc σ) := by
  refine ⟨h.1, h.2.2.1, fun i hi => ?_⟩
  obtain ⟨⟨e1, e2⟩, h2, c, e3, h3⟩ := h.2.2.2 i hi
  have := hw c h3
  have h6 := h.1
  have e4 : ccc σ i = c := by unfold ccc; rw [e3, nI_clamp (by omega)]
  rw [e4]
  exact ⟨by omega, h2, e1.symm, e2.symm.trans e3, h3⟩
theorem wi_cs {P : pd_T} {n : Nat} {σ : mm_S} (hw : pd_wf P) (hn : pd_n P ≤ 42) (h : r_wi P n σ) : ∀ i, i < n → wsc P σ i (kkc σ i) (ccc σ i) := fun i hi => by
  obtain ⟨⟨e1, e2⟩, h2, c, e3, h3⟩ := h.2.2.2 i hi
  have := hw c h3
  have h6 := h.1
  have e4 : ccc σ i = c := by unfold ccc; rw [e3, nI_clamp (by omega)]
  rw [e4]
  exact ⟨by omega, h2, rfl, e3, h3⟩
theorem wms_49 {P : pd_T} {n : Nat} {σ : mm_S} {kk : Nat → Int32} {cc : Nat → Nat} {D : Nat → Int32} (h : wms P σ n kk cc) : wms P (ua σ 49 D) n kk cc := h
theorem wi_ix {P : pd_T} {n : Nat} {σ : mm_S} (h : r_wi P n σ) (k : Int32) : (¬ p_has_20 σ k ∧ ¬ p_m_isWish σ k) ∨ ∃ s, s < n ∧ k = nI s ∧ p_has_20 σ k ∧ p_m_isWish σ k := by
  obtain ⟨h1, h2, h3, -⟩ := h
  rcases ix_3 k (n := n) (N := 6) h1 (by omega) with q | ⟨c, hc, rfl, q, qg, qc⟩
  · exact Or.inl ⟨by unfold p_has_20; rw [h2]; exact q, by unfold p_m_isWish; rw [h3]; exact q⟩
  · exact Or.inr ⟨c, hc, rfl, by unfold p_has_20; rw [h2]; exact q, by unfold p_m_isWish; rw [h3]; exact q⟩
section AP
variable {d : Nat} {x : Nat × (Nat → Int32)} {P : pd_T} {σ : mm_S}
theorem m_meetBy {n w u p q : Nat} {kk : Nat → Int32} {cc : Nat → Nat} (hd : 1 ≤ d) (hwf : pd_wf P) (hn : pd_n P ≤ 42) (h6 : n ≤ 6) (hD : dm_ok P kk cc n (σ.2.2.1 49)) (hw : w < n) (hu : u < n) (hwu : w ≠ u) (hp : p < 2 ^ 20) (hq : q < 2 ^ 20) : ∃ v, mm_Runs d 123 (0, [some (.ref 37), some (.int (nI w)), some (.int (nI u)), some (.int (nI q - nI p))], [], HH x σ) (some (.int v), HH x σ) ∧ ((v = 1 ∧ CF P kk cc w u p q) ∨ (v = 0 ∧ ¬ CF P kk cc w u p q)) := by
  have ei : (nI q - nI p).toInt = (q : Int) - p := pk_sub_toInt (by omega) (by omega)
  have w50 : p_m_within σ (nI q - nI p) (-50) 50 ↔ (p ≤ q + 50 ∧ q ≤ p + 50) := by
    unfold p_m_within
    rw [Int32.lt_iff_toInt_lt, Int32.lt_iff_toInt_lt, ei, show (-50 : Int32).toInt = -50 from rfl, show (50 : Int32).toInt = 50 from rfl]
    omega
  have sp : (p ≤ q + 50 ∧ q ≤ p + 50) → (nI q - nI p) + (50 : Int32) = nI (q + 50 - p) := fun z => by
    apply Int32.toInt_inj.mp
    rw [i_add (by rw [ei]; omega) (by decide), ei, nI_toInt (by omega), show (50 : Int32).toInt = 50 from rfl]
    omega
  have key := r_m_meetBy (d := d) (x := x) (σ := σ) (w := nI w) (a := nI u) (l := nI q - nI p) hd (fun z => by
    rw [ix101 (sp (w50.mp z))]
    have := w50.mp z
    exact nI_in (by omega) (by omega))
  refine ⟨_, key, ?_⟩
  by_cases z : p ≤ q + 50 ∧ q ≤ p + 50
  · have eb : LM P (kk w) (cc w) (kk u) (cc u) (q + 50 - p) ↔ CF P kk cc w u p q := by
      unfold CF
      rcases Nat.lt_or_ge q p with y | y
      · rw [LM_bwd (g := p - q) (by omega)]
        exact ⟨fun h => Or.inr ⟨y, h⟩, fun h => h.elim (fun h => absurd h.1 (by omega)) (fun h => h.2)⟩
      · rw [show q + 50 - p = 50 + (q - p) by omega, LM_fwd]
        exact ⟨fun h => Or.inl ⟨y, h⟩, fun h => h.elim (fun h => h.2) (fun h => absurd h.1 (by omega))⟩
    have ec : ((((101 : Int32) * ((6 : Int32) * nI w + nI u)) + (nI q - nI p)) + (50 : Int32)).toNatClampNeg = 101 * (6 * w + u) + (q + 50 - p) := by
      rw [ix101 (sp z), nI_clamp (by omega)]
    rcases hD w u hw hu hwu (q + 50 - p) (by omega) with ⟨y1, y2⟩ | ⟨y1, y2⟩
    · refine Or.inl ⟨mm_b_pos ⟨w50.mpr z, ?_⟩, eb.mp y2⟩
      rw [ec, y1]; decide
    · refine Or.inr ⟨mm_b_neg (fun h => h.2 ?_), fun h => y2 (eb.mpr h)⟩
      rw [ec, y1]
  · refine Or.inr ⟨mm_b_neg (fun h => z (w50.mp h.1)), fun h => ?_⟩
    rcases h with ⟨h1, h2⟩ | ⟨h1, h2⟩ <;> (have := mt_42 hwf hn h2; omega)
theorem m_ap_h {n w u : Nat} {kk : Nat → Int32} {cc : Nat → Nat} (hd : 2 ≤ d) (hwf : pd_wf P) (hn : pd_n P ≤ 42) (h6 : n ≤ 6) (hD : dm_ok P kk cc n (σ.2.2.1 49)) (hw : w < n) (hu : u < n) (hwu : w ≠ u) : ∀ (i e : Nat), e + i = 50 → (∀ e', e' < e → pd_mt P (kk w) (cc w) (kk u) (cc u) e') → ∃ e', mm_Runs d 126 (29, [some (.ref 37), some (.int (nI w)), some (.int (nI u)), some (.int (nI e))], [], HH x σ) (some (.int (nI e')), HH x σ) ∧ e' ≤ 50 ∧ ¬ pd_mt P (kk w) (cc w) (kk u) (cc u) e' ∧ ∀ g, g < e' → pd_mt P (kk w) (cc w) (kk u) (cc u) g
  | i, e, h, hb => by
    obtain ⟨v, r1, r2⟩ := m_meetBy (d := d - 1) (x := x) (p := 0) (q := e) (by omega) hwf hn h6 hD hw hu hwu (by omega) (by omega)
    have e0 : nI e - nI 0 = nI e := by rw [pk_sub (by omega)]; rfl
    rw [e0] at r1
    have ec : CF P kk cc w u 0 e ↔ pd_mt P (kk w) (cc w) (kk u) (cc u) e := by
      unfold CF
      exact ⟨fun z => z.elim (fun z => z.2) (fun z => absurd z.1 (by omega)), fun z => Or.inl ⟨by omega, z⟩⟩
    rw [ec] at r2
    rcases r2 with ⟨rfl, r2⟩ | ⟨rfl, r2⟩
    · have := mt_42 hwf hn r2
      match i, h with
      | 0, h => omega
      | i + 1, h =>
        obtain ⟨e', s1, s2⟩ := m_ap_h hd hwf hn h6 hD hw hu hwu i (e + 1) (by omega) (fun g hg => by
          rcases Nat.lt_or_ge g e with y | y
          · exact hb g y
          · rw [show g = e by omega]; exact r2)
        exact ⟨e', vx_m_aph_p1 (v1 := 1) (by omega) (by decide) r1 (by rw [nI_1]; exact s1), s2⟩
    · exact ⟨e, vx_m_aph_p0 (v1 := 0) (by omega) rfl r1, by omega, r2, hb⟩
end AP
theorem op_apart : opI Rel i_X6_apart i_X7_apart 2 := by
  intro x σ as h hr
  obtain ⟨a, b, rfl⟩ := as_2 h
  obtain ⟨P, ns, nw, nr, hr⟩ := rel_RP.mp hr
  have hwf := pond_wf (RP_p hr)
  have hn := pd_n42 (RP_p hr)
  have hwi := RP_wi hr
  have h6 := hwi.1
  rcases wi_ix hwi a with ⟨q1, q2⟩ | ⟨w, hw, rfl, q1, q2⟩
  · exact ⟨-1, σ, σ, vx_apart_p0 (v1 := 0) (by decide) q1, vx_m_ap0_p0 (σ1 := σ) (by decide) q2, RP_rel hr⟩
  rcases wi_ix hwi b with ⟨y1, y2⟩ | ⟨u, hu, rfl, y1, y2⟩
  · exact ⟨-1, σ, σ, vx_apart_p1 (v1 := 0) (by decide) q1 y1, vx_m_ap0_p1 (σ1 := σ) (by decide) q2 y2, RP_rel hr⟩
  by_cases e : nI w = nI u
  · exact ⟨-1, σ, σ, vx_apart_p3 (v1 := 0) (by decide) q1 y1 e, vx_m_ap0_p3 (σ1 := σ) (by decide) q2 y2 e, RP_rel hr⟩
  have hwu : w ≠ u := fun z => e (by rw [z])
  obtain ⟨D, r1, r2⟩ := m_layMeets (d := 998) (x := x) (by omega) (RP_pm hr) (RP_wy hr) (wi_ms hwf hn hwi)
  obtain ⟨e', s1, s2, s3, s4⟩ := m_ap_h (d := 999) (x := x) (σ := ua σ 49 D) (by omega) hwf hn h6 r2 hw hu hwu 50 0 (by omega) (fun g hg => absurd hg (by omega))
  have hti := (RP_ti hr).1 w u hw hu hwu
  have low : lowb ((σ.2.2.2 30 (6 * w + u)) ^^^ (-1 : Int64)) = nI e' := lowb_is (by
      rw [bt_not (by omega)]
      cases hb : bt (σ.2.2.2 30 (6 * w + u)) e' with
      | false => rfl
      | true => exact absurd ((hti e' (by omega)).1.mp hb) s3) (fun j hj => by
      rw [bt_not (by omega), (hti j (by omega)).1.mpr (s4 j hj)]; rfl)
  have c9 := vx_lg_p0 (d := 998) (x := x) (σ := σ) (i := nI w) (j := nI u) (by omega) (by rw [w6]; exact nI_in (by omega) (by omega))
  rw [w6, nI_clamp (by omega), low] at c9
  refine ⟨nI e', σ, ua σ 49 D, vx_apart_p2 (v1 := nI e') (by decide) q1 y1 e c9, vx_m_ap0_p2 (σ1 := ua σ 49 D) (by decide) q2 y2 e r1 s1, RP_rel (RP_SC hr ⟨FR_ua rfl (FR_refl _ _ _ _ _), (RP_lk hr).2.2⟩)⟩
/-! sets of wishes -/
def tb (s a : Nat) : Bool := decide (s / 2 ^ a % 2 = 1)
theorem tb_sh : ∀ s, s < 64 → ∀ a, a < 6 → ((nI s >>> (nI a &&& 31)) &&& 1) = bI (tb s a) := by decide +kernel
theorem tb_1 {s a : Nat} (hs : s < 64) (ha : a < 6) : ((nI s >>> (nI a &&& 31)) &&& 1) = (1 : Int32) ↔ tb s a = true := by
  rw [tb_sh s hs a ha]
  cases tb s a <;> decide
theorem tb_0 {s a : Nat} (hs : s < 64) (ha : a < 6) : ((nI s >>> (nI a &&& 31)) &&& 1) = (0 : Int32) ↔ tb s a = false := by
  rw [tb_sh s hs a ha]
  cases tb s a <;> decide
theorem pw2 : ∀ n, n < 7 → (1 : Int32) <<< (nI n &&& 31) = nI (2 ^ n) := by decide +kernel
theorem sz_1 : ∀ l, l < 64 → (nI l &&& 1) = nI (l % 2) ∧ nI l >>> ((1 : Int32) &&& 31) = nI (l / 2) := by decide +kernel
def pcf : Nat → Nat → Nat
  | 0, _ => 0
  | f + 1, l => l % 2 + pcf f (l / 2)
theorem pcf_6 : ∀ s, s < 64 → pcf 6 s = pc6 s := by decide +kernel
theorem p2_64 {n : Nat} (h : n ≤ 6) : 2 ^ n ≤ 64 := Nat.pow_le_pow_right (n := 2) (by omega) h
/-- the set may be thrown at once -/
def pfs (P : pd_T) (kk : Nat → Int32) (cc : Nat → Nat) (n s : Nat) : Prop := ∀ a b, a < b → b < n → tb s a = true → tb s b = true → ¬ pd_mt P (kk a) (cc a) (kk b) (cc b) 0
noncomputable def dcd (p : Prop) : Bool := @decide p (Classical.propDecidable p)
theorem dcd_t {p : Prop} (h : p) : dcd p = true := by
  unfold dcd
  exact @decide_eq_true p (Classical.propDecidable p) h
theorem dcd_f {p : Prop} (h : ¬ p) : dcd p = false := by
  unfold dcd
  exact @decide_eq_false p (Classical.propDecidable p) h
def bestS (ok : Nat → Bool) : Nat → Nat → Nat → Nat
  | 0, _, b => b
  | k + 1, s, b => bestS ok k (s + 1) (if pc6 b < pc6 s ∧ ok s = true then s else b)
section SZ
variable {d : Nat} {x : Nat × (Nat → Int32)} {P : pd_T} {σ : mm_S} {kk : Nat → Int32} {cc : Nat → Nat} {n : Nat}
theorem m_size_h : ∀ (f l c : Nat), f ≤ 6 → l < 2 ^ f → mm_Runs d 127 (4, [none, some (.int (nI c)), some (.int (nI l))], [], HH x σ) (some (.int (nI (c + pcf f l))), HH x σ)
  | 0, l, c, _, h => by
    have e : l = 0 := by omega
    subst e
    exact vx_m_sizeh_p0 (by decide)
  | f + 1, l, c, hf, h => by
    have h64 : l < 64 := Nat.lt_of_lt_of_le h (p2_64 hf)
    rcases Nat.eq_zero_or_pos l with z | z
    · subst z
      have e : ∀ f, pcf f 0 = 0 := fun f => by
        induction f with
        | zero => rfl
        | succ f ih => show 0 % 2 + pcf f (0 / 2) = 0; rw [show 0 / 2 = 0 from rfl, ih]
      rw [e]
      exact vx_m_sizeh_p0 (by decide)
    · have r := m_size_h f (l / 2) (c + l % 2) (by omega) (by rw [Nat.pow_succ] at h; omega)
      obtain ⟨e1, e2⟩ := sz_1 l h64
      refine vx_m_sizeh_p1 (nI_nle z (by omega)) ?_
      rw [e1, e2, nI_add]
      have e3 : c + pcf (f + 1) l = c + l % 2 + pcf f (l / 2) := by show c + (l % 2 + pcf f (l / 2)) = _; omega
      rw [e3]
      exact r
theorem m_size {s : Nat} (hs : s < 64) : mm_Runs d 127 (0, [some (.int (nI s)), none, none], [], HH x σ) (some (.int (nI (pc6 s))), HH x σ) := by
  have := m_size_h (d := d) (x := x) (σ := σ) 6 s 0 (by omega) hs
  rw [Nat.zero_add, pcf_6 s hs] at this
  exact vx_m_size0_p0 this
theorem m_mao_b {s a : Nat} (hd : 2 ≤ d) (hwf : pd_wf P) (hn : pd_n P ≤ 42) (hm : wms P σ n kk cc) (hD : dm_ok P kk cc n (σ.2.2.1 49)) (hs : s < 64) (ha : a < n) : ∀ (i b : Nat), b + i = n → a < b → (mm_Runs d 128 (14, [some (.ref 37), some (.int (nI s)), some (.int (nI a)), some (.int (nI b))], [], HH x σ) (some (.int 0), HH x σ) ∧ ¬ pfs P kk cc n s) ∨ ((∀ b', b ≤ b' → b' < n → tb s a = true → tb s b' = true → ¬ pd_mt P (kk a) (cc a) (kk b') (cc b') 0) ∧ ∀ r, mm_Runs d 128 (2, [some (.ref 37), some (.int (nI s)), some (.int (nI (a + 1))), none], [], HH x σ) r → mm_Runs d 128 (14, [some (.ref 37), some (.int (nI s)), some (.int (nI a)), some (.int (nI b))], [], HH x σ) r)
  | 0, b, h, hab => by
    have h6 := hm.1
    exact Or.inr ⟨fun b' z1 z2 => absurd z2 (by omega), fun r k => vx_m_maob_p0 (v1 := 0) (by omega) (by rw [hm.2.1]; exact nI_le (by omega) (by omega)) (by rw [nI_1]; exact k)⟩
  | i + 1, b, h, hab => by
    have h6 := hm.1
    have nb : ¬ (σ.1 3720) ≤ nI b := by rw [hm.2.1]; exact nI_ge (by omega) (by omega)
    rcases m_mao_b hd hwf hn hm hD hs ha i (b + 1) (by omega) (by omega) with ⟨r1, r2⟩ | ⟨r1, r2⟩
    · refine Or.inl ⟨?_, r2⟩
      by_cases z1 : tb s a = true
      · by_cases z2 : tb s b = true
        · obtain ⟨v, t1, t2⟩ := m_meetBy (d := d - 1) (x := x) (p := 0) (q := 0) (by omega) hwf hn h6 hD ha (show b < n by omega) (by omega) (by omega) (by omega)
          rw [show nI 0 - nI 0 = (0 : Int32) from rfl] at t1
          rcases t2 with ⟨rfl, t2⟩ | ⟨rfl, t2⟩
          · exact vx_m_maob_p4 (v1 := 1) (by omega) nb ((tb_1 hs (by omega)).mpr z1) ((tb_1 hs (by omega)).mpr z2) (by decide) t1
          · exact vx_m_maob_p3 (v1 := 0) (by omega) nb ((tb_1 hs (by omega)).mpr z1) ((tb_1 hs (by omega)).mpr z2) rfl t1 (by rw [nI_1]; exact r1)
        · exact vx_m_maob_p2 (v1 := 0) (by omega) nb ((tb_1 hs (by omega)).mpr z1) (fun y => z2 ((tb_1 hs (by omega)).mp y)) (by rw [nI_1]; exact r1)
      · exact vx_m_maob_p1 (v1 := 0) (by omega) nb (fun y => z1 ((tb_1 hs (by omega)).mp y)) (by rw [nI_1]; exact r1)
    · have ext : (tb s a = true → tb s b = true → ¬ pd_mt P (kk a) (cc a) (kk b) (cc b) 0) → ∀ b', b ≤ b' → b' < n → tb s a = true → tb s b' = true → ¬ pd_mt P (kk a) (cc a) (kk b') (cc b') 0 := fun z b' y1 y2 y3 y4 => by
        rcases Nat.lt_or_ge b b' with q | q
        · exact r1 b' (by omega) y2 y3 y4
        · rw [show b' = b by omega] at y4 ⊢; exact z y3 y4
      by_cases z1 : tb s a = true
      · by_cases z2 : tb s b = true
        · obtain ⟨v, t1, t2⟩ := m_meetBy (d := d - 1) (x := x) (p := 0) (q := 0) (by omega) hwf hn h6 hD ha (show b < n by omega) (by omega) (by omega) (by omega)
          rw [show nI 0 - nI 0 = (0 : Int32) from rfl] at t1
          have ec : CF P kk cc a b 0 0 ↔ pd_mt P (kk a) (cc a) (kk b) (cc b) 0 := by
            unfold CF
            exact ⟨fun z => z.elim (fun z => z.2) (fun z => absurd z.1 (by omega)), fun z => Or.inl ⟨by omega, z⟩⟩
          rw [ec] at t2
          rcases t2 with ⟨rfl, t2⟩ | ⟨rfl, t2⟩
          · exact Or.inl ⟨vx_m_maob_p4 (v1 := 1) (by omega) nb ((tb_1 hs (by omega)).mpr z1) ((tb_1 hs (by omega)).mpr z2) (by decide) t1, fun y => y a b hab (by omega) z1 z2 t2⟩
          · exact Or.inr ⟨ext (fun _ _ => t2), fun r k => vx_m_maob_p3 (v1 := 0) (by omega) nb ((tb_1 hs (by omega)).mpr z1) ((tb_1 hs (by omega)).mpr z2) rfl t1 (by rw [nI_1]; exact r2 r k)⟩
        · exact Or.inr ⟨ext (fun _ y => absurd y z2), fun r k => vx_m_maob_p2 (v1 := 0) (by omega) nb ((tb_1 hs (by omega)).mpr z1) (fun y => z2 ((tb_1 hs (by omega)).mp y)) (by rw [nI_1]; exact r2 r k)⟩
      · exact Or.inr ⟨ext (fun y => absurd y z1), fun r k => vx_m_maob_p1 (v1 := 0) (by omega) nb (fun y => z1 ((tb_1 hs (by omega)).mp y)) (by rw [nI_1]; exact r2 r k)⟩
theorem m_mao_a {s : Nat} (hd : 2 ≤ d) (hwf : pd_wf P) (hn : pd_n P ≤ 42) (hm : wms P σ n kk cc) (hD : dm_ok P kk cc n (σ.2.2.1 49)) (hs : s < 64) : ∀ (i a : Nat), a + i = n → (∀ a' b', a' < a → a' < b' → b' < n → tb s a' = true → tb s b' = true → ¬ pd_mt P (kk a') (cc a') (kk b') (cc b') 0) → mm_Runs d 128 (2, [some (.ref 37), some (.int (nI s)), some (.int (nI a)), none], [], HH x σ) (some (.int (bI (dcd (pfs P kk cc n s)))), HH x σ)
  | 0, a, h, hb => by
    have h6 := hm.1
    rw [dcd_t (show pfs P kk cc n s from fun a' b' z1 z2 => hb a' b' (by omega) z1 z2)]
    exact vx_m_maoa_p0 (by rw [hm.2.1]; exact nI_le (by omega) (by omega))
  | i + 1, a, h, hb => by
    have h6 := hm.1
    have na : ¬ (σ.1 3720) ≤ nI a := by rw [hm.2.1]; exact nI_ge (by omega) (by omega)
    refine vx_m_maoa_p1 na ?_
    rw [nI_1]
    rcases m_mao_b (d := d) (x := x) hd hwf hn hm hD hs (show a < n by omega) (n - (a + 1)) (a + 1) (by omega) (by omega) with ⟨r1, r2⟩ | ⟨r1, r2⟩
    · rw [dcd_f r2]; exact r1
    · refine r2 _ (m_mao_a hd hwf hn hm hD hs i (a + 1) (by omega) (fun a' b' z1 z2 z3 => ?_))
      rcases Nat.lt_or_ge a' a with q | q
      · exact hb a' b' q z2 z3
      · have e : a' = a := by omega
        subst e
        exact r1 b' (by omega) z3
theorem m_mo_h (hd : 3 ≤ d) (hwf : pd_wf P) (hn : pd_n P ≤ 42) (hm : wms P σ n kk cc) (hD : dm_ok P kk cc n (σ.2.2.1 49)) : ∀ (k s b : Nat), s + k = 2 ^ n → b < 64 → mm_Runs d 129 (8, [some (.ref 37), some (.int (nI b)), some (.int (nI s))], [], HH x σ) (some (.int (nI (bestS (fun s => dcd (pfs P kk cc n s)) k s b))), HH x σ)
  | 0, s, b, h, hb => by
    have h6 := hm.1
    have h64 := p2_64 h6
    refine vx_m_moh_p0 (v1 := 0) (v2 := 0) (v3 := 0) (by omega) ?_
    rw [hm.2.1, pw2 n (by omega)]
    exact nI_le (by omega) (by omega)
  | k + 1, s, b, h, hb => by
    have h6 := hm.1
    have h64 := p2_64 h6
    have ns : ¬ ((1 : Int32) <<< ((σ.1 3720) &&& 31)) ≤ nI s := by
      rw [hm.2.1, pw2 n (by omega)]
      exact nI_ge (by omega) (by omega)
    have t1 := m_size (d := d - 1) (x := x) (σ := σ) (s := s) (by omega)
    have t2 := m_size (d := d - 1) (x := x) (σ := σ) (s := b) hb
    have t3 := vx_m_mao0_p0 (m_mao_a (d := d - 1) (x := x) (s := s) (by omega) hwf hn hm hD (by omega) n 0 (by omega) (fun a' b' z => absurd z (by omega)))
    have p64 : ∀ s, s < 64 → pc6 s < 7 := by decide +kernel
    have q1 := p64 s (by omega)
    have q2 := p64 b hb
    show mm_Runs d 129 _ (some (.int (nI (bestS (fun s => dcd (pfs P kk cc n s)) k (s + 1) (if pc6 b < pc6 s ∧ dcd (pfs P kk cc n s) = true then s else b)))), HH x σ)
    rcases Nat.lt_or_ge (pc6 b) (pc6 s) with z | z
    · have nl : ¬ nI (pc6 s) ≤ nI (pc6 b) := nI_ge z (by omega)
      cases hv : dcd (pfs P kk cc n s) with
      | false =>
        rw [hv] at t3
        rw [if_neg (fun y => absurd y.2 (by simp))]
        exact vx_m_moh_p2 (v1 := nI (pc6 s)) (v2 := nI (pc6 b)) (v3 := 0) (by omega) ns nl rfl t1 t2 t3 (by rw [nI_1]; exact m_mo_h hd hwf hn hm hD k (s + 1) b (by omega) hb)
      | true =>
        rw [hv] at t3
        rw [if_pos ⟨z, rfl⟩]
        exact vx_m_moh_p3 (v1 := nI (pc6 s)) (v2 := nI (pc6 b)) (v3 := 1) (by omega) ns nl (by decide) t1 t2 t3 (by rw [nI_1]; exact m_mo_h hd hwf hn hm hD k (s + 1) s (by omega) (by omega))
    · rw [if_neg (fun y => absurd y.1 (by omega))]
      exact vx_m_moh_p1 (v1 := nI (pc6 s)) (v2 := nI (pc6 b)) (v3 := 0) (by omega) ns (nI_le z (by omega)) t1 t2 (by rw [nI_1]; exact m_mo_h hd hwf hn hm hD k (s + 1) b (by omega) hb)
noncomputable def mostS (P : pd_T) (kk : Nat → Int32) (cc : Nat → Nat) (n : Nat) : Nat := bestS (fun s => dcd (pfs P kk cc n s)) (2 ^ n - 1) 1 0
theorem m_most (hd : 5 ≤ d) (hp : r_pm P σ) (hwy : r_way P σ) (hm : wms P σ n kk cc) : ∃ D, mm_Runs d 129 (0, [some (.ref 37), none, none], [], HH x σ) (some (.int (nI (mostS P kk cc n))), HH x (ua σ 49 D)) := by
  have h6 := hm.1
  have hn := pm_n42 hp
  have h1 : 1 ≤ 2 ^ n := Nat.one_le_two_pow
  obtain ⟨D, r1, r2⟩ := m_layMeets (d := d - 1) (x := x) (by omega) hp hwy hm
  exact ⟨D, vx_m_mo0_p0 (σ1 := ua σ 49 D) (by omega) r1 (m_mo_h (d := d) (x := x) (σ := ua σ 49 D) (by omega) (pm_wf hp) hn (wms_49 hm) r2 (2 ^ n - 1) 1 0 (by omega) (by omega))⟩
end SZ

