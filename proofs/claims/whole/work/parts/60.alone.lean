/-! alone (written by wip/whole/t60.py) -/
set_option maxRecDepth 100000 in
theorem vx_mo0 {d : Nat} {x : Nat × (Nat → Int32)} {σ : mm_S} {w m : Int32} {r : Option Value × mm_H} (k1 : mm_Runs d 28 (2, [some (.ref 29), some (.int w), some (.int m), some (.int (0 : Int32)), none, none, none, none], [], HH x σ) r) : mm_Runs d 28 (0, [some (.ref 29), some (.int w), some (.int m), none, none, none, none, none], [], HH x σ) r := by
  refine mm_go 2 (F' := (2, [some (.ref 29), some (.int w), some (.int m), some (.int (0 : Int32)), none, none, none, none], [], HH x σ)) rfl ?_
  exact mm_wk (by exact (And.intro rfl (And.intro rfl (And.intro rfl (And.intro rfl True.intro))))) k1
theorem vx_mo0_p0 {d : Nat} {x : Nat × (Nat → Int32)} {σ : mm_S} {w m : Int32} {r : Option Value × mm_H}  (kk : mm_Runs d 28 (2, [some (.ref 29), some (.int w), some (.int m), some (.int (0 : Int32)), none, none, none, none], [], HH x σ) r) : mm_Runs d 28 (0, [some (.ref 29), some (.int w), some (.int m), none, none, none, none, none], [], HH x σ) r := vx_mo0 kk
set_option maxRecDepth 100000 in
theorem vx_moh {d : Nat} {x : Nat × (Nat → Int32)} {σ : mm_S} {w m v : Int32} {r : Option Value × mm_H} (k1 : w ≤ v → (some (.int (0 : Int32)), HH x σ) = r) (k2 : ¬ w ≤ v → ¬ (v < 0 ∨ 6 ≤ v.toNatClampNeg)) (k3 : ¬ w ≤ v → (m - ((σ.2.2.1 34) v.toNatClampNeg)) < 0 → ¬ (((w * (6 : Int32)) + v) < 0 ∨ 36 ≤ ((w * (6 : Int32)) + v).toNatClampNeg)) (k4 : ¬ w ≤ v → (m - ((σ.2.2.1 34) v.toNatClampNeg)) < 0 → (63 : Int32) < (if 0 ≤ (m - ((σ.2.2.1 34) v.toNatClampNeg)) then (m - ((σ.2.2.1 34) v.toNatClampNeg)) else 0 - (m - ((σ.2.2.1 34) v.toNatClampNeg))) → mm_Runs d 28 (2, [some (.ref 29), some (.int w), some (.int m), some (.int (v + (1 : Int32))), none, none, none, none], [], HH x σ) r) (k5 : ¬ w ≤ v → (m - ((σ.2.2.1 34) v.toNatClampNeg)) < 0 → ¬ (63 : Int32) < (if 0 ≤ (m - ((σ.2.2.1 34) v.toNatClampNeg)) then (m - ((σ.2.2.1 34) v.toNatClampNeg)) else 0 - (m - ((σ.2.2.1 34) v.toNatClampNeg))) → (((Int64.toUInt64 ((σ.2.2.2 30) ((w * (6 : Int32)) + v).toNatClampNeg) >>> ((Int32.toInt64 (if 0 ≤ (m - ((σ.2.2.1 34) v.toNatClampNeg)) then (m - ((σ.2.2.1 34) v.toNatClampNeg)) else 0 - (m - ((σ.2.2.1 34) v.toNatClampNeg)))).toUInt64 &&& Int64.toUInt64 63)).toInt64) &&& (1 : Int64)) = (0 : Int64) → mm_Runs d 28 (2, [some (.ref 29), some (.int w), some (.int m), some (.int (v + (1 : Int32))), none, none, none, none], [], HH x σ) r) (k6 : ¬ w ≤ v → (m - ((σ.2.2.1 34) v.toNatClampNeg)) < 0 → ¬ (63 : Int32) < (if 0 ≤ (m - ((σ.2.2.1 34) v.toNatClampNeg)) then (m - ((σ.2.2.1 34) v.toNatClampNeg)) else 0 - (m - ((σ.2.2.1 34) v.toNatClampNeg))) → ¬ (((Int64.toUInt64 ((σ.2.2.2 30) ((w * (6 : Int32)) + v).toNatClampNeg) >>> ((Int32.toInt64 (if 0 ≤ (m - ((σ.2.2.1 34) v.toNatClampNeg)) then (m - ((σ.2.2.1 34) v.toNatClampNeg)) else 0 - (m - ((σ.2.2.1 34) v.toNatClampNeg)))).toUInt64 &&& Int64.toUInt64 63)).toInt64) &&& (1 : Int64)) = (0 : Int64) → (some (.int (1 : Int32)), HH x σ) = r) (k7 : ¬ w ≤ v → ¬ (m - ((σ.2.2.1 34) v.toNatClampNeg)) < 0 → ¬ (((v * (6 : Int32)) + w) < 0 ∨ 36 ≤ ((v * (6 : Int32)) + w).toNatClampNeg)) (k8 : ¬ w ≤ v → ¬ (m - ((σ.2.2.1 34) v.toNatClampNeg)) < 0 → (63 : Int32) < (if 0 ≤ (m - ((σ.2.2.1 34) v.toNatClampNeg)) then (m - ((σ.2.2.1 34) v.toNatClampNeg)) else 0 - (m - ((σ.2.2.1 34) v.toNatClampNeg))) → mm_Runs d 28 (2, [some (.ref 29), some (.int w), some (.int m), some (.int (v + (1 : Int32))), none, none, none, none], [], HH x σ) r) (k9 : ¬ w ≤ v → ¬ (m - ((σ.2.2.1 34) v.toNatClampNeg)) < 0 → ¬ (63 : Int32) < (if 0 ≤ (m - ((σ.2.2.1 34) v.toNatClampNeg)) then (m - ((σ.2.2.1 34) v.toNatClampNeg)) else 0 - (m - ((σ.2.2.1 34) v.toNatClampNeg))) → (((Int64.toUInt64 ((σ.2.2.2 30) ((v * (6 : Int32)) + w).toNatClampNeg) >>> ((Int32.toInt64 (if 0 ≤ (m - ((σ.2.2.1 34) v.toNatClampNeg)) then (m - ((σ.2.2.1 34) v.toNatClampNeg)) else 0 - (m - ((σ.2.2.1 34) v.toNatClampNeg)))).toUInt64 &&& Int64.toUInt64 63)).toInt64) &&& (1 : Int64)) = (0 : Int64) → mm_Runs d 28 (2, [some (.ref 29), some (.int w), some (.int m), some (.int (v + (1 : Int32))), none, none, none, none], [], HH x σ) r) (k10 : ¬ w ≤ v → ¬ (m - ((σ.2.2.1 34) v.toNatClampNeg)) < 0 → ¬ (63 : Int32) < (if 0 ≤ (m - ((σ.2.2.1 34) v.toNatClampNeg)) then (m - ((σ.2.2.1 34) v.toNatClampNeg)) else 0 - (m - ((σ.2.2.1 34) v.toNatClampNeg))) → ¬ (((Int64.toUInt64 ((σ.2.2.2 30) ((v * (6 : Int32)) + w).toNatClampNeg) >>> ((Int32.toInt64 (if 0 ≤ (m - ((σ.2.2.1 34) v.toNatClampNeg)) then (m - ((σ.2.2.1 34) v.toNatClampNeg)) else 0 - (m - ((σ.2.2.1 34) v.toNatClampNeg)))).toUInt64 &&& Int64.toUInt64 63)).toInt64) &&& (1 : Int64)) = (0 : Int64) → (some (.int (1 : Int32)), HH x σ) = r) : mm_Runs d 28 (2, [some (.ref 29), some (.int w), some (.int m), some (.int v), none, none, none, none], [], HH x σ) r := by
  refine mm_go 3 (F' := (bif mm_cond .ge v w then 83 else 7, [some (.ref 29), some (.int w), some (.int m), some (.int v), none, none, none, none], [], HH x σ)) rfl ?_
  refine mb_ge (fun h1 => ?_) (fun h1 => ?_)
  · refine mm_go 1 (F' := (84, [some (.ref 29), some (.int w), some (.int m), some (.int v), none, none, none, none], [.int (0 : Int32)], HH x σ)) rfl ?_
    exact mm_rtz rfl rfl (Or.inl rfl) (k1 h1)
  · refine mm_go 4 (F' := (13, [some (.ref 29), some (.int w), some (.int m), some (.int v), none, none, none, none], [.int v, .ref 34, .int m], HH x σ)) rfl ?_
    refine mm_gd (F' := (14, [some (.ref 29), some (.int w), some (.int m), some (.int v), none, none, none, none], [.int ((σ.2.2.1 34) v.toNatClampNeg), .int m], HH x σ)) rfl (k2 h1) ?_
    refine mm_go 4 (F' := (bif mm_cond .lt (m - ((σ.2.2.1 34) v.toNatClampNeg)) 0 then 36 else 22, [some (.ref 29), some (.int w), some (.int m), some (.int v), some (.int (m - ((σ.2.2.1 34) v.toNatClampNeg))), none, none, none], [], HH x σ)) rfl ?_
    refine mb_lt (fun h2 => ?_) (fun h2 => ?_)
    · refine mm_go 7 (F' := (46, [some (.ref 29), some (.int w), some (.int m), some (.int v), some (.int (m - ((σ.2.2.1 34) v.toNatClampNeg))), none, none, none], [.int ((w * (6 : Int32)) + v), .ref 30], HH x σ)) rfl ?_
      refine mm_gd (F' := (47, [some (.ref 29), some (.int w), some (.int m), some (.int v), some (.int (m - ((σ.2.2.1 34) v.toNatClampNeg))), none, none, none], [.long ((σ.2.2.2 30) ((w * (6 : Int32)) + v).toNatClampNeg)], HH x σ)) rfl (k3 h1 h2) ?_
      refine mm_go 7 (F' := (bif mm_cond .gt (if 0 ≤ (m - ((σ.2.2.1 34) v.toNatClampNeg)) then (m - ((σ.2.2.1 34) v.toNatClampNeg)) else 0 - (m - ((σ.2.2.1 34) v.toNatClampNeg))) (63 : Int32) then 77 else 63, [some (.ref 29), some (.int w), some (.int m), some (.int v), some (.int (m - ((σ.2.2.1 34) v.toNatClampNeg))), some (.long ((σ.2.2.2 30) ((w * (6 : Int32)) + v).toNatClampNeg)), none, some (.int (if 0 ≤ (m - ((σ.2.2.1 34) v.toNatClampNeg)) then (m - ((σ.2.2.1 34) v.toNatClampNeg)) else 0 - (m - ((σ.2.2.1 34) v.toNatClampNeg))))], [], HH x σ)) rfl ?_
      refine mb_gt (fun h3 => ?_) (fun h3 => ?_)
      · refine mm_go 2 (F' := (2, [some (.ref 29), some (.int w), some (.int m), some (.int (v + (1 : Int32))), some (.int (m - ((σ.2.2.1 34) v.toNatClampNeg))), some (.long ((σ.2.2.2 30) ((w * (6 : Int32)) + v).toNatClampNeg)), none, some (.int (if 0 ≤ (m - ((σ.2.2.1 34) v.toNatClampNeg)) then (m - ((σ.2.2.1 34) v.toNatClampNeg)) else 0 - (m - ((σ.2.2.1 34) v.toNatClampNeg))))], [], HH x σ)) rfl ?_
        exact mm_wk (by exact (And.intro rfl (And.intro rfl (And.intro rfl (And.intro rfl True.intro))))) (k4 h1 h2 h3)
      · refine mm_go 8 (F' := (bif mm_cond .eq (lg_cmp (((Int64.toUInt64 ((σ.2.2.2 30) ((w * (6 : Int32)) + v).toNatClampNeg) >>> ((Int32.toInt64 (if 0 ≤ (m - ((σ.2.2.1 34) v.toNatClampNeg)) then (m - ((σ.2.2.1 34) v.toNatClampNeg)) else 0 - (m - ((σ.2.2.1 34) v.toNatClampNeg)))).toUInt64 &&& Int64.toUInt64 63)).toInt64) &&& (1 : Int64)) (0 : Int64)) 0 then 77 else 75, [some (.ref 29), some (.int w), some (.int m), some (.int v), some (.int (m - ((σ.2.2.1 34) v.toNatClampNeg))), some (.long ((σ.2.2.2 30) ((w * (6 : Int32)) + v).toNatClampNeg)), none, some (.int (if 0 ≤ (m - ((σ.2.2.1 34) v.toNatClampNeg)) then (m - ((σ.2.2.1 34) v.toNatClampNeg)) else 0 - (m - ((σ.2.2.1 34) v.toNatClampNeg))))], [], HH x σ)) rfl ?_
        refine mb_leq (fun h4 => ?_) (fun h4 => ?_)
        · refine mm_go 2 (F' := (2, [some (.ref 29), some (.int w), some (.int m), some (.int (v + (1 : Int32))), some (.int (m - ((σ.2.2.1 34) v.toNatClampNeg))), some (.long ((σ.2.2.2 30) ((w * (6 : Int32)) + v).toNatClampNeg)), none, some (.int (if 0 ≤ (m - ((σ.2.2.1 34) v.toNatClampNeg)) then (m - ((σ.2.2.1 34) v.toNatClampNeg)) else 0 - (m - ((σ.2.2.1 34) v.toNatClampNeg))))], [], HH x σ)) rfl ?_
          exact mm_wk (by exact (And.intro rfl (And.intro rfl (And.intro rfl (And.intro rfl True.intro))))) (k5 h1 h2 h3 h4)
        · refine mm_go 1 (F' := (76, [some (.ref 29), some (.int w), some (.int m), some (.int v), some (.int (m - ((σ.2.2.1 34) v.toNatClampNeg))), some (.long ((σ.2.2.2 30) ((w * (6 : Int32)) + v).toNatClampNeg)), none, some (.int (if 0 ≤ (m - ((σ.2.2.1 34) v.toNatClampNeg)) then (m - ((σ.2.2.1 34) v.toNatClampNeg)) else 0 - (m - ((σ.2.2.1 34) v.toNatClampNeg))))], [.int (1 : Int32)], HH x σ)) rfl ?_
          exact mm_rtz rfl rfl (Or.inr rfl) (k6 h1 h2 h3 h4)
    · refine mm_go 7 (F' := (32, [some (.ref 29), some (.int w), some (.int m), some (.int v), some (.int (m - ((σ.2.2.1 34) v.toNatClampNeg))), none, none, none], [.int ((v * (6 : Int32)) + w), .ref 30], HH x σ)) rfl ?_
      refine mm_gd (F' := (33, [some (.ref 29), some (.int w), some (.int m), some (.int v), some (.int (m - ((σ.2.2.1 34) v.toNatClampNeg))), none, none, none], [.long ((σ.2.2.2 30) ((v * (6 : Int32)) + w).toNatClampNeg)], HH x σ)) rfl (k7 h1 h2) ?_
      refine mm_go 8 (F' := (bif mm_cond .gt (if 0 ≤ (m - ((σ.2.2.1 34) v.toNatClampNeg)) then (m - ((σ.2.2.1 34) v.toNatClampNeg)) else 0 - (m - ((σ.2.2.1 34) v.toNatClampNeg))) (63 : Int32) then 77 else 63, [some (.ref 29), some (.int w), some (.int m), some (.int v), some (.int (m - ((σ.2.2.1 34) v.toNatClampNeg))), some (.long ((σ.2.2.2 30) ((v * (6 : Int32)) + w).toNatClampNeg)), none, some (.int (if 0 ≤ (m - ((σ.2.2.1 34) v.toNatClampNeg)) then (m - ((σ.2.2.1 34) v.toNatClampNeg)) else 0 - (m - ((σ.2.2.1 34) v.toNatClampNeg))))], [], HH x σ)) rfl ?_
      refine mb_gt (fun h5 => ?_) (fun h5 => ?_)
      · refine mm_go 2 (F' := (2, [some (.ref 29), some (.int w), some (.int m), some (.int (v + (1 : Int32))), some (.int (m - ((σ.2.2.1 34) v.toNatClampNeg))), some (.long ((σ.2.2.2 30) ((v * (6 : Int32)) + w).toNatClampNeg)), none, some (.int (if 0 ≤ (m - ((σ.2.2.1 34) v.toNatClampNeg)) then (m - ((σ.2.2.1 34) v.toNatClampNeg)) else 0 - (m - ((σ.2.2.1 34) v.toNatClampNeg))))], [], HH x σ)) rfl ?_
        exact mm_wk (by exact (And.intro rfl (And.intro rfl (And.intro rfl (And.intro rfl True.intro))))) (k8 h1 h2 h5)
      · refine mm_go 8 (F' := (bif mm_cond .eq (lg_cmp (((Int64.toUInt64 ((σ.2.2.2 30) ((v * (6 : Int32)) + w).toNatClampNeg) >>> ((Int32.toInt64 (if 0 ≤ (m - ((σ.2.2.1 34) v.toNatClampNeg)) then (m - ((σ.2.2.1 34) v.toNatClampNeg)) else 0 - (m - ((σ.2.2.1 34) v.toNatClampNeg)))).toUInt64 &&& Int64.toUInt64 63)).toInt64) &&& (1 : Int64)) (0 : Int64)) 0 then 77 else 75, [some (.ref 29), some (.int w), some (.int m), some (.int v), some (.int (m - ((σ.2.2.1 34) v.toNatClampNeg))), some (.long ((σ.2.2.2 30) ((v * (6 : Int32)) + w).toNatClampNeg)), none, some (.int (if 0 ≤ (m - ((σ.2.2.1 34) v.toNatClampNeg)) then (m - ((σ.2.2.1 34) v.toNatClampNeg)) else 0 - (m - ((σ.2.2.1 34) v.toNatClampNeg))))], [], HH x σ)) rfl ?_
        refine mb_leq (fun h6 => ?_) (fun h6 => ?_)
        · refine mm_go 2 (F' := (2, [some (.ref 29), some (.int w), some (.int m), some (.int (v + (1 : Int32))), some (.int (m - ((σ.2.2.1 34) v.toNatClampNeg))), some (.long ((σ.2.2.2 30) ((v * (6 : Int32)) + w).toNatClampNeg)), none, some (.int (if 0 ≤ (m - ((σ.2.2.1 34) v.toNatClampNeg)) then (m - ((σ.2.2.1 34) v.toNatClampNeg)) else 0 - (m - ((σ.2.2.1 34) v.toNatClampNeg))))], [], HH x σ)) rfl ?_
          exact mm_wk (by exact (And.intro rfl (And.intro rfl (And.intro rfl (And.intro rfl True.intro))))) (k9 h1 h2 h5 h6)
        · refine mm_go 1 (F' := (76, [some (.ref 29), some (.int w), some (.int m), some (.int v), some (.int (m - ((σ.2.2.1 34) v.toNatClampNeg))), some (.long ((σ.2.2.2 30) ((v * (6 : Int32)) + w).toNatClampNeg)), none, some (.int (if 0 ≤ (m - ((σ.2.2.1 34) v.toNatClampNeg)) then (m - ((σ.2.2.1 34) v.toNatClampNeg)) else 0 - (m - ((σ.2.2.1 34) v.toNatClampNeg))))], [.int (1 : Int32)], HH x σ)) rfl ?_
          exact mm_rtz rfl rfl (Or.inr rfl) (k10 h1 h2 h5 h6)
theorem vx_moh_p0 {d : Nat} {x : Nat × (Nat → Int32)} {σ : mm_S} {w m v : Int32}  (h1 : w ≤ v) : mm_Runs d 28 (2, [some (.ref 29), some (.int w), some (.int m), some (.int v), none, none, none, none], [], HH x σ) (some (.int (0 : Int32)), HH x σ) := vx_moh (fun _ => rfl) (fun  z => absurd h1 z) (fun  z _ => absurd h1 z) (fun  z _ _ => absurd h1 z) (fun  z _ _ _ => absurd h1 z) (fun  z _ _ _ => absurd h1 z) (fun  z _ => absurd h1 z) (fun  z _ _ => absurd h1 z) (fun  z _ _ _ => absurd h1 z) (fun  z _ _ _ => absurd h1 z)
theorem vx_moh_p1 {d : Nat} {x : Nat × (Nat → Int32)} {σ : mm_S} {w m v : Int32} {r : Option Value × mm_H}  (h1 : ¬ w ≤ v) (h2 : (m - ((σ.2.2.1 34) v.toNatClampNeg)) < 0) (h3 : (63 : Int32) < (if 0 ≤ (m - ((σ.2.2.1 34) v.toNatClampNeg)) then (m - ((σ.2.2.1 34) v.toNatClampNeg)) else 0 - (m - ((σ.2.2.1 34) v.toNatClampNeg)))) (g1 : ¬ (v < 0 ∨ 6 ≤ v.toNatClampNeg)) (g2 : ¬ (((w * (6 : Int32)) + v) < 0 ∨ 36 ≤ ((w * (6 : Int32)) + v).toNatClampNeg)) (kk : mm_Runs d 28 (2, [some (.ref 29), some (.int w), some (.int m), some (.int (v + (1 : Int32))), none, none, none, none], [], HH x σ) r) : mm_Runs d 28 (2, [some (.ref 29), some (.int w), some (.int m), some (.int v), none, none, none, none], [], HH x σ) r := vx_moh (fun  z => absurd z h1) (fun _ => g1) (fun _ _ => g2) (fun _ _ _ => kk) (fun _ _ z _ => absurd h3 z) (fun _ _ z _ => absurd h3 z) (fun _ z => absurd h2 z) (fun _ z _ => absurd h2 z) (fun _ z _ _ => absurd h2 z) (fun _ z _ _ => absurd h2 z)
theorem vx_moh_p2 {d : Nat} {x : Nat × (Nat → Int32)} {σ : mm_S} {w m v : Int32} {r : Option Value × mm_H}  (h1 : ¬ w ≤ v) (h2 : (m - ((σ.2.2.1 34) v.toNatClampNeg)) < 0) (h3 : ¬ (63 : Int32) < (if 0 ≤ (m - ((σ.2.2.1 34) v.toNatClampNeg)) then (m - ((σ.2.2.1 34) v.toNatClampNeg)) else 0 - (m - ((σ.2.2.1 34) v.toNatClampNeg)))) (h4 : (((Int64.toUInt64 ((σ.2.2.2 30) ((w * (6 : Int32)) + v).toNatClampNeg) >>> ((Int32.toInt64 (if 0 ≤ (m - ((σ.2.2.1 34) v.toNatClampNeg)) then (m - ((σ.2.2.1 34) v.toNatClampNeg)) else 0 - (m - ((σ.2.2.1 34) v.toNatClampNeg)))).toUInt64 &&& Int64.toUInt64 63)).toInt64) &&& (1 : Int64)) = (0 : Int64)) (g1 : ¬ (v < 0 ∨ 6 ≤ v.toNatClampNeg)) (g2 : ¬ (((w * (6 : Int32)) + v) < 0 ∨ 36 ≤ ((w * (6 : Int32)) + v).toNatClampNeg)) (kk : mm_Runs d 28 (2, [some (.ref 29), some (.int w), some (.int m), some (.int (v + (1 : Int32))), none, none, none, none], [], HH x σ) r) : mm_Runs d 28 (2, [some (.ref 29), some (.int w), some (.int m), some (.int v), none, none, none, none], [], HH x σ) r := vx_moh (fun  z => absurd z h1) (fun _ => g1) (fun _ _ => g2) (fun _ _ z => absurd z h3) (fun _ _ _ _ => kk) (fun _ _ _ z => absurd h4 z) (fun _ z => absurd h2 z) (fun _ z _ => absurd h2 z) (fun _ z _ _ => absurd h2 z) (fun _ z _ _ => absurd h2 z)
theorem vx_moh_p3 {d : Nat} {x : Nat × (Nat → Int32)} {σ : mm_S} {w m v : Int32}  (h1 : ¬ w ≤ v) (h2 : (m - ((σ.2.2.1 34) v.toNatClampNeg)) < 0) (h3 : ¬ (63 : Int32) < (if 0 ≤ (m - ((σ.2.2.1 34) v.toNatClampNeg)) then (m - ((σ.2.2.1 34) v.toNatClampNeg)) else 0 - (m - ((σ.2.2.1 34) v.toNatClampNeg)))) (h4 : ¬ (((Int64.toUInt64 ((σ.2.2.2 30) ((w * (6 : Int32)) + v).toNatClampNeg) >>> ((Int32.toInt64 (if 0 ≤ (m - ((σ.2.2.1 34) v.toNatClampNeg)) then (m - ((σ.2.2.1 34) v.toNatClampNeg)) else 0 - (m - ((σ.2.2.1 34) v.toNatClampNeg)))).toUInt64 &&& Int64.toUInt64 63)).toInt64) &&& (1 : Int64)) = (0 : Int64)) (g1 : ¬ (v < 0 ∨ 6 ≤ v.toNatClampNeg)) (g2 : ¬ (((w * (6 : Int32)) + v) < 0 ∨ 36 ≤ ((w * (6 : Int32)) + v).toNatClampNeg)) : mm_Runs d 28 (2, [some (.ref 29), some (.int w), some (.int m), some (.int v), none, none, none, none], [], HH x σ) (some (.int (1 : Int32)), HH x σ) := vx_moh (fun  z => absurd z h1) (fun _ => g1) (fun _ _ => g2) (fun _ _ z => absurd z h3) (fun _ _ _ z => absurd z h4) (fun _ _ _ _ => rfl) (fun _ z => absurd h2 z) (fun _ z _ => absurd h2 z) (fun _ z _ _ => absurd h2 z) (fun _ z _ _ => absurd h2 z)
theorem vx_moh_p4 {d : Nat} {x : Nat × (Nat → Int32)} {σ : mm_S} {w m v : Int32} {r : Option Value × mm_H}  (h1 : ¬ w ≤ v) (h2 : ¬ (m - ((σ.2.2.1 34) v.toNatClampNeg)) < 0) (h3 : (63 : Int32) < (if 0 ≤ (m - ((σ.2.2.1 34) v.toNatClampNeg)) then (m - ((σ.2.2.1 34) v.toNatClampNeg)) else 0 - (m - ((σ.2.2.1 34) v.toNatClampNeg)))) (g1 : ¬ (v < 0 ∨ 6 ≤ v.toNatClampNeg)) (g2 : ¬ (((v * (6 : Int32)) + w) < 0 ∨ 36 ≤ ((v * (6 : Int32)) + w).toNatClampNeg)) (kk : mm_Runs d 28 (2, [some (.ref 29), some (.int w), some (.int m), some (.int (v + (1 : Int32))), none, none, none, none], [], HH x σ) r) : mm_Runs d 28 (2, [some (.ref 29), some (.int w), some (.int m), some (.int v), none, none, none, none], [], HH x σ) r := vx_moh (fun  z => absurd z h1) (fun _ => g1) (fun _ z => absurd z h2) (fun _ z _ => absurd z h2) (fun _ z _ _ => absurd z h2) (fun _ z _ _ => absurd z h2) (fun _ _ => g2) (fun _ _ _ => kk) (fun _ _ z _ => absurd h3 z) (fun _ _ z _ => absurd h3 z)
theorem vx_moh_p5 {d : Nat} {x : Nat × (Nat → Int32)} {σ : mm_S} {w m v : Int32} {r : Option Value × mm_H}  (h1 : ¬ w ≤ v) (h2 : ¬ (m - ((σ.2.2.1 34) v.toNatClampNeg)) < 0) (h3 : ¬ (63 : Int32) < (if 0 ≤ (m - ((σ.2.2.1 34) v.toNatClampNeg)) then (m - ((σ.2.2.1 34) v.toNatClampNeg)) else 0 - (m - ((σ.2.2.1 34) v.toNatClampNeg)))) (h4 : (((Int64.toUInt64 ((σ.2.2.2 30) ((v * (6 : Int32)) + w).toNatClampNeg) >>> ((Int32.toInt64 (if 0 ≤ (m - ((σ.2.2.1 34) v.toNatClampNeg)) then (m - ((σ.2.2.1 34) v.toNatClampNeg)) else 0 - (m - ((σ.2.2.1 34) v.toNatClampNeg)))).toUInt64 &&& Int64.toUInt64 63)).toInt64) &&& (1 : Int64)) = (0 : Int64)) (g1 : ¬ (v < 0 ∨ 6 ≤ v.toNatClampNeg)) (g2 : ¬ (((v * (6 : Int32)) + w) < 0 ∨ 36 ≤ ((v * (6 : Int32)) + w).toNatClampNeg)) (kk : mm_Runs d 28 (2, [some (.ref 29), some (.int w), some (.int m), some (.int (v + (1 : Int32))), none, none, none, none], [], HH x σ) r) : mm_Runs d 28 (2, [some (.ref 29), some (.int w), some (.int m), some (.int v), none, none, none, none], [], HH x σ) r := vx_moh (fun  z => absurd z h1) (fun _ => g1) (fun _ z => absurd z h2) (fun _ z _ => absurd z h2) (fun _ z _ _ => absurd z h2) (fun _ z _ _ => absurd z h2) (fun _ _ => g2) (fun _ _ z => absurd z h3) (fun _ _ _ _ => kk) (fun _ _ _ z => absurd h4 z)
theorem vx_moh_p6 {d : Nat} {x : Nat × (Nat → Int32)} {σ : mm_S} {w m v : Int32}  (h1 : ¬ w ≤ v) (h2 : ¬ (m - ((σ.2.2.1 34) v.toNatClampNeg)) < 0) (h3 : ¬ (63 : Int32) < (if 0 ≤ (m - ((σ.2.2.1 34) v.toNatClampNeg)) then (m - ((σ.2.2.1 34) v.toNatClampNeg)) else 0 - (m - ((σ.2.2.1 34) v.toNatClampNeg)))) (h4 : ¬ (((Int64.toUInt64 ((σ.2.2.2 30) ((v * (6 : Int32)) + w).toNatClampNeg) >>> ((Int32.toInt64 (if 0 ≤ (m - ((σ.2.2.1 34) v.toNatClampNeg)) then (m - ((σ.2.2.1 34) v.toNatClampNeg)) else 0 - (m - ((σ.2.2.1 34) v.toNatClampNeg)))).toUInt64 &&& Int64.toUInt64 63)).toInt64) &&& (1 : Int64)) = (0 : Int64)) (g1 : ¬ (v < 0 ∨ 6 ≤ v.toNatClampNeg)) (g2 : ¬ (((v * (6 : Int32)) + w) < 0 ∨ 36 ≤ ((v * (6 : Int32)) + w).toNatClampNeg)) : mm_Runs d 28 (2, [some (.ref 29), some (.int w), some (.int m), some (.int v), none, none, none, none], [], HH x σ) (some (.int (1 : Int32)), HH x σ) := vx_moh (fun  z => absurd z h1) (fun _ => g1) (fun _ z => absurd z h2) (fun _ z _ => absurd z h2) (fun _ z _ _ => absurd z h2) (fun _ z _ _ => absurd z h2) (fun _ _ => g2) (fun _ _ z => absurd z h3) (fun _ _ _ z => absurd z h4) (fun _ _ _ _ => rfl)
set_option maxRecDepth 100000 in
theorem vx_tt0 {d : Nat} {x : Nat × (Nat → Int32)} {σ : mm_S} {n : Int32} {r : Option Value × mm_H} (k1 : mm_Runs d 27 (4, [some (.ref 29), some (.int n), some (.int (0 : Int32)), some (.int (0 : Int32)), none], [], HH x σ) r) : mm_Runs d 27 (0, [some (.ref 29), some (.int n), none, none, none], [], HH x σ) r := by
  refine mm_go 4 (F' := (4, [some (.ref 29), some (.int n), some (.int (0 : Int32)), some (.int (0 : Int32)), none], [], HH x σ)) rfl ?_
  exact mm_wk (by exact (And.intro rfl (And.intro rfl (And.intro rfl (And.intro rfl True.intro))))) k1
theorem vx_tt0_p0 {d : Nat} {x : Nat × (Nat → Int32)} {σ : mm_S} {n : Int32} {r : Option Value × mm_H}  (kk : mm_Runs d 27 (4, [some (.ref 29), some (.int n), some (.int (0 : Int32)), some (.int (0 : Int32)), none], [], HH x σ) r) : mm_Runs d 27 (0, [some (.ref 29), some (.int n), none, none, none], [], HH x σ) r := vx_tt0 kk
set_option maxRecDepth 100000 in
theorem vx_ttw {d : Nat} {x : Nat × (Nat → Int32)} {σ : mm_S} {n l w : Int32} {r : Option Value × mm_H} (k1 : n ≤ w → (some (.int l), HH x σ) = r) (k2 : ¬ n ≤ w → mm_Runs d 27 (12, [some (.ref 29), some (.int n), some (.int l), some (.int w), some (.int (0 : Int32))], [], HH x σ) r) : mm_Runs d 27 (4, [some (.ref 29), some (.int n), some (.int l), some (.int w), none], [], HH x σ) r := by
  refine mm_go 3 (F' := (bif mm_cond .ge w n then 57 else 9, [some (.ref 29), some (.int n), some (.int l), some (.int w), none], [], HH x σ)) rfl ?_
  refine mb_ge (fun h1 => ?_) (fun h1 => ?_)
  · refine mm_go 1 (F' := (58, [some (.ref 29), some (.int n), some (.int l), some (.int w), none], [.int l], HH x σ)) rfl ?_
    exact mm_rt rfl rfl (k1 h1)
  · refine mm_go 2 (F' := (12, [some (.ref 29), some (.int n), some (.int l), some (.int w), some (.int (0 : Int32))], [], HH x σ)) rfl ?_
    exact mm_wk (by exact (And.intro rfl (And.intro rfl (And.intro rfl (And.intro rfl (And.intro rfl True.intro)))))) (k2 h1)
theorem vx_ttw_p0 {d : Nat} {x : Nat × (Nat → Int32)} {σ : mm_S} {n l w : Int32}  (h1 : n ≤ w) : mm_Runs d 27 (4, [some (.ref 29), some (.int n), some (.int l), some (.int w), none], [], HH x σ) (some (.int l), HH x σ) := vx_ttw (fun _ => rfl) (fun  z => absurd h1 z)
theorem vx_ttw_p1 {d : Nat} {x : Nat × (Nat → Int32)} {σ : mm_S} {n l w : Int32} {r : Option Value × mm_H}  (h1 : ¬ n ≤ w) (kk : mm_Runs d 27 (12, [some (.ref 29), some (.int n), some (.int l), some (.int w), some (.int (0 : Int32))], [], HH x σ) r) : mm_Runs d 27 (4, [some (.ref 29), some (.int n), some (.int l), some (.int w), none], [], HH x σ) r := vx_ttw (fun  z => absurd z h1) (fun _ => kk)
set_option maxRecDepth 100000 in
theorem vx_ttm {d : Nat} {x : Nat × (Nat → Int32)} {σ : mm_S} {n l w m : Int32}  {v1 : Int32} {r : Option Value × mm_H} (hd : 1 ≤ d) (k1 : (1000 : Int32) ≤ m → ¬ (w < 0 ∨ 6 ≤ w.toNatClampNeg)) (k2 : (1000 : Int32) ≤ m → mm_Runs d 27 (4, [some (.ref 29), some (.int n), some (.int (if l < m then m else l)), some (.int (w + (1 : Int32))), none], [], HH x (ua σ 34 (upd (σ.2.2.1 34) w.toNatClampNeg m))) r) (k3 : ¬ (1000 : Int32) ≤ m → mm_Runs (d - 1) 28 (0, [some (.ref 29), some (.int w), some (.int m), none, none, none, none, none], [], HH x σ) (some (.int v1), HH x σ)) (k4 : ¬ (1000 : Int32) ≤ m → v1 = 0 → ¬ (w < 0 ∨ 6 ≤ w.toNatClampNeg)) (k5 : ¬ (1000 : Int32) ≤ m → v1 = 0 → mm_Runs d 27 (4, [some (.ref 29), some (.int n), some (.int (if l < m then m else l)), some (.int (w + (1 : Int32))), none], [], HH x (ua σ 34 (upd (σ.2.2.1 34) w.toNatClampNeg m))) r) (k6 : ¬ (1000 : Int32) ≤ m → ¬ v1 = 0 → mm_Runs d 27 (12, [some (.ref 29), some (.int n), some (.int l), some (.int w), some (.int (m + (1 : Int32)))], [], HH x σ) r) : mm_Runs d 27 (12, [some (.ref 29), some (.int n), some (.int l), some (.int w), some (.int m)], [], HH x σ) r := by
  refine mm_go 3 (F' := (bif mm_cond .ge m (1000 : Int32) then 36 else 20, [some (.ref 29), some (.int n), some (.int l), some (.int w), some (.int m)], [], HH x σ)) rfl ?_
  refine mb_ge (fun h1 => ?_) (fun h1 => ?_)
  · refine mm_go 4 (F' := (43, [some (.ref 29), some (.int n), some (.int l), some (.int w), some (.int m)], [.int m, .int w, .ref 34], HH x σ)) rfl ?_
    refine mm_gd (F' := (44, [some (.ref 29), some (.int n), some (.int l), some (.int w), some (.int m)], [], HH x (ua σ 34 (upd (σ.2.2.1 34) w.toNatClampNeg m)))) rfl (k1 h1) ?_
    refine mm_go 6 (F' := (4, [some (.ref 29), some (.int n), some (.int (if l < m then m else l)), some (.int (w + (1 : Int32))), some (.int m)], [], HH x (ua σ 34 (upd (σ.2.2.1 34) w.toNatClampNeg m)))) rfl ?_
    exact mm_wk (by exact (And.intro rfl (And.intro rfl (And.intro rfl (And.intro rfl True.intro))))) (k2 h1)
  · refine mm_go 3 (F' := (24, [some (.ref 29), some (.int n), some (.int l), some (.int w), some (.int m)], [.int m, .int w, .ref 29], HH x σ)) rfl ?_
    refine mm_kl (z := 28) (as := [.ref 29, .int w, .int m]) (S' := []) (L2 := [some (.ref 29), some (.int w), some (.int m), none, none, none, none, none]) (v := some (.int v1)) (h1 := HH x σ) rfl rfl rfl rfl rfl (by omega) (k3 h1) ?_
    show mm_Runs d 27 (27, [some (.ref 29), some (.int n), some (.int l), some (.int w), some (.int m)], [.int v1], HH x σ) r
    refine mm_go 1 (F' := (bif mm_cond .eq v1 0 then 36 else 30, [some (.ref 29), some (.int n), some (.int l), some (.int w), some (.int m)], [], HH x σ)) rfl ?_
    refine mb_eq (fun h2 => ?_) (fun h2 => ?_)
    · refine mm_go 4 (F' := (43, [some (.ref 29), some (.int n), some (.int l), some (.int w), some (.int m)], [.int m, .int w, .ref 34], HH x σ)) rfl ?_
      refine mm_gd (F' := (44, [some (.ref 29), some (.int n), some (.int l), some (.int w), some (.int m)], [], HH x (ua σ 34 (upd (σ.2.2.1 34) w.toNatClampNeg m)))) rfl (k4 h1 h2) ?_
      refine mm_go 6 (F' := (4, [some (.ref 29), some (.int n), some (.int (if l < m then m else l)), some (.int (w + (1 : Int32))), some (.int m)], [], HH x (ua σ 34 (upd (σ.2.2.1 34) w.toNatClampNeg m)))) rfl ?_
      exact mm_wk (by exact (And.intro rfl (And.intro rfl (And.intro rfl (And.intro rfl True.intro))))) (k5 h1 h2)
    · refine mm_go 2 (F' := (12, [some (.ref 29), some (.int n), some (.int l), some (.int w), some (.int (m + (1 : Int32)))], [], HH x σ)) rfl ?_
      exact mm_wk (by exact (And.intro rfl (And.intro rfl (And.intro rfl (And.intro rfl (And.intro rfl True.intro)))))) (k6 h1 h2)
theorem vx_ttm_p0 {d : Nat} {x : Nat × (Nat → Int32)} {σ : mm_S} {n l w m : Int32}  {v1 : Int32} {r : Option Value × mm_H} (hd : 1 ≤ d) (h1 : (1000 : Int32) ≤ m) (g1 : ¬ (w < 0 ∨ 6 ≤ w.toNatClampNeg)) (kk : mm_Runs d 27 (4, [some (.ref 29), some (.int n), some (.int (if l < m then m else l)), some (.int (w + (1 : Int32))), none], [], HH x (ua σ 34 (upd (σ.2.2.1 34) w.toNatClampNeg m))) r) : mm_Runs d 27 (12, [some (.ref 29), some (.int n), some (.int l), some (.int w), some (.int m)], [], HH x σ) r := vx_ttm (v1 := v1) hd (fun _ => g1) (fun _ => kk) (fun  z => absurd h1 z) (fun  z _ => absurd h1 z) (fun  z _ => absurd h1 z) (fun  z _ => absurd h1 z)
theorem vx_ttm_p1 {d : Nat} {x : Nat × (Nat → Int32)} {σ : mm_S} {n l w m : Int32}  {v1 : Int32} {r : Option Value × mm_H} (hd : 1 ≤ d) (h1 : ¬ (1000 : Int32) ≤ m) (h2 : v1 = 0) (g1 : mm_Runs (d - 1) 28 (0, [some (.ref 29), some (.int w), some (.int m), none, none, none, none, none], [], HH x σ) (some (.int v1), HH x σ)) (g2 : ¬ (w < 0 ∨ 6 ≤ w.toNatClampNeg)) (kk : mm_Runs d 27 (4, [some (.ref 29), some (.int n), some (.int (if l < m then m else l)), some (.int (w + (1 : Int32))), none], [], HH x (ua σ 34 (upd (σ.2.2.1 34) w.toNatClampNeg m))) r) : mm_Runs d 27 (12, [some (.ref 29), some (.int n), some (.int l), some (.int w), some (.int m)], [], HH x σ) r := vx_ttm (v1 := v1) hd (fun  z => absurd z h1) (fun  z => absurd z h1) (fun _ => g1) (fun _ _ => g2) (fun _ _ => kk) (fun _ z => absurd h2 z)
theorem vx_ttm_p2 {d : Nat} {x : Nat × (Nat → Int32)} {σ : mm_S} {n l w m : Int32}  {v1 : Int32} {r : Option Value × mm_H} (hd : 1 ≤ d) (h1 : ¬ (1000 : Int32) ≤ m) (h2 : ¬ v1 = 0) (g1 : mm_Runs (d - 1) 28 (0, [some (.ref 29), some (.int w), some (.int m), none, none, none, none, none], [], HH x σ) (some (.int v1), HH x σ)) (kk : mm_Runs d 27 (12, [some (.ref 29), some (.int n), some (.int l), some (.int w), some (.int (m + (1 : Int32)))], [], HH x σ) r) : mm_Runs d 27 (12, [some (.ref 29), some (.int n), some (.int l), some (.int w), some (.int m)], [], HH x σ) r := vx_ttm (v1 := v1) hd (fun  z => absurd z h1) (fun  z => absurd z h1) (fun _ => g1) (fun _ z => absurd z h2) (fun _ z => absurd z h2) (fun _ _ => kk)
set_option maxRecDepth 100000 in
theorem vx_alone {d : Nat} {x : Nat × (Nat → Int32)} {σ : mm_S} {w : Int32}  {v1 v2 : Int32} {σ1 σ2 : mm_S} {r : Option Value × mm_H} (hd : 1 ≤ d) (k1 : w = (-1 : Int32) → ¬ (σ.1 2003) = 0 → mm_Runs (d - 1) 27 (0, [some (.ref 29), some (.int (σ.1 2003)), none, none, none], [], HH x σ) (some (.int v1), HH x σ1)) (k2 : w = (-1 : Int32) → ¬ (σ.1 2003) = 0 → (some (.int v1), HH x σ1) = r) (k3 : w = (-1 : Int32) → (σ.1 2003) = 0 → (some (.int (-9 : Int32)), HH x σ) = r) (k4 : ¬ w = (-1 : Int32) → (p_has_20 σ w) → ¬ (σ.1 2003) = 0 → mm_Runs (d - 1) 27 (0, [some (.ref 29), some (.int (σ.1 2003)), none, none, none], [], HH x σ) (some (.int v2), HH x σ2)) (k5 : ¬ w = (-1 : Int32) → (p_has_20 σ w) → ¬ (σ.1 2003) = 0 → ¬ (w < 0 ∨ 6 ≤ w.toNatClampNeg)) (k6 : ¬ w = (-1 : Int32) → (p_has_20 σ w) → ¬ (σ.1 2003) = 0 → (some (.int ((σ2.2.2.1 34) w.toNatClampNeg)), HH x σ2) = r) (k7 : ¬ w = (-1 : Int32) → (p_has_20 σ w) → (σ.1 2003) = 0 → (some (.int (-9 : Int32)), HH x σ) = r) (k8 : ¬ w = (-1 : Int32) → ¬ (p_has_20 σ w) → (some (.int (-1 : Int32)), HH x σ) = r) : mm_Runs d 53 (0, [some (.ref 2), some (.int w), none], [], HH x σ) r := by
  refine mm_go 3 (F' := (bif mm_cond .eq w (-1 : Int32) then 18 else 5, [some (.ref 2), some (.int w), none], [], HH x σ)) rfl ?_
  refine mb_eq (fun h1 => ?_) (fun h1 => ?_)
  · refine mm_go 4 (F' := (bif mm_cond .ne (σ.1 2003) 0 then 31 else 28, [some (.ref 2), some (.int w), none], [], HH x σ)) rfl ?_
    refine mb_ne (fun h2 => ?_) (fun h2 => ?_)
    · refine mm_go 5 (F' := (42, [some (.ref 2), some (.int w), none], [.int (σ.1 2003), .ref 29], HH x σ)) rfl ?_
      refine mm_kl (z := 27) (as := [.ref 29, .int (σ.1 2003)]) (S' := []) (L2 := [some (.ref 29), some (.int (σ.1 2003)), none, none, none]) (v := some (.int v1)) (h1 := HH x σ1) rfl rfl rfl rfl rfl (by omega) (k1 h1 h2) ?_
      show mm_Runs d 53 (45, [some (.ref 2), some (.int w), none], [.int v1], HH x σ1) r
      refine mm_go 4 (F' := (bif mm_cond .ne w (-1 : Int32) then 55 else 51, [some (.ref 2), some (.int w), some (.int v1)], [], HH x σ1)) rfl ?_
      refine mb_ne (fun h3 => absurd h1 h3) (fun _ => ?_)
      refine mm_go 2 (F' := (64, [some (.ref 2), some (.int w), some (.int v1)], [.int v1], HH x σ1)) rfl ?_
      exact mm_rt rfl rfl (k2 h1 h2)
    · refine mm_go 1 (F' := (30, [some (.ref 2), some (.int w), none], [.int (-9 : Int32)], HH x σ)) rfl ?_
      exact mm_rt rfl rfl (k3 h1 h2)
  · refine mm_go 3 (F' := (10, [some (.ref 2), some (.int w), none], [.int w, .ref 20], HH x σ)) rfl ?_
    refine mm_kl (z := 0) (as := [.ref 20, .int w]) (S' := []) (L2 := [some (.ref 20), some (.int w)]) (v := some (.int (mm_b (p_has_20 σ w)))) (h1 := HH x σ) rfl rfl rfl rfl rfl (by omega) (r_has_20 (by omega)) ?_
    show mm_Runs d 53 (13, [some (.ref 2), some (.int w), none], [.int (mm_b (p_has_20 σ w))], HH x σ) r
    refine mm_go 1 (F' := (bif mm_cond .ne (mm_b (p_has_20 σ w)) 0 then 18 else 16, [some (.ref 2), some (.int w), none], [], HH x σ)) rfl ?_
    refine mb_bne (fun h4 => ?_) (fun h4 => ?_)
    · refine mm_go 4 (F' := (bif mm_cond .ne (σ.1 2003) 0 then 31 else 28, [some (.ref 2), some (.int w), none], [], HH x σ)) rfl ?_
      refine mb_ne (fun h5 => ?_) (fun h5 => ?_)
      · refine mm_go 5 (F' := (42, [some (.ref 2), some (.int w), none], [.int (σ.1 2003), .ref 29], HH x σ)) rfl ?_
        refine mm_kl (z := 27) (as := [.ref 29, .int (σ.1 2003)]) (S' := []) (L2 := [some (.ref 29), some (.int (σ.1 2003)), none, none, none]) (v := some (.int v2)) (h1 := HH x σ2) rfl rfl rfl rfl rfl (by omega) (k4 h1 h4 h5) ?_
        show mm_Runs d 53 (45, [some (.ref 2), some (.int w), none], [.int v2], HH x σ2) r
        refine mm_go 4 (F' := (bif mm_cond .ne w (-1 : Int32) then 55 else 51, [some (.ref 2), some (.int w), some (.int v2)], [], HH x σ2)) rfl ?_
        refine mb_ne (fun _ => ?_) (fun h6 => absurd h6 h1)
        refine mm_go 4 (F' := (63, [some (.ref 2), some (.int w), some (.int v2)], [.int w, .ref 34], HH x σ2)) rfl ?_
        refine mm_gd (F' := (64, [some (.ref 2), some (.int w), some (.int v2)], [.int ((σ2.2.2.1 34) w.toNatClampNeg)], HH x σ2)) rfl (k5 h1 h4 h5) ?_
        exact mm_rt rfl rfl (k6 h1 h4 h5)
      · refine mm_go 1 (F' := (30, [some (.ref 2), some (.int w), none], [.int (-9 : Int32)], HH x σ)) rfl ?_
        exact mm_rt rfl rfl (k7 h1 h4 h5)
    · refine mm_go 1 (F' := (17, [some (.ref 2), some (.int w), none], [.int (-1 : Int32)], HH x σ)) rfl ?_
      exact mm_rt rfl rfl (k8 h1 h4)
theorem vx_alone_p0 {d : Nat} {x : Nat × (Nat → Int32)} {σ : mm_S} {w : Int32}  {v1 v2 : Int32} {σ1 σ2 : mm_S} (hd : 1 ≤ d) (h1 : w = (-1 : Int32)) (h2 : ¬ (σ.1 2003) = 0) (g1 : mm_Runs (d - 1) 27 (0, [some (.ref 29), some (.int (σ.1 2003)), none, none, none], [], HH x σ) (some (.int v1), HH x σ1)) : mm_Runs d 53 (0, [some (.ref 2), some (.int w), none], [], HH x σ) (some (.int v1), HH x σ1) := vx_alone (v1 := v1) (v2 := v2) (σ1 := σ1) (σ2 := σ2) hd (fun _ _ => g1) (fun _ _ => rfl) (fun _ z => absurd z h2) (fun  z _ _ => absurd h1 z) (fun  z _ _ => absurd h1 z) (fun  z _ _ => absurd h1 z) (fun  z _ _ => absurd h1 z) (fun  z _ => absurd h1 z)
theorem vx_alone_p1 {d : Nat} {x : Nat × (Nat → Int32)} {σ : mm_S} {w : Int32}  {v1 v2 : Int32} {σ1 σ2 : mm_S} (hd : 1 ≤ d) (h1 : w = (-1 : Int32)) (h2 : (σ.1 2003) = 0) : mm_Runs d 53 (0, [some (.ref 2), some (.int w), none], [], HH x σ) (some (.int (-9 : Int32)), HH x σ) := vx_alone (v1 := v1) (v2 := v2) (σ1 := σ1) (σ2 := σ2) hd (fun _ z => absurd h2 z) (fun _ z => absurd h2 z) (fun _ _ => rfl) (fun  z _ _ => absurd h1 z) (fun  z _ _ => absurd h1 z) (fun  z _ _ => absurd h1 z) (fun  z _ _ => absurd h1 z) (fun  z _ => absurd h1 z)
theorem vx_alone_p2 {d : Nat} {x : Nat × (Nat → Int32)} {σ : mm_S} {w : Int32}  {v1 v2 : Int32} {σ1 σ2 : mm_S} (hd : 1 ≤ d) (h1 : ¬ w = (-1 : Int32)) (h2 : (p_has_20 σ w)) (h3 : ¬ (σ.1 2003) = 0) (g1 : mm_Runs (d - 1) 27 (0, [some (.ref 29), some (.int (σ.1 2003)), none, none, none], [], HH x σ) (some (.int v2), HH x σ2)) (g2 : ¬ (w < 0 ∨ 6 ≤ w.toNatClampNeg)) : mm_Runs d 53 (0, [some (.ref 2), some (.int w), none], [], HH x σ) (some (.int ((σ2.2.2.1 34) w.toNatClampNeg)), HH x σ2) := vx_alone (v1 := v1) (v2 := v2) (σ1 := σ1) (σ2 := σ2) hd (fun  z _ => absurd z h1) (fun  z _ => absurd z h1) (fun  z _ => absurd z h1) (fun _ _ _ => g1) (fun _ _ _ => g2) (fun _ _ _ => rfl) (fun _ _ z => absurd z h3) (fun _ z => absurd h2 z)
theorem vx_alone_p3 {d : Nat} {x : Nat × (Nat → Int32)} {σ : mm_S} {w : Int32}  {v1 v2 : Int32} {σ1 σ2 : mm_S} (hd : 1 ≤ d) (h1 : ¬ w = (-1 : Int32)) (h2 : (p_has_20 σ w)) (h3 : (σ.1 2003) = 0) : mm_Runs d 53 (0, [some (.ref 2), some (.int w), none], [], HH x σ) (some (.int (-9 : Int32)), HH x σ) := vx_alone (v1 := v1) (v2 := v2) (σ1 := σ1) (σ2 := σ2) hd (fun  z _ => absurd z h1) (fun  z _ => absurd z h1) (fun  z _ => absurd z h1) (fun _ _ z => absurd h3 z) (fun _ _ z => absurd h3 z) (fun _ _ z => absurd h3 z) (fun _ _ _ => rfl) (fun _ z => absurd h2 z)
theorem vx_alone_p4 {d : Nat} {x : Nat × (Nat → Int32)} {σ : mm_S} {w : Int32}  {v1 v2 : Int32} {σ1 σ2 : mm_S} (hd : 1 ≤ d) (h1 : ¬ w = (-1 : Int32)) (h2 : ¬ (p_has_20 σ w)) : mm_Runs d 53 (0, [some (.ref 2), some (.int w), none], [], HH x σ) (some (.int (-1 : Int32)), HH x σ) := vx_alone (v1 := v1) (v2 := v2) (σ1 := σ1) (σ2 := σ2) hd (fun  z _ => absurd z h1) (fun  z _ => absurd z h1) (fun  z _ => absurd z h1) (fun _ z _ => absurd z h2) (fun _ z _ => absurd z h2) (fun _ z _ => absurd z h2) (fun _ z _ => absurd z h2) (fun _ _ => rfl)
set_option maxRecDepth 100000 in
theorem vx_m_mb0 {d : Nat} {x : Nat × (Nat → Int32)} {σ : mm_S} {s w m h : Int32} {r : Option Value × mm_H} (k1 : mm_Runs d 131 (3, [some (.ref 37), some (.int s), some (.int w), some (.int m), some (.int h), some (.int (0 : Int32))], [], HH x σ) r) : mm_Runs d 131 (0, [some (.ref 37), some (.int s), some (.int w), some (.int m), some (.int h), none], [], HH x σ) r := by
  refine mm_go 2 (F' := (3, [some (.ref 37), some (.int s), some (.int w), some (.int m), some (.int h), some (.int (0 : Int32))], [], HH x σ)) rfl ?_
  exact mm_wk (by exact (And.intro rfl (And.intro rfl (And.intro rfl (And.intro rfl (And.intro rfl (And.intro rfl True.intro))))))) k1
theorem vx_m_mb0_p0 {d : Nat} {x : Nat × (Nat → Int32)} {σ : mm_S} {s w m h : Int32} {r : Option Value × mm_H}  (kk : mm_Runs d 131 (3, [some (.ref 37), some (.int s), some (.int w), some (.int m), some (.int h), some (.int (0 : Int32))], [], HH x σ) r) : mm_Runs d 131 (0, [some (.ref 37), some (.int s), some (.int w), some (.int m), some (.int h), none], [], HH x σ) r := vx_m_mb0 kk
set_option maxRecDepth 100000 in
theorem vx_m_mbh {d : Nat} {x : Nat × (Nat → Int32)} {σ : mm_S} {s w m h a : Int32}  {v1 : Int32} {r : Option Value × mm_H} (hd : 1 ≤ d) (k1 : h ≤ a → (some (.int (1 : Int32)), HH x σ) = r) (k2 : ¬ h ≤ a → ¬ ((s >>> (a &&& 31)) &&& (1 : Int32)) = (1 : Int32) → mm_Runs d 131 (3, [some (.ref 37), some (.int s), some (.int w), some (.int m), some (.int h), some (.int (a + (1 : Int32)))], [], HH x σ) r) (k3 : ¬ h ≤ a → ((s >>> (a &&& 31)) &&& (1 : Int32)) = (1 : Int32) → a = w → mm_Runs d 131 (3, [some (.ref 37), some (.int s), some (.int w), some (.int m), some (.int h), some (.int (a + (1 : Int32)))], [], HH x σ) r) (k4 : ¬ h ≤ a → ((s >>> (a &&& 31)) &&& (1 : Int32)) = (1 : Int32) → ¬ a = w → ¬ (a < 0 ∨ 6 ≤ a.toNatClampNeg)) (k5 : ¬ h ≤ a → ((s >>> (a &&& 31)) &&& (1 : Int32)) = (1 : Int32) → ¬ a = w → mm_Runs (d - 1) 123 (0, [some (.ref 37), some (.int a), some (.int w), some (.int (m - ((σ.2.2.1 50) a.toNatClampNeg)))], [], HH x σ) (some (.int v1), HH x σ)) (k6 : ¬ h ≤ a → ((s >>> (a &&& 31)) &&& (1 : Int32)) = (1 : Int32) → ¬ a = w → v1 = 0 → mm_Runs d 131 (3, [some (.ref 37), some (.int s), some (.int w), some (.int m), some (.int h), some (.int (a + (1 : Int32)))], [], HH x σ) r) (k7 : ¬ h ≤ a → ((s >>> (a &&& 31)) &&& (1 : Int32)) = (1 : Int32) → ¬ a = w → ¬ v1 = 0 → (some (.int (0 : Int32)), HH x σ) = r) : mm_Runs d 131 (3, [some (.ref 37), some (.int s), some (.int w), some (.int m), some (.int h), some (.int a)], [], HH x σ) r := by
  refine mm_go 3 (F' := (bif mm_cond .ge a h then 53 else 10, [some (.ref 37), some (.int s), some (.int w), some (.int m), some (.int h), some (.int a)], [], HH x σ)) rfl ?_
  refine mb_ge (fun h1 => ?_) (fun h1 => ?_)
  · refine mm_go 1 (F' := (54, [some (.ref 37), some (.int s), some (.int w), some (.int m), some (.int h), some (.int a)], [.int (1 : Int32)], HH x σ)) rfl ?_
    exact mm_rtz rfl rfl (Or.inr rfl) (k1 h1)
  · refine mm_go 7 (F' := (bif mm_cond .ne ((s >>> (a &&& 31)) &&& (1 : Int32)) (1 : Int32) then 47 else 20, [some (.ref 37), some (.int s), some (.int w), some (.int m), some (.int h), some (.int a)], [], HH x σ)) rfl ?_
    refine mb_ne (fun h2 => ?_) (fun h2 => ?_)
    · refine mm_go 2 (F' := (3, [some (.ref 37), some (.int s), some (.int w), some (.int m), some (.int h), some (.int (a + (1 : Int32)))], [], HH x σ)) rfl ?_
      exact mm_wk (by exact (And.intro rfl (And.intro rfl (And.intro rfl (And.intro rfl (And.intro rfl (And.intro rfl True.intro))))))) (k2 h1 h2)
    · refine mm_go 3 (F' := (bif mm_cond .eq a w then 47 else 26, [some (.ref 37), some (.int s), some (.int w), some (.int m), some (.int h), some (.int a)], [], HH x σ)) rfl ?_
      refine mb_eq (fun h3 => ?_) (fun h3 => ?_)
      · refine mm_go 2 (F' := (3, [some (.ref 37), some (.int s), some (.int w), some (.int m), some (.int h), some (.int (a + (1 : Int32)))], [], HH x σ)) rfl ?_
        exact mm_wk (by exact (And.intro rfl (And.intro rfl (And.intro rfl (And.intro rfl (And.intro rfl (And.intro rfl True.intro))))))) (k3 h1 h2 h3)
      · refine mm_go 7 (F' := (37, [some (.ref 37), some (.int s), some (.int w), some (.int m), some (.int h), some (.int a)], [.int a, .ref 50, .int m, .int w, .int a, .ref 37], HH x σ)) rfl ?_
        refine mm_gd (F' := (38, [some (.ref 37), some (.int s), some (.int w), some (.int m), some (.int h), some (.int a)], [.int ((σ.2.2.1 50) a.toNatClampNeg), .int m, .int w, .int a, .ref 37], HH x σ)) rfl (k4 h1 h2 h3) ?_
        refine mm_go 1 (F' := (39, [some (.ref 37), some (.int s), some (.int w), some (.int m), some (.int h), some (.int a)], [.int (m - ((σ.2.2.1 50) a.toNatClampNeg)), .int w, .int a, .ref 37], HH x σ)) rfl ?_
        refine mm_kl (z := 123) (as := [.ref 37, .int a, .int w, .int (m - ((σ.2.2.1 50) a.toNatClampNeg))]) (S' := []) (L2 := [some (.ref 37), some (.int a), some (.int w), some (.int (m - ((σ.2.2.1 50) a.toNatClampNeg)))]) (v := some (.int v1)) (h1 := HH x σ) rfl rfl rfl rfl rfl (by omega) (k5 h1 h2 h3) ?_
        show mm_Runs d 131 (42, [some (.ref 37), some (.int s), some (.int w), some (.int m), some (.int h), some (.int a)], [.int v1], HH x σ) r
        refine mm_go 1 (F' := (bif mm_cond .eq v1 0 then 47 else 45, [some (.ref 37), some (.int s), some (.int w), some (.int m), some (.int h), some (.int a)], [], HH x σ)) rfl ?_
        refine mb_eq (fun h4 => ?_) (fun h4 => ?_)
        · refine mm_go 2 (F' := (3, [some (.ref 37), some (.int s), some (.int w), some (.int m), some (.int h), some (.int (a + (1 : Int32)))], [], HH x σ)) rfl ?_
          exact mm_wk (by exact (And.intro rfl (And.intro rfl (And.intro rfl (And.intro rfl (And.intro rfl (And.intro rfl True.intro))))))) (k6 h1 h2 h3 h4)
        · refine mm_go 1 (F' := (46, [some (.ref 37), some (.int s), some (.int w), some (.int m), some (.int h), some (.int a)], [.int (0 : Int32)], HH x σ)) rfl ?_
          exact mm_rtz rfl rfl (Or.inl rfl) (k7 h1 h2 h3 h4)
theorem vx_m_mbh_p0 {d : Nat} {x : Nat × (Nat → Int32)} {σ : mm_S} {s w m h a : Int32}  {v1 : Int32} (hd : 1 ≤ d) (h1 : h ≤ a) : mm_Runs d 131 (3, [some (.ref 37), some (.int s), some (.int w), some (.int m), some (.int h), some (.int a)], [], HH x σ) (some (.int (1 : Int32)), HH x σ) := vx_m_mbh (v1 := v1) hd (fun _ => rfl) (fun  z _ => absurd h1 z) (fun  z _ _ => absurd h1 z) (fun  z _ _ => absurd h1 z) (fun  z _ _ => absurd h1 z) (fun  z _ _ _ => absurd h1 z) (fun  z _ _ _ => absurd h1 z)
theorem vx_m_mbh_p1 {d : Nat} {x : Nat × (Nat → Int32)} {σ : mm_S} {s w m h a : Int32}  {v1 : Int32} {r : Option Value × mm_H} (hd : 1 ≤ d) (h1 : ¬ h ≤ a) (h2 : ¬ ((s >>> (a &&& 31)) &&& (1 : Int32)) = (1 : Int32)) (kk : mm_Runs d 131 (3, [some (.ref 37), some (.int s), some (.int w), some (.int m), some (.int h), some (.int (a + (1 : Int32)))], [], HH x σ) r) : mm_Runs d 131 (3, [some (.ref 37), some (.int s), some (.int w), some (.int m), some (.int h), some (.int a)], [], HH x σ) r := vx_m_mbh (v1 := v1) hd (fun  z => absurd z h1) (fun _ _ => kk) (fun _ z _ => absurd z h2) (fun _ z _ => absurd z h2) (fun _ z _ => absurd z h2) (fun _ z _ _ => absurd z h2) (fun _ z _ _ => absurd z h2)
theorem vx_m_mbh_p2 {d : Nat} {x : Nat × (Nat → Int32)} {σ : mm_S} {s w m h a : Int32}  {v1 : Int32} {r : Option Value × mm_H} (hd : 1 ≤ d) (h1 : ¬ h ≤ a) (h2 : ((s >>> (a &&& 31)) &&& (1 : Int32)) = (1 : Int32)) (h3 : a = w) (kk : mm_Runs d 131 (3, [some (.ref 37), some (.int s), some (.int w), some (.int m), some (.int h), some (.int (a + (1 : Int32)))], [], HH x σ) r) : mm_Runs d 131 (3, [some (.ref 37), some (.int s), some (.int w), some (.int m), some (.int h), some (.int a)], [], HH x σ) r := vx_m_mbh (v1 := v1) hd (fun  z => absurd z h1) (fun _ z => absurd h2 z) (fun _ _ _ => kk) (fun _ _ z => absurd h3 z) (fun _ _ z => absurd h3 z) (fun _ _ z _ => absurd h3 z) (fun _ _ z _ => absurd h3 z)
theorem vx_m_mbh_p3 {d : Nat} {x : Nat × (Nat → Int32)} {σ : mm_S} {s w m h a : Int32}  {v1 : Int32} {r : Option Value × mm_H} (hd : 1 ≤ d) (h1 : ¬ h ≤ a) (h2 : ((s >>> (a &&& 31)) &&& (1 : Int32)) = (1 : Int32)) (h3 : ¬ a = w) (h4 : v1 = 0) (g1 : ¬ (a < 0 ∨ 6 ≤ a.toNatClampNeg)) (g2 : mm_Runs (d - 1) 123 (0, [some (.ref 37), some (.int a), some (.int w), some (.int (m - ((σ.2.2.1 50) a.toNatClampNeg)))], [], HH x σ) (some (.int v1), HH x σ)) (kk : mm_Runs d 131 (3, [some (.ref 37), some (.int s), some (.int w), some (.int m), some (.int h), some (.int (a + (1 : Int32)))], [], HH x σ) r) : mm_Runs d 131 (3, [some (.ref 37), some (.int s), some (.int w), some (.int m), some (.int h), some (.int a)], [], HH x σ) r := vx_m_mbh (v1 := v1) hd (fun  z => absurd z h1) (fun _ z => absurd h2 z) (fun _ _ z => absurd z h3) (fun _ _ _ => g1) (fun _ _ _ => g2) (fun _ _ _ _ => kk) (fun _ _ _ z => absurd h4 z)
theorem vx_m_mbh_p4 {d : Nat} {x : Nat × (Nat → Int32)} {σ : mm_S} {s w m h a : Int32}  {v1 : Int32} (hd : 1 ≤ d) (h1 : ¬ h ≤ a) (h2 : ((s >>> (a &&& 31)) &&& (1 : Int32)) = (1 : Int32)) (h3 : ¬ a = w) (h4 : ¬ v1 = 0) (g1 : ¬ (a < 0 ∨ 6 ≤ a.toNatClampNeg)) (g2 : mm_Runs (d - 1) 123 (0, [some (.ref 37), some (.int a), some (.int w), some (.int (m - ((σ.2.2.1 50) a.toNatClampNeg)))], [], HH x σ) (some (.int v1), HH x σ)) : mm_Runs d 131 (3, [some (.ref 37), some (.int s), some (.int w), some (.int m), some (.int h), some (.int a)], [], HH x σ) (some (.int (0 : Int32)), HH x σ) := vx_m_mbh (v1 := v1) hd (fun  z => absurd z h1) (fun _ z => absurd h2 z) (fun _ _ z => absurd z h3) (fun _ _ _ => g1) (fun _ _ _ => g2) (fun _ _ _ z => absurd z h4) (fun _ _ _ _ => rfl)
set_option maxRecDepth 100000 in
theorem vx_m_al0 {d : Nat} {x : Nat × (Nat → Int32)} {σ : mm_S} {w : Int32}  {σ1 σ2 : mm_S} {r : Option Value × mm_H} (hd : 1 ≤ d) (k1 : w = (-1 : Int32) → mm_Runs (d - 1) 124 (0, [some (.ref 37), none, none, none], [], HH x σ) (none, HH x σ1)) (k2 : w = (-1 : Int32) → mm_Runs d 135 (24, [some (.ref 37), some (.int w), some (.int (-9 : Int32)), some (.int (0 : Int32))], [], HH x σ1) r) (k3 : ¬ w = (-1 : Int32) → (p_m_isWish σ w) → mm_Runs (d - 1) 124 (0, [some (.ref 37), none, none, none], [], HH x σ) (none, HH x σ2)) (k4 : ¬ w = (-1 : Int32) → (p_m_isWish σ w) → mm_Runs d 135 (24, [some (.ref 37), some (.int w), some (.int (-9 : Int32)), some (.int (0 : Int32))], [], HH x σ2) r) (k5 : ¬ w = (-1 : Int32) → ¬ (p_m_isWish σ w) → (some (.int (-1 : Int32)), HH x σ) = r) : mm_Runs d 135 (0, [some (.ref 37), some (.int w), none, none], [], HH x σ) r := by
  refine mm_go 3 (F' := (bif mm_cond .eq w (-1 : Int32) then 15 else 5, [some (.ref 37), some (.int w), none, none], [], HH x σ)) rfl ?_
  refine mb_eq (fun h1 => ?_) (fun h1 => ?_)
  · refine mm_go 1 (F' := (16, [some (.ref 37), some (.int w), none, none], [.ref 37], HH x σ)) rfl ?_
    refine mm_kl (z := 124) (as := [.ref 37]) (S' := []) (L2 := [some (.ref 37), none, none, none]) (v := none) (h1 := HH x σ1) rfl rfl rfl rfl rfl (by omega) (k1 h1) ?_
    show mm_Runs d 135 (19, [some (.ref 37), some (.int w), none, none], [], HH x σ1) r
    refine mm_go 4 (F' := (24, [some (.ref 37), some (.int w), some (.int (-9 : Int32)), some (.int (0 : Int32))], [], HH x σ1)) rfl ?_
    exact mm_wk (by exact (And.intro rfl (And.intro rfl (And.intro rfl (And.intro rfl True.intro))))) (k2 h1)
  · refine mm_go 2 (F' := (7, [some (.ref 37), some (.int w), none, none], [.int w, .ref 37], HH x σ)) rfl ?_
    refine mm_kl (z := 118) (as := [.ref 37, .int w]) (S' := []) (L2 := [some (.ref 37), some (.int w)]) (v := some (.int (mm_b (p_m_isWish σ w)))) (h1 := HH x σ) rfl rfl rfl rfl rfl (by omega) (r_m_isWish (by omega)) ?_
    show mm_Runs d 135 (10, [some (.ref 37), some (.int w), none, none], [.int (mm_b (p_m_isWish σ w))], HH x σ) r
    refine mm_go 1 (F' := (bif mm_cond .ne (mm_b (p_m_isWish σ w)) 0 then 15 else 13, [some (.ref 37), some (.int w), none, none], [], HH x σ)) rfl ?_
    refine mb_bne (fun h2 => ?_) (fun h2 => ?_)
    · refine mm_go 1 (F' := (16, [some (.ref 37), some (.int w), none, none], [.ref 37], HH x σ)) rfl ?_
      refine mm_kl (z := 124) (as := [.ref 37]) (S' := []) (L2 := [some (.ref 37), none, none, none]) (v := none) (h1 := HH x σ2) rfl rfl rfl rfl rfl (by omega) (k3 h1 h2) ?_
      show mm_Runs d 135 (19, [some (.ref 37), some (.int w), none, none], [], HH x σ2) r
      refine mm_go 4 (F' := (24, [some (.ref 37), some (.int w), some (.int (-9 : Int32)), some (.int (0 : Int32))], [], HH x σ2)) rfl ?_
      exact mm_wk (by exact (And.intro rfl (And.intro rfl (And.intro rfl (And.intro rfl True.intro))))) (k4 h1 h2)
    · refine mm_go 1 (F' := (14, [some (.ref 37), some (.int w), none, none], [.int (-1 : Int32)], HH x σ)) rfl ?_
      exact mm_rt rfl rfl (k5 h1 h2)
theorem vx_m_al0_p0 {d : Nat} {x : Nat × (Nat → Int32)} {σ : mm_S} {w : Int32}  {σ1 σ2 : mm_S} {r : Option Value × mm_H} (hd : 1 ≤ d) (h1 : w = (-1 : Int32)) (g1 : mm_Runs (d - 1) 124 (0, [some (.ref 37), none, none, none], [], HH x σ) (none, HH x σ1)) (kk : mm_Runs d 135 (24, [some (.ref 37), some (.int w), some (.int (-9 : Int32)), some (.int (0 : Int32))], [], HH x σ1) r) : mm_Runs d 135 (0, [some (.ref 37), some (.int w), none, none], [], HH x σ) r := vx_m_al0 (σ1 := σ1) (σ2 := σ2) hd (fun _ => g1) (fun _ => kk) (fun  z _ => absurd h1 z) (fun  z _ => absurd h1 z) (fun  z _ => absurd h1 z)
theorem vx_m_al0_p1 {d : Nat} {x : Nat × (Nat → Int32)} {σ : mm_S} {w : Int32}  {σ1 σ2 : mm_S} {r : Option Value × mm_H} (hd : 1 ≤ d) (h1 : ¬ w = (-1 : Int32)) (h2 : (p_m_isWish σ w)) (g1 : mm_Runs (d - 1) 124 (0, [some (.ref 37), none, none, none], [], HH x σ) (none, HH x σ2)) (kk : mm_Runs d 135 (24, [some (.ref 37), some (.int w), some (.int (-9 : Int32)), some (.int (0 : Int32))], [], HH x σ2) r) : mm_Runs d 135 (0, [some (.ref 37), some (.int w), none, none], [], HH x σ) r := vx_m_al0 (σ1 := σ1) (σ2 := σ2) hd (fun  z => absurd z h1) (fun  z => absurd z h1) (fun _ _ => g1) (fun _ _ => kk) (fun _ z => absurd h2 z)
theorem vx_m_al0_p2 {d : Nat} {x : Nat × (Nat → Int32)} {σ : mm_S} {w : Int32}  {σ1 σ2 : mm_S} (hd : 1 ≤ d) (h1 : ¬ w = (-1 : Int32)) (h2 : ¬ (p_m_isWish σ w)) : mm_Runs d 135 (0, [some (.ref 37), some (.int w), none, none], [], HH x σ) (some (.int (-1 : Int32)), HH x σ) := vx_m_al0 (σ1 := σ1) (σ2 := σ2) hd (fun  z => absurd z h1) (fun  z => absurd z h1) (fun _ z => absurd z h2) (fun _ z => absurd z h2) (fun _ _ => rfl)
set_option maxRecDepth 100000 in
theorem vx_m_ala {d : Nat} {x : Nat × (Nat → Int32)} {σ : mm_S} {w l a : Int32} {r : Option Value × mm_H} (k1 : (σ.1 3720) ≤ a → ¬ w = (-1 : Int32) → ¬ (w < 0 ∨ 6 ≤ w.toNatClampNeg)) (k2 : (σ.1 3720) ≤ a → ¬ w = (-1 : Int32) → (some (.int ((σ.2.2.1 50) w.toNatClampNeg)), HH x σ) = r) (k3 : (σ.1 3720) ≤ a → w = (-1 : Int32) → (some (.int l), HH x σ) = r) (k4 : ¬ (σ.1 3720) ≤ a → ¬ (a < 0 ∨ 6 ≤ a.toNatClampNeg)) (k5 : ¬ (σ.1 3720) ≤ a → mm_Runs d 135 (39, [some (.ref 37), some (.int w), some (.int l), some (.int a)], [], HH x (ua σ 50 (upd (σ.2.2.1 50) a.toNatClampNeg (0 : Int32)))) r) : mm_Runs d 135 (24, [some (.ref 37), some (.int w), some (.int l), some (.int a)], [], HH x σ) r := by
  refine mm_go 4 (F' := (bif mm_cond .ge a (σ.1 3720) then 95 else 32, [some (.ref 37), some (.int w), some (.int l), some (.int a)], [], HH x σ)) rfl ?_
  refine mb_ge (fun h1 => ?_) (fun h1 => ?_)
  · refine mm_go 3 (F' := (bif mm_cond .ne w (-1 : Int32) then 104 else 100, [some (.ref 37), some (.int w), some (.int l), some (.int a)], [], HH x σ)) rfl ?_
    refine mb_ne (fun h2 => ?_) (fun h2 => ?_)
    · refine mm_go 3 (F' := (109, [some (.ref 37), some (.int w), some (.int l), some (.int a)], [.int w, .ref 50], HH x σ)) rfl ?_
      refine mm_gd (F' := (110, [some (.ref 37), some (.int w), some (.int l), some (.int a)], [.int ((σ.2.2.1 50) w.toNatClampNeg)], HH x σ)) rfl (k1 h1 h2) ?_
      exact mm_rt rfl rfl (k2 h1 h2)
    · refine mm_go 2 (F' := (110, [some (.ref 37), some (.int w), some (.int l), some (.int a)], [.int l], HH x σ)) rfl ?_
      exact mm_rt rfl rfl (k3 h1 h2)
  · refine mm_go 4 (F' := (38, [some (.ref 37), some (.int w), some (.int l), some (.int a)], [.int (0 : Int32), .int a, .ref 50], HH x σ)) rfl ?_
    refine mm_gd (F' := (39, [some (.ref 37), some (.int w), some (.int l), some (.int a)], [], HH x (ua σ 50 (upd (σ.2.2.1 50) a.toNatClampNeg (0 : Int32))))) rfl (k4 h1) ?_
    exact mm_wk (by exact (And.intro rfl (And.intro rfl (And.intro rfl (And.intro rfl True.intro))))) (k5 h1)
theorem vx_m_ala_p0 {d : Nat} {x : Nat × (Nat → Int32)} {σ : mm_S} {w l a : Int32}  (h1 : (σ.1 3720) ≤ a) (h2 : ¬ w = (-1 : Int32)) (g1 : ¬ (w < 0 ∨ 6 ≤ w.toNatClampNeg)) : mm_Runs d 135 (24, [some (.ref 37), some (.int w), some (.int l), some (.int a)], [], HH x σ) (some (.int ((σ.2.2.1 50) w.toNatClampNeg)), HH x σ) := vx_m_ala (fun _ _ => g1) (fun _ _ => rfl) (fun _ z => absurd z h2) (fun  z => absurd h1 z) (fun  z => absurd h1 z)
theorem vx_m_ala_p1 {d : Nat} {x : Nat × (Nat → Int32)} {σ : mm_S} {w l a : Int32}  (h1 : (σ.1 3720) ≤ a) (h2 : w = (-1 : Int32)) : mm_Runs d 135 (24, [some (.ref 37), some (.int w), some (.int l), some (.int a)], [], HH x σ) (some (.int l), HH x σ) := vx_m_ala (fun _ z => absurd h2 z) (fun _ z => absurd h2 z) (fun _ _ => rfl) (fun  z => absurd h1 z) (fun  z => absurd h1 z)
theorem vx_m_ala_p2 {d : Nat} {x : Nat × (Nat → Int32)} {σ : mm_S} {w l a : Int32} {r : Option Value × mm_H}  (h1 : ¬ (σ.1 3720) ≤ a) (g1 : ¬ (a < 0 ∨ 6 ≤ a.toNatClampNeg)) (kk : mm_Runs d 135 (39, [some (.ref 37), some (.int w), some (.int l), some (.int a)], [], HH x (ua σ 50 (upd (σ.2.2.1 50) a.toNatClampNeg (0 : Int32)))) r) : mm_Runs d 135 (24, [some (.ref 37), some (.int w), some (.int l), some (.int a)], [], HH x σ) r := vx_m_ala (fun  z _ => absurd z h1) (fun  z _ => absurd z h1) (fun  z _ => absurd z h1) (fun _ => g1) (fun _ => kk)
set_option maxRecDepth 100000 in
theorem vx_m_alm {d : Nat} {x : Nat × (Nat → Int32)} {σ : mm_S} {w l a : Int32}  {v1 : Int32} {r : Option Value × mm_H} (hd : 1 ≤ d) (k1 : ¬ (a < 0 ∨ 6 ≤ a.toNatClampNeg)) (k2 : mm_Runs (d - 1) 131 (0, [some (.ref 37), some (.int (-1 : Int32)), some (.int a), some (.int ((σ.2.2.1 50) a.toNatClampNeg)), some (.int a), none], [], HH x σ) (some (.int v1), HH x σ)) (k3 : ¬ v1 = 0 → ¬ (a < 0 ∨ 6 ≤ a.toNatClampNeg)) (k4 : ¬ v1 = 0 → ((σ.2.2.1 50) a.toNatClampNeg) ≤ l → mm_Runs d 135 (24, [some (.ref 37), some (.int w), some (.int l), some (.int (a + (1 : Int32)))], [], HH x σ) r) (k5 : ¬ v1 = 0 → ¬ ((σ.2.2.1 50) a.toNatClampNeg) ≤ l → ¬ (a < 0 ∨ 6 ≤ a.toNatClampNeg)) (k6 : ¬ v1 = 0 → ¬ ((σ.2.2.1 50) a.toNatClampNeg) ≤ l → mm_Runs d 135 (24, [some (.ref 37), some (.int w), some (.int ((σ.2.2.1 50) a.toNatClampNeg)), some (.int (a + (1 : Int32)))], [], HH x σ) r) (k7 : v1 = 0 → ¬ (a < 0 ∨ 6 ≤ a.toNatClampNeg)) (k8 : v1 = 0 → ¬ (a < 0 ∨ 6 ≤ a.toNatClampNeg)) (k9 : v1 = 0 → mm_Runs d 135 (39, [some (.ref 37), some (.int w), some (.int l), some (.int a)], [], HH x (ua σ 50 (upd (σ.2.2.1 50) a.toNatClampNeg (((σ.2.2.1 50) a.toNatClampNeg) + (1 : Int32))))) r) : mm_Runs d 135 (39, [some (.ref 37), some (.int w), some (.int l), some (.int a)], [], HH x σ) r := by
  refine mm_go 6 (F' := (47, [some (.ref 37), some (.int w), some (.int l), some (.int a)], [.int a, .ref 50, .int a, .int (-1 : Int32), .ref 37], HH x σ)) rfl ?_
  refine mm_gd (F' := (48, [some (.ref 37), some (.int w), some (.int l), some (.int a)], [.int ((σ.2.2.1 50) a.toNatClampNeg), .int a, .int (-1 : Int32), .ref 37], HH x σ)) rfl k1 ?_
  refine mm_go 1 (F' := (49, [some (.ref 37), some (.int w), some (.int l), some (.int a)], [.int a, .int ((σ.2.2.1 50) a.toNatClampNeg), .int a, .int (-1 : Int32), .ref 37], HH x σ)) rfl ?_
  refine mm_kl (z := 131) (as := [.ref 37, .int (-1 : Int32), .int a, .int ((σ.2.2.1 50) a.toNatClampNeg), .int a]) (S' := []) (L2 := [some (.ref 37), some (.int (-1 : Int32)), some (.int a), some (.int ((σ.2.2.1 50) a.toNatClampNeg)), some (.int a), none]) (v := some (.int v1)) (h1 := HH x σ) rfl rfl rfl rfl rfl (by omega) k2 ?_
  show mm_Runs d 135 (52, [some (.ref 37), some (.int w), some (.int l), some (.int a)], [.int v1], HH x σ) r
  refine mm_go 1 (F' := (bif mm_cond .ne v1 0 then 68 else 55, [some (.ref 37), some (.int w), some (.int l), some (.int a)], [], HH x σ)) rfl ?_
  refine mb_ne (fun h1 => ?_) (fun h1 => ?_)
  · refine mm_go 3 (F' := (73, [some (.ref 37), some (.int w), some (.int l), some (.int a)], [.int a, .ref 50], HH x σ)) rfl ?_
    refine mm_gd (F' := (74, [some (.ref 37), some (.int w), some (.int l), some (.int a)], [.int ((σ.2.2.1 50) a.toNatClampNeg)], HH x σ)) rfl (k3 h1) ?_
    refine mm_go 2 (F' := (bif mm_cond .le ((σ.2.2.1 50) a.toNatClampNeg) l then 87 else 78, [some (.ref 37), some (.int w), some (.int l), some (.int a)], [], HH x σ)) rfl ?_
    refine mb_le (fun h2 => ?_) (fun h2 => ?_)
    · refine mm_go 4 (F' := (24, [some (.ref 37), some (.int w), some (.int l), some (.int (a + (1 : Int32)))], [], HH x σ)) rfl ?_
      exact mm_wk (by exact (And.intro rfl (And.intro rfl (And.intro rfl (And.intro rfl True.intro))))) (k4 h1 h2)
    · refine mm_go 3 (F' := (83, [some (.ref 37), some (.int w), some (.int l), some (.int a)], [.int a, .ref 50], HH x σ)) rfl ?_
      refine mm_gd (F' := (84, [some (.ref 37), some (.int w), some (.int l), some (.int a)], [.int ((σ.2.2.1 50) a.toNatClampNeg)], HH x σ)) rfl (k5 h1 h2) ?_
      refine mm_go 4 (F' := (24, [some (.ref 37), some (.int w), some (.int ((σ.2.2.1 50) a.toNatClampNeg)), some (.int (a + (1 : Int32)))], [], HH x σ)) rfl ?_
      exact mm_wk (by exact (And.intro rfl (And.intro rfl (And.intro rfl (And.intro rfl True.intro))))) (k6 h1 h2)
  · refine mm_go 4 (F' := (61, [some (.ref 37), some (.int w), some (.int l), some (.int a)], [.int a, .ref 50, .int a, .ref 50], HH x σ)) rfl ?_
    refine mm_gd (F' := (62, [some (.ref 37), some (.int w), some (.int l), some (.int a)], [.int ((σ.2.2.1 50) a.toNatClampNeg), .int a, .ref 50], HH x σ)) rfl (k7 h1) ?_
    refine mm_go 2 (F' := (64, [some (.ref 37), some (.int w), some (.int l), some (.int a)], [.int (((σ.2.2.1 50) a.toNatClampNeg) + (1 : Int32)), .int a, .ref 50], HH x σ)) rfl ?_
    refine mm_gd (F' := (65, [some (.ref 37), some (.int w), some (.int l), some (.int a)], [], HH x (ua σ 50 (upd (σ.2.2.1 50) a.toNatClampNeg (((σ.2.2.1 50) a.toNatClampNeg) + (1 : Int32)))))) rfl (k8 h1) ?_
    refine mm_go 1 (F' := (39, [some (.ref 37), some (.int w), some (.int l), some (.int a)], [], HH x (ua σ 50 (upd (σ.2.2.1 50) a.toNatClampNeg (((σ.2.2.1 50) a.toNatClampNeg) + (1 : Int32)))))) rfl ?_
    exact mm_wk (by exact (And.intro rfl (And.intro rfl (And.intro rfl (And.intro rfl True.intro))))) (k9 h1)
theorem vx_m_alm_p0 {d : Nat} {x : Nat × (Nat → Int32)} {σ : mm_S} {w l a : Int32}  {v1 : Int32} {r : Option Value × mm_H} (hd : 1 ≤ d) (h1 : ¬ v1 = 0) (h2 : ((σ.2.2.1 50) a.toNatClampNeg) ≤ l) (g1 : ¬ (a < 0 ∨ 6 ≤ a.toNatClampNeg)) (g2 : mm_Runs (d - 1) 131 (0, [some (.ref 37), some (.int (-1 : Int32)), some (.int a), some (.int ((σ.2.2.1 50) a.toNatClampNeg)), some (.int a), none], [], HH x σ) (some (.int v1), HH x σ)) (kk : mm_Runs d 135 (24, [some (.ref 37), some (.int w), some (.int l), some (.int (a + (1 : Int32)))], [], HH x σ) r) : mm_Runs d 135 (39, [some (.ref 37), some (.int w), some (.int l), some (.int a)], [], HH x σ) r := vx_m_alm (v1 := v1) hd g1 g2 (fun _ => g1) (fun _ _ => kk) (fun _ z => absurd h2 z) (fun _ z => absurd h2 z) (fun  z => absurd z h1) (fun  z => absurd z h1) (fun  z => absurd z h1)
theorem vx_m_alm_p1 {d : Nat} {x : Nat × (Nat → Int32)} {σ : mm_S} {w l a : Int32}  {v1 : Int32} {r : Option Value × mm_H} (hd : 1 ≤ d) (h1 : ¬ v1 = 0) (h2 : ¬ ((σ.2.2.1 50) a.toNatClampNeg) ≤ l) (g1 : ¬ (a < 0 ∨ 6 ≤ a.toNatClampNeg)) (g2 : mm_Runs (d - 1) 131 (0, [some (.ref 37), some (.int (-1 : Int32)), some (.int a), some (.int ((σ.2.2.1 50) a.toNatClampNeg)), some (.int a), none], [], HH x σ) (some (.int v1), HH x σ)) (kk : mm_Runs d 135 (24, [some (.ref 37), some (.int w), some (.int ((σ.2.2.1 50) a.toNatClampNeg)), some (.int (a + (1 : Int32)))], [], HH x σ) r) : mm_Runs d 135 (39, [some (.ref 37), some (.int w), some (.int l), some (.int a)], [], HH x σ) r := vx_m_alm (v1 := v1) hd g1 g2 (fun _ => g1) (fun _ z => absurd z h2) (fun _ _ => g1) (fun _ _ => kk) (fun  z => absurd z h1) (fun  z => absurd z h1) (fun  z => absurd z h1)
theorem vx_m_alm_p2 {d : Nat} {x : Nat × (Nat → Int32)} {σ : mm_S} {w l a : Int32}  {v1 : Int32} {r : Option Value × mm_H} (hd : 1 ≤ d) (h1 : v1 = 0) (g1 : ¬ (a < 0 ∨ 6 ≤ a.toNatClampNeg)) (g2 : mm_Runs (d - 1) 131 (0, [some (.ref 37), some (.int (-1 : Int32)), some (.int a), some (.int ((σ.2.2.1 50) a.toNatClampNeg)), some (.int a), none], [], HH x σ) (some (.int v1), HH x σ)) (kk : mm_Runs d 135 (39, [some (.ref 37), some (.int w), some (.int l), some (.int a)], [], HH x (ua σ 50 (upd (σ.2.2.1 50) a.toNatClampNeg (((σ.2.2.1 50) a.toNatClampNeg) + (1 : Int32))))) r) : mm_Runs d 135 (39, [some (.ref 37), some (.int w), some (.int l), some (.int a)], [], HH x σ) r := vx_m_alm (v1 := v1) hd g1 g2 (fun  z => absurd h1 z) (fun  z _ => absurd h1 z) (fun  z _ => absurd h1 z) (fun  z _ => absurd h1 z) (fun _ => g1) (fun _ => g1) (fun _ => kk)
/-- the wishes' minutes, each for itself -/
def grd (P : pd_T) (kk : Nat → Int32) (cc : Nat → Nat) (g : Nat → Nat) (n : Nat) : Prop := ∀ u, u < n → (∀ v, v < u → ¬ CF P kk cc v u (g v) (g u)) ∧ (∀ m, m < g u → ∃ v, v < u ∧ CF P kk cc v u (g v) m) ∧ g u ≤ 42 * u
theorem grd_uni {P : pd_T} {kk : Nat → Int32} {cc : Nat → Nat} {g h : Nat → Nat} {n : Nat} (hg : grd P kk cc g n) (hh : grd P kk cc h n) : ∀ u, u < n → g u = h u := by
  intro u
  induction u using Nat.strongRecOn with
  | ind u ih =>
    intro hu
    have e : ∀ v, v < u → g v = h v := fun v hv => ih v hv (by omega)
    rcases Nat.lt_trichotomy (g u) (h u) with q | q | q
    · obtain ⟨v, v1, v2⟩ := (hh u hu).2.1 (g u) q
      rw [← e v v1] at v2
      exact absurd v2 ((hg u hu).1 v v1)
    · exact q
    · obtain ⟨v, v1, v2⟩ := (hg u hu).2.1 (h u) q
      rw [e v v1] at v2
      exact absurd v2 ((hh u hu).1 v v1)
def mxg (g : Nat → Nat) : Nat → Nat
  | 0 => 0
  | k + 1 => max (mxg g k) (g k)
theorem mxg_cong {g h : Nat → Nat} : ∀ {n : Nat}, (∀ u, u < n → g u = h u) → mxg g n = mxg h n
  | 0, _ => rfl
  | n + 1, e => by
    show max (mxg g n) (g n) = max (mxg h n) (h n)
    rw [mxg_cong (fun u hu => e u (by omega)), e n (by omega)]
theorem mxg_le {g : Nat → Nat} {B : Nat} : ∀ {n : Nat}, (∀ u, u < n → g u ≤ B) → mxg g n ≤ B
  | 0, _ => Nat.zero_le _
  | n + 1, e => Nat.max_le.mpr ⟨mxg_le (fun u hu => e u (by omega)), e n (by omega)⟩
theorem CF_far {P : pd_T} {kk : Nat → Int32} {cc : Nat → Nat} {w u p q : Nat} (hw : pd_wf P) (hn : pd_n P ≤ 42) (h : p + 42 ≤ q) : ¬ CF P kk cc w u p q := by
  rintro (⟨h1, h2⟩ | ⟨h1, h2⟩)
  · have := mt_42 hw hn h2; omega
  · omega
def gset (g : Nat → Nat) (w m : Nat) : Nat → Nat := fun v => if v = w then m else g v
theorem gset_s {g : Nat → Nat} {w m : Nat} : gset g w m w = m := if_pos rfl
theorem gset_n {g : Nat → Nat} {w m v : Nat} (h : v ≠ w) : gset g w m v = g v := if_neg h
theorem grd_set {P : pd_T} {kk : Nat → Int32} {cc : Nat → Nat} {g : Nat → Nat} {w m : Nat} (h : grd P kk cc g w) (h1 : ∀ v, v < w → ¬ CF P kk cc v w (g v) m) (h2 : ∀ m', m' < m → ∃ v, v < w ∧ CF P kk cc v w (g v) m') (h3 : m ≤ 42 * w) : grd P kk cc (gset g w m) (w + 1) := by
  intro u hu
  rcases Nat.lt_or_ge u w with q | q
  · obtain ⟨a1, a2, a3⟩ := h u q
    rw [gset_n (show u ≠ w by omega)]
    refine ⟨fun v hv => ?_, fun m' hm => ?_, a3⟩
    · rw [gset_n (show v ≠ w by omega)]; exact a1 v hv
    · obtain ⟨v, v1, v2⟩ := a2 m' hm
      exact ⟨v, v1, by rw [gset_n (show v ≠ w by omega)]; exact v2⟩
  · have e : u = w := by omega
    subst e
    rw [gset_s]
    refine ⟨fun v hv => ?_, fun m' hm => ?_, h3⟩
    · rw [gset_n (show v ≠ u by omega)]; exact h1 v hv
    · obtain ⟨v, v1, v2⟩ := h2 m' hm
      exact ⟨v, v1, by rw [gset_n (show v ≠ u by omega)]; exact v2⟩
theorem mxg_set {g : Nat → Nat} {w m : Nat} : mxg (gset g w m) (w + 1) = max (mxg g w) m := by
  show max (mxg (gset g w m) w) (gset g w m w) = _
  rw [gset_s, mxg_cong (h := g) (fun u hu => gset_n (by omega))]
section AL
variable {d : Nat} {x : Nat × (Nat → Int32)} {P : pd_T} {σ0 : mm_S} {n : Nat}
theorem abs_f {m p : Nat} (h : p ≤ m) (hm : m < 2 ^ 20) : (if 0 ≤ (nI m - nI p) then (nI m - nI p) else 0 - (nI m - nI p)) = nI (m - p) := by
  rw [pk_sub h, if_pos (nI_pos' (by omega))]
theorem abs_b {m p : Nat} (h : m < p) (hp : p < 2 ^ 20) : (if 0 ≤ (nI m - nI p) then (nI m - nI p) else 0 - (nI m - nI p)) = nI (p - m) := by
  have e := pk_sneg (a := m) (b := p) (by omega) h
  have e2 : ¬ 0 ≤ (nI m - nI p) := fun z => by
    rw [Int32.le_iff_toInt_le] at z
    rw [Int32.lt_iff_toInt_lt] at e
    omega
  rw [if_neg e2, Int32.zero_sub, nI_neg h (by omega)]
theorem c_mo_h {σ : mm_S} {w m : Nat} {g : Nat → Nat} (hwf : pd_wf P) (hn : pd_n P ≤ 42) (ht : ∀ i j, i < n → j < n → i ≠ j → tiA P (kkc σ) (σ.2.2.1 22) (σ.2.2.2 30) (σ.2.2.2 31) i j) (h6 : n ≤ 6) (hw : w < n) (hm : m < 2 ^ 19) (hg : ∀ v, v < w → σ.2.2.1 34 v = nI (g v) ∧ g v < 2 ^ 19) : ∀ (i v : Nat), v + i = w → (∀ v', v' < v → ¬ CF P (kkc σ) (ccc σ) v' w (g v') m) → mm_Runs d 28 (2, [some (.ref 29), some (.int (nI w)), some (.int (nI m)), some (.int (nI v)), none, none, none, none], [], HH x σ) (some (.int (bI (dcd (∃ v, v < w ∧ CF P (kkc σ) (ccc σ) v w (g v) m)))), HH x σ)
  | 0, v, h, hb => by
    rw [dcd_f (fun ⟨v', z1, z2⟩ => hb v' (by omega) z2)]
    exact vx_moh_p0 (nI_le (by omega) (by omega))
  | i + 1, v, h, hb => by
    obtain ⟨g1, g2⟩ := hg v (by omega)
    have cv : (nI v).toNatClampNeg = v := nI_clamp (by omega)
    have eg : σ.2.2.1 34 (nI v).toNatClampNeg = nI (g v) := by rw [cv]; exact g1
    have nw : ¬ nI w ≤ nI v := nI_ge (by omega) (by omega)
    have gv := nI_in (c := v) (N := 6) (by omega) (by omega)
    have next : ¬ CF P (kkc σ) (ccc σ) v w (g v) m → mm_Runs d 28 (2, [some (.ref 29), some (.int (nI w)), some (.int (nI m)), some (.int (nI v + 1)), none, none, none, none], [], HH x σ) (some (.int (bI (dcd (∃ v, v < w ∧ CF P (kkc σ) (ccc σ) v w (g v) m)))), HH x σ) := fun z => by
      rw [nI_1]
      refine c_mo_h hwf hn ht h6 hw hm hg i (v + 1) (by omega) (fun v' hv' => ?_)
      rcases Nat.lt_or_ge v' v with q | q
      · exact hb v' q
      · rw [show v' = v by omega]; exact z
    rcases Nat.lt_or_ge m (g v) with q | q
    · have neg : (nI m - σ.2.2.1 34 (nI v).toNatClampNeg) < 0 := by rw [eg]; exact pk_sneg (by omega) q
      have ea := abs_b q (show g v < 2 ^ 20 by omega)
      have gx : ¬ (((nI w * (6 : Int32)) + nI v) < 0 ∨ 36 ≤ ((nI w * (6 : Int32)) + nI v).toNatClampNeg) := by rw [w6]; exact nI_in (by omega) (by omega)
      have ec : CF P (kkc σ) (ccc σ) v w (g v) m ↔ ws_mt P (kkc σ) (σ.2.2.1 22) w v (g v - m) := by
        unfold CF
        exact ⟨fun z => z.elim (fun z => absurd z.1 (by omega)) (fun z => z.2), fun z => Or.inr ⟨q, z⟩⟩
      by_cases f : 63 < g v - m
      · refine vx_moh_p1 nw neg ?_ gv gx (next (fun z => ?_))
        · rw [eg, ea]; exact nI_lt (a := 63) f (by omega)
        · have := mt_42 hwf hn (ec.mp z); omega
      · have nf : ¬ (63 : Int32) < (if 0 ≤ (nI m - σ.2.2.1 34 (nI v).toNatClampNeg) then (nI m - σ.2.2.1 34 (nI v).toNatClampNeg) else 0 - (nI m - σ.2.2.1 34 (nI v).toNatClampNeg)) := by
          rw [eg, ea]; exact nI_nlt (a := 63) (by omega) (by omega)
        have tst := (ht w v hw (by omega) (by omega) (g v - m) (by omega)).1
        have bb : (((Int64.toUInt64 ((σ.2.2.2 30) ((nI w * (6 : Int32)) + nI v).toNatClampNeg) >>> ((Int32.toInt64 (if 0 ≤ (nI m - ((σ.2.2.1 34) (nI v).toNatClampNeg)) then (nI m - ((σ.2.2.1 34) (nI v).toNatClampNeg)) else 0 - (nI m - ((σ.2.2.1 34) (nI v).toNatClampNeg)))).toUInt64 &&& Int64.toUInt64 63)).toInt64) &&& (1 : Int64)) = (0 : Int64) ↔ bt (σ.2.2.2 30 (6 * w + v)) (g v - m) = false := by
          rw [eg, ea, w6, nI_clamp (by omega)]
          exact bt_test (by omega)
        cases hb2 : bt (σ.2.2.2 30 (6 * w + v)) (g v - m) with
        | false =>
          refine vx_moh_p2 nw neg nf (bb.mpr hb2) gv gx (next (fun z => ?_))
          have := tst.mpr (ec.mp z)
          rw [hb2] at this; cases this
        | true =>
          rw [dcd_t ⟨v, by omega, ec.mpr (tst.mp hb2)⟩]
          exact vx_moh_p3 nw neg nf (fun z => by rw [bb.mp z] at hb2; cases hb2) gv gx
    · have neg : ¬ (nI m - σ.2.2.1 34 (nI v).toNatClampNeg) < 0 := by rw [eg, pk_sub q]; exact nI_pos (by omega)
      have ea := abs_f q (show m < 2 ^ 20 by omega)
      have gx : ¬ (((nI v * (6 : Int32)) + nI w) < 0 ∨ 36 ≤ ((nI v * (6 : Int32)) + nI w).toNatClampNeg) := by rw [w6]; exact nI_in (by omega) (by omega)
      have ec : CF P (kkc σ) (ccc σ) v w (g v) m ↔ ws_mt P (kkc σ) (σ.2.2.1 22) v w (m - g v) := by
        unfold CF
        exact ⟨fun z => z.elim (fun z => z.2) (fun z => absurd z.1 (by omega)), fun z => Or.inl ⟨q, z⟩⟩
      by_cases f : 63 < m - g v
      · refine vx_moh_p4 nw neg ?_ gv gx (next (fun z => ?_))
        · rw [eg, ea]; exact nI_lt (a := 63) f (by omega)
        · have := mt_42 hwf hn (ec.mp z); omega
      · have nf : ¬ (63 : Int32) < (if 0 ≤ (nI m - σ.2.2.1 34 (nI v).toNatClampNeg) then (nI m - σ.2.2.1 34 (nI v).toNatClampNeg) else 0 - (nI m - σ.2.2.1 34 (nI v).toNatClampNeg)) := by
          rw [eg, ea]; exact nI_nlt (a := 63) (by omega) (by omega)
        have tst := (ht v w (by omega) hw (by omega) (m - g v) (by omega)).1
        have bb : (((Int64.toUInt64 ((σ.2.2.2 30) ((nI v * (6 : Int32)) + nI w).toNatClampNeg) >>> ((Int32.toInt64 (if 0 ≤ (nI m - ((σ.2.2.1 34) (nI v).toNatClampNeg)) then (nI m - ((σ.2.2.1 34) (nI v).toNatClampNeg)) else 0 - (nI m - ((σ.2.2.1 34) (nI v).toNatClampNeg)))).toUInt64 &&& Int64.toUInt64 63)).toInt64) &&& (1 : Int64)) = (0 : Int64) ↔ bt (σ.2.2.2 30 (6 * v + w)) (m - g v) = false := by
          rw [eg, ea, w6, nI_clamp (by omega)]
          exact bt_test (by omega)
        cases hb2 : bt (σ.2.2.2 30 (6 * v + w)) (m - g v) with
        | false =>
          refine vx_moh_p5 nw neg nf (bb.mpr hb2) gv gx (next (fun z => ?_))
          have := tst.mpr (ec.mp z)
          rw [hb2] at this; cases this
        | true =>
          rw [dcd_t ⟨v, by omega, ec.mpr (tst.mp hb2)⟩]
          exact vx_moh_p6 nw neg nf (fun z => by rw [bb.mp z] at hb2; cases hb2) gv gx
theorem tiA_SC {σ σ' : mm_S} (h : ∀ i j, i < n → j < n → i ≠ j → tiA P (kkc σ) (σ.2.2.1 22) (σ.2.2.2 30) (σ.2.2.2 31) i j) (s : SC P σ σ') : ∀ i j, i < n → j < n → i ≠ j → tiA P (kkc σ') (σ'.2.2.1 22) (σ'.2.2.2 30) (σ'.2.2.2 31) i j := by
  have e1 : kkc σ' = kkc σ := s.1.2.2.1 21 rfl
  rw [e1, s.1.2.2.1 22 rfl, s.1.2.2.2 30 rfl, s.1.2.2.2 31 rfl]; exact h
theorem c_tt_m {σ : mm_S} {w : Nat} {g : Nat → Nat} {l : Int32} (hd : 1 ≤ d) (hwf : pd_wf P) (hn : pd_n P ≤ 42) (ht : ∀ i j, i < n → j < n → i ≠ j → tiA P (kkc σ) (σ.2.2.1 22) (σ.2.2.2 30) (σ.2.2.2 31) i j) (h6 : n ≤ 6) (hw : w < n) (hg : ∀ v, v < w → σ.2.2.1 34 v = nI (g v)) (hgr : grd P (kkc σ) (ccc σ) g w) : ∀ (i m : Nat), m + i = 42 * w → (∀ m', m' < m → ∃ v, v < w ∧ CF P (kkc σ) (ccc σ) v w (g v) m') → ∃ m', m' ≤ 42 * w ∧ (∀ v, v < w → ¬ CF P (kkc σ) (ccc σ) v w (g v) m') ∧ (∀ m2, m2 < m' → ∃ v, v < w ∧ CF P (kkc σ) (ccc σ) v w (g v) m2) ∧ ∀ r, mm_Runs d 27 (4, [some (.ref 29), some (.int (nI n)), some (.int (if l < nI m' then nI m' else l)), some (.int (nI (w + 1))), none], [], HH x (ua σ 34 (upd (σ.2.2.1 34) w (nI m')))) r → mm_Runs d 27 (12, [some (.ref 29), some (.int (nI n)), some (.int l), some (.int (nI w)), some (.int (nI m))], [], HH x σ) r
  | i, m, h, hb => by
    have cw : (nI w).toNatClampNeg = w := nI_clamp (by omega)
    have gw := nI_in (c := w) (N := 6) (by omega) (by omega)
    have t := vx_mo0_p0 (c_mo_h (d := d - 1) (x := x) (m := m) hwf hn ht h6 hw (by omega) (fun v hv => ⟨hg v hv, by have := (hgr v hv).2.2; omega⟩) w 0 (by omega) (fun v' z => absurd z (by omega)))
    have nm : ¬ (1000 : Int32) ≤ nI m := nI_ge (b := 1000) (by omega) (by omega)
    by_cases z : ∃ v, v < w ∧ CF P (kkc σ) (ccc σ) v w (g v) m
    · rw [dcd_t z] at t
      match i, h with
      | 0, h =>
        obtain ⟨v, z1, z2⟩ := z
        have := (hgr v z1).2.2
        exact absurd z2 (CF_far hwf hn (by omega))
      | i + 1, h =>
        obtain ⟨m', a1, a2, a3, a4⟩ := c_tt_m (l := l) hd hwf hn ht h6 hw hg hgr i (m + 1) (by omega) (fun m2 hm2 => by
          rcases Nat.lt_or_ge m2 m with q | q
          · exact hb m2 q
          · rw [show m2 = m by omega]; exact z)
        exact ⟨m', a1, a2, a3, fun r k => vx_ttm_p2 (v1 := 1) (by omega) nm (by decide) t (by rw [nI_1]; exact a4 r k)⟩
    · rw [dcd_f z] at t
      refine ⟨m, by omega, fun v hv y => z ⟨v, hv, y⟩, hb, fun r k => vx_ttm_p1 (v1 := 0) (by omega) nm rfl t gw ?_⟩
      rw [nI_1, cw]; exact k
theorem mx_if {a b : Nat} (ha : a < 2 ^ 31) (hb : b < 2 ^ 31) : (if nI a < nI b then nI b else nI a) = nI (max a b) := by
  rcases Nat.lt_or_ge a b with q | q
  · rw [if_pos (nI_lt q hb), Nat.max_eq_right (by omega)]
  · rw [if_neg (nI_nlt q ha), Nat.max_eq_left q]
theorem c_tt_w (hd : 1 ≤ d) (h0 : r_rip P σ0) (hwf : pd_wf P) (hn : pd_n P ≤ 42) (ht : ∀ i j, i < n → j < n → i ≠ j → tiA P (kkc σ0) (σ0.2.2.1 22) (σ0.2.2.2 30) (σ0.2.2.2 31) i j) (h6 : n ≤ 6) : ∀ (i w : Nat), w + i = n → ∀ (g : Nat → Nat) (σ : mm_S), SC P σ0 σ → (∀ v, v < w → σ.2.2.1 34 v = nI (g v)) → grd P (kkc σ0) (ccc σ0) g w → ∃ g' σ', SC P σ0 σ' ∧ (∀ v, v < n → σ'.2.2.1 34 v = nI (g' v)) ∧ grd P (kkc σ0) (ccc σ0) g' n ∧ mm_Runs d 27 (4, [some (.ref 29), some (.int (nI n)), some (.int (nI (mxg g w))), some (.int (nI w)), none], [], HH x σ) (some (.int (nI (mxg g' n))), HH x σ')
  | 0, w, h, g, σ, hs, hg, hgr => by
    have e : w = n := by omega
    subst e
    exact ⟨g, σ, hs, hg, hgr, vx_ttw_p0 (nI_le (Nat.le_refl _) (by omega))⟩
  | i + 1, w, h, g, σ, hs, hg, hgr => by
    have ek : kkc σ = kkc σ0 := hs.1.2.2.1 21 rfl
    have ec : ccc σ = ccc σ0 := by unfold ccc; rw [hs.1.2.2.1 22 rfl]
    obtain ⟨m, a1, a2, a3, a4⟩ := c_tt_m (d := d) (x := x) (l := nI (mxg g w)) hd hwf hn (tiA_SC ht hs) h6 (show w < n by omega) hg (by rw [ek, ec]; exact hgr) (42 * w) 0 (by omega) (fun m' z => absurd z (by omega))
    rw [ek, ec] at a2 a3
    have mb : mxg g w ≤ 300 := mxg_le (fun u hu => by have := (hgr u hu).2.2; omega)
    rw [mx_if (by omega) (by omega), ← mxg_set] at a4
    obtain ⟨g', σ', b1, b2, b3, b4⟩ := c_tt_w hd h0 hwf hn ht h6 i (w + 1) (by omega) (gset g w m) (ua σ 34 (upd (σ.2.2.1 34) w (nI m))) ⟨FR_ua rfl hs.1, hs.2⟩ (fun v hv => by
      show upd (σ.2.2.1 34) w (nI m) v = _
      rcases Nat.lt_or_ge v w with q | q
      · rw [pk_un (by omega), gset_n (by omega)]; exact hg v q
      · rw [show v = w by omega, pk_us, gset_s]) (grd_set hgr a2 a3 a1)
    exact ⟨g', σ', b1, b2, b3, vx_ttw_p1 (nI_ge (by omega) (by omega)) (a4 _ b4)⟩
/-! the model -/
theorem m_mb_h {σ : mm_S} {S : Int32} {B : Nat → Bool} {kk : Nat → Int32} {cc : Nat → Nat} {g : Nat → Nat} {w m t : Nat} (hd : 2 ≤ d) (hwf : pd_wf P) (hn : pd_n P ≤ 42) (h6 : n ≤ 6) (hD : dm_ok P kk cc n (σ.2.2.1 49)) (hS : ∀ a, a < 6 → (((S >>> (nI a &&& 31)) &&& 1) = (1 : Int32) ↔ B a = true)) (hw : w < n) (ht : t ≤ n) (hm : m < 2 ^ 19) (hg : ∀ a, a < t → B a = true → a ≠ w → σ.2.2.1 50 a = nI (g a) ∧ g a < 2 ^ 19) : ∀ (i a : Nat), a + i = t → (∀ a', a' < a → B a' = true → a' ≠ w → ¬ CF P kk cc a' w (g a') m) → mm_Runs d 131 (3, [some (.ref 37), some (.int S), some (.int (nI w)), some (.int (nI m)), some (.int (nI t)), some (.int (nI a))], [], HH x σ) (some (.int (bI (dcd (∀ a, a < t → B a = true → a ≠ w → ¬ CF P kk cc a w (g a) m)))), HH x σ)
  | 0, a, h, hb => by
    rw [dcd_t (fun a' z => hb a' (by omega))]
    exact vx_m_mbh_p0 (v1 := 0) (by omega) (nI_le (by omega) (by omega))
  | i + 1, a, h, hb => by
    have na : ¬ nI t ≤ nI a := nI_ge (by omega) (by omega)
    have ca : (nI a).toNatClampNeg = a := nI_clamp (by omega)
    have next : (B a = true → a ≠ w → ¬ CF P kk cc a w (g a) m) → mm_Runs d 131 (3, [some (.ref 37), some (.int S), some (.int (nI w)), some (.int (nI m)), some (.int (nI t)), some (.int (nI a + 1))], [], HH x σ) (some (.int (bI (dcd (∀ a, a < t → B a = true → a ≠ w → ¬ CF P kk cc a w (g a) m)))), HH x σ) := fun z => by
      rw [nI_1]
      refine m_mb_h hd hwf hn h6 hD hS hw ht hm hg i (a + 1) (by omega) (fun a' z1 => ?_)
      rcases Nat.lt_or_ge a' a with q | q
      · exact hb a' q
      · rw [show a' = a by omega]; exact z
    by_cases z1 : B a = true
    · by_cases z2 : a = w
      · exact vx_m_mbh_p2 (v1 := 0) (by omega) na ((hS a (by omega)).mpr z1) (by rw [z2]) (next (fun _ y => absurd z2 y))
      · obtain ⟨g1, g2⟩ := hg a (by omega) z1 z2
        obtain ⟨v, r1, r2⟩ := m_meetBy (d := d - 1) (x := x) (p := g a) (q := m) (by omega) hwf hn h6 hD (show a < n by omega) hw z2 (by omega) (by omega)
        have r1' : mm_Runs (d - 1) 123 (0, [some (.ref 37), some (.int (nI a)), some (.int (nI w)), some (.int (nI m - ((σ.2.2.1 50) (nI a).toNatClampNeg)))], [], HH x σ) (some (.int v), HH x σ) := by rw [ca, g1]; exact r1
        have ne : ¬ nI a = nI w := by rw [nI_eq (by omega) (by omega)]; exact z2
        rcases r2 with ⟨rfl, r2⟩ | ⟨rfl, r2⟩
        · rw [dcd_f (fun y => y a (by omega) z1 z2 r2)]
          exact vx_m_mbh_p4 (v1 := 1) (by omega) na ((hS a (by omega)).mpr z1) ne (by decide) (nI_in (by omega) (by omega)) r1'
        · exact vx_m_mbh_p3 (v1 := 0) (by omega) na ((hS a (by omega)).mpr z1) ne rfl (nI_in (by omega) (by omega)) r1' (next (fun _ _ => r2))
    · exact vx_m_mbh_p1 (v1 := 0) (by omega) na (fun y => z1 ((hS a (by omega)).mp y)) (next (fun y => absurd y z1))
theorem m_mb {σ : mm_S} {S : Int32} {B : Nat → Bool} {kk : Nat → Int32} {cc : Nat → Nat} {g : Nat → Nat} {w m t : Nat} (hd : 2 ≤ d) (hwf : pd_wf P) (hn : pd_n P ≤ 42) (h6 : n ≤ 6) (hD : dm_ok P kk cc n (σ.2.2.1 49)) (hS : ∀ a, a < 6 → (((S >>> (nI a &&& 31)) &&& 1) = (1 : Int32) ↔ B a = true)) (hw : w < n) (ht : t ≤ n) (hm : m < 2 ^ 19) (hg : ∀ a, a < t → B a = true → a ≠ w → σ.2.2.1 50 a = nI (g a) ∧ g a < 2 ^ 19) : mm_Runs d 131 (0, [some (.ref 37), some (.int S), some (.int (nI w)), some (.int (nI m)), some (.int (nI t)), none], [], HH x σ) (some (.int (bI (dcd (∀ a, a < t → B a = true → a ≠ w → ¬ CF P kk cc a w (g a) m)))), HH x σ) := vx_m_mb0_p0 (m_mb_h hd hwf hn h6 hD hS hw ht hm hg t 0 (by omega) (fun a' z => absurd z (by omega)))
theorem sm1 : ∀ a, a < 6 → ((((-1 : Int32) >>> (nI a &&& 31)) &&& 1) = (1 : Int32) ↔ (fun _ => true) a = true) := by decide +kernel
theorem m_al_m {σ : mm_S} {w : Int32} {a : Nat} {g : Nat → Nat} {l : Int32} {kk : Nat → Int32} {cc : Nat → Nat} (hd : 3 ≤ d) (hwf : pd_wf P) (hn : pd_n P ≤ 42) (h6 : n ≤ 6) (hD : dm_ok P kk cc n (σ.2.2.1 49)) (ha : a < n) (hgr : grd P kk cc g a) : ∀ (i m : Nat), m + i = 42 * a → ∀ (M : Nat → Int32), (∀ v, v < a → M v = nI (g v)) → M a = nI m → (∀ m', m' < m → ∃ v, v < a ∧ CF P kk cc v a (g v) m') → ∃ (m' : Nat) (M' : Nat → Int32), m' ≤ 42 * a ∧ (∀ v, v < a → M' v = nI (g v)) ∧ M' a = nI m' ∧ (∀ v, v < a → ¬ CF P kk cc v a (g v) m') ∧ (∀ m2, m2 < m' → ∃ v, v < a ∧ CF P kk cc v a (g v) m2) ∧ ∀ r, mm_Runs d 135 (24, [some (.ref 37), some (.int w), some (.int (if nI m' ≤ l then l else nI m')), some (.int (nI (a + 1)))], [], HH x (ua σ 50 M')) r → mm_Runs d 135 (39, [some (.ref 37), some (.int w), some (.int l), some (.int (nI a))], [], HH x (ua σ 50 M)) r
  | i, m, h, M, hM, hMa, hb => by
    have ca : (nI a).toNatClampNeg = a := nI_clamp (by omega)
    have ga := nI_in (c := a) (N := 6) (by omega) (by omega)
    have e50 : (ua σ 50 M).2.2.1 50 (nI a).toNatClampNeg = nI m := by rw [ca]; exact hMa
    have t := m_mb (d := d - 1) (x := x) (σ := ua σ 50 M) (kk := kk) (cc := cc) (g := g) (m := m) (t := a) (by omega) hwf hn h6 hD sm1 ha (by omega) (by omega) (fun v hv _ _ => ⟨hM v hv, by have := (hgr v hv).2.2; omega⟩)
    rw [← e50] at t
    by_cases z : ∀ v, v < a → true = true → v ≠ a → ¬ CF P kk cc v a (g v) m
    · rw [dcd_t z] at t
      refine ⟨m, M, by omega, hM, hMa, fun v hv => z v hv rfl (by omega), hb, fun r k => ?_⟩
      by_cases y : nI m ≤ l
      · rw [if_pos y] at k
        exact vx_m_alm_p0 (v1 := 1) (by omega) (by decide) (by rw [e50]; exact y) ga t (by rw [nI_1]; exact k)
      · rw [if_neg y] at k
        refine vx_m_alm_p1 (v1 := 1) (by omega) (by decide) (by rw [e50]; exact y) ga t ?_
        rw [nI_1, e50]; exact k
    · rw [dcd_f z] at t
      have z' : ∃ v, v < a ∧ CF P kk cc v a (g v) m := Classical.byContradiction (fun y => z (fun v hv _ _ q => y ⟨v, hv, q⟩))
      match i, h with
      | 0, h =>
        obtain ⟨v, z1, z2⟩ := z'
        have := (hgr v z1).2.2
        exact absurd z2 (CF_far hwf hn (by omega))
      | i + 1, h =>
        obtain ⟨m', M', a1, a2, a3, a4, a5, a6⟩ := m_al_m hd hwf hn h6 hD ha hgr i (m + 1) (by omega) (upd M a (nI (m + 1))) (fun v hv => by rw [pk_un (by omega)]; exact hM v hv) pk_us (fun m2 hm2 => by
          rcases Nat.lt_or_ge m2 m with q | q
          · exact hb m2 q
          · rw [show m2 = m by omega]; exact z')
        refine ⟨m', M', a1, a2, a3, a4, a5, fun r k => vx_m_alm_p2 (v1 := 0) (by omega) rfl ga t ?_⟩
        rw [e50, nI_1, ca]
        have e2 : ua (ua σ 50 M) 50 (upd ((ua σ 50 M).2.2.1 50) a (nI (m + 1))) = ua σ 50 (upd M a (nI (m + 1))) := ua_2 _ _ _ _
        rw [e2]
        exact a6 r k
def lmx (g : Nat → Nat) (n : Nat) : Int32 := if n = 0 then -9 else nI (mxg g n)
theorem lmx_s {g : Nat → Nat} {a m : Nat} (hm : m < 2 ^ 30) (hg : mxg g a < 2 ^ 30) : (if nI m ≤ lmx g a then lmx g a else nI m) = lmx (gset g a m) (a + 1) := by
  unfold lmx
  rw [if_neg (show ¬ a + 1 = 0 by omega), mxg_set]
  by_cases q : a = 0
  · subst q
    rw [if_pos rfl]
    have e : ¬ nI m ≤ -9 := fun z => by
      rw [Int32.le_iff_toInt_le, nI_toInt (by omega), m9_toInt] at z; omega
    rw [if_neg e]
    show nI m = nI (max 0 m)
    rw [Nat.max_eq_right (by omega)]
  · rw [if_neg q]
    rcases Nat.lt_or_ge (mxg g a) m with y | y
    · rw [if_neg (nI_ge y (by omega)), Nat.max_eq_right (by omega)]
    · rw [if_pos (nI_le y (by omega)), Nat.max_eq_left y]
theorem m_al_a {σ : mm_S} {w : Int32} {kk : Nat → Int32} {cc : Nat → Nat} (hd : 3 ≤ d) (hwf : pd_wf P) (hn : pd_n P ≤ 42) (hm : wms P σ n kk cc) (hD : dm_ok P kk cc n (σ.2.2.1 49)) (hw : ¬ w = -1 → ∃ u, u < n ∧ w = nI u) : ∀ (i a : Nat), a + i = n → ∀ (g : Nat → Nat) (M : Nat → Int32), (∀ v, v < a → M v = nI (g v)) → grd P kk cc g a → ∃ g' M', (∀ v, v < n → M' v = nI (g' v)) ∧ grd P kk cc g' n ∧ mm_Runs d 135 (24, [some (.ref 37), some (.int w), some (.int (lmx g a)), some (.int (nI a))], [], HH x (ua σ 50 M)) (some (.int (if w = -1 then lmx g' n else M' w.toNatClampNeg)), HH x (ua σ 50 M'))
  | 0, a, h, g, M, hM, hgr => by
    have h6 := hm.1
    have e : a = n := by omega
    subst e
    have le : (ua σ 50 M).1 3720 ≤ nI a := by
      show σ.1 3720 ≤ nI a
      rw [hm.2.1]; exact nI_le (Nat.le_refl _) (by omega)
    refine ⟨g, M, hM, hgr, ?_⟩
    by_cases z : w = -1
    · rw [if_pos z]; exact vx_m_ala_p1 le z
    · rw [if_neg z]
      obtain ⟨u, u1, rfl⟩ := hw z
      exact vx_m_ala_p0 le z (nI_in (by omega) (by omega))
  | i + 1, a, h, g, M, hM, hgr => by
    have h6 := hm.1
    have le : ¬ (ua σ 50 M).1 3720 ≤ nI a := by
      show ¬ σ.1 3720 ≤ nI a
      rw [hm.2.1]; exact nI_ge (by omega) (by omega)
    have mb : mxg g a ≤ 300 := mxg_le (fun u hu => by have := (hgr u hu).2.2; omega)
    obtain ⟨m, M1, a1, a2, a3, a4, a5, a6⟩ := m_al_m (d := d) (x := x) (w := w) (l := lmx g a) hd hwf hn h6 hD (show a < n by omega) hgr (42 * a) 0 (by omega) (upd M a 0) (fun v hv => by rw [pk_un (by omega)]; exact hM v hv) pk_us (fun m' z => absurd z (by omega))
    rw [lmx_s (by omega) (by omega)] at a6
    obtain ⟨g', M', b1, b2, b3⟩ := m_al_a hd hwf hn hm hD hw i (a + 1) (by omega) (gset g a m) M1 (fun v hv => by
      rcases Nat.lt_or_ge v a with q | q
      · rw [gset_n (by omega)]; exact a2 v q
      · rw [show v = a by omega, gset_s]; exact a3) (grd_set hgr a4 a5 a1)
    refine ⟨g', M', b1, b2, vx_m_ala_p2 le (nI_in (by omega) (by omega)) ?_⟩
    rw [nI_clamp (by omega)]
    have e2 : ua (ua σ 50 M) 50 (upd ((ua σ 50 M).2.2.1 50) a 0) = ua σ 50 (upd M a 0) := ua_2 _ _ _ _
    rw [e2]
    exact a6 _ b3
end AL
theorem RP_tiA {P : pd_T} {ns nw nr : Nat} {σ : mm_S} (h : RP P ns nw nr σ) : ∀ i j, i < nw → j < nw → i ≠ j → tiA P (kkc σ) (σ.2.2.1 22) (σ.2.2.2 30) (σ.2.2.2 31) i j := fun i j hi hj hij e he => (RP_ti h).1 i j hi hj hij e he
theorem ua_mid (σ : mm_S) (D : Nat → Int32) : ua σ 49 D = ua (ua σ 49 D) 50 (σ.2.2.1 50) := (ua_self (ua σ 49 D) 50).symm
theorem op_alone : opI Rel i_X6_alone i_X7_alone 1 := by
  intro x σ as h hr
  obtain ⟨w, rfl⟩ := as_1 h
  obtain ⟨P, ns, nw, nr, hr⟩ := rel_RP.mp hr
  have hwf := pond_wf (RP_p hr)
  have hn := pd_n42 (RP_p hr)
  have hwi := RP_wi hr
  have h6 := hwi.1
  have good : (w = -1 ∨ ∃ u, u < nw ∧ w = nI u) → ∃ (v : Int32) (σ1 σ2 : mm_S), mm_Runs 999 i_X6_alone (0, [some (.ref 2), some (.int w), none], [], HH x σ) (some (.int v), HH x σ1) ∧ mm_Runs 999 i_X7_alone (0, [some (.ref 37), some (.int w), none, none], [], HH x σ1) (some (.int v), HH x σ2) ∧ Rel σ2 := by
    intro hw
    have hwv : ¬ w = -1 → ∃ u, u < nw ∧ w = nI u := fun z => hw.elim (fun y => absurd y z) id
    have ixw : ∀ τ : mm_S, r_wi P nw τ → ¬ w = -1 → p_has_20 τ w ∧ p_m_isWish τ w ∧ ¬ (w < 0 ∨ 6 ≤ w.toNatClampNeg) := fun τ ht z => by
      obtain ⟨u, u1, rfl⟩ := hwv z
      rcases wi_ix ht (nI u) with ⟨y1, y2⟩ | ⟨s, s1, s2, s3, s4⟩
      · exfalso
        refine y1 ⟨nI_pos (by omega), ?_⟩
        rw [ht.2.1]; exact nI_ge u1 (by omega)
      · exact ⟨s3, s4, nI_in (by omega) (by omega)⟩
    have model : ∀ σ1 : mm_S, RP P ns nw nr σ1 → kkc σ1 = kkc σ → ccc σ1 = ccc σ → ∃ (g' : Nat → Nat) (M' : Nat → Int32) (σ2 : mm_S), (∀ v, v < nw → M' v = nI (g' v)) ∧ grd P (kkc σ) (ccc σ) g' nw ∧ mm_Runs 999 i_X7_alone (0, [some (.ref 37), some (.int w), none, none], [], HH x σ1) (some (.int (if w = -1 then lmx g' nw else M' w.toNatClampNeg)), HH x σ2) ∧ Rel σ2 := fun σ1 hr1 ek ec => by
      have wm := wi_ms hwf hn (RP_wi hr1)
      rw [ek, ec] at wm
      obtain ⟨D, r1, r2⟩ := m_layMeets (d := 998) (x := x) (by omega) (RP_pm hr1) (RP_wy hr1) wm
      obtain ⟨g', M', b1, b2, b3⟩ := m_al_a (d := 999) (x := x) (σ := ua σ1 49 D) (w := w) (by omega) hwf hn (wms_49 wm) r2 hwv nw 0 (by omega) (fun _ => 0) (σ1.2.2.1 50) (fun v z => absurd z (by omega)) (fun u z => absurd z (by omega))
      rw [← ua_mid] at b3
      have fin : Rel (ua (ua σ1 49 D) 50 M') := RP_rel (RP_SC hr1 ⟨FR_ua rfl (FR_ua rfl (FR_refl _ _ _ _ _)), (RP_lk hr1).2.2⟩)
      refine ⟨g', M', _, b1, b2, ?_, fin⟩
      by_cases z : w = -1
      · exact vx_m_al0_p0 (σ1 := ua σ1 49 D) (σ2 := σ1) (by decide) z r1 b3
      · exact vx_m_al0_p1 (σ1 := σ1) (σ2 := ua σ1 49 D) (by decide) z (ixw σ1 (RP_wi hr1) z).2.1 r1 b3
    by_cases n0 : nw = 0
    · subst n0
      have e0 : σ.1 2003 = 0 := hwi.2.1
      have z : w = -1 := hw.elim id (fun ⟨u, u1, _⟩ => absurd u1 (by omega))
      obtain ⟨g', M', σ2, b1, b2, b3, b4⟩ := model σ hr rfl rfl
      rw [if_pos z] at b3
      exact ⟨-9, σ, σ2, vx_alone_p1 (v1 := 0) (v2 := 0) (σ1 := σ) (σ2 := σ) (by decide) z e0, b3, b4⟩
    · have e0 : ¬ σ.1 2003 = 0 := by rw [hwi.2.1]; exact nI_ne0 (by omega) (by omega)
      obtain ⟨g, σ1, a1, a2, a3, a4⟩ := c_tt_w (d := 998) (x := x) (by omega) (RP_lk hr).2.2 hwf hn (RP_tiA hr) h6 nw 0 (by omega) (fun _ => 0) σ (SC_refl (RP_lk hr).2.2) (fun v z => absurd z (by omega)) (fun u z => absurd z (by omega))
      have ek : kkc σ1 = kkc σ := a1.1.2.2.1 21 rfl
      have ec : ccc σ1 = ccc σ := by unfold ccc; rw [a1.1.2.2.1 22 rfl]
      obtain ⟨g', M', σ2, b1, b2, b3, b4⟩ := model σ1 (RP_SC hr a1) ek ec
      have eu := grd_uni a3 b2
      have a5 : mm_Runs 998 27 (0, [some (.ref 29), some (.int (σ.1 2003)), none, none, none], [], HH x σ) (some (.int (nI (mxg g nw))), HH x σ1) := by
        rw [hwi.2.1]; exact vx_tt0_p0 a4
      by_cases z : w = -1
      · rw [if_pos z] at b3
        have el : lmx g' nw = nI (mxg g nw) := by unfold lmx; rw [if_neg n0, mxg_cong eu]
        rw [el] at b3
        exact ⟨_, σ1, σ2, vx_alone_p0 (v1 := nI (mxg g nw)) (v2 := 0) (σ1 := σ1) (σ2 := σ) (by decide) z e0 a5, b3, b4⟩
      · rw [if_neg z] at b3
        obtain ⟨u, u1, ue⟩ := hwv z
        have ix := ixw σ hwi z
        have cu : w.toNatClampNeg = u := by rw [ue]; exact nI_clamp (by omega)
        refine ⟨σ1.2.2.1 34 w.toNatClampNeg, σ1, σ2, vx_alone_p2 (v1 := 0) (v2 := nI (mxg g nw)) (σ1 := σ) (σ2 := σ1) (by decide) z ix.1 e0 a5 ix.2.2, ?_, b4⟩
        rw [cu, a2 u u1, eu u u1, ← b1 u u1]
        rw [cu] at b3
        exact b3
  by_cases z : w = -1
  · exact good (Or.inl z)
  · rcases wi_ix hwi w with ⟨q1, q2⟩ | ⟨u, hu, e, q1, q2⟩
    · exact ⟨-1, σ, σ, vx_alone_p4 (v1 := 0) (v2 := 0) (σ1 := σ) (σ2 := σ) (by decide) z q1, vx_m_al0_p2 (σ1 := σ) (σ2 := σ) (by decide) z q2, RP_rel hr⟩
    · exact good (Or.inr ⟨u, hu, e⟩)

