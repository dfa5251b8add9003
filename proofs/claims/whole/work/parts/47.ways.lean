/-! the model: beside, goOn, layWays (written by wip/whole/t47.py) -/
theorem vc_m_bes0 {d : Nat} {x : Nat × (Nat → Int32)} {σ : mm_S} {c : Int32} {r : Option Value × mm_H} (k1 : ¬ (σ.1 3706) = 0) (k2 : ¬ (σ.1 3706) = 0) (k3 : (c / (σ.1 3706)) ≤ 0 → (some (.int (-9 : Int32)), HH x σ) = r) (k4 : ¬ (c / (σ.1 3706)) ≤ 0 → (c - (σ.1 3706)) = (-9 : Int32) → (some (.int (-9 : Int32)), HH x σ) = r) (k5 : ¬ (c / (σ.1 3706)) ≤ 0 → ¬ (c - (σ.1 3706)) = (-9 : Int32) → ¬ ((c - (σ.1 3706)) < 0 ∨ 42 ≤ (c - (σ.1 3706)).toNatClampNeg)) (k6 : ¬ (c / (σ.1 3706)) ≤ 0 → ¬ (c - (σ.1 3706)) = (-9 : Int32) → ¬ ((σ.2.2.1 41) (c - (σ.1 3706)).toNatClampNeg) = 0 → (some (.int (c - (σ.1 3706))), HH x σ) = r) (k7 : ¬ (c / (σ.1 3706)) ≤ 0 → ¬ (c - (σ.1 3706)) = (-9 : Int32) → ((σ.2.2.1 41) (c - (σ.1 3706)).toNatClampNeg) = 0 → (some (.int (-9 : Int32)), HH x σ) = r) : mm_Runs d 99 (0, [some (.ref 37), some (.int c), some (.int (0 : Int32)), none, none, none], [], HH x σ) r := by
  refine mm_go 3 (F' := (5, [some (.ref 37), some (.int c), some (.int (0 : Int32)), none, none, none], [.int (σ.1 3706), .int c], HH x σ)) rfl ?_
  refine mm_gd (F' := (6, [some (.ref 37), some (.int c), some (.int (0 : Int32)), none, none, none], [.int (c / (σ.1 3706))], HH x σ)) rfl k1 ?_
  refine mm_go 4 (F' := (12, [some (.ref 37), some (.int c), some (.int (0 : Int32)), some (.int (c / (σ.1 3706))), none, none], [.int (σ.1 3706), .int c], HH x σ)) rfl ?_
  refine mm_gd (F' := (13, [some (.ref 37), some (.int c), some (.int (0 : Int32)), some (.int (c / (σ.1 3706))), none, none], [.int (c - c / (σ.1 3706) * (σ.1 3706))], HH x σ)) rfl k2 ?_
  refine mm_go 7 (F' := (bif mm_cond .le (c / (σ.1 3706)) 0 then 38 else 27, [some (.ref 37), some (.int c), some (.int (0 : Int32)), some (.int (c / (σ.1 3706))), some (.int (c - c / (σ.1 3706) * (σ.1 3706))), some (.int (-9 : Int32))], [], HH x σ)) rfl ?_
  refine mb_le (fun h1 => ?_) (fun h1 => ?_)
  · refine mm_go 14 (F' := (127, [some (.ref 37), some (.int c), some (.int (0 : Int32)), some (.int (c / (σ.1 3706))), some (.int (c - c / (σ.1 3706) * (σ.1 3706))), some (.int (-9 : Int32))], [.int (-9 : Int32)], HH x σ)) rfl ?_
    exact mm_rt rfl rfl (k3 h1)
  · refine mm_go 9 (F' := (bif mm_cond .eq (c - (σ.1 3706)) (-9 : Int32) then 120 else 110, [some (.ref 37), some (.int c), some (.int (0 : Int32)), some (.int (c / (σ.1 3706))), some (.int (c - c / (σ.1 3706) * (σ.1 3706))), some (.int (c - (σ.1 3706)))], [], HH x σ)) rfl ?_
    refine mb_eq (fun h2 => ?_) (fun h2 => ?_)
    · refine mm_go 2 (F' := (127, [some (.ref 37), some (.int c), some (.int (0 : Int32)), some (.int (c / (σ.1 3706))), some (.int (c - c / (σ.1 3706) * (σ.1 3706))), some (.int (c - (σ.1 3706)))], [.int (-9 : Int32)], HH x σ)) rfl ?_
      exact mm_rt rfl rfl (k4 h1 h2)
    · refine mm_go 3 (F' := (116, [some (.ref 37), some (.int c), some (.int (0 : Int32)), some (.int (c / (σ.1 3706))), some (.int (c - c / (σ.1 3706) * (σ.1 3706))), some (.int (c - (σ.1 3706)))], [.int (c - (σ.1 3706)), .ref 41], HH x σ)) rfl ?_
      refine mm_gd (F' := (117, [some (.ref 37), some (.int c), some (.int (0 : Int32)), some (.int (c / (σ.1 3706))), some (.int (c - c / (σ.1 3706) * (σ.1 3706))), some (.int (c - (σ.1 3706)))], [.int ((σ.2.2.1 41) (c - (σ.1 3706)).toNatClampNeg)], HH x σ)) rfl (k5 h1 h2) ?_
      refine mm_go 1 (F' := (bif mm_cond .ne ((σ.2.2.1 41) (c - (σ.1 3706)).toNatClampNeg) 0 then 125 else 120, [some (.ref 37), some (.int c), some (.int (0 : Int32)), some (.int (c / (σ.1 3706))), some (.int (c - c / (σ.1 3706) * (σ.1 3706))), some (.int (c - (σ.1 3706)))], [], HH x σ)) rfl ?_
      refine mb_ne (fun h3 => ?_) (fun h3 => ?_)
      · refine mm_go 1 (F' := (127, [some (.ref 37), some (.int c), some (.int (0 : Int32)), some (.int (c / (σ.1 3706))), some (.int (c - c / (σ.1 3706) * (σ.1 3706))), some (.int (c - (σ.1 3706)))], [.int (c - (σ.1 3706))], HH x σ)) rfl ?_
        exact mm_rt rfl rfl (k6 h1 h2 h3)
      · refine mm_go 2 (F' := (127, [some (.ref 37), some (.int c), some (.int (0 : Int32)), some (.int (c / (σ.1 3706))), some (.int (c - c / (σ.1 3706) * (σ.1 3706))), some (.int (c - (σ.1 3706)))], [.int (-9 : Int32)], HH x σ)) rfl ?_
        exact mm_rt rfl rfl (k7 h1 h2 h3)
theorem vc_m_bes1 {d : Nat} {x : Nat × (Nat → Int32)} {σ : mm_S} {c : Int32} {r : Option Value × mm_H} (k1 : ¬ (σ.1 3706) = 0) (k2 : ¬ (σ.1 3706) = 0) (k3 : (c - c / (σ.1 3706) * (σ.1 3706)) ≤ 0 → (some (.int (-9 : Int32)), HH x σ) = r) (k4 : ¬ (c - c / (σ.1 3706) * (σ.1 3706)) ≤ 0 → (c - (1 : Int32)) = (-9 : Int32) → (some (.int (-9 : Int32)), HH x σ) = r) (k5 : ¬ (c - c / (σ.1 3706) * (σ.1 3706)) ≤ 0 → ¬ (c - (1 : Int32)) = (-9 : Int32) → ¬ ((c - (1 : Int32)) < 0 ∨ 42 ≤ (c - (1 : Int32)).toNatClampNeg)) (k6 : ¬ (c - c / (σ.1 3706) * (σ.1 3706)) ≤ 0 → ¬ (c - (1 : Int32)) = (-9 : Int32) → ¬ ((σ.2.2.1 41) (c - (1 : Int32)).toNatClampNeg) = 0 → (some (.int (c - (1 : Int32))), HH x σ) = r) (k7 : ¬ (c - c / (σ.1 3706) * (σ.1 3706)) ≤ 0 → ¬ (c - (1 : Int32)) = (-9 : Int32) → ((σ.2.2.1 41) (c - (1 : Int32)).toNatClampNeg) = 0 → (some (.int (-9 : Int32)), HH x σ) = r) : mm_Runs d 99 (0, [some (.ref 37), some (.int c), some (.int (1 : Int32)), none, none, none], [], HH x σ) r := by
  refine mm_go 3 (F' := (5, [some (.ref 37), some (.int c), some (.int (1 : Int32)), none, none, none], [.int (σ.1 3706), .int c], HH x σ)) rfl ?_
  refine mm_gd (F' := (6, [some (.ref 37), some (.int c), some (.int (1 : Int32)), none, none, none], [.int (c / (σ.1 3706))], HH x σ)) rfl k1 ?_
  refine mm_go 4 (F' := (12, [some (.ref 37), some (.int c), some (.int (1 : Int32)), some (.int (c / (σ.1 3706))), none, none], [.int (σ.1 3706), .int c], HH x σ)) rfl ?_
  refine mm_gd (F' := (13, [some (.ref 37), some (.int c), some (.int (1 : Int32)), some (.int (c / (σ.1 3706))), none, none], [.int (c - c / (σ.1 3706) * (σ.1 3706))], HH x σ)) rfl k2 ?_
  refine mm_go 10 (F' := (bif mm_cond .le (c - c / (σ.1 3706) * (σ.1 3706)) 0 then 56 else 48, [some (.ref 37), some (.int c), some (.int (1 : Int32)), some (.int (c / (σ.1 3706))), some (.int (c - c / (σ.1 3706) * (σ.1 3706))), some (.int (-9 : Int32))], [], HH x σ)) rfl ?_
  refine mb_le (fun h1 => ?_) (fun h1 => ?_)
  · refine mm_go 11 (F' := (127, [some (.ref 37), some (.int c), some (.int (1 : Int32)), some (.int (c / (σ.1 3706))), some (.int (c - c / (σ.1 3706) * (σ.1 3706))), some (.int (-9 : Int32))], [.int (-9 : Int32)], HH x σ)) rfl ?_
    exact mm_rt rfl rfl (k3 h1)
  · refine mm_go 8 (F' := (bif mm_cond .eq (c - (1 : Int32)) (-9 : Int32) then 120 else 110, [some (.ref 37), some (.int c), some (.int (1 : Int32)), some (.int (c / (σ.1 3706))), some (.int (c - c / (σ.1 3706) * (σ.1 3706))), some (.int (c - (1 : Int32)))], [], HH x σ)) rfl ?_
    refine mb_eq (fun h2 => ?_) (fun h2 => ?_)
    · refine mm_go 2 (F' := (127, [some (.ref 37), some (.int c), some (.int (1 : Int32)), some (.int (c / (σ.1 3706))), some (.int (c - c / (σ.1 3706) * (σ.1 3706))), some (.int (c - (1 : Int32)))], [.int (-9 : Int32)], HH x σ)) rfl ?_
      exact mm_rt rfl rfl (k4 h1 h2)
    · refine mm_go 3 (F' := (116, [some (.ref 37), some (.int c), some (.int (1 : Int32)), some (.int (c / (σ.1 3706))), some (.int (c - c / (σ.1 3706) * (σ.1 3706))), some (.int (c - (1 : Int32)))], [.int (c - (1 : Int32)), .ref 41], HH x σ)) rfl ?_
      refine mm_gd (F' := (117, [some (.ref 37), some (.int c), some (.int (1 : Int32)), some (.int (c / (σ.1 3706))), some (.int (c - c / (σ.1 3706) * (σ.1 3706))), some (.int (c - (1 : Int32)))], [.int ((σ.2.2.1 41) (c - (1 : Int32)).toNatClampNeg)], HH x σ)) rfl (k5 h1 h2) ?_
      refine mm_go 1 (F' := (bif mm_cond .ne ((σ.2.2.1 41) (c - (1 : Int32)).toNatClampNeg) 0 then 125 else 120, [some (.ref 37), some (.int c), some (.int (1 : Int32)), some (.int (c / (σ.1 3706))), some (.int (c - c / (σ.1 3706) * (σ.1 3706))), some (.int (c - (1 : Int32)))], [], HH x σ)) rfl ?_
      refine mb_ne (fun h3 => ?_) (fun h3 => ?_)
      · refine mm_go 1 (F' := (127, [some (.ref 37), some (.int c), some (.int (1 : Int32)), some (.int (c / (σ.1 3706))), some (.int (c - c / (σ.1 3706) * (σ.1 3706))), some (.int (c - (1 : Int32)))], [.int (c - (1 : Int32))], HH x σ)) rfl ?_
        exact mm_rt rfl rfl (k6 h1 h2 h3)
      · refine mm_go 2 (F' := (127, [some (.ref 37), some (.int c), some (.int (1 : Int32)), some (.int (c / (σ.1 3706))), some (.int (c - c / (σ.1 3706) * (σ.1 3706))), some (.int (c - (1 : Int32)))], [.int (-9 : Int32)], HH x σ)) rfl ?_
        exact mm_rt rfl rfl (k7 h1 h2 h3)
theorem vc_m_bes2 {d : Nat} {x : Nat × (Nat → Int32)} {σ : mm_S} {c : Int32} {r : Option Value × mm_H} (k1 : ¬ (σ.1 3706) = 0) (k2 : ¬ (σ.1 3706) = 0) (k3 : ((σ.1 3706) - (1 : Int32)) ≤ (c - c / (σ.1 3706) * (σ.1 3706)) → (some (.int (-9 : Int32)), HH x σ) = r) (k4 : ¬ ((σ.1 3706) - (1 : Int32)) ≤ (c - c / (σ.1 3706) * (σ.1 3706)) → (c + (1 : Int32)) = (-9 : Int32) → (some (.int (-9 : Int32)), HH x σ) = r) (k5 : ¬ ((σ.1 3706) - (1 : Int32)) ≤ (c - c / (σ.1 3706) * (σ.1 3706)) → ¬ (c + (1 : Int32)) = (-9 : Int32) → ¬ ((c + (1 : Int32)) < 0 ∨ 42 ≤ (c + (1 : Int32)).toNatClampNeg)) (k6 : ¬ ((σ.1 3706) - (1 : Int32)) ≤ (c - c / (σ.1 3706) * (σ.1 3706)) → ¬ (c + (1 : Int32)) = (-9 : Int32) → ¬ ((σ.2.2.1 41) (c + (1 : Int32)).toNatClampNeg) = 0 → (some (.int (c + (1 : Int32))), HH x σ) = r) (k7 : ¬ ((σ.1 3706) - (1 : Int32)) ≤ (c - c / (σ.1 3706) * (σ.1 3706)) → ¬ (c + (1 : Int32)) = (-9 : Int32) → ((σ.2.2.1 41) (c + (1 : Int32)).toNatClampNeg) = 0 → (some (.int (-9 : Int32)), HH x σ) = r) : mm_Runs d 99 (0, [some (.ref 37), some (.int c), some (.int (2 : Int32)), none, none, none], [], HH x σ) r := by
  refine mm_go 3 (F' := (5, [some (.ref 37), some (.int c), some (.int (2 : Int32)), none, none, none], [.int (σ.1 3706), .int c], HH x σ)) rfl ?_
  refine mm_gd (F' := (6, [some (.ref 37), some (.int c), some (.int (2 : Int32)), none, none, none], [.int (c / (σ.1 3706))], HH x σ)) rfl k1 ?_
  refine mm_go 4 (F' := (12, [some (.ref 37), some (.int c), some (.int (2 : Int32)), some (.int (c / (σ.1 3706))), none, none], [.int (σ.1 3706), .int c], HH x σ)) rfl ?_
  refine mm_gd (F' := (13, [some (.ref 37), some (.int c), some (.int (2 : Int32)), some (.int (c / (σ.1 3706))), none, none], [.int (c - c / (σ.1 3706) * (σ.1 3706))], HH x σ)) rfl k2 ?_
  refine mm_go 17 (F' := (bif mm_cond .ge (c - c / (σ.1 3706) * (σ.1 3706)) ((σ.1 3706) - (1 : Int32)) then 80 else 72, [some (.ref 37), some (.int c), some (.int (2 : Int32)), some (.int (c / (σ.1 3706))), some (.int (c - c / (σ.1 3706) * (σ.1 3706))), some (.int (-9 : Int32))], [], HH x σ)) rfl ?_
  refine mb_ge (fun h1 => ?_) (fun h1 => ?_)
  · refine mm_go 8 (F' := (127, [some (.ref 37), some (.int c), some (.int (2 : Int32)), some (.int (c / (σ.1 3706))), some (.int (c - c / (σ.1 3706) * (σ.1 3706))), some (.int (-9 : Int32))], [.int (-9 : Int32)], HH x σ)) rfl ?_
    exact mm_rt rfl rfl (k3 h1)
  · refine mm_go 8 (F' := (bif mm_cond .eq (c + (1 : Int32)) (-9 : Int32) then 120 else 110, [some (.ref 37), some (.int c), some (.int (2 : Int32)), some (.int (c / (σ.1 3706))), some (.int (c - c / (σ.1 3706) * (σ.1 3706))), some (.int (c + (1 : Int32)))], [], HH x σ)) rfl ?_
    refine mb_eq (fun h2 => ?_) (fun h2 => ?_)
    · refine mm_go 2 (F' := (127, [some (.ref 37), some (.int c), some (.int (2 : Int32)), some (.int (c / (σ.1 3706))), some (.int (c - c / (σ.1 3706) * (σ.1 3706))), some (.int (c + (1 : Int32)))], [.int (-9 : Int32)], HH x σ)) rfl ?_
      exact mm_rt rfl rfl (k4 h1 h2)
    · refine mm_go 3 (F' := (116, [some (.ref 37), some (.int c), some (.int (2 : Int32)), some (.int (c / (σ.1 3706))), some (.int (c - c / (σ.1 3706) * (σ.1 3706))), some (.int (c + (1 : Int32)))], [.int (c + (1 : Int32)), .ref 41], HH x σ)) rfl ?_
      refine mm_gd (F' := (117, [some (.ref 37), some (.int c), some (.int (2 : Int32)), some (.int (c / (σ.1 3706))), some (.int (c - c / (σ.1 3706) * (σ.1 3706))), some (.int (c + (1 : Int32)))], [.int ((σ.2.2.1 41) (c + (1 : Int32)).toNatClampNeg)], HH x σ)) rfl (k5 h1 h2) ?_
      refine mm_go 1 (F' := (bif mm_cond .ne ((σ.2.2.1 41) (c + (1 : Int32)).toNatClampNeg) 0 then 125 else 120, [some (.ref 37), some (.int c), some (.int (2 : Int32)), some (.int (c / (σ.1 3706))), some (.int (c - c / (σ.1 3706) * (σ.1 3706))), some (.int (c + (1 : Int32)))], [], HH x σ)) rfl ?_
      refine mb_ne (fun h3 => ?_) (fun h3 => ?_)
      · refine mm_go 1 (F' := (127, [some (.ref 37), some (.int c), some (.int (2 : Int32)), some (.int (c / (σ.1 3706))), some (.int (c - c / (σ.1 3706) * (σ.1 3706))), some (.int (c + (1 : Int32)))], [.int (c + (1 : Int32))], HH x σ)) rfl ?_
        exact mm_rt rfl rfl (k6 h1 h2 h3)
      · refine mm_go 2 (F' := (127, [some (.ref 37), some (.int c), some (.int (2 : Int32)), some (.int (c / (σ.1 3706))), some (.int (c - c / (σ.1 3706) * (σ.1 3706))), some (.int (c + (1 : Int32)))], [.int (-9 : Int32)], HH x σ)) rfl ?_
        exact mm_rt rfl rfl (k7 h1 h2 h3)
theorem vc_m_bes3 {d : Nat} {x : Nat × (Nat → Int32)} {σ : mm_S} {c : Int32} {r : Option Value × mm_H} (k1 : ¬ (σ.1 3706) = 0) (k2 : ¬ (σ.1 3706) = 0) (k3 : ((σ.1 3705) - (1 : Int32)) ≤ (c / (σ.1 3706)) → (some (.int (-9 : Int32)), HH x σ) = r) (k4 : ¬ ((σ.1 3705) - (1 : Int32)) ≤ (c / (σ.1 3706)) → (c + (σ.1 3706)) = (-9 : Int32) → (some (.int (-9 : Int32)), HH x σ) = r) (k5 : ¬ ((σ.1 3705) - (1 : Int32)) ≤ (c / (σ.1 3706)) → ¬ (c + (σ.1 3706)) = (-9 : Int32) → ¬ ((c + (σ.1 3706)) < 0 ∨ 42 ≤ (c + (σ.1 3706)).toNatClampNeg)) (k6 : ¬ ((σ.1 3705) - (1 : Int32)) ≤ (c / (σ.1 3706)) → ¬ (c + (σ.1 3706)) = (-9 : Int32) → ¬ ((σ.2.2.1 41) (c + (σ.1 3706)).toNatClampNeg) = 0 → (some (.int (c + (σ.1 3706))), HH x σ) = r) (k7 : ¬ ((σ.1 3705) - (1 : Int32)) ≤ (c / (σ.1 3706)) → ¬ (c + (σ.1 3706)) = (-9 : Int32) → ((σ.2.2.1 41) (c + (σ.1 3706)).toNatClampNeg) = 0 → (some (.int (-9 : Int32)), HH x σ) = r) : mm_Runs d 99 (0, [some (.ref 37), some (.int c), some (.int (3 : Int32)), none, none, none], [], HH x σ) r := by
  refine mm_go 3 (F' := (5, [some (.ref 37), some (.int c), some (.int (3 : Int32)), none, none, none], [.int (σ.1 3706), .int c], HH x σ)) rfl ?_
  refine mm_gd (F' := (6, [some (.ref 37), some (.int c), some (.int (3 : Int32)), none, none, none], [.int (c / (σ.1 3706))], HH x σ)) rfl k1 ?_
  refine mm_go 4 (F' := (12, [some (.ref 37), some (.int c), some (.int (3 : Int32)), some (.int (c / (σ.1 3706))), none, none], [.int (σ.1 3706), .int c], HH x σ)) rfl ?_
  refine mm_gd (F' := (13, [some (.ref 37), some (.int c), some (.int (3 : Int32)), some (.int (c / (σ.1 3706))), none, none], [.int (c - c / (σ.1 3706) * (σ.1 3706))], HH x σ)) rfl k2 ?_
  refine mm_go 20 (F' := (bif mm_cond .ge (c / (σ.1 3706)) ((σ.1 3705) - (1 : Int32)) then 103 else 95, [some (.ref 37), some (.int c), some (.int (3 : Int32)), some (.int (c / (σ.1 3706))), some (.int (c - c / (σ.1 3706) * (σ.1 3706))), some (.int (-9 : Int32))], [], HH x σ)) rfl ?_
  refine mb_ge (fun h1 => ?_) (fun h1 => ?_)
  · refine mm_go 5 (F' := (127, [some (.ref 37), some (.int c), some (.int (3 : Int32)), some (.int (c / (σ.1 3706))), some (.int (c - c / (σ.1 3706) * (σ.1 3706))), some (.int (-9 : Int32))], [.int (-9 : Int32)], HH x σ)) rfl ?_
    exact mm_rt rfl rfl (k3 h1)
  · refine mm_go 8 (F' := (bif mm_cond .eq (c + (σ.1 3706)) (-9 : Int32) then 120 else 110, [some (.ref 37), some (.int c), some (.int (3 : Int32)), some (.int (c / (σ.1 3706))), some (.int (c - c / (σ.1 3706) * (σ.1 3706))), some (.int (c + (σ.1 3706)))], [], HH x σ)) rfl ?_
    refine mb_eq (fun h2 => ?_) (fun h2 => ?_)
    · refine mm_go 2 (F' := (127, [some (.ref 37), some (.int c), some (.int (3 : Int32)), some (.int (c / (σ.1 3706))), some (.int (c - c / (σ.1 3706) * (σ.1 3706))), some (.int (c + (σ.1 3706)))], [.int (-9 : Int32)], HH x σ)) rfl ?_
      exact mm_rt rfl rfl (k4 h1 h2)
    · refine mm_go 3 (F' := (116, [some (.ref 37), some (.int c), some (.int (3 : Int32)), some (.int (c / (σ.1 3706))), some (.int (c - c / (σ.1 3706) * (σ.1 3706))), some (.int (c + (σ.1 3706)))], [.int (c + (σ.1 3706)), .ref 41], HH x σ)) rfl ?_
      refine mm_gd (F' := (117, [some (.ref 37), some (.int c), some (.int (3 : Int32)), some (.int (c / (σ.1 3706))), some (.int (c - c / (σ.1 3706) * (σ.1 3706))), some (.int (c + (σ.1 3706)))], [.int ((σ.2.2.1 41) (c + (σ.1 3706)).toNatClampNeg)], HH x σ)) rfl (k5 h1 h2) ?_
      refine mm_go 1 (F' := (bif mm_cond .ne ((σ.2.2.1 41) (c + (σ.1 3706)).toNatClampNeg) 0 then 125 else 120, [some (.ref 37), some (.int c), some (.int (3 : Int32)), some (.int (c / (σ.1 3706))), some (.int (c - c / (σ.1 3706) * (σ.1 3706))), some (.int (c + (σ.1 3706)))], [], HH x σ)) rfl ?_
      refine mb_ne (fun h3 => ?_) (fun h3 => ?_)
      · refine mm_go 1 (F' := (127, [some (.ref 37), some (.int c), some (.int (3 : Int32)), some (.int (c / (σ.1 3706))), some (.int (c - c / (σ.1 3706) * (σ.1 3706))), some (.int (c + (σ.1 3706)))], [.int (c + (σ.1 3706))], HH x σ)) rfl ?_
        exact mm_rt rfl rfl (k6 h1 h2 h3)
      · refine mm_go 2 (F' := (127, [some (.ref 37), some (.int c), some (.int (3 : Int32)), some (.int (c / (σ.1 3706))), some (.int (c - c / (σ.1 3706) * (σ.1 3706))), some (.int (c + (σ.1 3706)))], [.int (-9 : Int32)], HH x σ)) rfl ?_
        exact mm_rt rfl rfl (k7 h1 h2 h3)
theorem vc_m_go0 {d : Nat} {x : Nat × (Nat → Int32)} {σ : mm_S} {a n : Int32} {r : Option Value × mm_H} (k1 : mm_Runs d 102 (2, [some (.ref 37), some (.int a), some (.int n), some (.int (0 : Int32)), none, none], [], HH x σ) r) : mm_Runs d 102 (0, [some (.ref 37), some (.int a), some (.int n), none, none, none], [], HH x σ) r := by
  refine mm_go 2 (F' := (2, [some (.ref 37), some (.int a), some (.int n), some (.int (0 : Int32)), none, none], [], HH x σ)) rfl ?_
  exact mm_wk (by exact (And.intro rfl (And.intro rfl (And.intro rfl (And.intro rfl True.intro))))) k1
theorem vc_m_goc {d : Nat} {x : Nat × (Nat → Int32)} {σ : mm_S} {a n c : Int32} {r : Option Value × mm_H} (hd : 1 ≤ d) (k1 : (f_m_all σ) ≤ c → (none, HH x σ) = r) (k2 : ¬ (f_m_all σ) ≤ c → mm_Runs d 102 (13, [some (.ref 37), some (.int a), some (.int n), some (.int c), some (.int (0 : Int32)), none], [], HH x σ) r) : mm_Runs d 102 (2, [some (.ref 37), some (.int a), some (.int n), some (.int c), none, none], [], HH x σ) r := by
  refine mm_go 2 (F' := (4, [some (.ref 37), some (.int a), some (.int n), some (.int c), none, none], [.ref 37, .int c], HH x σ)) rfl ?_
  refine mm_kl (z := 94) (as := [.ref 37]) (S' := [.int c]) (L2 := [some (.ref 37)]) (v := some (.int (f_m_all σ))) (h1 := HH x σ) rfl rfl rfl rfl rfl (by omega) (r_m_all (by omega)) ?_
  show mm_Runs d 102 (7, [some (.ref 37), some (.int a), some (.int n), some (.int c), none, none], [.int (f_m_all σ), .int c], HH x σ) r
  refine mm_go 1 (F' := (bif mm_cond .ge c (f_m_all σ) then 84 else 10, [some (.ref 37), some (.int a), some (.int n), some (.int c), none, none], [], HH x σ)) rfl ?_
  refine mb_ge (fun h1 => ?_) (fun h1 => ?_)
  · exact mm_rt rfl rfl (k1 h1)
  · refine mm_go 2 (F' := (13, [some (.ref 37), some (.int a), some (.int n), some (.int c), some (.int (0 : Int32)), none], [], HH x σ)) rfl ?_
    exact mm_wk (by exact (And.intro rfl (And.intro rfl (And.intro rfl (And.intro rfl (And.intro rfl True.intro)))))) (k2 h1)
theorem vc_m_goj {d : Nat} {x : Nat × (Nat → Int32)} {σ : mm_S} {a n c j : Int32} {v1 : Int32} {σ1 : mm_S} {r : Option Value × mm_H} (hd : 1 ≤ d) (k1 : (4 : Int32) ≤ j → mm_Runs d 102 (2, [some (.ref 37), some (.int a), some (.int n), some (.int (c + (1 : Int32))), none, none], [], HH x σ) r) (k2 : ¬ (4 : Int32) ≤ j → ¬ ((((42 : Int32) * a) + c) < 0 ∨ 1764 ≤ (((42 : Int32) * a) + c).toNatClampNeg)) (k3 : ¬ (4 : Int32) ≤ j → ¬ (f_m_way σ a c) = n → mm_Runs d 102 (2, [some (.ref 37), some (.int a), some (.int n), some (.int (c + (1 : Int32))), none, none], [], HH x σ) r) (k4 : ¬ (4 : Int32) ≤ j → (f_m_way σ a c) = n → mm_Runs (d - 1) 99 (0, [some (.ref 37), some (.int c), some (.int j), none, none, none], [], HH x σ) (some (.int v1), HH x σ1)) (k5 : ¬ (4 : Int32) ≤ j → (f_m_way σ a c) = n → v1 = (-9 : Int32) → mm_Runs d 102 (13, [some (.ref 37), some (.int a), some (.int n), some (.int c), some (.int (j + (1 : Int32))), none], [], HH x σ1) r) (k6 : ¬ (4 : Int32) ≤ j → (f_m_way σ a c) = n → ¬ v1 = (-9 : Int32) → ¬ ((((42 : Int32) * a) + v1) < 0 ∨ 1764 ≤ (((42 : Int32) * a) + v1).toNatClampNeg)) (k7 : ¬ (4 : Int32) ≤ j → (f_m_way σ a c) = n → ¬ v1 = (-9 : Int32) → ¬ (f_m_way σ1 a v1) = (-9 : Int32) → mm_Runs d 102 (13, [some (.ref 37), some (.int a), some (.int n), some (.int c), some (.int (j + (1 : Int32))), none], [], HH x σ1) r) (k8 : ¬ (4 : Int32) ≤ j → (f_m_way σ a c) = n → ¬ v1 = (-9 : Int32) → (f_m_way σ1 a v1) = (-9 : Int32) → ¬ ((((42 : Int32) * a) + v1) < 0 ∨ 1764 ≤ (((42 : Int32) * a) + v1).toNatClampNeg)) (k9 : ¬ (4 : Int32) ≤ j → (f_m_way σ a c) = n → ¬ v1 = (-9 : Int32) → (f_m_way σ1 a v1) = (-9 : Int32) → mm_Runs d 102 (13, [some (.ref 37), some (.int a), some (.int n), some (.int c), some (.int (j + (1 : Int32))), none], [], HH x (ua σ1 42 (upd (σ1.2.2.1 42) (((42 : Int32) * a) + v1).toNatClampNeg (n + (1 : Int32))))) r) : mm_Runs d 102 (13, [some (.ref 37), some (.int a), some (.int n), some (.int c), some (.int j), none], [], HH x σ) r := by
  refine mm_go 3 (F' := (bif mm_cond .ge j (4 : Int32) then 78 else 19, [some (.ref 37), some (.int a), some (.int n), some (.int c), some (.int j), none], [], HH x σ)) rfl ?_
  refine mb_ge (fun h1 => ?_) (fun h1 => ?_)
  · refine mm_go 2 (F' := (2, [some (.ref 37), some (.int a), some (.int n), some (.int (c + (1 : Int32))), some (.int j), none], [], HH x σ)) rfl ?_
    exact mm_wk (by exact (And.intro rfl (And.intro rfl (And.intro rfl (And.intro rfl True.intro))))) (k1 h1)
  · refine mm_go 3 (F' := (22, [some (.ref 37), some (.int a), some (.int n), some (.int c), some (.int j), none], [.int c, .int a, .ref 37], HH x σ)) rfl ?_
    refine mm_kl (z := 100) (as := [.ref 37, .int a, .int c]) (S' := []) (L2 := [some (.ref 37), some (.int a), some (.int c)]) (v := some (.int (f_m_way σ a c))) (h1 := HH x σ) rfl rfl rfl rfl rfl (by omega) (r_m_way (by omega) (k2 h1)) ?_
    show mm_Runs d 102 (25, [some (.ref 37), some (.int a), some (.int n), some (.int c), some (.int j), none], [.int (f_m_way σ a c)], HH x σ) r
    refine mm_go 2 (F' := (bif mm_cond .ne (f_m_way σ a c) n then 78 else 29, [some (.ref 37), some (.int a), some (.int n), some (.int c), some (.int j), none], [], HH x σ)) rfl ?_
    refine mb_ne (fun h2 => ?_) (fun h2 => ?_)
    · refine mm_go 2 (F' := (2, [some (.ref 37), some (.int a), some (.int n), some (.int (c + (1 : Int32))), some (.int j), none], [], HH x σ)) rfl ?_
      exact mm_wk (by exact (And.intro rfl (And.intro rfl (And.intro rfl (And.intro rfl True.intro))))) (k3 h1 h2)
    · refine mm_go 3 (F' := (33, [some (.ref 37), some (.int a), some (.int n), some (.int c), some (.int j), none], [.int j, .int c, .ref 37], HH x σ)) rfl ?_
      refine mm_kl (z := 99) (as := [.ref 37, .int c, .int j]) (S' := []) (L2 := [some (.ref 37), some (.int c), some (.int j), none, none, none]) (v := some (.int v1)) (h1 := HH x σ1) rfl rfl rfl rfl rfl (by omega) (k4 h1 h2) ?_
      show mm_Runs d 102 (36, [some (.ref 37), some (.int a), some (.int n), some (.int c), some (.int j), none], [.int v1], HH x σ1) r
      refine mm_go 4 (F' := (bif mm_cond .eq v1 (-9 : Int32) then 72 else 45, [some (.ref 37), some (.int a), some (.int n), some (.int c), some (.int j), some (.int v1)], [], HH x σ1)) rfl ?_
      refine mb_eq (fun h3 => ?_) (fun h3 => ?_)
      · refine mm_go 2 (F' := (13, [some (.ref 37), some (.int a), some (.int n), some (.int c), some (.int (j + (1 : Int32))), some (.int v1)], [], HH x σ1)) rfl ?_
        exact mm_wk (by exact (And.intro rfl (And.intro rfl (And.intro rfl (And.intro rfl (And.intro rfl True.intro)))))) (k5 h1 h2 h3)
      · refine mm_go 3 (F' := (49, [some (.ref 37), some (.int a), some (.int n), some (.int c), some (.int j), some (.int v1)], [.int v1, .int a, .ref 37], HH x σ1)) rfl ?_
        refine mm_kl (z := 100) (as := [.ref 37, .int a, .int v1]) (S' := []) (L2 := [some (.ref 37), some (.int a), some (.int v1)]) (v := some (.int (f_m_way σ1 a v1))) (h1 := HH x σ1) rfl rfl rfl rfl rfl (by omega) (r_m_way (by omega) (k6 h1 h2 h3)) ?_
        show mm_Runs d 102 (52, [some (.ref 37), some (.int a), some (.int n), some (.int c), some (.int j), some (.int v1)], [.int (f_m_way σ1 a v1)], HH x σ1) r
        refine mm_go 2 (F' := (bif mm_cond .ne (f_m_way σ1 a v1) (-9 : Int32) then 72 else 57, [some (.ref 37), some (.int a), some (.int n), some (.int c), some (.int j), some (.int v1)], [], HH x σ1)) rfl ?_
        refine mb_ne (fun h4 => ?_) (fun h4 => ?_)
        · refine mm_go 2 (F' := (13, [some (.ref 37), some (.int a), some (.int n), some (.int c), some (.int (j + (1 : Int32))), some (.int v1)], [], HH x σ1)) rfl ?_
          exact mm_wk (by exact (And.intro rfl (And.intro rfl (And.intro rfl (And.intro rfl (And.intro rfl True.intro)))))) (k7 h1 h2 h3 h4)
        · refine mm_go 10 (F' := (71, [some (.ref 37), some (.int a), some (.int n), some (.int c), some (.int j), some (.int v1)], [.int (n + (1 : Int32)), .int (((42 : Int32) * a) + v1), .ref 42], HH x σ1)) rfl ?_
          refine mm_gd (F' := (72, [some (.ref 37), some (.int a), some (.int n), some (.int c), some (.int j), some (.int v1)], [], HH x (ua σ1 42 (upd (σ1.2.2.1 42) (((42 : Int32) * a) + v1).toNatClampNeg (n + (1 : Int32)))))) rfl (k8 h1 h2 h3 h4) ?_
          refine mm_go 2 (F' := (13, [some (.ref 37), some (.int a), some (.int n), some (.int c), some (.int (j + (1 : Int32))), some (.int v1)], [], HH x (ua σ1 42 (upd (σ1.2.2.1 42) (((42 : Int32) * a) + v1).toNatClampNeg (n + (1 : Int32)))))) rfl ?_
          exact mm_wk (by exact (And.intro rfl (And.intro rfl (And.intro rfl (And.intro rfl (And.intro rfl True.intro)))))) (k9 h1 h2 h3 h4)
theorem vc_m_lw0 {d : Nat} {x : Nat × (Nat → Int32)} {σ : mm_S} {r : Option Value × mm_H} (k1 : mm_Runs d 101 (2, [some (.ref 37), some (.int (0 : Int32)), none], [], HH x σ) r) : mm_Runs d 101 (0, [some (.ref 37), none, none], [], HH x σ) r := by
  refine mm_go 2 (F' := (2, [some (.ref 37), some (.int (0 : Int32)), none], [], HH x σ)) rfl ?_
  exact mm_wk (by exact (And.intro rfl (And.intro rfl True.intro))) k1
theorem vc_m_lwa {d : Nat} {x : Nat × (Nat → Int32)} {σ : mm_S} {a : Int32} {r : Option Value × mm_H} (hd : 1 ≤ d) (k1 : (f_m_all σ) ≤ a → (none, HH x σ) = r) (k2 : ¬ (f_m_all σ) ≤ a → mm_Runs d 101 (12, [some (.ref 37), some (.int a), some (.int (0 : Int32))], [], HH x σ) r) : mm_Runs d 101 (2, [some (.ref 37), some (.int a), none], [], HH x σ) r := by
  refine mm_go 2 (F' := (4, [some (.ref 37), some (.int a), none], [.ref 37, .int a], HH x σ)) rfl ?_
  refine mm_kl (z := 94) (as := [.ref 37]) (S' := [.int a]) (L2 := [some (.ref 37)]) (v := some (.int (f_m_all σ))) (h1 := HH x σ) rfl rfl rfl rfl rfl (by omega) (r_m_all (by omega)) ?_
  show mm_Runs d 101 (7, [some (.ref 37), some (.int a), none], [.int (f_m_all σ), .int a], HH x σ) r
  refine mm_go 1 (F' := (bif mm_cond .ge a (f_m_all σ) then 94 else 10, [some (.ref 37), some (.int a), none], [], HH x σ)) rfl ?_
  refine mb_ge (fun h1 => ?_) (fun h1 => ?_)
  · exact mm_rt rfl rfl (k1 h1)
  · refine mm_go 2 (F' := (12, [some (.ref 37), some (.int a), some (.int (0 : Int32))], [], HH x σ)) rfl ?_
    exact mm_wk (by exact (And.intro rfl (And.intro rfl (And.intro rfl True.intro)))) (k2 h1)
theorem vc_m_lwb {d : Nat} {x : Nat × (Nat → Int32)} {σ : mm_S} {a b : Int32} {r : Option Value × mm_H} (hd : 1 ≤ d) (k1 : (f_m_all σ) ≤ b → mm_Runs d 101 (59, [some (.ref 37), some (.int a), some (.int (0 : Int32))], [], HH x σ) r) (k2 : ¬ (f_m_all σ) ≤ b → ¬ a = b → ¬ ((((42 : Int32) * a) + b) < 0 ∨ 1764 ≤ (((42 : Int32) * a) + b).toNatClampNeg)) (k3 : ¬ (f_m_all σ) ≤ b → ¬ a = b → mm_Runs d 101 (12, [some (.ref 37), some (.int a), some (.int (b + (1 : Int32)))], [], HH x (ua σ 42 (upd (σ.2.2.1 42) (((42 : Int32) * a) + b).toNatClampNeg (-9 : Int32)))) r) (k4 : ¬ (f_m_all σ) ≤ b → a = b → ¬ (a < 0 ∨ 42 ≤ a.toNatClampNeg)) (k5 : ¬ (f_m_all σ) ≤ b → a = b → ((σ.2.2.1 41) a.toNatClampNeg) = 0 → ¬ ((((42 : Int32) * a) + b) < 0 ∨ 1764 ≤ (((42 : Int32) * a) + b).toNatClampNeg)) (k6 : ¬ (f_m_all σ) ≤ b → a = b → ((σ.2.2.1 41) a.toNatClampNeg) = 0 → mm_Runs d 101 (12, [some (.ref 37), some (.int a), some (.int (b + (1 : Int32)))], [], HH x (ua σ 42 (upd (σ.2.2.1 42) (((42 : Int32) * a) + b).toNatClampNeg (-9 : Int32)))) r) (k7 : ¬ (f_m_all σ) ≤ b → a = b → ¬ ((σ.2.2.1 41) a.toNatClampNeg) = 0 → ¬ ((((42 : Int32) * a) + b) < 0 ∨ 1764 ≤ (((42 : Int32) * a) + b).toNatClampNeg)) (k8 : ¬ (f_m_all σ) ≤ b → a = b → ¬ ((σ.2.2.1 41) a.toNatClampNeg) = 0 → mm_Runs d 101 (12, [some (.ref 37), some (.int a), some (.int (b + (1 : Int32)))], [], HH x (ua σ 42 (upd (σ.2.2.1 42) (((42 : Int32) * a) + b).toNatClampNeg (0 : Int32)))) r) : mm_Runs d 101 (12, [some (.ref 37), some (.int a), some (.int b)], [], HH x σ) r := by
  refine mm_go 2 (F' := (14, [some (.ref 37), some (.int a), some (.int b)], [.ref 37, .int b], HH x σ)) rfl ?_
  refine mm_kl (z := 94) (as := [.ref 37]) (S' := [.int b]) (L2 := [some (.ref 37)]) (v := some (.int (f_m_all σ))) (h1 := HH x σ) rfl rfl rfl rfl rfl (by omega) (r_m_all (by omega)) ?_
  show mm_Runs d 101 (17, [some (.ref 37), some (.int a), some (.int b)], [.int (f_m_all σ), .int b], HH x σ) r
  refine mm_go 1 (F' := (bif mm_cond .ge b (f_m_all σ) then 57 else 20, [some (.ref 37), some (.int a), some (.int b)], [], HH x σ)) rfl ?_
  refine mb_ge (fun h1 => ?_) (fun h1 => ?_)
  · refine mm_go 2 (F' := (59, [some (.ref 37), some (.int a), some (.int (0 : Int32))], [], HH x σ)) rfl ?_
    exact mm_wk (by exact (And.intro rfl (And.intro rfl (And.intro rfl True.intro)))) (k1 h1)
  · refine mm_go 10 (F' := (bif mm_cond .ne a b then 48 else 35, [some (.ref 37), some (.int a), some (.int b)], [.int (((42 : Int32) * a) + b), .ref 42], HH x σ)) rfl ?_
    refine mb_ne (fun h2 => ?_) (fun h2 => ?_)
    · refine mm_go 1 (F' := (50, [some (.ref 37), some (.int a), some (.int b)], [.int (-9 : Int32), .int (((42 : Int32) * a) + b), .ref 42], HH x σ)) rfl ?_
      refine mm_gd (F' := (51, [some (.ref 37), some (.int a), some (.int b)], [], HH x (ua σ 42 (upd (σ.2.2.1 42) (((42 : Int32) * a) + b).toNatClampNeg (-9 : Int32))))) rfl (k2 h1 h2) ?_
      refine mm_go 2 (F' := (12, [some (.ref 37), some (.int a), some (.int (b + (1 : Int32)))], [], HH x (ua σ 42 (upd (σ.2.2.1 42) (((42 : Int32) * a) + b).toNatClampNeg (-9 : Int32))))) rfl ?_
      exact mm_wk (by exact (And.intro rfl (And.intro rfl (And.intro rfl True.intro)))) (k3 h1 h2)
    · refine mm_go 3 (F' := (40, [some (.ref 37), some (.int a), some (.int b)], [.int a, .ref 41, .int (((42 : Int32) * a) + b), .ref 42], HH x σ)) rfl ?_
      refine mm_gd (F' := (41, [some (.ref 37), some (.int a), some (.int b)], [.int ((σ.2.2.1 41) a.toNatClampNeg), .int (((42 : Int32) * a) + b), .ref 42], HH x σ)) rfl (k4 h1 h2) ?_
      refine mm_go 1 (F' := (bif mm_cond .eq ((σ.2.2.1 41) a.toNatClampNeg) 0 then 48 else 44, [some (.ref 37), some (.int a), some (.int b)], [.int (((42 : Int32) * a) + b), .ref 42], HH x σ)) rfl ?_
      refine mb_eq (fun h3 => ?_) (fun h3 => ?_)
      · refine mm_go 1 (F' := (50, [some (.ref 37), some (.int a), some (.int b)], [.int (-9 : Int32), .int (((42 : Int32) * a) + b), .ref 42], HH x σ)) rfl ?_
        refine mm_gd (F' := (51, [some (.ref 37), some (.int a), some (.int b)], [], HH x (ua σ 42 (upd (σ.2.2.1 42) (((42 : Int32) * a) + b).toNatClampNeg (-9 : Int32))))) rfl (k5 h1 h2 h3) ?_
        refine mm_go 2 (F' := (12, [some (.ref 37), some (.int a), some (.int (b + (1 : Int32)))], [], HH x (ua σ 42 (upd (σ.2.2.1 42) (((42 : Int32) * a) + b).toNatClampNeg (-9 : Int32))))) rfl ?_
        exact mm_wk (by exact (And.intro rfl (And.intro rfl (And.intro rfl True.intro)))) (k6 h1 h2 h3)
      · refine mm_go 2 (F' := (50, [some (.ref 37), some (.int a), some (.int b)], [.int (0 : Int32), .int (((42 : Int32) * a) + b), .ref 42], HH x σ)) rfl ?_
        refine mm_gd (F' := (51, [some (.ref 37), some (.int a), some (.int b)], [], HH x (ua σ 42 (upd (σ.2.2.1 42) (((42 : Int32) * a) + b).toNatClampNeg (0 : Int32))))) rfl (k7 h1 h2 h3) ?_
        refine mm_go 2 (F' := (12, [some (.ref 37), some (.int a), some (.int (b + (1 : Int32)))], [], HH x (ua σ 42 (upd (σ.2.2.1 42) (((42 : Int32) * a) + b).toNatClampNeg (0 : Int32))))) rfl ?_
        exact mm_wk (by exact (And.intro rfl (And.intro rfl (And.intro rfl True.intro)))) (k8 h1 h2 h3)
theorem vc_m_lwn {d : Nat} {x : Nat × (Nat → Int32)} {σ : mm_S} {a b : Int32} {σ1 : mm_S} {r : Option Value × mm_H} (hd : 1 ≤ d) (k1 : (f_m_all σ) ≤ b → mm_Runs d 101 (2, [some (.ref 37), some (.int (a + (1 : Int32))), none], [], HH x σ) r) (k2 : ¬ (f_m_all σ) ≤ b → ¬ (a < 0 ∨ 42 ≤ a.toNatClampNeg)) (k3 : ¬ (f_m_all σ) ≤ b → ((σ.2.2.1 41) a.toNatClampNeg) = 0 → mm_Runs d 101 (2, [some (.ref 37), some (.int (a + (1 : Int32))), none], [], HH x σ) r) (k4 : ¬ (f_m_all σ) ≤ b → ¬ ((σ.2.2.1 41) a.toNatClampNeg) = 0 → mm_Runs (d - 1) 102 (0, [some (.ref 37), some (.int a), some (.int b), none, none, none], [], HH x σ) (none, HH x σ1)) (k5 : ¬ (f_m_all σ) ≤ b → ¬ ((σ.2.2.1 41) a.toNatClampNeg) = 0 → mm_Runs d 101 (59, [some (.ref 37), some (.int a), some (.int (b + (1 : Int32)))], [], HH x σ1) r) : mm_Runs d 101 (59, [some (.ref 37), some (.int a), some (.int b)], [], HH x σ) r := by
  refine mm_go 2 (F' := (61, [some (.ref 37), some (.int a), some (.int b)], [.ref 37, .int b], HH x σ)) rfl ?_
  refine mm_kl (z := 94) (as := [.ref 37]) (S' := [.int b]) (L2 := [some (.ref 37)]) (v := some (.int (f_m_all σ))) (h1 := HH x σ) rfl rfl rfl rfl rfl (by omega) (r_m_all (by omega)) ?_
  show mm_Runs d 101 (64, [some (.ref 37), some (.int a), some (.int b)], [.int (f_m_all σ), .int b], HH x σ) r
  refine mm_go 1 (F' := (bif mm_cond .ge b (f_m_all σ) then 88 else 67, [some (.ref 37), some (.int a), some (.int b)], [], HH x σ)) rfl ?_
  refine mb_ge (fun h1 => ?_) (fun h1 => ?_)
  · refine mm_go 2 (F' := (2, [some (.ref 37), some (.int (a + (1 : Int32))), some (.int b)], [], HH x σ)) rfl ?_
    exact mm_wk (by exact (And.intro rfl (And.intro rfl True.intro))) (k1 h1)
  · refine mm_go 3 (F' := (72, [some (.ref 37), some (.int a), some (.int b)], [.int a, .ref 41], HH x σ)) rfl ?_
    refine mm_gd (F' := (73, [some (.ref 37), some (.int a), some (.int b)], [.int ((σ.2.2.1 41) a.toNatClampNeg)], HH x σ)) rfl (k2 h1) ?_
    refine mm_go 1 (F' := (bif mm_cond .eq ((σ.2.2.1 41) a.toNatClampNeg) 0 then 88 else 76, [some (.ref 37), some (.int a), some (.int b)], [], HH x σ)) rfl ?_
    refine mb_eq (fun h2 => ?_) (fun h2 => ?_)
    · refine mm_go 2 (F' := (2, [some (.ref 37), some (.int (a + (1 : Int32))), some (.int b)], [], HH x σ)) rfl ?_
      exact mm_wk (by exact (And.intro rfl (And.intro rfl True.intro))) (k3 h1 h2)
    · refine mm_go 3 (F' := (79, [some (.ref 37), some (.int a), some (.int b)], [.int b, .int a, .ref 37], HH x σ)) rfl ?_
      refine mm_kl (z := 102) (as := [.ref 37, .int a, .int b]) (S' := []) (L2 := [some (.ref 37), some (.int a), some (.int b), none, none, none]) (v := none) (h1 := HH x σ1) rfl rfl rfl rfl rfl (by omega) (k4 h1 h2) ?_
      show mm_Runs d 101 (82, [some (.ref 37), some (.int a), some (.int b)], [], HH x σ1) r
      refine mm_go 2 (F' := (59, [some (.ref 37), some (.int a), some (.int (b + (1 : Int32)))], [], HH x σ1)) rfl ?_
      exact mm_wk (by exact (And.intro rfl (And.intro rfl (And.intro rfl True.intro)))) (k5 h1 h2)
/-- the cell beside another, by direction -/
def pd_nb (P : pd_T) (c j : Nat) : Option Nat := if j = 0 then (if 0 < c / P.2.1 then some (c - P.2.1) else none) else if j = 1 then (if 0 < c % P.2.1 then some (c - 1) else none) else if j = 2 then (if c % P.2.1 + 1 < P.2.1 then some (c + 1) else none) else (if c / P.2.1 + 1 < P.1 then some (c + P.2.1) else none)
def pd_bs (P : pd_T) (c j : Nat) : Int32 := match pd_nb P c j with
  | some b => if P.2.2 b = true then nI b else -9
  | none => -9
theorem nb_ar {h w a : Nat} (hw : 0 < w) (hw7 : w ≤ 7) (ha : a < h * w) : (a % w + 1 < w ↔ ¬ (a + 1) % w = 0) ∧ (0 < a % w ↔ ¬ a % w = 0) ∧ (0 < a / w ↔ w ≤ a) ∧ (a / w + 1 < h ↔ a + w < h * w) ∧ (a % w + 1 < w → a + 1 < h * w) := by
  have : w = 1 ∨ w = 2 ∨ w = 3 ∨ w = 4 ∨ w = 5 ∨ w = 6 ∨ w = 7 := by omega
  rcases this with rfl | rfl | rfl | rfl | rfl | rfl | rfl <;> (refine ⟨?_, ?_, ?_, ?_, ?_⟩ <;> omega)
theorem nb_lt {P : pd_T} {a b j : Nat} (hw : 0 < P.2.1) (hw7 : P.2.1 ≤ 7) (ha : a < pd_n P) (h : pd_nb P a j = some b) : b < pd_n P := by
  unfold pd_n at *
  obtain ⟨n1, n2, n3, n4, n5⟩ := nb_ar hw hw7 ha
  unfold pd_nb at h
  split at h
  · split at h
    · cases h; omega
    · cases h
  split at h
  · split at h
    · cases h; omega
    · cases h
  split at h
  · split at h
    · rename_i z; cases h; exact n5 z
    · cases h
  · split at h
    · rename_i z; cases h; exact n4.mp z
    · cases h
theorem nb_adj {P : pd_T} {a b : Nat} (hw : 0 < P.2.1) (hw7 : P.2.1 ≤ 7) (ha : a < pd_n P) (hb : b < pd_n P) : pd_adj P a b = true ↔ ∃ j, j < 4 ∧ pd_nb P a j = some b := by
  unfold pd_n at *
  obtain ⟨n1, n2, n3, n4, n5⟩ := nb_ar hw hw7 ha
  obtain ⟨m1, m2, m3, m4, m5⟩ := nb_ar hw hw7 hb
  unfold pd_adj
  simp only [Bool.and_eq_true, Bool.or_eq_true, decide_eq_true_eq, Bool.not_eq_true', decide_eq_false_iff_not]
  constructor
  · rintro (((⟨e, q⟩ | ⟨e, q⟩) | e) | e)
    · refine ⟨2, by omega, ?_⟩
      unfold pd_nb
      rw [if_neg (by decide), if_neg (by decide), if_pos rfl, if_pos (n1.mpr q), e]
    · refine ⟨1, by omega, ?_⟩
      unfold pd_nb
      rw [if_neg (by decide), if_pos rfl, if_pos (n2.mpr (by rw [e]; exact q)), e, Nat.add_sub_cancel]
    · refine ⟨3, by omega, ?_⟩
      unfold pd_nb
      rw [if_neg (by decide), if_neg (by decide), if_neg (by decide), if_pos (n4.mpr (by omega)), e]
    · refine ⟨0, by omega, ?_⟩
      unfold pd_nb
      rw [if_pos rfl, if_pos (n3.mpr (by omega)), e, Nat.add_sub_cancel]
  · rintro ⟨j, hj, h⟩
    unfold pd_nb at h
    split at h
    · split at h
      · rename_i z; cases h; exact Or.inr (by have := n3.mp z; omega)
      · cases h
    split at h
    · split at h
      · rename_i z
        cases h
        have z2 := n2.mp z
        have z3 : 0 < a := by
          rcases Nat.eq_zero_or_pos a with y | y
          · rw [y, Nat.zero_mod] at z; omega
          · exact y
        have z4 : a - 1 + 1 = a := by omega
        exact Or.inl (Or.inl (Or.inr ⟨by omega, by rw [z4]; exact z2⟩))
      · cases h
    split at h
    · split at h
      · rename_i z; cases h; exact Or.inl (Or.inl (Or.inl ⟨rfl, n1.mp z⟩))
      · cases h
    · split at h
      · cases h; exact Or.inl (Or.inr rfl)
      · cases h
theorem nI_n9 {n : Nat} (h : n < 2 ^ 31) : ¬ nI n = -9 := fun z => by
  have h5 := congrArg Int32.toInt z
  rw [nI_toInt h, m9_toInt] at h5
  omega
theorem m_bes {d : Nat} {x : Nat × (Nat → Int32)} {P : pd_T} {σ : mm_S} {c j : Nat} (hp : r_pm P σ) (hc : c < pd_n P) (hj : j < 4) : mm_Runs d 99 (0, [some (.ref 37), some (.int (nI c)), some (.int (nI j)), none, none, none], [], HH x σ) (some (.int (pd_bs P c j)), HH x σ) := by
  have hn := pm_n42 hp
  have h6 := hp.1
  have h7 := hp.2.1
  have hw : 0 < P.2.1 := by
    rcases Nat.eq_zero_or_pos P.2.1 with q | q
    · unfold pd_n at hc; rw [q, Nat.mul_zero] at hc; omega
    · exact q
  have e5 := hp.2.2.1
  have e6 := hp.2.2.2.1
  have w0 : ¬ σ.1 3706 = 0 := by rw [e6]; exact nI_ne0 hw (by omega)
  have ediv : nI c / σ.1 3706 = nI (c / P.2.1) := by rw [e6]; exact pk_div (by omega) hw (by omega)
  have erem : nI c - nI c / σ.1 3706 * σ.1 3706 = nI (c % P.2.1) := by rw [e6]; exact pk_rem (by omega) hw (by omega)
  have hd2 : c / P.2.1 ≤ c := Nat.div_le_self _ _
  have hr2 : c % P.2.1 ≤ c := Nat.mod_le _ _
  obtain ⟨n1, n2, n3, n4, n5⟩ := nb_ar (h := P.1) hw h7 hc
  have fin : ∀ b, pd_nb P c j = some b → b < pd_n P ∧ (¬ σ.2.2.1 41 b = 0 → nI b = pd_bs P c j) ∧ (σ.2.2.1 41 b = 0 → -9 = pd_bs P c j) := by
    intro b hb
    have hbn := nb_lt hw h7 hc hb
    refine ⟨hbn, ?_, ?_⟩
    · intro z
      rw [hp.2.2.2.2.2 b hbn] at z
      unfold pd_bs
      rw [hb]
      by_cases y : P.2.2 b = true
      · show _ = if P.2.2 b = true then nI b else -9
        rw [if_pos y]
      · rw [if_neg y] at z; exact absurd rfl z
    · intro z
      rw [hp.2.2.2.2.2 b hbn] at z
      unfold pd_bs
      rw [hb]
      by_cases y : P.2.2 b = true
      · rw [if_pos y] at z; exact absurd z (by decide)
      · show _ = if P.2.2 b = true then nI b else -9
        rw [if_neg y]
  have non : pd_nb P c j = none → -9 = pd_bs P c j := by
    intro z
    unfold pd_bs
    rw [z]
  match j, hj with
  | 0, _ =>
    by_cases q : 0 < c / P.2.1
    · have en : pd_nb P c 0 = some (c - P.2.1) := by unfold pd_nb; rw [if_pos rfl, if_pos q]
      obtain ⟨f1, f2, f3⟩ := fin _ en
      have ev : nI c - σ.1 3706 = nI (c - P.2.1) := by rw [e6]; exact pk_sub (n3.mp q)
      have cl : (nI (c - P.2.1)).toNatClampNeg = c - P.2.1 := nI_clamp (by omega)
      exact vc_m_bes0 w0 w0 (fun z => absurd z (by rw [ediv]; exact nI_nle q (by omega))) (fun _ z => absurd (by rw [ev] at z; exact z) (nI_n9 (by omega))) (fun _ _ => by rw [ev]; exact nI_in (by omega) (by omega)) (fun _ _ z => by rw [ev, cl] at z; rw [ev, f2 z]) (fun _ _ z => by rw [ev, cl] at z; rw [← f3 z])
    · have en : pd_nb P c 0 = none := by unfold pd_nb; rw [if_pos rfl, if_neg q]
      have z0 : nI c / σ.1 3706 ≤ 0 := by rw [ediv, Nat.eq_zero_of_not_pos q]; decide
      exact vc_m_bes0 w0 w0 (fun _ => by rw [← non en]) (fun z => absurd z0 z) (fun z => absurd z0 z) (fun z => absurd z0 z) (fun z => absurd z0 z)
  | 1, _ =>
    by_cases q : 0 < c % P.2.1
    · have en : pd_nb P c 1 = some (c - 1) := by unfold pd_nb; rw [if_neg (by decide), if_pos rfl, if_pos q]
      obtain ⟨f1, f2, f3⟩ := fin _ en
      have ev : nI c - (1 : Int32) = nI (c - 1) := pk_sub (a := c) (b := 1) (by omega)
      have cl : (nI (c - 1)).toNatClampNeg = c - 1 := nI_clamp (by omega)
      exact vc_m_bes1 w0 w0 (fun z => absurd z (by rw [erem]; exact nI_nle q (by omega))) (fun _ z => absurd (by rw [ev] at z; exact z) (nI_n9 (by omega))) (fun _ _ => by rw [ev]; exact nI_in (by omega) (by omega)) (fun _ _ z => by rw [ev, cl] at z; rw [ev, f2 z]) (fun _ _ z => by rw [ev, cl] at z; rw [← f3 z])
    · have en : pd_nb P c 1 = none := by unfold pd_nb; rw [if_neg (by decide), if_pos rfl, if_neg q]
      have z0 : nI c - nI c / σ.1 3706 * σ.1 3706 ≤ 0 := by rw [erem, show c % P.2.1 = 0 by omega]; decide
      exact vc_m_bes1 w0 w0 (fun _ => by rw [← non en]) (fun z => absurd z0 z) (fun z => absurd z0 z) (fun z => absurd z0 z) (fun z => absurd z0 z)
  | 2, _ =>
    have ew : σ.1 3706 - (1 : Int32) = nI (P.2.1 - 1) := by rw [e6]; exact pk_sub (a := P.2.1) (b := 1) (by omega)
    by_cases q : c % P.2.1 + 1 < P.2.1
    · have en : pd_nb P c 2 = some (c + 1) := by unfold pd_nb; rw [if_neg (by decide), if_neg (by decide), if_pos rfl, if_pos q]
      obtain ⟨f1, f2, f3⟩ := fin _ en
      have ev : nI c + (1 : Int32) = nI (c + 1) := nI_1 c
      have cl : (nI (c + 1)).toNatClampNeg = c + 1 := nI_clamp (by omega)
      exact vc_m_bes2 w0 w0 (fun z => absurd z (by rw [ew, erem]; exact nI_ge (by omega) (by omega))) (fun _ z => absurd (by rw [ev] at z; exact z) (nI_n9 (by omega))) (fun _ _ => by rw [ev]; exact nI_in (by omega) (by omega)) (fun _ _ z => by rw [ev, cl] at z; rw [ev, f2 z]) (fun _ _ z => by rw [ev, cl] at z; rw [← f3 z])
    · have en : pd_nb P c 2 = none := by unfold pd_nb; rw [if_neg (by decide), if_neg (by decide), if_pos rfl, if_neg q]
      have z0 : σ.1 3706 - (1 : Int32) ≤ nI c - nI c / σ.1 3706 * σ.1 3706 := by rw [ew, erem]; exact nI_le (by omega) (by omega)
      exact vc_m_bes2 w0 w0 (fun _ => by rw [← non en]) (fun z => absurd z0 z) (fun z => absurd z0 z) (fun z => absurd z0 z) (fun z => absurd z0 z)
  | 3, _ =>
    have h0 : 0 < P.1 := by
      rcases Nat.eq_zero_or_pos P.1 with q | q
      · unfold pd_n at hc; rw [q, Nat.zero_mul] at hc; omega
      · exact q
    have ew : σ.1 3705 - (1 : Int32) = nI (P.1 - 1) := by rw [e5]; exact pk_sub (a := P.1) (b := 1) (by omega)
    by_cases q : c / P.2.1 + 1 < P.1
    · have en : pd_nb P c 3 = some (c + P.2.1) := by unfold pd_nb; rw [if_neg (by decide), if_neg (by decide), if_neg (by decide), if_pos q]
      obtain ⟨f1, f2, f3⟩ := fin _ en
      have ev : nI c + σ.1 3706 = nI (c + P.2.1) := by rw [e6]; exact nI_add _ _
      have cl : (nI (c + P.2.1)).toNatClampNeg = c + P.2.1 := nI_clamp (by omega)
      exact vc_m_bes3 w0 w0 (fun z => absurd z (by rw [ew, ediv]; exact nI_ge (by omega) (by omega))) (fun _ z => absurd (by rw [ev] at z; exact z) (nI_n9 (by omega))) (fun _ _ => by rw [ev]; exact nI_in (by omega) (by omega)) (fun _ _ z => by rw [ev, cl] at z; rw [ev, f2 z]) (fun _ _ z => by rw [ev, cl] at z; rw [← f3 z])
    · have en : pd_nb P c 3 = none := by unfold pd_nb; rw [if_neg (by decide), if_neg (by decide), if_neg (by decide), if_neg q]
      have z0 : σ.1 3705 - (1 : Int32) ≤ nI c / σ.1 3706 := by rw [ew, ediv]; exact nI_le (by omega) (by omega)
      exact vc_m_bes3 w0 w0 (fun _ => by rw [← non en]) (fun z => absurd z0 z) (fun z => absurd z0 z) (fun z => absurd z0 z) (fun z => absurd z0 z)
  | j + 4, h => omega
/-- what beside answers -/
theorem bs_2 {P : pd_T} (hn : pd_n P ≤ 42) (hw : 0 < P.2.1) (hw7 : P.2.1 ≤ 7) {c : Nat} (hc : c < pd_n P) (j : Nat) : (pd_bs P c j = -9 ∧ ∀ b, pd_nb P c j = some b → P.2.2 b = false) ∨ ∃ b, b < pd_n P ∧ pd_nb P c j = some b ∧ P.2.2 b = true ∧ pd_bs P c j = nI b := by
  unfold pd_bs
  cases h : pd_nb P c j with
  | none => exact Or.inl ⟨rfl, fun b hb => by cases hb⟩
  | some b =>
    cases hb : P.2.2 b with
    | false => exact Or.inl ⟨by simp [hb], fun e he => by cases he; exact hb⟩
    | true => exact Or.inr ⟨b, nb_lt hw hw7 hc h, rfl, hb, by simp [hb]⟩
/-! the ways, layer by layer -/
def wv (P : pd_T) (a t : Nat) (M : Nat → Bool) (b : Nat) : Int32 := if pd_see P a t b = true then pd_way P a b else if M b = true then nI (t + 1) else -9
def mk_ok (P : pd_T) (a t c j : Nat) (M : Nat → Bool) : Prop := ∀ b, b < pd_n P → (M b = true ↔ (P.2.2 b = true ∧ pd_see P a t b = false ∧ ∃ a' j', a' < pd_n P ∧ j' < 4 ∧ pd_lay P a t a' = true ∧ pd_nb P a' j' = some b ∧ (a' < c ∨ (a' = c ∧ j' < j))))
theorem way_at {τ : mm_S} {W : Nat → Int32} {a b : Nat} (h : 42 * a + b < 2 ^ 31) : f_m_way (ua τ 42 W) (nI a) (nI b) = W (42 * a + b) := by
  unfold f_m_way
  rw [w42, nI_clamp h]
  rfl
theorem wv_t {P : pd_T} (hwf : pd_wf P) (hn : pd_n P ≤ 42) {a t c : Nat} (ht : t < 42) (M : Nat → Bool) : wv P a t M c = nI t ↔ pd_lay P a t c = true := by
  unfold wv
  by_cases q : pd_see P a t c = true
  · rw [if_pos q, wy_lay hwf hn]
    exact ⟨fun z => ⟨ht, z⟩, fun z => z.2⟩
  · rw [if_neg q]
    constructor
    · intro z
      exfalso
      split at z
      · rw [nI_eq (by omega) (by omega)] at z; omega
      · exact nI_n9 (by omega) z.symm
    · intro z; exact absurd (bf_ls z) q
theorem wv_9 {P : pd_T} (hwf : pd_wf P) (hn : pd_n P ≤ 42) {a t c : Nat} (ht : t < 42) (M : Nat → Bool) : wv P a t M c = -9 ↔ (pd_see P a t c = false ∧ M c = false) := by
  unfold wv
  by_cases q : pd_see P a t c = true
  · rw [if_pos q, wy_none hwf hn]
    constructor
    · intro z
      obtain ⟨s, -, hs⟩ := bf_see q
      rw [z s] at hs; cases hs
    · intro z; rw [q] at z; cases z.1
  · rw [if_neg q]
    have q2 : pd_see P a t c = false := by
      cases hh : pd_see P a t c with
      | false => rfl
      | true => exact absurd hh q
    by_cases m : M c = true
    · rw [if_pos m]
      exact ⟨fun z => absurd z (nI_n9 (by omega)), fun z => by rw [m] at z; cases z.2⟩
    · rw [if_neg m]
      refine ⟨fun _ => ⟨q2, ?_⟩, fun _ => rfl⟩
      cases hh : M c with
      | false => rfl
      | true => exact absurd hh m
section GO
variable {d : Nat} {x : Nat × (Nat → Int32)} {P : pd_T} {τ : mm_S} {a t : Nat} {W0 : Nat → Int32}
/-- how a round of goOn ends -/
def go_fin (P : pd_T) (a t : Nat) (W0 W : Nat → Int32) : Prop := (∀ b, b < pd_n P → W (42 * a + b) = wv P a t (fun _ => false) b) ∧ ∀ y, (y < 42 * a ∨ 42 * a + 42 ≤ y) → W y = W0 y
theorem m_go_j (hd : 1 ≤ d) (hp : r_pm P τ) (ha : a < pd_n P) (ht : t < 42) {c : Nat} (hc : c < pd_n P)
    (cont : ∀ (M : Nat → Bool) (W : Nat → Int32), mk_ok P a t (c + 1) 0 M → (∀ b, b < pd_n P → W (42 * a + b) = wv P a t M b) → (∀ y, (y < 42 * a ∨ 42 * a + 42 ≤ y) → W y = W0 y) → ∃ W', mm_Runs d 102 (2, [some (.ref 37), some (.int (nI a)), some (.int (nI t)), some (.int (nI (c + 1))), none, none], [], HH x (ua τ 42 W)) (none, HH x (ua τ 42 W')) ∧ go_fin P a (t + 1) W0 W') :
    ∀ (i j : Nat), j + i = 4 → ∀ (M : Nat → Bool) (W : Nat → Int32), mk_ok P a t c j M → (∀ b, b < pd_n P → W (42 * a + b) = wv P a t M b) → (∀ y, (y < 42 * a ∨ 42 * a + 42 ≤ y) → W y = W0 y) → ∃ W', mm_Runs d 102 (13, [some (.ref 37), some (.int (nI a)), some (.int (nI t)), some (.int (nI c)), some (.int (nI j)), none], [], HH x (ua τ 42 W)) (none, HH x (ua τ 42 W')) ∧ go_fin P a (t + 1) W0 W'
  | 0, j, h, M, W, hm, hr, ho => by
    have e : j = 4 := by omega
    subst e
    obtain ⟨W', w1, w2⟩ := cont M W (fun b hb => by
      rw [hm b hb]
      constructor
      · rintro ⟨z1, z2, a', j', z3, z4, z5, z6, z7⟩
        exact ⟨z1, z2, a', j', z3, z4, z5, z6, Or.inl (by omega)⟩
      · rintro ⟨z1, z2, a', j', z3, z4, z5, z6, z7⟩
        exact ⟨z1, z2, a', j', z3, z4, z5, z6, by omega⟩) hr ho
    have hle : (4 : Int32) ≤ nI 4 := by decide
    exact ⟨W', vc_m_goj (v1 := 0) (σ1 := τ) hd (fun _ => by rw [show nI c + (1 : Int32) = nI (c + 1) from nI_1 c]; exact w1) (fun z => absurd hle z) (fun z => absurd hle z) (fun z => absurd hle z) (fun z => absurd hle z) (fun z => absurd hle z) (fun z => absurd hle z) (fun z => absurd hle z) (fun z => absurd hle z), w2⟩
  | i + 1, j, h, M, W, hm, hr, ho => by
    have hn := pm_n42 hp
    have hwf := pm_wf hp
    have hw : 0 < P.2.1 := by
      rcases Nat.eq_zero_or_pos P.2.1 with q | q
      · unfold pd_n at hc; rw [q, Nat.mul_zero] at hc; omega
      · exact q
    have hlt : ¬ (4 : Int32) ≤ nI j := nI_ge (a := j) (b := 4) (by omega) (by omega)
    have gw := way_g hp ha hc
    have ew : f_m_way (ua τ 42 W) (nI a) (nI c) = wv P a t M c := by rw [way_at (by omega), hr c hc]
    by_cases hl : pd_lay P a t c = true
    · have ec : f_m_way (ua τ 42 W) (nI a) (nI c) = nI t := by rw [ew]; exact (wv_t hwf hn ht M).mpr hl
      have bes : mm_Runs (d - 1) 99 (0, [some (.ref 37), some (.int (nI c)), some (.int (nI j)), none, none, none], [], HH x (ua τ 42 W)) (some (.int (pd_bs P c j)), HH x (ua τ 42 W)) := m_bes hp hc (by omega)
      have ih := m_go_j hd hp ha ht hc cont i (j + 1) (by omega)
      rcases bs_2 hn hw hp.2.1 hc j with ⟨b1, b2⟩ | ⟨b, hb, b1, b2, b3⟩
      · obtain ⟨W', w1, w2⟩ := ih M W (fun b hb => by
          rw [hm b hb]
          constructor
          · rintro ⟨z1, z2, a', j', z3, z4, z5, z6, z7⟩
            exact ⟨z1, z2, a', j', z3, z4, z5, z6, by omega⟩
          · rintro ⟨z1, z2, a', j', z3, z4, z5, z6, z7⟩
            refine ⟨z1, z2, a', j', z3, z4, z5, z6, ?_⟩
            rcases z7 with z7 | ⟨z7, z8⟩
            · exact Or.inl z7
            · by_cases ej : j' = j
              · subst z7 ej
                rw [b2 b z6] at z1; cases z1
              · exact Or.inr ⟨z7, by omega⟩) hr ho
        exact ⟨W', vc_m_goj (v1 := pd_bs P c j) (σ1 := ua τ 42 W) hd (fun z => absurd z hlt) (fun _ => gw) (fun _ z => absurd ec z) (fun _ _ => bes) (fun _ _ _ => by rw [show nI j + (1 : Int32) = nI (j + 1) from nI_1 j]; exact w1) (fun _ _ z => absurd b1 z) (fun _ _ z => absurd b1 z) (fun _ _ z => absurd b1 z) (fun _ _ z => absurd b1 z), w2⟩
      · have n9 : ¬ pd_bs P c j = -9 := by rw [b3]; exact nI_n9 (by omega)
        have gb := way_g hp ha hb
        have eb : f_m_way (ua τ 42 W) (nI a) (pd_bs P c j) = wv P a t M b := by rw [b3, way_at (by omega), hr b hb]
        by_cases h9 : wv P a t M b = -9
        · obtain ⟨s1, s2⟩ := (wv_9 hwf hn ht M).mp h9
          obtain ⟨W', w1, w2⟩ := ih (fun y => M y || decide (y = b)) (upd W (42 * a + b) (nI (t + 1))) (fun e he => by
            show (M e || decide (e = b)) = true ↔ _
            rw [Bool.or_eq_true, decide_eq_true_eq, hm e he]
            constructor
            · rintro (⟨z1, z2, a', j', z3, z4, z5, z6, z7⟩ | z)
              · exact ⟨z1, z2, a', j', z3, z4, z5, z6, by omega⟩
              · subst z
                exact ⟨b2, s1, c, j, hc, by omega, hl, b1, Or.inr ⟨rfl, by omega⟩⟩
            · rintro ⟨z1, z2, a', j', z3, z4, z5, z6, z7⟩
              rcases z7 with z7 | ⟨z7, z8⟩
              · exact Or.inl ⟨z1, z2, a', j', z3, z4, z5, z6, Or.inl z7⟩
              · by_cases ej : j' = j
                · subst z7 ej
                  rw [b1] at z6
                  cases z6
                  exact Or.inr rfl
                · exact Or.inl ⟨z1, z2, a', j', z3, z4, z5, z6, Or.inr ⟨z7, by omega⟩⟩) (fun e he => by
            by_cases q : e = b
            · subst q
              rw [pk_us]
              unfold wv
              rw [if_neg (by rw [s1]; decide), if_pos (by simp)]
            · rw [pk_un (by omega), hr e he]
              unfold wv
              simp [q]) (fun y hy => by rw [pk_un (by omega)]; exact ho y hy)
          refine ⟨W', vc_m_goj (v1 := pd_bs P c j) (σ1 := ua τ 42 W) hd (fun z => absurd z hlt) (fun _ => gw) (fun _ z => absurd ec z) (fun _ _ => bes) (fun _ _ z => absurd z n9) (fun _ _ _ => by rw [b3]; exact gb) (fun _ _ _ z => absurd (eb.trans h9) z) (fun _ _ _ _ => by rw [b3]; exact gb) (fun _ _ _ _ => ?_), w2⟩
          rw [b3, w42, nI_clamp (by omega), show nI j + (1 : Int32) = nI (j + 1) from nI_1 j, show nI t + (1 : Int32) = nI (t + 1) from nI_1 t, ua_ua]
          exact w1
        · obtain ⟨W', w1, w2⟩ := ih M W (fun e he => by
            rw [hm e he]
            constructor
            · rintro ⟨z1, z2, a', j', z3, z4, z5, z6, z7⟩
              exact ⟨z1, z2, a', j', z3, z4, z5, z6, by omega⟩
            · rintro ⟨z1, z2, a', j', z3, z4, z5, z6, z7⟩
              rcases z7 with z7 | ⟨z7, z8⟩
              · exact ⟨z1, z2, a', j', z3, z4, z5, z6, Or.inl z7⟩
              · by_cases ej : j' = j
                · subst z7 ej
                  rw [b1] at z6
                  cases z6
                  have mb : M b = true := by
                    cases hh : M b with
                    | true => rfl
                    | false => exact absurd ((wv_9 hwf hn ht M).mpr ⟨z2, hh⟩) h9
                  exact (hm b he).mp mb
                · exact ⟨z1, z2, a', j', z3, z4, z5, z6, Or.inr ⟨z7, by omega⟩⟩) hr ho
          exact ⟨W', vc_m_goj (v1 := pd_bs P c j) (σ1 := ua τ 42 W) hd (fun z => absurd z hlt) (fun _ => gw) (fun _ z => absurd ec z) (fun _ _ => bes) (fun _ _ z => absurd z n9) (fun _ _ _ => by rw [b3]; exact gb) (fun _ _ _ _ => by rw [show nI j + (1 : Int32) = nI (j + 1) from nI_1 j]; exact w1) (fun _ _ _ z => absurd (eb.symm.trans z) h9) (fun _ _ _ z => absurd (eb.symm.trans z) h9), w2⟩
    · have ec : ¬ f_m_way (ua τ 42 W) (nI a) (nI c) = nI t := by rw [ew]; exact fun z => hl ((wv_t hwf hn ht M).mp z)
      obtain ⟨W', w1, w2⟩ := cont M W (fun b hb => by
        rw [hm b hb]
        constructor
        · rintro ⟨z1, z2, a', j', z3, z4, z5, z6, z7⟩
          exact ⟨z1, z2, a', j', z3, z4, z5, z6, Or.inl (by omega)⟩
        · rintro ⟨z1, z2, a', j', z3, z4, z5, z6, z7⟩
          refine ⟨z1, z2, a', j', z3, z4, z5, z6, Or.inl ?_⟩
          have : a' ≠ c := fun e => by rw [e] at z5; exact hl z5
          omega) hr ho
      exact ⟨W', vc_m_goj (v1 := 0) (σ1 := τ) hd (fun z => absurd z hlt) (fun _ => gw) (fun _ _ => by rw [show nI c + (1 : Int32) = nI (c + 1) from nI_1 c]; exact w1) (fun _ z => absurd z ec) (fun _ z => absurd z ec) (fun _ z => absurd z ec) (fun _ z => absurd z ec) (fun _ z => absurd z ec) (fun _ z => absurd z ec), w2⟩
theorem m_go_c (hd : 1 ≤ d) (hp : r_pm P τ) (ha : a < pd_n P) (ht : t < 42) : ∀ (i c : Nat), c + i = pd_n P → ∀ (M : Nat → Bool) (W : Nat → Int32), mk_ok P a t c 0 M → (∀ b, b < pd_n P → W (42 * a + b) = wv P a t M b) → (∀ y, (y < 42 * a ∨ 42 * a + 42 ≤ y) → W y = W0 y) → ∃ W', mm_Runs d 102 (2, [some (.ref 37), some (.int (nI a)), some (.int (nI t)), some (.int (nI c)), none, none], [], HH x (ua τ 42 W)) (none, HH x (ua τ 42 W')) ∧ go_fin P a (t + 1) W0 W'
  | 0, c, h, M, W, hm, hr, ho => by
    have hn := pm_n42 hp
    have hwf := pm_wf hp
    have hw : 0 < P.2.1 := by
      rcases Nat.eq_zero_or_pos P.2.1 with q | q
      · unfold pd_n at ha; rw [q, Nat.mul_zero] at ha; omega
      · exact q
    have e : c = pd_n P := by omega
    subst e
    have hle : f_m_all (ua τ 42 W) ≤ nI (pd_n P) := by rw [all_eq (P := P) (σ := ua τ 42 W) hp]; exact nI_le (Nat.le_refl _) (by omega)
    refine ⟨W, vc_m_goc hd (fun _ => rfl) (fun z => absurd hle z), fun b hb => ?_, ho⟩
    rw [hr b hb]
    have key : M b = true ↔ pd_lay P a (t + 1) b = true := by
      rw [hm b hb]
      constructor
      · rintro ⟨z1, z2, a', j', z3, z4, z5, z6, z7⟩
        rw [bf_1, z1, z2, Bool.not_false, Bool.and_true, Bool.true_and, List.any_eq_true]
        exact ⟨a', List.mem_range.mpr z3, by rw [z5, (nb_adj hw hp.2.1 z3 hb).mpr ⟨j', z4, z6⟩]; rfl⟩
      · intro z
        obtain ⟨a', z3, z5, z6⟩ := bf_pre z
        obtain ⟨j', z7, z8⟩ := (nb_adj hw hp.2.1 z3 hb).mp z6
        exact ⟨bf_lw z, bf_new z, a', j', z3, z7, z5, z8, Or.inl z3⟩
    unfold wv
    rw [bf_s]
    by_cases q : pd_see P a t b = true
    · rw [if_pos q, q, Bool.true_or, if_pos rfl]
    · rw [if_neg q]
      have q2 : pd_see P a t b = false := by
        cases hh : pd_see P a t b with
        | false => rfl
        | true => exact absurd hh q
      rw [q2, Bool.false_or]
      by_cases m : M b = true
      · rw [if_pos m, if_pos (key.mp m), ((wy_lay hwf hn).mp (key.mp m)).2]
      · rw [if_neg m, if_neg (fun z => m (key.mpr z))]
        rfl
  | i + 1, c, h, M, W, hm, hr, ho => by
    have hn := pm_n42 hp
    have hlt : ¬ f_m_all (ua τ 42 W) ≤ nI c := by rw [all_eq (P := P) (σ := ua τ 42 W) hp]; exact nI_ge (by omega) (by omega)
    obtain ⟨W', w1, w2⟩ := m_go_j (d := d) (x := x) (W0 := W0) hd hp ha ht (c := c) (by omega) (fun M W hm hr ho => m_go_c hd hp ha ht i (c + 1) (by omega) M W hm hr ho) 4 0 (by omega) M W hm hr ho
    exact ⟨W', vc_m_goc hd (fun z => absurd z hlt) (fun _ => w1), w2⟩
theorem m_go (hd : 1 ≤ d) (hp : r_pm P τ) (ha : a < pd_n P) (ht : t < 42) {W : Nat → Int32} (hr : go_fin P a t W0 W) : ∃ W', mm_Runs d 102 (0, [some (.ref 37), some (.int (nI a)), some (.int (nI t)), none, none, none], [], HH x (ua τ 42 W)) (none, HH x (ua τ 42 W')) ∧ go_fin P a (t + 1) W0 W' := by
  obtain ⟨W', w1, w2⟩ := m_go_c (d := d) (x := x) (W0 := W0) hd hp ha ht (pd_n P) 0 (by omega) (fun _ => false) W (fun b hb => ⟨fun z => absurd z Bool.false_ne_true, fun ⟨_, _, a', j', _, _, _, _, z⟩ => by omega⟩) hr.1 hr.2
  exact ⟨W', vc_m_go0 w1, w2⟩
/-- rows behind a are laid -/
def lw_ok (P : pd_T) (a : Nat) (W : Nat → Int32) : Prop := ∀ a' b, a' < a → a' < pd_n P → b < pd_n P → W (42 * a' + b) = pd_way P a' b
theorem lw_row (hwf : pd_wf P) (hn : pd_n P ≤ 42) (s : Nat) (hs : pd_n P ≤ s ∨ P.2.2 a = false) (b : Nat) : wv P a s (fun _ => false) b = pd_way P a b := by
  unfold wv
  by_cases q : pd_see P a s b = true
  · rw [if_pos q]
  · rw [if_neg q, if_neg Bool.false_ne_true]
    symm
    rw [wy_none hwf hn]
    intro u
    cases hl : pd_lay P a u b with
    | false => rfl
    | true =>
      exfalso
      rcases hs with hs | hs
      · have := lay_lt hwf hl
        exact q (bf_mono (bf_ls hl) (by omega))
      · obtain ⟨y, hy⟩ := ne_mono (s := 0) ⟨b, hl⟩ (Nat.zero_le _)
        rw [bf_0, hs, Bool.and_false] at hy
        cases hy
theorem m_lw_n (hd : 2 ≤ d) (hp : r_pm P τ) (ha : a < pd_n P) (cont : ∀ W, lw_ok P (a + 1) W → ∃ W', mm_Runs d 101 (2, [some (.ref 37), some (.int (nI (a + 1))), none], [], HH x (ua τ 42 W)) (none, HH x (ua τ 42 W')) ∧ lw_ok P (pd_n P) W') (h0 : lw_ok P a W0) : ∀ (i s : Nat), s + i = pd_n P → ∀ W, go_fin P a s W0 W → ∃ W', mm_Runs d 101 (59, [some (.ref 37), some (.int (nI a)), some (.int (nI s))], [], HH x (ua τ 42 W)) (none, HH x (ua τ 42 W')) ∧ lw_ok P (pd_n P) W'
  | 0, s, h, W, hg => by
    have hn := pm_n42 hp
    have hwf := pm_wf hp
    have e : s = pd_n P := by omega
    subst e
    have hle : f_m_all (ua τ 42 W) ≤ nI (pd_n P) := by rw [all_eq (P := P) (σ := ua τ 42 W) hp]; exact nI_le (Nat.le_refl _) (by omega)
    obtain ⟨W', w1, w2⟩ := cont W (fun a' b h1 h2 h3 => by
      by_cases q : a' = a
      · subst q
        rw [hg.1 b h3, lw_row hwf hn _ (Or.inl (Nat.le_refl _))]
      · rw [hg.2 _ (by omega)]
        exact h0 a' b (by omega) h2 h3)
    exact ⟨W', vc_m_lwn (σ1 := τ) (by omega) (fun _ => by rw [show nI a + (1 : Int32) = nI (a + 1) from nI_1 a]; exact w1) (fun z => absurd hle z) (fun z => absurd hle z) (fun z => absurd hle z) (fun z => absurd hle z), w2⟩
  | i + 1, s, h, W, hg => by
    have hn := pm_n42 hp
    have hwf := pm_wf hp
    have hlt : ¬ f_m_all (ua τ 42 W) ≤ nI s := by rw [all_eq (P := P) (σ := ua τ 42 W) hp]; exact nI_ge (by omega) (by omega)
    have g42 : ¬ (nI a < 0 ∨ 42 ≤ (nI a).toNatClampNeg) := nI_in (by omega) (by omega)
    have ac : (nI a).toNatClampNeg = a := nI_clamp (by omega)
    by_cases hw : P.2.2 a = true
    · have hz : ¬ (ua τ 42 W).2.2.1 41 (nI a).toNatClampNeg = 0 := by
        rw [ac]
        show ¬ τ.2.2.1 41 a = 0
        rw [hp.2.2.2.2.2 a ha, if_pos hw]; decide
      obtain ⟨W1, g1, g2⟩ := m_go (d := d - 1) (x := x) (W0 := W0) (by omega) hp ha (t := s) (by omega) hg
      obtain ⟨W', w1, w2⟩ := m_lw_n hd hp ha cont h0 i (s + 1) (by omega) W1 g2
      exact ⟨W', vc_m_lwn (σ1 := ua τ 42 W1) (by omega) (fun z => absurd z hlt) (fun _ => g42) (fun _ z => absurd z hz) (fun _ _ => g1) (fun _ _ => by rw [show nI s + (1 : Int32) = nI (s + 1) from nI_1 s]; exact w1), w2⟩
    · have hw2 : P.2.2 a = false := by
        cases hh : P.2.2 a with
        | false => rfl
        | true => exact absurd hh hw
      have hz : (ua τ 42 W).2.2.1 41 (nI a).toNatClampNeg = 0 := by
        rw [ac]
        show τ.2.2.1 41 a = 0
        rw [hp.2.2.2.2.2 a ha, if_neg hw]
      obtain ⟨W', w1, w2⟩ := cont W (fun a' b h1 h2 h3 => by
        by_cases q : a' = a
        · subst q
          rw [hg.1 b h3, lw_row hwf hn _ (Or.inr hw2)]
        · rw [hg.2 _ (by omega)]
          exact h0 a' b (by omega) h2 h3)
      exact ⟨W', vc_m_lwn (σ1 := τ) (by omega) (fun z => absurd z hlt) (fun _ => g42) (fun _ _ => by rw [show nI a + (1 : Int32) = nI (a + 1) from nI_1 a]; exact w1) (fun _ z => absurd hz z) (fun _ z => absurd hz z), w2⟩
theorem m_lw_b (hd : 2 ≤ d) (hp : r_pm P τ) (ha : a < pd_n P) (cont : ∀ W, go_fin P a 0 W0 W → ∃ W', mm_Runs d 101 (59, [some (.ref 37), some (.int (nI a)), some (.int (nI 0))], [], HH x (ua τ 42 W)) (none, HH x (ua τ 42 W')) ∧ lw_ok P (pd_n P) W') : ∀ (i b : Nat), b + i = pd_n P → ∀ W, (∀ e, e < b → W (42 * a + e) = wv P a 0 (fun _ => false) e) → (∀ y, (y < 42 * a ∨ 42 * a + 42 ≤ y) → W y = W0 y) → ∃ W', mm_Runs d 101 (12, [some (.ref 37), some (.int (nI a)), some (.int (nI b))], [], HH x (ua τ 42 W)) (none, HH x (ua τ 42 W')) ∧ lw_ok P (pd_n P) W'
  | 0, b, h, W, hg, ho => by
    have hn := pm_n42 hp
    have e : b = pd_n P := by omega
    subst e
    have hle : f_m_all (ua τ 42 W) ≤ nI (pd_n P) := by rw [all_eq (P := P) (σ := ua τ 42 W) hp]; exact nI_le (Nat.le_refl _) (by omega)
    obtain ⟨W', w1, w2⟩ := cont W ⟨hg, ho⟩
    exact ⟨W', vc_m_lwb (by omega) (fun _ => w1) (fun z => absurd hle z) (fun z => absurd hle z) (fun z => absurd hle z) (fun z => absurd hle z) (fun z => absurd hle z) (fun z => absurd hle z) (fun z => absurd hle z), w2⟩
  | i + 1, b, h, W, hg, ho => by
    have hn := pm_n42 hp
    have hwf := pm_wf hp
    have hlt : ¬ f_m_all (ua τ 42 W) ≤ nI b := by rw [all_eq (P := P) (σ := ua τ 42 W) hp]; exact nI_ge (by omega) (by omega)
    have gw := way_g hp ha (show b < pd_n P by omega)
    have g42 : ¬ (nI a < 0 ∨ 42 ≤ (nI a).toNatClampNeg) := nI_in (by omega) (by omega)
    have ac : (nI a).toNatClampNeg = a := nI_clamp (by omega)
    have step : ∀ v, v = wv P a 0 (fun _ => false) b → ∃ W', mm_Runs d 101 (12, [some (.ref 37), some (.int (nI a)), some (.int (nI b + (1 : Int32)))], [], HH x (ua (ua τ 42 W) 42 (upd ((ua τ 42 W).2.2.1 42) ((42 : Int32) * nI a + nI b).toNatClampNeg v))) (none, HH x (ua τ 42 W')) ∧ lw_ok P (pd_n P) W' := by
      intro v hv
      obtain ⟨W', w1, w2⟩ := m_lw_b hd hp ha cont i (b + 1) (by omega) (upd W (42 * a + b) v) (fun e he => by
        by_cases q : e = b
        · subst q; rw [pk_us]; exact hv
        · rw [pk_un (by omega)]; exact hg e (by omega)) (fun y hy => by rw [pk_un (by omega)]; exact ho y hy)
      refine ⟨W', ?_, w2⟩
      rw [w42, nI_clamp (by omega), ua_ua, show nI b + (1 : Int32) = nI (b + 1) from nI_1 b]
      exact w1
    by_cases q : a = b
    · subst q
      by_cases hw : P.2.2 a = true
      · have hz : ¬ (ua τ 42 W).2.2.1 41 (nI a).toNatClampNeg = 0 := by
          rw [ac]
          show ¬ τ.2.2.1 41 a = 0
          rw [hp.2.2.2.2.2 a ha, if_pos hw]; decide
        have l0 : pd_lay P a 0 a = true := by rw [bf_0, hw]; simp
        obtain ⟨W', w1, w2⟩ := step 0 (by unfold wv; rw [if_pos (bf_ls l0), ((wy_lay hwf hn).mp l0).2]; rfl)
        exact ⟨W', vc_m_lwb (by omega) (fun z => absurd z hlt) (fun _ z => absurd rfl z) (fun _ z => absurd rfl z) (fun _ _ => g42) (fun _ _ z => absurd z hz) (fun _ _ z => absurd z hz) (fun _ _ _ => gw) (fun _ _ _ => w1), w2⟩
      · have hz : (ua τ 42 W).2.2.1 41 (nI a).toNatClampNeg = 0 := by
          rw [ac]
          show τ.2.2.1 41 a = 0
          rw [hp.2.2.2.2.2 a ha, if_neg hw]
        obtain ⟨W', w1, w2⟩ := step (-9) (by unfold wv; rw [bf_00, if_neg (by simp [hw]), if_neg Bool.false_ne_true])
        exact ⟨W', vc_m_lwb (by omega) (fun z => absurd z hlt) (fun _ z => absurd rfl z) (fun _ z => absurd rfl z) (fun _ _ => g42) (fun _ _ _ => gw) (fun _ _ _ => w1) (fun _ _ z => absurd hz z) (fun _ _ z => absurd hz z), w2⟩
    · have qn : ¬ nI a = nI b := fun z => q ((nI_eq (by omega) (by omega)).mp z)
      obtain ⟨W', w1, w2⟩ := step (-9) (by unfold wv; rw [bf_00, if_neg (by simp; intro z; exact absurd z.symm q), if_neg Bool.false_ne_true])
      exact ⟨W', vc_m_lwb (by omega) (fun z => absurd z hlt) (fun _ _ => gw) (fun _ _ => w1) (fun _ z => absurd z qn) (fun _ z => absurd z qn) (fun _ z => absurd z qn) (fun _ z => absurd z qn) (fun _ z => absurd z qn), w2⟩
end GO
theorem m_lw_a {d : Nat} {x : Nat × (Nat → Int32)} {P : pd_T} {τ : mm_S} (hd : 2 ≤ d) (hp : r_pm P τ) : ∀ (i a : Nat), a + i = pd_n P → ∀ W, lw_ok P a W → ∃ W', mm_Runs d 101 (2, [some (.ref 37), some (.int (nI a)), none], [], HH x (ua τ 42 W)) (none, HH x (ua τ 42 W')) ∧ lw_ok P (pd_n P) W'
  | 0, a, h, W, hW => by
    have hn := pm_n42 hp
    have e : a = pd_n P := by omega
    subst e
    have hle : f_m_all (ua τ 42 W) ≤ nI (pd_n P) := by rw [all_eq (P := P) (σ := ua τ 42 W) hp]; exact nI_le (Nat.le_refl _) (by omega)
    exact ⟨W, vc_m_lwa (by omega) (fun _ => rfl) (fun z => absurd hle z), hW⟩
  | i + 1, a, h, W, hW => by
    have hn := pm_n42 hp
    have hlt : ¬ f_m_all (ua τ 42 W) ≤ nI a := by rw [all_eq (P := P) (σ := ua τ 42 W) hp]; exact nI_ge (by omega) (by omega)
    obtain ⟨W', w1, w2⟩ := m_lw_b (d := d) (x := x) (W0 := W) hd hp (a := a) (by omega) (fun W1 h1 => m_lw_n hd hp (by omega) (fun W2 h2 => m_lw_a hd hp i (a + 1) (by omega) W2 h2) hW (pd_n P) 0 (by omega) W1 h1) (pd_n P) 0 (by omega) W (fun e he => absurd he (by omega)) (fun _ _ => rfl)
    exact ⟨W', vc_m_lwa (by omega) (fun z => absurd z hlt) (fun _ => w1), w2⟩
theorem m_layWays {d : Nat} {x : Nat × (Nat → Int32)} {P : pd_T} {τ : mm_S} (hd : 2 ≤ d) (hp : r_pm P τ) : ∃ W, mm_Runs d 101 (0, [some (.ref 37), none, none], [], HH x τ) (none, HH x (ua τ 42 W)) ∧ r_way P (ua τ 42 W) := by
  obtain ⟨W', w1, w2⟩ := m_lw_a (d := d) (x := x) hd hp (pd_n P) 0 (by omega) (τ.2.2.1 42) (fun a' b h => absurd h (by omega))
  rw [ua_self] at w1
  exact ⟨W', vc_m_lw0 w1, fun a b ha hb => w2 a b ha ha hb⟩

