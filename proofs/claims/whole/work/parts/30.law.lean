theorem mm_sw0_31 (i : Int32) : i = 0 ∨ i = 1 ∨ i = 2 ∨ i = 3 ∨ i = 4 ∨ i = 5 ∨ i = 6 ∨ i = 7 ∨ i = 8 ∨ i = 9 ∨ i = 10 ∨ i = 11 ∨ i = 12 ∨ i = 13 ∨ i = 14 ∨ i = 15 ∨ i = 16 ∨ i = 17 ∨ i = 18 ∨ i = 19 ∨ i = 20 ∨ i = 21 ∨ i = 22 ∨ i = 23 ∨ i = 24 ∨ i = 25 ∨ i = 26 ∨ i = 27 ∨ i = 28 ∨ i = 29 ∨ i = 30 ∨ i = 31 ∨ (i.toInt < 0 ∨ 31 < i.toInt) := by
  by_cases h : i.toInt < 0 ∨ 31 < i.toInt
  · exact Or.inr (Or.inr (Or.inr (Or.inr (Or.inr (Or.inr (Or.inr (Or.inr (Or.inr (Or.inr (Or.inr (Or.inr (Or.inr (Or.inr (Or.inr (Or.inr (Or.inr (Or.inr (Or.inr (Or.inr (Or.inr (Or.inr (Or.inr (Or.inr (Or.inr (Or.inr (Or.inr (Or.inr (Or.inr (Or.inr (Or.inr (Or.inr (h))))))))))))))))))))))))))))))))
  · have key : ∀ c : Int32, i.toInt = c.toInt → i = c := fun c e => Int32.toInt_inj.mp e
    have h2 : i.toInt = 0 ∨ i.toInt = 1 ∨ i.toInt = 2 ∨ i.toInt = 3 ∨ i.toInt = 4 ∨ i.toInt = 5 ∨ i.toInt = 6 ∨ i.toInt = 7 ∨ i.toInt = 8 ∨ i.toInt = 9 ∨ i.toInt = 10 ∨ i.toInt = 11 ∨ i.toInt = 12 ∨ i.toInt = 13 ∨ i.toInt = 14 ∨ i.toInt = 15 ∨ i.toInt = 16 ∨ i.toInt = 17 ∨ i.toInt = 18 ∨ i.toInt = 19 ∨ i.toInt = 20 ∨ i.toInt = 21 ∨ i.toInt = 22 ∨ i.toInt = 23 ∨ i.toInt = 24 ∨ i.toInt = 25 ∨ i.toInt = 26 ∨ i.toInt = 27 ∨ i.toInt = 28 ∨ i.toInt = 29 ∨ i.toInt = 30 ∨ i.toInt = 31 := by omega
    rcases h2 with h2 | h2 | h2 | h2 | h2 | h2 | h2 | h2 | h2 | h2 | h2 | h2 | h2 | h2 | h2 | h2 | h2 | h2 | h2 | h2 | h2 | h2 | h2 | h2 | h2 | h2 | h2 | h2 | h2 | h2 | h2 | h2
    · exact Or.inl (key 0 h2)
    · exact Or.inr (Or.inl (key 1 h2))
    · exact Or.inr (Or.inr (Or.inl (key 2 h2)))
    · exact Or.inr (Or.inr (Or.inr (Or.inl (key 3 h2))))
    · exact Or.inr (Or.inr (Or.inr (Or.inr (Or.inl (key 4 h2)))))
    · exact Or.inr (Or.inr (Or.inr (Or.inr (Or.inr (Or.inl (key 5 h2))))))
    · exact Or.inr (Or.inr (Or.inr (Or.inr (Or.inr (Or.inr (Or.inl (key 6 h2)))))))
    · exact Or.inr (Or.inr (Or.inr (Or.inr (Or.inr (Or.inr (Or.inr (Or.inl (key 7 h2))))))))
    · exact Or.inr (Or.inr (Or.inr (Or.inr (Or.inr (Or.inr (Or.inr (Or.inr (Or.inl (key 8 h2)))))))))
    · exact Or.inr (Or.inr (Or.inr (Or.inr (Or.inr (Or.inr (Or.inr (Or.inr (Or.inr (Or.inl (key 9 h2))))))))))
    · exact Or.inr (Or.inr (Or.inr (Or.inr (Or.inr (Or.inr (Or.inr (Or.inr (Or.inr (Or.inr (Or.inl (key 10 h2)))))))))))
    · exact Or.inr (Or.inr (Or.inr (Or.inr (Or.inr (Or.inr (Or.inr (Or.inr (Or.inr (Or.inr (Or.inr (Or.inl (key 11 h2))))))))))))
    · exact Or.inr (Or.inr (Or.inr (Or.inr (Or.inr (Or.inr (Or.inr (Or.inr (Or.inr (Or.inr (Or.inr (Or.inr (Or.inl (key 12 h2)))))))))))))
    · exact Or.inr (Or.inr (Or.inr (Or.inr (Or.inr (Or.inr (Or.inr (Or.inr (Or.inr (Or.inr (Or.inr (Or.inr (Or.inr (Or.inl (key 13 h2))))))))))))))
    · exact Or.inr (Or.inr (Or.inr (Or.inr (Or.inr (Or.inr (Or.inr (Or.inr (Or.inr (Or.inr (Or.inr (Or.inr (Or.inr (Or.inr (Or.inl (key 14 h2)))))))))))))))
    · exact Or.inr (Or.inr (Or.inr (Or.inr (Or.inr (Or.inr (Or.inr (Or.inr (Or.inr (Or.inr (Or.inr (Or.inr (Or.inr (Or.inr (Or.inr (Or.inl (key 15 h2))))))))))))))))
    · exact Or.inr (Or.inr (Or.inr (Or.inr (Or.inr (Or.inr (Or.inr (Or.inr (Or.inr (Or.inr (Or.inr (Or.inr (Or.inr (Or.inr (Or.inr (Or.inr (Or.inl (key 16 h2)))))))))))))))))
    · exact Or.inr (Or.inr (Or.inr (Or.inr (Or.inr (Or.inr (Or.inr (Or.inr (Or.inr (Or.inr (Or.inr (Or.inr (Or.inr (Or.inr (Or.inr (Or.inr (Or.inr (Or.inl (key 17 h2))))))))))))))))))
    · exact Or.inr (Or.inr (Or.inr (Or.inr (Or.inr (Or.inr (Or.inr (Or.inr (Or.inr (Or.inr (Or.inr (Or.inr (Or.inr (Or.inr (Or.inr (Or.inr (Or.inr (Or.inr (Or.inl (key 18 h2)))))))))))))))))))
    · exact Or.inr (Or.inr (Or.inr (Or.inr (Or.inr (Or.inr (Or.inr (Or.inr (Or.inr (Or.inr (Or.inr (Or.inr (Or.inr (Or.inr (Or.inr (Or.inr (Or.inr (Or.inr (Or.inr (Or.inl (key 19 h2))))))))))))))))))))
    · exact Or.inr (Or.inr (Or.inr (Or.inr (Or.inr (Or.inr (Or.inr (Or.inr (Or.inr (Or.inr (Or.inr (Or.inr (Or.inr (Or.inr (Or.inr (Or.inr (Or.inr (Or.inr (Or.inr (Or.inr (Or.inl (key 20 h2)))))))))))))))))))))
    · exact Or.inr (Or.inr (Or.inr (Or.inr (Or.inr (Or.inr (Or.inr (Or.inr (Or.inr (Or.inr (Or.inr (Or.inr (Or.inr (Or.inr (Or.inr (Or.inr (Or.inr (Or.inr (Or.inr (Or.inr (Or.inr (Or.inl (key 21 h2))))))))))))))))))))))
    · exact Or.inr (Or.inr (Or.inr (Or.inr (Or.inr (Or.inr (Or.inr (Or.inr (Or.inr (Or.inr (Or.inr (Or.inr (Or.inr (Or.inr (Or.inr (Or.inr (Or.inr (Or.inr (Or.inr (Or.inr (Or.inr (Or.inr (Or.inl (key 22 h2)))))))))))))))))))))))
    · exact Or.inr (Or.inr (Or.inr (Or.inr (Or.inr (Or.inr (Or.inr (Or.inr (Or.inr (Or.inr (Or.inr (Or.inr (Or.inr (Or.inr (Or.inr (Or.inr (Or.inr (Or.inr (Or.inr (Or.inr (Or.inr (Or.inr (Or.inr (Or.inl (key 23 h2))))))))))))))))))))))))
    · exact Or.inr (Or.inr (Or.inr (Or.inr (Or.inr (Or.inr (Or.inr (Or.inr (Or.inr (Or.inr (Or.inr (Or.inr (Or.inr (Or.inr (Or.inr (Or.inr (Or.inr (Or.inr (Or.inr (Or.inr (Or.inr (Or.inr (Or.inr (Or.inr (Or.inl (key 24 h2)))))))))))))))))))))))))
    · exact Or.inr (Or.inr (Or.inr (Or.inr (Or.inr (Or.inr (Or.inr (Or.inr (Or.inr (Or.inr (Or.inr (Or.inr (Or.inr (Or.inr (Or.inr (Or.inr (Or.inr (Or.inr (Or.inr (Or.inr (Or.inr (Or.inr (Or.inr (Or.inr (Or.inr (Or.inl (key 25 h2))))))))))))))))))))))))))
    · exact Or.inr (Or.inr (Or.inr (Or.inr (Or.inr (Or.inr (Or.inr (Or.inr (Or.inr (Or.inr (Or.inr (Or.inr (Or.inr (Or.inr (Or.inr (Or.inr (Or.inr (Or.inr (Or.inr (Or.inr (Or.inr (Or.inr (Or.inr (Or.inr (Or.inr (Or.inr (Or.inl (key 26 h2)))))))))))))))))))))))))))
    · exact Or.inr (Or.inr (Or.inr (Or.inr (Or.inr (Or.inr (Or.inr (Or.inr (Or.inr (Or.inr (Or.inr (Or.inr (Or.inr (Or.inr (Or.inr (Or.inr (Or.inr (Or.inr (Or.inr (Or.inr (Or.inr (Or.inr (Or.inr (Or.inr (Or.inr (Or.inr (Or.inr (Or.inl (key 27 h2))))))))))))))))))))))))))))
    · exact Or.inr (Or.inr (Or.inr (Or.inr (Or.inr (Or.inr (Or.inr (Or.inr (Or.inr (Or.inr (Or.inr (Or.inr (Or.inr (Or.inr (Or.inr (Or.inr (Or.inr (Or.inr (Or.inr (Or.inr (Or.inr (Or.inr (Or.inr (Or.inr (Or.inr (Or.inr (Or.inr (Or.inr (Or.inl (key 28 h2)))))))))))))))))))))))))))))
    · exact Or.inr (Or.inr (Or.inr (Or.inr (Or.inr (Or.inr (Or.inr (Or.inr (Or.inr (Or.inr (Or.inr (Or.inr (Or.inr (Or.inr (Or.inr (Or.inr (Or.inr (Or.inr (Or.inr (Or.inr (Or.inr (Or.inr (Or.inr (Or.inr (Or.inr (Or.inr (Or.inr (Or.inr (Or.inr (Or.inl (key 29 h2))))))))))))))))))))))))))))))
    · exact Or.inr (Or.inr (Or.inr (Or.inr (Or.inr (Or.inr (Or.inr (Or.inr (Or.inr (Or.inr (Or.inr (Or.inr (Or.inr (Or.inr (Or.inr (Or.inr (Or.inr (Or.inr (Or.inr (Or.inr (Or.inr (Or.inr (Or.inr (Or.inr (Or.inr (Or.inr (Or.inr (Or.inr (Or.inr (Or.inr (Or.inl (key 30 h2)))))))))))))))))))))))))))))))
    · exact Or.inr (Or.inr (Or.inr (Or.inr (Or.inr (Or.inr (Or.inr (Or.inr (Or.inr (Or.inr (Or.inr (Or.inr (Or.inr (Or.inr (Or.inr (Or.inr (Or.inr (Or.inr (Or.inr (Or.inr (Or.inr (Or.inr (Or.inr (Or.inr (Or.inr (Or.inr (Or.inr (Or.inr (Or.inr (Or.inr (Or.inr (Or.inl (key 31 h2))))))))))))))))))))))))))))))))
theorem mm_sn0_31 {i : Int32} (h : i.toInt < 0 ∨ 31 < i.toInt) : ¬ i = 0 ∧ ¬ i = 1 ∧ ¬ i = 2 ∧ ¬ i = 3 ∧ ¬ i = 4 ∧ ¬ i = 5 ∧ ¬ i = 6 ∧ ¬ i = 7 ∧ ¬ i = 8 ∧ ¬ i = 9 ∧ ¬ i = 10 ∧ ¬ i = 11 ∧ ¬ i = 12 ∧ ¬ i = 13 ∧ ¬ i = 14 ∧ ¬ i = 15 ∧ ¬ i = 16 ∧ ¬ i = 17 ∧ ¬ i = 18 ∧ ¬ i = 19 ∧ ¬ i = 20 ∧ ¬ i = 21 ∧ ¬ i = 22 ∧ ¬ i = 23 ∧ ¬ i = 24 ∧ ¬ i = 25 ∧ ¬ i = 26 ∧ ¬ i = 27 ∧ ¬ i = 28 ∧ ¬ i = 29 ∧ ¬ i = 30 ∧ ¬ i = 31 := by
  refine ⟨?_, ?_, ?_, ?_, ?_, ?_, ?_, ?_, ?_, ?_, ?_, ?_, ?_, ?_, ?_, ?_, ?_, ?_, ?_, ?_, ?_, ?_, ?_, ?_, ?_, ?_, ?_, ?_, ?_, ?_, ?_, ?_⟩ <;> (intro e; subst e; revert h; decide)
set_option maxRecDepth 100000 in
theorem vc_head_pond {d : Nat} {x : Nat × (Nat → Int32)} {σ : mm_S} {i : Int32} {r : Option Value × mm_H} (hX : ((x.2 i.toNatClampNeg) &&& (31 : Int32)) = (0 : Int32)) (k1 : ((Int32.ofNat x.1) - (6 : Int32)) < i → (some (.int (1 : Int32)), HH x σ) = r) (k2 : ¬ ((Int32.ofNat x.1) - (6 : Int32)) < i → ¬ (i < 0 ∨ x.1 ≤ i.toNatClampNeg)) (k3 : ¬ ((Int32.ofNat x.1) - (6 : Int32)) < i → mm_Runs d 158 (176, [some (.ref 1), some (.ref 2), some (.ref 37), some (.int i)], [], HH x σ) r) : mm_Runs d 158 (18, [some (.ref 1), some (.ref 2), some (.ref 37), some (.int i)], [], HH x σ) r := by
  refine mm_go 6 (F' := (bif mm_cond .gt i ((Int32.ofNat x.1) - (6 : Int32)) then 1150 else 27, [some (.ref 1), some (.ref 2), some (.ref 37), some (.int i)], [], HH x σ)) rfl ?_
  refine mb_gt (fun h1 => ?_) (fun h1 => ?_)
  · refine mm_go 1 (F' := (1151, [some (.ref 1), some (.ref 2), some (.ref 37), some (.int i)], [.int (1 : Int32)], HH x σ)) rfl ?_
    exact mm_rtz rfl rfl (Or.inr rfl) (k1 h1)
  · refine mm_go 2 (F' := (29, [some (.ref 1), some (.ref 2), some (.ref 37), some (.int i)], [.int i, .ref 1], HH x σ)) rfl ?_
    refine mm_gd (F' := (30, [some (.ref 1), some (.ref 2), some (.ref 37), some (.int i)], [.int (x.2 i.toNatClampNeg)], HH x σ)) rfl (k2 h1) ?_
    refine mm_go 2 (F' := (33, [some (.ref 1), some (.ref 2), some (.ref 37), some (.int i)], [.int ((x.2 i.toNatClampNeg) &&& (31 : Int32))], HH x σ)) rfl ?_
    refine mm_tsI hX (F' := (176, [some (.ref 1), some (.ref 2), some (.ref 37), some (.int i)], [], HH x σ)) rfl ?_
    exact mm_wk (by exact (And.intro rfl (And.intro rfl (And.intro rfl (And.intro rfl True.intro))))) (k3 h1)
set_option maxRecDepth 100000 in
theorem vc_head_water {d : Nat} {x : Nat × (Nat → Int32)} {σ : mm_S} {i : Int32} {r : Option Value × mm_H} (hX : ((x.2 i.toNatClampNeg) &&& (31 : Int32)) = (1 : Int32)) (k1 : ((Int32.ofNat x.1) - (6 : Int32)) < i → (some (.int (1 : Int32)), HH x σ) = r) (k2 : ¬ ((Int32.ofNat x.1) - (6 : Int32)) < i → ¬ (i < 0 ∨ x.1 ≤ i.toNatClampNeg)) (k3 : ¬ ((Int32.ofNat x.1) - (6 : Int32)) < i → mm_Runs d 158 (229, [some (.ref 1), some (.ref 2), some (.ref 37), some (.int i)], [], HH x σ) r) : mm_Runs d 158 (18, [some (.ref 1), some (.ref 2), some (.ref 37), some (.int i)], [], HH x σ) r := by
  refine mm_go 6 (F' := (bif mm_cond .gt i ((Int32.ofNat x.1) - (6 : Int32)) then 1150 else 27, [some (.ref 1), some (.ref 2), some (.ref 37), some (.int i)], [], HH x σ)) rfl ?_
  refine mb_gt (fun h1 => ?_) (fun h1 => ?_)
  · refine mm_go 1 (F' := (1151, [some (.ref 1), some (.ref 2), some (.ref 37), some (.int i)], [.int (1 : Int32)], HH x σ)) rfl ?_
    exact mm_rtz rfl rfl (Or.inr rfl) (k1 h1)
  · refine mm_go 2 (F' := (29, [some (.ref 1), some (.ref 2), some (.ref 37), some (.int i)], [.int i, .ref 1], HH x σ)) rfl ?_
    refine mm_gd (F' := (30, [some (.ref 1), some (.ref 2), some (.ref 37), some (.int i)], [.int (x.2 i.toNatClampNeg)], HH x σ)) rfl (k2 h1) ?_
    refine mm_go 2 (F' := (33, [some (.ref 1), some (.ref 2), some (.ref 37), some (.int i)], [.int ((x.2 i.toNatClampNeg) &&& (31 : Int32))], HH x σ)) rfl ?_
    refine mm_tsI hX (F' := (229, [some (.ref 1), some (.ref 2), some (.ref 37), some (.int i)], [], HH x σ)) rfl ?_
    exact mm_wk (by exact (And.intro rfl (And.intro rfl (And.intro rfl (And.intro rfl True.intro))))) (k3 h1)
set_option maxRecDepth 100000 in
theorem vc_head_far {d : Nat} {x : Nat × (Nat → Int32)} {σ : mm_S} {i : Int32} {r : Option Value × mm_H} (hX : ((x.2 i.toNatClampNeg) &&& (31 : Int32)) = (2 : Int32)) (k1 : ((Int32.ofNat x.1) - (6 : Int32)) < i → (some (.int (1 : Int32)), HH x σ) = r) (k2 : ¬ ((Int32.ofNat x.1) - (6 : Int32)) < i → ¬ (i < 0 ∨ x.1 ≤ i.toNatClampNeg)) (k3 : ¬ ((Int32.ofNat x.1) - (6 : Int32)) < i → mm_Runs d 158 (252, [some (.ref 1), some (.ref 2), some (.ref 37), some (.int i)], [], HH x σ) r) : mm_Runs d 158 (18, [some (.ref 1), some (.ref 2), some (.ref 37), some (.int i)], [], HH x σ) r := by
  refine mm_go 6 (F' := (bif mm_cond .gt i ((Int32.ofNat x.1) - (6 : Int32)) then 1150 else 27, [some (.ref 1), some (.ref 2), some (.ref 37), some (.int i)], [], HH x σ)) rfl ?_
  refine mb_gt (fun h1 => ?_) (fun h1 => ?_)
  · refine mm_go 1 (F' := (1151, [some (.ref 1), some (.ref 2), some (.ref 37), some (.int i)], [.int (1 : Int32)], HH x σ)) rfl ?_
    exact mm_rtz rfl rfl (Or.inr rfl) (k1 h1)
  · refine mm_go 2 (F' := (29, [some (.ref 1), some (.ref 2), some (.ref 37), some (.int i)], [.int i, .ref 1], HH x σ)) rfl ?_
    refine mm_gd (F' := (30, [some (.ref 1), some (.ref 2), some (.ref 37), some (.int i)], [.int (x.2 i.toNatClampNeg)], HH x σ)) rfl (k2 h1) ?_
    refine mm_go 2 (F' := (33, [some (.ref 1), some (.ref 2), some (.ref 37), some (.int i)], [.int ((x.2 i.toNatClampNeg) &&& (31 : Int32))], HH x σ)) rfl ?_
    refine mm_tsI hX (F' := (252, [some (.ref 1), some (.ref 2), some (.ref 37), some (.int i)], [], HH x σ)) rfl ?_
    exact mm_wk (by exact (And.intro rfl (And.intro rfl (And.intro rfl (And.intro rfl True.intro))))) (k3 h1)
set_option maxRecDepth 100000 in
theorem vc_head_stone {d : Nat} {x : Nat × (Nat → Int32)} {σ : mm_S} {i : Int32} {r : Option Value × mm_H} (hX : ((x.2 i.toNatClampNeg) &&& (31 : Int32)) = (3 : Int32)) (k1 : ((Int32.ofNat x.1) - (6 : Int32)) < i → (some (.int (1 : Int32)), HH x σ) = r) (k2 : ¬ ((Int32.ofNat x.1) - (6 : Int32)) < i → ¬ (i < 0 ∨ x.1 ≤ i.toNatClampNeg)) (k3 : ¬ ((Int32.ofNat x.1) - (6 : Int32)) < i → mm_Runs d 158 (285, [some (.ref 1), some (.ref 2), some (.ref 37), some (.int i)], [], HH x σ) r) : mm_Runs d 158 (18, [some (.ref 1), some (.ref 2), some (.ref 37), some (.int i)], [], HH x σ) r := by
  refine mm_go 6 (F' := (bif mm_cond .gt i ((Int32.ofNat x.1) - (6 : Int32)) then 1150 else 27, [some (.ref 1), some (.ref 2), some (.ref 37), some (.int i)], [], HH x σ)) rfl ?_
  refine mb_gt (fun h1 => ?_) (fun h1 => ?_)
  · refine mm_go 1 (F' := (1151, [some (.ref 1), some (.ref 2), some (.ref 37), some (.int i)], [.int (1 : Int32)], HH x σ)) rfl ?_
    exact mm_rtz rfl rfl (Or.inr rfl) (k1 h1)
  · refine mm_go 2 (F' := (29, [some (.ref 1), some (.ref 2), some (.ref 37), some (.int i)], [.int i, .ref 1], HH x σ)) rfl ?_
    refine mm_gd (F' := (30, [some (.ref 1), some (.ref 2), some (.ref 37), some (.int i)], [.int (x.2 i.toNatClampNeg)], HH x σ)) rfl (k2 h1) ?_
    refine mm_go 2 (F' := (33, [some (.ref 1), some (.ref 2), some (.ref 37), some (.int i)], [.int ((x.2 i.toNatClampNeg) &&& (31 : Int32))], HH x σ)) rfl ?_
    refine mm_tsI hX (F' := (285, [some (.ref 1), some (.ref 2), some (.ref 37), some (.int i)], [], HH x σ)) rfl ?_
    exact mm_wk (by exact (And.intro rfl (And.intro rfl (And.intro rfl (And.intro rfl True.intro))))) (k3 h1)
set_option maxRecDepth 100000 in
theorem vc_head_ofStone {d : Nat} {x : Nat × (Nat → Int32)} {σ : mm_S} {i : Int32} {r : Option Value × mm_H} (hX : ((x.2 i.toNatClampNeg) &&& (31 : Int32)) = (4 : Int32)) (k1 : ((Int32.ofNat x.1) - (6 : Int32)) < i → (some (.int (1 : Int32)), HH x σ) = r) (k2 : ¬ ((Int32.ofNat x.1) - (6 : Int32)) < i → ¬ (i < 0 ∨ x.1 ≤ i.toNatClampNeg)) (k3 : ¬ ((Int32.ofNat x.1) - (6 : Int32)) < i → mm_Runs d 158 (328, [some (.ref 1), some (.ref 2), some (.ref 37), some (.int i)], [], HH x σ) r) : mm_Runs d 158 (18, [some (.ref 1), some (.ref 2), some (.ref 37), some (.int i)], [], HH x σ) r := by
  refine mm_go 6 (F' := (bif mm_cond .gt i ((Int32.ofNat x.1) - (6 : Int32)) then 1150 else 27, [some (.ref 1), some (.ref 2), some (.ref 37), some (.int i)], [], HH x σ)) rfl ?_
  refine mb_gt (fun h1 => ?_) (fun h1 => ?_)
  · refine mm_go 1 (F' := (1151, [some (.ref 1), some (.ref 2), some (.ref 37), some (.int i)], [.int (1 : Int32)], HH x σ)) rfl ?_
    exact mm_rtz rfl rfl (Or.inr rfl) (k1 h1)
  · refine mm_go 2 (F' := (29, [some (.ref 1), some (.ref 2), some (.ref 37), some (.int i)], [.int i, .ref 1], HH x σ)) rfl ?_
    refine mm_gd (F' := (30, [some (.ref 1), some (.ref 2), some (.ref 37), some (.int i)], [.int (x.2 i.toNatClampNeg)], HH x σ)) rfl (k2 h1) ?_
    refine mm_go 2 (F' := (33, [some (.ref 1), some (.ref 2), some (.ref 37), some (.int i)], [.int ((x.2 i.toNatClampNeg) &&& (31 : Int32))], HH x σ)) rfl ?_
    refine mm_tsI hX (F' := (328, [some (.ref 1), some (.ref 2), some (.ref 37), some (.int i)], [], HH x σ)) rfl ?_
    exact mm_wk (by exact (And.intro rfl (And.intro rfl (And.intro rfl (And.intro rfl True.intro))))) (k3 h1)
set_option maxRecDepth 100000 in
theorem vc_head_back {d : Nat} {x : Nat × (Nat → Int32)} {σ : mm_S} {i : Int32} {r : Option Value × mm_H} (hX : ((x.2 i.toNatClampNeg) &&& (31 : Int32)) = (5 : Int32)) (k1 : ((Int32.ofNat x.1) - (6 : Int32)) < i → (some (.int (1 : Int32)), HH x σ) = r) (k2 : ¬ ((Int32.ofNat x.1) - (6 : Int32)) < i → ¬ (i < 0 ∨ x.1 ≤ i.toNatClampNeg)) (k3 : ¬ ((Int32.ofNat x.1) - (6 : Int32)) < i → mm_Runs d 158 (361, [some (.ref 1), some (.ref 2), some (.ref 37), some (.int i)], [], HH x σ) r) : mm_Runs d 158 (18, [some (.ref 1), some (.ref 2), some (.ref 37), some (.int i)], [], HH x σ) r := by
  refine mm_go 6 (F' := (bif mm_cond .gt i ((Int32.ofNat x.1) - (6 : Int32)) then 1150 else 27, [some (.ref 1), some (.ref 2), some (.ref 37), some (.int i)], [], HH x σ)) rfl ?_
  refine mb_gt (fun h1 => ?_) (fun h1 => ?_)
  · refine mm_go 1 (F' := (1151, [some (.ref 1), some (.ref 2), some (.ref 37), some (.int i)], [.int (1 : Int32)], HH x σ)) rfl ?_
    exact mm_rtz rfl rfl (Or.inr rfl) (k1 h1)
  · refine mm_go 2 (F' := (29, [some (.ref 1), some (.ref 2), some (.ref 37), some (.int i)], [.int i, .ref 1], HH x σ)) rfl ?_
    refine mm_gd (F' := (30, [some (.ref 1), some (.ref 2), some (.ref 37), some (.int i)], [.int (x.2 i.toNatClampNeg)], HH x σ)) rfl (k2 h1) ?_
    refine mm_go 2 (F' := (33, [some (.ref 1), some (.ref 2), some (.ref 37), some (.int i)], [.int ((x.2 i.toNatClampNeg) &&& (31 : Int32))], HH x σ)) rfl ?_
    refine mm_tsI hX (F' := (361, [some (.ref 1), some (.ref 2), some (.ref 37), some (.int i)], [], HH x σ)) rfl ?_
    exact mm_wk (by exact (And.intro rfl (And.intro rfl (And.intro rfl (And.intro rfl True.intro))))) (k3 h1)
set_option maxRecDepth 100000 in
theorem vc_head_ring {d : Nat} {x : Nat × (Nat → Int32)} {σ : mm_S} {i : Int32} {r : Option Value × mm_H} (hX : ((x.2 i.toNatClampNeg) &&& (31 : Int32)) = (6 : Int32)) (k1 : ((Int32.ofNat x.1) - (6 : Int32)) < i → (some (.int (1 : Int32)), HH x σ) = r) (k2 : ¬ ((Int32.ofNat x.1) - (6 : Int32)) < i → ¬ (i < 0 ∨ x.1 ≤ i.toNatClampNeg)) (k3 : ¬ ((Int32.ofNat x.1) - (6 : Int32)) < i → mm_Runs d 158 (384, [some (.ref 1), some (.ref 2), some (.ref 37), some (.int i)], [], HH x σ) r) : mm_Runs d 158 (18, [some (.ref 1), some (.ref 2), some (.ref 37), some (.int i)], [], HH x σ) r := by
  refine mm_go 6 (F' := (bif mm_cond .gt i ((Int32.ofNat x.1) - (6 : Int32)) then 1150 else 27, [some (.ref 1), some (.ref 2), some (.ref 37), some (.int i)], [], HH x σ)) rfl ?_
  refine mb_gt (fun h1 => ?_) (fun h1 => ?_)
  · refine mm_go 1 (F' := (1151, [some (.ref 1), some (.ref 2), some (.ref 37), some (.int i)], [.int (1 : Int32)], HH x σ)) rfl ?_
    exact mm_rtz rfl rfl (Or.inr rfl) (k1 h1)
  · refine mm_go 2 (F' := (29, [some (.ref 1), some (.ref 2), some (.ref 37), some (.int i)], [.int i, .ref 1], HH x σ)) rfl ?_
    refine mm_gd (F' := (30, [some (.ref 1), some (.ref 2), some (.ref 37), some (.int i)], [.int (x.2 i.toNatClampNeg)], HH x σ)) rfl (k2 h1) ?_
    refine mm_go 2 (F' := (33, [some (.ref 1), some (.ref 2), some (.ref 37), some (.int i)], [.int ((x.2 i.toNatClampNeg) &&& (31 : Int32))], HH x σ)) rfl ?_
    refine mm_tsI hX (F' := (384, [some (.ref 1), some (.ref 2), some (.ref 37), some (.int i)], [], HH x σ)) rfl ?_
    exact mm_wk (by exact (And.intro rfl (And.intro rfl (And.intro rfl (And.intro rfl True.intro))))) (k3 h1)
set_option maxRecDepth 100000 in
theorem vc_head_meet {d : Nat} {x : Nat × (Nat → Int32)} {σ : mm_S} {i : Int32} {r : Option Value × mm_H} (hX : ((x.2 i.toNatClampNeg) &&& (31 : Int32)) = (7 : Int32)) (k1 : ((Int32.ofNat x.1) - (6 : Int32)) < i → (some (.int (1 : Int32)), HH x σ) = r) (k2 : ¬ ((Int32.ofNat x.1) - (6 : Int32)) < i → ¬ (i < 0 ∨ x.1 ≤ i.toNatClampNeg)) (k3 : ¬ ((Int32.ofNat x.1) - (6 : Int32)) < i → mm_Runs d 158 (418, [some (.ref 1), some (.ref 2), some (.ref 37), some (.int i)], [], HH x σ) r) : mm_Runs d 158 (18, [some (.ref 1), some (.ref 2), some (.ref 37), some (.int i)], [], HH x σ) r := by
  refine mm_go 6 (F' := (bif mm_cond .gt i ((Int32.ofNat x.1) - (6 : Int32)) then 1150 else 27, [some (.ref 1), some (.ref 2), some (.ref 37), some (.int i)], [], HH x σ)) rfl ?_
  refine mb_gt (fun h1 => ?_) (fun h1 => ?_)
  · refine mm_go 1 (F' := (1151, [some (.ref 1), some (.ref 2), some (.ref 37), some (.int i)], [.int (1 : Int32)], HH x σ)) rfl ?_
    exact mm_rtz rfl rfl (Or.inr rfl) (k1 h1)
  · refine mm_go 2 (F' := (29, [some (.ref 1), some (.ref 2), some (.ref 37), some (.int i)], [.int i, .ref 1], HH x σ)) rfl ?_
    refine mm_gd (F' := (30, [some (.ref 1), some (.ref 2), some (.ref 37), some (.int i)], [.int (x.2 i.toNatClampNeg)], HH x σ)) rfl (k2 h1) ?_
    refine mm_go 2 (F' := (33, [some (.ref 1), some (.ref 2), some (.ref 37), some (.int i)], [.int ((x.2 i.toNatClampNeg) &&& (31 : Int32))], HH x σ)) rfl ?_
    refine mm_tsI hX (F' := (418, [some (.ref 1), some (.ref 2), some (.ref 37), some (.int i)], [], HH x σ)) rfl ?_
    exact mm_wk (by exact (And.intro rfl (And.intro rfl (And.intro rfl (And.intro rfl True.intro))))) (k3 h1)
set_option maxRecDepth 100000 in
theorem vc_head_first {d : Nat} {x : Nat × (Nat → Int32)} {σ : mm_S} {i : Int32} {r : Option Value × mm_H} (hX : ((x.2 i.toNatClampNeg) &&& (31 : Int32)) = (8 : Int32)) (k1 : ((Int32.ofNat x.1) - (6 : Int32)) < i → (some (.int (1 : Int32)), HH x σ) = r) (k2 : ¬ ((Int32.ofNat x.1) - (6 : Int32)) < i → ¬ (i < 0 ∨ x.1 ≤ i.toNatClampNeg)) (k3 : ¬ ((Int32.ofNat x.1) - (6 : Int32)) < i → mm_Runs d 158 (461, [some (.ref 1), some (.ref 2), some (.ref 37), some (.int i)], [], HH x σ) r) : mm_Runs d 158 (18, [some (.ref 1), some (.ref 2), some (.ref 37), some (.int i)], [], HH x σ) r := by
  refine mm_go 6 (F' := (bif mm_cond .gt i ((Int32.ofNat x.1) - (6 : Int32)) then 1150 else 27, [some (.ref 1), some (.ref 2), some (.ref 37), some (.int i)], [], HH x σ)) rfl ?_
  refine mb_gt (fun h1 => ?_) (fun h1 => ?_)
  · refine mm_go 1 (F' := (1151, [some (.ref 1), some (.ref 2), some (.ref 37), some (.int i)], [.int (1 : Int32)], HH x σ)) rfl ?_
    exact mm_rtz rfl rfl (Or.inr rfl) (k1 h1)
  · refine mm_go 2 (F' := (29, [some (.ref 1), some (.ref 2), some (.ref 37), some (.int i)], [.int i, .ref 1], HH x σ)) rfl ?_
    refine mm_gd (F' := (30, [some (.ref 1), some (.ref 2), some (.ref 37), some (.int i)], [.int (x.2 i.toNatClampNeg)], HH x σ)) rfl (k2 h1) ?_
    refine mm_go 2 (F' := (33, [some (.ref 1), some (.ref 2), some (.ref 37), some (.int i)], [.int ((x.2 i.toNatClampNeg) &&& (31 : Int32))], HH x σ)) rfl ?_
    refine mm_tsI hX (F' := (461, [some (.ref 1), some (.ref 2), some (.ref 37), some (.int i)], [], HH x σ)) rfl ?_
    exact mm_wk (by exact (And.intro rfl (And.intro rfl (And.intro rfl (And.intro rfl True.intro))))) (k3 h1)
set_option maxRecDepth 100000 in
theorem vc_head_wish {d : Nat} {x : Nat × (Nat → Int32)} {σ : mm_S} {i : Int32} {r : Option Value × mm_H} (hX : ((x.2 i.toNatClampNeg) &&& (31 : Int32)) = (9 : Int32)) (k1 : ((Int32.ofNat x.1) - (6 : Int32)) < i → (some (.int (1 : Int32)), HH x σ) = r) (k2 : ¬ ((Int32.ofNat x.1) - (6 : Int32)) < i → ¬ (i < 0 ∨ x.1 ≤ i.toNatClampNeg)) (k3 : ¬ ((Int32.ofNat x.1) - (6 : Int32)) < i → mm_Runs d 158 (484, [some (.ref 1), some (.ref 2), some (.ref 37), some (.int i)], [], HH x σ) r) : mm_Runs d 158 (18, [some (.ref 1), some (.ref 2), some (.ref 37), some (.int i)], [], HH x σ) r := by
  refine mm_go 6 (F' := (bif mm_cond .gt i ((Int32.ofNat x.1) - (6 : Int32)) then 1150 else 27, [some (.ref 1), some (.ref 2), some (.ref 37), some (.int i)], [], HH x σ)) rfl ?_
  refine mb_gt (fun h1 => ?_) (fun h1 => ?_)
  · refine mm_go 1 (F' := (1151, [some (.ref 1), some (.ref 2), some (.ref 37), some (.int i)], [.int (1 : Int32)], HH x σ)) rfl ?_
    exact mm_rtz rfl rfl (Or.inr rfl) (k1 h1)
  · refine mm_go 2 (F' := (29, [some (.ref 1), some (.ref 2), some (.ref 37), some (.int i)], [.int i, .ref 1], HH x σ)) rfl ?_
    refine mm_gd (F' := (30, [some (.ref 1), some (.ref 2), some (.ref 37), some (.int i)], [.int (x.2 i.toNatClampNeg)], HH x σ)) rfl (k2 h1) ?_
    refine mm_go 2 (F' := (33, [some (.ref 1), some (.ref 2), some (.ref 37), some (.int i)], [.int ((x.2 i.toNatClampNeg) &&& (31 : Int32))], HH x σ)) rfl ?_
    refine mm_tsI hX (F' := (484, [some (.ref 1), some (.ref 2), some (.ref 37), some (.int i)], [], HH x σ)) rfl ?_
    exact mm_wk (by exact (And.intro rfl (And.intro rfl (And.intro rfl (And.intro rfl True.intro))))) (k3 h1)
set_option maxRecDepth 100000 in
theorem vc_head_ofWish {d : Nat} {x : Nat × (Nat → Int32)} {σ : mm_S} {i : Int32} {r : Option Value × mm_H} (hX : ((x.2 i.toNatClampNeg) &&& (31 : Int32)) = (10 : Int32)) (k1 : ((Int32.ofNat x.1) - (6 : Int32)) < i → (some (.int (1 : Int32)), HH x σ) = r) (k2 : ¬ ((Int32.ofNat x.1) - (6 : Int32)) < i → ¬ (i < 0 ∨ x.1 ≤ i.toNatClampNeg)) (k3 : ¬ ((Int32.ofNat x.1) - (6 : Int32)) < i → mm_Runs d 158 (517, [some (.ref 1), some (.ref 2), some (.ref 37), some (.int i)], [], HH x σ) r) : mm_Runs d 158 (18, [some (.ref 1), some (.ref 2), some (.ref 37), some (.int i)], [], HH x σ) r := by
  refine mm_go 6 (F' := (bif mm_cond .gt i ((Int32.ofNat x.1) - (6 : Int32)) then 1150 else 27, [some (.ref 1), some (.ref 2), some (.ref 37), some (.int i)], [], HH x σ)) rfl ?_
  refine mb_gt (fun h1 => ?_) (fun h1 => ?_)
  · refine mm_go 1 (F' := (1151, [some (.ref 1), some (.ref 2), some (.ref 37), some (.int i)], [.int (1 : Int32)], HH x σ)) rfl ?_
    exact mm_rtz rfl rfl (Or.inr rfl) (k1 h1)
  · refine mm_go 2 (F' := (29, [some (.ref 1), some (.ref 2), some (.ref 37), some (.int i)], [.int i, .ref 1], HH x σ)) rfl ?_
    refine mm_gd (F' := (30, [some (.ref 1), some (.ref 2), some (.ref 37), some (.int i)], [.int (x.2 i.toNatClampNeg)], HH x σ)) rfl (k2 h1) ?_
    refine mm_go 2 (F' := (33, [some (.ref 1), some (.ref 2), some (.ref 37), some (.int i)], [.int ((x.2 i.toNatClampNeg) &&& (31 : Int32))], HH x σ)) rfl ?_
    refine mm_tsI hX (F' := (517, [some (.ref 1), some (.ref 2), some (.ref 37), some (.int i)], [], HH x σ)) rfl ?_
    exact mm_wk (by exact (And.intro rfl (And.intro rfl (And.intro rfl (And.intro rfl True.intro))))) (k3 h1)
set_option maxRecDepth 100000 in
theorem vc_head_drop {d : Nat} {x : Nat × (Nat → Int32)} {σ : mm_S} {i : Int32} {r : Option Value × mm_H} (hX : ((x.2 i.toNatClampNeg) &&& (31 : Int32)) = (11 : Int32)) (k1 : ((Int32.ofNat x.1) - (6 : Int32)) < i → (some (.int (1 : Int32)), HH x σ) = r) (k2 : ¬ ((Int32.ofNat x.1) - (6 : Int32)) < i → ¬ (i < 0 ∨ x.1 ≤ i.toNatClampNeg)) (k3 : ¬ ((Int32.ofNat x.1) - (6 : Int32)) < i → mm_Runs d 158 (550, [some (.ref 1), some (.ref 2), some (.ref 37), some (.int i)], [], HH x σ) r) : mm_Runs d 158 (18, [some (.ref 1), some (.ref 2), some (.ref 37), some (.int i)], [], HH x σ) r := by
  refine mm_go 6 (F' := (bif mm_cond .gt i ((Int32.ofNat x.1) - (6 : Int32)) then 1150 else 27, [some (.ref 1), some (.ref 2), some (.ref 37), some (.int i)], [], HH x σ)) rfl ?_
  refine mb_gt (fun h1 => ?_) (fun h1 => ?_)
  · refine mm_go 1 (F' := (1151, [some (.ref 1), some (.ref 2), some (.ref 37), some (.int i)], [.int (1 : Int32)], HH x σ)) rfl ?_
    exact mm_rtz rfl rfl (Or.inr rfl) (k1 h1)
  · refine mm_go 2 (F' := (29, [some (.ref 1), some (.ref 2), some (.ref 37), some (.int i)], [.int i, .ref 1], HH x σ)) rfl ?_
    refine mm_gd (F' := (30, [some (.ref 1), some (.ref 2), some (.ref 37), some (.int i)], [.int (x.2 i.toNatClampNeg)], HH x σ)) rfl (k2 h1) ?_
    refine mm_go 2 (F' := (33, [some (.ref 1), some (.ref 2), some (.ref 37), some (.int i)], [.int ((x.2 i.toNatClampNeg) &&& (31 : Int32))], HH x σ)) rfl ?_
    refine mm_tsI hX (F' := (550, [some (.ref 1), some (.ref 2), some (.ref 37), some (.int i)], [], HH x σ)) rfl ?_
    exact mm_wk (by exact (And.intro rfl (And.intro rfl (And.intro rfl (And.intro rfl True.intro))))) (k3 h1)
set_option maxRecDepth 100000 in
theorem vc_head_apart {d : Nat} {x : Nat × (Nat → Int32)} {σ : mm_S} {i : Int32} {r : Option Value × mm_H} (hX : ((x.2 i.toNatClampNeg) &&& (31 : Int32)) = (12 : Int32)) (k1 : ((Int32.ofNat x.1) - (6 : Int32)) < i → (some (.int (1 : Int32)), HH x σ) = r) (k2 : ¬ ((Int32.ofNat x.1) - (6 : Int32)) < i → ¬ (i < 0 ∨ x.1 ≤ i.toNatClampNeg)) (k3 : ¬ ((Int32.ofNat x.1) - (6 : Int32)) < i → mm_Runs d 158 (573, [some (.ref 1), some (.ref 2), some (.ref 37), some (.int i)], [], HH x σ) r) : mm_Runs d 158 (18, [some (.ref 1), some (.ref 2), some (.ref 37), some (.int i)], [], HH x σ) r := by
  refine mm_go 6 (F' := (bif mm_cond .gt i ((Int32.ofNat x.1) - (6 : Int32)) then 1150 else 27, [some (.ref 1), some (.ref 2), some (.ref 37), some (.int i)], [], HH x σ)) rfl ?_
  refine mb_gt (fun h1 => ?_) (fun h1 => ?_)
  · refine mm_go 1 (F' := (1151, [some (.ref 1), some (.ref 2), some (.ref 37), some (.int i)], [.int (1 : Int32)], HH x σ)) rfl ?_
    exact mm_rtz rfl rfl (Or.inr rfl) (k1 h1)
  · refine mm_go 2 (F' := (29, [some (.ref 1), some (.ref 2), some (.ref 37), some (.int i)], [.int i, .ref 1], HH x σ)) rfl ?_
    refine mm_gd (F' := (30, [some (.ref 1), some (.ref 2), some (.ref 37), some (.int i)], [.int (x.2 i.toNatClampNeg)], HH x σ)) rfl (k2 h1) ?_
    refine mm_go 2 (F' := (33, [some (.ref 1), some (.ref 2), some (.ref 37), some (.int i)], [.int ((x.2 i.toNatClampNeg) &&& (31 : Int32))], HH x σ)) rfl ?_
    refine mm_tsI hX (F' := (573, [some (.ref 1), some (.ref 2), some (.ref 37), some (.int i)], [], HH x σ)) rfl ?_
    exact mm_wk (by exact (And.intro rfl (And.intro rfl (And.intro rfl (And.intro rfl True.intro))))) (k3 h1)
set_option maxRecDepth 100000 in
theorem vc_head_atOnce {d : Nat} {x : Nat × (Nat → Int32)} {σ : mm_S} {i : Int32} {r : Option Value × mm_H} (hX : ((x.2 i.toNatClampNeg) &&& (31 : Int32)) = (13 : Int32)) (k1 : ((Int32.ofNat x.1) - (6 : Int32)) < i → (some (.int (1 : Int32)), HH x σ) = r) (k2 : ¬ ((Int32.ofNat x.1) - (6 : Int32)) < i → ¬ (i < 0 ∨ x.1 ≤ i.toNatClampNeg)) (k3 : ¬ ((Int32.ofNat x.1) - (6 : Int32)) < i → mm_Runs d 158 (606, [some (.ref 1), some (.ref 2), some (.ref 37), some (.int i)], [], HH x σ) r) : mm_Runs d 158 (18, [some (.ref 1), some (.ref 2), some (.ref 37), some (.int i)], [], HH x σ) r := by
  refine mm_go 6 (F' := (bif mm_cond .gt i ((Int32.ofNat x.1) - (6 : Int32)) then 1150 else 27, [some (.ref 1), some (.ref 2), some (.ref 37), some (.int i)], [], HH x σ)) rfl ?_
  refine mb_gt (fun h1 => ?_) (fun h1 => ?_)
  · refine mm_go 1 (F' := (1151, [some (.ref 1), some (.ref 2), some (.ref 37), some (.int i)], [.int (1 : Int32)], HH x σ)) rfl ?_
    exact mm_rtz rfl rfl (Or.inr rfl) (k1 h1)
  · refine mm_go 2 (F' := (29, [some (.ref 1), some (.ref 2), some (.ref 37), some (.int i)], [.int i, .ref 1], HH x σ)) rfl ?_
    refine mm_gd (F' := (30, [some (.ref 1), some (.ref 2), some (.ref 37), some (.int i)], [.int (x.2 i.toNatClampNeg)], HH x σ)) rfl (k2 h1) ?_
    refine mm_go 2 (F' := (33, [some (.ref 1), some (.ref 2), some (.ref 37), some (.int i)], [.int ((x.2 i.toNatClampNeg) &&& (31 : Int32))], HH x σ)) rfl ?_
    refine mm_tsI hX (F' := (606, [some (.ref 1), some (.ref 2), some (.ref 37), some (.int i)], [], HH x σ)) rfl ?_
    exact mm_wk (by exact (And.intro rfl (And.intro rfl (And.intro rfl (And.intro rfl True.intro))))) (k3 h1)
set_option maxRecDepth 100000 in
theorem vc_head_soonest {d : Nat} {x : Nat × (Nat → Int32)} {σ : mm_S} {i : Int32} {r : Option Value × mm_H} (hX : ((x.2 i.toNatClampNeg) &&& (31 : Int32)) = (14 : Int32)) (k1 : ((Int32.ofNat x.1) - (6 : Int32)) < i → (some (.int (1 : Int32)), HH x σ) = r) (k2 : ¬ ((Int32.ofNat x.1) - (6 : Int32)) < i → ¬ (i < 0 ∨ x.1 ≤ i.toNatClampNeg)) (k3 : ¬ ((Int32.ofNat x.1) - (6 : Int32)) < i → mm_Runs d 158 (619, [some (.ref 1), some (.ref 2), some (.ref 37), some (.int i)], [], HH x σ) r) : mm_Runs d 158 (18, [some (.ref 1), some (.ref 2), some (.ref 37), some (.int i)], [], HH x σ) r := by
  refine mm_go 6 (F' := (bif mm_cond .gt i ((Int32.ofNat x.1) - (6 : Int32)) then 1150 else 27, [some (.ref 1), some (.ref 2), some (.ref 37), some (.int i)], [], HH x σ)) rfl ?_
  refine mb_gt (fun h1 => ?_) (fun h1 => ?_)
  · refine mm_go 1 (F' := (1151, [some (.ref 1), some (.ref 2), some (.ref 37), some (.int i)], [.int (1 : Int32)], HH x σ)) rfl ?_
    exact mm_rtz rfl rfl (Or.inr rfl) (k1 h1)
  · refine mm_go 2 (F' := (29, [some (.ref 1), some (.ref 2), some (.ref 37), some (.int i)], [.int i, .ref 1], HH x σ)) rfl ?_
    refine mm_gd (F' := (30, [some (.ref 1), some (.ref 2), some (.ref 37), some (.int i)], [.int (x.2 i.toNatClampNeg)], HH x σ)) rfl (k2 h1) ?_
    refine mm_go 2 (F' := (33, [some (.ref 1), some (.ref 2), some (.ref 37), some (.int i)], [.int ((x.2 i.toNatClampNeg) &&& (31 : Int32))], HH x σ)) rfl ?_
    refine mm_tsI hX (F' := (619, [some (.ref 1), some (.ref 2), some (.ref 37), some (.int i)], [], HH x σ)) rfl ?_
    exact mm_wk (by exact (And.intro rfl (And.intro rfl (And.intro rfl (And.intro rfl True.intro))))) (k3 h1)
set_option maxRecDepth 100000 in
theorem vc_head_alone {d : Nat} {x : Nat × (Nat → Int32)} {σ : mm_S} {i : Int32} {r : Option Value × mm_H} (hX : ((x.2 i.toNatClampNeg) &&& (31 : Int32)) = (15 : Int32)) (k1 : ((Int32.ofNat x.1) - (6 : Int32)) < i → (some (.int (1 : Int32)), HH x σ) = r) (k2 : ¬ ((Int32.ofNat x.1) - (6 : Int32)) < i → ¬ (i < 0 ∨ x.1 ≤ i.toNatClampNeg)) (k3 : ¬ ((Int32.ofNat x.1) - (6 : Int32)) < i → mm_Runs d 158 (642, [some (.ref 1), some (.ref 2), some (.ref 37), some (.int i)], [], HH x σ) r) : mm_Runs d 158 (18, [some (.ref 1), some (.ref 2), some (.ref 37), some (.int i)], [], HH x σ) r := by
  refine mm_go 6 (F' := (bif mm_cond .gt i ((Int32.ofNat x.1) - (6 : Int32)) then 1150 else 27, [some (.ref 1), some (.ref 2), some (.ref 37), some (.int i)], [], HH x σ)) rfl ?_
  refine mb_gt (fun h1 => ?_) (fun h1 => ?_)
  · refine mm_go 1 (F' := (1151, [some (.ref 1), some (.ref 2), some (.ref 37), some (.int i)], [.int (1 : Int32)], HH x σ)) rfl ?_
    exact mm_rtz rfl rfl (Or.inr rfl) (k1 h1)
  · refine mm_go 2 (F' := (29, [some (.ref 1), some (.ref 2), some (.ref 37), some (.int i)], [.int i, .ref 1], HH x σ)) rfl ?_
    refine mm_gd (F' := (30, [some (.ref 1), some (.ref 2), some (.ref 37), some (.int i)], [.int (x.2 i.toNatClampNeg)], HH x σ)) rfl (k2 h1) ?_
    refine mm_go 2 (F' := (33, [some (.ref 1), some (.ref 2), some (.ref 37), some (.int i)], [.int ((x.2 i.toNatClampNeg) &&& (31 : Int32))], HH x σ)) rfl ?_
    refine mm_tsI hX (F' := (642, [some (.ref 1), some (.ref 2), some (.ref 37), some (.int i)], [], HH x σ)) rfl ?_
    exact mm_wk (by exact (And.intro rfl (And.intro rfl (And.intro rfl (And.intro rfl True.intro))))) (k3 h1)
set_option maxRecDepth 100000 in
theorem vc_head_sunset {d : Nat} {x : Nat × (Nat → Int32)} {σ : mm_S} {i : Int32} {r : Option Value × mm_H} (hX : ((x.2 i.toNatClampNeg) &&& (31 : Int32)) = (16 : Int32)) (k1 : ((Int32.ofNat x.1) - (6 : Int32)) < i → (some (.int (1 : Int32)), HH x σ) = r) (k2 : ¬ ((Int32.ofNat x.1) - (6 : Int32)) < i → ¬ (i < 0 ∨ x.1 ≤ i.toNatClampNeg)) (k3 : ¬ ((Int32.ofNat x.1) - (6 : Int32)) < i → mm_Runs d 158 (665, [some (.ref 1), some (.ref 2), some (.ref 37), some (.int i)], [], HH x σ) r) : mm_Runs d 158 (18, [some (.ref 1), some (.ref 2), some (.ref 37), some (.int i)], [], HH x σ) r := by
  refine mm_go 6 (F' := (bif mm_cond .gt i ((Int32.ofNat x.1) - (6 : Int32)) then 1150 else 27, [some (.ref 1), some (.ref 2), some (.ref 37), some (.int i)], [], HH x σ)) rfl ?_
  refine mb_gt (fun h1 => ?_) (fun h1 => ?_)
  · refine mm_go 1 (F' := (1151, [some (.ref 1), some (.ref 2), some (.ref 37), some (.int i)], [.int (1 : Int32)], HH x σ)) rfl ?_
    exact mm_rtz rfl rfl (Or.inr rfl) (k1 h1)
  · refine mm_go 2 (F' := (29, [some (.ref 1), some (.ref 2), some (.ref 37), some (.int i)], [.int i, .ref 1], HH x σ)) rfl ?_
    refine mm_gd (F' := (30, [some (.ref 1), some (.ref 2), some (.ref 37), some (.int i)], [.int (x.2 i.toNatClampNeg)], HH x σ)) rfl (k2 h1) ?_
    refine mm_go 2 (F' := (33, [some (.ref 1), some (.ref 2), some (.ref 37), some (.int i)], [.int ((x.2 i.toNatClampNeg) &&& (31 : Int32))], HH x σ)) rfl ?_
    refine mm_tsI hX (F' := (665, [some (.ref 1), some (.ref 2), some (.ref 37), some (.int i)], [], HH x σ)) rfl ?_
    exact mm_wk (by exact (And.intro rfl (And.intro rfl (And.intro rfl (And.intro rfl True.intro))))) (k3 h1)
set_option maxRecDepth 100000 in
theorem vc_head_reed {d : Nat} {x : Nat × (Nat → Int32)} {σ : mm_S} {i : Int32} {r : Option Value × mm_H} (hX : ((x.2 i.toNatClampNeg) &&& (31 : Int32)) = (17 : Int32)) (k1 : ((Int32.ofNat x.1) - (6 : Int32)) < i → (some (.int (1 : Int32)), HH x σ) = r) (k2 : ¬ ((Int32.ofNat x.1) - (6 : Int32)) < i → ¬ (i < 0 ∨ x.1 ≤ i.toNatClampNeg)) (k3 : ¬ ((Int32.ofNat x.1) - (6 : Int32)) < i → mm_Runs d 158 (688, [some (.ref 1), some (.ref 2), some (.ref 37), some (.int i)], [], HH x σ) r) : mm_Runs d 158 (18, [some (.ref 1), some (.ref 2), some (.ref 37), some (.int i)], [], HH x σ) r := by
  refine mm_go 6 (F' := (bif mm_cond .gt i ((Int32.ofNat x.1) - (6 : Int32)) then 1150 else 27, [some (.ref 1), some (.ref 2), some (.ref 37), some (.int i)], [], HH x σ)) rfl ?_
  refine mb_gt (fun h1 => ?_) (fun h1 => ?_)
  · refine mm_go 1 (F' := (1151, [some (.ref 1), some (.ref 2), some (.ref 37), some (.int i)], [.int (1 : Int32)], HH x σ)) rfl ?_
    exact mm_rtz rfl rfl (Or.inr rfl) (k1 h1)
  · refine mm_go 2 (F' := (29, [some (.ref 1), some (.ref 2), some (.ref 37), some (.int i)], [.int i, .ref 1], HH x σ)) rfl ?_
    refine mm_gd (F' := (30, [some (.ref 1), some (.ref 2), some (.ref 37), some (.int i)], [.int (x.2 i.toNatClampNeg)], HH x σ)) rfl (k2 h1) ?_
    refine mm_go 2 (F' := (33, [some (.ref 1), some (.ref 2), some (.ref 37), some (.int i)], [.int ((x.2 i.toNatClampNeg) &&& (31 : Int32))], HH x σ)) rfl ?_
    refine mm_tsI hX (F' := (688, [some (.ref 1), some (.ref 2), some (.ref 37), some (.int i)], [], HH x σ)) rfl ?_
    exact mm_wk (by exact (And.intro rfl (And.intro rfl (And.intro rfl (And.intro rfl True.intro))))) (k3 h1)
set_option maxRecDepth 100000 in
theorem vc_head_pull {d : Nat} {x : Nat × (Nat → Int32)} {σ : mm_S} {i : Int32} {r : Option Value × mm_H} (hX : ((x.2 i.toNatClampNeg) &&& (31 : Int32)) = (18 : Int32)) (k1 : ((Int32.ofNat x.1) - (6 : Int32)) < i → (some (.int (1 : Int32)), HH x σ) = r) (k2 : ¬ ((Int32.ofNat x.1) - (6 : Int32)) < i → ¬ (i < 0 ∨ x.1 ≤ i.toNatClampNeg)) (k3 : ¬ ((Int32.ofNat x.1) - (6 : Int32)) < i → mm_Runs d 158 (721, [some (.ref 1), some (.ref 2), some (.ref 37), some (.int i)], [], HH x σ) r) : mm_Runs d 158 (18, [some (.ref 1), some (.ref 2), some (.ref 37), some (.int i)], [], HH x σ) r := by
  refine mm_go 6 (F' := (bif mm_cond .gt i ((Int32.ofNat x.1) - (6 : Int32)) then 1150 else 27, [some (.ref 1), some (.ref 2), some (.ref 37), some (.int i)], [], HH x σ)) rfl ?_
  refine mb_gt (fun h1 => ?_) (fun h1 => ?_)
  · refine mm_go 1 (F' := (1151, [some (.ref 1), some (.ref 2), some (.ref 37), some (.int i)], [.int (1 : Int32)], HH x σ)) rfl ?_
    exact mm_rtz rfl rfl (Or.inr rfl) (k1 h1)
  · refine mm_go 2 (F' := (29, [some (.ref 1), some (.ref 2), some (.ref 37), some (.int i)], [.int i, .ref 1], HH x σ)) rfl ?_
    refine mm_gd (F' := (30, [some (.ref 1), some (.ref 2), some (.ref 37), some (.int i)], [.int (x.2 i.toNatClampNeg)], HH x σ)) rfl (k2 h1) ?_
    refine mm_go 2 (F' := (33, [some (.ref 1), some (.ref 2), some (.ref 37), some (.int i)], [.int ((x.2 i.toNatClampNeg) &&& (31 : Int32))], HH x σ)) rfl ?_
    refine mm_tsI hX (F' := (721, [some (.ref 1), some (.ref 2), some (.ref 37), some (.int i)], [], HH x σ)) rfl ?_
    exact mm_wk (by exact (And.intro rfl (And.intro rfl (And.intro rfl (And.intro rfl True.intro))))) (k3 h1)
set_option maxRecDepth 100000 in
theorem vc_head_fits {d : Nat} {x : Nat × (Nat → Int32)} {σ : mm_S} {i : Int32} {r : Option Value × mm_H} (hX : ((x.2 i.toNatClampNeg) &&& (31 : Int32)) = (19 : Int32)) (k1 : ((Int32.ofNat x.1) - (6 : Int32)) < i → (some (.int (1 : Int32)), HH x σ) = r) (k2 : ¬ ((Int32.ofNat x.1) - (6 : Int32)) < i → ¬ (i < 0 ∨ x.1 ≤ i.toNatClampNeg)) (k3 : ¬ ((Int32.ofNat x.1) - (6 : Int32)) < i → mm_Runs d 158 (744, [some (.ref 1), some (.ref 2), some (.ref 37), some (.int i)], [], HH x σ) r) : mm_Runs d 158 (18, [some (.ref 1), some (.ref 2), some (.ref 37), some (.int i)], [], HH x σ) r := by
  refine mm_go 6 (F' := (bif mm_cond .gt i ((Int32.ofNat x.1) - (6 : Int32)) then 1150 else 27, [some (.ref 1), some (.ref 2), some (.ref 37), some (.int i)], [], HH x σ)) rfl ?_
  refine mb_gt (fun h1 => ?_) (fun h1 => ?_)
  · refine mm_go 1 (F' := (1151, [some (.ref 1), some (.ref 2), some (.ref 37), some (.int i)], [.int (1 : Int32)], HH x σ)) rfl ?_
    exact mm_rtz rfl rfl (Or.inr rfl) (k1 h1)
  · refine mm_go 2 (F' := (29, [some (.ref 1), some (.ref 2), some (.ref 37), some (.int i)], [.int i, .ref 1], HH x σ)) rfl ?_
    refine mm_gd (F' := (30, [some (.ref 1), some (.ref 2), some (.ref 37), some (.int i)], [.int (x.2 i.toNatClampNeg)], HH x σ)) rfl (k2 h1) ?_
    refine mm_go 2 (F' := (33, [some (.ref 1), some (.ref 2), some (.ref 37), some (.int i)], [.int ((x.2 i.toNatClampNeg) &&& (31 : Int32))], HH x σ)) rfl ?_
    refine mm_tsI hX (F' := (744, [some (.ref 1), some (.ref 2), some (.ref 37), some (.int i)], [], HH x σ)) rfl ?_
    exact mm_wk (by exact (And.intro rfl (And.intro rfl (And.intro rfl (And.intro rfl True.intro))))) (k3 h1)
set_option maxRecDepth 100000 in
theorem vc_head_dig {d : Nat} {x : Nat × (Nat → Int32)} {σ : mm_S} {i : Int32} {r : Option Value × mm_H} (hX : ((x.2 i.toNatClampNeg) &&& (31 : Int32)) = (20 : Int32)) (k1 : ((Int32.ofNat x.1) - (6 : Int32)) < i → (some (.int (1 : Int32)), HH x σ) = r) (k2 : ¬ ((Int32.ofNat x.1) - (6 : Int32)) < i → ¬ (i < 0 ∨ x.1 ≤ i.toNatClampNeg)) (k3 : ¬ ((Int32.ofNat x.1) - (6 : Int32)) < i → mm_Runs d 158 (777, [some (.ref 1), some (.ref 2), some (.ref 37), some (.int i)], [], HH x σ) r) : mm_Runs d 158 (18, [some (.ref 1), some (.ref 2), some (.ref 37), some (.int i)], [], HH x σ) r := by
  refine mm_go 6 (F' := (bif mm_cond .gt i ((Int32.ofNat x.1) - (6 : Int32)) then 1150 else 27, [some (.ref 1), some (.ref 2), some (.ref 37), some (.int i)], [], HH x σ)) rfl ?_
  refine mb_gt (fun h1 => ?_) (fun h1 => ?_)
  · refine mm_go 1 (F' := (1151, [some (.ref 1), some (.ref 2), some (.ref 37), some (.int i)], [.int (1 : Int32)], HH x σ)) rfl ?_
    exact mm_rtz rfl rfl (Or.inr rfl) (k1 h1)
  · refine mm_go 2 (F' := (29, [some (.ref 1), some (.ref 2), some (.ref 37), some (.int i)], [.int i, .ref 1], HH x σ)) rfl ?_
    refine mm_gd (F' := (30, [some (.ref 1), some (.ref 2), some (.ref 37), some (.int i)], [.int (x.2 i.toNatClampNeg)], HH x σ)) rfl (k2 h1) ?_
    refine mm_go 2 (F' := (33, [some (.ref 1), some (.ref 2), some (.ref 37), some (.int i)], [.int ((x.2 i.toNatClampNeg) &&& (31 : Int32))], HH x σ)) rfl ?_
    refine mm_tsI hX (F' := (777, [some (.ref 1), some (.ref 2), some (.ref 37), some (.int i)], [], HH x σ)) rfl ?_
    exact mm_wk (by exact (And.intro rfl (And.intro rfl (And.intro rfl (And.intro rfl True.intro))))) (k3 h1)
set_option maxRecDepth 100000 in
theorem vc_head_sheet {d : Nat} {x : Nat × (Nat → Int32)} {σ : mm_S} {i : Int32} {r : Option Value × mm_H} (hX : ((x.2 i.toNatClampNeg) &&& (31 : Int32)) = (21 : Int32)) (k1 : ((Int32.ofNat x.1) - (6 : Int32)) < i → (some (.int (1 : Int32)), HH x σ) = r) (k2 : ¬ ((Int32.ofNat x.1) - (6 : Int32)) < i → ¬ (i < 0 ∨ x.1 ≤ i.toNatClampNeg)) (k3 : ¬ ((Int32.ofNat x.1) - (6 : Int32)) < i → mm_Runs d 158 (800, [some (.ref 1), some (.ref 2), some (.ref 37), some (.int i)], [], HH x σ) r) : mm_Runs d 158 (18, [some (.ref 1), some (.ref 2), some (.ref 37), some (.int i)], [], HH x σ) r := by
  refine mm_go 6 (F' := (bif mm_cond .gt i ((Int32.ofNat x.1) - (6 : Int32)) then 1150 else 27, [some (.ref 1), some (.ref 2), some (.ref 37), some (.int i)], [], HH x σ)) rfl ?_
  refine mb_gt (fun h1 => ?_) (fun h1 => ?_)
  · refine mm_go 1 (F' := (1151, [some (.ref 1), some (.ref 2), some (.ref 37), some (.int i)], [.int (1 : Int32)], HH x σ)) rfl ?_
    exact mm_rtz rfl rfl (Or.inr rfl) (k1 h1)
  · refine mm_go 2 (F' := (29, [some (.ref 1), some (.ref 2), some (.ref 37), some (.int i)], [.int i, .ref 1], HH x σ)) rfl ?_
    refine mm_gd (F' := (30, [some (.ref 1), some (.ref 2), some (.ref 37), some (.int i)], [.int (x.2 i.toNatClampNeg)], HH x σ)) rfl (k2 h1) ?_
    refine mm_go 2 (F' := (33, [some (.ref 1), some (.ref 2), some (.ref 37), some (.int i)], [.int ((x.2 i.toNatClampNeg) &&& (31 : Int32))], HH x σ)) rfl ?_
    refine mm_tsI hX (F' := (800, [some (.ref 1), some (.ref 2), some (.ref 37), some (.int i)], [], HH x σ)) rfl ?_
    exact mm_wk (by exact (And.intro rfl (And.intro rfl (And.intro rfl (And.intro rfl True.intro))))) (k3 h1)
set_option maxRecDepth 100000 in
theorem vc_head_lose {d : Nat} {x : Nat × (Nat → Int32)} {σ : mm_S} {i : Int32} {r : Option Value × mm_H} (hX : ((x.2 i.toNatClampNeg) &&& (31 : Int32)) = (22 : Int32)) (k1 : ((Int32.ofNat x.1) - (6 : Int32)) < i → (some (.int (1 : Int32)), HH x σ) = r) (k2 : ¬ ((Int32.ofNat x.1) - (6 : Int32)) < i → ¬ (i < 0 ∨ x.1 ≤ i.toNatClampNeg)) (k3 : ¬ ((Int32.ofNat x.1) - (6 : Int32)) < i → mm_Runs d 158 (843, [some (.ref 1), some (.ref 2), some (.ref 37), some (.int i)], [], HH x σ) r) : mm_Runs d 158 (18, [some (.ref 1), some (.ref 2), some (.ref 37), some (.int i)], [], HH x σ) r := by
  refine mm_go 6 (F' := (bif mm_cond .gt i ((Int32.ofNat x.1) - (6 : Int32)) then 1150 else 27, [some (.ref 1), some (.ref 2), some (.ref 37), some (.int i)], [], HH x σ)) rfl ?_
  refine mb_gt (fun h1 => ?_) (fun h1 => ?_)
  · refine mm_go 1 (F' := (1151, [some (.ref 1), some (.ref 2), some (.ref 37), some (.int i)], [.int (1 : Int32)], HH x σ)) rfl ?_
    exact mm_rtz rfl rfl (Or.inr rfl) (k1 h1)
  · refine mm_go 2 (F' := (29, [some (.ref 1), some (.ref 2), some (.ref 37), some (.int i)], [.int i, .ref 1], HH x σ)) rfl ?_
    refine mm_gd (F' := (30, [some (.ref 1), some (.ref 2), some (.ref 37), some (.int i)], [.int (x.2 i.toNatClampNeg)], HH x σ)) rfl (k2 h1) ?_
    refine mm_go 2 (F' := (33, [some (.ref 1), some (.ref 2), some (.ref 37), some (.int i)], [.int ((x.2 i.toNatClampNeg) &&& (31 : Int32))], HH x σ)) rfl ?_
    refine mm_tsI hX (F' := (843, [some (.ref 1), some (.ref 2), some (.ref 37), some (.int i)], [], HH x σ)) rfl ?_
    exact mm_wk (by exact (And.intro rfl (And.intro rfl (And.intro rfl (And.intro rfl True.intro))))) (k3 h1)
set_option maxRecDepth 100000 in
theorem vc_head_put {d : Nat} {x : Nat × (Nat → Int32)} {σ : mm_S} {i : Int32} {r : Option Value × mm_H} (hX : ((x.2 i.toNatClampNeg) &&& (31 : Int32)) = (23 : Int32)) (k1 : ((Int32.ofNat x.1) - (6 : Int32)) < i → (some (.int (1 : Int32)), HH x σ) = r) (k2 : ¬ ((Int32.ofNat x.1) - (6 : Int32)) < i → ¬ (i < 0 ∨ x.1 ≤ i.toNatClampNeg)) (k3 : ¬ ((Int32.ofNat x.1) - (6 : Int32)) < i → mm_Runs d 158 (866, [some (.ref 1), some (.ref 2), some (.ref 37), some (.int i)], [], HH x σ) r) : mm_Runs d 158 (18, [some (.ref 1), some (.ref 2), some (.ref 37), some (.int i)], [], HH x σ) r := by
  refine mm_go 6 (F' := (bif mm_cond .gt i ((Int32.ofNat x.1) - (6 : Int32)) then 1150 else 27, [some (.ref 1), some (.ref 2), some (.ref 37), some (.int i)], [], HH x σ)) rfl ?_
  refine mb_gt (fun h1 => ?_) (fun h1 => ?_)
  · refine mm_go 1 (F' := (1151, [some (.ref 1), some (.ref 2), some (.ref 37), some (.int i)], [.int (1 : Int32)], HH x σ)) rfl ?_
    exact mm_rtz rfl rfl (Or.inr rfl) (k1 h1)
  · refine mm_go 2 (F' := (29, [some (.ref 1), some (.ref 2), some (.ref 37), some (.int i)], [.int i, .ref 1], HH x σ)) rfl ?_
    refine mm_gd (F' := (30, [some (.ref 1), some (.ref 2), some (.ref 37), some (.int i)], [.int (x.2 i.toNatClampNeg)], HH x σ)) rfl (k2 h1) ?_
    refine mm_go 2 (F' := (33, [some (.ref 1), some (.ref 2), some (.ref 37), some (.int i)], [.int ((x.2 i.toNatClampNeg) &&& (31 : Int32))], HH x σ)) rfl ?_
    refine mm_tsI hX (F' := (866, [some (.ref 1), some (.ref 2), some (.ref 37), some (.int i)], [], HH x σ)) rfl ?_
    exact mm_wk (by exact (And.intro rfl (And.intro rfl (And.intro rfl (And.intro rfl True.intro))))) (k3 h1)
set_option maxRecDepth 100000 in
theorem vc_head_cell {d : Nat} {x : Nat × (Nat → Int32)} {σ : mm_S} {i : Int32} {r : Option Value × mm_H} (hX : ((x.2 i.toNatClampNeg) &&& (31 : Int32)) = (24 : Int32)) (k1 : ((Int32.ofNat x.1) - (6 : Int32)) < i → (some (.int (1 : Int32)), HH x σ) = r) (k2 : ¬ ((Int32.ofNat x.1) - (6 : Int32)) < i → ¬ (i < 0 ∨ x.1 ≤ i.toNatClampNeg)) (k3 : ¬ ((Int32.ofNat x.1) - (6 : Int32)) < i → mm_Runs d 158 (909, [some (.ref 1), some (.ref 2), some (.ref 37), some (.int i)], [], HH x σ) r) : mm_Runs d 158 (18, [some (.ref 1), some (.ref 2), some (.ref 37), some (.int i)], [], HH x σ) r := by
  refine mm_go 6 (F' := (bif mm_cond .gt i ((Int32.ofNat x.1) - (6 : Int32)) then 1150 else 27, [some (.ref 1), some (.ref 2), some (.ref 37), some (.int i)], [], HH x σ)) rfl ?_
  refine mb_gt (fun h1 => ?_) (fun h1 => ?_)
  · refine mm_go 1 (F' := (1151, [some (.ref 1), some (.ref 2), some (.ref 37), some (.int i)], [.int (1 : Int32)], HH x σ)) rfl ?_
    exact mm_rtz rfl rfl (Or.inr rfl) (k1 h1)
  · refine mm_go 2 (F' := (29, [some (.ref 1), some (.ref 2), some (.ref 37), some (.int i)], [.int i, .ref 1], HH x σ)) rfl ?_
    refine mm_gd (F' := (30, [some (.ref 1), some (.ref 2), some (.ref 37), some (.int i)], [.int (x.2 i.toNatClampNeg)], HH x σ)) rfl (k2 h1) ?_
    refine mm_go 2 (F' := (33, [some (.ref 1), some (.ref 2), some (.ref 37), some (.int i)], [.int ((x.2 i.toNatClampNeg) &&& (31 : Int32))], HH x σ)) rfl ?_
    refine mm_tsI hX (F' := (909, [some (.ref 1), some (.ref 2), some (.ref 37), some (.int i)], [], HH x σ)) rfl ?_
    exact mm_wk (by exact (And.intro rfl (And.intro rfl (And.intro rfl (And.intro rfl True.intro))))) (k3 h1)
set_option maxRecDepth 100000 in
theorem vc_head_copy {d : Nat} {x : Nat × (Nat → Int32)} {σ : mm_S} {i : Int32} {r : Option Value × mm_H} (hX : ((x.2 i.toNatClampNeg) &&& (31 : Int32)) = (25 : Int32)) (k1 : ((Int32.ofNat x.1) - (6 : Int32)) < i → (some (.int (1 : Int32)), HH x σ) = r) (k2 : ¬ ((Int32.ofNat x.1) - (6 : Int32)) < i → ¬ (i < 0 ∨ x.1 ≤ i.toNatClampNeg)) (k3 : ¬ ((Int32.ofNat x.1) - (6 : Int32)) < i → mm_Runs d 158 (953, [some (.ref 1), some (.ref 2), some (.ref 37), some (.int i)], [], HH x σ) r) : mm_Runs d 158 (18, [some (.ref 1), some (.ref 2), some (.ref 37), some (.int i)], [], HH x σ) r := by
  refine mm_go 6 (F' := (bif mm_cond .gt i ((Int32.ofNat x.1) - (6 : Int32)) then 1150 else 27, [some (.ref 1), some (.ref 2), some (.ref 37), some (.int i)], [], HH x σ)) rfl ?_
  refine mb_gt (fun h1 => ?_) (fun h1 => ?_)
  · refine mm_go 1 (F' := (1151, [some (.ref 1), some (.ref 2), some (.ref 37), some (.int i)], [.int (1 : Int32)], HH x σ)) rfl ?_
    exact mm_rtz rfl rfl (Or.inr rfl) (k1 h1)
  · refine mm_go 2 (F' := (29, [some (.ref 1), some (.ref 2), some (.ref 37), some (.int i)], [.int i, .ref 1], HH x σ)) rfl ?_
    refine mm_gd (F' := (30, [some (.ref 1), some (.ref 2), some (.ref 37), some (.int i)], [.int (x.2 i.toNatClampNeg)], HH x σ)) rfl (k2 h1) ?_
    refine mm_go 2 (F' := (33, [some (.ref 1), some (.ref 2), some (.ref 37), some (.int i)], [.int ((x.2 i.toNatClampNeg) &&& (31 : Int32))], HH x σ)) rfl ?_
    refine mm_tsI hX (F' := (953, [some (.ref 1), some (.ref 2), some (.ref 37), some (.int i)], [], HH x σ)) rfl ?_
    exact mm_wk (by exact (And.intro rfl (And.intro rfl (And.intro rfl (And.intro rfl True.intro))))) (k3 h1)
set_option maxRecDepth 100000 in
theorem vc_head_tell {d : Nat} {x : Nat × (Nat → Int32)} {σ : mm_S} {i : Int32} {r : Option Value × mm_H} (hX : ((x.2 i.toNatClampNeg) &&& (31 : Int32)) = (26 : Int32)) (k1 : ((Int32.ofNat x.1) - (6 : Int32)) < i → (some (.int (1 : Int32)), HH x σ) = r) (k2 : ¬ ((Int32.ofNat x.1) - (6 : Int32)) < i → ¬ (i < 0 ∨ x.1 ≤ i.toNatClampNeg)) (k3 : ¬ ((Int32.ofNat x.1) - (6 : Int32)) < i → mm_Runs d 158 (1016, [some (.ref 1), some (.ref 2), some (.ref 37), some (.int i)], [], HH x σ) r) : mm_Runs d 158 (18, [some (.ref 1), some (.ref 2), some (.ref 37), some (.int i)], [], HH x σ) r := by
  refine mm_go 6 (F' := (bif mm_cond .gt i ((Int32.ofNat x.1) - (6 : Int32)) then 1150 else 27, [some (.ref 1), some (.ref 2), some (.ref 37), some (.int i)], [], HH x σ)) rfl ?_
  refine mb_gt (fun h1 => ?_) (fun h1 => ?_)
  · refine mm_go 1 (F' := (1151, [some (.ref 1), some (.ref 2), some (.ref 37), some (.int i)], [.int (1 : Int32)], HH x σ)) rfl ?_
    exact mm_rtz rfl rfl (Or.inr rfl) (k1 h1)
  · refine mm_go 2 (F' := (29, [some (.ref 1), some (.ref 2), some (.ref 37), some (.int i)], [.int i, .ref 1], HH x σ)) rfl ?_
    refine mm_gd (F' := (30, [some (.ref 1), some (.ref 2), some (.ref 37), some (.int i)], [.int (x.2 i.toNatClampNeg)], HH x σ)) rfl (k2 h1) ?_
    refine mm_go 2 (F' := (33, [some (.ref 1), some (.ref 2), some (.ref 37), some (.int i)], [.int ((x.2 i.toNatClampNeg) &&& (31 : Int32))], HH x σ)) rfl ?_
    refine mm_tsI hX (F' := (1016, [some (.ref 1), some (.ref 2), some (.ref 37), some (.int i)], [], HH x σ)) rfl ?_
    exact mm_wk (by exact (And.intro rfl (And.intro rfl (And.intro rfl (And.intro rfl True.intro))))) (k3 h1)
set_option maxRecDepth 100000 in
theorem vc_head_make {d : Nat} {x : Nat × (Nat → Int32)} {σ : mm_S} {i : Int32} {r : Option Value × mm_H} (hX : ((x.2 i.toNatClampNeg) &&& (31 : Int32)) = (27 : Int32)) (k1 : ((Int32.ofNat x.1) - (6 : Int32)) < i → (some (.int (1 : Int32)), HH x σ) = r) (k2 : ¬ ((Int32.ofNat x.1) - (6 : Int32)) < i → ¬ (i < 0 ∨ x.1 ≤ i.toNatClampNeg)) (k3 : ¬ ((Int32.ofNat x.1) - (6 : Int32)) < i → mm_Runs d 158 (1039, [some (.ref 1), some (.ref 2), some (.ref 37), some (.int i)], [], HH x σ) r) : mm_Runs d 158 (18, [some (.ref 1), some (.ref 2), some (.ref 37), some (.int i)], [], HH x σ) r := by
  refine mm_go 6 (F' := (bif mm_cond .gt i ((Int32.ofNat x.1) - (6 : Int32)) then 1150 else 27, [some (.ref 1), some (.ref 2), some (.ref 37), some (.int i)], [], HH x σ)) rfl ?_
  refine mb_gt (fun h1 => ?_) (fun h1 => ?_)
  · refine mm_go 1 (F' := (1151, [some (.ref 1), some (.ref 2), some (.ref 37), some (.int i)], [.int (1 : Int32)], HH x σ)) rfl ?_
    exact mm_rtz rfl rfl (Or.inr rfl) (k1 h1)
  · refine mm_go 2 (F' := (29, [some (.ref 1), some (.ref 2), some (.ref 37), some (.int i)], [.int i, .ref 1], HH x σ)) rfl ?_
    refine mm_gd (F' := (30, [some (.ref 1), some (.ref 2), some (.ref 37), some (.int i)], [.int (x.2 i.toNatClampNeg)], HH x σ)) rfl (k2 h1) ?_
    refine mm_go 2 (F' := (33, [some (.ref 1), some (.ref 2), some (.ref 37), some (.int i)], [.int ((x.2 i.toNatClampNeg) &&& (31 : Int32))], HH x σ)) rfl ?_
    refine mm_tsI hX (F' := (1039, [some (.ref 1), some (.ref 2), some (.ref 37), some (.int i)], [], HH x σ)) rfl ?_
    exact mm_wk (by exact (And.intro rfl (And.intro rfl (And.intro rfl (And.intro rfl True.intro))))) (k3 h1)
set_option maxRecDepth 100000 in
theorem vc_head_as {d : Nat} {x : Nat × (Nat → Int32)} {σ : mm_S} {i : Int32} {r : Option Value × mm_H} (hX : ((x.2 i.toNatClampNeg) &&& (31 : Int32)) = (28 : Int32)) (k1 : ((Int32.ofNat x.1) - (6 : Int32)) < i → (some (.int (1 : Int32)), HH x σ) = r) (k2 : ¬ ((Int32.ofNat x.1) - (6 : Int32)) < i → ¬ (i < 0 ∨ x.1 ≤ i.toNatClampNeg)) (k3 : ¬ ((Int32.ofNat x.1) - (6 : Int32)) < i → mm_Runs d 158 (1062, [some (.ref 1), some (.ref 2), some (.ref 37), some (.int i)], [], HH x σ) r) : mm_Runs d 158 (18, [some (.ref 1), some (.ref 2), some (.ref 37), some (.int i)], [], HH x σ) r := by
  refine mm_go 6 (F' := (bif mm_cond .gt i ((Int32.ofNat x.1) - (6 : Int32)) then 1150 else 27, [some (.ref 1), some (.ref 2), some (.ref 37), some (.int i)], [], HH x σ)) rfl ?_
  refine mb_gt (fun h1 => ?_) (fun h1 => ?_)
  · refine mm_go 1 (F' := (1151, [some (.ref 1), some (.ref 2), some (.ref 37), some (.int i)], [.int (1 : Int32)], HH x σ)) rfl ?_
    exact mm_rtz rfl rfl (Or.inr rfl) (k1 h1)
  · refine mm_go 2 (F' := (29, [some (.ref 1), some (.ref 2), some (.ref 37), some (.int i)], [.int i, .ref 1], HH x σ)) rfl ?_
    refine mm_gd (F' := (30, [some (.ref 1), some (.ref 2), some (.ref 37), some (.int i)], [.int (x.2 i.toNatClampNeg)], HH x σ)) rfl (k2 h1) ?_
    refine mm_go 2 (F' := (33, [some (.ref 1), some (.ref 2), some (.ref 37), some (.int i)], [.int ((x.2 i.toNatClampNeg) &&& (31 : Int32))], HH x σ)) rfl ?_
    refine mm_tsI hX (F' := (1062, [some (.ref 1), some (.ref 2), some (.ref 37), some (.int i)], [], HH x σ)) rfl ?_
    exact mm_wk (by exact (And.intro rfl (And.intro rfl (And.intro rfl (And.intro rfl True.intro))))) (k3 h1)
set_option maxRecDepth 100000 in
theorem vc_head_trace {d : Nat} {x : Nat × (Nat → Int32)} {σ : mm_S} {i : Int32} {r : Option Value × mm_H} (hX : ((x.2 i.toNatClampNeg) &&& (31 : Int32)) = (29 : Int32)) (k1 : ((Int32.ofNat x.1) - (6 : Int32)) < i → (some (.int (1 : Int32)), HH x σ) = r) (k2 : ¬ ((Int32.ofNat x.1) - (6 : Int32)) < i → ¬ (i < 0 ∨ x.1 ≤ i.toNatClampNeg)) (k3 : ¬ ((Int32.ofNat x.1) - (6 : Int32)) < i → mm_Runs d 158 (1095, [some (.ref 1), some (.ref 2), some (.ref 37), some (.int i)], [], HH x σ) r) : mm_Runs d 158 (18, [some (.ref 1), some (.ref 2), some (.ref 37), some (.int i)], [], HH x σ) r := by
  refine mm_go 6 (F' := (bif mm_cond .gt i ((Int32.ofNat x.1) - (6 : Int32)) then 1150 else 27, [some (.ref 1), some (.ref 2), some (.ref 37), some (.int i)], [], HH x σ)) rfl ?_
  refine mb_gt (fun h1 => ?_) (fun h1 => ?_)
  · refine mm_go 1 (F' := (1151, [some (.ref 1), some (.ref 2), some (.ref 37), some (.int i)], [.int (1 : Int32)], HH x σ)) rfl ?_
    exact mm_rtz rfl rfl (Or.inr rfl) (k1 h1)
  · refine mm_go 2 (F' := (29, [some (.ref 1), some (.ref 2), some (.ref 37), some (.int i)], [.int i, .ref 1], HH x σ)) rfl ?_
    refine mm_gd (F' := (30, [some (.ref 1), some (.ref 2), some (.ref 37), some (.int i)], [.int (x.2 i.toNatClampNeg)], HH x σ)) rfl (k2 h1) ?_
    refine mm_go 2 (F' := (33, [some (.ref 1), some (.ref 2), some (.ref 37), some (.int i)], [.int ((x.2 i.toNatClampNeg) &&& (31 : Int32))], HH x σ)) rfl ?_
    refine mm_tsI hX (F' := (1095, [some (.ref 1), some (.ref 2), some (.ref 37), some (.int i)], [], HH x σ)) rfl ?_
    exact mm_wk (by exact (And.intro rfl (And.intro rfl (And.intro rfl (And.intro rfl True.intro))))) (k3 h1)
set_option maxRecDepth 100000 in
theorem vc_head_fault {d : Nat} {x : Nat × (Nat → Int32)} {σ : mm_S} {i : Int32} {r : Option Value × mm_H} (hX : ((x.2 i.toNatClampNeg) &&& (31 : Int32)) = (30 : Int32)) (k1 : ((Int32.ofNat x.1) - (6 : Int32)) < i → (some (.int (1 : Int32)), HH x σ) = r) (k2 : ¬ ((Int32.ofNat x.1) - (6 : Int32)) < i → ¬ (i < 0 ∨ x.1 ≤ i.toNatClampNeg)) (k3 : ¬ ((Int32.ofNat x.1) - (6 : Int32)) < i → mm_Runs d 158 (1108, [some (.ref 1), some (.ref 2), some (.ref 37), some (.int i)], [], HH x σ) r) : mm_Runs d 158 (18, [some (.ref 1), some (.ref 2), some (.ref 37), some (.int i)], [], HH x σ) r := by
  refine mm_go 6 (F' := (bif mm_cond .gt i ((Int32.ofNat x.1) - (6 : Int32)) then 1150 else 27, [some (.ref 1), some (.ref 2), some (.ref 37), some (.int i)], [], HH x σ)) rfl ?_
  refine mb_gt (fun h1 => ?_) (fun h1 => ?_)
  · refine mm_go 1 (F' := (1151, [some (.ref 1), some (.ref 2), some (.ref 37), some (.int i)], [.int (1 : Int32)], HH x σ)) rfl ?_
    exact mm_rtz rfl rfl (Or.inr rfl) (k1 h1)
  · refine mm_go 2 (F' := (29, [some (.ref 1), some (.ref 2), some (.ref 37), some (.int i)], [.int i, .ref 1], HH x σ)) rfl ?_
    refine mm_gd (F' := (30, [some (.ref 1), some (.ref 2), some (.ref 37), some (.int i)], [.int (x.2 i.toNatClampNeg)], HH x σ)) rfl (k2 h1) ?_
    refine mm_go 2 (F' := (33, [some (.ref 1), some (.ref 2), some (.ref 37), some (.int i)], [.int ((x.2 i.toNatClampNeg) &&& (31 : Int32))], HH x σ)) rfl ?_
    refine mm_tsI hX (F' := (1108, [some (.ref 1), some (.ref 2), some (.ref 37), some (.int i)], [], HH x σ)) rfl ?_
    exact mm_wk (by exact (And.intro rfl (And.intro rfl (And.intro rfl (And.intro rfl True.intro))))) (k3 h1)
set_option maxRecDepth 100000 in
theorem vc_head_many {d : Nat} {x : Nat × (Nat → Int32)} {σ : mm_S} {i : Int32} {r : Option Value × mm_H} (hX : ((x.2 i.toNatClampNeg) &&& (31 : Int32)) = (31 : Int32)) (k1 : ((Int32.ofNat x.1) - (6 : Int32)) < i → (some (.int (1 : Int32)), HH x σ) = r) (k2 : ¬ ((Int32.ofNat x.1) - (6 : Int32)) < i → ¬ (i < 0 ∨ x.1 ≤ i.toNatClampNeg)) (k3 : ¬ ((Int32.ofNat x.1) - (6 : Int32)) < i → mm_Runs d 158 (1121, [some (.ref 1), some (.ref 2), some (.ref 37), some (.int i)], [], HH x σ) r) : mm_Runs d 158 (18, [some (.ref 1), some (.ref 2), some (.ref 37), some (.int i)], [], HH x σ) r := by
  refine mm_go 6 (F' := (bif mm_cond .gt i ((Int32.ofNat x.1) - (6 : Int32)) then 1150 else 27, [some (.ref 1), some (.ref 2), some (.ref 37), some (.int i)], [], HH x σ)) rfl ?_
  refine mb_gt (fun h1 => ?_) (fun h1 => ?_)
  · refine mm_go 1 (F' := (1151, [some (.ref 1), some (.ref 2), some (.ref 37), some (.int i)], [.int (1 : Int32)], HH x σ)) rfl ?_
    exact mm_rtz rfl rfl (Or.inr rfl) (k1 h1)
  · refine mm_go 2 (F' := (29, [some (.ref 1), some (.ref 2), some (.ref 37), some (.int i)], [.int i, .ref 1], HH x σ)) rfl ?_
    refine mm_gd (F' := (30, [some (.ref 1), some (.ref 2), some (.ref 37), some (.int i)], [.int (x.2 i.toNatClampNeg)], HH x σ)) rfl (k2 h1) ?_
    refine mm_go 2 (F' := (33, [some (.ref 1), some (.ref 2), some (.ref 37), some (.int i)], [.int ((x.2 i.toNatClampNeg) &&& (31 : Int32))], HH x σ)) rfl ?_
    refine mm_tsI hX (F' := (1121, [some (.ref 1), some (.ref 2), some (.ref 37), some (.int i)], [], HH x σ)) rfl ?_
    exact mm_wk (by exact (And.intro rfl (And.intro rfl (And.intro rfl (And.intro rfl True.intro))))) (k3 h1)
set_option maxRecDepth 100000 in
theorem vc_law_pond {d : Nat} {x : Nat × (Nat → Int32)} {σ : mm_S} {i : Int32} {v1 v2 : Int32} {σ1 σ2 : mm_S} {r : Option Value × mm_H} (hd : 1 ≤ d) (k1 : ¬ ((i + (1 : Int32)) < 0 ∨ x.1 ≤ (i + (1 : Int32)).toNatClampNeg)) (k2 : ¬ ((i + (2 : Int32)) < 0 ∨ x.1 ≤ (i + (2 : Int32)).toNatClampNeg)) (k3 : ¬ ((i + (3 : Int32)) < 0 ∨ x.1 ≤ (i + (3 : Int32)).toNatClampNeg)) (k4 : ¬ ((i + (4 : Int32)) < 0 ∨ x.1 ≤ (i + (4 : Int32)).toNatClampNeg)) (k5 : mm_Runs (d - 1) 38 (0, [some (.ref 2), some (.int (x.2 (i + (1 : Int32)).toNatClampNeg)), some (.int (x.2 (i + (2 : Int32)).toNatClampNeg)), some (.int (x.2 (i + (3 : Int32)).toNatClampNeg)), some (.int (x.2 (i + (4 : Int32)).toNatClampNeg)), none, none], [], HH x σ) (some (.int v1), HH x σ1)) (k6 : ¬ ((i + (1 : Int32)) < 0 ∨ x.1 ≤ (i + (1 : Int32)).toNatClampNeg)) (k7 : ¬ ((i + (2 : Int32)) < 0 ∨ x.1 ≤ (i + (2 : Int32)).toNatClampNeg)) (k8 : ¬ ((i + (3 : Int32)) < 0 ∨ x.1 ≤ (i + (3 : Int32)).toNatClampNeg)) (k9 : ¬ ((i + (4 : Int32)) < 0 ∨ x.1 ≤ (i + (4 : Int32)).toNatClampNeg)) (k10 : mm_Runs (d - 1) 97 (0, [some (.ref 37), some (.int (x.2 (i + (1 : Int32)).toNatClampNeg)), some (.int (x.2 (i + (2 : Int32)).toNatClampNeg)), some (.int (x.2 (i + (3 : Int32)).toNatClampNeg)), some (.int (x.2 (i + (4 : Int32)).toNatClampNeg)), none, none, none], [], HH x σ1) (some (.int v2), HH x σ2)) (k11 : v1 = v2 → mm_Runs d 158 (1144, [some (.ref 1), some (.ref 2), some (.ref 37), some (.int i)], [], HH x σ2) r) (k12 : ¬ v1 = v2 → (some (.int (0 : Int32)), HH x σ2) = r) : mm_Runs d 158 (176, [some (.ref 1), some (.ref 2), some (.ref 37), some (.int i)], [], HH x σ) r := by
  refine mm_go 5 (F' := (181, [some (.ref 1), some (.ref 2), some (.ref 37), some (.int i)], [.int (i + (1 : Int32)), .ref 1, .ref 2], HH x σ)) rfl ?_
  refine mm_gd (F' := (182, [some (.ref 1), some (.ref 2), some (.ref 37), some (.int i)], [.int (x.2 (i + (1 : Int32)).toNatClampNeg), .ref 2], HH x σ)) rfl k1 ?_
  refine mm_go 4 (F' := (186, [some (.ref 1), some (.ref 2), some (.ref 37), some (.int i)], [.int (i + (2 : Int32)), .ref 1, .int (x.2 (i + (1 : Int32)).toNatClampNeg), .ref 2], HH x σ)) rfl ?_
  refine mm_gd (F' := (187, [some (.ref 1), some (.ref 2), some (.ref 37), some (.int i)], [.int (x.2 (i + (2 : Int32)).toNatClampNeg), .int (x.2 (i + (1 : Int32)).toNatClampNeg), .ref 2], HH x σ)) rfl k2 ?_
  refine mm_go 4 (F' := (191, [some (.ref 1), some (.ref 2), some (.ref 37), some (.int i)], [.int (i + (3 : Int32)), .ref 1, .int (x.2 (i + (2 : Int32)).toNatClampNeg), .int (x.2 (i + (1 : Int32)).toNatClampNeg), .ref 2], HH x σ)) rfl ?_
  refine mm_gd (F' := (192, [some (.ref 1), some (.ref 2), some (.ref 37), some (.int i)], [.int (x.2 (i + (3 : Int32)).toNatClampNeg), .int (x.2 (i + (2 : Int32)).toNatClampNeg), .int (x.2 (i + (1 : Int32)).toNatClampNeg), .ref 2], HH x σ)) rfl k3 ?_
  refine mm_go 4 (F' := (196, [some (.ref 1), some (.ref 2), some (.ref 37), some (.int i)], [.int (i + (4 : Int32)), .ref 1, .int (x.2 (i + (3 : Int32)).toNatClampNeg), .int (x.2 (i + (2 : Int32)).toNatClampNeg), .int (x.2 (i + (1 : Int32)).toNatClampNeg), .ref 2], HH x σ)) rfl ?_
  refine mm_gd (F' := (197, [some (.ref 1), some (.ref 2), some (.ref 37), some (.int i)], [.int (x.2 (i + (4 : Int32)).toNatClampNeg), .int (x.2 (i + (3 : Int32)).toNatClampNeg), .int (x.2 (i + (2 : Int32)).toNatClampNeg), .int (x.2 (i + (1 : Int32)).toNatClampNeg), .ref 2], HH x σ)) rfl k4 ?_
  refine mm_kl (z := 38) (as := [.ref 2, .int (x.2 (i + (1 : Int32)).toNatClampNeg), .int (x.2 (i + (2 : Int32)).toNatClampNeg), .int (x.2 (i + (3 : Int32)).toNatClampNeg), .int (x.2 (i + (4 : Int32)).toNatClampNeg)]) (S' := []) (L2 := [some (.ref 2), some (.int (x.2 (i + (1 : Int32)).toNatClampNeg)), some (.int (x.2 (i + (2 : Int32)).toNatClampNeg)), some (.int (x.2 (i + (3 : Int32)).toNatClampNeg)), some (.int (x.2 (i + (4 : Int32)).toNatClampNeg)), none, none]) (v := some (.int v1)) (h1 := HH x σ1) rfl rfl rfl rfl rfl (by omega) k5 ?_
  show mm_Runs d 158 (200, [some (.ref 1), some (.ref 2), some (.ref 37), some (.int i)], [.int v1], HH x σ1) r
  refine mm_go 5 (F' := (205, [some (.ref 1), some (.ref 2), some (.ref 37), some (.int i)], [.int (i + (1 : Int32)), .ref 1, .ref 37, .int v1], HH x σ1)) rfl ?_
  refine mm_gd (F' := (206, [some (.ref 1), some (.ref 2), some (.ref 37), some (.int i)], [.int (x.2 (i + (1 : Int32)).toNatClampNeg), .ref 37, .int v1], HH x σ1)) rfl k6 ?_
  refine mm_go 4 (F' := (210, [some (.ref 1), some (.ref 2), some (.ref 37), some (.int i)], [.int (i + (2 : Int32)), .ref 1, .int (x.2 (i + (1 : Int32)).toNatClampNeg), .ref 37, .int v1], HH x σ1)) rfl ?_
  refine mm_gd (F' := (211, [some (.ref 1), some (.ref 2), some (.ref 37), some (.int i)], [.int (x.2 (i + (2 : Int32)).toNatClampNeg), .int (x.2 (i + (1 : Int32)).toNatClampNeg), .ref 37, .int v1], HH x σ1)) rfl k7 ?_
  refine mm_go 4 (F' := (215, [some (.ref 1), some (.ref 2), some (.ref 37), some (.int i)], [.int (i + (3 : Int32)), .ref 1, .int (x.2 (i + (2 : Int32)).toNatClampNeg), .int (x.2 (i + (1 : Int32)).toNatClampNeg), .ref 37, .int v1], HH x σ1)) rfl ?_
  refine mm_gd (F' := (216, [some (.ref 1), some (.ref 2), some (.ref 37), some (.int i)], [.int (x.2 (i + (3 : Int32)).toNatClampNeg), .int (x.2 (i + (2 : Int32)).toNatClampNeg), .int (x.2 (i + (1 : Int32)).toNatClampNeg), .ref 37, .int v1], HH x σ1)) rfl k8 ?_
  refine mm_go 4 (F' := (220, [some (.ref 1), some (.ref 2), some (.ref 37), some (.int i)], [.int (i + (4 : Int32)), .ref 1, .int (x.2 (i + (3 : Int32)).toNatClampNeg), .int (x.2 (i + (2 : Int32)).toNatClampNeg), .int (x.2 (i + (1 : Int32)).toNatClampNeg), .ref 37, .int v1], HH x σ1)) rfl ?_
  refine mm_gd (F' := (221, [some (.ref 1), some (.ref 2), some (.ref 37), some (.int i)], [.int (x.2 (i + (4 : Int32)).toNatClampNeg), .int (x.2 (i + (3 : Int32)).toNatClampNeg), .int (x.2 (i + (2 : Int32)).toNatClampNeg), .int (x.2 (i + (1 : Int32)).toNatClampNeg), .ref 37, .int v1], HH x σ1)) rfl k9 ?_
  refine mm_kl (z := 97) (as := [.ref 37, .int (x.2 (i + (1 : Int32)).toNatClampNeg), .int (x.2 (i + (2 : Int32)).toNatClampNeg), .int (x.2 (i + (3 : Int32)).toNatClampNeg), .int (x.2 (i + (4 : Int32)).toNatClampNeg)]) (S' := [.int v1]) (L2 := [some (.ref 37), some (.int (x.2 (i + (1 : Int32)).toNatClampNeg)), some (.int (x.2 (i + (2 : Int32)).toNatClampNeg)), some (.int (x.2 (i + (3 : Int32)).toNatClampNeg)), some (.int (x.2 (i + (4 : Int32)).toNatClampNeg)), none, none, none]) (v := some (.int v2)) (h1 := HH x σ2) rfl rfl rfl rfl rfl (by omega) k10 ?_
  show mm_Runs d 158 (224, [some (.ref 1), some (.ref 2), some (.ref 37), some (.int i)], [.int v2, .int v1], HH x σ2) r
  refine mm_go 1 (F' := (bif mm_cond .eq v1 v2 then 1144 else 227, [some (.ref 1), some (.ref 2), some (.ref 37), some (.int i)], [], HH x σ2)) rfl ?_
  refine mb_eq (fun h1 => ?_) (fun h1 => ?_)
  · exact mm_wk (by exact (And.intro rfl (And.intro rfl (And.intro rfl (And.intro rfl True.intro))))) (k11 h1)
  · refine mm_go 1 (F' := (228, [some (.ref 1), some (.ref 2), some (.ref 37), some (.int i)], [.int (0 : Int32)], HH x σ2)) rfl ?_
    exact mm_rtz rfl rfl (Or.inl rfl) (k12 h1)
set_option maxRecDepth 100000 in
theorem vc_law_water {d : Nat} {x : Nat × (Nat → Int32)} {σ : mm_S} {i : Int32} {v1 v2 : Int32} {σ1 σ2 : mm_S} {r : Option Value × mm_H} (hd : 1 ≤ d) (k1 : ¬ ((i + (1 : Int32)) < 0 ∨ x.1 ≤ (i + (1 : Int32)).toNatClampNeg)) (k2 : mm_Runs (d - 1) 39 (0, [some (.ref 2), some (.int (x.2 (i + (1 : Int32)).toNatClampNeg))], [], HH x σ) (some (.int v1), HH x σ1)) (k3 : ¬ ((i + (1 : Int32)) < 0 ∨ x.1 ≤ (i + (1 : Int32)).toNatClampNeg)) (k4 : mm_Runs (d - 1) 103 (0, [some (.ref 37), some (.int (x.2 (i + (1 : Int32)).toNatClampNeg))], [], HH x σ1) (some (.int v2), HH x σ2)) (k5 : v1 = v2 → mm_Runs d 158 (1144, [some (.ref 1), some (.ref 2), some (.ref 37), some (.int i)], [], HH x σ2) r) (k6 : ¬ v1 = v2 → (some (.int (0 : Int32)), HH x σ2) = r) : mm_Runs d 158 (229, [some (.ref 1), some (.ref 2), some (.ref 37), some (.int i)], [], HH x σ) r := by
  refine mm_go 5 (F' := (234, [some (.ref 1), some (.ref 2), some (.ref 37), some (.int i)], [.int (i + (1 : Int32)), .ref 1, .ref 2], HH x σ)) rfl ?_
  refine mm_gd (F' := (235, [some (.ref 1), some (.ref 2), some (.ref 37), some (.int i)], [.int (x.2 (i + (1 : Int32)).toNatClampNeg), .ref 2], HH x σ)) rfl k1 ?_
  refine mm_kl (z := 39) (as := [.ref 2, .int (x.2 (i + (1 : Int32)).toNatClampNeg)]) (S' := []) (L2 := [some (.ref 2), some (.int (x.2 (i + (1 : Int32)).toNatClampNeg))]) (v := some (.int v1)) (h1 := HH x σ1) rfl rfl rfl rfl rfl (by omega) k2 ?_
  show mm_Runs d 158 (238, [some (.ref 1), some (.ref 2), some (.ref 37), some (.int i)], [.int v1], HH x σ1) r
  refine mm_go 5 (F' := (243, [some (.ref 1), some (.ref 2), some (.ref 37), some (.int i)], [.int (i + (1 : Int32)), .ref 1, .ref 37, .int v1], HH x σ1)) rfl ?_
  refine mm_gd (F' := (244, [some (.ref 1), some (.ref 2), some (.ref 37), some (.int i)], [.int (x.2 (i + (1 : Int32)).toNatClampNeg), .ref 37, .int v1], HH x σ1)) rfl k3 ?_
  refine mm_kl (z := 103) (as := [.ref 37, .int (x.2 (i + (1 : Int32)).toNatClampNeg)]) (S' := [.int v1]) (L2 := [some (.ref 37), some (.int (x.2 (i + (1 : Int32)).toNatClampNeg))]) (v := some (.int v2)) (h1 := HH x σ2) rfl rfl rfl rfl rfl (by omega) k4 ?_
  show mm_Runs d 158 (247, [some (.ref 1), some (.ref 2), some (.ref 37), some (.int i)], [.int v2, .int v1], HH x σ2) r
  refine mm_go 1 (F' := (bif mm_cond .eq v1 v2 then 1144 else 250, [some (.ref 1), some (.ref 2), some (.ref 37), some (.int i)], [], HH x σ2)) rfl ?_
  refine mb_eq (fun h1 => ?_) (fun h1 => ?_)
  · exact mm_wk (by exact (And.intro rfl (And.intro rfl (And.intro rfl (And.intro rfl True.intro))))) (k5 h1)
  · refine mm_go 1 (F' := (251, [some (.ref 1), some (.ref 2), some (.ref 37), some (.int i)], [.int (0 : Int32)], HH x σ2)) rfl ?_
    exact mm_rtz rfl rfl (Or.inl rfl) (k6 h1)
set_option maxRecDepth 100000 in
theorem vc_law_far {d : Nat} {x : Nat × (Nat → Int32)} {σ : mm_S} {i : Int32} {v1 v2 : Int32} {σ1 σ2 : mm_S} {r : Option Value × mm_H} (hd : 1 ≤ d) (k1 : ¬ ((i + (1 : Int32)) < 0 ∨ x.1 ≤ (i + (1 : Int32)).toNatClampNeg)) (k2 : ¬ ((i + (2 : Int32)) < 0 ∨ x.1 ≤ (i + (2 : Int32)).toNatClampNeg)) (k3 : mm_Runs (d - 1) 40 (0, [some (.ref 2), some (.int (x.2 (i + (1 : Int32)).toNatClampNeg)), some (.int (x.2 (i + (2 : Int32)).toNatClampNeg))], [], HH x σ) (some (.int v1), HH x σ1)) (k4 : ¬ ((i + (1 : Int32)) < 0 ∨ x.1 ≤ (i + (1 : Int32)).toNatClampNeg)) (k5 : ¬ ((i + (2 : Int32)) < 0 ∨ x.1 ≤ (i + (2 : Int32)).toNatClampNeg)) (k6 : mm_Runs (d - 1) 104 (0, [some (.ref 37), some (.int (x.2 (i + (1 : Int32)).toNatClampNeg)), some (.int (x.2 (i + (2 : Int32)).toNatClampNeg))], [], HH x σ1) (some (.int v2), HH x σ2)) (k7 : v1 = v2 → mm_Runs d 158 (1144, [some (.ref 1), some (.ref 2), some (.ref 37), some (.int i)], [], HH x σ2) r) (k8 : ¬ v1 = v2 → (some (.int (0 : Int32)), HH x σ2) = r) : mm_Runs d 158 (252, [some (.ref 1), some (.ref 2), some (.ref 37), some (.int i)], [], HH x σ) r := by
  refine mm_go 5 (F' := (257, [some (.ref 1), some (.ref 2), some (.ref 37), some (.int i)], [.int (i + (1 : Int32)), .ref 1, .ref 2], HH x σ)) rfl ?_
  refine mm_gd (F' := (258, [some (.ref 1), some (.ref 2), some (.ref 37), some (.int i)], [.int (x.2 (i + (1 : Int32)).toNatClampNeg), .ref 2], HH x σ)) rfl k1 ?_
  refine mm_go 4 (F' := (262, [some (.ref 1), some (.ref 2), some (.ref 37), some (.int i)], [.int (i + (2 : Int32)), .ref 1, .int (x.2 (i + (1 : Int32)).toNatClampNeg), .ref 2], HH x σ)) rfl ?_
  refine mm_gd (F' := (263, [some (.ref 1), some (.ref 2), some (.ref 37), some (.int i)], [.int (x.2 (i + (2 : Int32)).toNatClampNeg), .int (x.2 (i + (1 : Int32)).toNatClampNeg), .ref 2], HH x σ)) rfl k2 ?_
  refine mm_kl (z := 40) (as := [.ref 2, .int (x.2 (i + (1 : Int32)).toNatClampNeg), .int (x.2 (i + (2 : Int32)).toNatClampNeg)]) (S' := []) (L2 := [some (.ref 2), some (.int (x.2 (i + (1 : Int32)).toNatClampNeg)), some (.int (x.2 (i + (2 : Int32)).toNatClampNeg))]) (v := some (.int v1)) (h1 := HH x σ1) rfl rfl rfl rfl rfl (by omega) k3 ?_
  show mm_Runs d 158 (266, [some (.ref 1), some (.ref 2), some (.ref 37), some (.int i)], [.int v1], HH x σ1) r
  refine mm_go 5 (F' := (271, [some (.ref 1), some (.ref 2), some (.ref 37), some (.int i)], [.int (i + (1 : Int32)), .ref 1, .ref 37, .int v1], HH x σ1)) rfl ?_
  refine mm_gd (F' := (272, [some (.ref 1), some (.ref 2), some (.ref 37), some (.int i)], [.int (x.2 (i + (1 : Int32)).toNatClampNeg), .ref 37, .int v1], HH x σ1)) rfl k4 ?_
  refine mm_go 4 (F' := (276, [some (.ref 1), some (.ref 2), some (.ref 37), some (.int i)], [.int (i + (2 : Int32)), .ref 1, .int (x.2 (i + (1 : Int32)).toNatClampNeg), .ref 37, .int v1], HH x σ1)) rfl ?_
  refine mm_gd (F' := (277, [some (.ref 1), some (.ref 2), some (.ref 37), some (.int i)], [.int (x.2 (i + (2 : Int32)).toNatClampNeg), .int (x.2 (i + (1 : Int32)).toNatClampNeg), .ref 37, .int v1], HH x σ1)) rfl k5 ?_
  refine mm_kl (z := 104) (as := [.ref 37, .int (x.2 (i + (1 : Int32)).toNatClampNeg), .int (x.2 (i + (2 : Int32)).toNatClampNeg)]) (S' := [.int v1]) (L2 := [some (.ref 37), some (.int (x.2 (i + (1 : Int32)).toNatClampNeg)), some (.int (x.2 (i + (2 : Int32)).toNatClampNeg))]) (v := some (.int v2)) (h1 := HH x σ2) rfl rfl rfl rfl rfl (by omega) k6 ?_
  show mm_Runs d 158 (280, [some (.ref 1), some (.ref 2), some (.ref 37), some (.int i)], [.int v2, .int v1], HH x σ2) r
  refine mm_go 1 (F' := (bif mm_cond .eq v1 v2 then 1144 else 283, [some (.ref 1), some (.ref 2), some (.ref 37), some (.int i)], [], HH x σ2)) rfl ?_
  refine mb_eq (fun h1 => ?_) (fun h1 => ?_)
  · exact mm_wk (by exact (And.intro rfl (And.intro rfl (And.intro rfl (And.intro rfl True.intro))))) (k7 h1)
  · refine mm_go 1 (F' := (284, [some (.ref 1), some (.ref 2), some (.ref 37), some (.int i)], [.int (0 : Int32)], HH x σ2)) rfl ?_
    exact mm_rtz rfl rfl (Or.inl rfl) (k8 h1)
set_option maxRecDepth 100000 in
theorem vc_law_stone {d : Nat} {x : Nat × (Nat → Int32)} {σ : mm_S} {i : Int32} {v1 v2 : Int32} {σ1 σ2 : mm_S} {r : Option Value × mm_H} (hd : 1 ≤ d) (k1 : ¬ ((i + (1 : Int32)) < 0 ∨ x.1 ≤ (i + (1 : Int32)).toNatClampNeg)) (k2 : ¬ ((i + (2 : Int32)) < 0 ∨ x.1 ≤ (i + (2 : Int32)).toNatClampNeg)) (k3 : ¬ ((i + (3 : Int32)) < 0 ∨ x.1 ≤ (i + (3 : Int32)).toNatClampNeg)) (k4 : mm_Runs (d - 1) 41 (0, [some (.ref 2), some (.int (x.2 (i + (1 : Int32)).toNatClampNeg)), some (.int (x.2 (i + (2 : Int32)).toNatClampNeg)), some (.int (x.2 (i + (3 : Int32)).toNatClampNeg))], [], HH x σ) (some (.int v1), HH x σ1)) (k5 : ¬ ((i + (1 : Int32)) < 0 ∨ x.1 ≤ (i + (1 : Int32)).toNatClampNeg)) (k6 : ¬ ((i + (2 : Int32)) < 0 ∨ x.1 ≤ (i + (2 : Int32)).toNatClampNeg)) (k7 : ¬ ((i + (3 : Int32)) < 0 ∨ x.1 ≤ (i + (3 : Int32)).toNatClampNeg)) (k8 : mm_Runs (d - 1) 108 (0, [some (.ref 37), some (.int (x.2 (i + (1 : Int32)).toNatClampNeg)), some (.int (x.2 (i + (2 : Int32)).toNatClampNeg)), some (.int (x.2 (i + (3 : Int32)).toNatClampNeg))], [], HH x σ1) (some (.int v2), HH x σ2)) (k9 : v1 = v2 → mm_Runs d 158 (1144, [some (.ref 1), some (.ref 2), some (.ref 37), some (.int i)], [], HH x σ2) r) (k10 : ¬ v1 = v2 → (some (.int (0 : Int32)), HH x σ2) = r) : mm_Runs d 158 (285, [some (.ref 1), some (.ref 2), some (.ref 37), some (.int i)], [], HH x σ) r := by
  refine mm_go 5 (F' := (290, [some (.ref 1), some (.ref 2), some (.ref 37), some (.int i)], [.int (i + (1 : Int32)), .ref 1, .ref 2], HH x σ)) rfl ?_
  refine mm_gd (F' := (291, [some (.ref 1), some (.ref 2), some (.ref 37), some (.int i)], [.int (x.2 (i + (1 : Int32)).toNatClampNeg), .ref 2], HH x σ)) rfl k1 ?_
  refine mm_go 4 (F' := (295, [some (.ref 1), some (.ref 2), some (.ref 37), some (.int i)], [.int (i + (2 : Int32)), .ref 1, .int (x.2 (i + (1 : Int32)).toNatClampNeg), .ref 2], HH x σ)) rfl ?_
  refine mm_gd (F' := (296, [some (.ref 1), some (.ref 2), some (.ref 37), some (.int i)], [.int (x.2 (i + (2 : Int32)).toNatClampNeg), .int (x.2 (i + (1 : Int32)).toNatClampNeg), .ref 2], HH x σ)) rfl k2 ?_
  refine mm_go 4 (F' := (300, [some (.ref 1), some (.ref 2), some (.ref 37), some (.int i)], [.int (i + (3 : Int32)), .ref 1, .int (x.2 (i + (2 : Int32)).toNatClampNeg), .int (x.2 (i + (1 : Int32)).toNatClampNeg), .ref 2], HH x σ)) rfl ?_
  refine mm_gd (F' := (301, [some (.ref 1), some (.ref 2), some (.ref 37), some (.int i)], [.int (x.2 (i + (3 : Int32)).toNatClampNeg), .int (x.2 (i + (2 : Int32)).toNatClampNeg), .int (x.2 (i + (1 : Int32)).toNatClampNeg), .ref 2], HH x σ)) rfl k3 ?_
  refine mm_kl (z := 41) (as := [.ref 2, .int (x.2 (i + (1 : Int32)).toNatClampNeg), .int (x.2 (i + (2 : Int32)).toNatClampNeg), .int (x.2 (i + (3 : Int32)).toNatClampNeg)]) (S' := []) (L2 := [some (.ref 2), some (.int (x.2 (i + (1 : Int32)).toNatClampNeg)), some (.int (x.2 (i + (2 : Int32)).toNatClampNeg)), some (.int (x.2 (i + (3 : Int32)).toNatClampNeg))]) (v := some (.int v1)) (h1 := HH x σ1) rfl rfl rfl rfl rfl (by omega) k4 ?_
  show mm_Runs d 158 (304, [some (.ref 1), some (.ref 2), some (.ref 37), some (.int i)], [.int v1], HH x σ1) r
  refine mm_go 5 (F' := (309, [some (.ref 1), some (.ref 2), some (.ref 37), some (.int i)], [.int (i + (1 : Int32)), .ref 1, .ref 37, .int v1], HH x σ1)) rfl ?_
  refine mm_gd (F' := (310, [some (.ref 1), some (.ref 2), some (.ref 37), some (.int i)], [.int (x.2 (i + (1 : Int32)).toNatClampNeg), .ref 37, .int v1], HH x σ1)) rfl k5 ?_
  refine mm_go 4 (F' := (314, [some (.ref 1), some (.ref 2), some (.ref 37), some (.int i)], [.int (i + (2 : Int32)), .ref 1, .int (x.2 (i + (1 : Int32)).toNatClampNeg), .ref 37, .int v1], HH x σ1)) rfl ?_
  refine mm_gd (F' := (315, [some (.ref 1), some (.ref 2), some (.ref 37), some (.int i)], [.int (x.2 (i + (2 : Int32)).toNatClampNeg), .int (x.2 (i + (1 : Int32)).toNatClampNeg), .ref 37, .int v1], HH x σ1)) rfl k6 ?_
  refine mm_go 4 (F' := (319, [some (.ref 1), some (.ref 2), some (.ref 37), some (.int i)], [.int (i + (3 : Int32)), .ref 1, .int (x.2 (i + (2 : Int32)).toNatClampNeg), .int (x.2 (i + (1 : Int32)).toNatClampNeg), .ref 37, .int v1], HH x σ1)) rfl ?_
  refine mm_gd (F' := (320, [some (.ref 1), some (.ref 2), some (.ref 37), some (.int i)], [.int (x.2 (i + (3 : Int32)).toNatClampNeg), .int (x.2 (i + (2 : Int32)).toNatClampNeg), .int (x.2 (i + (1 : Int32)).toNatClampNeg), .ref 37, .int v1], HH x σ1)) rfl k7 ?_
  refine mm_kl (z := 108) (as := [.ref 37, .int (x.2 (i + (1 : Int32)).toNatClampNeg), .int (x.2 (i + (2 : Int32)).toNatClampNeg), .int (x.2 (i + (3 : Int32)).toNatClampNeg)]) (S' := [.int v1]) (L2 := [some (.ref 37), some (.int (x.2 (i + (1 : Int32)).toNatClampNeg)), some (.int (x.2 (i + (2 : Int32)).toNatClampNeg)), some (.int (x.2 (i + (3 : Int32)).toNatClampNeg))]) (v := some (.int v2)) (h1 := HH x σ2) rfl rfl rfl rfl rfl (by omega) k8 ?_
  show mm_Runs d 158 (323, [some (.ref 1), some (.ref 2), some (.ref 37), some (.int i)], [.int v2, .int v1], HH x σ2) r
  refine mm_go 1 (F' := (bif mm_cond .eq v1 v2 then 1144 else 326, [some (.ref 1), some (.ref 2), some (.ref 37), some (.int i)], [], HH x σ2)) rfl ?_
  refine mb_eq (fun h1 => ?_) (fun h1 => ?_)
  · exact mm_wk (by exact (And.intro rfl (And.intro rfl (And.intro rfl (And.intro rfl True.intro))))) (k9 h1)
  · refine mm_go 1 (F' := (327, [some (.ref 1), some (.ref 2), some (.ref 37), some (.int i)], [.int (0 : Int32)], HH x σ2)) rfl ?_
    exact mm_rtz rfl rfl (Or.inl rfl) (k10 h1)
set_option maxRecDepth 100000 in
theorem vc_law_ofStone {d : Nat} {x : Nat × (Nat → Int32)} {σ : mm_S} {i : Int32} {v1 v2 : Int32} {σ1 σ2 : mm_S} {r : Option Value × mm_H} (hd : 1 ≤ d) (k1 : ¬ ((i + (1 : Int32)) < 0 ∨ x.1 ≤ (i + (1 : Int32)).toNatClampNeg)) (k2 : ¬ ((i + (2 : Int32)) < 0 ∨ x.1 ≤ (i + (2 : Int32)).toNatClampNeg)) (k3 : mm_Runs (d - 1) 42 (0, [some (.ref 2), some (.int (x.2 (i + (1 : Int32)).toNatClampNeg)), some (.int (x.2 (i + (2 : Int32)).toNatClampNeg))], [], HH x σ) (some (.int v1), HH x σ1)) (k4 : ¬ ((i + (1 : Int32)) < 0 ∨ x.1 ≤ (i + (1 : Int32)).toNatClampNeg)) (k5 : ¬ ((i + (2 : Int32)) < 0 ∨ x.1 ≤ (i + (2 : Int32)).toNatClampNeg)) (k6 : mm_Runs (d - 1) 110 (0, [some (.ref 37), some (.int (x.2 (i + (1 : Int32)).toNatClampNeg)), some (.int (x.2 (i + (2 : Int32)).toNatClampNeg))], [], HH x σ1) (some (.int v2), HH x σ2)) (k7 : v1 = v2 → mm_Runs d 158 (1144, [some (.ref 1), some (.ref 2), some (.ref 37), some (.int i)], [], HH x σ2) r) (k8 : ¬ v1 = v2 → (some (.int (0 : Int32)), HH x σ2) = r) : mm_Runs d 158 (328, [some (.ref 1), some (.ref 2), some (.ref 37), some (.int i)], [], HH x σ) r := by
  refine mm_go 5 (F' := (333, [some (.ref 1), some (.ref 2), some (.ref 37), some (.int i)], [.int (i + (1 : Int32)), .ref 1, .ref 2], HH x σ)) rfl ?_
  refine mm_gd (F' := (334, [some (.ref 1), some (.ref 2), some (.ref 37), some (.int i)], [.int (x.2 (i + (1 : Int32)).toNatClampNeg), .ref 2], HH x σ)) rfl k1 ?_
  refine mm_go 4 (F' := (338, [some (.ref 1), some (.ref 2), some (.ref 37), some (.int i)], [.int (i + (2 : Int32)), .ref 1, .int (x.2 (i + (1 : Int32)).toNatClampNeg), .ref 2], HH x σ)) rfl ?_
  refine mm_gd (F' := (339, [some (.ref 1), some (.ref 2), some (.ref 37), some (.int i)], [.int (x.2 (i + (2 : Int32)).toNatClampNeg), .int (x.2 (i + (1 : Int32)).toNatClampNeg), .ref 2], HH x σ)) rfl k2 ?_
  refine mm_kl (z := 42) (as := [.ref 2, .int (x.2 (i + (1 : Int32)).toNatClampNeg), .int (x.2 (i + (2 : Int32)).toNatClampNeg)]) (S' := []) (L2 := [some (.ref 2), some (.int (x.2 (i + (1 : Int32)).toNatClampNeg)), some (.int (x.2 (i + (2 : Int32)).toNatClampNeg))]) (v := some (.int v1)) (h1 := HH x σ1) rfl rfl rfl rfl rfl (by omega) k3 ?_
  show mm_Runs d 158 (342, [some (.ref 1), some (.ref 2), some (.ref 37), some (.int i)], [.int v1], HH x σ1) r
  refine mm_go 5 (F' := (347, [some (.ref 1), some (.ref 2), some (.ref 37), some (.int i)], [.int (i + (1 : Int32)), .ref 1, .ref 37, .int v1], HH x σ1)) rfl ?_
  refine mm_gd (F' := (348, [some (.ref 1), some (.ref 2), some (.ref 37), some (.int i)], [.int (x.2 (i + (1 : Int32)).toNatClampNeg), .ref 37, .int v1], HH x σ1)) rfl k4 ?_
  refine mm_go 4 (F' := (352, [some (.ref 1), some (.ref 2), some (.ref 37), some (.int i)], [.int (i + (2 : Int32)), .ref 1, .int (x.2 (i + (1 : Int32)).toNatClampNeg), .ref 37, .int v1], HH x σ1)) rfl ?_
  refine mm_gd (F' := (353, [some (.ref 1), some (.ref 2), some (.ref 37), some (.int i)], [.int (x.2 (i + (2 : Int32)).toNatClampNeg), .int (x.2 (i + (1 : Int32)).toNatClampNeg), .ref 37, .int v1], HH x σ1)) rfl k5 ?_
  refine mm_kl (z := 110) (as := [.ref 37, .int (x.2 (i + (1 : Int32)).toNatClampNeg), .int (x.2 (i + (2 : Int32)).toNatClampNeg)]) (S' := [.int v1]) (L2 := [some (.ref 37), some (.int (x.2 (i + (1 : Int32)).toNatClampNeg)), some (.int (x.2 (i + (2 : Int32)).toNatClampNeg))]) (v := some (.int v2)) (h1 := HH x σ2) rfl rfl rfl rfl rfl (by omega) k6 ?_
  show mm_Runs d 158 (356, [some (.ref 1), some (.ref 2), some (.ref 37), some (.int i)], [.int v2, .int v1], HH x σ2) r
  refine mm_go 1 (F' := (bif mm_cond .eq v1 v2 then 1144 else 359, [some (.ref 1), some (.ref 2), some (.ref 37), some (.int i)], [], HH x σ2)) rfl ?_
  refine mb_eq (fun h1 => ?_) (fun h1 => ?_)
  · exact mm_wk (by exact (And.intro rfl (And.intro rfl (And.intro rfl (And.intro rfl True.intro))))) (k7 h1)
  · refine mm_go 1 (F' := (360, [some (.ref 1), some (.ref 2), some (.ref 37), some (.int i)], [.int (0 : Int32)], HH x σ2)) rfl ?_
    exact mm_rtz rfl rfl (Or.inl rfl) (k8 h1)
set_option maxRecDepth 100000 in
theorem vc_law_back {d : Nat} {x : Nat × (Nat → Int32)} {σ : mm_S} {i : Int32} {v1 v2 : Int32} {σ1 σ2 : mm_S} {r : Option Value × mm_H} (hd : 1 ≤ d) (k1 : ¬ ((i + (1 : Int32)) < 0 ∨ x.1 ≤ (i + (1 : Int32)).toNatClampNeg)) (k2 : mm_Runs (d - 1) 43 (0, [some (.ref 2), some (.int (x.2 (i + (1 : Int32)).toNatClampNeg))], [], HH x σ) (some (.int v1), HH x σ1)) (k3 : ¬ ((i + (1 : Int32)) < 0 ∨ x.1 ≤ (i + (1 : Int32)).toNatClampNeg)) (k4 : mm_Runs (d - 1) 111 (0, [some (.ref 37), some (.int (x.2 (i + (1 : Int32)).toNatClampNeg))], [], HH x σ1) (some (.int v2), HH x σ2)) (k5 : v1 = v2 → mm_Runs d 158 (1144, [some (.ref 1), some (.ref 2), some (.ref 37), some (.int i)], [], HH x σ2) r) (k6 : ¬ v1 = v2 → (some (.int (0 : Int32)), HH x σ2) = r) : mm_Runs d 158 (361, [some (.ref 1), some (.ref 2), some (.ref 37), some (.int i)], [], HH x σ) r := by
  refine mm_go 5 (F' := (366, [some (.ref 1), some (.ref 2), some (.ref 37), some (.int i)], [.int (i + (1 : Int32)), .ref 1, .ref 2], HH x σ)) rfl ?_
  refine mm_gd (F' := (367, [some (.ref 1), some (.ref 2), some (.ref 37), some (.int i)], [.int (x.2 (i + (1 : Int32)).toNatClampNeg), .ref 2], HH x σ)) rfl k1 ?_
  refine mm_kl (z := 43) (as := [.ref 2, .int (x.2 (i + (1 : Int32)).toNatClampNeg)]) (S' := []) (L2 := [some (.ref 2), some (.int (x.2 (i + (1 : Int32)).toNatClampNeg))]) (v := some (.int v1)) (h1 := HH x σ1) rfl rfl rfl rfl rfl (by omega) k2 ?_
  show mm_Runs d 158 (370, [some (.ref 1), some (.ref 2), some (.ref 37), some (.int i)], [.int v1], HH x σ1) r
  refine mm_go 5 (F' := (375, [some (.ref 1), some (.ref 2), some (.ref 37), some (.int i)], [.int (i + (1 : Int32)), .ref 1, .ref 37, .int v1], HH x σ1)) rfl ?_
  refine mm_gd (F' := (376, [some (.ref 1), some (.ref 2), some (.ref 37), some (.int i)], [.int (x.2 (i + (1 : Int32)).toNatClampNeg), .ref 37, .int v1], HH x σ1)) rfl k3 ?_
  refine mm_kl (z := 111) (as := [.ref 37, .int (x.2 (i + (1 : Int32)).toNatClampNeg)]) (S' := [.int v1]) (L2 := [some (.ref 37), some (.int (x.2 (i + (1 : Int32)).toNatClampNeg))]) (v := some (.int v2)) (h1 := HH x σ2) rfl rfl rfl rfl rfl (by omega) k4 ?_
  show mm_Runs d 158 (379, [some (.ref 1), some (.ref 2), some (.ref 37), some (.int i)], [.int v2, .int v1], HH x σ2) r
  refine mm_go 1 (F' := (bif mm_cond .eq v1 v2 then 1144 else 382, [some (.ref 1), some (.ref 2), some (.ref 37), some (.int i)], [], HH x σ2)) rfl ?_
  refine mb_eq (fun h1 => ?_) (fun h1 => ?_)
  · exact mm_wk (by exact (And.intro rfl (And.intro rfl (And.intro rfl (And.intro rfl True.intro))))) (k5 h1)
  · refine mm_go 1 (F' := (383, [some (.ref 1), some (.ref 2), some (.ref 37), some (.int i)], [.int (0 : Int32)], HH x σ2)) rfl ?_
    exact mm_rtz rfl rfl (Or.inl rfl) (k6 h1)
set_option maxRecDepth 100000 in
theorem vc_law_ring {d : Nat} {x : Nat × (Nat → Int32)} {σ : mm_S} {i : Int32} {v1 v2 : Int64} {σ1 σ2 : mm_S} {r : Option Value × mm_H} (hd : 1 ≤ d) (k1 : ¬ ((i + (1 : Int32)) < 0 ∨ x.1 ≤ (i + (1 : Int32)).toNatClampNeg)) (k2 : ¬ ((i + (2 : Int32)) < 0 ∨ x.1 ≤ (i + (2 : Int32)).toNatClampNeg)) (k3 : mm_Runs (d - 1) 44 (0, [some (.ref 2), some (.int (x.2 (i + (1 : Int32)).toNatClampNeg)), some (.int (x.2 (i + (2 : Int32)).toNatClampNeg)), none], [], HH x σ) (some (.long v1), HH x σ1)) (k4 : ¬ ((i + (1 : Int32)) < 0 ∨ x.1 ≤ (i + (1 : Int32)).toNatClampNeg)) (k5 : ¬ ((i + (2 : Int32)) < 0 ∨ x.1 ≤ (i + (2 : Int32)).toNatClampNeg)) (k6 : mm_Runs (d - 1) 112 (0, [some (.ref 37), some (.int (x.2 (i + (1 : Int32)).toNatClampNeg)), some (.int (x.2 (i + (2 : Int32)).toNatClampNeg)), none, none, none], [], HH x σ1) (some (.long v2), HH x σ2)) (k7 : v1 = v2 → mm_Runs d 158 (1144, [some (.ref 1), some (.ref 2), some (.ref 37), some (.int i)], [], HH x σ2) r) (k8 : ¬ v1 = v2 → (some (.int (0 : Int32)), HH x σ2) = r) : mm_Runs d 158 (384, [some (.ref 1), some (.ref 2), some (.ref 37), some (.int i)], [], HH x σ) r := by
  refine mm_go 5 (F' := (389, [some (.ref 1), some (.ref 2), some (.ref 37), some (.int i)], [.int (i + (1 : Int32)), .ref 1, .ref 2], HH x σ)) rfl ?_
  refine mm_gd (F' := (390, [some (.ref 1), some (.ref 2), some (.ref 37), some (.int i)], [.int (x.2 (i + (1 : Int32)).toNatClampNeg), .ref 2], HH x σ)) rfl k1 ?_
  refine mm_go 4 (F' := (394, [some (.ref 1), some (.ref 2), some (.ref 37), some (.int i)], [.int (i + (2 : Int32)), .ref 1, .int (x.2 (i + (1 : Int32)).toNatClampNeg), .ref 2], HH x σ)) rfl ?_
  refine mm_gd (F' := (395, [some (.ref 1), some (.ref 2), some (.ref 37), some (.int i)], [.int (x.2 (i + (2 : Int32)).toNatClampNeg), .int (x.2 (i + (1 : Int32)).toNatClampNeg), .ref 2], HH x σ)) rfl k2 ?_
  refine mm_kl (z := 44) (as := [.ref 2, .int (x.2 (i + (1 : Int32)).toNatClampNeg), .int (x.2 (i + (2 : Int32)).toNatClampNeg)]) (S' := []) (L2 := [some (.ref 2), some (.int (x.2 (i + (1 : Int32)).toNatClampNeg)), some (.int (x.2 (i + (2 : Int32)).toNatClampNeg)), none]) (v := some (.long v1)) (h1 := HH x σ1) rfl rfl rfl rfl rfl (by omega) k3 ?_
  show mm_Runs d 158 (398, [some (.ref 1), some (.ref 2), some (.ref 37), some (.int i)], [.long v1], HH x σ1) r
  refine mm_go 5 (F' := (403, [some (.ref 1), some (.ref 2), some (.ref 37), some (.int i)], [.int (i + (1 : Int32)), .ref 1, .ref 37, .long v1], HH x σ1)) rfl ?_
  refine mm_gd (F' := (404, [some (.ref 1), some (.ref 2), some (.ref 37), some (.int i)], [.int (x.2 (i + (1 : Int32)).toNatClampNeg), .ref 37, .long v1], HH x σ1)) rfl k4 ?_
  refine mm_go 4 (F' := (408, [some (.ref 1), some (.ref 2), some (.ref 37), some (.int i)], [.int (i + (2 : Int32)), .ref 1, .int (x.2 (i + (1 : Int32)).toNatClampNeg), .ref 37, .long v1], HH x σ1)) rfl ?_
  refine mm_gd (F' := (409, [some (.ref 1), some (.ref 2), some (.ref 37), some (.int i)], [.int (x.2 (i + (2 : Int32)).toNatClampNeg), .int (x.2 (i + (1 : Int32)).toNatClampNeg), .ref 37, .long v1], HH x σ1)) rfl k5 ?_
  refine mm_kl (z := 112) (as := [.ref 37, .int (x.2 (i + (1 : Int32)).toNatClampNeg), .int (x.2 (i + (2 : Int32)).toNatClampNeg)]) (S' := [.long v1]) (L2 := [some (.ref 37), some (.int (x.2 (i + (1 : Int32)).toNatClampNeg)), some (.int (x.2 (i + (2 : Int32)).toNatClampNeg)), none, none, none]) (v := some (.long v2)) (h1 := HH x σ2) rfl rfl rfl rfl rfl (by omega) k6 ?_
  show mm_Runs d 158 (412, [some (.ref 1), some (.ref 2), some (.ref 37), some (.int i)], [.long v2, .long v1], HH x σ2) r
  refine mm_go 2 (F' := (bif mm_cond .eq (lg_cmp v1 v2) 0 then 1144 else 416, [some (.ref 1), some (.ref 2), some (.ref 37), some (.int i)], [], HH x σ2)) rfl ?_
  refine mb_leq (fun h1 => ?_) (fun h1 => ?_)
  · exact mm_wk (by exact (And.intro rfl (And.intro rfl (And.intro rfl (And.intro rfl True.intro))))) (k7 h1)
  · refine mm_go 1 (F' := (417, [some (.ref 1), some (.ref 2), some (.ref 37), some (.int i)], [.int (0 : Int32)], HH x σ2)) rfl ?_
    exact mm_rtz rfl rfl (Or.inl rfl) (k8 h1)
set_option maxRecDepth 100000 in
theorem vc_law_meet {d : Nat} {x : Nat × (Nat → Int32)} {σ : mm_S} {i : Int32} {v1 v2 : Int32} {σ1 σ2 : mm_S} {r : Option Value × mm_H} (hd : 1 ≤ d) (k1 : ¬ ((i + (1 : Int32)) < 0 ∨ x.1 ≤ (i + (1 : Int32)).toNatClampNeg)) (k2 : ¬ ((i + (2 : Int32)) < 0 ∨ x.1 ≤ (i + (2 : Int32)).toNatClampNeg)) (k3 : ¬ ((i + (3 : Int32)) < 0 ∨ x.1 ≤ (i + (3 : Int32)).toNatClampNeg)) (k4 : mm_Runs (d - 1) 45 (0, [some (.ref 2), some (.int (x.2 (i + (1 : Int32)).toNatClampNeg)), some (.int (x.2 (i + (2 : Int32)).toNatClampNeg)), some (.int (x.2 (i + (3 : Int32)).toNatClampNeg))], [], HH x σ) (some (.int v1), HH x σ1)) (k5 : ¬ ((i + (1 : Int32)) < 0 ∨ x.1 ≤ (i + (1 : Int32)).toNatClampNeg)) (k6 : ¬ ((i + (2 : Int32)) < 0 ∨ x.1 ≤ (i + (2 : Int32)).toNatClampNeg)) (k7 : ¬ ((i + (3 : Int32)) < 0 ∨ x.1 ≤ (i + (3 : Int32)).toNatClampNeg)) (k8 : mm_Runs (d - 1) 116 (0, [some (.ref 37), some (.int (x.2 (i + (1 : Int32)).toNatClampNeg)), some (.int (x.2 (i + (2 : Int32)).toNatClampNeg)), some (.int (x.2 (i + (3 : Int32)).toNatClampNeg))], [], HH x σ1) (some (.int v2), HH x σ2)) (k9 : v1 = v2 → mm_Runs d 158 (1144, [some (.ref 1), some (.ref 2), some (.ref 37), some (.int i)], [], HH x σ2) r) (k10 : ¬ v1 = v2 → (some (.int (0 : Int32)), HH x σ2) = r) : mm_Runs d 158 (418, [some (.ref 1), some (.ref 2), some (.ref 37), some (.int i)], [], HH x σ) r := by
  refine mm_go 5 (F' := (423, [some (.ref 1), some (.ref 2), some (.ref 37), some (.int i)], [.int (i + (1 : Int32)), .ref 1, .ref 2], HH x σ)) rfl ?_
  refine mm_gd (F' := (424, [some (.ref 1), some (.ref 2), some (.ref 37), some (.int i)], [.int (x.2 (i + (1 : Int32)).toNatClampNeg), .ref 2], HH x σ)) rfl k1 ?_
  refine mm_go 4 (F' := (428, [some (.ref 1), some (.ref 2), some (.ref 37), some (.int i)], [.int (i + (2 : Int32)), .ref 1, .int (x.2 (i + (1 : Int32)).toNatClampNeg), .ref 2], HH x σ)) rfl ?_
  refine mm_gd (F' := (429, [some (.ref 1), some (.ref 2), some (.ref 37), some (.int i)], [.int (x.2 (i + (2 : Int32)).toNatClampNeg), .int (x.2 (i + (1 : Int32)).toNatClampNeg), .ref 2], HH x σ)) rfl k2 ?_
  refine mm_go 4 (F' := (433, [some (.ref 1), some (.ref 2), some (.ref 37), some (.int i)], [.int (i + (3 : Int32)), .ref 1, .int (x.2 (i + (2 : Int32)).toNatClampNeg), .int (x.2 (i + (1 : Int32)).toNatClampNeg), .ref 2], HH x σ)) rfl ?_
  refine mm_gd (F' := (434, [some (.ref 1), some (.ref 2), some (.ref 37), some (.int i)], [.int (x.2 (i + (3 : Int32)).toNatClampNeg), .int (x.2 (i + (2 : Int32)).toNatClampNeg), .int (x.2 (i + (1 : Int32)).toNatClampNeg), .ref 2], HH x σ)) rfl k3 ?_
  refine mm_kl (z := 45) (as := [.ref 2, .int (x.2 (i + (1 : Int32)).toNatClampNeg), .int (x.2 (i + (2 : Int32)).toNatClampNeg), .int (x.2 (i + (3 : Int32)).toNatClampNeg)]) (S' := []) (L2 := [some (.ref 2), some (.int (x.2 (i + (1 : Int32)).toNatClampNeg)), some (.int (x.2 (i + (2 : Int32)).toNatClampNeg)), some (.int (x.2 (i + (3 : Int32)).toNatClampNeg))]) (v := some (.int v1)) (h1 := HH x σ1) rfl rfl rfl rfl rfl (by omega) k4 ?_
  show mm_Runs d 158 (437, [some (.ref 1), some (.ref 2), some (.ref 37), some (.int i)], [.int v1], HH x σ1) r
  refine mm_go 5 (F' := (442, [some (.ref 1), some (.ref 2), some (.ref 37), some (.int i)], [.int (i + (1 : Int32)), .ref 1, .ref 37, .int v1], HH x σ1)) rfl ?_
  refine mm_gd (F' := (443, [some (.ref 1), some (.ref 2), some (.ref 37), some (.int i)], [.int (x.2 (i + (1 : Int32)).toNatClampNeg), .ref 37, .int v1], HH x σ1)) rfl k5 ?_
  refine mm_go 4 (F' := (447, [some (.ref 1), some (.ref 2), some (.ref 37), some (.int i)], [.int (i + (2 : Int32)), .ref 1, .int (x.2 (i + (1 : Int32)).toNatClampNeg), .ref 37, .int v1], HH x σ1)) rfl ?_
  refine mm_gd (F' := (448, [some (.ref 1), some (.ref 2), some (.ref 37), some (.int i)], [.int (x.2 (i + (2 : Int32)).toNatClampNeg), .int (x.2 (i + (1 : Int32)).toNatClampNeg), .ref 37, .int v1], HH x σ1)) rfl k6 ?_
  refine mm_go 4 (F' := (452, [some (.ref 1), some (.ref 2), some (.ref 37), some (.int i)], [.int (i + (3 : Int32)), .ref 1, .int (x.2 (i + (2 : Int32)).toNatClampNeg), .int (x.2 (i + (1 : Int32)).toNatClampNeg), .ref 37, .int v1], HH x σ1)) rfl ?_
  refine mm_gd (F' := (453, [some (.ref 1), some (.ref 2), some (.ref 37), some (.int i)], [.int (x.2 (i + (3 : Int32)).toNatClampNeg), .int (x.2 (i + (2 : Int32)).toNatClampNeg), .int (x.2 (i + (1 : Int32)).toNatClampNeg), .ref 37, .int v1], HH x σ1)) rfl k7 ?_
  refine mm_kl (z := 116) (as := [.ref 37, .int (x.2 (i + (1 : Int32)).toNatClampNeg), .int (x.2 (i + (2 : Int32)).toNatClampNeg), .int (x.2 (i + (3 : Int32)).toNatClampNeg)]) (S' := [.int v1]) (L2 := [some (.ref 37), some (.int (x.2 (i + (1 : Int32)).toNatClampNeg)), some (.int (x.2 (i + (2 : Int32)).toNatClampNeg)), some (.int (x.2 (i + (3 : Int32)).toNatClampNeg))]) (v := some (.int v2)) (h1 := HH x σ2) rfl rfl rfl rfl rfl (by omega) k8 ?_
  show mm_Runs d 158 (456, [some (.ref 1), some (.ref 2), some (.ref 37), some (.int i)], [.int v2, .int v1], HH x σ2) r
  refine mm_go 1 (F' := (bif mm_cond .eq v1 v2 then 1144 else 459, [some (.ref 1), some (.ref 2), some (.ref 37), some (.int i)], [], HH x σ2)) rfl ?_
  refine mb_eq (fun h1 => ?_) (fun h1 => ?_)
  · exact mm_wk (by exact (And.intro rfl (And.intro rfl (And.intro rfl (And.intro rfl True.intro))))) (k9 h1)
  · refine mm_go 1 (F' := (460, [some (.ref 1), some (.ref 2), some (.ref 37), some (.int i)], [.int (0 : Int32)], HH x σ2)) rfl ?_
    exact mm_rtz rfl rfl (Or.inl rfl) (k10 h1)
set_option maxRecDepth 100000 in
theorem vc_law_first {d : Nat} {x : Nat × (Nat → Int32)} {σ : mm_S} {i : Int32} {v1 v2 : Int32} {σ1 σ2 : mm_S} {r : Option Value × mm_H} (hd : 1 ≤ d) (k1 : ¬ ((i + (1 : Int32)) < 0 ∨ x.1 ≤ (i + (1 : Int32)).toNatClampNeg)) (k2 : mm_Runs (d - 1) 46 (0, [some (.ref 2), some (.int (x.2 (i + (1 : Int32)).toNatClampNeg)), none, none, none, none, none], [], HH x σ) (some (.int v1), HH x σ1)) (k3 : ¬ ((i + (1 : Int32)) < 0 ∨ x.1 ≤ (i + (1 : Int32)).toNatClampNeg)) (k4 : mm_Runs (d - 1) 117 (0, [some (.ref 37), some (.int (x.2 (i + (1 : Int32)).toNatClampNeg)), none, none, none, none, none], [], HH x σ1) (some (.int v2), HH x σ2)) (k5 : v1 = v2 → mm_Runs d 158 (1144, [some (.ref 1), some (.ref 2), some (.ref 37), some (.int i)], [], HH x σ2) r) (k6 : ¬ v1 = v2 → (some (.int (0 : Int32)), HH x σ2) = r) : mm_Runs d 158 (461, [some (.ref 1), some (.ref 2), some (.ref 37), some (.int i)], [], HH x σ) r := by
  refine mm_go 5 (F' := (466, [some (.ref 1), some (.ref 2), some (.ref 37), some (.int i)], [.int (i + (1 : Int32)), .ref 1, .ref 2], HH x σ)) rfl ?_
  refine mm_gd (F' := (467, [some (.ref 1), some (.ref 2), some (.ref 37), some (.int i)], [.int (x.2 (i + (1 : Int32)).toNatClampNeg), .ref 2], HH x σ)) rfl k1 ?_
  refine mm_kl (z := 46) (as := [.ref 2, .int (x.2 (i + (1 : Int32)).toNatClampNeg)]) (S' := []) (L2 := [some (.ref 2), some (.int (x.2 (i + (1 : Int32)).toNatClampNeg)), none, none, none, none, none]) (v := some (.int v1)) (h1 := HH x σ1) rfl rfl rfl rfl rfl (by omega) k2 ?_
  show mm_Runs d 158 (470, [some (.ref 1), some (.ref 2), some (.ref 37), some (.int i)], [.int v1], HH x σ1) r
  refine mm_go 5 (F' := (475, [some (.ref 1), some (.ref 2), some (.ref 37), some (.int i)], [.int (i + (1 : Int32)), .ref 1, .ref 37, .int v1], HH x σ1)) rfl ?_
  refine mm_gd (F' := (476, [some (.ref 1), some (.ref 2), some (.ref 37), some (.int i)], [.int (x.2 (i + (1 : Int32)).toNatClampNeg), .ref 37, .int v1], HH x σ1)) rfl k3 ?_
  refine mm_kl (z := 117) (as := [.ref 37, .int (x.2 (i + (1 : Int32)).toNatClampNeg)]) (S' := [.int v1]) (L2 := [some (.ref 37), some (.int (x.2 (i + (1 : Int32)).toNatClampNeg)), none, none, none, none, none]) (v := some (.int v2)) (h1 := HH x σ2) rfl rfl rfl rfl rfl (by omega) k4 ?_
  show mm_Runs d 158 (479, [some (.ref 1), some (.ref 2), some (.ref 37), some (.int i)], [.int v2, .int v1], HH x σ2) r
  refine mm_go 1 (F' := (bif mm_cond .eq v1 v2 then 1144 else 482, [some (.ref 1), some (.ref 2), some (.ref 37), some (.int i)], [], HH x σ2)) rfl ?_
  refine mb_eq (fun h1 => ?_) (fun h1 => ?_)
  · exact mm_wk (by exact (And.intro rfl (And.intro rfl (And.intro rfl (And.intro rfl True.intro))))) (k5 h1)
  · refine mm_go 1 (F' := (483, [some (.ref 1), some (.ref 2), some (.ref 37), some (.int i)], [.int (0 : Int32)], HH x σ2)) rfl ?_
    exact mm_rtz rfl rfl (Or.inl rfl) (k6 h1)
set_option maxRecDepth 100000 in
theorem vc_law_wish {d : Nat} {x : Nat × (Nat → Int32)} {σ : mm_S} {i : Int32} {v1 v2 : Int32} {σ1 σ2 : mm_S} {r : Option Value × mm_H} (hd : 1 ≤ d) (k1 : ¬ ((i + (1 : Int32)) < 0 ∨ x.1 ≤ (i + (1 : Int32)).toNatClampNeg)) (k2 : ¬ ((i + (2 : Int32)) < 0 ∨ x.1 ≤ (i + (2 : Int32)).toNatClampNeg)) (k3 : mm_Runs (d - 1) 47 (0, [some (.ref 2), some (.int (x.2 (i + (1 : Int32)).toNatClampNeg)), some (.int (x.2 (i + (2 : Int32)).toNatClampNeg)), none], [], HH x σ) (some (.int v1), HH x σ1)) (k4 : ¬ ((i + (1 : Int32)) < 0 ∨ x.1 ≤ (i + (1 : Int32)).toNatClampNeg)) (k5 : ¬ ((i + (2 : Int32)) < 0 ∨ x.1 ≤ (i + (2 : Int32)).toNatClampNeg)) (k6 : mm_Runs (d - 1) 119 (0, [some (.ref 37), some (.int (x.2 (i + (1 : Int32)).toNatClampNeg)), some (.int (x.2 (i + (2 : Int32)).toNatClampNeg))], [], HH x σ1) (some (.int v2), HH x σ2)) (k7 : v1 = v2 → mm_Runs d 158 (1144, [some (.ref 1), some (.ref 2), some (.ref 37), some (.int i)], [], HH x σ2) r) (k8 : ¬ v1 = v2 → (some (.int (0 : Int32)), HH x σ2) = r) : mm_Runs d 158 (484, [some (.ref 1), some (.ref 2), some (.ref 37), some (.int i)], [], HH x σ) r := by
  refine mm_go 5 (F' := (489, [some (.ref 1), some (.ref 2), some (.ref 37), some (.int i)], [.int (i + (1 : Int32)), .ref 1, .ref 2], HH x σ)) rfl ?_
  refine mm_gd (F' := (490, [some (.ref 1), some (.ref 2), some (.ref 37), some (.int i)], [.int (x.2 (i + (1 : Int32)).toNatClampNeg), .ref 2], HH x σ)) rfl k1 ?_
  refine mm_go 4 (F' := (494, [some (.ref 1), some (.ref 2), some (.ref 37), some (.int i)], [.int (i + (2 : Int32)), .ref 1, .int (x.2 (i + (1 : Int32)).toNatClampNeg), .ref 2], HH x σ)) rfl ?_
  refine mm_gd (F' := (495, [some (.ref 1), some (.ref 2), some (.ref 37), some (.int i)], [.int (x.2 (i + (2 : Int32)).toNatClampNeg), .int (x.2 (i + (1 : Int32)).toNatClampNeg), .ref 2], HH x σ)) rfl k2 ?_
  refine mm_kl (z := 47) (as := [.ref 2, .int (x.2 (i + (1 : Int32)).toNatClampNeg), .int (x.2 (i + (2 : Int32)).toNatClampNeg)]) (S' := []) (L2 := [some (.ref 2), some (.int (x.2 (i + (1 : Int32)).toNatClampNeg)), some (.int (x.2 (i + (2 : Int32)).toNatClampNeg)), none]) (v := some (.int v1)) (h1 := HH x σ1) rfl rfl rfl rfl rfl (by omega) k3 ?_
  show mm_Runs d 158 (498, [some (.ref 1), some (.ref 2), some (.ref 37), some (.int i)], [.int v1], HH x σ1) r
  refine mm_go 5 (F' := (503, [some (.ref 1), some (.ref 2), some (.ref 37), some (.int i)], [.int (i + (1 : Int32)), .ref 1, .ref 37, .int v1], HH x σ1)) rfl ?_
  refine mm_gd (F' := (504, [some (.ref 1), some (.ref 2), some (.ref 37), some (.int i)], [.int (x.2 (i + (1 : Int32)).toNatClampNeg), .ref 37, .int v1], HH x σ1)) rfl k4 ?_
  refine mm_go 4 (F' := (508, [some (.ref 1), some (.ref 2), some (.ref 37), some (.int i)], [.int (i + (2 : Int32)), .ref 1, .int (x.2 (i + (1 : Int32)).toNatClampNeg), .ref 37, .int v1], HH x σ1)) rfl ?_
  refine mm_gd (F' := (509, [some (.ref 1), some (.ref 2), some (.ref 37), some (.int i)], [.int (x.2 (i + (2 : Int32)).toNatClampNeg), .int (x.2 (i + (1 : Int32)).toNatClampNeg), .ref 37, .int v1], HH x σ1)) rfl k5 ?_
  refine mm_kl (z := 119) (as := [.ref 37, .int (x.2 (i + (1 : Int32)).toNatClampNeg), .int (x.2 (i + (2 : Int32)).toNatClampNeg)]) (S' := [.int v1]) (L2 := [some (.ref 37), some (.int (x.2 (i + (1 : Int32)).toNatClampNeg)), some (.int (x.2 (i + (2 : Int32)).toNatClampNeg))]) (v := some (.int v2)) (h1 := HH x σ2) rfl rfl rfl rfl rfl (by omega) k6 ?_
  show mm_Runs d 158 (512, [some (.ref 1), some (.ref 2), some (.ref 37), some (.int i)], [.int v2, .int v1], HH x σ2) r
  refine mm_go 1 (F' := (bif mm_cond .eq v1 v2 then 1144 else 515, [some (.ref 1), some (.ref 2), some (.ref 37), some (.int i)], [], HH x σ2)) rfl ?_
  refine mb_eq (fun h1 => ?_) (fun h1 => ?_)
  · exact mm_wk (by exact (And.intro rfl (And.intro rfl (And.intro rfl (And.intro rfl True.intro))))) (k7 h1)
  · refine mm_go 1 (F' := (516, [some (.ref 1), some (.ref 2), some (.ref 37), some (.int i)], [.int (0 : Int32)], HH x σ2)) rfl ?_
    exact mm_rtz rfl rfl (Or.inl rfl) (k8 h1)
set_option maxRecDepth 100000 in
theorem vc_law_ofWish {d : Nat} {x : Nat × (Nat → Int32)} {σ : mm_S} {i : Int32} {v1 v2 : Int32} {σ1 σ2 : mm_S} {r : Option Value × mm_H} (hd : 1 ≤ d) (k1 : ¬ ((i + (1 : Int32)) < 0 ∨ x.1 ≤ (i + (1 : Int32)).toNatClampNeg)) (k2 : ¬ ((i + (2 : Int32)) < 0 ∨ x.1 ≤ (i + (2 : Int32)).toNatClampNeg)) (k3 : mm_Runs (d - 1) 48 (0, [some (.ref 2), some (.int (x.2 (i + (1 : Int32)).toNatClampNeg)), some (.int (x.2 (i + (2 : Int32)).toNatClampNeg))], [], HH x σ) (some (.int v1), HH x σ1)) (k4 : ¬ ((i + (1 : Int32)) < 0 ∨ x.1 ≤ (i + (1 : Int32)).toNatClampNeg)) (k5 : ¬ ((i + (2 : Int32)) < 0 ∨ x.1 ≤ (i + (2 : Int32)).toNatClampNeg)) (k6 : mm_Runs (d - 1) 120 (0, [some (.ref 37), some (.int (x.2 (i + (1 : Int32)).toNatClampNeg)), some (.int (x.2 (i + (2 : Int32)).toNatClampNeg))], [], HH x σ1) (some (.int v2), HH x σ2)) (k7 : v1 = v2 → mm_Runs d 158 (1144, [some (.ref 1), some (.ref 2), some (.ref 37), some (.int i)], [], HH x σ2) r) (k8 : ¬ v1 = v2 → (some (.int (0 : Int32)), HH x σ2) = r) : mm_Runs d 158 (517, [some (.ref 1), some (.ref 2), some (.ref 37), some (.int i)], [], HH x σ) r := by
  refine mm_go 5 (F' := (522, [some (.ref 1), some (.ref 2), some (.ref 37), some (.int i)], [.int (i + (1 : Int32)), .ref 1, .ref 2], HH x σ)) rfl ?_
  refine mm_gd (F' := (523, [some (.ref 1), some (.ref 2), some (.ref 37), some (.int i)], [.int (x.2 (i + (1 : Int32)).toNatClampNeg), .ref 2], HH x σ)) rfl k1 ?_
  refine mm_go 4 (F' := (527, [some (.ref 1), some (.ref 2), some (.ref 37), some (.int i)], [.int (i + (2 : Int32)), .ref 1, .int (x.2 (i + (1 : Int32)).toNatClampNeg), .ref 2], HH x σ)) rfl ?_
  refine mm_gd (F' := (528, [some (.ref 1), some (.ref 2), some (.ref 37), some (.int i)], [.int (x.2 (i + (2 : Int32)).toNatClampNeg), .int (x.2 (i + (1 : Int32)).toNatClampNeg), .ref 2], HH x σ)) rfl k2 ?_
  refine mm_kl (z := 48) (as := [.ref 2, .int (x.2 (i + (1 : Int32)).toNatClampNeg), .int (x.2 (i + (2 : Int32)).toNatClampNeg)]) (S' := []) (L2 := [some (.ref 2), some (.int (x.2 (i + (1 : Int32)).toNatClampNeg)), some (.int (x.2 (i + (2 : Int32)).toNatClampNeg))]) (v := some (.int v1)) (h1 := HH x σ1) rfl rfl rfl rfl rfl (by omega) k3 ?_
  show mm_Runs d 158 (531, [some (.ref 1), some (.ref 2), some (.ref 37), some (.int i)], [.int v1], HH x σ1) r
  refine mm_go 5 (F' := (536, [some (.ref 1), some (.ref 2), some (.ref 37), some (.int i)], [.int (i + (1 : Int32)), .ref 1, .ref 37, .int v1], HH x σ1)) rfl ?_
  refine mm_gd (F' := (537, [some (.ref 1), some (.ref 2), some (.ref 37), some (.int i)], [.int (x.2 (i + (1 : Int32)).toNatClampNeg), .ref 37, .int v1], HH x σ1)) rfl k4 ?_
  refine mm_go 4 (F' := (541, [some (.ref 1), some (.ref 2), some (.ref 37), some (.int i)], [.int (i + (2 : Int32)), .ref 1, .int (x.2 (i + (1 : Int32)).toNatClampNeg), .ref 37, .int v1], HH x σ1)) rfl ?_
  refine mm_gd (F' := (542, [some (.ref 1), some (.ref 2), some (.ref 37), some (.int i)], [.int (x.2 (i + (2 : Int32)).toNatClampNeg), .int (x.2 (i + (1 : Int32)).toNatClampNeg), .ref 37, .int v1], HH x σ1)) rfl k5 ?_
  refine mm_kl (z := 120) (as := [.ref 37, .int (x.2 (i + (1 : Int32)).toNatClampNeg), .int (x.2 (i + (2 : Int32)).toNatClampNeg)]) (S' := [.int v1]) (L2 := [some (.ref 37), some (.int (x.2 (i + (1 : Int32)).toNatClampNeg)), some (.int (x.2 (i + (2 : Int32)).toNatClampNeg))]) (v := some (.int v2)) (h1 := HH x σ2) rfl rfl rfl rfl rfl (by omega) k6 ?_
  show mm_Runs d 158 (545, [some (.ref 1), some (.ref 2), some (.ref 37), some (.int i)], [.int v2, .int v1], HH x σ2) r
  refine mm_go 1 (F' := (bif mm_cond .eq v1 v2 then 1144 else 548, [some (.ref 1), some (.ref 2), some (.ref 37), some (.int i)], [], HH x σ2)) rfl ?_
  refine mb_eq (fun h1 => ?_) (fun h1 => ?_)
  · exact mm_wk (by exact (And.intro rfl (And.intro rfl (And.intro rfl (And.intro rfl True.intro))))) (k7 h1)
  · refine mm_go 1 (F' := (549, [some (.ref 1), some (.ref 2), some (.ref 37), some (.int i)], [.int (0 : Int32)], HH x σ2)) rfl ?_
    exact mm_rtz rfl rfl (Or.inl rfl) (k8 h1)
set_option maxRecDepth 100000 in
theorem vc_law_drop {d : Nat} {x : Nat × (Nat → Int32)} {σ : mm_S} {i : Int32} {v1 v2 : Int32} {σ1 σ2 : mm_S} {r : Option Value × mm_H} (hd : 1 ≤ d) (k1 : ¬ ((i + (1 : Int32)) < 0 ∨ x.1 ≤ (i + (1 : Int32)).toNatClampNeg)) (k2 : mm_Runs (d - 1) 49 (0, [some (.ref 2), some (.int (x.2 (i + (1 : Int32)).toNatClampNeg)), none], [], HH x σ) (some (.int v1), HH x σ1)) (k3 : ¬ ((i + (1 : Int32)) < 0 ∨ x.1 ≤ (i + (1 : Int32)).toNatClampNeg)) (k4 : mm_Runs (d - 1) 121 (0, [some (.ref 37), some (.int (x.2 (i + (1 : Int32)).toNatClampNeg))], [], HH x σ1) (some (.int v2), HH x σ2)) (k5 : v1 = v2 → mm_Runs d 158 (1144, [some (.ref 1), some (.ref 2), some (.ref 37), some (.int i)], [], HH x σ2) r) (k6 : ¬ v1 = v2 → (some (.int (0 : Int32)), HH x σ2) = r) : mm_Runs d 158 (550, [some (.ref 1), some (.ref 2), some (.ref 37), some (.int i)], [], HH x σ) r := by
  refine mm_go 5 (F' := (555, [some (.ref 1), some (.ref 2), some (.ref 37), some (.int i)], [.int (i + (1 : Int32)), .ref 1, .ref 2], HH x σ)) rfl ?_
  refine mm_gd (F' := (556, [some (.ref 1), some (.ref 2), some (.ref 37), some (.int i)], [.int (x.2 (i + (1 : Int32)).toNatClampNeg), .ref 2], HH x σ)) rfl k1 ?_
  refine mm_kl (z := 49) (as := [.ref 2, .int (x.2 (i + (1 : Int32)).toNatClampNeg)]) (S' := []) (L2 := [some (.ref 2), some (.int (x.2 (i + (1 : Int32)).toNatClampNeg)), none]) (v := some (.int v1)) (h1 := HH x σ1) rfl rfl rfl rfl rfl (by omega) k2 ?_
  show mm_Runs d 158 (559, [some (.ref 1), some (.ref 2), some (.ref 37), some (.int i)], [.int v1], HH x σ1) r
  refine mm_go 5 (F' := (564, [some (.ref 1), some (.ref 2), some (.ref 37), some (.int i)], [.int (i + (1 : Int32)), .ref 1, .ref 37, .int v1], HH x σ1)) rfl ?_
  refine mm_gd (F' := (565, [some (.ref 1), some (.ref 2), some (.ref 37), some (.int i)], [.int (x.2 (i + (1 : Int32)).toNatClampNeg), .ref 37, .int v1], HH x σ1)) rfl k3 ?_
  refine mm_kl (z := 121) (as := [.ref 37, .int (x.2 (i + (1 : Int32)).toNatClampNeg)]) (S' := [.int v1]) (L2 := [some (.ref 37), some (.int (x.2 (i + (1 : Int32)).toNatClampNeg))]) (v := some (.int v2)) (h1 := HH x σ2) rfl rfl rfl rfl rfl (by omega) k4 ?_
  show mm_Runs d 158 (568, [some (.ref 1), some (.ref 2), some (.ref 37), some (.int i)], [.int v2, .int v1], HH x σ2) r
  refine mm_go 1 (F' := (bif mm_cond .eq v1 v2 then 1144 else 571, [some (.ref 1), some (.ref 2), some (.ref 37), some (.int i)], [], HH x σ2)) rfl ?_
  refine mb_eq (fun h1 => ?_) (fun h1 => ?_)
  · exact mm_wk (by exact (And.intro rfl (And.intro rfl (And.intro rfl (And.intro rfl True.intro))))) (k5 h1)
  · refine mm_go 1 (F' := (572, [some (.ref 1), some (.ref 2), some (.ref 37), some (.int i)], [.int (0 : Int32)], HH x σ2)) rfl ?_
    exact mm_rtz rfl rfl (Or.inl rfl) (k6 h1)
set_option maxRecDepth 100000 in
theorem vc_law_apart {d : Nat} {x : Nat × (Nat → Int32)} {σ : mm_S} {i : Int32} {v1 v2 : Int32} {σ1 σ2 : mm_S} {r : Option Value × mm_H} (hd : 1 ≤ d) (k1 : ¬ ((i + (1 : Int32)) < 0 ∨ x.1 ≤ (i + (1 : Int32)).toNatClampNeg)) (k2 : ¬ ((i + (2 : Int32)) < 0 ∨ x.1 ≤ (i + (2 : Int32)).toNatClampNeg)) (k3 : mm_Runs (d - 1) 50 (0, [some (.ref 2), some (.int (x.2 (i + (1 : Int32)).toNatClampNeg)), some (.int (x.2 (i + (2 : Int32)).toNatClampNeg))], [], HH x σ) (some (.int v1), HH x σ1)) (k4 : ¬ ((i + (1 : Int32)) < 0 ∨ x.1 ≤ (i + (1 : Int32)).toNatClampNeg)) (k5 : ¬ ((i + (2 : Int32)) < 0 ∨ x.1 ≤ (i + (2 : Int32)).toNatClampNeg)) (k6 : mm_Runs (d - 1) 126 (0, [some (.ref 37), some (.int (x.2 (i + (1 : Int32)).toNatClampNeg)), some (.int (x.2 (i + (2 : Int32)).toNatClampNeg)), none], [], HH x σ1) (some (.int v2), HH x σ2)) (k7 : v1 = v2 → mm_Runs d 158 (1144, [some (.ref 1), some (.ref 2), some (.ref 37), some (.int i)], [], HH x σ2) r) (k8 : ¬ v1 = v2 → (some (.int (0 : Int32)), HH x σ2) = r) : mm_Runs d 158 (573, [some (.ref 1), some (.ref 2), some (.ref 37), some (.int i)], [], HH x σ) r := by
  refine mm_go 5 (F' := (578, [some (.ref 1), some (.ref 2), some (.ref 37), some (.int i)], [.int (i + (1 : Int32)), .ref 1, .ref 2], HH x σ)) rfl ?_
  refine mm_gd (F' := (579, [some (.ref 1), some (.ref 2), some (.ref 37), some (.int i)], [.int (x.2 (i + (1 : Int32)).toNatClampNeg), .ref 2], HH x σ)) rfl k1 ?_
  refine mm_go 4 (F' := (583, [some (.ref 1), some (.ref 2), some (.ref 37), some (.int i)], [.int (i + (2 : Int32)), .ref 1, .int (x.2 (i + (1 : Int32)).toNatClampNeg), .ref 2], HH x σ)) rfl ?_
  refine mm_gd (F' := (584, [some (.ref 1), some (.ref 2), some (.ref 37), some (.int i)], [.int (x.2 (i + (2 : Int32)).toNatClampNeg), .int (x.2 (i + (1 : Int32)).toNatClampNeg), .ref 2], HH x σ)) rfl k2 ?_
  refine mm_kl (z := 50) (as := [.ref 2, .int (x.2 (i + (1 : Int32)).toNatClampNeg), .int (x.2 (i + (2 : Int32)).toNatClampNeg)]) (S' := []) (L2 := [some (.ref 2), some (.int (x.2 (i + (1 : Int32)).toNatClampNeg)), some (.int (x.2 (i + (2 : Int32)).toNatClampNeg))]) (v := some (.int v1)) (h1 := HH x σ1) rfl rfl rfl rfl rfl (by omega) k3 ?_
  show mm_Runs d 158 (587, [some (.ref 1), some (.ref 2), some (.ref 37), some (.int i)], [.int v1], HH x σ1) r
  refine mm_go 5 (F' := (592, [some (.ref 1), some (.ref 2), some (.ref 37), some (.int i)], [.int (i + (1 : Int32)), .ref 1, .ref 37, .int v1], HH x σ1)) rfl ?_
  refine mm_gd (F' := (593, [some (.ref 1), some (.ref 2), some (.ref 37), some (.int i)], [.int (x.2 (i + (1 : Int32)).toNatClampNeg), .ref 37, .int v1], HH x σ1)) rfl k4 ?_
  refine mm_go 4 (F' := (597, [some (.ref 1), some (.ref 2), some (.ref 37), some (.int i)], [.int (i + (2 : Int32)), .ref 1, .int (x.2 (i + (1 : Int32)).toNatClampNeg), .ref 37, .int v1], HH x σ1)) rfl ?_
  refine mm_gd (F' := (598, [some (.ref 1), some (.ref 2), some (.ref 37), some (.int i)], [.int (x.2 (i + (2 : Int32)).toNatClampNeg), .int (x.2 (i + (1 : Int32)).toNatClampNeg), .ref 37, .int v1], HH x σ1)) rfl k5 ?_
  refine mm_kl (z := 126) (as := [.ref 37, .int (x.2 (i + (1 : Int32)).toNatClampNeg), .int (x.2 (i + (2 : Int32)).toNatClampNeg)]) (S' := [.int v1]) (L2 := [some (.ref 37), some (.int (x.2 (i + (1 : Int32)).toNatClampNeg)), some (.int (x.2 (i + (2 : Int32)).toNatClampNeg)), none]) (v := some (.int v2)) (h1 := HH x σ2) rfl rfl rfl rfl rfl (by omega) k6 ?_
  show mm_Runs d 158 (601, [some (.ref 1), some (.ref 2), some (.ref 37), some (.int i)], [.int v2, .int v1], HH x σ2) r
  refine mm_go 1 (F' := (bif mm_cond .eq v1 v2 then 1144 else 604, [some (.ref 1), some (.ref 2), some (.ref 37), some (.int i)], [], HH x σ2)) rfl ?_
  refine mb_eq (fun h1 => ?_) (fun h1 => ?_)
  · exact mm_wk (by exact (And.intro rfl (And.intro rfl (And.intro rfl (And.intro rfl True.intro))))) (k7 h1)
  · refine mm_go 1 (F' := (605, [some (.ref 1), some (.ref 2), some (.ref 37), some (.int i)], [.int (0 : Int32)], HH x σ2)) rfl ?_
    exact mm_rtz rfl rfl (Or.inl rfl) (k8 h1)
set_option maxRecDepth 100000 in
theorem vc_law_atOnce {d : Nat} {x : Nat × (Nat → Int32)} {σ : mm_S} {i : Int32} {v1 v2 : Int32} {σ1 σ2 : mm_S} {r : Option Value × mm_H} (hd : 1 ≤ d) (k1 : mm_Runs (d - 1) 51 (0, [some (.ref 2)], [], HH x σ) (some (.int v1), HH x σ1)) (k2 : mm_Runs (d - 1) 130 (0, [some (.ref 37)], [], HH x σ1) (some (.int v2), HH x σ2)) (k3 : v1 = v2 → mm_Runs d 158 (1144, [some (.ref 1), some (.ref 2), some (.ref 37), some (.int i)], [], HH x σ2) r) (k4 : ¬ v1 = v2 → (some (.int (0 : Int32)), HH x σ2) = r) : mm_Runs d 158 (606, [some (.ref 1), some (.ref 2), some (.ref 37), some (.int i)], [], HH x σ) r := by
  refine mm_go 1 (F' := (607, [some (.ref 1), some (.ref 2), some (.ref 37), some (.int i)], [.ref 2], HH x σ)) rfl ?_
  refine mm_kl (z := 51) (as := [.ref 2]) (S' := []) (L2 := [some (.ref 2)]) (v := some (.int v1)) (h1 := HH x σ1) rfl rfl rfl rfl rfl (by omega) k1 ?_
  show mm_Runs d 158 (610, [some (.ref 1), some (.ref 2), some (.ref 37), some (.int i)], [.int v1], HH x σ1) r
  refine mm_go 1 (F' := (611, [some (.ref 1), some (.ref 2), some (.ref 37), some (.int i)], [.ref 37, .int v1], HH x σ1)) rfl ?_
  refine mm_kl (z := 130) (as := [.ref 37]) (S' := [.int v1]) (L2 := [some (.ref 37)]) (v := some (.int v2)) (h1 := HH x σ2) rfl rfl rfl rfl rfl (by omega) k2 ?_
  show mm_Runs d 158 (614, [some (.ref 1), some (.ref 2), some (.ref 37), some (.int i)], [.int v2, .int v1], HH x σ2) r
  refine mm_go 1 (F' := (bif mm_cond .eq v1 v2 then 1144 else 617, [some (.ref 1), some (.ref 2), some (.ref 37), some (.int i)], [], HH x σ2)) rfl ?_
  refine mb_eq (fun h1 => ?_) (fun h1 => ?_)
  · exact mm_wk (by exact (And.intro rfl (And.intro rfl (And.intro rfl (And.intro rfl True.intro))))) (k3 h1)
  · refine mm_go 1 (F' := (618, [some (.ref 1), some (.ref 2), some (.ref 37), some (.int i)], [.int (0 : Int32)], HH x σ2)) rfl ?_
    exact mm_rtz rfl rfl (Or.inl rfl) (k4 h1)
set_option maxRecDepth 100000 in
theorem vc_law_soonest {d : Nat} {x : Nat × (Nat → Int32)} {σ : mm_S} {i : Int32} {v1 v2 : Int32} {σ1 σ2 : mm_S} {r : Option Value × mm_H} (hd : 1 ≤ d) (k1 : ¬ ((i + (1 : Int32)) < 0 ∨ x.1 ≤ (i + (1 : Int32)).toNatClampNeg)) (k2 : mm_Runs (d - 1) 52 (0, [some (.ref 2), some (.int (x.2 (i + (1 : Int32)).toNatClampNeg))], [], HH x σ) (some (.int v1), HH x σ1)) (k3 : ¬ ((i + (1 : Int32)) < 0 ∨ x.1 ≤ (i + (1 : Int32)).toNatClampNeg)) (k4 : mm_Runs (d - 1) 134 (0, [some (.ref 37), some (.int (x.2 (i + (1 : Int32)).toNatClampNeg)), none], [], HH x σ1) (some (.int v2), HH x σ2)) (k5 : v1 = v2 → mm_Runs d 158 (1144, [some (.ref 1), some (.ref 2), some (.ref 37), some (.int i)], [], HH x σ2) r) (k6 : ¬ v1 = v2 → (some (.int (0 : Int32)), HH x σ2) = r) : mm_Runs d 158 (619, [some (.ref 1), some (.ref 2), some (.ref 37), some (.int i)], [], HH x σ) r := by
  refine mm_go 5 (F' := (624, [some (.ref 1), some (.ref 2), some (.ref 37), some (.int i)], [.int (i + (1 : Int32)), .ref 1, .ref 2], HH x σ)) rfl ?_
  refine mm_gd (F' := (625, [some (.ref 1), some (.ref 2), some (.ref 37), some (.int i)], [.int (x.2 (i + (1 : Int32)).toNatClampNeg), .ref 2], HH x σ)) rfl k1 ?_
  refine mm_kl (z := 52) (as := [.ref 2, .int (x.2 (i + (1 : Int32)).toNatClampNeg)]) (S' := []) (L2 := [some (.ref 2), some (.int (x.2 (i + (1 : Int32)).toNatClampNeg))]) (v := some (.int v1)) (h1 := HH x σ1) rfl rfl rfl rfl rfl (by omega) k2 ?_
  show mm_Runs d 158 (628, [some (.ref 1), some (.ref 2), some (.ref 37), some (.int i)], [.int v1], HH x σ1) r
  refine mm_go 5 (F' := (633, [some (.ref 1), some (.ref 2), some (.ref 37), some (.int i)], [.int (i + (1 : Int32)), .ref 1, .ref 37, .int v1], HH x σ1)) rfl ?_
  refine mm_gd (F' := (634, [some (.ref 1), some (.ref 2), some (.ref 37), some (.int i)], [.int (x.2 (i + (1 : Int32)).toNatClampNeg), .ref 37, .int v1], HH x σ1)) rfl k3 ?_
  refine mm_kl (z := 134) (as := [.ref 37, .int (x.2 (i + (1 : Int32)).toNatClampNeg)]) (S' := [.int v1]) (L2 := [some (.ref 37), some (.int (x.2 (i + (1 : Int32)).toNatClampNeg)), none]) (v := some (.int v2)) (h1 := HH x σ2) rfl rfl rfl rfl rfl (by omega) k4 ?_
  show mm_Runs d 158 (637, [some (.ref 1), some (.ref 2), some (.ref 37), some (.int i)], [.int v2, .int v1], HH x σ2) r
  refine mm_go 1 (F' := (bif mm_cond .eq v1 v2 then 1144 else 640, [some (.ref 1), some (.ref 2), some (.ref 37), some (.int i)], [], HH x σ2)) rfl ?_
  refine mb_eq (fun h1 => ?_) (fun h1 => ?_)
  · exact mm_wk (by exact (And.intro rfl (And.intro rfl (And.intro rfl (And.intro rfl True.intro))))) (k5 h1)
  · refine mm_go 1 (F' := (641, [some (.ref 1), some (.ref 2), some (.ref 37), some (.int i)], [.int (0 : Int32)], HH x σ2)) rfl ?_
    exact mm_rtz rfl rfl (Or.inl rfl) (k6 h1)
set_option maxRecDepth 100000 in
theorem vc_law_alone {d : Nat} {x : Nat × (Nat → Int32)} {σ : mm_S} {i : Int32} {v1 v2 : Int32} {σ1 σ2 : mm_S} {r : Option Value × mm_H} (hd : 1 ≤ d) (k1 : ¬ ((i + (1 : Int32)) < 0 ∨ x.1 ≤ (i + (1 : Int32)).toNatClampNeg)) (k2 : mm_Runs (d - 1) 53 (0, [some (.ref 2), some (.int (x.2 (i + (1 : Int32)).toNatClampNeg)), none], [], HH x σ) (some (.int v1), HH x σ1)) (k3 : ¬ ((i + (1 : Int32)) < 0 ∨ x.1 ≤ (i + (1 : Int32)).toNatClampNeg)) (k4 : mm_Runs (d - 1) 135 (0, [some (.ref 37), some (.int (x.2 (i + (1 : Int32)).toNatClampNeg)), none, none], [], HH x σ1) (some (.int v2), HH x σ2)) (k5 : v1 = v2 → mm_Runs d 158 (1144, [some (.ref 1), some (.ref 2), some (.ref 37), some (.int i)], [], HH x σ2) r) (k6 : ¬ v1 = v2 → (some (.int (0 : Int32)), HH x σ2) = r) : mm_Runs d 158 (642, [some (.ref 1), some (.ref 2), some (.ref 37), some (.int i)], [], HH x σ) r := by
  refine mm_go 5 (F' := (647, [some (.ref 1), some (.ref 2), some (.ref 37), some (.int i)], [.int (i + (1 : Int32)), .ref 1, .ref 2], HH x σ)) rfl ?_
  refine mm_gd (F' := (648, [some (.ref 1), some (.ref 2), some (.ref 37), some (.int i)], [.int (x.2 (i + (1 : Int32)).toNatClampNeg), .ref 2], HH x σ)) rfl k1 ?_
  refine mm_kl (z := 53) (as := [.ref 2, .int (x.2 (i + (1 : Int32)).toNatClampNeg)]) (S' := []) (L2 := [some (.ref 2), some (.int (x.2 (i + (1 : Int32)).toNatClampNeg)), none]) (v := some (.int v1)) (h1 := HH x σ1) rfl rfl rfl rfl rfl (by omega) k2 ?_
  show mm_Runs d 158 (651, [some (.ref 1), some (.ref 2), some (.ref 37), some (.int i)], [.int v1], HH x σ1) r
  refine mm_go 5 (F' := (656, [some (.ref 1), some (.ref 2), some (.ref 37), some (.int i)], [.int (i + (1 : Int32)), .ref 1, .ref 37, .int v1], HH x σ1)) rfl ?_
  refine mm_gd (F' := (657, [some (.ref 1), some (.ref 2), some (.ref 37), some (.int i)], [.int (x.2 (i + (1 : Int32)).toNatClampNeg), .ref 37, .int v1], HH x σ1)) rfl k3 ?_
  refine mm_kl (z := 135) (as := [.ref 37, .int (x.2 (i + (1 : Int32)).toNatClampNeg)]) (S' := [.int v1]) (L2 := [some (.ref 37), some (.int (x.2 (i + (1 : Int32)).toNatClampNeg)), none, none]) (v := some (.int v2)) (h1 := HH x σ2) rfl rfl rfl rfl rfl (by omega) k4 ?_
  show mm_Runs d 158 (660, [some (.ref 1), some (.ref 2), some (.ref 37), some (.int i)], [.int v2, .int v1], HH x σ2) r
  refine mm_go 1 (F' := (bif mm_cond .eq v1 v2 then 1144 else 663, [some (.ref 1), some (.ref 2), some (.ref 37), some (.int i)], [], HH x σ2)) rfl ?_
  refine mb_eq (fun h1 => ?_) (fun h1 => ?_)
  · exact mm_wk (by exact (And.intro rfl (And.intro rfl (And.intro rfl (And.intro rfl True.intro))))) (k5 h1)
  · refine mm_go 1 (F' := (664, [some (.ref 1), some (.ref 2), some (.ref 37), some (.int i)], [.int (0 : Int32)], HH x σ2)) rfl ?_
    exact mm_rtz rfl rfl (Or.inl rfl) (k6 h1)
set_option maxRecDepth 100000 in
theorem vc_law_sunset {d : Nat} {x : Nat × (Nat → Int32)} {σ : mm_S} {i : Int32} {v1 v2 : Int32} {σ1 σ2 : mm_S} {r : Option Value × mm_H} (hd : 1 ≤ d) (k1 : ¬ ((i + (1 : Int32)) < 0 ∨ x.1 ≤ (i + (1 : Int32)).toNatClampNeg)) (k2 : mm_Runs (d - 1) 54 (0, [some (.ref 2), some (.int (x.2 (i + (1 : Int32)).toNatClampNeg))], [], HH x σ) (some (.int v1), HH x σ1)) (k3 : ¬ ((i + (1 : Int32)) < 0 ∨ x.1 ≤ (i + (1 : Int32)).toNatClampNeg)) (k4 : mm_Runs (d - 1) 136 (0, [some (.ref 37), some (.int (x.2 (i + (1 : Int32)).toNatClampNeg)), none, none], [], HH x σ1) (some (.int v2), HH x σ2)) (k5 : v1 = v2 → mm_Runs d 158 (1144, [some (.ref 1), some (.ref 2), some (.ref 37), some (.int i)], [], HH x σ2) r) (k6 : ¬ v1 = v2 → (some (.int (0 : Int32)), HH x σ2) = r) : mm_Runs d 158 (665, [some (.ref 1), some (.ref 2), some (.ref 37), some (.int i)], [], HH x σ) r := by
  refine mm_go 5 (F' := (670, [some (.ref 1), some (.ref 2), some (.ref 37), some (.int i)], [.int (i + (1 : Int32)), .ref 1, .ref 2], HH x σ)) rfl ?_
  refine mm_gd (F' := (671, [some (.ref 1), some (.ref 2), some (.ref 37), some (.int i)], [.int (x.2 (i + (1 : Int32)).toNatClampNeg), .ref 2], HH x σ)) rfl k1 ?_
  refine mm_kl (z := 54) (as := [.ref 2, .int (x.2 (i + (1 : Int32)).toNatClampNeg)]) (S' := []) (L2 := [some (.ref 2), some (.int (x.2 (i + (1 : Int32)).toNatClampNeg))]) (v := some (.int v1)) (h1 := HH x σ1) rfl rfl rfl rfl rfl (by omega) k2 ?_
  show mm_Runs d 158 (674, [some (.ref 1), some (.ref 2), some (.ref 37), some (.int i)], [.int v1], HH x σ1) r
  refine mm_go 5 (F' := (679, [some (.ref 1), some (.ref 2), some (.ref 37), some (.int i)], [.int (i + (1 : Int32)), .ref 1, .ref 37, .int v1], HH x σ1)) rfl ?_
  refine mm_gd (F' := (680, [some (.ref 1), some (.ref 2), some (.ref 37), some (.int i)], [.int (x.2 (i + (1 : Int32)).toNatClampNeg), .ref 37, .int v1], HH x σ1)) rfl k3 ?_
  refine mm_kl (z := 136) (as := [.ref 37, .int (x.2 (i + (1 : Int32)).toNatClampNeg)]) (S' := [.int v1]) (L2 := [some (.ref 37), some (.int (x.2 (i + (1 : Int32)).toNatClampNeg)), none, none]) (v := some (.int v2)) (h1 := HH x σ2) rfl rfl rfl rfl rfl (by omega) k4 ?_
  show mm_Runs d 158 (683, [some (.ref 1), some (.ref 2), some (.ref 37), some (.int i)], [.int v2, .int v1], HH x σ2) r
  refine mm_go 1 (F' := (bif mm_cond .eq v1 v2 then 1144 else 686, [some (.ref 1), some (.ref 2), some (.ref 37), some (.int i)], [], HH x σ2)) rfl ?_
  refine mb_eq (fun h1 => ?_) (fun h1 => ?_)
  · exact mm_wk (by exact (And.intro rfl (And.intro rfl (And.intro rfl (And.intro rfl True.intro))))) (k5 h1)
  · refine mm_go 1 (F' := (687, [some (.ref 1), some (.ref 2), some (.ref 37), some (.int i)], [.int (0 : Int32)], HH x σ2)) rfl ?_
    exact mm_rtz rfl rfl (Or.inl rfl) (k6 h1)
set_option maxRecDepth 100000 in
theorem vc_law_reed {d : Nat} {x : Nat × (Nat → Int32)} {σ : mm_S} {i : Int32} {v1 v2 : Int32} {σ1 σ2 : mm_S} {r : Option Value × mm_H} (hd : 1 ≤ d) (k1 : ¬ ((i + (1 : Int32)) < 0 ∨ x.1 ≤ (i + (1 : Int32)).toNatClampNeg)) (k2 : ¬ ((i + (2 : Int32)) < 0 ∨ x.1 ≤ (i + (2 : Int32)).toNatClampNeg)) (k3 : mm_Runs (d - 1) 55 (0, [some (.ref 2), some (.int (x.2 (i + (1 : Int32)).toNatClampNeg)), some (.int (x.2 (i + (2 : Int32)).toNatClampNeg))], [], HH x σ) (some (.int v1), HH x σ1)) (k4 : ¬ ((i + (1 : Int32)) < 0 ∨ x.1 ≤ (i + (1 : Int32)).toNatClampNeg)) (k5 : ¬ ((i + (2 : Int32)) < 0 ∨ x.1 ≤ (i + (2 : Int32)).toNatClampNeg)) (k6 : mm_Runs (d - 1) 137 (0, [some (.ref 37), some (.int (x.2 (i + (1 : Int32)).toNatClampNeg)), some (.int (x.2 (i + (2 : Int32)).toNatClampNeg))], [], HH x σ1) (some (.int v2), HH x σ2)) (k7 : v1 = v2 → mm_Runs d 158 (1144, [some (.ref 1), some (.ref 2), some (.ref 37), some (.int i)], [], HH x σ2) r) (k8 : ¬ v1 = v2 → (some (.int (0 : Int32)), HH x σ2) = r) : mm_Runs d 158 (688, [some (.ref 1), some (.ref 2), some (.ref 37), some (.int i)], [], HH x σ) r := by
  refine mm_go 5 (F' := (693, [some (.ref 1), some (.ref 2), some (.ref 37), some (.int i)], [.int (i + (1 : Int32)), .ref 1, .ref 2], HH x σ)) rfl ?_
  refine mm_gd (F' := (694, [some (.ref 1), some (.ref 2), some (.ref 37), some (.int i)], [.int (x.2 (i + (1 : Int32)).toNatClampNeg), .ref 2], HH x σ)) rfl k1 ?_
  refine mm_go 4 (F' := (698, [some (.ref 1), some (.ref 2), some (.ref 37), some (.int i)], [.int (i + (2 : Int32)), .ref 1, .int (x.2 (i + (1 : Int32)).toNatClampNeg), .ref 2], HH x σ)) rfl ?_
  refine mm_gd (F' := (699, [some (.ref 1), some (.ref 2), some (.ref 37), some (.int i)], [.int (x.2 (i + (2 : Int32)).toNatClampNeg), .int (x.2 (i + (1 : Int32)).toNatClampNeg), .ref 2], HH x σ)) rfl k2 ?_
  refine mm_kl (z := 55) (as := [.ref 2, .int (x.2 (i + (1 : Int32)).toNatClampNeg), .int (x.2 (i + (2 : Int32)).toNatClampNeg)]) (S' := []) (L2 := [some (.ref 2), some (.int (x.2 (i + (1 : Int32)).toNatClampNeg)), some (.int (x.2 (i + (2 : Int32)).toNatClampNeg))]) (v := some (.int v1)) (h1 := HH x σ1) rfl rfl rfl rfl rfl (by omega) k3 ?_
  show mm_Runs d 158 (702, [some (.ref 1), some (.ref 2), some (.ref 37), some (.int i)], [.int v1], HH x σ1) r
  refine mm_go 5 (F' := (707, [some (.ref 1), some (.ref 2), some (.ref 37), some (.int i)], [.int (i + (1 : Int32)), .ref 1, .ref 37, .int v1], HH x σ1)) rfl ?_
  refine mm_gd (F' := (708, [some (.ref 1), some (.ref 2), some (.ref 37), some (.int i)], [.int (x.2 (i + (1 : Int32)).toNatClampNeg), .ref 37, .int v1], HH x σ1)) rfl k4 ?_
  refine mm_go 4 (F' := (712, [some (.ref 1), some (.ref 2), some (.ref 37), some (.int i)], [.int (i + (2 : Int32)), .ref 1, .int (x.2 (i + (1 : Int32)).toNatClampNeg), .ref 37, .int v1], HH x σ1)) rfl ?_
  refine mm_gd (F' := (713, [some (.ref 1), some (.ref 2), some (.ref 37), some (.int i)], [.int (x.2 (i + (2 : Int32)).toNatClampNeg), .int (x.2 (i + (1 : Int32)).toNatClampNeg), .ref 37, .int v1], HH x σ1)) rfl k5 ?_
  refine mm_kl (z := 137) (as := [.ref 37, .int (x.2 (i + (1 : Int32)).toNatClampNeg), .int (x.2 (i + (2 : Int32)).toNatClampNeg)]) (S' := [.int v1]) (L2 := [some (.ref 37), some (.int (x.2 (i + (1 : Int32)).toNatClampNeg)), some (.int (x.2 (i + (2 : Int32)).toNatClampNeg))]) (v := some (.int v2)) (h1 := HH x σ2) rfl rfl rfl rfl rfl (by omega) k6 ?_
  show mm_Runs d 158 (716, [some (.ref 1), some (.ref 2), some (.ref 37), some (.int i)], [.int v2, .int v1], HH x σ2) r
  refine mm_go 1 (F' := (bif mm_cond .eq v1 v2 then 1144 else 719, [some (.ref 1), some (.ref 2), some (.ref 37), some (.int i)], [], HH x σ2)) rfl ?_
  refine mb_eq (fun h1 => ?_) (fun h1 => ?_)
  · exact mm_wk (by exact (And.intro rfl (And.intro rfl (And.intro rfl (And.intro rfl True.intro))))) (k7 h1)
  · refine mm_go 1 (F' := (720, [some (.ref 1), some (.ref 2), some (.ref 37), some (.int i)], [.int (0 : Int32)], HH x σ2)) rfl ?_
    exact mm_rtz rfl rfl (Or.inl rfl) (k8 h1)
set_option maxRecDepth 100000 in
theorem vc_law_pull {d : Nat} {x : Nat × (Nat → Int32)} {σ : mm_S} {i : Int32} {v1 v2 : Int32} {σ1 σ2 : mm_S} {r : Option Value × mm_H} (hd : 1 ≤ d) (k1 : ¬ ((i + (1 : Int32)) < 0 ∨ x.1 ≤ (i + (1 : Int32)).toNatClampNeg)) (k2 : mm_Runs (d - 1) 56 (0, [some (.ref 2), some (.int (x.2 (i + (1 : Int32)).toNatClampNeg))], [], HH x σ) (some (.int v1), HH x σ1)) (k3 : ¬ ((i + (1 : Int32)) < 0 ∨ x.1 ≤ (i + (1 : Int32)).toNatClampNeg)) (k4 : mm_Runs (d - 1) 138 (0, [some (.ref 37), some (.int (x.2 (i + (1 : Int32)).toNatClampNeg))], [], HH x σ1) (some (.int v2), HH x σ2)) (k5 : v1 = v2 → mm_Runs d 158 (1144, [some (.ref 1), some (.ref 2), some (.ref 37), some (.int i)], [], HH x σ2) r) (k6 : ¬ v1 = v2 → (some (.int (0 : Int32)), HH x σ2) = r) : mm_Runs d 158 (721, [some (.ref 1), some (.ref 2), some (.ref 37), some (.int i)], [], HH x σ) r := by
  refine mm_go 5 (F' := (726, [some (.ref 1), some (.ref 2), some (.ref 37), some (.int i)], [.int (i + (1 : Int32)), .ref 1, .ref 2], HH x σ)) rfl ?_
  refine mm_gd (F' := (727, [some (.ref 1), some (.ref 2), some (.ref 37), some (.int i)], [.int (x.2 (i + (1 : Int32)).toNatClampNeg), .ref 2], HH x σ)) rfl k1 ?_
  refine mm_kl (z := 56) (as := [.ref 2, .int (x.2 (i + (1 : Int32)).toNatClampNeg)]) (S' := []) (L2 := [some (.ref 2), some (.int (x.2 (i + (1 : Int32)).toNatClampNeg))]) (v := some (.int v1)) (h1 := HH x σ1) rfl rfl rfl rfl rfl (by omega) k2 ?_
  show mm_Runs d 158 (730, [some (.ref 1), some (.ref 2), some (.ref 37), some (.int i)], [.int v1], HH x σ1) r
  refine mm_go 5 (F' := (735, [some (.ref 1), some (.ref 2), some (.ref 37), some (.int i)], [.int (i + (1 : Int32)), .ref 1, .ref 37, .int v1], HH x σ1)) rfl ?_
  refine mm_gd (F' := (736, [some (.ref 1), some (.ref 2), some (.ref 37), some (.int i)], [.int (x.2 (i + (1 : Int32)).toNatClampNeg), .ref 37, .int v1], HH x σ1)) rfl k3 ?_
  refine mm_kl (z := 138) (as := [.ref 37, .int (x.2 (i + (1 : Int32)).toNatClampNeg)]) (S' := [.int v1]) (L2 := [some (.ref 37), some (.int (x.2 (i + (1 : Int32)).toNatClampNeg))]) (v := some (.int v2)) (h1 := HH x σ2) rfl rfl rfl rfl rfl (by omega) k4 ?_
  show mm_Runs d 158 (739, [some (.ref 1), some (.ref 2), some (.ref 37), some (.int i)], [.int v2, .int v1], HH x σ2) r
  refine mm_go 1 (F' := (bif mm_cond .eq v1 v2 then 1144 else 742, [some (.ref 1), some (.ref 2), some (.ref 37), some (.int i)], [], HH x σ2)) rfl ?_
  refine mb_eq (fun h1 => ?_) (fun h1 => ?_)
  · exact mm_wk (by exact (And.intro rfl (And.intro rfl (And.intro rfl (And.intro rfl True.intro))))) (k5 h1)
  · refine mm_go 1 (F' := (743, [some (.ref 1), some (.ref 2), some (.ref 37), some (.int i)], [.int (0 : Int32)], HH x σ2)) rfl ?_
    exact mm_rtz rfl rfl (Or.inl rfl) (k6 h1)
set_option maxRecDepth 100000 in
theorem vc_law_fits {d : Nat} {x : Nat × (Nat → Int32)} {σ : mm_S} {i : Int32} {v1 v2 : Int32} {σ1 σ2 : mm_S} {r : Option Value × mm_H} (hd : 1 ≤ d) (k1 : ¬ ((i + (1 : Int32)) < 0 ∨ x.1 ≤ (i + (1 : Int32)).toNatClampNeg)) (k2 : ¬ ((i + (2 : Int32)) < 0 ∨ x.1 ≤ (i + (2 : Int32)).toNatClampNeg)) (k3 : mm_Runs (d - 1) 57 (0, [some (.ref 2), some (.int (x.2 (i + (1 : Int32)).toNatClampNeg)), some (.int (x.2 (i + (2 : Int32)).toNatClampNeg)), none, none, none], [], HH x σ) (some (.int v1), HH x σ1)) (k4 : ¬ ((i + (1 : Int32)) < 0 ∨ x.1 ≤ (i + (1 : Int32)).toNatClampNeg)) (k5 : ¬ ((i + (2 : Int32)) < 0 ∨ x.1 ≤ (i + (2 : Int32)).toNatClampNeg)) (k6 : mm_Runs (d - 1) 140 (0, [some (.ref 37), some (.int (x.2 (i + (1 : Int32)).toNatClampNeg)), some (.int (x.2 (i + (2 : Int32)).toNatClampNeg)), none, none, none], [], HH x σ1) (some (.int v2), HH x σ2)) (k7 : v1 = v2 → mm_Runs d 158 (1144, [some (.ref 1), some (.ref 2), some (.ref 37), some (.int i)], [], HH x σ2) r) (k8 : ¬ v1 = v2 → (some (.int (0 : Int32)), HH x σ2) = r) : mm_Runs d 158 (744, [some (.ref 1), some (.ref 2), some (.ref 37), some (.int i)], [], HH x σ) r := by
  refine mm_go 5 (F' := (749, [some (.ref 1), some (.ref 2), some (.ref 37), some (.int i)], [.int (i + (1 : Int32)), .ref 1, .ref 2], HH x σ)) rfl ?_
  refine mm_gd (F' := (750, [some (.ref 1), some (.ref 2), some (.ref 37), some (.int i)], [.int (x.2 (i + (1 : Int32)).toNatClampNeg), .ref 2], HH x σ)) rfl k1 ?_
  refine mm_go 4 (F' := (754, [some (.ref 1), some (.ref 2), some (.ref 37), some (.int i)], [.int (i + (2 : Int32)), .ref 1, .int (x.2 (i + (1 : Int32)).toNatClampNeg), .ref 2], HH x σ)) rfl ?_
  refine mm_gd (F' := (755, [some (.ref 1), some (.ref 2), some (.ref 37), some (.int i)], [.int (x.2 (i + (2 : Int32)).toNatClampNeg), .int (x.2 (i + (1 : Int32)).toNatClampNeg), .ref 2], HH x σ)) rfl k2 ?_
  refine mm_kl (z := 57) (as := [.ref 2, .int (x.2 (i + (1 : Int32)).toNatClampNeg), .int (x.2 (i + (2 : Int32)).toNatClampNeg)]) (S' := []) (L2 := [some (.ref 2), some (.int (x.2 (i + (1 : Int32)).toNatClampNeg)), some (.int (x.2 (i + (2 : Int32)).toNatClampNeg)), none, none, none]) (v := some (.int v1)) (h1 := HH x σ1) rfl rfl rfl rfl rfl (by omega) k3 ?_
  show mm_Runs d 158 (758, [some (.ref 1), some (.ref 2), some (.ref 37), some (.int i)], [.int v1], HH x σ1) r
  refine mm_go 5 (F' := (763, [some (.ref 1), some (.ref 2), some (.ref 37), some (.int i)], [.int (i + (1 : Int32)), .ref 1, .ref 37, .int v1], HH x σ1)) rfl ?_
  refine mm_gd (F' := (764, [some (.ref 1), some (.ref 2), some (.ref 37), some (.int i)], [.int (x.2 (i + (1 : Int32)).toNatClampNeg), .ref 37, .int v1], HH x σ1)) rfl k4 ?_
  refine mm_go 4 (F' := (768, [some (.ref 1), some (.ref 2), some (.ref 37), some (.int i)], [.int (i + (2 : Int32)), .ref 1, .int (x.2 (i + (1 : Int32)).toNatClampNeg), .ref 37, .int v1], HH x σ1)) rfl ?_
  refine mm_gd (F' := (769, [some (.ref 1), some (.ref 2), some (.ref 37), some (.int i)], [.int (x.2 (i + (2 : Int32)).toNatClampNeg), .int (x.2 (i + (1 : Int32)).toNatClampNeg), .ref 37, .int v1], HH x σ1)) rfl k5 ?_
  refine mm_kl (z := 140) (as := [.ref 37, .int (x.2 (i + (1 : Int32)).toNatClampNeg), .int (x.2 (i + (2 : Int32)).toNatClampNeg)]) (S' := [.int v1]) (L2 := [some (.ref 37), some (.int (x.2 (i + (1 : Int32)).toNatClampNeg)), some (.int (x.2 (i + (2 : Int32)).toNatClampNeg)), none, none, none]) (v := some (.int v2)) (h1 := HH x σ2) rfl rfl rfl rfl rfl (by omega) k6 ?_
  show mm_Runs d 158 (772, [some (.ref 1), some (.ref 2), some (.ref 37), some (.int i)], [.int v2, .int v1], HH x σ2) r
  refine mm_go 1 (F' := (bif mm_cond .eq v1 v2 then 1144 else 775, [some (.ref 1), some (.ref 2), some (.ref 37), some (.int i)], [], HH x σ2)) rfl ?_
  refine mb_eq (fun h1 => ?_) (fun h1 => ?_)
  · exact mm_wk (by exact (And.intro rfl (And.intro rfl (And.intro rfl (And.intro rfl True.intro))))) (k7 h1)
  · refine mm_go 1 (F' := (776, [some (.ref 1), some (.ref 2), some (.ref 37), some (.int i)], [.int (0 : Int32)], HH x σ2)) rfl ?_
    exact mm_rtz rfl rfl (Or.inl rfl) (k8 h1)
set_option maxRecDepth 100000 in
theorem vc_law_dig {d : Nat} {x : Nat × (Nat → Int32)} {σ : mm_S} {i : Int32} {v1 v2 : Int32} {σ1 σ2 : mm_S} {r : Option Value × mm_H} (hd : 1 ≤ d) (k1 : ¬ ((i + (1 : Int32)) < 0 ∨ x.1 ≤ (i + (1 : Int32)).toNatClampNeg)) (k2 : mm_Runs (d - 1) 58 (0, [some (.ref 2), some (.int (x.2 (i + (1 : Int32)).toNatClampNeg)), none, none, none, none], [], HH x σ) (some (.int v1), HH x σ1)) (k3 : ¬ ((i + (1 : Int32)) < 0 ∨ x.1 ≤ (i + (1 : Int32)).toNatClampNeg)) (k4 : mm_Runs (d - 1) 141 (0, [some (.ref 37), some (.int (x.2 (i + (1 : Int32)).toNatClampNeg)), none, none, none, none], [], HH x σ1) (some (.int v2), HH x σ2)) (k5 : v1 = v2 → mm_Runs d 158 (1144, [some (.ref 1), some (.ref 2), some (.ref 37), some (.int i)], [], HH x σ2) r) (k6 : ¬ v1 = v2 → (some (.int (0 : Int32)), HH x σ2) = r) : mm_Runs d 158 (777, [some (.ref 1), some (.ref 2), some (.ref 37), some (.int i)], [], HH x σ) r := by
  refine mm_go 5 (F' := (782, [some (.ref 1), some (.ref 2), some (.ref 37), some (.int i)], [.int (i + (1 : Int32)), .ref 1, .ref 2], HH x σ)) rfl ?_
  refine mm_gd (F' := (783, [some (.ref 1), some (.ref 2), some (.ref 37), some (.int i)], [.int (x.2 (i + (1 : Int32)).toNatClampNeg), .ref 2], HH x σ)) rfl k1 ?_
  refine mm_kl (z := 58) (as := [.ref 2, .int (x.2 (i + (1 : Int32)).toNatClampNeg)]) (S' := []) (L2 := [some (.ref 2), some (.int (x.2 (i + (1 : Int32)).toNatClampNeg)), none, none, none, none]) (v := some (.int v1)) (h1 := HH x σ1) rfl rfl rfl rfl rfl (by omega) k2 ?_
  show mm_Runs d 158 (786, [some (.ref 1), some (.ref 2), some (.ref 37), some (.int i)], [.int v1], HH x σ1) r
  refine mm_go 5 (F' := (791, [some (.ref 1), some (.ref 2), some (.ref 37), some (.int i)], [.int (i + (1 : Int32)), .ref 1, .ref 37, .int v1], HH x σ1)) rfl ?_
  refine mm_gd (F' := (792, [some (.ref 1), some (.ref 2), some (.ref 37), some (.int i)], [.int (x.2 (i + (1 : Int32)).toNatClampNeg), .ref 37, .int v1], HH x σ1)) rfl k3 ?_
  refine mm_kl (z := 141) (as := [.ref 37, .int (x.2 (i + (1 : Int32)).toNatClampNeg)]) (S' := [.int v1]) (L2 := [some (.ref 37), some (.int (x.2 (i + (1 : Int32)).toNatClampNeg)), none, none, none, none]) (v := some (.int v2)) (h1 := HH x σ2) rfl rfl rfl rfl rfl (by omega) k4 ?_
  show mm_Runs d 158 (795, [some (.ref 1), some (.ref 2), some (.ref 37), some (.int i)], [.int v2, .int v1], HH x σ2) r
  refine mm_go 1 (F' := (bif mm_cond .eq v1 v2 then 1144 else 798, [some (.ref 1), some (.ref 2), some (.ref 37), some (.int i)], [], HH x σ2)) rfl ?_
  refine mb_eq (fun h1 => ?_) (fun h1 => ?_)
  · exact mm_wk (by exact (And.intro rfl (And.intro rfl (And.intro rfl (And.intro rfl True.intro))))) (k5 h1)
  · refine mm_go 1 (F' := (799, [some (.ref 1), some (.ref 2), some (.ref 37), some (.int i)], [.int (0 : Int32)], HH x σ2)) rfl ?_
    exact mm_rtz rfl rfl (Or.inl rfl) (k6 h1)
set_option maxRecDepth 100000 in
theorem vc_law_sheet {d : Nat} {x : Nat × (Nat → Int32)} {σ : mm_S} {i : Int32} {v1 v2 : Int32} {σ1 σ2 : mm_S} {r : Option Value × mm_H} (hd : 1 ≤ d) (k1 : ¬ ((i + (1 : Int32)) < 0 ∨ x.1 ≤ (i + (1 : Int32)).toNatClampNeg)) (k2 : ¬ ((i + (2 : Int32)) < 0 ∨ x.1 ≤ (i + (2 : Int32)).toNatClampNeg)) (k3 : ¬ ((i + (3 : Int32)) < 0 ∨ x.1 ≤ (i + (3 : Int32)).toNatClampNeg)) (k4 : mm_Runs (d - 1) 59 (0, [some (.ref 2), some (.int (x.2 (i + (1 : Int32)).toNatClampNeg)), some (.int (x.2 (i + (2 : Int32)).toNatClampNeg)), some (.int (x.2 (i + (3 : Int32)).toNatClampNeg))], [], HH x σ) (some (.int v1), HH x σ1)) (k5 : ¬ ((i + (1 : Int32)) < 0 ∨ x.1 ≤ (i + (1 : Int32)).toNatClampNeg)) (k6 : ¬ ((i + (2 : Int32)) < 0 ∨ x.1 ≤ (i + (2 : Int32)).toNatClampNeg)) (k7 : ¬ ((i + (3 : Int32)) < 0 ∨ x.1 ≤ (i + (3 : Int32)).toNatClampNeg)) (k8 : mm_Runs (d - 1) 142 (0, [some (.ref 37), some (.int (x.2 (i + (1 : Int32)).toNatClampNeg)), some (.int (x.2 (i + (2 : Int32)).toNatClampNeg)), some (.int (x.2 (i + (3 : Int32)).toNatClampNeg)), none], [], HH x σ1) (some (.int v2), HH x σ2)) (k9 : v1 = v2 → mm_Runs d 158 (1144, [some (.ref 1), some (.ref 2), some (.ref 37), some (.int i)], [], HH x σ2) r) (k10 : ¬ v1 = v2 → (some (.int (0 : Int32)), HH x σ2) = r) : mm_Runs d 158 (800, [some (.ref 1), some (.ref 2), some (.ref 37), some (.int i)], [], HH x σ) r := by
  refine mm_go 5 (F' := (805, [some (.ref 1), some (.ref 2), some (.ref 37), some (.int i)], [.int (i + (1 : Int32)), .ref 1, .ref 2], HH x σ)) rfl ?_
  refine mm_gd (F' := (806, [some (.ref 1), some (.ref 2), some (.ref 37), some (.int i)], [.int (x.2 (i + (1 : Int32)).toNatClampNeg), .ref 2], HH x σ)) rfl k1 ?_
  refine mm_go 4 (F' := (810, [some (.ref 1), some (.ref 2), some (.ref 37), some (.int i)], [.int (i + (2 : Int32)), .ref 1, .int (x.2 (i + (1 : Int32)).toNatClampNeg), .ref 2], HH x σ)) rfl ?_
  refine mm_gd (F' := (811, [some (.ref 1), some (.ref 2), some (.ref 37), some (.int i)], [.int (x.2 (i + (2 : Int32)).toNatClampNeg), .int (x.2 (i + (1 : Int32)).toNatClampNeg), .ref 2], HH x σ)) rfl k2 ?_
  refine mm_go 4 (F' := (815, [some (.ref 1), some (.ref 2), some (.ref 37), some (.int i)], [.int (i + (3 : Int32)), .ref 1, .int (x.2 (i + (2 : Int32)).toNatClampNeg), .int (x.2 (i + (1 : Int32)).toNatClampNeg), .ref 2], HH x σ)) rfl ?_
  refine mm_gd (F' := (816, [some (.ref 1), some (.ref 2), some (.ref 37), some (.int i)], [.int (x.2 (i + (3 : Int32)).toNatClampNeg), .int (x.2 (i + (2 : Int32)).toNatClampNeg), .int (x.2 (i + (1 : Int32)).toNatClampNeg), .ref 2], HH x σ)) rfl k3 ?_
  refine mm_kl (z := 59) (as := [.ref 2, .int (x.2 (i + (1 : Int32)).toNatClampNeg), .int (x.2 (i + (2 : Int32)).toNatClampNeg), .int (x.2 (i + (3 : Int32)).toNatClampNeg)]) (S' := []) (L2 := [some (.ref 2), some (.int (x.2 (i + (1 : Int32)).toNatClampNeg)), some (.int (x.2 (i + (2 : Int32)).toNatClampNeg)), some (.int (x.2 (i + (3 : Int32)).toNatClampNeg))]) (v := some (.int v1)) (h1 := HH x σ1) rfl rfl rfl rfl rfl (by omega) k4 ?_
  show mm_Runs d 158 (819, [some (.ref 1), some (.ref 2), some (.ref 37), some (.int i)], [.int v1], HH x σ1) r
  refine mm_go 5 (F' := (824, [some (.ref 1), some (.ref 2), some (.ref 37), some (.int i)], [.int (i + (1 : Int32)), .ref 1, .ref 37, .int v1], HH x σ1)) rfl ?_
  refine mm_gd (F' := (825, [some (.ref 1), some (.ref 2), some (.ref 37), some (.int i)], [.int (x.2 (i + (1 : Int32)).toNatClampNeg), .ref 37, .int v1], HH x σ1)) rfl k5 ?_
  refine mm_go 4 (F' := (829, [some (.ref 1), some (.ref 2), some (.ref 37), some (.int i)], [.int (i + (2 : Int32)), .ref 1, .int (x.2 (i + (1 : Int32)).toNatClampNeg), .ref 37, .int v1], HH x σ1)) rfl ?_
  refine mm_gd (F' := (830, [some (.ref 1), some (.ref 2), some (.ref 37), some (.int i)], [.int (x.2 (i + (2 : Int32)).toNatClampNeg), .int (x.2 (i + (1 : Int32)).toNatClampNeg), .ref 37, .int v1], HH x σ1)) rfl k6 ?_
  refine mm_go 4 (F' := (834, [some (.ref 1), some (.ref 2), some (.ref 37), some (.int i)], [.int (i + (3 : Int32)), .ref 1, .int (x.2 (i + (2 : Int32)).toNatClampNeg), .int (x.2 (i + (1 : Int32)).toNatClampNeg), .ref 37, .int v1], HH x σ1)) rfl ?_
  refine mm_gd (F' := (835, [some (.ref 1), some (.ref 2), some (.ref 37), some (.int i)], [.int (x.2 (i + (3 : Int32)).toNatClampNeg), .int (x.2 (i + (2 : Int32)).toNatClampNeg), .int (x.2 (i + (1 : Int32)).toNatClampNeg), .ref 37, .int v1], HH x σ1)) rfl k7 ?_
  refine mm_kl (z := 142) (as := [.ref 37, .int (x.2 (i + (1 : Int32)).toNatClampNeg), .int (x.2 (i + (2 : Int32)).toNatClampNeg), .int (x.2 (i + (3 : Int32)).toNatClampNeg)]) (S' := [.int v1]) (L2 := [some (.ref 37), some (.int (x.2 (i + (1 : Int32)).toNatClampNeg)), some (.int (x.2 (i + (2 : Int32)).toNatClampNeg)), some (.int (x.2 (i + (3 : Int32)).toNatClampNeg)), none]) (v := some (.int v2)) (h1 := HH x σ2) rfl rfl rfl rfl rfl (by omega) k8 ?_
  show mm_Runs d 158 (838, [some (.ref 1), some (.ref 2), some (.ref 37), some (.int i)], [.int v2, .int v1], HH x σ2) r
  refine mm_go 1 (F' := (bif mm_cond .eq v1 v2 then 1144 else 841, [some (.ref 1), some (.ref 2), some (.ref 37), some (.int i)], [], HH x σ2)) rfl ?_
  refine mb_eq (fun h1 => ?_) (fun h1 => ?_)
  · exact mm_wk (by exact (And.intro rfl (And.intro rfl (And.intro rfl (And.intro rfl True.intro))))) (k9 h1)
  · refine mm_go 1 (F' := (842, [some (.ref 1), some (.ref 2), some (.ref 37), some (.int i)], [.int (0 : Int32)], HH x σ2)) rfl ?_
    exact mm_rtz rfl rfl (Or.inl rfl) (k10 h1)
set_option maxRecDepth 100000 in
theorem vc_law_lose {d : Nat} {x : Nat × (Nat → Int32)} {σ : mm_S} {i : Int32} {v1 v2 : Int32} {σ1 σ2 : mm_S} {r : Option Value × mm_H} (hd : 1 ≤ d) (k1 : ¬ ((i + (1 : Int32)) < 0 ∨ x.1 ≤ (i + (1 : Int32)).toNatClampNeg)) (k2 : mm_Runs (d - 1) 60 (0, [some (.ref 2), some (.int (x.2 (i + (1 : Int32)).toNatClampNeg)), none], [], HH x σ) (some (.int v1), HH x σ1)) (k3 : ¬ ((i + (1 : Int32)) < 0 ∨ x.1 ≤ (i + (1 : Int32)).toNatClampNeg)) (k4 : mm_Runs (d - 1) 143 (0, [some (.ref 37), some (.int (x.2 (i + (1 : Int32)).toNatClampNeg)), none], [], HH x σ1) (some (.int v2), HH x σ2)) (k5 : v1 = v2 → mm_Runs d 158 (1144, [some (.ref 1), some (.ref 2), some (.ref 37), some (.int i)], [], HH x σ2) r) (k6 : ¬ v1 = v2 → (some (.int (0 : Int32)), HH x σ2) = r) : mm_Runs d 158 (843, [some (.ref 1), some (.ref 2), some (.ref 37), some (.int i)], [], HH x σ) r := by
  refine mm_go 5 (F' := (848, [some (.ref 1), some (.ref 2), some (.ref 37), some (.int i)], [.int (i + (1 : Int32)), .ref 1, .ref 2], HH x σ)) rfl ?_
  refine mm_gd (F' := (849, [some (.ref 1), some (.ref 2), some (.ref 37), some (.int i)], [.int (x.2 (i + (1 : Int32)).toNatClampNeg), .ref 2], HH x σ)) rfl k1 ?_
  refine mm_kl (z := 60) (as := [.ref 2, .int (x.2 (i + (1 : Int32)).toNatClampNeg)]) (S' := []) (L2 := [some (.ref 2), some (.int (x.2 (i + (1 : Int32)).toNatClampNeg)), none]) (v := some (.int v1)) (h1 := HH x σ1) rfl rfl rfl rfl rfl (by omega) k2 ?_
  show mm_Runs d 158 (852, [some (.ref 1), some (.ref 2), some (.ref 37), some (.int i)], [.int v1], HH x σ1) r
  refine mm_go 5 (F' := (857, [some (.ref 1), some (.ref 2), some (.ref 37), some (.int i)], [.int (i + (1 : Int32)), .ref 1, .ref 37, .int v1], HH x σ1)) rfl ?_
  refine mm_gd (F' := (858, [some (.ref 1), some (.ref 2), some (.ref 37), some (.int i)], [.int (x.2 (i + (1 : Int32)).toNatClampNeg), .ref 37, .int v1], HH x σ1)) rfl k3 ?_
  refine mm_kl (z := 143) (as := [.ref 37, .int (x.2 (i + (1 : Int32)).toNatClampNeg)]) (S' := [.int v1]) (L2 := [some (.ref 37), some (.int (x.2 (i + (1 : Int32)).toNatClampNeg)), none]) (v := some (.int v2)) (h1 := HH x σ2) rfl rfl rfl rfl rfl (by omega) k4 ?_
  show mm_Runs d 158 (861, [some (.ref 1), some (.ref 2), some (.ref 37), some (.int i)], [.int v2, .int v1], HH x σ2) r
  refine mm_go 1 (F' := (bif mm_cond .eq v1 v2 then 1144 else 864, [some (.ref 1), some (.ref 2), some (.ref 37), some (.int i)], [], HH x σ2)) rfl ?_
  refine mb_eq (fun h1 => ?_) (fun h1 => ?_)
  · exact mm_wk (by exact (And.intro rfl (And.intro rfl (And.intro rfl (And.intro rfl True.intro))))) (k5 h1)
  · refine mm_go 1 (F' := (865, [some (.ref 1), some (.ref 2), some (.ref 37), some (.int i)], [.int (0 : Int32)], HH x σ2)) rfl ?_
    exact mm_rtz rfl rfl (Or.inl rfl) (k6 h1)
set_option maxRecDepth 100000 in
theorem vc_law_put {d : Nat} {x : Nat × (Nat → Int32)} {σ : mm_S} {i : Int32} {v1 v2 : Int32} {σ1 σ2 : mm_S} {r : Option Value × mm_H} (hd : 1 ≤ d) (k1 : ¬ ((i + (1 : Int32)) < 0 ∨ x.1 ≤ (i + (1 : Int32)).toNatClampNeg)) (k2 : ¬ ((i + (2 : Int32)) < 0 ∨ x.1 ≤ (i + (2 : Int32)).toNatClampNeg)) (k3 : ¬ ((i + (3 : Int32)) < 0 ∨ x.1 ≤ (i + (3 : Int32)).toNatClampNeg)) (k4 : mm_Runs (d - 1) 61 (0, [some (.ref 2), some (.int (x.2 (i + (1 : Int32)).toNatClampNeg)), some (.int (x.2 (i + (2 : Int32)).toNatClampNeg)), some (.int (x.2 (i + (3 : Int32)).toNatClampNeg))], [], HH x σ) (some (.int v1), HH x σ1)) (k5 : ¬ ((i + (1 : Int32)) < 0 ∨ x.1 ≤ (i + (1 : Int32)).toNatClampNeg)) (k6 : ¬ ((i + (2 : Int32)) < 0 ∨ x.1 ≤ (i + (2 : Int32)).toNatClampNeg)) (k7 : ¬ ((i + (3 : Int32)) < 0 ∨ x.1 ≤ (i + (3 : Int32)).toNatClampNeg)) (k8 : mm_Runs (d - 1) 144 (0, [some (.ref 37), some (.int (x.2 (i + (1 : Int32)).toNatClampNeg)), some (.int (x.2 (i + (2 : Int32)).toNatClampNeg)), some (.int (x.2 (i + (3 : Int32)).toNatClampNeg))], [], HH x σ1) (some (.int v2), HH x σ2)) (k9 : v1 = v2 → mm_Runs d 158 (1144, [some (.ref 1), some (.ref 2), some (.ref 37), some (.int i)], [], HH x σ2) r) (k10 : ¬ v1 = v2 → (some (.int (0 : Int32)), HH x σ2) = r) : mm_Runs d 158 (866, [some (.ref 1), some (.ref 2), some (.ref 37), some (.int i)], [], HH x σ) r := by
  refine mm_go 5 (F' := (871, [some (.ref 1), some (.ref 2), some (.ref 37), some (.int i)], [.int (i + (1 : Int32)), .ref 1, .ref 2], HH x σ)) rfl ?_
  refine mm_gd (F' := (872, [some (.ref 1), some (.ref 2), some (.ref 37), some (.int i)], [.int (x.2 (i + (1 : Int32)).toNatClampNeg), .ref 2], HH x σ)) rfl k1 ?_
  refine mm_go 4 (F' := (876, [some (.ref 1), some (.ref 2), some (.ref 37), some (.int i)], [.int (i + (2 : Int32)), .ref 1, .int (x.2 (i + (1 : Int32)).toNatClampNeg), .ref 2], HH x σ)) rfl ?_
  refine mm_gd (F' := (877, [some (.ref 1), some (.ref 2), some (.ref 37), some (.int i)], [.int (x.2 (i + (2 : Int32)).toNatClampNeg), .int (x.2 (i + (1 : Int32)).toNatClampNeg), .ref 2], HH x σ)) rfl k2 ?_
  refine mm_go 4 (F' := (881, [some (.ref 1), some (.ref 2), some (.ref 37), some (.int i)], [.int (i + (3 : Int32)), .ref 1, .int (x.2 (i + (2 : Int32)).toNatClampNeg), .int (x.2 (i + (1 : Int32)).toNatClampNeg), .ref 2], HH x σ)) rfl ?_
  refine mm_gd (F' := (882, [some (.ref 1), some (.ref 2), some (.ref 37), some (.int i)], [.int (x.2 (i + (3 : Int32)).toNatClampNeg), .int (x.2 (i + (2 : Int32)).toNatClampNeg), .int (x.2 (i + (1 : Int32)).toNatClampNeg), .ref 2], HH x σ)) rfl k3 ?_
  refine mm_kl (z := 61) (as := [.ref 2, .int (x.2 (i + (1 : Int32)).toNatClampNeg), .int (x.2 (i + (2 : Int32)).toNatClampNeg), .int (x.2 (i + (3 : Int32)).toNatClampNeg)]) (S' := []) (L2 := [some (.ref 2), some (.int (x.2 (i + (1 : Int32)).toNatClampNeg)), some (.int (x.2 (i + (2 : Int32)).toNatClampNeg)), some (.int (x.2 (i + (3 : Int32)).toNatClampNeg))]) (v := some (.int v1)) (h1 := HH x σ1) rfl rfl rfl rfl rfl (by omega) k4 ?_
  show mm_Runs d 158 (885, [some (.ref 1), some (.ref 2), some (.ref 37), some (.int i)], [.int v1], HH x σ1) r
  refine mm_go 5 (F' := (890, [some (.ref 1), some (.ref 2), some (.ref 37), some (.int i)], [.int (i + (1 : Int32)), .ref 1, .ref 37, .int v1], HH x σ1)) rfl ?_
  refine mm_gd (F' := (891, [some (.ref 1), some (.ref 2), some (.ref 37), some (.int i)], [.int (x.2 (i + (1 : Int32)).toNatClampNeg), .ref 37, .int v1], HH x σ1)) rfl k5 ?_
  refine mm_go 4 (F' := (895, [some (.ref 1), some (.ref 2), some (.ref 37), some (.int i)], [.int (i + (2 : Int32)), .ref 1, .int (x.2 (i + (1 : Int32)).toNatClampNeg), .ref 37, .int v1], HH x σ1)) rfl ?_
  refine mm_gd (F' := (896, [some (.ref 1), some (.ref 2), some (.ref 37), some (.int i)], [.int (x.2 (i + (2 : Int32)).toNatClampNeg), .int (x.2 (i + (1 : Int32)).toNatClampNeg), .ref 37, .int v1], HH x σ1)) rfl k6 ?_
  refine mm_go 4 (F' := (900, [some (.ref 1), some (.ref 2), some (.ref 37), some (.int i)], [.int (i + (3 : Int32)), .ref 1, .int (x.2 (i + (2 : Int32)).toNatClampNeg), .int (x.2 (i + (1 : Int32)).toNatClampNeg), .ref 37, .int v1], HH x σ1)) rfl ?_
  refine mm_gd (F' := (901, [some (.ref 1), some (.ref 2), some (.ref 37), some (.int i)], [.int (x.2 (i + (3 : Int32)).toNatClampNeg), .int (x.2 (i + (2 : Int32)).toNatClampNeg), .int (x.2 (i + (1 : Int32)).toNatClampNeg), .ref 37, .int v1], HH x σ1)) rfl k7 ?_
  refine mm_kl (z := 144) (as := [.ref 37, .int (x.2 (i + (1 : Int32)).toNatClampNeg), .int (x.2 (i + (2 : Int32)).toNatClampNeg), .int (x.2 (i + (3 : Int32)).toNatClampNeg)]) (S' := [.int v1]) (L2 := [some (.ref 37), some (.int (x.2 (i + (1 : Int32)).toNatClampNeg)), some (.int (x.2 (i + (2 : Int32)).toNatClampNeg)), some (.int (x.2 (i + (3 : Int32)).toNatClampNeg))]) (v := some (.int v2)) (h1 := HH x σ2) rfl rfl rfl rfl rfl (by omega) k8 ?_
  show mm_Runs d 158 (904, [some (.ref 1), some (.ref 2), some (.ref 37), some (.int i)], [.int v2, .int v1], HH x σ2) r
  refine mm_go 1 (F' := (bif mm_cond .eq v1 v2 then 1144 else 907, [some (.ref 1), some (.ref 2), some (.ref 37), some (.int i)], [], HH x σ2)) rfl ?_
  refine mb_eq (fun h1 => ?_) (fun h1 => ?_)
  · exact mm_wk (by exact (And.intro rfl (And.intro rfl (And.intro rfl (And.intro rfl True.intro))))) (k9 h1)
  · refine mm_go 1 (F' := (908, [some (.ref 1), some (.ref 2), some (.ref 37), some (.int i)], [.int (0 : Int32)], HH x σ2)) rfl ?_
    exact mm_rtz rfl rfl (Or.inl rfl) (k10 h1)
set_option maxRecDepth 100000 in
theorem vc_law_cell {d : Nat} {x : Nat × (Nat → Int32)} {σ : mm_S} {i : Int32} {v1 v2 : Int64} {σ1 σ2 : mm_S} {r : Option Value × mm_H} (hd : 1 ≤ d) (k1 : ¬ ((i + (1 : Int32)) < 0 ∨ x.1 ≤ (i + (1 : Int32)).toNatClampNeg)) (k2 : ¬ ((i + (2 : Int32)) < 0 ∨ x.1 ≤ (i + (2 : Int32)).toNatClampNeg)) (k3 : ¬ ((i + (3 : Int32)) < 0 ∨ x.1 ≤ (i + (3 : Int32)).toNatClampNeg)) (k4 : mm_Runs (d - 1) 62 (0, [some (.ref 2), some (.int (x.2 (i + (1 : Int32)).toNatClampNeg)), some (.int (x.2 (i + (2 : Int32)).toNatClampNeg)), some (.int (x.2 (i + (3 : Int32)).toNatClampNeg)), none], [], HH x σ) (some (.long v1), HH x σ1)) (k5 : ¬ ((i + (1 : Int32)) < 0 ∨ x.1 ≤ (i + (1 : Int32)).toNatClampNeg)) (k6 : ¬ ((i + (2 : Int32)) < 0 ∨ x.1 ≤ (i + (2 : Int32)).toNatClampNeg)) (k7 : ¬ ((i + (3 : Int32)) < 0 ∨ x.1 ≤ (i + (3 : Int32)).toNatClampNeg)) (k8 : mm_Runs (d - 1) 145 (0, [some (.ref 37), some (.int (x.2 (i + (1 : Int32)).toNatClampNeg)), some (.int (x.2 (i + (2 : Int32)).toNatClampNeg)), some (.int (x.2 (i + (3 : Int32)).toNatClampNeg))], [], HH x σ1) (some (.long v2), HH x σ2)) (k9 : v1 = v2 → mm_Runs d 158 (1144, [some (.ref 1), some (.ref 2), some (.ref 37), some (.int i)], [], HH x σ2) r) (k10 : ¬ v1 = v2 → (some (.int (0 : Int32)), HH x σ2) = r) : mm_Runs d 158 (909, [some (.ref 1), some (.ref 2), some (.ref 37), some (.int i)], [], HH x σ) r := by
  refine mm_go 5 (F' := (914, [some (.ref 1), some (.ref 2), some (.ref 37), some (.int i)], [.int (i + (1 : Int32)), .ref 1, .ref 2], HH x σ)) rfl ?_
  refine mm_gd (F' := (915, [some (.ref 1), some (.ref 2), some (.ref 37), some (.int i)], [.int (x.2 (i + (1 : Int32)).toNatClampNeg), .ref 2], HH x σ)) rfl k1 ?_
  refine mm_go 4 (F' := (919, [some (.ref 1), some (.ref 2), some (.ref 37), some (.int i)], [.int (i + (2 : Int32)), .ref 1, .int (x.2 (i + (1 : Int32)).toNatClampNeg), .ref 2], HH x σ)) rfl ?_
  refine mm_gd (F' := (920, [some (.ref 1), some (.ref 2), some (.ref 37), some (.int i)], [.int (x.2 (i + (2 : Int32)).toNatClampNeg), .int (x.2 (i + (1 : Int32)).toNatClampNeg), .ref 2], HH x σ)) rfl k2 ?_
  refine mm_go 4 (F' := (924, [some (.ref 1), some (.ref 2), some (.ref 37), some (.int i)], [.int (i + (3 : Int32)), .ref 1, .int (x.2 (i + (2 : Int32)).toNatClampNeg), .int (x.2 (i + (1 : Int32)).toNatClampNeg), .ref 2], HH x σ)) rfl ?_
  refine mm_gd (F' := (925, [some (.ref 1), some (.ref 2), some (.ref 37), some (.int i)], [.int (x.2 (i + (3 : Int32)).toNatClampNeg), .int (x.2 (i + (2 : Int32)).toNatClampNeg), .int (x.2 (i + (1 : Int32)).toNatClampNeg), .ref 2], HH x σ)) rfl k3 ?_
  refine mm_kl (z := 62) (as := [.ref 2, .int (x.2 (i + (1 : Int32)).toNatClampNeg), .int (x.2 (i + (2 : Int32)).toNatClampNeg), .int (x.2 (i + (3 : Int32)).toNatClampNeg)]) (S' := []) (L2 := [some (.ref 2), some (.int (x.2 (i + (1 : Int32)).toNatClampNeg)), some (.int (x.2 (i + (2 : Int32)).toNatClampNeg)), some (.int (x.2 (i + (3 : Int32)).toNatClampNeg)), none]) (v := some (.long v1)) (h1 := HH x σ1) rfl rfl rfl rfl rfl (by omega) k4 ?_
  show mm_Runs d 158 (928, [some (.ref 1), some (.ref 2), some (.ref 37), some (.int i)], [.long v1], HH x σ1) r
  refine mm_go 5 (F' := (933, [some (.ref 1), some (.ref 2), some (.ref 37), some (.int i)], [.int (i + (1 : Int32)), .ref 1, .ref 37, .long v1], HH x σ1)) rfl ?_
  refine mm_gd (F' := (934, [some (.ref 1), some (.ref 2), some (.ref 37), some (.int i)], [.int (x.2 (i + (1 : Int32)).toNatClampNeg), .ref 37, .long v1], HH x σ1)) rfl k5 ?_
  refine mm_go 4 (F' := (938, [some (.ref 1), some (.ref 2), some (.ref 37), some (.int i)], [.int (i + (2 : Int32)), .ref 1, .int (x.2 (i + (1 : Int32)).toNatClampNeg), .ref 37, .long v1], HH x σ1)) rfl ?_
  refine mm_gd (F' := (939, [some (.ref 1), some (.ref 2), some (.ref 37), some (.int i)], [.int (x.2 (i + (2 : Int32)).toNatClampNeg), .int (x.2 (i + (1 : Int32)).toNatClampNeg), .ref 37, .long v1], HH x σ1)) rfl k6 ?_
  refine mm_go 4 (F' := (943, [some (.ref 1), some (.ref 2), some (.ref 37), some (.int i)], [.int (i + (3 : Int32)), .ref 1, .int (x.2 (i + (2 : Int32)).toNatClampNeg), .int (x.2 (i + (1 : Int32)).toNatClampNeg), .ref 37, .long v1], HH x σ1)) rfl ?_
  refine mm_gd (F' := (944, [some (.ref 1), some (.ref 2), some (.ref 37), some (.int i)], [.int (x.2 (i + (3 : Int32)).toNatClampNeg), .int (x.2 (i + (2 : Int32)).toNatClampNeg), .int (x.2 (i + (1 : Int32)).toNatClampNeg), .ref 37, .long v1], HH x σ1)) rfl k7 ?_
  refine mm_kl (z := 145) (as := [.ref 37, .int (x.2 (i + (1 : Int32)).toNatClampNeg), .int (x.2 (i + (2 : Int32)).toNatClampNeg), .int (x.2 (i + (3 : Int32)).toNatClampNeg)]) (S' := [.long v1]) (L2 := [some (.ref 37), some (.int (x.2 (i + (1 : Int32)).toNatClampNeg)), some (.int (x.2 (i + (2 : Int32)).toNatClampNeg)), some (.int (x.2 (i + (3 : Int32)).toNatClampNeg))]) (v := some (.long v2)) (h1 := HH x σ2) rfl rfl rfl rfl rfl (by omega) k8 ?_
  show mm_Runs d 158 (947, [some (.ref 1), some (.ref 2), some (.ref 37), some (.int i)], [.long v2, .long v1], HH x σ2) r
  refine mm_go 2 (F' := (bif mm_cond .eq (lg_cmp v1 v2) 0 then 1144 else 951, [some (.ref 1), some (.ref 2), some (.ref 37), some (.int i)], [], HH x σ2)) rfl ?_
  refine mb_leq (fun h1 => ?_) (fun h1 => ?_)
  · exact mm_wk (by exact (And.intro rfl (And.intro rfl (And.intro rfl (And.intro rfl True.intro))))) (k9 h1)
  · refine mm_go 1 (F' := (952, [some (.ref 1), some (.ref 2), some (.ref 37), some (.int i)], [.int (0 : Int32)], HH x σ2)) rfl ?_
    exact mm_rtz rfl rfl (Or.inl rfl) (k10 h1)
set_option maxRecDepth 100000 in
theorem vc_law_copy {d : Nat} {x : Nat × (Nat → Int32)} {σ : mm_S} {i : Int32} {v1 v2 : Int32} {σ1 σ2 : mm_S} {r : Option Value × mm_H} (hd : 1 ≤ d) (k1 : ¬ ((i + (1 : Int32)) < 0 ∨ x.1 ≤ (i + (1 : Int32)).toNatClampNeg)) (k2 : ¬ ((i + (2 : Int32)) < 0 ∨ x.1 ≤ (i + (2 : Int32)).toNatClampNeg)) (k3 : ¬ ((i + (3 : Int32)) < 0 ∨ x.1 ≤ (i + (3 : Int32)).toNatClampNeg)) (k4 : ¬ ((i + (4 : Int32)) < 0 ∨ x.1 ≤ (i + (4 : Int32)).toNatClampNeg)) (k5 : ¬ ((i + (5 : Int32)) < 0 ∨ x.1 ≤ (i + (5 : Int32)).toNatClampNeg)) (k6 : mm_Runs (d - 1) 63 (0, [some (.ref 2), some (.int (x.2 (i + (1 : Int32)).toNatClampNeg)), some (.int (x.2 (i + (2 : Int32)).toNatClampNeg)), some (.int (x.2 (i + (3 : Int32)).toNatClampNeg)), some (.int (x.2 (i + (4 : Int32)).toNatClampNeg)), some (.int (x.2 (i + (5 : Int32)).toNatClampNeg)), none, none], [], HH x σ) (some (.int v1), HH x σ1)) (k7 : ¬ ((i + (1 : Int32)) < 0 ∨ x.1 ≤ (i + (1 : Int32)).toNatClampNeg)) (k8 : ¬ ((i + (2 : Int32)) < 0 ∨ x.1 ≤ (i + (2 : Int32)).toNatClampNeg)) (k9 : ¬ ((i + (3 : Int32)) < 0 ∨ x.1 ≤ (i + (3 : Int32)).toNatClampNeg)) (k10 : ¬ ((i + (4 : Int32)) < 0 ∨ x.1 ≤ (i + (4 : Int32)).toNatClampNeg)) (k11 : ¬ ((i + (5 : Int32)) < 0 ∨ x.1 ≤ (i + (5 : Int32)).toNatClampNeg)) (k12 : mm_Runs (d - 1) 146 (0, [some (.ref 37), some (.int (x.2 (i + (1 : Int32)).toNatClampNeg)), some (.int (x.2 (i + (2 : Int32)).toNatClampNeg)), some (.int (x.2 (i + (3 : Int32)).toNatClampNeg)), some (.int (x.2 (i + (4 : Int32)).toNatClampNeg)), some (.int (x.2 (i + (5 : Int32)).toNatClampNeg)), none, none, none, none], [], HH x σ1) (some (.int v2), HH x σ2)) (k13 : v1 = v2 → mm_Runs d 158 (1144, [some (.ref 1), some (.ref 2), some (.ref 37), some (.int i)], [], HH x σ2) r) (k14 : ¬ v1 = v2 → (some (.int (0 : Int32)), HH x σ2) = r) : mm_Runs d 158 (953, [some (.ref 1), some (.ref 2), some (.ref 37), some (.int i)], [], HH x σ) r := by
  refine mm_go 5 (F' := (958, [some (.ref 1), some (.ref 2), some (.ref 37), some (.int i)], [.int (i + (1 : Int32)), .ref 1, .ref 2], HH x σ)) rfl ?_
  refine mm_gd (F' := (959, [some (.ref 1), some (.ref 2), some (.ref 37), some (.int i)], [.int (x.2 (i + (1 : Int32)).toNatClampNeg), .ref 2], HH x σ)) rfl k1 ?_
  refine mm_go 4 (F' := (963, [some (.ref 1), some (.ref 2), some (.ref 37), some (.int i)], [.int (i + (2 : Int32)), .ref 1, .int (x.2 (i + (1 : Int32)).toNatClampNeg), .ref 2], HH x σ)) rfl ?_
  refine mm_gd (F' := (964, [some (.ref 1), some (.ref 2), some (.ref 37), some (.int i)], [.int (x.2 (i + (2 : Int32)).toNatClampNeg), .int (x.2 (i + (1 : Int32)).toNatClampNeg), .ref 2], HH x σ)) rfl k2 ?_
  refine mm_go 4 (F' := (968, [some (.ref 1), some (.ref 2), some (.ref 37), some (.int i)], [.int (i + (3 : Int32)), .ref 1, .int (x.2 (i + (2 : Int32)).toNatClampNeg), .int (x.2 (i + (1 : Int32)).toNatClampNeg), .ref 2], HH x σ)) rfl ?_
  refine mm_gd (F' := (969, [some (.ref 1), some (.ref 2), some (.ref 37), some (.int i)], [.int (x.2 (i + (3 : Int32)).toNatClampNeg), .int (x.2 (i + (2 : Int32)).toNatClampNeg), .int (x.2 (i + (1 : Int32)).toNatClampNeg), .ref 2], HH x σ)) rfl k3 ?_
  refine mm_go 4 (F' := (973, [some (.ref 1), some (.ref 2), some (.ref 37), some (.int i)], [.int (i + (4 : Int32)), .ref 1, .int (x.2 (i + (3 : Int32)).toNatClampNeg), .int (x.2 (i + (2 : Int32)).toNatClampNeg), .int (x.2 (i + (1 : Int32)).toNatClampNeg), .ref 2], HH x σ)) rfl ?_
  refine mm_gd (F' := (974, [some (.ref 1), some (.ref 2), some (.ref 37), some (.int i)], [.int (x.2 (i + (4 : Int32)).toNatClampNeg), .int (x.2 (i + (3 : Int32)).toNatClampNeg), .int (x.2 (i + (2 : Int32)).toNatClampNeg), .int (x.2 (i + (1 : Int32)).toNatClampNeg), .ref 2], HH x σ)) rfl k4 ?_
  refine mm_go 4 (F' := (978, [some (.ref 1), some (.ref 2), some (.ref 37), some (.int i)], [.int (i + (5 : Int32)), .ref 1, .int (x.2 (i + (4 : Int32)).toNatClampNeg), .int (x.2 (i + (3 : Int32)).toNatClampNeg), .int (x.2 (i + (2 : Int32)).toNatClampNeg), .int (x.2 (i + (1 : Int32)).toNatClampNeg), .ref 2], HH x σ)) rfl ?_
  refine mm_gd (F' := (979, [some (.ref 1), some (.ref 2), some (.ref 37), some (.int i)], [.int (x.2 (i + (5 : Int32)).toNatClampNeg), .int (x.2 (i + (4 : Int32)).toNatClampNeg), .int (x.2 (i + (3 : Int32)).toNatClampNeg), .int (x.2 (i + (2 : Int32)).toNatClampNeg), .int (x.2 (i + (1 : Int32)).toNatClampNeg), .ref 2], HH x σ)) rfl k5 ?_
  refine mm_kl (z := 63) (as := [.ref 2, .int (x.2 (i + (1 : Int32)).toNatClampNeg), .int (x.2 (i + (2 : Int32)).toNatClampNeg), .int (x.2 (i + (3 : Int32)).toNatClampNeg), .int (x.2 (i + (4 : Int32)).toNatClampNeg), .int (x.2 (i + (5 : Int32)).toNatClampNeg)]) (S' := []) (L2 := [some (.ref 2), some (.int (x.2 (i + (1 : Int32)).toNatClampNeg)), some (.int (x.2 (i + (2 : Int32)).toNatClampNeg)), some (.int (x.2 (i + (3 : Int32)).toNatClampNeg)), some (.int (x.2 (i + (4 : Int32)).toNatClampNeg)), some (.int (x.2 (i + (5 : Int32)).toNatClampNeg)), none, none]) (v := some (.int v1)) (h1 := HH x σ1) rfl rfl rfl rfl rfl (by omega) k6 ?_
  show mm_Runs d 158 (982, [some (.ref 1), some (.ref 2), some (.ref 37), some (.int i)], [.int v1], HH x σ1) r
  refine mm_go 5 (F' := (987, [some (.ref 1), some (.ref 2), some (.ref 37), some (.int i)], [.int (i + (1 : Int32)), .ref 1, .ref 37, .int v1], HH x σ1)) rfl ?_
  refine mm_gd (F' := (988, [some (.ref 1), some (.ref 2), some (.ref 37), some (.int i)], [.int (x.2 (i + (1 : Int32)).toNatClampNeg), .ref 37, .int v1], HH x σ1)) rfl k7 ?_
  refine mm_go 4 (F' := (992, [some (.ref 1), some (.ref 2), some (.ref 37), some (.int i)], [.int (i + (2 : Int32)), .ref 1, .int (x.2 (i + (1 : Int32)).toNatClampNeg), .ref 37, .int v1], HH x σ1)) rfl ?_
  refine mm_gd (F' := (993, [some (.ref 1), some (.ref 2), some (.ref 37), some (.int i)], [.int (x.2 (i + (2 : Int32)).toNatClampNeg), .int (x.2 (i + (1 : Int32)).toNatClampNeg), .ref 37, .int v1], HH x σ1)) rfl k8 ?_
  refine mm_go 4 (F' := (997, [some (.ref 1), some (.ref 2), some (.ref 37), some (.int i)], [.int (i + (3 : Int32)), .ref 1, .int (x.2 (i + (2 : Int32)).toNatClampNeg), .int (x.2 (i + (1 : Int32)).toNatClampNeg), .ref 37, .int v1], HH x σ1)) rfl ?_
  refine mm_gd (F' := (998, [some (.ref 1), some (.ref 2), some (.ref 37), some (.int i)], [.int (x.2 (i + (3 : Int32)).toNatClampNeg), .int (x.2 (i + (2 : Int32)).toNatClampNeg), .int (x.2 (i + (1 : Int32)).toNatClampNeg), .ref 37, .int v1], HH x σ1)) rfl k9 ?_
  refine mm_go 4 (F' := (1002, [some (.ref 1), some (.ref 2), some (.ref 37), some (.int i)], [.int (i + (4 : Int32)), .ref 1, .int (x.2 (i + (3 : Int32)).toNatClampNeg), .int (x.2 (i + (2 : Int32)).toNatClampNeg), .int (x.2 (i + (1 : Int32)).toNatClampNeg), .ref 37, .int v1], HH x σ1)) rfl ?_
  refine mm_gd (F' := (1003, [some (.ref 1), some (.ref 2), some (.ref 37), some (.int i)], [.int (x.2 (i + (4 : Int32)).toNatClampNeg), .int (x.2 (i + (3 : Int32)).toNatClampNeg), .int (x.2 (i + (2 : Int32)).toNatClampNeg), .int (x.2 (i + (1 : Int32)).toNatClampNeg), .ref 37, .int v1], HH x σ1)) rfl k10 ?_
  refine mm_go 4 (F' := (1007, [some (.ref 1), some (.ref 2), some (.ref 37), some (.int i)], [.int (i + (5 : Int32)), .ref 1, .int (x.2 (i + (4 : Int32)).toNatClampNeg), .int (x.2 (i + (3 : Int32)).toNatClampNeg), .int (x.2 (i + (2 : Int32)).toNatClampNeg), .int (x.2 (i + (1 : Int32)).toNatClampNeg), .ref 37, .int v1], HH x σ1)) rfl ?_
  refine mm_gd (F' := (1008, [some (.ref 1), some (.ref 2), some (.ref 37), some (.int i)], [.int (x.2 (i + (5 : Int32)).toNatClampNeg), .int (x.2 (i + (4 : Int32)).toNatClampNeg), .int (x.2 (i + (3 : Int32)).toNatClampNeg), .int (x.2 (i + (2 : Int32)).toNatClampNeg), .int (x.2 (i + (1 : Int32)).toNatClampNeg), .ref 37, .int v1], HH x σ1)) rfl k11 ?_
  refine mm_kl (z := 146) (as := [.ref 37, .int (x.2 (i + (1 : Int32)).toNatClampNeg), .int (x.2 (i + (2 : Int32)).toNatClampNeg), .int (x.2 (i + (3 : Int32)).toNatClampNeg), .int (x.2 (i + (4 : Int32)).toNatClampNeg), .int (x.2 (i + (5 : Int32)).toNatClampNeg)]) (S' := [.int v1]) (L2 := [some (.ref 37), some (.int (x.2 (i + (1 : Int32)).toNatClampNeg)), some (.int (x.2 (i + (2 : Int32)).toNatClampNeg)), some (.int (x.2 (i + (3 : Int32)).toNatClampNeg)), some (.int (x.2 (i + (4 : Int32)).toNatClampNeg)), some (.int (x.2 (i + (5 : Int32)).toNatClampNeg)), none, none, none, none]) (v := some (.int v2)) (h1 := HH x σ2) rfl rfl rfl rfl rfl (by omega) k12 ?_
  show mm_Runs d 158 (1011, [some (.ref 1), some (.ref 2), some (.ref 37), some (.int i)], [.int v2, .int v1], HH x σ2) r
  refine mm_go 1 (F' := (bif mm_cond .eq v1 v2 then 1144 else 1014, [some (.ref 1), some (.ref 2), some (.ref 37), some (.int i)], [], HH x σ2)) rfl ?_
  refine mb_eq (fun h1 => ?_) (fun h1 => ?_)
  · exact mm_wk (by exact (And.intro rfl (And.intro rfl (And.intro rfl (And.intro rfl True.intro))))) (k13 h1)
  · refine mm_go 1 (F' := (1015, [some (.ref 1), some (.ref 2), some (.ref 37), some (.int i)], [.int (0 : Int32)], HH x σ2)) rfl ?_
    exact mm_rtz rfl rfl (Or.inl rfl) (k14 h1)
set_option maxRecDepth 100000 in
theorem vc_law_tell {d : Nat} {x : Nat × (Nat → Int32)} {σ : mm_S} {i : Int32} {v1 v2 : Int32} {σ1 σ2 : mm_S} {r : Option Value × mm_H} (hd : 1 ≤ d) (k1 : ¬ ((i + (1 : Int32)) < 0 ∨ x.1 ≤ (i + (1 : Int32)).toNatClampNeg)) (k2 : mm_Runs (d - 1) 64 (0, [some (.ref 2), some (.int (x.2 (i + (1 : Int32)).toNatClampNeg)), none], [], HH x σ) (some (.int v1), HH x σ1)) (k3 : ¬ ((i + (1 : Int32)) < 0 ∨ x.1 ≤ (i + (1 : Int32)).toNatClampNeg)) (k4 : mm_Runs (d - 1) 148 (0, [some (.ref 37), some (.int (x.2 (i + (1 : Int32)).toNatClampNeg)), none], [], HH x σ1) (some (.int v2), HH x σ2)) (k5 : v1 = v2 → mm_Runs d 158 (1144, [some (.ref 1), some (.ref 2), some (.ref 37), some (.int i)], [], HH x σ2) r) (k6 : ¬ v1 = v2 → (some (.int (0 : Int32)), HH x σ2) = r) : mm_Runs d 158 (1016, [some (.ref 1), some (.ref 2), some (.ref 37), some (.int i)], [], HH x σ) r := by
  refine mm_go 5 (F' := (1021, [some (.ref 1), some (.ref 2), some (.ref 37), some (.int i)], [.int (i + (1 : Int32)), .ref 1, .ref 2], HH x σ)) rfl ?_
  refine mm_gd (F' := (1022, [some (.ref 1), some (.ref 2), some (.ref 37), some (.int i)], [.int (x.2 (i + (1 : Int32)).toNatClampNeg), .ref 2], HH x σ)) rfl k1 ?_
  refine mm_kl (z := 64) (as := [.ref 2, .int (x.2 (i + (1 : Int32)).toNatClampNeg)]) (S' := []) (L2 := [some (.ref 2), some (.int (x.2 (i + (1 : Int32)).toNatClampNeg)), none]) (v := some (.int v1)) (h1 := HH x σ1) rfl rfl rfl rfl rfl (by omega) k2 ?_
  show mm_Runs d 158 (1025, [some (.ref 1), some (.ref 2), some (.ref 37), some (.int i)], [.int v1], HH x σ1) r
  refine mm_go 5 (F' := (1030, [some (.ref 1), some (.ref 2), some (.ref 37), some (.int i)], [.int (i + (1 : Int32)), .ref 1, .ref 37, .int v1], HH x σ1)) rfl ?_
  refine mm_gd (F' := (1031, [some (.ref 1), some (.ref 2), some (.ref 37), some (.int i)], [.int (x.2 (i + (1 : Int32)).toNatClampNeg), .ref 37, .int v1], HH x σ1)) rfl k3 ?_
  refine mm_kl (z := 148) (as := [.ref 37, .int (x.2 (i + (1 : Int32)).toNatClampNeg)]) (S' := [.int v1]) (L2 := [some (.ref 37), some (.int (x.2 (i + (1 : Int32)).toNatClampNeg)), none]) (v := some (.int v2)) (h1 := HH x σ2) rfl rfl rfl rfl rfl (by omega) k4 ?_
  show mm_Runs d 158 (1034, [some (.ref 1), some (.ref 2), some (.ref 37), some (.int i)], [.int v2, .int v1], HH x σ2) r
  refine mm_go 1 (F' := (bif mm_cond .eq v1 v2 then 1144 else 1037, [some (.ref 1), some (.ref 2), some (.ref 37), some (.int i)], [], HH x σ2)) rfl ?_
  refine mb_eq (fun h1 => ?_) (fun h1 => ?_)
  · exact mm_wk (by exact (And.intro rfl (And.intro rfl (And.intro rfl (And.intro rfl True.intro))))) (k5 h1)
  · refine mm_go 1 (F' := (1038, [some (.ref 1), some (.ref 2), some (.ref 37), some (.int i)], [.int (0 : Int32)], HH x σ2)) rfl ?_
    exact mm_rtz rfl rfl (Or.inl rfl) (k6 h1)
set_option maxRecDepth 100000 in
theorem vc_law_make {d : Nat} {x : Nat × (Nat → Int32)} {σ : mm_S} {i : Int32} {v1 v2 : Int32} {σ1 σ2 : mm_S} {r : Option Value × mm_H} (hd : 1 ≤ d) (k1 : ¬ ((i + (1 : Int32)) < 0 ∨ x.1 ≤ (i + (1 : Int32)).toNatClampNeg)) (k2 : mm_Runs (d - 1) 65 (0, [some (.ref 2), some (.int (x.2 (i + (1 : Int32)).toNatClampNeg))], [], HH x σ) (some (.int v1), HH x σ1)) (k3 : ¬ ((i + (1 : Int32)) < 0 ∨ x.1 ≤ (i + (1 : Int32)).toNatClampNeg)) (k4 : mm_Runs (d - 1) 149 (0, [some (.ref 37), some (.int (x.2 (i + (1 : Int32)).toNatClampNeg))], [], HH x σ1) (some (.int v2), HH x σ2)) (k5 : v1 = v2 → mm_Runs d 158 (1144, [some (.ref 1), some (.ref 2), some (.ref 37), some (.int i)], [], HH x σ2) r) (k6 : ¬ v1 = v2 → (some (.int (0 : Int32)), HH x σ2) = r) : mm_Runs d 158 (1039, [some (.ref 1), some (.ref 2), some (.ref 37), some (.int i)], [], HH x σ) r := by
  refine mm_go 5 (F' := (1044, [some (.ref 1), some (.ref 2), some (.ref 37), some (.int i)], [.int (i + (1 : Int32)), .ref 1, .ref 2], HH x σ)) rfl ?_
  refine mm_gd (F' := (1045, [some (.ref 1), some (.ref 2), some (.ref 37), some (.int i)], [.int (x.2 (i + (1 : Int32)).toNatClampNeg), .ref 2], HH x σ)) rfl k1 ?_
  refine mm_kl (z := 65) (as := [.ref 2, .int (x.2 (i + (1 : Int32)).toNatClampNeg)]) (S' := []) (L2 := [some (.ref 2), some (.int (x.2 (i + (1 : Int32)).toNatClampNeg))]) (v := some (.int v1)) (h1 := HH x σ1) rfl rfl rfl rfl rfl (by omega) k2 ?_
  show mm_Runs d 158 (1048, [some (.ref 1), some (.ref 2), some (.ref 37), some (.int i)], [.int v1], HH x σ1) r
  refine mm_go 5 (F' := (1053, [some (.ref 1), some (.ref 2), some (.ref 37), some (.int i)], [.int (i + (1 : Int32)), .ref 1, .ref 37, .int v1], HH x σ1)) rfl ?_
  refine mm_gd (F' := (1054, [some (.ref 1), some (.ref 2), some (.ref 37), some (.int i)], [.int (x.2 (i + (1 : Int32)).toNatClampNeg), .ref 37, .int v1], HH x σ1)) rfl k3 ?_
  refine mm_kl (z := 149) (as := [.ref 37, .int (x.2 (i + (1 : Int32)).toNatClampNeg)]) (S' := [.int v1]) (L2 := [some (.ref 37), some (.int (x.2 (i + (1 : Int32)).toNatClampNeg))]) (v := some (.int v2)) (h1 := HH x σ2) rfl rfl rfl rfl rfl (by omega) k4 ?_
  show mm_Runs d 158 (1057, [some (.ref 1), some (.ref 2), some (.ref 37), some (.int i)], [.int v2, .int v1], HH x σ2) r
  refine mm_go 1 (F' := (bif mm_cond .eq v1 v2 then 1144 else 1060, [some (.ref 1), some (.ref 2), some (.ref 37), some (.int i)], [], HH x σ2)) rfl ?_
  refine mb_eq (fun h1 => ?_) (fun h1 => ?_)
  · exact mm_wk (by exact (And.intro rfl (And.intro rfl (And.intro rfl (And.intro rfl True.intro))))) (k5 h1)
  · refine mm_go 1 (F' := (1061, [some (.ref 1), some (.ref 2), some (.ref 37), some (.int i)], [.int (0 : Int32)], HH x σ2)) rfl ?_
    exact mm_rtz rfl rfl (Or.inl rfl) (k6 h1)
set_option maxRecDepth 100000 in
theorem vc_law_as {d : Nat} {x : Nat × (Nat → Int32)} {σ : mm_S} {i : Int32} {v1 v2 : Int32} {σ1 σ2 : mm_S} {r : Option Value × mm_H} (hd : 1 ≤ d) (k1 : ¬ ((i + (1 : Int32)) < 0 ∨ x.1 ≤ (i + (1 : Int32)).toNatClampNeg)) (k2 : ¬ ((i + (2 : Int32)) < 0 ∨ x.1 ≤ (i + (2 : Int32)).toNatClampNeg)) (k3 : mm_Runs (d - 1) 66 (0, [some (.ref 2), some (.int (x.2 (i + (1 : Int32)).toNatClampNeg)), some (.int (x.2 (i + (2 : Int32)).toNatClampNeg))], [], HH x σ) (some (.int v1), HH x σ1)) (k4 : ¬ ((i + (1 : Int32)) < 0 ∨ x.1 ≤ (i + (1 : Int32)).toNatClampNeg)) (k5 : ¬ ((i + (2 : Int32)) < 0 ∨ x.1 ≤ (i + (2 : Int32)).toNatClampNeg)) (k6 : mm_Runs (d - 1) 150 (0, [some (.ref 37), some (.int (x.2 (i + (1 : Int32)).toNatClampNeg)), some (.int (x.2 (i + (2 : Int32)).toNatClampNeg))], [], HH x σ1) (some (.int v2), HH x σ2)) (k7 : v1 = v2 → mm_Runs d 158 (1144, [some (.ref 1), some (.ref 2), some (.ref 37), some (.int i)], [], HH x σ2) r) (k8 : ¬ v1 = v2 → (some (.int (0 : Int32)), HH x σ2) = r) : mm_Runs d 158 (1062, [some (.ref 1), some (.ref 2), some (.ref 37), some (.int i)], [], HH x σ) r := by
  refine mm_go 5 (F' := (1067, [some (.ref 1), some (.ref 2), some (.ref 37), some (.int i)], [.int (i + (1 : Int32)), .ref 1, .ref 2], HH x σ)) rfl ?_
  refine mm_gd (F' := (1068, [some (.ref 1), some (.ref 2), some (.ref 37), some (.int i)], [.int (x.2 (i + (1 : Int32)).toNatClampNeg), .ref 2], HH x σ)) rfl k1 ?_
  refine mm_go 4 (F' := (1072, [some (.ref 1), some (.ref 2), some (.ref 37), some (.int i)], [.int (i + (2 : Int32)), .ref 1, .int (x.2 (i + (1 : Int32)).toNatClampNeg), .ref 2], HH x σ)) rfl ?_
  refine mm_gd (F' := (1073, [some (.ref 1), some (.ref 2), some (.ref 37), some (.int i)], [.int (x.2 (i + (2 : Int32)).toNatClampNeg), .int (x.2 (i + (1 : Int32)).toNatClampNeg), .ref 2], HH x σ)) rfl k2 ?_
  refine mm_kl (z := 66) (as := [.ref 2, .int (x.2 (i + (1 : Int32)).toNatClampNeg), .int (x.2 (i + (2 : Int32)).toNatClampNeg)]) (S' := []) (L2 := [some (.ref 2), some (.int (x.2 (i + (1 : Int32)).toNatClampNeg)), some (.int (x.2 (i + (2 : Int32)).toNatClampNeg))]) (v := some (.int v1)) (h1 := HH x σ1) rfl rfl rfl rfl rfl (by omega) k3 ?_
  show mm_Runs d 158 (1076, [some (.ref 1), some (.ref 2), some (.ref 37), some (.int i)], [.int v1], HH x σ1) r
  refine mm_go 5 (F' := (1081, [some (.ref 1), some (.ref 2), some (.ref 37), some (.int i)], [.int (i + (1 : Int32)), .ref 1, .ref 37, .int v1], HH x σ1)) rfl ?_
  refine mm_gd (F' := (1082, [some (.ref 1), some (.ref 2), some (.ref 37), some (.int i)], [.int (x.2 (i + (1 : Int32)).toNatClampNeg), .ref 37, .int v1], HH x σ1)) rfl k4 ?_
  refine mm_go 4 (F' := (1086, [some (.ref 1), some (.ref 2), some (.ref 37), some (.int i)], [.int (i + (2 : Int32)), .ref 1, .int (x.2 (i + (1 : Int32)).toNatClampNeg), .ref 37, .int v1], HH x σ1)) rfl ?_
  refine mm_gd (F' := (1087, [some (.ref 1), some (.ref 2), some (.ref 37), some (.int i)], [.int (x.2 (i + (2 : Int32)).toNatClampNeg), .int (x.2 (i + (1 : Int32)).toNatClampNeg), .ref 37, .int v1], HH x σ1)) rfl k5 ?_
  refine mm_kl (z := 150) (as := [.ref 37, .int (x.2 (i + (1 : Int32)).toNatClampNeg), .int (x.2 (i + (2 : Int32)).toNatClampNeg)]) (S' := [.int v1]) (L2 := [some (.ref 37), some (.int (x.2 (i + (1 : Int32)).toNatClampNeg)), some (.int (x.2 (i + (2 : Int32)).toNatClampNeg))]) (v := some (.int v2)) (h1 := HH x σ2) rfl rfl rfl rfl rfl (by omega) k6 ?_
  show mm_Runs d 158 (1090, [some (.ref 1), some (.ref 2), some (.ref 37), some (.int i)], [.int v2, .int v1], HH x σ2) r
  refine mm_go 1 (F' := (bif mm_cond .eq v1 v2 then 1144 else 1093, [some (.ref 1), some (.ref 2), some (.ref 37), some (.int i)], [], HH x σ2)) rfl ?_
  refine mb_eq (fun h1 => ?_) (fun h1 => ?_)
  · exact mm_wk (by exact (And.intro rfl (And.intro rfl (And.intro rfl (And.intro rfl True.intro))))) (k7 h1)
  · refine mm_go 1 (F' := (1094, [some (.ref 1), some (.ref 2), some (.ref 37), some (.int i)], [.int (0 : Int32)], HH x σ2)) rfl ?_
    exact mm_rtz rfl rfl (Or.inl rfl) (k8 h1)
set_option maxRecDepth 100000 in
theorem vc_law_trace {d : Nat} {x : Nat × (Nat → Int32)} {σ : mm_S} {i : Int32} {v1 v2 : Int32} {σ1 σ2 : mm_S} {r : Option Value × mm_H} (hd : 1 ≤ d) (k1 : mm_Runs (d - 1) 67 (0, [some (.ref 2)], [], HH x σ) (some (.int v1), HH x σ1)) (k2 : mm_Runs (d - 1) 151 (0, [some (.ref 37)], [], HH x σ1) (some (.int v2), HH x σ2)) (k3 : v1 = v2 → mm_Runs d 158 (1144, [some (.ref 1), some (.ref 2), some (.ref 37), some (.int i)], [], HH x σ2) r) (k4 : ¬ v1 = v2 → (some (.int (0 : Int32)), HH x σ2) = r) : mm_Runs d 158 (1095, [some (.ref 1), some (.ref 2), some (.ref 37), some (.int i)], [], HH x σ) r := by
  refine mm_go 1 (F' := (1096, [some (.ref 1), some (.ref 2), some (.ref 37), some (.int i)], [.ref 2], HH x σ)) rfl ?_
  refine mm_kl (z := 67) (as := [.ref 2]) (S' := []) (L2 := [some (.ref 2)]) (v := some (.int v1)) (h1 := HH x σ1) rfl rfl rfl rfl rfl (by omega) k1 ?_
  show mm_Runs d 158 (1099, [some (.ref 1), some (.ref 2), some (.ref 37), some (.int i)], [.int v1], HH x σ1) r
  refine mm_go 1 (F' := (1100, [some (.ref 1), some (.ref 2), some (.ref 37), some (.int i)], [.ref 37, .int v1], HH x σ1)) rfl ?_
  refine mm_kl (z := 151) (as := [.ref 37]) (S' := [.int v1]) (L2 := [some (.ref 37)]) (v := some (.int v2)) (h1 := HH x σ2) rfl rfl rfl rfl rfl (by omega) k2 ?_
  show mm_Runs d 158 (1103, [some (.ref 1), some (.ref 2), some (.ref 37), some (.int i)], [.int v2, .int v1], HH x σ2) r
  refine mm_go 1 (F' := (bif mm_cond .eq v1 v2 then 1144 else 1106, [some (.ref 1), some (.ref 2), some (.ref 37), some (.int i)], [], HH x σ2)) rfl ?_
  refine mb_eq (fun h1 => ?_) (fun h1 => ?_)
  · exact mm_wk (by exact (And.intro rfl (And.intro rfl (And.intro rfl (And.intro rfl True.intro))))) (k3 h1)
  · refine mm_go 1 (F' := (1107, [some (.ref 1), some (.ref 2), some (.ref 37), some (.int i)], [.int (0 : Int32)], HH x σ2)) rfl ?_
    exact mm_rtz rfl rfl (Or.inl rfl) (k4 h1)
set_option maxRecDepth 100000 in
theorem vc_law_fault {d : Nat} {x : Nat × (Nat → Int32)} {σ : mm_S} {i : Int32} {v1 v2 : Int32} {σ1 σ2 : mm_S} {r : Option Value × mm_H} (hd : 1 ≤ d) (k1 : mm_Runs (d - 1) 68 (0, [some (.ref 2)], [], HH x σ) (some (.int v1), HH x σ1)) (k2 : mm_Runs (d - 1) 152 (0, [some (.ref 37)], [], HH x σ1) (some (.int v2), HH x σ2)) (k3 : v1 = v2 → mm_Runs d 158 (1144, [some (.ref 1), some (.ref 2), some (.ref 37), some (.int i)], [], HH x σ2) r) (k4 : ¬ v1 = v2 → (some (.int (0 : Int32)), HH x σ2) = r) : mm_Runs d 158 (1108, [some (.ref 1), some (.ref 2), some (.ref 37), some (.int i)], [], HH x σ) r := by
  refine mm_go 1 (F' := (1109, [some (.ref 1), some (.ref 2), some (.ref 37), some (.int i)], [.ref 2], HH x σ)) rfl ?_
  refine mm_kl (z := 68) (as := [.ref 2]) (S' := []) (L2 := [some (.ref 2)]) (v := some (.int v1)) (h1 := HH x σ1) rfl rfl rfl rfl rfl (by omega) k1 ?_
  show mm_Runs d 158 (1112, [some (.ref 1), some (.ref 2), some (.ref 37), some (.int i)], [.int v1], HH x σ1) r
  refine mm_go 1 (F' := (1113, [some (.ref 1), some (.ref 2), some (.ref 37), some (.int i)], [.ref 37, .int v1], HH x σ1)) rfl ?_
  refine mm_kl (z := 152) (as := [.ref 37]) (S' := [.int v1]) (L2 := [some (.ref 37)]) (v := some (.int v2)) (h1 := HH x σ2) rfl rfl rfl rfl rfl (by omega) k2 ?_
  show mm_Runs d 158 (1116, [some (.ref 1), some (.ref 2), some (.ref 37), some (.int i)], [.int v2, .int v1], HH x σ2) r
  refine mm_go 1 (F' := (bif mm_cond .eq v1 v2 then 1144 else 1119, [some (.ref 1), some (.ref 2), some (.ref 37), some (.int i)], [], HH x σ2)) rfl ?_
  refine mb_eq (fun h1 => ?_) (fun h1 => ?_)
  · exact mm_wk (by exact (And.intro rfl (And.intro rfl (And.intro rfl (And.intro rfl True.intro))))) (k3 h1)
  · refine mm_go 1 (F' := (1120, [some (.ref 1), some (.ref 2), some (.ref 37), some (.int i)], [.int (0 : Int32)], HH x σ2)) rfl ?_
    exact mm_rtz rfl rfl (Or.inl rfl) (k4 h1)
set_option maxRecDepth 100000 in
theorem vc_law_many {d : Nat} {x : Nat × (Nat → Int32)} {σ : mm_S} {i : Int32} {v1 v2 : Int32} {σ1 σ2 : mm_S} {r : Option Value × mm_H} (hd : 1 ≤ d) (k1 : ¬ ((i + (1 : Int32)) < 0 ∨ x.1 ≤ (i + (1 : Int32)).toNatClampNeg)) (k2 : mm_Runs (d - 1) 69 (0, [some (.ref 2), some (.int (x.2 (i + (1 : Int32)).toNatClampNeg))], [], HH x σ) (some (.int v1), HH x σ1)) (k3 : ¬ ((i + (1 : Int32)) < 0 ∨ x.1 ≤ (i + (1 : Int32)).toNatClampNeg)) (k4 : mm_Runs (d - 1) 153 (0, [some (.ref 37), some (.int (x.2 (i + (1 : Int32)).toNatClampNeg))], [], HH x σ1) (some (.int v2), HH x σ2)) (k5 : v1 = v2 → mm_Runs d 158 (1144, [some (.ref 1), some (.ref 2), some (.ref 37), some (.int i)], [], HH x σ2) r) (k6 : ¬ v1 = v2 → (some (.int (0 : Int32)), HH x σ2) = r) : mm_Runs d 158 (1121, [some (.ref 1), some (.ref 2), some (.ref 37), some (.int i)], [], HH x σ) r := by
  refine mm_go 5 (F' := (1126, [some (.ref 1), some (.ref 2), some (.ref 37), some (.int i)], [.int (i + (1 : Int32)), .ref 1, .ref 2], HH x σ)) rfl ?_
  refine mm_gd (F' := (1127, [some (.ref 1), some (.ref 2), some (.ref 37), some (.int i)], [.int (x.2 (i + (1 : Int32)).toNatClampNeg), .ref 2], HH x σ)) rfl k1 ?_
  refine mm_kl (z := 69) (as := [.ref 2, .int (x.2 (i + (1 : Int32)).toNatClampNeg)]) (S' := []) (L2 := [some (.ref 2), some (.int (x.2 (i + (1 : Int32)).toNatClampNeg))]) (v := some (.int v1)) (h1 := HH x σ1) rfl rfl rfl rfl rfl (by omega) k2 ?_
  show mm_Runs d 158 (1130, [some (.ref 1), some (.ref 2), some (.ref 37), some (.int i)], [.int v1], HH x σ1) r
  refine mm_go 5 (F' := (1135, [some (.ref 1), some (.ref 2), some (.ref 37), some (.int i)], [.int (i + (1 : Int32)), .ref 1, .ref 37, .int v1], HH x σ1)) rfl ?_
  refine mm_gd (F' := (1136, [some (.ref 1), some (.ref 2), some (.ref 37), some (.int i)], [.int (x.2 (i + (1 : Int32)).toNatClampNeg), .ref 37, .int v1], HH x σ1)) rfl k3 ?_
  refine mm_kl (z := 153) (as := [.ref 37, .int (x.2 (i + (1 : Int32)).toNatClampNeg)]) (S' := [.int v1]) (L2 := [some (.ref 37), some (.int (x.2 (i + (1 : Int32)).toNatClampNeg))]) (v := some (.int v2)) (h1 := HH x σ2) rfl rfl rfl rfl rfl (by omega) k4 ?_
  show mm_Runs d 158 (1139, [some (.ref 1), some (.ref 2), some (.ref 37), some (.int i)], [.int v2, .int v1], HH x σ2) r
  refine mm_go 1 (F' := (bif mm_cond .eq v1 v2 then 1144 else 1142, [some (.ref 1), some (.ref 2), some (.ref 37), some (.int i)], [], HH x σ2)) rfl ?_
  refine mb_eq (fun h1 => ?_) (fun h1 => ?_)
  · exact mm_wk (by exact (And.intro rfl (And.intro rfl (And.intro rfl (And.intro rfl True.intro))))) (k5 h1)
  · refine mm_go 1 (F' := (1143, [some (.ref 1), some (.ref 2), some (.ref 37), some (.int i)], [.int (0 : Int32)], HH x σ2)) rfl ?_
    exact mm_rtz rfl rfl (Or.inl rfl) (k6 h1)
set_option maxRecDepth 100000 in
theorem vc_law_next {d : Nat} {x : Nat × (Nat → Int32)} {σ : mm_S} {i : Int32} {r : Option Value × mm_H} (k1 : mm_Runs d 158 (18, [some (.ref 1), some (.ref 2), some (.ref 37), some (.int (i + (6 : Int32)))], [], HH x σ) r) : mm_Runs d 158 (1144, [some (.ref 1), some (.ref 2), some (.ref 37), some (.int i)], [], HH x σ) r := by
  refine mm_go 2 (F' := (18, [some (.ref 1), some (.ref 2), some (.ref 37), some (.int (i + (6 : Int32)))], [], HH x σ)) rfl ?_
  exact mm_wk (by exact (And.intro rfl (And.intro rfl (And.intro rfl (And.intro rfl True.intro))))) k1
theorem lg_in {i L k : Nat} (h : i + k < L) (hL : L ≤ 3072) : ¬ (nI i + nI k < 0 ∨ L ≤ (nI i + nI k).toNatClampNeg) := by
  rw [nI_add]
  exact nI_in h (by omega)
/-- a method of the class and the model's answer alike, and what ties them together holds behind them -/
def opI (Rel : mm_S → Prop) (zc zm n : Nat) : Prop := ∀ (x : Nat × (Nat → Int32)) (σ : mm_S) (as : List Int32), as.length = n → Rel σ → ∃ (v : Int32) (σ1 σ2 : mm_S), mm_Runs 999 zc (0, mm_ent (mm_M zc).2.2.2.1 (.ref 2 :: as.map .int), [], HH x σ) (some (.int v), HH x σ1) ∧ mm_Runs 999 zm (0, mm_ent (mm_M zm).2.2.2.1 (.ref 37 :: as.map .int), [], HH x σ1) (some (.int v), HH x σ2) ∧ Rel σ2
def opL (Rel : mm_S → Prop) (zc zm n : Nat) : Prop := ∀ (x : Nat × (Nat → Int32)) (σ : mm_S) (as : List Int32), as.length = n → Rel σ → ∃ (v : Int64) (σ1 σ2 : mm_S), mm_Runs 999 zc (0, mm_ent (mm_M zc).2.2.2.1 (.ref 2 :: as.map .int), [], HH x σ) (some (.long v), HH x σ1) ∧ mm_Runs 999 zm (0, mm_ent (mm_M zm).2.2.2.1 (.ref 37 :: as.map .int), [], HH x σ1) (some (.long v), HH x σ2) ∧ Rel σ2
/-- from a place of the script on the law ends with 1 -/
def lw_from (L : Nat) (xs : Nat → Int32) (i : Nat) (σ : mm_S) : Prop := ∃ h, mm_Runs 1000 158 (18, [some (.ref 1), some (.ref 2), some (.ref 37), some (.int (nI i))], [], HH (L, xs) σ) (some (.int 1), h)
theorem ls_pond {Rel : mm_S → Prop} {L i : Nat} {xs : Nat → Int32} {σ : mm_S} (hL : L ≤ 3072) (hi : i + 6 ≤ L) (op : opI Rel 38 97 4) (hX : (xs i &&& (31 : Int32)) = (0 : Int32)) (hr : Rel σ) (ih : ∀ σ2, Rel σ2 → lw_from L xs (i + 6) σ2) : lw_from L xs i σ := by
  have hc : (nI i).toNatClampNeg = i := nI_clamp (by omega)
  obtain ⟨v, σ1, σ2, h1, h2, h3⟩ := op (L, xs) σ [xs (nI i + (1 : Int32)).toNatClampNeg, xs (nI i + (2 : Int32)).toNatClampNeg, xs (nI i + (3 : Int32)).toNatClampNeg, xs (nI i + (4 : Int32)).toNatClampNeg] rfl hr
  obtain ⟨h, ih⟩ := ih σ2 h3
  refine ⟨h, ?_⟩
  refine vc_head_pond (by rw [hc]; exact hX) (fun q => absurd q ?_) (fun _ => nI_in (by omega) (by omega)) (fun _ => ?_)
  · rw [show (Int32.ofNat L - (6 : Int32)) = nI (L - 6) from pk_sub (a := L) (b := 6) (by omega)]
    exact nI_nlt (by omega) (by omega)
  · refine vc_law_pond (v1 := v) (v2 := v) (σ1 := σ1) (σ2 := σ2) (by omega) (lg_in (i := i) (k := 1) (by omega) hL) (lg_in (i := i) (k := 2) (by omega) hL) (lg_in (i := i) (k := 3) (by omega) hL) (lg_in (i := i) (k := 4) (by omega) hL) h1 (lg_in (i := i) (k := 1) (by omega) hL) (lg_in (i := i) (k := 2) (by omega) hL) (lg_in (i := i) (k := 3) (by omega) hL) (lg_in (i := i) (k := 4) (by omega) hL) h2 (fun _ => ?_) (fun q => absurd rfl q)
    refine vc_law_next ?_
    rw [show nI i + (6 : Int32) = nI (i + 6) from nI_add i 6]
    exact ih
theorem ls_water {Rel : mm_S → Prop} {L i : Nat} {xs : Nat → Int32} {σ : mm_S} (hL : L ≤ 3072) (hi : i + 6 ≤ L) (op : opI Rel 39 103 1) (hX : (xs i &&& (31 : Int32)) = (1 : Int32)) (hr : Rel σ) (ih : ∀ σ2, Rel σ2 → lw_from L xs (i + 6) σ2) : lw_from L xs i σ := by
  have hc : (nI i).toNatClampNeg = i := nI_clamp (by omega)
  obtain ⟨v, σ1, σ2, h1, h2, h3⟩ := op (L, xs) σ [xs (nI i + (1 : Int32)).toNatClampNeg] rfl hr
  obtain ⟨h, ih⟩ := ih σ2 h3
  refine ⟨h, ?_⟩
  refine vc_head_water (by rw [hc]; exact hX) (fun q => absurd q ?_) (fun _ => nI_in (by omega) (by omega)) (fun _ => ?_)
  · rw [show (Int32.ofNat L - (6 : Int32)) = nI (L - 6) from pk_sub (a := L) (b := 6) (by omega)]
    exact nI_nlt (by omega) (by omega)
  · refine vc_law_water (v1 := v) (v2 := v) (σ1 := σ1) (σ2 := σ2) (by omega) (lg_in (i := i) (k := 1) (by omega) hL) h1 (lg_in (i := i) (k := 1) (by omega) hL) h2 (fun _ => ?_) (fun q => absurd rfl q)
    refine vc_law_next ?_
    rw [show nI i + (6 : Int32) = nI (i + 6) from nI_add i 6]
    exact ih
theorem ls_far {Rel : mm_S → Prop} {L i : Nat} {xs : Nat → Int32} {σ : mm_S} (hL : L ≤ 3072) (hi : i + 6 ≤ L) (op : opI Rel 40 104 2) (hX : (xs i &&& (31 : Int32)) = (2 : Int32)) (hr : Rel σ) (ih : ∀ σ2, Rel σ2 → lw_from L xs (i + 6) σ2) : lw_from L xs i σ := by
  have hc : (nI i).toNatClampNeg = i := nI_clamp (by omega)
  obtain ⟨v, σ1, σ2, h1, h2, h3⟩ := op (L, xs) σ [xs (nI i + (1 : Int32)).toNatClampNeg, xs (nI i + (2 : Int32)).toNatClampNeg] rfl hr
  obtain ⟨h, ih⟩ := ih σ2 h3
  refine ⟨h, ?_⟩
  refine vc_head_far (by rw [hc]; exact hX) (fun q => absurd q ?_) (fun _ => nI_in (by omega) (by omega)) (fun _ => ?_)
  · rw [show (Int32.ofNat L - (6 : Int32)) = nI (L - 6) from pk_sub (a := L) (b := 6) (by omega)]
    exact nI_nlt (by omega) (by omega)
  · refine vc_law_far (v1 := v) (v2 := v) (σ1 := σ1) (σ2 := σ2) (by omega) (lg_in (i := i) (k := 1) (by omega) hL) (lg_in (i := i) (k := 2) (by omega) hL) h1 (lg_in (i := i) (k := 1) (by omega) hL) (lg_in (i := i) (k := 2) (by omega) hL) h2 (fun _ => ?_) (fun q => absurd rfl q)
    refine vc_law_next ?_
    rw [show nI i + (6 : Int32) = nI (i + 6) from nI_add i 6]
    exact ih
theorem ls_stone {Rel : mm_S → Prop} {L i : Nat} {xs : Nat → Int32} {σ : mm_S} (hL : L ≤ 3072) (hi : i + 6 ≤ L) (op : opI Rel 41 108 3) (hX : (xs i &&& (31 : Int32)) = (3 : Int32)) (hr : Rel σ) (ih : ∀ σ2, Rel σ2 → lw_from L xs (i + 6) σ2) : lw_from L xs i σ := by
  have hc : (nI i).toNatClampNeg = i := nI_clamp (by omega)
  obtain ⟨v, σ1, σ2, h1, h2, h3⟩ := op (L, xs) σ [xs (nI i + (1 : Int32)).toNatClampNeg, xs (nI i + (2 : Int32)).toNatClampNeg, xs (nI i + (3 : Int32)).toNatClampNeg] rfl hr
  obtain ⟨h, ih⟩ := ih σ2 h3
  refine ⟨h, ?_⟩
  refine vc_head_stone (by rw [hc]; exact hX) (fun q => absurd q ?_) (fun _ => nI_in (by omega) (by omega)) (fun _ => ?_)
  · rw [show (Int32.ofNat L - (6 : Int32)) = nI (L - 6) from pk_sub (a := L) (b := 6) (by omega)]
    exact nI_nlt (by omega) (by omega)
  · refine vc_law_stone (v1 := v) (v2 := v) (σ1 := σ1) (σ2 := σ2) (by omega) (lg_in (i := i) (k := 1) (by omega) hL) (lg_in (i := i) (k := 2) (by omega) hL) (lg_in (i := i) (k := 3) (by omega) hL) h1 (lg_in (i := i) (k := 1) (by omega) hL) (lg_in (i := i) (k := 2) (by omega) hL) (lg_in (i := i) (k := 3) (by omega) hL) h2 (fun _ => ?_) (fun q => absurd rfl q)
    refine vc_law_next ?_
    rw [show nI i + (6 : Int32) = nI (i + 6) from nI_add i 6]
    exact ih
theorem ls_ofStone {Rel : mm_S → Prop} {L i : Nat} {xs : Nat → Int32} {σ : mm_S} (hL : L ≤ 3072) (hi : i + 6 ≤ L) (op : opI Rel 42 110 2) (hX : (xs i &&& (31 : Int32)) = (4 : Int32)) (hr : Rel σ) (ih : ∀ σ2, Rel σ2 → lw_from L xs (i + 6) σ2) : lw_from L xs i σ := by
  have hc : (nI i).toNatClampNeg = i := nI_clamp (by omega)
  obtain ⟨v, σ1, σ2, h1, h2, h3⟩ := op (L, xs) σ [xs (nI i + (1 : Int32)).toNatClampNeg, xs (nI i + (2 : Int32)).toNatClampNeg] rfl hr
  obtain ⟨h, ih⟩ := ih σ2 h3
  refine ⟨h, ?_⟩
  refine vc_head_ofStone (by rw [hc]; exact hX) (fun q => absurd q ?_) (fun _ => nI_in (by omega) (by omega)) (fun _ => ?_)
  · rw [show (Int32.ofNat L - (6 : Int32)) = nI (L - 6) from pk_sub (a := L) (b := 6) (by omega)]
    exact nI_nlt (by omega) (by omega)
  · refine vc_law_ofStone (v1 := v) (v2 := v) (σ1 := σ1) (σ2 := σ2) (by omega) (lg_in (i := i) (k := 1) (by omega) hL) (lg_in (i := i) (k := 2) (by omega) hL) h1 (lg_in (i := i) (k := 1) (by omega) hL) (lg_in (i := i) (k := 2) (by omega) hL) h2 (fun _ => ?_) (fun q => absurd rfl q)
    refine vc_law_next ?_
    rw [show nI i + (6 : Int32) = nI (i + 6) from nI_add i 6]
    exact ih
theorem ls_back {Rel : mm_S → Prop} {L i : Nat} {xs : Nat → Int32} {σ : mm_S} (hL : L ≤ 3072) (hi : i + 6 ≤ L) (op : opI Rel 43 111 1) (hX : (xs i &&& (31 : Int32)) = (5 : Int32)) (hr : Rel σ) (ih : ∀ σ2, Rel σ2 → lw_from L xs (i + 6) σ2) : lw_from L xs i σ := by
  have hc : (nI i).toNatClampNeg = i := nI_clamp (by omega)
  obtain ⟨v, σ1, σ2, h1, h2, h3⟩ := op (L, xs) σ [xs (nI i + (1 : Int32)).toNatClampNeg] rfl hr
  obtain ⟨h, ih⟩ := ih σ2 h3
  refine ⟨h, ?_⟩
  refine vc_head_back (by rw [hc]; exact hX) (fun q => absurd q ?_) (fun _ => nI_in (by omega) (by omega)) (fun _ => ?_)
  · rw [show (Int32.ofNat L - (6 : Int32)) = nI (L - 6) from pk_sub (a := L) (b := 6) (by omega)]
    exact nI_nlt (by omega) (by omega)
  · refine vc_law_back (v1 := v) (v2 := v) (σ1 := σ1) (σ2 := σ2) (by omega) (lg_in (i := i) (k := 1) (by omega) hL) h1 (lg_in (i := i) (k := 1) (by omega) hL) h2 (fun _ => ?_) (fun q => absurd rfl q)
    refine vc_law_next ?_
    rw [show nI i + (6 : Int32) = nI (i + 6) from nI_add i 6]
    exact ih
theorem ls_ring {Rel : mm_S → Prop} {L i : Nat} {xs : Nat → Int32} {σ : mm_S} (hL : L ≤ 3072) (hi : i + 6 ≤ L) (op : opL Rel 44 112 2) (hX : (xs i &&& (31 : Int32)) = (6 : Int32)) (hr : Rel σ) (ih : ∀ σ2, Rel σ2 → lw_from L xs (i + 6) σ2) : lw_from L xs i σ := by
  have hc : (nI i).toNatClampNeg = i := nI_clamp (by omega)
  obtain ⟨v, σ1, σ2, h1, h2, h3⟩ := op (L, xs) σ [xs (nI i + (1 : Int32)).toNatClampNeg, xs (nI i + (2 : Int32)).toNatClampNeg] rfl hr
  obtain ⟨h, ih⟩ := ih σ2 h3
  refine ⟨h, ?_⟩
  refine vc_head_ring (by rw [hc]; exact hX) (fun q => absurd q ?_) (fun _ => nI_in (by omega) (by omega)) (fun _ => ?_)
  · rw [show (Int32.ofNat L - (6 : Int32)) = nI (L - 6) from pk_sub (a := L) (b := 6) (by omega)]
    exact nI_nlt (by omega) (by omega)
  · refine vc_law_ring (v1 := v) (v2 := v) (σ1 := σ1) (σ2 := σ2) (by omega) (lg_in (i := i) (k := 1) (by omega) hL) (lg_in (i := i) (k := 2) (by omega) hL) h1 (lg_in (i := i) (k := 1) (by omega) hL) (lg_in (i := i) (k := 2) (by omega) hL) h2 (fun _ => ?_) (fun q => absurd rfl q)
    refine vc_law_next ?_
    rw [show nI i + (6 : Int32) = nI (i + 6) from nI_add i 6]
    exact ih
theorem ls_meet {Rel : mm_S → Prop} {L i : Nat} {xs : Nat → Int32} {σ : mm_S} (hL : L ≤ 3072) (hi : i + 6 ≤ L) (op : opI Rel 45 116 3) (hX : (xs i &&& (31 : Int32)) = (7 : Int32)) (hr : Rel σ) (ih : ∀ σ2, Rel σ2 → lw_from L xs (i + 6) σ2) : lw_from L xs i σ := by
  have hc : (nI i).toNatClampNeg = i := nI_clamp (by omega)
  obtain ⟨v, σ1, σ2, h1, h2, h3⟩ := op (L, xs) σ [xs (nI i + (1 : Int32)).toNatClampNeg, xs (nI i + (2 : Int32)).toNatClampNeg, xs (nI i + (3 : Int32)).toNatClampNeg] rfl hr
  obtain ⟨h, ih⟩ := ih σ2 h3
  refine ⟨h, ?_⟩
  refine vc_head_meet (by rw [hc]; exact hX) (fun q => absurd q ?_) (fun _ => nI_in (by omega) (by omega)) (fun _ => ?_)
  · rw [show (Int32.ofNat L - (6 : Int32)) = nI (L - 6) from pk_sub (a := L) (b := 6) (by omega)]
    exact nI_nlt (by omega) (by omega)
  · refine vc_law_meet (v1 := v) (v2 := v) (σ1 := σ1) (σ2 := σ2) (by omega) (lg_in (i := i) (k := 1) (by omega) hL) (lg_in (i := i) (k := 2) (by omega) hL) (lg_in (i := i) (k := 3) (by omega) hL) h1 (lg_in (i := i) (k := 1) (by omega) hL) (lg_in (i := i) (k := 2) (by omega) hL) (lg_in (i := i) (k := 3) (by omega) hL) h2 (fun _ => ?_) (fun q => absurd rfl q)
    refine vc_law_next ?_
    rw [show nI i + (6 : Int32) = nI (i + 6) from nI_add i 6]
    exact ih
theorem ls_first {Rel : mm_S → Prop} {L i : Nat} {xs : Nat → Int32} {σ : mm_S} (hL : L ≤ 3072) (hi : i + 6 ≤ L) (op : opI Rel 46 117 1) (hX : (xs i &&& (31 : Int32)) = (8 : Int32)) (hr : Rel σ) (ih : ∀ σ2, Rel σ2 → lw_from L xs (i + 6) σ2) : lw_from L xs i σ := by
  have hc : (nI i).toNatClampNeg = i := nI_clamp (by omega)
  obtain ⟨v, σ1, σ2, h1, h2, h3⟩ := op (L, xs) σ [xs (nI i + (1 : Int32)).toNatClampNeg] rfl hr
  obtain ⟨h, ih⟩ := ih σ2 h3
  refine ⟨h, ?_⟩
  refine vc_head_first (by rw [hc]; exact hX) (fun q => absurd q ?_) (fun _ => nI_in (by omega) (by omega)) (fun _ => ?_)
  · rw [show (Int32.ofNat L - (6 : Int32)) = nI (L - 6) from pk_sub (a := L) (b := 6) (by omega)]
    exact nI_nlt (by omega) (by omega)
  · refine vc_law_first (v1 := v) (v2 := v) (σ1 := σ1) (σ2 := σ2) (by omega) (lg_in (i := i) (k := 1) (by omega) hL) h1 (lg_in (i := i) (k := 1) (by omega) hL) h2 (fun _ => ?_) (fun q => absurd rfl q)
    refine vc_law_next ?_
    rw [show nI i + (6 : Int32) = nI (i + 6) from nI_add i 6]
    exact ih
theorem ls_wish {Rel : mm_S → Prop} {L i : Nat} {xs : Nat → Int32} {σ : mm_S} (hL : L ≤ 3072) (hi : i + 6 ≤ L) (op : opI Rel 47 119 2) (hX : (xs i &&& (31 : Int32)) = (9 : Int32)) (hr : Rel σ) (ih : ∀ σ2, Rel σ2 → lw_from L xs (i + 6) σ2) : lw_from L xs i σ := by
  have hc : (nI i).toNatClampNeg = i := nI_clamp (by omega)
  obtain ⟨v, σ1, σ2, h1, h2, h3⟩ := op (L, xs) σ [xs (nI i + (1 : Int32)).toNatClampNeg, xs (nI i + (2 : Int32)).toNatClampNeg] rfl hr
  obtain ⟨h, ih⟩ := ih σ2 h3
  refine ⟨h, ?_⟩
  refine vc_head_wish (by rw [hc]; exact hX) (fun q => absurd q ?_) (fun _ => nI_in (by omega) (by omega)) (fun _ => ?_)
  · rw [show (Int32.ofNat L - (6 : Int32)) = nI (L - 6) from pk_sub (a := L) (b := 6) (by omega)]
    exact nI_nlt (by omega) (by omega)
  · refine vc_law_wish (v1 := v) (v2 := v) (σ1 := σ1) (σ2 := σ2) (by omega) (lg_in (i := i) (k := 1) (by omega) hL) (lg_in (i := i) (k := 2) (by omega) hL) h1 (lg_in (i := i) (k := 1) (by omega) hL) (lg_in (i := i) (k := 2) (by omega) hL) h2 (fun _ => ?_) (fun q => absurd rfl q)
    refine vc_law_next ?_
    rw [show nI i + (6 : Int32) = nI (i + 6) from nI_add i 6]
    exact ih
theorem ls_ofWish {Rel : mm_S → Prop} {L i : Nat} {xs : Nat → Int32} {σ : mm_S} (hL : L ≤ 3072) (hi : i + 6 ≤ L) (op : opI Rel 48 120 2) (hX : (xs i &&& (31 : Int32)) = (10 : Int32)) (hr : Rel σ) (ih : ∀ σ2, Rel σ2 → lw_from L xs (i + 6) σ2) : lw_from L xs i σ := by
  have hc : (nI i).toNatClampNeg = i := nI_clamp (by omega)
  obtain ⟨v, σ1, σ2, h1, h2, h3⟩ := op (L, xs) σ [xs (nI i + (1 : Int32)).toNatClampNeg, xs (nI i + (2 : Int32)).toNatClampNeg] rfl hr
  obtain ⟨h, ih⟩ := ih σ2 h3
  refine ⟨h, ?_⟩
  refine vc_head_ofWish (by rw [hc]; exact hX) (fun q => absurd q ?_) (fun _ => nI_in (by omega) (by omega)) (fun _ => ?_)
  · rw [show (Int32.ofNat L - (6 : Int32)) = nI (L - 6) from pk_sub (a := L) (b := 6) (by omega)]
    exact nI_nlt (by omega) (by omega)
  · refine vc_law_ofWish (v1 := v) (v2 := v) (σ1 := σ1) (σ2 := σ2) (by omega) (lg_in (i := i) (k := 1) (by omega) hL) (lg_in (i := i) (k := 2) (by omega) hL) h1 (lg_in (i := i) (k := 1) (by omega) hL) (lg_in (i := i) (k := 2) (by omega) hL) h2 (fun _ => ?_) (fun q => absurd rfl q)
    refine vc_law_next ?_
    rw [show nI i + (6 : Int32) = nI (i + 6) from nI_add i 6]
    exact ih
theorem ls_drop {Rel : mm_S → Prop} {L i : Nat} {xs : Nat → Int32} {σ : mm_S} (hL : L ≤ 3072) (hi : i + 6 ≤ L) (op : opI Rel 49 121 1) (hX : (xs i &&& (31 : Int32)) = (11 : Int32)) (hr : Rel σ) (ih : ∀ σ2, Rel σ2 → lw_from L xs (i + 6) σ2) : lw_from L xs i σ := by
  have hc : (nI i).toNatClampNeg = i := nI_clamp (by omega)
  obtain ⟨v, σ1, σ2, h1, h2, h3⟩ := op (L, xs) σ [xs (nI i + (1 : Int32)).toNatClampNeg] rfl hr
  obtain ⟨h, ih⟩ := ih σ2 h3
  refine ⟨h, ?_⟩
  refine vc_head_drop (by rw [hc]; exact hX) (fun q => absurd q ?_) (fun _ => nI_in (by omega) (by omega)) (fun _ => ?_)
  · rw [show (Int32.ofNat L - (6 : Int32)) = nI (L - 6) from pk_sub (a := L) (b := 6) (by omega)]
    exact nI_nlt (by omega) (by omega)
  · refine vc_law_drop (v1 := v) (v2 := v) (σ1 := σ1) (σ2 := σ2) (by omega) (lg_in (i := i) (k := 1) (by omega) hL) h1 (lg_in (i := i) (k := 1) (by omega) hL) h2 (fun _ => ?_) (fun q => absurd rfl q)
    refine vc_law_next ?_
    rw [show nI i + (6 : Int32) = nI (i + 6) from nI_add i 6]
    exact ih
theorem ls_apart {Rel : mm_S → Prop} {L i : Nat} {xs : Nat → Int32} {σ : mm_S} (hL : L ≤ 3072) (hi : i + 6 ≤ L) (op : opI Rel 50 126 2) (hX : (xs i &&& (31 : Int32)) = (12 : Int32)) (hr : Rel σ) (ih : ∀ σ2, Rel σ2 → lw_from L xs (i + 6) σ2) : lw_from L xs i σ := by
  have hc : (nI i).toNatClampNeg = i := nI_clamp (by omega)
  obtain ⟨v, σ1, σ2, h1, h2, h3⟩ := op (L, xs) σ [xs (nI i + (1 : Int32)).toNatClampNeg, xs (nI i + (2 : Int32)).toNatClampNeg] rfl hr
  obtain ⟨h, ih⟩ := ih σ2 h3
  refine ⟨h, ?_⟩
  refine vc_head_apart (by rw [hc]; exact hX) (fun q => absurd q ?_) (fun _ => nI_in (by omega) (by omega)) (fun _ => ?_)
  · rw [show (Int32.ofNat L - (6 : Int32)) = nI (L - 6) from pk_sub (a := L) (b := 6) (by omega)]
    exact nI_nlt (by omega) (by omega)
  · refine vc_law_apart (v1 := v) (v2 := v) (σ1 := σ1) (σ2 := σ2) (by omega) (lg_in (i := i) (k := 1) (by omega) hL) (lg_in (i := i) (k := 2) (by omega) hL) h1 (lg_in (i := i) (k := 1) (by omega) hL) (lg_in (i := i) (k := 2) (by omega) hL) h2 (fun _ => ?_) (fun q => absurd rfl q)
    refine vc_law_next ?_
    rw [show nI i + (6 : Int32) = nI (i + 6) from nI_add i 6]
    exact ih
theorem ls_atOnce {Rel : mm_S → Prop} {L i : Nat} {xs : Nat → Int32} {σ : mm_S} (hL : L ≤ 3072) (hi : i + 6 ≤ L) (op : opI Rel 51 130 0) (hX : (xs i &&& (31 : Int32)) = (13 : Int32)) (hr : Rel σ) (ih : ∀ σ2, Rel σ2 → lw_from L xs (i + 6) σ2) : lw_from L xs i σ := by
  have hc : (nI i).toNatClampNeg = i := nI_clamp (by omega)
  obtain ⟨v, σ1, σ2, h1, h2, h3⟩ := op (L, xs) σ [] rfl hr
  obtain ⟨h, ih⟩ := ih σ2 h3
  refine ⟨h, ?_⟩
  refine vc_head_atOnce (by rw [hc]; exact hX) (fun q => absurd q ?_) (fun _ => nI_in (by omega) (by omega)) (fun _ => ?_)
  · rw [show (Int32.ofNat L - (6 : Int32)) = nI (L - 6) from pk_sub (a := L) (b := 6) (by omega)]
    exact nI_nlt (by omega) (by omega)
  · refine vc_law_atOnce (v1 := v) (v2 := v) (σ1 := σ1) (σ2 := σ2) (by omega)  h1  h2 (fun _ => ?_) (fun q => absurd rfl q)
    refine vc_law_next ?_
    rw [show nI i + (6 : Int32) = nI (i + 6) from nI_add i 6]
    exact ih
theorem ls_soonest {Rel : mm_S → Prop} {L i : Nat} {xs : Nat → Int32} {σ : mm_S} (hL : L ≤ 3072) (hi : i + 6 ≤ L) (op : opI Rel 52 134 1) (hX : (xs i &&& (31 : Int32)) = (14 : Int32)) (hr : Rel σ) (ih : ∀ σ2, Rel σ2 → lw_from L xs (i + 6) σ2) : lw_from L xs i σ := by
  have hc : (nI i).toNatClampNeg = i := nI_clamp (by omega)
  obtain ⟨v, σ1, σ2, h1, h2, h3⟩ := op (L, xs) σ [xs (nI i + (1 : Int32)).toNatClampNeg] rfl hr
  obtain ⟨h, ih⟩ := ih σ2 h3
  refine ⟨h, ?_⟩
  refine vc_head_soonest (by rw [hc]; exact hX) (fun q => absurd q ?_) (fun _ => nI_in (by omega) (by omega)) (fun _ => ?_)
  · rw [show (Int32.ofNat L - (6 : Int32)) = nI (L - 6) from pk_sub (a := L) (b := 6) (by omega)]
    exact nI_nlt (by omega) (by omega)
  · refine vc_law_soonest (v1 := v) (v2 := v) (σ1 := σ1) (σ2 := σ2) (by omega) (lg_in (i := i) (k := 1) (by omega) hL) h1 (lg_in (i := i) (k := 1) (by omega) hL) h2 (fun _ => ?_) (fun q => absurd rfl q)
    refine vc_law_next ?_
    rw [show nI i + (6 : Int32) = nI (i + 6) from nI_add i 6]
    exact ih
theorem ls_alone {Rel : mm_S → Prop} {L i : Nat} {xs : Nat → Int32} {σ : mm_S} (hL : L ≤ 3072) (hi : i + 6 ≤ L) (op : opI Rel 53 135 1) (hX : (xs i &&& (31 : Int32)) = (15 : Int32)) (hr : Rel σ) (ih : ∀ σ2, Rel σ2 → lw_from L xs (i + 6) σ2) : lw_from L xs i σ := by
  have hc : (nI i).toNatClampNeg = i := nI_clamp (by omega)
  obtain ⟨v, σ1, σ2, h1, h2, h3⟩ := op (L, xs) σ [xs (nI i + (1 : Int32)).toNatClampNeg] rfl hr
  obtain ⟨h, ih⟩ := ih σ2 h3
  refine ⟨h, ?_⟩
  refine vc_head_alone (by rw [hc]; exact hX) (fun q => absurd q ?_) (fun _ => nI_in (by omega) (by omega)) (fun _ => ?_)
  · rw [show (Int32.ofNat L - (6 : Int32)) = nI (L - 6) from pk_sub (a := L) (b := 6) (by omega)]
    exact nI_nlt (by omega) (by omega)
  · refine vc_law_alone (v1 := v) (v2 := v) (σ1 := σ1) (σ2 := σ2) (by omega) (lg_in (i := i) (k := 1) (by omega) hL) h1 (lg_in (i := i) (k := 1) (by omega) hL) h2 (fun _ => ?_) (fun q => absurd rfl q)
    refine vc_law_next ?_
    rw [show nI i + (6 : Int32) = nI (i + 6) from nI_add i 6]
    exact ih
theorem ls_sunset {Rel : mm_S → Prop} {L i : Nat} {xs : Nat → Int32} {σ : mm_S} (hL : L ≤ 3072) (hi : i + 6 ≤ L) (op : opI Rel 54 136 1) (hX : (xs i &&& (31 : Int32)) = (16 : Int32)) (hr : Rel σ) (ih : ∀ σ2, Rel σ2 → lw_from L xs (i + 6) σ2) : lw_from L xs i σ := by
  have hc : (nI i).toNatClampNeg = i := nI_clamp (by omega)
  obtain ⟨v, σ1, σ2, h1, h2, h3⟩ := op (L, xs) σ [xs (nI i + (1 : Int32)).toNatClampNeg] rfl hr
  obtain ⟨h, ih⟩ := ih σ2 h3
  refine ⟨h, ?_⟩
  refine vc_head_sunset (by rw [hc]; exact hX) (fun q => absurd q ?_) (fun _ => nI_in (by omega) (by omega)) (fun _ => ?_)
  · rw [show (Int32.ofNat L - (6 : Int32)) = nI (L - 6) from pk_sub (a := L) (b := 6) (by omega)]
    exact nI_nlt (by omega) (by omega)
  · refine vc_law_sunset (v1 := v) (v2 := v) (σ1 := σ1) (σ2 := σ2) (by omega) (lg_in (i := i) (k := 1) (by omega) hL) h1 (lg_in (i := i) (k := 1) (by omega) hL) h2 (fun _ => ?_) (fun q => absurd rfl q)
    refine vc_law_next ?_
    rw [show nI i + (6 : Int32) = nI (i + 6) from nI_add i 6]
    exact ih
theorem ls_reed {Rel : mm_S → Prop} {L i : Nat} {xs : Nat → Int32} {σ : mm_S} (hL : L ≤ 3072) (hi : i + 6 ≤ L) (op : opI Rel 55 137 2) (hX : (xs i &&& (31 : Int32)) = (17 : Int32)) (hr : Rel σ) (ih : ∀ σ2, Rel σ2 → lw_from L xs (i + 6) σ2) : lw_from L xs i σ := by
  have hc : (nI i).toNatClampNeg = i := nI_clamp (by omega)
  obtain ⟨v, σ1, σ2, h1, h2, h3⟩ := op (L, xs) σ [xs (nI i + (1 : Int32)).toNatClampNeg, xs (nI i + (2 : Int32)).toNatClampNeg] rfl hr
  obtain ⟨h, ih⟩ := ih σ2 h3
  refine ⟨h, ?_⟩
  refine vc_head_reed (by rw [hc]; exact hX) (fun q => absurd q ?_) (fun _ => nI_in (by omega) (by omega)) (fun _ => ?_)
  · rw [show (Int32.ofNat L - (6 : Int32)) = nI (L - 6) from pk_sub (a := L) (b := 6) (by omega)]
    exact nI_nlt (by omega) (by omega)
  · refine vc_law_reed (v1 := v) (v2 := v) (σ1 := σ1) (σ2 := σ2) (by omega) (lg_in (i := i) (k := 1) (by omega) hL) (lg_in (i := i) (k := 2) (by omega) hL) h1 (lg_in (i := i) (k := 1) (by omega) hL) (lg_in (i := i) (k := 2) (by omega) hL) h2 (fun _ => ?_) (fun q => absurd rfl q)
    refine vc_law_next ?_
    rw [show nI i + (6 : Int32) = nI (i + 6) from nI_add i 6]
    exact ih
theorem ls_pull {Rel : mm_S → Prop} {L i : Nat} {xs : Nat → Int32} {σ : mm_S} (hL : L ≤ 3072) (hi : i + 6 ≤ L) (op : opI Rel 56 138 1) (hX : (xs i &&& (31 : Int32)) = (18 : Int32)) (hr : Rel σ) (ih : ∀ σ2, Rel σ2 → lw_from L xs (i + 6) σ2) : lw_from L xs i σ := by
  have hc : (nI i).toNatClampNeg = i := nI_clamp (by omega)
  obtain ⟨v, σ1, σ2, h1, h2, h3⟩ := op (L, xs) σ [xs (nI i + (1 : Int32)).toNatClampNeg] rfl hr
  obtain ⟨h, ih⟩ := ih σ2 h3
  refine ⟨h, ?_⟩
  refine vc_head_pull (by rw [hc]; exact hX) (fun q => absurd q ?_) (fun _ => nI_in (by omega) (by omega)) (fun _ => ?_)
  · rw [show (Int32.ofNat L - (6 : Int32)) = nI (L - 6) from pk_sub (a := L) (b := 6) (by omega)]
    exact nI_nlt (by omega) (by omega)
  · refine vc_law_pull (v1 := v) (v2 := v) (σ1 := σ1) (σ2 := σ2) (by omega) (lg_in (i := i) (k := 1) (by omega) hL) h1 (lg_in (i := i) (k := 1) (by omega) hL) h2 (fun _ => ?_) (fun q => absurd rfl q)
    refine vc_law_next ?_
    rw [show nI i + (6 : Int32) = nI (i + 6) from nI_add i 6]
    exact ih
theorem ls_fits {Rel : mm_S → Prop} {L i : Nat} {xs : Nat → Int32} {σ : mm_S} (hL : L ≤ 3072) (hi : i + 6 ≤ L) (op : opI Rel 57 140 2) (hX : (xs i &&& (31 : Int32)) = (19 : Int32)) (hr : Rel σ) (ih : ∀ σ2, Rel σ2 → lw_from L xs (i + 6) σ2) : lw_from L xs i σ := by
  have hc : (nI i).toNatClampNeg = i := nI_clamp (by omega)
  obtain ⟨v, σ1, σ2, h1, h2, h3⟩ := op (L, xs) σ [xs (nI i + (1 : Int32)).toNatClampNeg, xs (nI i + (2 : Int32)).toNatClampNeg] rfl hr
  obtain ⟨h, ih⟩ := ih σ2 h3
  refine ⟨h, ?_⟩
  refine vc_head_fits (by rw [hc]; exact hX) (fun q => absurd q ?_) (fun _ => nI_in (by omega) (by omega)) (fun _ => ?_)
  · rw [show (Int32.ofNat L - (6 : Int32)) = nI (L - 6) from pk_sub (a := L) (b := 6) (by omega)]
    exact nI_nlt (by omega) (by omega)
  · refine vc_law_fits (v1 := v) (v2 := v) (σ1 := σ1) (σ2 := σ2) (by omega) (lg_in (i := i) (k := 1) (by omega) hL) (lg_in (i := i) (k := 2) (by omega) hL) h1 (lg_in (i := i) (k := 1) (by omega) hL) (lg_in (i := i) (k := 2) (by omega) hL) h2 (fun _ => ?_) (fun q => absurd rfl q)
    refine vc_law_next ?_
    rw [show nI i + (6 : Int32) = nI (i + 6) from nI_add i 6]
    exact ih
theorem ls_dig {Rel : mm_S → Prop} {L i : Nat} {xs : Nat → Int32} {σ : mm_S} (hL : L ≤ 3072) (hi : i + 6 ≤ L) (op : opI Rel 58 141 1) (hX : (xs i &&& (31 : Int32)) = (20 : Int32)) (hr : Rel σ) (ih : ∀ σ2, Rel σ2 → lw_from L xs (i + 6) σ2) : lw_from L xs i σ := by
  have hc : (nI i).toNatClampNeg = i := nI_clamp (by omega)
  obtain ⟨v, σ1, σ2, h1, h2, h3⟩ := op (L, xs) σ [xs (nI i + (1 : Int32)).toNatClampNeg] rfl hr
  obtain ⟨h, ih⟩ := ih σ2 h3
  refine ⟨h, ?_⟩
  refine vc_head_dig (by rw [hc]; exact hX) (fun q => absurd q ?_) (fun _ => nI_in (by omega) (by omega)) (fun _ => ?_)
  · rw [show (Int32.ofNat L - (6 : Int32)) = nI (L - 6) from pk_sub (a := L) (b := 6) (by omega)]
    exact nI_nlt (by omega) (by omega)
  · refine vc_law_dig (v1 := v) (v2 := v) (σ1 := σ1) (σ2 := σ2) (by omega) (lg_in (i := i) (k := 1) (by omega) hL) h1 (lg_in (i := i) (k := 1) (by omega) hL) h2 (fun _ => ?_) (fun q => absurd rfl q)
    refine vc_law_next ?_
    rw [show nI i + (6 : Int32) = nI (i + 6) from nI_add i 6]
    exact ih
theorem ls_sheet {Rel : mm_S → Prop} {L i : Nat} {xs : Nat → Int32} {σ : mm_S} (hL : L ≤ 3072) (hi : i + 6 ≤ L) (op : opI Rel 59 142 3) (hX : (xs i &&& (31 : Int32)) = (21 : Int32)) (hr : Rel σ) (ih : ∀ σ2, Rel σ2 → lw_from L xs (i + 6) σ2) : lw_from L xs i σ := by
  have hc : (nI i).toNatClampNeg = i := nI_clamp (by omega)
  obtain ⟨v, σ1, σ2, h1, h2, h3⟩ := op (L, xs) σ [xs (nI i + (1 : Int32)).toNatClampNeg, xs (nI i + (2 : Int32)).toNatClampNeg, xs (nI i + (3 : Int32)).toNatClampNeg] rfl hr
  obtain ⟨h, ih⟩ := ih σ2 h3
  refine ⟨h, ?_⟩
  refine vc_head_sheet (by rw [hc]; exact hX) (fun q => absurd q ?_) (fun _ => nI_in (by omega) (by omega)) (fun _ => ?_)
  · rw [show (Int32.ofNat L - (6 : Int32)) = nI (L - 6) from pk_sub (a := L) (b := 6) (by omega)]
    exact nI_nlt (by omega) (by omega)
  · refine vc_law_sheet (v1 := v) (v2 := v) (σ1 := σ1) (σ2 := σ2) (by omega) (lg_in (i := i) (k := 1) (by omega) hL) (lg_in (i := i) (k := 2) (by omega) hL) (lg_in (i := i) (k := 3) (by omega) hL) h1 (lg_in (i := i) (k := 1) (by omega) hL) (lg_in (i := i) (k := 2) (by omega) hL) (lg_in (i := i) (k := 3) (by omega) hL) h2 (fun _ => ?_) (fun q => absurd rfl q)
    refine vc_law_next ?_
    rw [show nI i + (6 : Int32) = nI (i + 6) from nI_add i 6]
    exact ih
theorem ls_lose {Rel : mm_S → Prop} {L i : Nat} {xs : Nat → Int32} {σ : mm_S} (hL : L ≤ 3072) (hi : i + 6 ≤ L) (op : opI Rel 60 143 1) (hX : (xs i &&& (31 : Int32)) = (22 : Int32)) (hr : Rel σ) (ih : ∀ σ2, Rel σ2 → lw_from L xs (i + 6) σ2) : lw_from L xs i σ := by
  have hc : (nI i).toNatClampNeg = i := nI_clamp (by omega)
  obtain ⟨v, σ1, σ2, h1, h2, h3⟩ := op (L, xs) σ [xs (nI i + (1 : Int32)).toNatClampNeg] rfl hr
  obtain ⟨h, ih⟩ := ih σ2 h3
  refine ⟨h, ?_⟩
  refine vc_head_lose (by rw [hc]; exact hX) (fun q => absurd q ?_) (fun _ => nI_in (by omega) (by omega)) (fun _ => ?_)
  · rw [show (Int32.ofNat L - (6 : Int32)) = nI (L - 6) from pk_sub (a := L) (b := 6) (by omega)]
    exact nI_nlt (by omega) (by omega)
  · refine vc_law_lose (v1 := v) (v2 := v) (σ1 := σ1) (σ2 := σ2) (by omega) (lg_in (i := i) (k := 1) (by omega) hL) h1 (lg_in (i := i) (k := 1) (by omega) hL) h2 (fun _ => ?_) (fun q => absurd rfl q)
    refine vc_law_next ?_
    rw [show nI i + (6 : Int32) = nI (i + 6) from nI_add i 6]
    exact ih
theorem ls_put {Rel : mm_S → Prop} {L i : Nat} {xs : Nat → Int32} {σ : mm_S} (hL : L ≤ 3072) (hi : i + 6 ≤ L) (op : opI Rel 61 144 3) (hX : (xs i &&& (31 : Int32)) = (23 : Int32)) (hr : Rel σ) (ih : ∀ σ2, Rel σ2 → lw_from L xs (i + 6) σ2) : lw_from L xs i σ := by
  have hc : (nI i).toNatClampNeg = i := nI_clamp (by omega)
  obtain ⟨v, σ1, σ2, h1, h2, h3⟩ := op (L, xs) σ [xs (nI i + (1 : Int32)).toNatClampNeg, xs (nI i + (2 : Int32)).toNatClampNeg, xs (nI i + (3 : Int32)).toNatClampNeg] rfl hr
  obtain ⟨h, ih⟩ := ih σ2 h3
  refine ⟨h, ?_⟩
  refine vc_head_put (by rw [hc]; exact hX) (fun q => absurd q ?_) (fun _ => nI_in (by omega) (by omega)) (fun _ => ?_)
  · rw [show (Int32.ofNat L - (6 : Int32)) = nI (L - 6) from pk_sub (a := L) (b := 6) (by omega)]
    exact nI_nlt (by omega) (by omega)
  · refine vc_law_put (v1 := v) (v2 := v) (σ1 := σ1) (σ2 := σ2) (by omega) (lg_in (i := i) (k := 1) (by omega) hL) (lg_in (i := i) (k := 2) (by omega) hL) (lg_in (i := i) (k := 3) (by omega) hL) h1 (lg_in (i := i) (k := 1) (by omega) hL) (lg_in (i := i) (k := 2) (by omega) hL) (lg_in (i := i) (k := 3) (by omega) hL) h2 (fun _ => ?_) (fun q => absurd rfl q)
    refine vc_law_next ?_
    rw [show nI i + (6 : Int32) = nI (i + 6) from nI_add i 6]
    exact ih
theorem ls_cell {Rel : mm_S → Prop} {L i : Nat} {xs : Nat → Int32} {σ : mm_S} (hL : L ≤ 3072) (hi : i + 6 ≤ L) (op : opL Rel 62 145 3) (hX : (xs i &&& (31 : Int32)) = (24 : Int32)) (hr : Rel σ) (ih : ∀ σ2, Rel σ2 → lw_from L xs (i + 6) σ2) : lw_from L xs i σ := by
  have hc : (nI i).toNatClampNeg = i := nI_clamp (by omega)
  obtain ⟨v, σ1, σ2, h1, h2, h3⟩ := op (L, xs) σ [xs (nI i + (1 : Int32)).toNatClampNeg, xs (nI i + (2 : Int32)).toNatClampNeg, xs (nI i + (3 : Int32)).toNatClampNeg] rfl hr
  obtain ⟨h, ih⟩ := ih σ2 h3
  refine ⟨h, ?_⟩
  refine vc_head_cell (by rw [hc]; exact hX) (fun q => absurd q ?_) (fun _ => nI_in (by omega) (by omega)) (fun _ => ?_)
  · rw [show (Int32.ofNat L - (6 : Int32)) = nI (L - 6) from pk_sub (a := L) (b := 6) (by omega)]
    exact nI_nlt (by omega) (by omega)
  · refine vc_law_cell (v1 := v) (v2 := v) (σ1 := σ1) (σ2 := σ2) (by omega) (lg_in (i := i) (k := 1) (by omega) hL) (lg_in (i := i) (k := 2) (by omega) hL) (lg_in (i := i) (k := 3) (by omega) hL) h1 (lg_in (i := i) (k := 1) (by omega) hL) (lg_in (i := i) (k := 2) (by omega) hL) (lg_in (i := i) (k := 3) (by omega) hL) h2 (fun _ => ?_) (fun q => absurd rfl q)
    refine vc_law_next ?_
    rw [show nI i + (6 : Int32) = nI (i + 6) from nI_add i 6]
    exact ih
theorem ls_copy {Rel : mm_S → Prop} {L i : Nat} {xs : Nat → Int32} {σ : mm_S} (hL : L ≤ 3072) (hi : i + 6 ≤ L) (op : opI Rel 63 146 5) (hX : (xs i &&& (31 : Int32)) = (25 : Int32)) (hr : Rel σ) (ih : ∀ σ2, Rel σ2 → lw_from L xs (i + 6) σ2) : lw_from L xs i σ := by
  have hc : (nI i).toNatClampNeg = i := nI_clamp (by omega)
  obtain ⟨v, σ1, σ2, h1, h2, h3⟩ := op (L, xs) σ [xs (nI i + (1 : Int32)).toNatClampNeg, xs (nI i + (2 : Int32)).toNatClampNeg, xs (nI i + (3 : Int32)).toNatClampNeg, xs (nI i + (4 : Int32)).toNatClampNeg, xs (nI i + (5 : Int32)).toNatClampNeg] rfl hr
  obtain ⟨h, ih⟩ := ih σ2 h3
  refine ⟨h, ?_⟩
  refine vc_head_copy (by rw [hc]; exact hX) (fun q => absurd q ?_) (fun _ => nI_in (by omega) (by omega)) (fun _ => ?_)
  · rw [show (Int32.ofNat L - (6 : Int32)) = nI (L - 6) from pk_sub (a := L) (b := 6) (by omega)]
    exact nI_nlt (by omega) (by omega)
  · refine vc_law_copy (v1 := v) (v2 := v) (σ1 := σ1) (σ2 := σ2) (by omega) (lg_in (i := i) (k := 1) (by omega) hL) (lg_in (i := i) (k := 2) (by omega) hL) (lg_in (i := i) (k := 3) (by omega) hL) (lg_in (i := i) (k := 4) (by omega) hL) (lg_in (i := i) (k := 5) (by omega) hL) h1 (lg_in (i := i) (k := 1) (by omega) hL) (lg_in (i := i) (k := 2) (by omega) hL) (lg_in (i := i) (k := 3) (by omega) hL) (lg_in (i := i) (k := 4) (by omega) hL) (lg_in (i := i) (k := 5) (by omega) hL) h2 (fun _ => ?_) (fun q => absurd rfl q)
    refine vc_law_next ?_
    rw [show nI i + (6 : Int32) = nI (i + 6) from nI_add i 6]
    exact ih
theorem ls_tell {Rel : mm_S → Prop} {L i : Nat} {xs : Nat → Int32} {σ : mm_S} (hL : L ≤ 3072) (hi : i + 6 ≤ L) (op : opI Rel 64 148 1) (hX : (xs i &&& (31 : Int32)) = (26 : Int32)) (hr : Rel σ) (ih : ∀ σ2, Rel σ2 → lw_from L xs (i + 6) σ2) : lw_from L xs i σ := by
  have hc : (nI i).toNatClampNeg = i := nI_clamp (by omega)
  obtain ⟨v, σ1, σ2, h1, h2, h3⟩ := op (L, xs) σ [xs (nI i + (1 : Int32)).toNatClampNeg] rfl hr
  obtain ⟨h, ih⟩ := ih σ2 h3
  refine ⟨h, ?_⟩
  refine vc_head_tell (by rw [hc]; exact hX) (fun q => absurd q ?_) (fun _ => nI_in (by omega) (by omega)) (fun _ => ?_)
  · rw [show (Int32.ofNat L - (6 : Int32)) = nI (L - 6) from pk_sub (a := L) (b := 6) (by omega)]
    exact nI_nlt (by omega) (by omega)
  · refine vc_law_tell (v1 := v) (v2 := v) (σ1 := σ1) (σ2 := σ2) (by omega) (lg_in (i := i) (k := 1) (by omega) hL) h1 (lg_in (i := i) (k := 1) (by omega) hL) h2 (fun _ => ?_) (fun q => absurd rfl q)
    refine vc_law_next ?_
    rw [show nI i + (6 : Int32) = nI (i + 6) from nI_add i 6]
    exact ih
theorem ls_make {Rel : mm_S → Prop} {L i : Nat} {xs : Nat → Int32} {σ : mm_S} (hL : L ≤ 3072) (hi : i + 6 ≤ L) (op : opI Rel 65 149 1) (hX : (xs i &&& (31 : Int32)) = (27 : Int32)) (hr : Rel σ) (ih : ∀ σ2, Rel σ2 → lw_from L xs (i + 6) σ2) : lw_from L xs i σ := by
  have hc : (nI i).toNatClampNeg = i := nI_clamp (by omega)
  obtain ⟨v, σ1, σ2, h1, h2, h3⟩ := op (L, xs) σ [xs (nI i + (1 : Int32)).toNatClampNeg] rfl hr
  obtain ⟨h, ih⟩ := ih σ2 h3
  refine ⟨h, ?_⟩
  refine vc_head_make (by rw [hc]; exact hX) (fun q => absurd q ?_) (fun _ => nI_in (by omega) (by omega)) (fun _ => ?_)
  · rw [show (Int32.ofNat L - (6 : Int32)) = nI (L - 6) from pk_sub (a := L) (b := 6) (by omega)]
    exact nI_nlt (by omega) (by omega)
  · refine vc_law_make (v1 := v) (v2 := v) (σ1 := σ1) (σ2 := σ2) (by omega) (lg_in (i := i) (k := 1) (by omega) hL) h1 (lg_in (i := i) (k := 1) (by omega) hL) h2 (fun _ => ?_) (fun q => absurd rfl q)
    refine vc_law_next ?_
    rw [show nI i + (6 : Int32) = nI (i + 6) from nI_add i 6]
    exact ih
theorem ls_as {Rel : mm_S → Prop} {L i : Nat} {xs : Nat → Int32} {σ : mm_S} (hL : L ≤ 3072) (hi : i + 6 ≤ L) (op : opI Rel 66 150 2) (hX : (xs i &&& (31 : Int32)) = (28 : Int32)) (hr : Rel σ) (ih : ∀ σ2, Rel σ2 → lw_from L xs (i + 6) σ2) : lw_from L xs i σ := by
  have hc : (nI i).toNatClampNeg = i := nI_clamp (by omega)
  obtain ⟨v, σ1, σ2, h1, h2, h3⟩ := op (L, xs) σ [xs (nI i + (1 : Int32)).toNatClampNeg, xs (nI i + (2 : Int32)).toNatClampNeg] rfl hr
  obtain ⟨h, ih⟩ := ih σ2 h3
  refine ⟨h, ?_⟩
  refine vc_head_as (by rw [hc]; exact hX) (fun q => absurd q ?_) (fun _ => nI_in (by omega) (by omega)) (fun _ => ?_)
  · rw [show (Int32.ofNat L - (6 : Int32)) = nI (L - 6) from pk_sub (a := L) (b := 6) (by omega)]
    exact nI_nlt (by omega) (by omega)
  · refine vc_law_as (v1 := v) (v2 := v) (σ1 := σ1) (σ2 := σ2) (by omega) (lg_in (i := i) (k := 1) (by omega) hL) (lg_in (i := i) (k := 2) (by omega) hL) h1 (lg_in (i := i) (k := 1) (by omega) hL) (lg_in (i := i) (k := 2) (by omega) hL) h2 (fun _ => ?_) (fun q => absurd rfl q)
    refine vc_law_next ?_
    rw [show nI i + (6 : Int32) = nI (i + 6) from nI_add i 6]
    exact ih
theorem ls_trace {Rel : mm_S → Prop} {L i : Nat} {xs : Nat → Int32} {σ : mm_S} (hL : L ≤ 3072) (hi : i + 6 ≤ L) (op : opI Rel 67 151 0) (hX : (xs i &&& (31 : Int32)) = (29 : Int32)) (hr : Rel σ) (ih : ∀ σ2, Rel σ2 → lw_from L xs (i + 6) σ2) : lw_from L xs i σ := by
  have hc : (nI i).toNatClampNeg = i := nI_clamp (by omega)
  obtain ⟨v, σ1, σ2, h1, h2, h3⟩ := op (L, xs) σ [] rfl hr
  obtain ⟨h, ih⟩ := ih σ2 h3
  refine ⟨h, ?_⟩
  refine vc_head_trace (by rw [hc]; exact hX) (fun q => absurd q ?_) (fun _ => nI_in (by omega) (by omega)) (fun _ => ?_)
  · rw [show (Int32.ofNat L - (6 : Int32)) = nI (L - 6) from pk_sub (a := L) (b := 6) (by omega)]
    exact nI_nlt (by omega) (by omega)
  · refine vc_law_trace (v1 := v) (v2 := v) (σ1 := σ1) (σ2 := σ2) (by omega)  h1  h2 (fun _ => ?_) (fun q => absurd rfl q)
    refine vc_law_next ?_
    rw [show nI i + (6 : Int32) = nI (i + 6) from nI_add i 6]
    exact ih
theorem ls_fault {Rel : mm_S → Prop} {L i : Nat} {xs : Nat → Int32} {σ : mm_S} (hL : L ≤ 3072) (hi : i + 6 ≤ L) (op : opI Rel 68 152 0) (hX : (xs i &&& (31 : Int32)) = (30 : Int32)) (hr : Rel σ) (ih : ∀ σ2, Rel σ2 → lw_from L xs (i + 6) σ2) : lw_from L xs i σ := by
  have hc : (nI i).toNatClampNeg = i := nI_clamp (by omega)
  obtain ⟨v, σ1, σ2, h1, h2, h3⟩ := op (L, xs) σ [] rfl hr
  obtain ⟨h, ih⟩ := ih σ2 h3
  refine ⟨h, ?_⟩
  refine vc_head_fault (by rw [hc]; exact hX) (fun q => absurd q ?_) (fun _ => nI_in (by omega) (by omega)) (fun _ => ?_)
  · rw [show (Int32.ofNat L - (6 : Int32)) = nI (L - 6) from pk_sub (a := L) (b := 6) (by omega)]
    exact nI_nlt (by omega) (by omega)
  · refine vc_law_fault (v1 := v) (v2 := v) (σ1 := σ1) (σ2 := σ2) (by omega)  h1  h2 (fun _ => ?_) (fun q => absurd rfl q)
    refine vc_law_next ?_
    rw [show nI i + (6 : Int32) = nI (i + 6) from nI_add i 6]
    exact ih
theorem ls_many {Rel : mm_S → Prop} {L i : Nat} {xs : Nat → Int32} {σ : mm_S} (hL : L ≤ 3072) (hi : i + 6 ≤ L) (op : opI Rel 69 153 1) (hX : (xs i &&& (31 : Int32)) = (31 : Int32)) (hr : Rel σ) (ih : ∀ σ2, Rel σ2 → lw_from L xs (i + 6) σ2) : lw_from L xs i σ := by
  have hc : (nI i).toNatClampNeg = i := nI_clamp (by omega)
  obtain ⟨v, σ1, σ2, h1, h2, h3⟩ := op (L, xs) σ [xs (nI i + (1 : Int32)).toNatClampNeg] rfl hr
  obtain ⟨h, ih⟩ := ih σ2 h3
  refine ⟨h, ?_⟩
  refine vc_head_many (by rw [hc]; exact hX) (fun q => absurd q ?_) (fun _ => nI_in (by omega) (by omega)) (fun _ => ?_)
  · rw [show (Int32.ofNat L - (6 : Int32)) = nI (L - 6) from pk_sub (a := L) (b := 6) (by omega)]
    exact nI_nlt (by omega) (by omega)
  · refine vc_law_many (v1 := v) (v2 := v) (σ1 := σ1) (σ2 := σ2) (by omega) (lg_in (i := i) (k := 1) (by omega) hL) h1 (lg_in (i := i) (k := 1) (by omega) hL) h2 (fun _ => ?_) (fun q => absurd rfl q)
    refine vc_law_next ?_
    rw [show nI i + (6 : Int32) = nI (i + 6) from nI_add i 6]
    exact ih
set_option maxRecDepth 100000 in
theorem vc_law_exit {d : Nat} {x : Nat × (Nat → Int32)} {σ : mm_S} {i : Int32} {r : Option Value × mm_H} (k1 : ((Int32.ofNat x.1) - (6 : Int32)) < i → (some (.int (1 : Int32)), HH x σ) = r) (k2 : ¬ ((Int32.ofNat x.1) - (6 : Int32)) < i → mm_Runs d 158 (27, [some (.ref 1), some (.ref 2), some (.ref 37), some (.int i)], [], HH x σ) r) : mm_Runs d 158 (18, [some (.ref 1), some (.ref 2), some (.ref 37), some (.int i)], [], HH x σ) r := by
  refine mm_go 6 (F' := (bif mm_cond .gt i ((Int32.ofNat x.1) - (6 : Int32)) then 1150 else 27, [some (.ref 1), some (.ref 2), some (.ref 37), some (.int i)], [], HH x σ)) rfl ?_
  refine mb_gt (fun h1 => ?_) (fun h1 => ?_)
  · refine mm_go 1 (F' := (1151, [some (.ref 1), some (.ref 2), some (.ref 37), some (.int i)], [.int (1 : Int32)], HH x σ)) rfl ?_
    exact mm_rtz rfl rfl (Or.inr rfl) (k1 h1)
  · exact mm_wk (by exact (And.intro rfl (And.intro rfl (And.intro rfl (And.intro rfl True.intro))))) (k2 h1)
theorem lw_exit {L i : Nat} {xs : Nat → Int32} {σ : mm_S} (hL : L ≤ 3072) (hi : ¬ i + 6 ≤ L) (hi2 : i < 4000) : mm_Runs 1000 158 (18, [some (.ref 1), some (.ref 2), some (.ref 37), some (.int (nI i))], [], HH (L, xs) σ) (some (.int 1), HH (L, xs) σ) := by
  refine vc_law_exit (fun _ => rfl) (fun q => absurd ?_ q)
  show Int32.ofNat L - (6 : Int32) < nI i
  rw [Int32.lt_iff_toInt_lt]
  have e1 : (nI L - nI 6).toInt = (L : Int) - (6 : Nat) := pk_sub_toInt (by omega) (by omega)
  have e2 : (nI i).toInt = (i : Int) := nI_toInt (by omega)
  show (nI L - nI 6).toInt < (nI i).toInt
  rw [e1, e2]
  omega
theorem law_of {Rel : mm_S → Prop} (h0 : Rel s0) (o_pond : opI Rel 38 97 4) (o_water : opI Rel 39 103 1) (o_far : opI Rel 40 104 2) (o_stone : opI Rel 41 108 3) (o_ofStone : opI Rel 42 110 2) (o_back : opI Rel 43 111 1) (o_ring : opL Rel 44 112 2) (o_meet : opI Rel 45 116 3) (o_first : opI Rel 46 117 1) (o_wish : opI Rel 47 119 2) (o_ofWish : opI Rel 48 120 2) (o_drop : opI Rel 49 121 1) (o_apart : opI Rel 50 126 2) (o_atOnce : opI Rel 51 130 0) (o_soonest : opI Rel 52 134 1) (o_alone : opI Rel 53 135 1) (o_sunset : opI Rel 54 136 1) (o_reed : opI Rel 55 137 2) (o_pull : opI Rel 56 138 1) (o_fits : opI Rel 57 140 2) (o_dig : opI Rel 58 141 1) (o_sheet : opI Rel 59 142 3) (o_lose : opI Rel 60 143 1) (o_put : opI Rel 61 144 3) (o_cell : opL Rel 62 145 3) (o_copy : opI Rel 63 146 5) (o_tell : opI Rel 64 148 1) (o_make : opI Rel 65 149 1) (o_as : opI Rel 66 150 2) (o_trace : opI Rel 67 151 0) (o_fault : opI Rel 68 152 0) (o_many : opI Rel 69 153 1) : law_runs := by
  intro L xs hL
  have key : ∀ (n i : Nat) (σ : mm_S), L - i < n → i < 4000 → Rel σ → lw_from L xs i σ := by
    intro n
    induction n with
    | zero => intro i σ h; exact absurd h (Nat.not_lt_zero _)
    | succ n ih =>
      intro i σ h hb hr
      by_cases hi : i + 6 ≤ L
      · have ih2 : ∀ σ2, Rel σ2 → lw_from L xs (i + 6) σ2 := fun σ2 h2 => ih (i + 6) σ2 (by omega) (by omega) h2
        rcases mm_sw0_31 (xs i &&& (31 : Int32)) with hX | hX | hX | hX | hX | hX | hX | hX | hX | hX | hX | hX | hX | hX | hX | hX | hX | hX | hX | hX | hX | hX | hX | hX | hX | hX | hX | hX | hX | hX | hX | hX | hX
        · exact ls_pond hL hi o_pond hX hr ih2
        · exact ls_water hL hi o_water hX hr ih2
        · exact ls_far hL hi o_far hX hr ih2
        · exact ls_stone hL hi o_stone hX hr ih2
        · exact ls_ofStone hL hi o_ofStone hX hr ih2
        · exact ls_back hL hi o_back hX hr ih2
        · exact ls_ring hL hi o_ring hX hr ih2
        · exact ls_meet hL hi o_meet hX hr ih2
        · exact ls_first hL hi o_first hX hr ih2
        · exact ls_wish hL hi o_wish hX hr ih2
        · exact ls_ofWish hL hi o_ofWish hX hr ih2
        · exact ls_drop hL hi o_drop hX hr ih2
        · exact ls_apart hL hi o_apart hX hr ih2
        · exact ls_atOnce hL hi o_atOnce hX hr ih2
        · exact ls_soonest hL hi o_soonest hX hr ih2
        · exact ls_alone hL hi o_alone hX hr ih2
        · exact ls_sunset hL hi o_sunset hX hr ih2
        · exact ls_reed hL hi o_reed hX hr ih2
        · exact ls_pull hL hi o_pull hX hr ih2
        · exact ls_fits hL hi o_fits hX hr ih2
        · exact ls_dig hL hi o_dig hX hr ih2
        · exact ls_sheet hL hi o_sheet hX hr ih2
        · exact ls_lose hL hi o_lose hX hr ih2
        · exact ls_put hL hi o_put hX hr ih2
        · exact ls_cell hL hi o_cell hX hr ih2
        · exact ls_copy hL hi o_copy hX hr ih2
        · exact ls_tell hL hi o_tell hX hr ih2
        · exact ls_make hL hi o_make hX hr ih2
        · exact ls_as hL hi o_as hX hr ih2
        · exact ls_trace hL hi o_trace hX hr ih2
        · exact ls_fault hL hi o_fault hX hr ih2
        · exact ls_many hL hi o_many hX hr ih2
        · exfalso
          obtain ⟨j, hj, e⟩ := pk_andE (xs i) (m := 31) 5 (by decide)
          rw [e, nI_toInt (by omega)] at hX
          omega
      · refine ⟨HH (L, xs) σ, ?_⟩
        exact lw_exit hL hi hb
  obtain ⟨h, n, hn⟩ := key (L + 1) 0 s0 (by omega) (by omega) h0
  exact ⟨n, h, hn⟩
