/-! far, ofStone, ring (written by wip/whole/t45.py) -/
theorem vc_far {d : Nat} {x : Nat × (Nat → Int32)} {σ : mm_S} {a b : Int32} {v1 : Int32} {σ1 : mm_S} {r : Option Value × mm_H} (hd : 1 ≤ d) (k1 : ¬ (p_has_13 σ a) → (some (.int (-1 : Int32)), HH x σ) = r) (k2 : (p_has_13 σ a) → (p_has_13 σ b) → mm_Runs (d - 1) 10 (0, [some (.ref 13), some (.int a), some (.int b), none, none], [], HH x σ) (some (.int v1), HH x σ1)) (k3 : (p_has_13 σ a) → (p_has_13 σ b) → (some (.int v1), HH x σ1) = r) (k4 : (p_has_13 σ a) → ¬ (p_has_13 σ b) → (some (.int (-1 : Int32)), HH x σ) = r) : mm_Runs d 40 (0, [some (.ref 2), some (.int a), some (.int b)], [], HH x σ) r := by
  refine mm_go 3 (F' := (5, [some (.ref 2), some (.int a), some (.int b)], [.int a, .ref 13], HH x σ)) rfl ?_
  refine mm_kl (z := 8) (as := [.ref 13, .int a]) (S' := []) (L2 := [some (.ref 13), some (.int a)]) (v := some (.int (mm_b (p_has_13 σ a)))) (h1 := HH x σ) rfl rfl rfl rfl rfl (by omega) (r_has_13 (by omega)) ?_
  show mm_Runs d 40 (8, [some (.ref 2), some (.int a), some (.int b)], [.int (mm_b (p_has_13 σ a))], HH x σ) r
  refine mm_go 1 (F' := (bif mm_cond .eq (mm_b (p_has_13 σ a)) 0 then 22 else 11, [some (.ref 2), some (.int a), some (.int b)], [], HH x σ)) rfl ?_
  refine mb_beq (fun h1 => ?_) (fun h1 => ?_)
  · refine mm_go 1 (F' := (23, [some (.ref 2), some (.int a), some (.int b)], [.int (-1 : Int32)], HH x σ)) rfl ?_
    exact mm_rt rfl rfl (k1 h1)
  · refine mm_go 3 (F' := (16, [some (.ref 2), some (.int a), some (.int b)], [.int b, .ref 13], HH x σ)) rfl ?_
    refine mm_kl (z := 8) (as := [.ref 13, .int b]) (S' := []) (L2 := [some (.ref 13), some (.int b)]) (v := some (.int (mm_b (p_has_13 σ b)))) (h1 := HH x σ) rfl rfl rfl rfl rfl (by omega) (r_has_13 (by omega)) ?_
    show mm_Runs d 40 (19, [some (.ref 2), some (.int a), some (.int b)], [.int (mm_b (p_has_13 σ b))], HH x σ) r
    refine mm_go 1 (F' := (bif mm_cond .ne (mm_b (p_has_13 σ b)) 0 then 24 else 22, [some (.ref 2), some (.int a), some (.int b)], [], HH x σ)) rfl ?_
    refine mb_bne (fun h2 => ?_) (fun h2 => ?_)
    · refine mm_go 4 (F' := (30, [some (.ref 2), some (.int a), some (.int b)], [.int b, .int a, .ref 13], HH x σ)) rfl ?_
      refine mm_kl (z := 10) (as := [.ref 13, .int a, .int b]) (S' := []) (L2 := [some (.ref 13), some (.int a), some (.int b), none, none]) (v := some (.int v1)) (h1 := HH x σ1) rfl rfl rfl rfl rfl (by omega) (k2 h1 h2) ?_
      show mm_Runs d 40 (33, [some (.ref 2), some (.int a), some (.int b)], [.int v1], HH x σ1) r
      exact mm_rt rfl rfl (k3 h1 h2)
    · refine mm_go 1 (F' := (23, [some (.ref 2), some (.int a), some (.int b)], [.int (-1 : Int32)], HH x σ)) rfl ?_
      exact mm_rt rfl rfl (k4 h1 h2)
theorem vc_ofStone {d : Nat} {x : Nat × (Nat → Int32)} {σ : mm_S} {k w : Int32} {v1 : Int32} {σ1 : mm_S} {r : Option Value × mm_H} (hd : 1 ≤ d) (k1 : (p_has_16 σ k) → w = (0 : Int32) → ¬ (k < 0 ∨ 8 ≤ k.toNatClampNeg)) (k2 : (p_has_16 σ k) → w = (0 : Int32) → (some (.int ((σ.2.2.1 17) k.toNatClampNeg)), HH x σ) = r) (k3 : (p_has_16 σ k) → w = (1 : Int32) → ¬ (k < 0 ∨ 8 ≤ k.toNatClampNeg)) (k4 : (p_has_16 σ k) → w = (1 : Int32) → (some (.int ((σ.2.2.1 18) k.toNatClampNeg)), HH x σ) = r) (k5 : (p_has_16 σ k) → w = (2 : Int32) → ¬ (k < 0 ∨ 8 ≤ k.toNatClampNeg)) (k6 : (p_has_16 σ k) → w = (2 : Int32) → (some (.int ((σ.2.2.1 19) k.toNatClampNeg)), HH x σ) = r) (k7 : (p_has_16 σ k) → w = (3 : Int32) → ¬ (k < 0 ∨ 8 ≤ k.toNatClampNeg)) (k8 : (p_has_16 σ k) → w = (3 : Int32) → ¬ (k < 0 ∨ 8 ≤ k.toNatClampNeg)) (k9 : (p_has_16 σ k) → w = (3 : Int32) → ¬ (k < 0 ∨ 8 ≤ k.toNatClampNeg)) (k10 : (p_has_16 σ k) → w = (3 : Int32) → ¬ (((σ.2.2.1 17) k.toNatClampNeg) < 0 ∨ 3 ≤ ((σ.2.2.1 17) k.toNatClampNeg).toNatClampNeg)) (k11 : (p_has_16 σ k) → w = (3 : Int32) → mm_Runs (d - 1) 11 (0, [some (.ref 13), some (.int ((σ.2.2.1 18) k.toNatClampNeg)), some (.int (f_reach_16 σ k))], [], HH x σ) (some (.int v1), HH x σ1)) (k12 : (p_has_16 σ k) → w = (3 : Int32) → (some (.int (((σ.2.2.1 19) k.toNatClampNeg) + v1)), HH x σ1) = r) (k13 : (p_has_16 σ k) → (¬ w = (0 : Int32) ∧ ¬ w = (1 : Int32) ∧ ¬ w = (2 : Int32) ∧ ¬ w = (3 : Int32)) → (some (.int (-2 : Int32)), HH x σ) = r) (k14 : ¬ (p_has_16 σ k) → (some (.int (-1 : Int32)), HH x σ) = r) : mm_Runs d 42 (0, [some (.ref 2), some (.int k), some (.int w)], [], HH x σ) r := by
  refine mm_go 3 (F' := (5, [some (.ref 2), some (.int k), some (.int w)], [.int k, .ref 16], HH x σ)) rfl ?_
  refine mm_kl (z := 0) (as := [.ref 16, .int k]) (S' := []) (L2 := [some (.ref 16), some (.int k)]) (v := some (.int (mm_b (p_has_16 σ k)))) (h1 := HH x σ) rfl rfl rfl rfl rfl (by omega) (r_has_16 (by omega)) ?_
  show mm_Runs d 42 (8, [some (.ref 2), some (.int k), some (.int w)], [.int (mm_b (p_has_16 σ k))], HH x σ) r
  refine mm_go 1 (F' := (bif mm_cond .ne (mm_b (p_has_16 σ k)) 0 then 13 else 11, [some (.ref 2), some (.int k), some (.int w)], [], HH x σ)) rfl ?_
  refine mb_bne (fun h1 => ?_) (fun h1 => ?_)
  · refine mm_go 1 (F' := (14, [some (.ref 2), some (.int k), some (.int w)], [.int w], HH x σ)) rfl ?_
    rcases mm_sw0_3 w with h2 | h2 | h2 | h2 | h2
    · refine mm_tsI h2 (F' := (44, [some (.ref 2), some (.int k), some (.int w)], [], HH x σ)) rfl ?_
      refine mm_go 4 (F' := (52, [some (.ref 2), some (.int k), some (.int w)], [.int k, .ref 17], HH x σ)) rfl ?_
      refine mm_gd (F' := (53, [some (.ref 2), some (.int k), some (.int w)], [.int ((σ.2.2.1 17) k.toNatClampNeg)], HH x σ)) rfl (k1 h1 h2) ?_
      exact mm_rt rfl rfl (k2 h1 h2)
    · refine mm_tsI h2 (F' := (54, [some (.ref 2), some (.int k), some (.int w)], [], HH x σ)) rfl ?_
      refine mm_go 4 (F' := (62, [some (.ref 2), some (.int k), some (.int w)], [.int k, .ref 18], HH x σ)) rfl ?_
      refine mm_gd (F' := (63, [some (.ref 2), some (.int k), some (.int w)], [.int ((σ.2.2.1 18) k.toNatClampNeg)], HH x σ)) rfl (k3 h1 h2) ?_
      exact mm_rt rfl rfl (k4 h1 h2)
    · refine mm_tsI h2 (F' := (64, [some (.ref 2), some (.int k), some (.int w)], [], HH x σ)) rfl ?_
      refine mm_go 4 (F' := (72, [some (.ref 2), some (.int k), some (.int w)], [.int k, .ref 19], HH x σ)) rfl ?_
      refine mm_gd (F' := (73, [some (.ref 2), some (.int k), some (.int w)], [.int ((σ.2.2.1 19) k.toNatClampNeg)], HH x σ)) rfl (k5 h1 h2) ?_
      exact mm_rt rfl rfl (k6 h1 h2)
    · refine mm_tsI h2 (F' := (74, [some (.ref 2), some (.int k), some (.int w)], [], HH x σ)) rfl ?_
      refine mm_go 4 (F' := (82, [some (.ref 2), some (.int k), some (.int w)], [.int k, .ref 19], HH x σ)) rfl ?_
      refine mm_gd (F' := (83, [some (.ref 2), some (.int k), some (.int w)], [.int ((σ.2.2.1 19) k.toNatClampNeg)], HH x σ)) rfl (k7 h1 h2) ?_
      refine mm_go 6 (F' := (95, [some (.ref 2), some (.int k), some (.int w)], [.int k, .ref 18, .ref 13, .int ((σ.2.2.1 19) k.toNatClampNeg)], HH x σ)) rfl ?_
      refine mm_gd (F' := (96, [some (.ref 2), some (.int k), some (.int w)], [.int ((σ.2.2.1 18) k.toNatClampNeg), .ref 13, .int ((σ.2.2.1 19) k.toNatClampNeg)], HH x σ)) rfl (k8 h1 h2) ?_
      refine mm_go 3 (F' := (101, [some (.ref 2), some (.int k), some (.int w)], [.int k, .ref 16, .int ((σ.2.2.1 18) k.toNatClampNeg), .ref 13, .int ((σ.2.2.1 19) k.toNatClampNeg)], HH x σ)) rfl ?_
      refine mm_kl (z := 1) (as := [.ref 16, .int k]) (S' := [.int ((σ.2.2.1 18) k.toNatClampNeg), .ref 13, .int ((σ.2.2.1 19) k.toNatClampNeg)]) (L2 := [some (.ref 16), some (.int k)]) (v := some (.int (f_reach_16 σ k))) (h1 := HH x σ) rfl rfl rfl rfl rfl (by omega) (r_reach_16 (by omega) (k9 h1 h2) (k10 h1 h2)) ?_
      show mm_Runs d 42 (104, [some (.ref 2), some (.int k), some (.int w)], [.int (f_reach_16 σ k), .int ((σ.2.2.1 18) k.toNatClampNeg), .ref 13, .int ((σ.2.2.1 19) k.toNatClampNeg)], HH x σ) r
      refine mm_kl (z := 11) (as := [.ref 13, .int ((σ.2.2.1 18) k.toNatClampNeg), .int (f_reach_16 σ k)]) (S' := [.int ((σ.2.2.1 19) k.toNatClampNeg)]) (L2 := [some (.ref 13), some (.int ((σ.2.2.1 18) k.toNatClampNeg)), some (.int (f_reach_16 σ k))]) (v := some (.int v1)) (h1 := HH x σ1) rfl rfl rfl rfl rfl (by omega) (k11 h1 h2) ?_
      show mm_Runs d 42 (107, [some (.ref 2), some (.int k), some (.int w)], [.int v1, .int ((σ.2.2.1 19) k.toNatClampNeg)], HH x σ1) r
      refine mm_go 1 (F' := (108, [some (.ref 2), some (.int k), some (.int w)], [.int (((σ.2.2.1 19) k.toNatClampNeg) + v1)], HH x σ1)) rfl ?_
      exact mm_rt rfl rfl (k12 h1 h2)
    · refine mm_ti (F' := (109, [some (.ref 2), some (.int k), some (.int w)], [], HH x σ)) rfl h2 ?_
      refine mm_go 1 (F' := (111, [some (.ref 2), some (.int k), some (.int w)], [.int (-2 : Int32)], HH x σ)) rfl ?_
      exact mm_rt rfl rfl (k13 h1 (mm_sn0_3 h2))
  · refine mm_go 1 (F' := (12, [some (.ref 2), some (.int k), some (.int w)], [.int (-1 : Int32)], HH x σ)) rfl ?_
    exact mm_rt rfl rfl (k14 h1)
theorem vc_ring {d : Nat} {x : Nat × (Nat → Int32)} {σ : mm_S} {k m : Int32} {v1 : Int32} {σ1 : mm_S} {r : Option Value × mm_H} (hd : 2 ≤ d) (k1 : ¬ (p_has_16 σ k) → (some (.long (-9223372036854775808 : Int64)), HH x σ) = r) (k2 : (p_has_16 σ k) → m < 0 → (some (.long (-9223372036854775808 : Int64)), HH x σ) = r) (k3 : (p_has_16 σ k) → ¬ m < 0 → m ≤ (999 : Int32) → ¬ (k < 0 ∨ 8 ≤ k.toNatClampNeg)) (k4 : (p_has_16 σ k) → ¬ m < 0 → m ≤ (999 : Int32) → ¬ (k < 0 ∨ 8 ≤ k.toNatClampNeg)) (k5 : (p_has_16 σ k) → ¬ m < 0 → m ≤ (999 : Int32) → ¬ (((σ.2.2.1 17) k.toNatClampNeg) < 0 ∨ 3 ≤ ((σ.2.2.1 17) k.toNatClampNeg).toNatClampNeg)) (k6 : (p_has_16 σ k) → ¬ m < 0 → m ≤ (999 : Int32) → mm_Runs (d - 1) 11 (0, [some (.ref 13), some (.int ((σ.2.2.1 18) k.toNatClampNeg)), some (.int (f_reach_16 σ k))], [], HH x σ) (some (.int v1), HH x σ1)) (k7 : (p_has_16 σ k) → ¬ m < 0 → m ≤ (999 : Int32) → ¬ (k < 0 ∨ 8 ≤ k.toNatClampNeg)) (k8 : (p_has_16 σ k) → ¬ m < 0 → m ≤ (999 : Int32) → ¬ (k < 0 ∨ 8 ≤ k.toNatClampNeg)) (k9 : (p_has_16 σ k) → ¬ m < 0 → m ≤ (999 : Int32) → (p_has_13 σ1 ((σ1.2.2.1 18) k.toNatClampNeg)) → ¬ (m - ((σ1.2.2.1 19) k.toNatClampNeg)) < 0 → ¬ v1 ≤ (m - ((σ1.2.2.1 19) k.toNatClampNeg)) → ¬ (((((σ1.2.2.1 18) k.toNatClampNeg) * (42 : Int32)) + (m - ((σ1.2.2.1 19) k.toNatClampNeg))) < 0 ∨ 1764 ≤ ((((σ1.2.2.1 18) k.toNatClampNeg) * (42 : Int32)) + (m - ((σ1.2.2.1 19) k.toNatClampNeg))).toNatClampNeg)) (k10 : (p_has_16 σ k) → ¬ m < 0 → m ≤ (999 : Int32) → (some (.long (f_ringAt σ1 ((σ1.2.2.1 18) k.toNatClampNeg) v1 (m - ((σ1.2.2.1 19) k.toNatClampNeg)))), HH x σ1) = r) (k11 : (p_has_16 σ k) → ¬ m < 0 → ¬ m ≤ (999 : Int32) → (some (.long (-9223372036854775808 : Int64)), HH x σ) = r) : mm_Runs d 44 (0, [some (.ref 2), some (.int k), some (.int m), none], [], HH x σ) r := by
  refine mm_go 3 (F' := (5, [some (.ref 2), some (.int k), some (.int m), none], [.int k, .ref 16], HH x σ)) rfl ?_
  refine mm_kl (z := 0) (as := [.ref 16, .int k]) (S' := []) (L2 := [some (.ref 16), some (.int k)]) (v := some (.int (mm_b (p_has_16 σ k)))) (h1 := HH x σ) rfl rfl rfl rfl rfl (by omega) (r_has_16 (by omega)) ?_
  show mm_Runs d 44 (8, [some (.ref 2), some (.int k), some (.int m), none], [.int (mm_b (p_has_16 σ k))], HH x σ) r
  refine mm_go 1 (F' := (bif mm_cond .eq (mm_b (p_has_16 σ k)) 0 then 22 else 11, [some (.ref 2), some (.int k), some (.int m), none], [], HH x σ)) rfl ?_
  refine mb_beq (fun h1 => ?_) (fun h1 => ?_)
  · refine mm_go 1 (F' := (25, [some (.ref 2), some (.int k), some (.int m), none], [.long (-9223372036854775808 : Int64)], HH x σ)) rfl ?_
    exact mm_rt rfl rfl (k1 h1)
  · refine mm_go 2 (F' := (bif mm_cond .lt m 0 then 22 else 15, [some (.ref 2), some (.int k), some (.int m), none], [], HH x σ)) rfl ?_
    refine mb_lt (fun h2 => ?_) (fun h2 => ?_)
    · refine mm_go 1 (F' := (25, [some (.ref 2), some (.int k), some (.int m), none], [.long (-9223372036854775808 : Int64)], HH x σ)) rfl ?_
      exact mm_rt rfl rfl (k2 h1 h2)
    · refine mm_go 3 (F' := (bif mm_cond .le m (999 : Int32) then 26 else 22, [some (.ref 2), some (.int k), some (.int m), none], [], HH x σ)) rfl ?_
      refine mb_le (fun h3 => ?_) (fun h3 => ?_)
      · refine mm_go 6 (F' := (38, [some (.ref 2), some (.int k), some (.int m), none], [.int k, .ref 18, .ref 13], HH x σ)) rfl ?_
        refine mm_gd (F' := (39, [some (.ref 2), some (.int k), some (.int m), none], [.int ((σ.2.2.1 18) k.toNatClampNeg), .ref 13], HH x σ)) rfl (k3 h1 h2 h3) ?_
        refine mm_go 3 (F' := (44, [some (.ref 2), some (.int k), some (.int m), none], [.int k, .ref 16, .int ((σ.2.2.1 18) k.toNatClampNeg), .ref 13], HH x σ)) rfl ?_
        refine mm_kl (z := 1) (as := [.ref 16, .int k]) (S' := [.int ((σ.2.2.1 18) k.toNatClampNeg), .ref 13]) (L2 := [some (.ref 16), some (.int k)]) (v := some (.int (f_reach_16 σ k))) (h1 := HH x σ) rfl rfl rfl rfl rfl (by omega) (r_reach_16 (by omega) (k4 h1 h2 h3) (k5 h1 h2 h3)) ?_
        show mm_Runs d 44 (47, [some (.ref 2), some (.int k), some (.int m), none], [.int (f_reach_16 σ k), .int ((σ.2.2.1 18) k.toNatClampNeg), .ref 13], HH x σ) r
        refine mm_kl (z := 11) (as := [.ref 13, .int ((σ.2.2.1 18) k.toNatClampNeg), .int (f_reach_16 σ k)]) (S' := []) (L2 := [some (.ref 13), some (.int ((σ.2.2.1 18) k.toNatClampNeg)), some (.int (f_reach_16 σ k))]) (v := some (.int v1)) (h1 := HH x σ1) rfl rfl rfl rfl rfl (by omega) (k6 h1 h2 h3) ?_
        show mm_Runs d 44 (50, [some (.ref 2), some (.int k), some (.int m), none], [.int v1], HH x σ1) r
        refine mm_go 7 (F' := (63, [some (.ref 2), some (.int k), some (.int m), some (.int v1)], [.int k, .ref 18, .ref 13], HH x σ1)) rfl ?_
        refine mm_gd (F' := (64, [some (.ref 2), some (.int k), some (.int m), some (.int v1)], [.int ((σ1.2.2.1 18) k.toNatClampNeg), .ref 13], HH x σ1)) rfl (k7 h1 h2 h3) ?_
        refine mm_go 6 (F' := (74, [some (.ref 2), some (.int k), some (.int m), some (.int v1)], [.int k, .ref 19, .int m, .int v1, .int ((σ1.2.2.1 18) k.toNatClampNeg), .ref 13], HH x σ1)) rfl ?_
        refine mm_gd (F' := (75, [some (.ref 2), some (.int k), some (.int m), some (.int v1)], [.int ((σ1.2.2.1 19) k.toNatClampNeg), .int m, .int v1, .int ((σ1.2.2.1 18) k.toNatClampNeg), .ref 13], HH x σ1)) rfl (k8 h1 h2 h3) ?_
        refine mm_go 1 (F' := (76, [some (.ref 2), some (.int k), some (.int m), some (.int v1)], [.int (m - ((σ1.2.2.1 19) k.toNatClampNeg)), .int v1, .int ((σ1.2.2.1 18) k.toNatClampNeg), .ref 13], HH x σ1)) rfl ?_
        refine mm_kl (z := 12) (as := [.ref 13, .int ((σ1.2.2.1 18) k.toNatClampNeg), .int v1, .int (m - ((σ1.2.2.1 19) k.toNatClampNeg))]) (S' := []) (L2 := [some (.ref 13), some (.int ((σ1.2.2.1 18) k.toNatClampNeg)), some (.int v1), some (.int (m - ((σ1.2.2.1 19) k.toNatClampNeg)))]) (v := some (.long (f_ringAt σ1 ((σ1.2.2.1 18) k.toNatClampNeg) v1 (m - ((σ1.2.2.1 19) k.toNatClampNeg))))) (h1 := HH x σ1) rfl rfl rfl rfl rfl (by omega) (r_ringAt (by omega) (k9 h1 h2 h3)) ?_
        show mm_Runs d 44 (79, [some (.ref 2), some (.int k), some (.int m), some (.int v1)], [.long (f_ringAt σ1 ((σ1.2.2.1 18) k.toNatClampNeg) v1 (m - ((σ1.2.2.1 19) k.toNatClampNeg)))], HH x σ1) r
        exact mm_rt rfl rfl (k10 h1 h2 h3)
      · refine mm_go 1 (F' := (25, [some (.ref 2), some (.int k), some (.int m), none], [.long (-9223372036854775808 : Int64)], HH x σ)) rfl ?_
        exact mm_rt rfl rfl (k11 h1 h2 h3)
theorem vc_m_over0 {d : Nat} {x : Nat × (Nat → Int32)} {σ : mm_S} {s : Int32} {r : Option Value × mm_H} (k1 : mm_Runs d 109 (4, [some (.ref 37), some (.int s), some (.int (0 : Int32)), some (.int (0 : Int32)), none], [], HH x σ) r) : mm_Runs d 109 (0, [some (.ref 37), some (.int s), none, none, none], [], HH x σ) r := by
  refine mm_go 4 (F' := (4, [some (.ref 37), some (.int s), some (.int (0 : Int32)), some (.int (0 : Int32)), none], [], HH x σ)) rfl ?_
  exact mm_wk (by exact (And.intro rfl (And.intro rfl (And.intro rfl (And.intro rfl True.intro))))) k1
theorem vc_m_overh {d : Nat} {x : Nat × (Nat → Int32)} {σ : mm_S} {s q c : Int32} {r : Option Value × mm_H} (hd : 1 ≤ d) (k1 : (f_m_all σ) ≤ c → ¬ (s < 0 ∨ 8 ≤ s.toNatClampNeg)) (k2 : (f_m_all σ) ≤ c → ¬ (s < 0 ∨ 8 ≤ s.toNatClampNeg)) (k3 : (f_m_all σ) ≤ c → (f_m_reach σ ((σ.2.2.1 44) s.toNatClampNeg)) ≤ q → (some (.int ((((σ.2.2.1 46) s.toNatClampNeg) + (f_m_reach σ ((σ.2.2.1 44) s.toNatClampNeg))) + (1 : Int32))), HH x σ) = r) (k4 : (f_m_all σ) ≤ c → ¬ (f_m_reach σ ((σ.2.2.1 44) s.toNatClampNeg)) ≤ q → (some (.int ((((σ.2.2.1 46) s.toNatClampNeg) + q) + (1 : Int32))), HH x σ) = r) (k5 : ¬ (f_m_all σ) ≤ c → ¬ (s < 0 ∨ 8 ≤ s.toNatClampNeg)) (k6 : ¬ (f_m_all σ) ≤ c → ¬ ((((42 : Int32) * ((σ.2.2.1 45) s.toNatClampNeg)) + c) < 0 ∨ 1764 ≤ (((42 : Int32) * ((σ.2.2.1 45) s.toNatClampNeg)) + c).toNatClampNeg)) (k7 : ¬ (f_m_all σ) ≤ c → (f_m_way σ ((σ.2.2.1 45) s.toNatClampNeg) c) ≤ q → mm_Runs d 109 (4, [some (.ref 37), some (.int s), some (.int q), some (.int (c + (1 : Int32))), none], [], HH x σ) r) (k8 : ¬ (f_m_all σ) ≤ c → ¬ (f_m_way σ ((σ.2.2.1 45) s.toNatClampNeg) c) ≤ q → mm_Runs d 109 (4, [some (.ref 37), some (.int s), some (.int (f_m_way σ ((σ.2.2.1 45) s.toNatClampNeg) c)), some (.int (c + (1 : Int32))), none], [], HH x σ) r) : mm_Runs d 109 (4, [some (.ref 37), some (.int s), some (.int q), some (.int c), none], [], HH x σ) r := by
  refine mm_go 2 (F' := (6, [some (.ref 37), some (.int s), some (.int q), some (.int c), none], [.ref 37, .int c], HH x σ)) rfl ?_
  refine mm_kl (z := 94) (as := [.ref 37]) (S' := [.int c]) (L2 := [some (.ref 37)]) (v := some (.int (f_m_all σ))) (h1 := HH x σ) rfl rfl rfl rfl rfl (by omega) (r_m_all (by omega)) ?_
  show mm_Runs d 109 (9, [some (.ref 37), some (.int s), some (.int q), some (.int c), none], [.int (f_m_all σ), .int c], HH x σ) r
  refine mm_go 1 (F' := (bif mm_cond .ge c (f_m_all σ) then 44 else 12, [some (.ref 37), some (.int s), some (.int q), some (.int c), none], [], HH x σ)) rfl ?_
  refine mb_ge (fun h1 => ?_) (fun h1 => ?_)
  · refine mm_go 3 (F' := (49, [some (.ref 37), some (.int s), some (.int q), some (.int c), none], [.int s, .ref 44], HH x σ)) rfl ?_
    refine mm_gd (F' := (50, [some (.ref 37), some (.int s), some (.int q), some (.int c), none], [.int ((σ.2.2.1 44) s.toNatClampNeg)], HH x σ)) rfl (k1 h1) ?_
    refine mm_kl (z := 105) (as := [.int ((σ.2.2.1 44) s.toNatClampNeg)]) (S' := []) (L2 := [some (.int ((σ.2.2.1 44) s.toNatClampNeg))]) (v := some (.int (f_m_reach σ ((σ.2.2.1 44) s.toNatClampNeg)))) (h1 := HH x σ) rfl rfl rfl rfl rfl (by omega) (r_m_reach (by omega)) ?_
    show mm_Runs d 109 (53, [some (.ref 37), some (.int s), some (.int q), some (.int c), none], [.int (f_m_reach σ ((σ.2.2.1 44) s.toNatClampNeg))], HH x σ) r
    refine mm_go 4 (F' := (59, [some (.ref 37), some (.int s), some (.int q), some (.int (f_m_reach σ ((σ.2.2.1 44) s.toNatClampNeg))), none], [.int s, .ref 46], HH x σ)) rfl ?_
    refine mm_gd (F' := (60, [some (.ref 37), some (.int s), some (.int q), some (.int (f_m_reach σ ((σ.2.2.1 44) s.toNatClampNeg))), none], [.int ((σ.2.2.1 46) s.toNatClampNeg)], HH x σ)) rfl (k2 h1) ?_
    refine mm_go 3 (F' := (bif mm_cond .ge q (f_m_reach σ ((σ.2.2.1 44) s.toNatClampNeg)) then 69 else 65, [some (.ref 37), some (.int s), some (.int q), some (.int (f_m_reach σ ((σ.2.2.1 44) s.toNatClampNeg))), none], [.int ((σ.2.2.1 46) s.toNatClampNeg)], HH x σ)) rfl ?_
    refine mb_ge (fun h2 => ?_) (fun h2 => ?_)
    · refine mm_go 4 (F' := (73, [some (.ref 37), some (.int s), some (.int q), some (.int (f_m_reach σ ((σ.2.2.1 44) s.toNatClampNeg))), none], [.int ((((σ.2.2.1 46) s.toNatClampNeg) + (f_m_reach σ ((σ.2.2.1 44) s.toNatClampNeg))) + (1 : Int32))], HH x σ)) rfl ?_
      exact mm_rt rfl rfl (k3 h1 h2)
    · refine mm_go 5 (F' := (73, [some (.ref 37), some (.int s), some (.int q), some (.int (f_m_reach σ ((σ.2.2.1 44) s.toNatClampNeg))), none], [.int ((((σ.2.2.1 46) s.toNatClampNeg) + q) + (1 : Int32))], HH x σ)) rfl ?_
      exact mm_rt rfl rfl (k4 h1 h2)
  · refine mm_go 4 (F' := (18, [some (.ref 37), some (.int s), some (.int q), some (.int c), none], [.int s, .ref 45, .ref 37], HH x σ)) rfl ?_
    refine mm_gd (F' := (19, [some (.ref 37), some (.int s), some (.int q), some (.int c), none], [.int ((σ.2.2.1 45) s.toNatClampNeg), .ref 37], HH x σ)) rfl (k5 h1) ?_
    refine mm_go 1 (F' := (20, [some (.ref 37), some (.int s), some (.int q), some (.int c), none], [.int c, .int ((σ.2.2.1 45) s.toNatClampNeg), .ref 37], HH x σ)) rfl ?_
    refine mm_kl (z := 100) (as := [.ref 37, .int ((σ.2.2.1 45) s.toNatClampNeg), .int c]) (S' := []) (L2 := [some (.ref 37), some (.int ((σ.2.2.1 45) s.toNatClampNeg)), some (.int c)]) (v := some (.int (f_m_way σ ((σ.2.2.1 45) s.toNatClampNeg) c))) (h1 := HH x σ) rfl rfl rfl rfl rfl (by omega) (r_m_way (by omega) (k6 h1)) ?_
    show mm_Runs d 109 (23, [some (.ref 37), some (.int s), some (.int q), some (.int c), none], [.int (f_m_way σ ((σ.2.2.1 45) s.toNatClampNeg) c)], HH x σ) r
    refine mm_go 4 (F' := (bif mm_cond .le (f_m_way σ ((σ.2.2.1 45) s.toNatClampNeg) c) q then 36 else 31, [some (.ref 37), some (.int s), some (.int q), some (.int c), some (.int (f_m_way σ ((σ.2.2.1 45) s.toNatClampNeg) c))], [], HH x σ)) rfl ?_
    refine mb_le (fun h3 => ?_) (fun h3 => ?_)
    · refine mm_go 4 (F' := (4, [some (.ref 37), some (.int s), some (.int q), some (.int (c + (1 : Int32))), some (.int (f_m_way σ ((σ.2.2.1 45) s.toNatClampNeg) c))], [], HH x σ)) rfl ?_
      exact mm_wk (by exact (And.intro rfl (And.intro rfl (And.intro rfl (And.intro rfl True.intro))))) (k7 h1 h3)
    · refine mm_go 5 (F' := (4, [some (.ref 37), some (.int s), some (.int (f_m_way σ ((σ.2.2.1 45) s.toNatClampNeg) c)), some (.int (c + (1 : Int32))), some (.int (f_m_way σ ((σ.2.2.1 45) s.toNatClampNeg) c))], [], HH x σ)) rfl ?_
      exact mm_wk (by exact (And.intro rfl (And.intro rfl (And.intro rfl (And.intro rfl True.intro))))) (k8 h1 h3)
theorem vc_m_ofStone {d : Nat} {x : Nat × (Nat → Int32)} {σ : mm_S} {k w : Int32} {v1 : Int32} {σ1 : mm_S} {r : Option Value × mm_H} (hd : 1 ≤ d) (k1 : (p_m_isStone σ k) → ¬ w = 0 → ¬ w = (1 : Int32) → ¬ w = (2 : Int32) → ¬ w = (3 : Int32) → (some (.int (-2 : Int32)), HH x σ) = r) (k2 : (p_m_isStone σ k) → ¬ w = 0 → ¬ w = (1 : Int32) → ¬ w = (2 : Int32) → w = (3 : Int32) → mm_Runs (d - 1) 109 (0, [some (.ref 37), some (.int k), none, none, none], [], HH x σ) (some (.int v1), HH x σ1)) (k3 : (p_m_isStone σ k) → ¬ w = 0 → ¬ w = (1 : Int32) → ¬ w = (2 : Int32) → w = (3 : Int32) → (some (.int v1), HH x σ1) = r) (k4 : (p_m_isStone σ k) → ¬ w = 0 → ¬ w = (1 : Int32) → w = (2 : Int32) → ¬ (k < 0 ∨ 8 ≤ k.toNatClampNeg)) (k5 : (p_m_isStone σ k) → ¬ w = 0 → ¬ w = (1 : Int32) → w = (2 : Int32) → (some (.int ((σ.2.2.1 46) k.toNatClampNeg)), HH x σ) = r) (k6 : (p_m_isStone σ k) → ¬ w = 0 → w = (1 : Int32) → ¬ (k < 0 ∨ 8 ≤ k.toNatClampNeg)) (k7 : (p_m_isStone σ k) → ¬ w = 0 → w = (1 : Int32) → (some (.int ((σ.2.2.1 45) k.toNatClampNeg)), HH x σ) = r) (k8 : (p_m_isStone σ k) → w = 0 → ¬ (k < 0 ∨ 8 ≤ k.toNatClampNeg)) (k9 : (p_m_isStone σ k) → w = 0 → (some (.int ((σ.2.2.1 44) k.toNatClampNeg)), HH x σ) = r) (k10 : ¬ (p_m_isStone σ k) → (some (.int (-1 : Int32)), HH x σ) = r) : mm_Runs d 110 (0, [some (.ref 37), some (.int k), some (.int w)], [], HH x σ) r := by
  refine mm_go 2 (F' := (2, [some (.ref 37), some (.int k), some (.int w)], [.int k, .ref 37], HH x σ)) rfl ?_
  refine mm_kl (z := 107) (as := [.ref 37, .int k]) (S' := []) (L2 := [some (.ref 37), some (.int k)]) (v := some (.int (mm_b (p_m_isStone σ k)))) (h1 := HH x σ) rfl rfl rfl rfl rfl (by omega) (r_m_isStone (by omega)) ?_
  show mm_Runs d 110 (5, [some (.ref 37), some (.int k), some (.int w)], [.int (mm_b (p_m_isStone σ k))], HH x σ) r
  refine mm_go 1 (F' := (bif mm_cond .ne (mm_b (p_m_isStone σ k)) 0 then 10 else 8, [some (.ref 37), some (.int k), some (.int w)], [], HH x σ)) rfl ?_
  refine mb_bne (fun h1 => ?_) (fun h1 => ?_)
  · refine mm_go 2 (F' := (bif mm_cond .ne w 0 then 23 else 14, [some (.ref 37), some (.int k), some (.int w)], [], HH x σ)) rfl ?_
    refine mb_ne (fun h2 => ?_) (fun h2 => ?_)
    · refine mm_go 3 (F' := (bif mm_cond .ne w (1 : Int32) then 37 else 28, [some (.ref 37), some (.int k), some (.int w)], [], HH x σ)) rfl ?_
      refine mb_ne (fun h3 => ?_) (fun h3 => ?_)
      · refine mm_go 3 (F' := (bif mm_cond .ne w (2 : Int32) then 51 else 42, [some (.ref 37), some (.int k), some (.int w)], [], HH x σ)) rfl ?_
        refine mb_ne (fun h4 => ?_) (fun h4 => ?_)
        · refine mm_go 3 (F' := (bif mm_cond .ne w (3 : Int32) then 64 else 56, [some (.ref 37), some (.int k), some (.int w)], [], HH x σ)) rfl ?_
          refine mb_ne (fun h5 => ?_) (fun h5 => ?_)
          · refine mm_go 1 (F' := (66, [some (.ref 37), some (.int k), some (.int w)], [.int (-2 : Int32)], HH x σ)) rfl ?_
            exact mm_rt rfl rfl (k1 h1 h2 h3 h4 h5)
          · refine mm_go 2 (F' := (58, [some (.ref 37), some (.int k), some (.int w)], [.int k, .ref 37], HH x σ)) rfl ?_
            refine mm_kl (z := 109) (as := [.ref 37, .int k]) (S' := []) (L2 := [some (.ref 37), some (.int k), none, none, none]) (v := some (.int v1)) (h1 := HH x σ1) rfl rfl rfl rfl rfl (by omega) (k2 h1 h2 h3 h4 h5) ?_
            show mm_Runs d 110 (61, [some (.ref 37), some (.int k), some (.int w)], [.int v1], HH x σ1) r
            refine mm_go 1 (F' := (66, [some (.ref 37), some (.int k), some (.int w)], [.int v1], HH x σ1)) rfl ?_
            exact mm_rt rfl rfl (k3 h1 h2 h3 h4 h5)
        · refine mm_go 3 (F' := (47, [some (.ref 37), some (.int k), some (.int w)], [.int k, .ref 46], HH x σ)) rfl ?_
          refine mm_gd (F' := (48, [some (.ref 37), some (.int k), some (.int w)], [.int ((σ.2.2.1 46) k.toNatClampNeg)], HH x σ)) rfl (k4 h1 h2 h3 h4) ?_
          refine mm_go 1 (F' := (66, [some (.ref 37), some (.int k), some (.int w)], [.int ((σ.2.2.1 46) k.toNatClampNeg)], HH x σ)) rfl ?_
          exact mm_rt rfl rfl (k5 h1 h2 h3 h4)
      · refine mm_go 3 (F' := (33, [some (.ref 37), some (.int k), some (.int w)], [.int k, .ref 45], HH x σ)) rfl ?_
        refine mm_gd (F' := (34, [some (.ref 37), some (.int k), some (.int w)], [.int ((σ.2.2.1 45) k.toNatClampNeg)], HH x σ)) rfl (k6 h1 h2 h3) ?_
        refine mm_go 1 (F' := (66, [some (.ref 37), some (.int k), some (.int w)], [.int ((σ.2.2.1 45) k.toNatClampNeg)], HH x σ)) rfl ?_
        exact mm_rt rfl rfl (k7 h1 h2 h3)
    · refine mm_go 3 (F' := (19, [some (.ref 37), some (.int k), some (.int w)], [.int k, .ref 44], HH x σ)) rfl ?_
      refine mm_gd (F' := (20, [some (.ref 37), some (.int k), some (.int w)], [.int ((σ.2.2.1 44) k.toNatClampNeg)], HH x σ)) rfl (k8 h1 h2) ?_
      refine mm_go 1 (F' := (66, [some (.ref 37), some (.int k), some (.int w)], [.int ((σ.2.2.1 44) k.toNatClampNeg)], HH x σ)) rfl ?_
      exact mm_rt rfl rfl (k9 h1 h2)
  · refine mm_go 1 (F' := (9, [some (.ref 37), some (.int k), some (.int w)], [.int (-1 : Int32)], HH x σ)) rfl ?_
    exact mm_rt rfl rfl (k10 h1)
theorem vc_m_ring0 {d : Nat} {x : Nat × (Nat → Int32)} {σ : mm_S} {k m : Int32} {r : Option Value × mm_H} (hd : 1 ≤ d) (k1 : ¬ (p_m_isStone σ k) → (some (.long (-9223372036854775808 : Int64)), HH x σ) = r) (k2 : (p_m_isStone σ k) → (p_m_within σ m (0 : Int32) (999 : Int32)) → mm_Runs d 112 (28, [some (.ref 37), some (.int k), some (.int m), some (.long (0 : Int64)), none, some (.int (0 : Int32))], [], HH x σ) r) (k3 : (p_m_isStone σ k) → ¬ (p_m_within σ m (0 : Int32) (999 : Int32)) → (some (.long (-9223372036854775808 : Int64)), HH x σ) = r) : mm_Runs d 112 (0, [some (.ref 37), some (.int k), some (.int m), none, none, none], [], HH x σ) r := by
  refine mm_go 2 (F' := (2, [some (.ref 37), some (.int k), some (.int m), none, none, none], [.int k, .ref 37], HH x σ)) rfl ?_
  refine mm_kl (z := 107) (as := [.ref 37, .int k]) (S' := []) (L2 := [some (.ref 37), some (.int k)]) (v := some (.int (mm_b (p_m_isStone σ k)))) (h1 := HH x σ) rfl rfl rfl rfl rfl (by omega) (r_m_isStone (by omega)) ?_
  show mm_Runs d 112 (5, [some (.ref 37), some (.int k), some (.int m), none, none, none], [.int (mm_b (p_m_isStone σ k))], HH x σ) r
  refine mm_go 1 (F' := (bif mm_cond .eq (mm_b (p_m_isStone σ k)) 0 then 19 else 8, [some (.ref 37), some (.int k), some (.int m), none, none, none], [], HH x σ)) rfl ?_
  refine mb_beq (fun h1 => ?_) (fun h1 => ?_)
  · refine mm_go 1 (F' := (22, [some (.ref 37), some (.int k), some (.int m), none, none, none], [.long (-9223372036854775808 : Int64)], HH x σ)) rfl ?_
    exact mm_rt rfl rfl (k1 h1)
  · refine mm_go 3 (F' := (13, [some (.ref 37), some (.int k), some (.int m), none, none, none], [.int (999 : Int32), .int (0 : Int32), .int m], HH x σ)) rfl ?_
    refine mm_kl (z := 90) (as := [.int m, .int (0 : Int32), .int (999 : Int32)]) (S' := []) (L2 := [some (.int m), some (.int (0 : Int32)), some (.int (999 : Int32))]) (v := some (.int (mm_b (p_m_within σ m (0 : Int32) (999 : Int32))))) (h1 := HH x σ) rfl rfl rfl rfl rfl (by omega) (r_m_within (by omega)) ?_
    show mm_Runs d 112 (16, [some (.ref 37), some (.int k), some (.int m), none, none, none], [.int (mm_b (p_m_within σ m (0 : Int32) (999 : Int32)))], HH x σ) r
    refine mm_go 1 (F' := (bif mm_cond .ne (mm_b (p_m_within σ m (0 : Int32) (999 : Int32))) 0 then 23 else 19, [some (.ref 37), some (.int k), some (.int m), none, none, none], [], HH x σ)) rfl ?_
    refine mb_bne (fun h2 => ?_) (fun h2 => ?_)
    · refine mm_go 4 (F' := (28, [some (.ref 37), some (.int k), some (.int m), some (.long (0 : Int64)), none, some (.int (0 : Int32))], [], HH x σ)) rfl ?_
      exact mm_wk (by exact (And.intro rfl (And.intro rfl (And.intro rfl (And.intro rfl (And.intro rfl True.intro)))))) (k2 h1 h2)
    · refine mm_go 1 (F' := (22, [some (.ref 37), some (.int k), some (.int m), none, none, none], [.long (-9223372036854775808 : Int64)], HH x σ)) rfl ?_
      exact mm_rt rfl rfl (k3 h1 h2)
theorem vc_m_ringh {d : Nat} {x : Nat × (Nat → Int32)} {σ : mm_S} {q : Int64} {s m c : Int32} {r : Option Value × mm_H} (hd : 2 ≤ d) (k1 : (f_m_all σ) ≤ c → (some (.long q), HH x σ) = r) (k2 : ¬ (f_m_all σ) ≤ c → ¬ (s < 0 ∨ 8 ≤ s.toNatClampNeg)) (k3 : ¬ (f_m_all σ) ≤ c → ¬ (s < 0 ∨ 8 ≤ s.toNatClampNeg)) (k4 : ¬ (f_m_all σ) ≤ c → ¬ (s < 0 ∨ 8 ≤ s.toNatClampNeg)) (k5 : ¬ (f_m_all σ) ≤ c → ¬ (m - ((σ.2.2.1 46) s.toNatClampNeg)) < 0 → ¬ (f_m_reach σ ((σ.2.2.1 44) s.toNatClampNeg)) < (m - ((σ.2.2.1 46) s.toNatClampNeg)) → ¬ ((((42 : Int32) * ((σ.2.2.1 45) s.toNatClampNeg)) + c) < 0 ∨ 1764 ≤ (((42 : Int32) * ((σ.2.2.1 45) s.toNatClampNeg)) + c).toNatClampNeg)) (k6 : ¬ (f_m_all σ) ≤ c → ¬ (p_m_comes σ ((σ.2.2.1 44) s.toNatClampNeg) ((σ.2.2.1 45) s.toNatClampNeg) c (m - ((σ.2.2.1 46) s.toNatClampNeg))) → mm_Runs d 112 (28, [some (.ref 37), some (.int s), some (.int m), some (.long (q ||| (0 : Int64))), none, some (.int (c + (1 : Int32)))], [], HH x σ) r) (k7 : ¬ (f_m_all σ) ≤ c → (p_m_comes σ ((σ.2.2.1 44) s.toNatClampNeg) ((σ.2.2.1 45) s.toNatClampNeg) c (m - ((σ.2.2.1 46) s.toNatClampNeg))) → mm_Runs d 112 (28, [some (.ref 37), some (.int s), some (.int m), some (.long (q ||| ((1 : Int64) <<< (Int32.toInt64 c &&& 63)))), none, some (.int (c + (1 : Int32)))], [], HH x σ) r) : mm_Runs d 112 (28, [some (.ref 37), some (.int s), some (.int m), some (.long q), none, some (.int c)], [], HH x σ) r := by
  refine mm_go 2 (F' := (31, [some (.ref 37), some (.int s), some (.int m), some (.long q), none, some (.int c)], [.ref 37, .int c], HH x σ)) rfl ?_
  refine mm_kl (z := 94) (as := [.ref 37]) (S' := [.int c]) (L2 := [some (.ref 37)]) (v := some (.int (f_m_all σ))) (h1 := HH x σ) rfl rfl rfl rfl rfl (by omega) (r_m_all (by omega)) ?_
  show mm_Runs d 112 (34, [some (.ref 37), some (.int s), some (.int m), some (.long q), none, some (.int c)], [.int (f_m_all σ), .int c], HH x σ) r
  refine mm_go 1 (F' := (bif mm_cond .ge c (f_m_all σ) then 83 else 37, [some (.ref 37), some (.int s), some (.int m), some (.long q), none, some (.int c)], [], HH x σ)) rfl ?_
  refine mb_ge (fun h1 => ?_) (fun h1 => ?_)
  · refine mm_go 1 (F' := (84, [some (.ref 37), some (.int s), some (.int m), some (.long q), none, some (.int c)], [.long q], HH x σ)) rfl ?_
    exact mm_rt rfl rfl (k1 h1)
  · refine mm_go 5 (F' := (44, [some (.ref 37), some (.int s), some (.int m), some (.long q), none, some (.int c)], [.int s, .ref 44, .ref 37, .long q], HH x σ)) rfl ?_
    refine mm_gd (F' := (45, [some (.ref 37), some (.int s), some (.int m), some (.long q), none, some (.int c)], [.int ((σ.2.2.1 44) s.toNatClampNeg), .ref 37, .long q], HH x σ)) rfl (k2 h1) ?_
    refine mm_go 3 (F' := (50, [some (.ref 37), some (.int s), some (.int m), some (.long q), none, some (.int c)], [.int s, .ref 45, .int ((σ.2.2.1 44) s.toNatClampNeg), .ref 37, .long q], HH x σ)) rfl ?_
    refine mm_gd (F' := (51, [some (.ref 37), some (.int s), some (.int m), some (.long q), none, some (.int c)], [.int ((σ.2.2.1 45) s.toNatClampNeg), .int ((σ.2.2.1 44) s.toNatClampNeg), .ref 37, .long q], HH x σ)) rfl (k3 h1) ?_
    refine mm_go 5 (F' := (59, [some (.ref 37), some (.int s), some (.int m), some (.long q), none, some (.int c)], [.int s, .ref 46, .int m, .int c, .int ((σ.2.2.1 45) s.toNatClampNeg), .int ((σ.2.2.1 44) s.toNatClampNeg), .ref 37, .long q], HH x σ)) rfl ?_
    refine mm_gd (F' := (60, [some (.ref 37), some (.int s), some (.int m), some (.long q), none, some (.int c)], [.int ((σ.2.2.1 46) s.toNatClampNeg), .int m, .int c, .int ((σ.2.2.1 45) s.toNatClampNeg), .int ((σ.2.2.1 44) s.toNatClampNeg), .ref 37, .long q], HH x σ)) rfl (k4 h1) ?_
    refine mm_go 1 (F' := (61, [some (.ref 37), some (.int s), some (.int m), some (.long q), none, some (.int c)], [.int (m - ((σ.2.2.1 46) s.toNatClampNeg)), .int c, .int ((σ.2.2.1 45) s.toNatClampNeg), .int ((σ.2.2.1 44) s.toNatClampNeg), .ref 37, .long q], HH x σ)) rfl ?_
    refine mm_kl (z := 106) (as := [.ref 37, .int ((σ.2.2.1 44) s.toNatClampNeg), .int ((σ.2.2.1 45) s.toNatClampNeg), .int c, .int (m - ((σ.2.2.1 46) s.toNatClampNeg))]) (S' := [.long q]) (L2 := [some (.ref 37), some (.int ((σ.2.2.1 44) s.toNatClampNeg)), some (.int ((σ.2.2.1 45) s.toNatClampNeg)), some (.int c), some (.int (m - ((σ.2.2.1 46) s.toNatClampNeg)))]) (v := some (.int (mm_b (p_m_comes σ ((σ.2.2.1 44) s.toNatClampNeg) ((σ.2.2.1 45) s.toNatClampNeg) c (m - ((σ.2.2.1 46) s.toNatClampNeg)))))) (h1 := HH x σ) rfl rfl rfl rfl rfl (by omega) (r_m_comes (by omega) (k5 h1)) ?_
    show mm_Runs d 112 (64, [some (.ref 37), some (.int s), some (.int m), some (.long q), none, some (.int c)], [.int (mm_b (p_m_comes σ ((σ.2.2.1 44) s.toNatClampNeg) ((σ.2.2.1 45) s.toNatClampNeg) c (m - ((σ.2.2.1 46) s.toNatClampNeg)))), .long q], HH x σ) r
    refine mm_go 1 (F' := (bif mm_cond .eq (mm_b (p_m_comes σ ((σ.2.2.1 44) s.toNatClampNeg) ((σ.2.2.1 45) s.toNatClampNeg) c (m - ((σ.2.2.1 46) s.toNatClampNeg)))) 0 then 74 else 67, [some (.ref 37), some (.int s), some (.int m), some (.long q), none, some (.int c)], [.long q], HH x σ)) rfl ?_
    refine mb_beq (fun h2 => ?_) (fun h2 => ?_)
    · refine mm_go 5 (F' := (28, [some (.ref 37), some (.int s), some (.int m), some (.long (q ||| (0 : Int64))), none, some (.int (c + (1 : Int32)))], [], HH x σ)) rfl ?_
      exact mm_wk (by exact (And.intro rfl (And.intro rfl (And.intro rfl (And.intro rfl (And.intro rfl True.intro)))))) (k6 h1 h2)
    · refine mm_go 8 (F' := (28, [some (.ref 37), some (.int s), some (.int m), some (.long (q ||| ((1 : Int64) <<< (Int32.toInt64 c &&& 63)))), none, some (.int (c + (1 : Int32)))], [], HH x σ)) rfl ?_
      exact mm_wk (by exact (And.intro rfl (And.intro rfl (And.intro rfl (And.intro rfl (And.intro rfl True.intro)))))) (k7 h1 h2)
def RP (P : pd_T) (ns nw nr : Nat) (σ : mm_S) : Prop := r_misc σ ∧ r_she σ ∧ r_pond P σ ∧ r_col P σ ∧ r_rip P σ ∧ r_way P σ ∧ r_st P ns σ ∧ r_wi P nw σ ∧ r_re P nr σ ∧ r_ti P nw σ
theorem rel_RP {σ : mm_S} : Rel σ ↔ ∃ (P : pd_T) (ns nw nr : Nat), RP P ns nw nr σ := ⟨fun ⟨h1, h2, P, ns, nw, nr, h⟩ => ⟨P, ns, nw, nr, h1, h2, h⟩, fun ⟨P, ns, nw, nr, h1, h2, h⟩ => ⟨h1, h2, P, ns, nw, nr, h⟩⟩
section RPS
variable {P : pd_T} {ns nw nr : Nat} {σ : mm_S}
theorem RP_lk (h : RP P ns nw nr σ) : LK P σ := ⟨pond_c h.2.2.1, h.2.2.2.1, h.2.2.2.2.1⟩
theorem RP_rel (h : RP P ns nw nr σ) : Rel σ := rel_RP.mpr ⟨P, ns, nw, nr, h⟩
theorem RP_p (h : RP P ns nw nr σ) : r_pond P σ := h.2.2.1
theorem RP_pm (h : RP P ns nw nr σ) : r_pm P σ := pond_m h.2.2.1
theorem RP_wy (h : RP P ns nw nr σ) : r_way P σ := h.2.2.2.2.2.1
theorem RP_st (h : RP P ns nw nr σ) : r_st P ns σ := h.2.2.2.2.2.2.1
theorem RP_wi (h : RP P ns nw nr σ) : r_wi P nw σ := h.2.2.2.2.2.2.2.1
theorem RP_re (h : RP P ns nw nr σ) : r_re P nr σ := h.2.2.2.2.2.2.2.2.1
theorem RP_ti (h : RP P ns nw nr σ) : r_ti P nw σ := h.2.2.2.2.2.2.2.2.2
theorem RP_LZ {σ' : mm_S} (h : RP P ns nw nr σ) (g : LZ P σ σ') : RP P ns nw nr σ' := by
  obtain ⟨⟨y, D, R, rfl⟩, g2, -⟩ := g
  obtain ⟨h1, h2, h3, h4, h5, h6, h7, h8, h9, h10⟩ := h
  exact ⟨h1, h2, h3, h4, g2, h6, h7, h8, h9, h10⟩
theorem all_eq (h : r_pm P σ) : f_m_all σ = nI (pd_n P) := by unfold f_m_all pd_n; rw [h.2.2.1, h.2.2.2.1, pk_mul]
theorem w42 {a b : Nat} : (42 : Int32) * nI a + nI b = nI (42 * a + b) := by
  rw [show (42 : Int32) = nI 42 from rfl, pk_mul, nI_add]
theorem way_g (h : r_pm P σ) {a b : Nat} (ha : a < pd_n P) (hb : b < pd_n P) : ¬ (((42 : Int32) * nI a + nI b) < 0 ∨ 1764 ≤ ((42 : Int32) * nI a + nI b).toNatClampNeg) := by
  have hn := pm_n42 h
  rw [w42]
  exact nI_in (by omega) (by omega)
theorem way_eq (h : r_pm P σ) (hw : r_way P σ) {a b : Nat} (ha : a < pd_n P) (hb : b < pd_n P) : f_m_way σ (nI a) (nI b) = pd_way P a b := by
  have hn := pm_n42 h
  unfold f_m_way
  rw [w42, nI_clamp (by omega)]
  exact hw a b ha hb
theorem mrc_eq {k : Int32} (h : kd k) : f_m_reach σ k = nI (pd_rc k) := by
  rcases h with rfl | rfl | rfl <;> rfl
theorem rc_99 (k : Int32) : pd_rc k ≤ 99 := by
  unfold pd_rc
  split
  · omega
  · split <;> omega
theorem kd_g {k : Int32} (h : kd k) : ¬ (k < 0 ∨ 3 ≤ k.toNatClampNeg) := by
  rcases h with rfl | rfl | rfl <;> decide
theorem rch_eq {k : Int32} (h : kd k) : mm_reach k.toNatClampNeg = nI (pd_rc k) := by
  rcases h with rfl | rfl | rfl <;> rfl
/-- a ring comes -/
theorem comes_iff (hp : r_pm P σ) (hwy : r_way P σ) {k : Int32} (hk : kd k) {a c : Nat} (ha : a < pd_n P) (hc : c < pd_n P) (b : Int32) : p_m_comes σ k (nI a) (nI c) b ↔ ∃ t, b = nI t ∧ t < 42 ∧ pd_th P k a t c = true := by
  have hn := pm_n42 hp
  have hwf := pm_wf hp
  have hrc := rc_99 k
  unfold p_m_comes pd_th
  rw [way_eq hp hwy ha hc, mrc_eq hk]
  constructor
  · rintro ⟨h1, h2, h3⟩
    rcases wy_2 hwf hn a c with ⟨q, -⟩ | ⟨t, ht, q, ql⟩
    · exfalso; rw [← h3, q] at h1; exact h1 (by decide)
    · rw [q] at h3
      refine ⟨t, h3.symm, ht, ?_⟩
      rw [ql, Bool.true_and, decide_eq_true_eq]
      rw [← h3, nI_ltI (by omega) (by omega)] at h2
      omega
  · rintro ⟨t, rfl, ht, h⟩
    rw [Bool.and_eq_true, decide_eq_true_eq] at h
    refine ⟨nI_pos (by omega), ?_, ((wy_lay hwf hn).mp h.1).2⟩
    rw [nI_ltI (by omega) (by omega)]
    omega
theorem st_ix (hs : r_st P ns σ) (k : Int32) : (¬ p_has_16 σ k ∧ ¬ p_m_isStone σ k) ∨ ∃ s, s < ns ∧ k = nI s ∧ p_has_16 σ k ∧ p_m_isStone σ k ∧ ¬ (k < 0 ∨ 8 ≤ k.toNatClampNeg) ∧ k.toNatClampNeg = s := by
  obtain ⟨h1, h2, h3, -⟩ := hs
  rcases ix_3 k (n := ns) (N := 8) h1 (by omega) with q | ⟨c, hc, rfl, q, qg, qc⟩
  · exact Or.inl ⟨by unfold p_has_16; rw [h2]; exact q, by unfold p_m_isStone; rw [h3]; exact q⟩
  · exact Or.inr ⟨c, hc, rfl, by unfold p_has_16; rw [h2]; exact q, by unfold p_m_isStone; rw [h3]; exact q, qg, qc⟩
theorem ne_mono {c s t : Nat} (h : ∃ b, pd_lay P c t b = true) (hs : s ≤ t) : ∃ b, pd_lay P c s b = true := by
  by_cases q : ∃ b, pd_lay P c s b = true
  · exact q
  · exfalso
    obtain ⟨b, hb⟩ := h
    rw [bf_end (t := s) (fun b => by
      cases h9 : pd_lay P c s b with
      | false => rfl
      | true => exact absurd ⟨b, h9⟩ q) hs b] at hb
    cases hb
end RPS
theorem op_far : opI Rel i_X6_far i_X7_far 2 := by
  intro x σ as h hr
  obtain ⟨a, b, rfl⟩ := as_2 h
  obtain ⟨P, ns, nw, nr, hr⟩ := rel_RP.mp hr
  have hp := RP_p hr
  have bad : (¬ p_has_13 σ a ∨ ¬ p_has_13 σ b) → (¬ p_m_isCell σ a ∨ ¬ p_m_isCell σ b) → mm_Runs 999 i_X6_far (0, [some (.ref 2), some (.int a), some (.int b)], [], HH x σ) (some (.int (-1)), HH x σ) ∧ mm_Runs 999 i_X7_far (0, [some (.ref 37), some (.int a), some (.int b)], [], HH x σ) (some (.int (-1)), HH x σ) := by
    intro e1 e2
    refine ⟨vc_far (v1 := 0) (σ1 := σ) (by omega) (fun _ => rfl) (fun z1 z2 => e1.elim (fun w => absurd z1 w) (fun w => absurd z2 w)) (fun z1 z2 => e1.elim (fun w => absurd z1 w) (fun w => absurd z2 w)) (fun _ _ => rfl), ?_⟩
    have m := r_m_far (d := 999) (x := x) (σ := σ) (a := a) (b := b) (by omega) (fun z1 z2 => e2.elim (fun w => absurd z1 w) (fun w => absurd z2 w))
    rw [show f_m_far σ a b = -1 by
      unfold f_m_far
      by_cases z : p_m_isCell σ a
      · rw [if_pos z, if_neg (fun y => e2.elim (fun w => w z) (fun w => w y))]
      · rw [if_neg z]] at m
    exact m
  rcases cell_3 hp a with ⟨q1, q2⟩ | ⟨ea, ha, rfl, qa1, qa2, -, -, -, -⟩
  · exact ⟨_, _, _, (bad (Or.inl q1) (Or.inl q2)).1, (bad (Or.inl q1) (Or.inl q2)).2, RP_rel hr⟩
  rcases cell_3 hp b with ⟨q1, q2⟩ | ⟨eb, hb, rfl, qb1, qb2, -, -, -, -⟩
  · exact ⟨_, _, _, (bad (Or.inr q1) (Or.inr q2)).1, (bad (Or.inr q1) (Or.inr q2)).2, RP_rel hr⟩
  obtain ⟨σ', s1, s2⟩ := c_steps (d := 998) (x := x) (by omega) (RP_lk hr) ha hb
  have hr' := RP_LZ hr s2
  have c := vc_far (d := 999) (x := x) (σ := σ) (v1 := pd_way P ea eb) (σ1 := σ') (r := (some (.int (pd_way P ea eb)), HH x σ')) (by omega) (fun z => absurd qa1 z) (fun _ _ => s1) (fun _ _ => rfl) (fun _ z => absurd qb1 z)
  have m := r_m_far (d := 999) (x := x) (σ := σ') (a := nI ea) (b := nI eb) (by omega) (fun _ _ => way_g (RP_pm hr') ha hb)
  have hn := pd_n42 hp
  have ic : ∀ e, e < pd_n P → p_m_isCell σ' (nI e) := fun e he => by
    unfold p_m_isCell
    rw [all_eq (RP_pm hr')]
    exact ⟨nI_pos (by omega), nI_ge he (by omega)⟩
  rw [show f_m_far σ' (nI ea) (nI eb) = pd_way P ea eb by
    unfold f_m_far
    rw [if_pos (ic ea ha), if_pos (ic eb hb), way_eq (RP_pm hr') (RP_wy hr') ha hb]] at m
  exact ⟨_, _, _, c, m, RP_rel hr'⟩
/-- how long the model's ring lasts -/
theorem m_over_h {d : Nat} {x : Nat × (Nat → Int32)} {P : pd_T} {σ : mm_S} {s c0 m L : Nat} {k : Int32} (hd : 1 ≤ d) (hp : r_pm P σ) (hwy : r_way P σ) (hs : s < 8) (hk : kd k) (e1 : σ.2.2.1 44 s = k) (e2 : σ.2.2.1 45 s = nI c0) (hc0 : P.2.2 c0 = true) (e3 : σ.2.2.1 46 s = nI m) (hL : isL P c0 (pd_rc k) L) : ∀ (j c : Nat), c + j = pd_n P → ∀ Q, Q < 42 → (∃ b, pd_lay P c0 Q b = true) → (∀ b t, b < c → pd_lay P c0 t b = true → t ≤ Q) → mm_Runs d 109 (4, [some (.ref 37), some (.int (nI s)), some (.int (nI Q)), some (.int (nI c)), none], [], HH x σ) (some (.int (nI (m + L))), HH x σ)
  | 0, c, h, Q, hQ, hq, hm => by
    have hn := pm_n42 hp
    have hwf := pm_wf hp
    have hrc := rc_99 k
    have e : c = pd_n P := by omega
    subst e
    have sc : (nI s).toNatClampNeg = s := nI_clamp (by omega)
    have hle : f_m_all σ ≤ nI (pd_n P) := by rw [all_eq hp]; exact nI_le (Nat.le_refl _) (by omega)
    have g8 : ¬ (nI s < 0 ∨ 8 ≤ (nI s).toNatClampNeg) := nI_in hs (by omega)
    have hLv : isL P c0 (pd_rc k) (min Q (pd_rc k) + 1) := by
      refine ⟨by omega, fun t => ?_⟩
      constructor
      · intro z
        exact ⟨by omega, ne_mono hq (by omega)⟩
      · rintro ⟨z1, b, hb⟩
        have := hm b t (hwf b (bf_lw hb)) hb
        omega
    have eL := isL_uni hL hLv
    refine vc_m_overh hd (fun _ => g8) (fun _ => g8) (fun _ z => ?_) (fun _ z => ?_) (fun z => absurd hle z) (fun z => absurd hle z) (fun z => absurd hle z) (fun z => absurd hle z)
    · rw [sc, e1, mrc_eq hk, nI_leI (by omega) (by omega)] at z
      rw [sc, e1, e3, mrc_eq hk, nI_add, show nI (m + pd_rc k) + (1 : Int32) = nI (m + pd_rc k + 1) from nI_1 _, eL, show min Q (pd_rc k) = pd_rc k by omega]
      rfl
    · rw [sc, e1, mrc_eq hk, nI_leI (by omega) (by omega)] at z
      rw [sc, e3, nI_add, show nI (m + Q) + (1 : Int32) = nI (m + Q + 1) from nI_1 _, eL, show min Q (pd_rc k) = Q by omega]
      rfl
  | j + 1, c, h, Q, hQ, hq, hm => by
    have hn := pm_n42 hp
    have hwf := pm_wf hp
    have sc : (nI s).toNatClampNeg = s := nI_clamp (by omega)
    have hlt : ¬ f_m_all σ ≤ nI c := by rw [all_eq hp]; exact nI_ge (by omega) (by omega)
    have g8 : ¬ (nI s < 0 ∨ 8 ≤ (nI s).toNatClampNeg) := nI_in hs (by omega)
    have hc0n := hwf c0 hc0
    have ew : f_m_way σ (σ.2.2.1 45 (nI s).toNatClampNeg) (nI c) = pd_way P c0 c := by rw [sc, e2]; exact way_eq hp hwy hc0n (by omega)
    have ih := m_over_h (d := d) (x := x) hd hp hwy hs hk e1 e2 hc0 e3 hL j (c + 1) (by omega)
    refine vc_m_overh hd (fun z => absurd z hlt) (fun z => absurd z hlt) (fun z => absurd z hlt) (fun z => absurd z hlt) (fun _ => g8) (fun _ => by rw [sc, e2]; exact way_g hp hc0n (by omega)) (fun _ z => ?_) (fun _ z => ?_)
    · rw [ew] at z
      rw [show nI c + (1 : Int32) = nI (c + 1) from nI_1 c]
      refine ih Q hQ hq (fun b t hb hl => ?_)
      rcases Nat.lt_or_ge b c with q | q
      · exact hm b t q hl
      · have e : b = c := by omega
        subst e
        obtain ⟨t1, t2⟩ := (wy_lay hwf hn).mp hl
        rw [t2, nI_leI (by omega) (by omega)] at z
        exact z
    · rw [ew] at z
      rw [ew, show nI c + (1 : Int32) = nI (c + 1) from nI_1 c]
      rcases wy_2 hwf hn c0 c with ⟨q, -⟩ | ⟨t, ht, q, ql⟩
      · exfalso
        apply z
        rw [q, Int32.le_iff_toInt_le, nI_toInt (by omega)]
        have : (-9 : Int32).toInt = -9 := rfl
        omega
      · rw [q]
        rw [q, nI_leI (by omega) (by omega)] at z
        refine ih t ht ⟨c, ql⟩ (fun b u hb hl => ?_)
        rcases Nat.lt_or_ge b c with q2 | q2
        · have := hm b u q2 hl; omega
        · have e : b = c := by omega
          subst e
          have := bf_uni ql hl
          omega
theorem op_ofStone : opI Rel i_X6_ofStone i_X7_ofStone 2 := by
  intro x σ as h hr
  obtain ⟨k, w, rfl⟩ := as_2 h
  obtain ⟨P, ns, nw, nr, hr⟩ := rel_RP.mp hr
  have hp := RP_p hr
  rcases st_ix (RP_st hr) k with ⟨q1, q2⟩ | ⟨s, hs, rfl, q1, q2, qg, qc⟩
  · have c := vc_ofStone (d := 999) (x := x) (σ := σ) (k := k) (w := w) (v1 := 0) (σ1 := σ) (r := (some (.int (-1)), HH x σ)) (by omega) (fun z => absurd z q1) (fun z => absurd z q1) (fun z => absurd z q1) (fun z => absurd z q1) (fun z => absurd z q1) (fun z => absurd z q1) (fun z => absurd z q1) (fun z => absurd z q1) (fun z => absurd z q1) (fun z => absurd z q1) (fun z => absurd z q1) (fun z => absurd z q1) (fun z => absurd z q1) (fun _ => rfl)
    have m := vc_m_ofStone (d := 999) (x := x) (σ := σ) (k := k) (w := w) (v1 := 0) (σ1 := σ) (r := (some (.int (-1)), HH x σ)) (by omega) (fun z => absurd z q2) (fun z => absurd z q2) (fun z => absurd z q2) (fun z => absurd z q2) (fun z => absurd z q2) (fun z => absurd z q2) (fun z => absurd z q2) (fun z => absurd z q2) (fun z => absurd z q2) (fun _ => rfl)
    exact ⟨_, _, _, c, m, RP_rel hr⟩
  · obtain ⟨hs8, -, -, hst⟩ := RP_st hr
    obtain ⟨⟨e1, e2, e3⟩, hk, ⟨c0, e4, hc0⟩, m0, hm0, e5⟩ := hst s hs
    have hrc := rc_99 (σ.2.2.1 17 s)
    have other : ∀ (v : Int32), ¬ w = 3 → (w = 0 → σ.2.2.1 17 s = v) → (w = 1 → σ.2.2.1 18 s = v) → (w = 2 → σ.2.2.1 19 s = v) → ((¬ w = 0 ∧ ¬ w = 1 ∧ ¬ w = 2 ∧ ¬ w = 3) → -2 = v) → mm_Runs 999 i_X6_ofStone (0, [some (.ref 2), some (.int (nI s)), some (.int w)], [], HH x σ) (some (.int v), HH x σ) ∧ mm_Runs 999 i_X7_ofStone (0, [some (.ref 37), some (.int (nI s)), some (.int w)], [], HH x σ) (some (.int v), HH x σ) := by
      intro v n3 a0 a1 a2 a9
      refine ⟨vc_ofStone (v1 := 0) (σ1 := σ) (by omega) (fun _ _ => qg) (fun _ z => by rw [qc, a0 z]) (fun _ _ => qg) (fun _ z => by rw [qc, a1 z]) (fun _ _ => qg) (fun _ z => by rw [qc, a2 z]) (fun _ z => absurd z n3) (fun _ z => absurd z n3) (fun _ z => absurd z n3) (fun _ z => absurd z n3) (fun _ z => absurd z n3) (fun _ z => absurd z n3) (fun _ z => by rw [a9 z]) (fun z => absurd q1 z), ?_⟩
      exact vc_m_ofStone (v1 := 0) (σ1 := σ) (by omega) (fun _ z0 z1 z2 z3 => by rw [a9 ⟨z0, z1, z2, z3⟩]) (fun _ _ _ _ z => absurd z n3) (fun _ _ _ _ z => absurd z n3) (fun _ _ _ _ => qg) (fun _ _ _ z => by rw [qc, ← e3, a2 z]) (fun _ _ _ => qg) (fun _ _ z => by rw [qc, ← e2, a1 z]) (fun _ _ => qg) (fun _ z => by rw [qc, ← e1, a0 z]) (fun z => absurd q2 z)
    rcases mm_sw0_3 w with z | z | z | z | z
    · have := other (σ.2.2.1 17 s) (by rw [z]; decide) (fun _ => rfl) (fun y => absurd (z.symm.trans y) (by decide)) (fun y => absurd (z.symm.trans y) (by decide)) (fun y => absurd z y.1)
      exact ⟨_, _, _, this.1, this.2, RP_rel hr⟩
    · have := other (σ.2.2.1 18 s) (by rw [z]; decide) (fun y => absurd (z.symm.trans y) (by decide)) (fun _ => rfl) (fun y => absurd (z.symm.trans y) (by decide)) (fun y => absurd z y.2.1)
      exact ⟨_, _, _, this.1, this.2, RP_rel hr⟩
    · have := other (σ.2.2.1 19 s) (by rw [z]; decide) (fun y => absurd (z.symm.trans y) (by decide)) (fun y => absurd (z.symm.trans y) (by decide)) (fun _ => rfl) (fun y => absurd z y.2.2.1)
      exact ⟨_, _, _, this.1, this.2, RP_rel hr⟩
    · subst z
      obtain ⟨L, σ', l1, l2, l3, -⟩ := c_lasts (d := 998) (x := x) (r := pd_rc (σ.2.2.1 17 s)) (by omega) (RP_lk hr) hc0 hrc
      have hr' := RP_LZ hr l2
      have c := vc_ofStone (d := 999) (x := x) (σ := σ) (k := nI s) (w := 3) (v1 := nI L) (σ1 := σ') (r := (some (.int (nI (m0 + L))), HH x σ')) (by omega) (fun _ y => absurd y (by decide)) (fun _ y => absurd y (by decide)) (fun _ y => absurd y (by decide)) (fun _ y => absurd y (by decide)) (fun _ y => absurd y (by decide)) (fun _ y => absurd y (by decide)) (fun _ _ => qg) (fun _ _ => qg) (fun _ _ => qg) (fun _ _ => by rw [qc]; exact kd_g hk) (fun _ _ => by unfold f_reach_16; rw [qc, e4, rch_eq hk]; exact l1) (fun _ _ => by rw [qc, e5, nI_add]) (fun _ y => absurd rfl y.2.2.2) (fun y => absurd q1 y)
      have hn := pd_n42 hp
      have c0n := pond_wf hp c0 hc0
      obtain ⟨-, -, -, hst'⟩ := RP_st hr'
      have eS : σ'.2.2.1 44 s = σ.2.2.1 44 s ∧ σ'.2.2.1 45 s = σ.2.2.1 45 s ∧ σ'.2.2.1 46 s = σ.2.2.1 46 s ∧ σ'.1 3713 = σ.1 3713 := by
        obtain ⟨⟨y, D, R, rfl⟩, -, -⟩ := l2
        exact ⟨rfl, rfl, rfl, rfl⟩
      have ov : mm_Runs 998 109 (0, [some (.ref 37), some (.int (nI s)), none, none, none], [], HH x σ') (some (.int (nI (m0 + L))), HH x σ') :=
        vc_m_over0 (m_over_h (by omega) (RP_pm hr') (RP_wy hr') (by omega) hk (by rw [eS.1, ← e1]) (by rw [eS.2.1, ← e2, e4]) hc0 (by rw [eS.2.2.1, ← e3, e5]) l3 (pd_n P) 0 (by omega) 0 (by omega) ⟨c0, by rw [bf_0, hc0]; simp⟩ (fun b t hb => absurd hb (by omega)))
      have m := vc_m_ofStone (d := 999) (x := x) (σ := σ') (k := nI s) (w := 3) (v1 := nI (m0 + L)) (σ1 := σ') (r := (some (.int (nI (m0 + L))), HH x σ')) (by omega) (fun _ _ _ _ y => absurd rfl y) (fun _ _ _ _ _ => ov) (fun _ _ _ _ _ => rfl) (fun _ _ _ y => absurd y (by decide)) (fun _ _ _ y => absurd y (by decide)) (fun _ _ y => absurd y (by decide)) (fun _ _ y => absurd y (by decide)) (fun _ y => absurd y (by decide)) (fun _ y => absurd y (by decide)) (fun y => absurd (by unfold p_m_isStone at q2 ⊢; rw [eS.2.2.2]; exact q2) y)
      exact ⟨_, _, _, c, m, RP_rel hr'⟩
    · have z := mm_sn0_3 z
      have := other (-2) z.2.2.2 (fun y => absurd y z.1) (fun y => absurd y z.2.1) (fun y => absurd y z.2.2.1) (fun _ => rfl)
      exact ⟨_, _, _, this.1, this.2, RP_rel hr⟩
/-- the model's ring -/
theorem m_ring_h {d : Nat} {x : Nat × (Nat → Int32)} {P : pd_T} {σ : mm_S} {s c0 : Nat} {k m : Int32} {G : Nat → Bool} {W : Int64} (hd : 2 ≤ d) (hp : r_pm P σ) (hs : s < 8) (e1 : σ.2.2.1 44 s = k) (e2 : σ.2.2.1 45 s = nI c0) (hc0 : c0 < pd_n P) (hG : ∀ b, b < pd_n P → (p_m_comes σ k (nI c0) (nI b) (m - σ.2.2.1 46 s) ↔ G b = true)) (hW : ∀ b, bt W b = (decide (b < pd_n P) && G b)) : ∀ (j c : Nat), c + j = pd_n P → ∀ q, (∀ b, bt q b = (decide (b < c) && G b)) → mm_Runs d 112 (28, [some (.ref 37), some (.int (nI s)), some (.int m), some (.long q), none, some (.int (nI c))], [], HH x σ) (some (.long W), HH x σ)
  | 0, c, h, q, hq => by
    have hn := pm_n42 hp
    have e : c = pd_n P := by omega
    subst e
    have hle : f_m_all σ ≤ nI (pd_n P) := by rw [all_eq hp]; exact nI_le (Nat.le_refl _) (by omega)
    have eq : q = W := bt_ext (fun b _ => by rw [hq, hW])
    rw [eq]
    exact vc_m_ringh hd (fun _ => rfl) (fun z => absurd hle z) (fun z => absurd hle z) (fun z => absurd hle z) (fun z => absurd hle z) (fun z => absurd hle z) (fun z => absurd hle z)
  | j + 1, c, h, q, hq => by
    have hn := pm_n42 hp
    have sc : (nI s).toNatClampNeg = s := nI_clamp (by omega)
    have hlt : ¬ f_m_all σ ≤ nI c := by rw [all_eq hp]; exact nI_ge (by omega) (by omega)
    have g8 : ¬ (nI s < 0 ∨ 8 ≤ (nI s).toNatClampNeg) := nI_in hs (by omega)
    have ih := m_ring_h (d := d) (x := x) hd hp hs e1 e2 hc0 hG hW j (c + 1) (by omega)
    have hGc := hG c (by omega)
    refine vc_m_ringh hd (fun z => absurd z hlt) (fun _ => g8) (fun _ => g8) (fun _ => g8) (fun _ _ _ => by rw [sc, e2]; exact way_g hp hc0 (by omega)) (fun _ z => ?_) (fun _ z => ?_)
    · rw [sc, e1, e2] at z
      rw [show nI c + (1 : Int32) = nI (c + 1) from nI_1 c]
      refine ih _ (fun b => ?_)
      rw [bt_or, bt_0, Bool.or_false, hq]
      by_cases hb : b = c
      · subst hb
        have : G b = false := by
          cases hh : G b with
          | false => rfl
          | true => exact absurd (hGc.mpr hh) z
        rw [this, Bool.and_false, Bool.and_false]
      · have : decide (b < c) = decide (b < c + 1) := by
          rw [decide_eq_decide]; omega
        rw [this]
    · rw [sc, e1, e2] at z
      rw [show nI c + (1 : Int32) = nI (c + 1) from nI_1 c]
      refine ih _ (fun b => ?_)
      rw [bt_or, bt_one (by omega), hq]
      by_cases hb : b = c
      · subst hb
        rw [hGc.mp z]
        simp
      · have : decide (b < c) = decide (b < c + 1) := by
          rw [decide_eq_decide]; omega
        rw [this]
        simp [hb]
theorem within_iff (τ : mm_S) (m : Int32) : p_m_within τ m 0 999 ↔ (¬ m < 0 ∧ m ≤ 999) := by
  unfold p_m_within
  rw [Int32.not_lt (a := 999)]
theorem op_ring : opL Rel i_X6_ring i_X7_ring 2 := by
  intro x σ as h hr
  obtain ⟨k, m, rfl⟩ := as_2 h
  obtain ⟨P, ns, nw, nr, hr⟩ := rel_RP.mp hr
  have hp := RP_p hr
  have bad : (¬ p_has_16 σ k ∧ ¬ p_m_isStone σ k) ∨ ¬ (¬ m < 0 ∧ m ≤ 999) → mm_Runs 999 i_X6_ring (0, [some (.ref 2), some (.int k), some (.int m), none], [], HH x σ) (some (.long (-9223372036854775808)), HH x σ) ∧ mm_Runs 999 i_X7_ring (0, [some (.ref 37), some (.int k), some (.int m), none, none, none], [], HH x σ) (some (.long (-9223372036854775808)), HH x σ) := by
    intro e
    have no : p_has_16 σ k → ¬ m < 0 → m ≤ 999 → False := fun z1 z2 z3 => e.elim (fun w => w.1 z1) (fun w => w ⟨z2, z3⟩)
    refine ⟨vc_ring (v1 := 0) (σ1 := σ) (by omega) (fun _ => rfl) (fun _ _ => rfl) (fun z1 z2 z3 => (no z1 z2 z3).elim) (fun z1 z2 z3 => (no z1 z2 z3).elim) (fun z1 z2 z3 => (no z1 z2 z3).elim) (fun z1 z2 z3 => (no z1 z2 z3).elim) (fun z1 z2 z3 => (no z1 z2 z3).elim) (fun z1 z2 z3 => (no z1 z2 z3).elim) (fun z1 z2 z3 => (no z1 z2 z3).elim) (fun z1 z2 z3 => (no z1 z2 z3).elim) (fun _ _ _ => rfl), ?_⟩
    exact vc_m_ring0 (by omega) (fun _ => rfl) (fun z1 z2 => e.elim (fun w => absurd z1 w.2) (fun w => absurd ((within_iff σ m).mp z2) w)) (fun _ _ => rfl)
  rcases st_ix (RP_st hr) k with q | ⟨s, hs, rfl, q1, q2, qg, qc⟩
  · exact ⟨_, _, _, (bad (Or.inl q)).1, (bad (Or.inl q)).2, RP_rel hr⟩
  by_cases hm : ¬ m < 0 ∧ m ≤ 999
  · obtain ⟨hs8, -, -, hst⟩ := RP_st hr
    obtain ⟨⟨e1, e2, e3⟩, hk, ⟨c0, e4, hc0⟩, m0, hm0, e5⟩ := hst s hs
    have hrc := rc_99 (σ.2.2.1 17 s)
    have hn := pd_n42 hp
    have hwf := pond_wf hp
    have c0n := hwf c0 hc0
    obtain ⟨M, hM, rfl⟩ := nI_of2 (M := 999) (n := 999) rfl hm.1 hm.2
    obtain ⟨L, σ', l1, l2, l3, l4⟩ := c_lasts (d := 998) (x := x) (r := pd_rc (σ.2.2.1 17 s)) (by omega) (RP_lk hr) hc0 hrc
    have hr' := RP_LZ hr l2
    have hp' := RP_p hr'
    have eS : σ'.2.2.1 44 s = σ.2.2.1 44 s ∧ σ'.2.2.1 45 s = σ.2.2.1 45 s ∧ σ'.2.2.1 46 s = σ.2.2.1 46 s ∧ σ'.1 3713 = σ.1 3713 ∧ σ'.2.2.1 18 s = σ.2.2.1 18 s ∧ σ'.2.2.1 19 s = σ.2.2.1 19 s := by
      obtain ⟨⟨y, D, R, rfl⟩, -, -⟩ := l2
      exact ⟨rfl, rfl, rfl, rfl, rfl, rfl⟩
    have hc13 : p_has_13 σ' (nI c0) := by
      unfold p_has_13
      rw [hp'.2.2.1]
      exact ⟨nI_pos (by omega), nI_ge c0n (by omega)⟩
    have hL42 := l3.1
    have ca : (M < m0 ∧ (nI M - nI m0) < 0) ∨ (m0 ≤ M ∧ nI M - nI m0 = nI (M - m0)) := by
      rcases Nat.lt_or_ge M m0 with q | q
      · exact Or.inl ⟨q, pk_sneg (by omega) q⟩
      · exact Or.inr ⟨q, pk_sub q⟩
    have hW : ∀ b, bt (f_ringAt σ' (nI c0) (nI L) (nI M - nI m0)) b = (decide (b < pd_n P) && (decide (m0 ≤ M) && pd_th P (σ.2.2.1 17 s) c0 (M - m0) b)) := by
      intro b
      unfold f_ringAt
      rw [if_pos hc13]
      rcases ca with ⟨q, q2⟩ | ⟨q, q2⟩
      · rw [if_pos q2, bt_0, decide_eq_false (by omega : ¬ m0 ≤ M), Bool.false_and, Bool.and_false]
      · rw [q2, if_neg (nI_pos (by omega)), decide_eq_true q, Bool.true_and]
        by_cases z : L ≤ M - m0
        · rw [if_pos (nI_le z (by omega)), bt_0]
          have : pd_th P (σ.2.2.1 17 s) c0 (M - m0) b = false := by
            unfold pd_th
            cases hh : pd_lay P c0 (M - m0) b with
            | false => rfl
            | true =>
              rw [Bool.true_and, decide_eq_false_iff_not]
              intro y
              have := (l3.2 (M - m0)).mpr ⟨y, b, hh⟩
              omega
          rw [this, Bool.and_false]
        · rw [if_neg (nI_ge (by omega) (by omega)), c42, nI_clamp (by omega), l4 _ (by omega) b]
          have z2 := ((l3.2 (M - m0)).mp (by omega)).1
          unfold pd_th
          rw [decide_eq_true z2, Bool.and_true]
          cases hh : pd_lay P c0 (M - m0) b with
          | false => rw [Bool.and_false]
          | true => rw [decide_eq_true (hwf b (bf_lw hh))]; rfl
    have hG : ∀ b, b < pd_n P → (p_m_comes σ' (σ.2.2.1 17 s) (nI c0) (nI b) (nI M - σ'.2.2.1 46 s) ↔ (decide (m0 ≤ M) && pd_th P (σ.2.2.1 17 s) c0 (M - m0) b) = true) := by
      intro b hb
      rw [comes_iff (pond_m hp') (RP_wy hr') hk c0n hb, eS.2.2.1, ← e3, e5, Bool.and_eq_true, decide_eq_true_eq]
      constructor
      · rintro ⟨t, t1, t2, t3⟩
        rcases ca with ⟨q, q2⟩ | ⟨q, q2⟩
        · rw [t1] at q2; exact absurd q2 (nI_pos (by omega))
        · rw [q2, nI_eq (by omega) (by omega)] at t1
          rw [t1]; exact ⟨q, t3⟩
      · rintro ⟨q, q3⟩
        refine ⟨M - m0, pk_sub q, ?_, q3⟩
        unfold pd_th at q3
        rw [Bool.and_eq_true] at q3
        have := lay_lt hwf q3.1
        omega
    have c := vc_ring (d := 999) (x := x) (σ := σ) (k := nI s) (m := nI M) (v1 := nI L) (σ1 := σ') (r := (some (.long (f_ringAt σ' (nI c0) (nI L) (nI M - nI m0))), HH x σ')) (by omega) (fun z => absurd q1 z) (fun _ z => absurd z hm.1) (fun _ _ _ => qg) (fun _ _ _ => qg) (fun _ _ _ => by rw [qc]; exact kd_g hk) (fun _ _ _ => by unfold f_reach_16; rw [qc, e4, rch_eq hk]; exact l1) (fun _ _ _ => qg) (fun _ _ _ => qg) (fun _ _ _ _ z1 z2 => by
      rw [qc, eS.2.2.2.2.1, eS.2.2.2.2.2, e4, e5] at *
      rcases ca with ⟨q, q2⟩ | ⟨q, q2⟩
      · exact absurd q2 z1
      · rw [q2, nI_leI (by omega) (by omega)] at z2
        rw [q2, c42]
        exact nI_in (by omega) (by omega)) (fun _ _ _ => by rw [qc, eS.2.2.2.2.1, eS.2.2.2.2.2, e4, e5]) (fun _ _ z => absurd hm.2 z)
    have mr := m_ring_h (d := 999) (x := x) (σ := σ') (s := s) (c0 := c0) (k := σ.2.2.1 17 s) (m := nI M) (by omega) (pond_m hp') (by omega) (by rw [eS.1, ← e1]) (by rw [eS.2.1, ← e2, e4]) c0n hG hW (pd_n P) 0 (by omega) 0 (fun b => by rw [bt_0, decide_eq_false (by omega), Bool.false_and])
    have mm := vc_m_ring0 (d := 999) (x := x) (σ := σ') (k := nI s) (m := nI M) (r := (some (.long (f_ringAt σ' (nI c0) (nI L) (nI M - nI m0))), HH x σ')) (by omega) (fun z => absurd (by unfold p_m_isStone at q2 ⊢; rw [eS.2.2.2.1]; exact q2) z) (fun _ _ => mr) (fun _ z => absurd ((within_iff σ' (nI M)).mpr hm) z)
    exact ⟨_, _, _, c, mm, RP_rel hr'⟩
  · exact ⟨_, _, _, (bad (Or.inr hm)).1, (bad (Or.inr hm)).2, RP_rel hr⟩

