/-! pond (written by wip/whole/t49.py) -/
theorem vc_m_rp0 {d : Nat} {x : Nat × (Nat → Int32)} {σ : mm_S} {e : Int32} {v1 v2 : Int32} {σ1 σ2 : mm_S} {r : Option Value × mm_H} (hd : 1 ≤ d) (k1 : e ≤ (σ.1 3709) → (some (.int (0 : Int32)), HH x σ) = r) (k2 : ¬ e ≤ (σ.1 3709) → ¬ ((σ.1 3709) < 0 ∨ 240 ≤ (σ.1 3709).toNatClampNeg)) (k3 : ¬ e ≤ (σ.1 3709) → ((σ.2.2.1 40) (σ.1 3709).toNatClampNeg) = (112 : Int32) → mm_Runs (d - 1) 96 (0, [some (.ref 37), some (.int e), some (.int (6 : Int32))], [], HH x (ui σ 3709 ((σ.1 3709) + (1 : Int32)))) (some (.int v1), HH x σ1)) (k4 : ¬ e ≤ (σ.1 3709) → ((σ.2.2.1 40) (σ.1 3709).toNatClampNeg) = (112 : Int32) → ¬ v1 = (-9 : Int32) → mm_Runs (d - 1) 96 (0, [some (.ref 37), some (.int e), some (.int (7 : Int32))], [], HH x (ui σ1 3710 v1)) (some (.int v2), HH x σ2)) (k5 : ¬ e ≤ (σ.1 3709) → ((σ.2.2.1 40) (σ.1 3709).toNatClampNeg) = (112 : Int32) → ¬ v1 = (-9 : Int32) → ¬ v2 = (-9 : Int32) → mm_Runs d 98 (80, [some (.ref 37), some (.int e), some (.int (0 : Int32)), none], [], HH x (ui σ2 3711 v2)) r) (k6 : ¬ e ≤ (σ.1 3709) → ((σ.2.2.1 40) (σ.1 3709).toNatClampNeg) = (112 : Int32) → ¬ v1 = (-9 : Int32) → v2 = (-9 : Int32) → (some (.int (0 : Int32)), HH x (ui σ2 3711 v2)) = r) (k7 : ¬ e ≤ (σ.1 3709) → ((σ.2.2.1 40) (σ.1 3709).toNatClampNeg) = (112 : Int32) → v1 = (-9 : Int32) → (some (.int (0 : Int32)), HH x (ui σ1 3710 v1)) = r) (k8 : ¬ e ≤ (σ.1 3709) → ¬ ((σ.2.2.1 40) (σ.1 3709).toNatClampNeg) = (112 : Int32) → (some (.int (0 : Int32)), HH x σ) = r) : mm_Runs d 98 (0, [some (.ref 37), some (.int e), none, none], [], HH x σ) r := by
  refine mm_go 4 (F' := (bif mm_cond .ge (σ.1 3709) e then 22 else 8, [some (.ref 37), some (.int e), none, none], [], HH x σ)) rfl ?_
  refine mb_ge (fun h1 => ?_) (fun h1 => ?_)
  · refine mm_go 1 (F' := (23, [some (.ref 37), some (.int e), none, none], [.int (0 : Int32)], HH x σ)) rfl ?_
    exact mm_rtz rfl rfl (Or.inl rfl) (k1 h1)
  · refine mm_go 4 (F' := (16, [some (.ref 37), some (.int e), none, none], [.int (σ.1 3709), .ref 40], HH x σ)) rfl ?_
    refine mm_gd (F' := (17, [some (.ref 37), some (.int e), none, none], [.int ((σ.2.2.1 40) (σ.1 3709).toNatClampNeg)], HH x σ)) rfl (k2 h1) ?_
    refine mm_go 2 (F' := (bif mm_cond .eq ((σ.2.2.1 40) (σ.1 3709).toNatClampNeg) (112 : Int32) then 24 else 22, [some (.ref 37), some (.int e), none, none], [], HH x σ)) rfl ?_
    refine mb_eq (fun h2 => ?_) (fun h2 => ?_)
    · refine mm_go 5 (F' := (31, [some (.ref 37), some (.int e), none, none], [.int ((σ.1 3709) + (1 : Int32)), .ref 37], HH x σ)) rfl ?_
      refine mm_go 1 (F' := (34, [some (.ref 37), some (.int e), none, none], [], HH x (ui σ 3709 ((σ.1 3709) + (1 : Int32))))) rfl ?_
      refine mm_go 4 (F' := (39, [some (.ref 37), some (.int e), none, none], [.int (6 : Int32), .int e, .ref 37, .ref 37], HH x (ui σ 3709 ((σ.1 3709) + (1 : Int32))))) rfl ?_
      refine mm_kl (z := 96) (as := [.ref 37, .int e, .int (6 : Int32)]) (S' := [.ref 37]) (L2 := [some (.ref 37), some (.int e), some (.int (6 : Int32))]) (v := some (.int v1)) (h1 := HH x σ1) rfl rfl rfl rfl rfl (by omega) (k3 h1 h2) ?_
      show mm_Runs d 98 (42, [some (.ref 37), some (.int e), none, none], [.int v1, .ref 37], HH x σ1) r
      refine mm_go 1 (F' := (45, [some (.ref 37), some (.int e), none, none], [], HH x (ui σ1 3710 v1))) rfl ?_
      refine mm_go 4 (F' := (bif mm_cond .ne v1 (-9 : Int32) then 56 else 54, [some (.ref 37), some (.int e), none, none], [], HH x (ui σ1 3710 v1))) rfl ?_
      refine mb_ne (fun h3 => ?_) (fun h3 => ?_)
      · refine mm_go 4 (F' := (61, [some (.ref 37), some (.int e), none, none], [.int (7 : Int32), .int e, .ref 37, .ref 37], HH x (ui σ1 3710 v1))) rfl ?_
        refine mm_kl (z := 96) (as := [.ref 37, .int e, .int (7 : Int32)]) (S' := [.ref 37]) (L2 := [some (.ref 37), some (.int e), some (.int (7 : Int32))]) (v := some (.int v2)) (h1 := HH x σ2) rfl rfl rfl rfl rfl (by omega) (k4 h1 h2 h3) ?_
        show mm_Runs d 98 (64, [some (.ref 37), some (.int e), none, none], [.int v2, .ref 37], HH x σ2) r
        refine mm_go 1 (F' := (67, [some (.ref 37), some (.int e), none, none], [], HH x (ui σ2 3711 v2))) rfl ?_
        refine mm_go 4 (F' := (bif mm_cond .ne v2 (-9 : Int32) then 78 else 76, [some (.ref 37), some (.int e), none, none], [], HH x (ui σ2 3711 v2))) rfl ?_
        refine mb_ne (fun h4 => ?_) (fun h4 => ?_)
        · refine mm_go 2 (F' := (80, [some (.ref 37), some (.int e), some (.int (0 : Int32)), none], [], HH x (ui σ2 3711 v2))) rfl ?_
          exact mm_wk (by exact (And.intro rfl (And.intro rfl (And.intro rfl True.intro)))) (k5 h1 h2 h3 h4)
        · refine mm_go 1 (F' := (77, [some (.ref 37), some (.int e), none, none], [.int (0 : Int32)], HH x (ui σ2 3711 v2))) rfl ?_
          exact mm_rtz rfl rfl (Or.inl rfl) (k6 h1 h2 h3 h4)
      · refine mm_go 1 (F' := (55, [some (.ref 37), some (.int e), none, none], [.int (0 : Int32)], HH x (ui σ1 3710 v1))) rfl ?_
        exact mm_rtz rfl rfl (Or.inl rfl) (k7 h1 h2 h3)
    · refine mm_go 1 (F' := (23, [some (.ref 37), some (.int e), none, none], [.int (0 : Int32)], HH x σ)) rfl ?_
      exact mm_rtz rfl rfl (Or.inl rfl) (k8 h1 h2)
set_option maxRecDepth 20000 in
theorem vc_m_rpr {d : Nat} {x : Nat × (Nat → Int32)} {σ : mm_S} {e g : Int32} {r : Option Value × mm_H} (k1 : (σ.1 3710) ≤ g → ¬ (σ.1 3709) = e → (some (.int (0 : Int32)), HH x σ) = r) (k2 : (σ.1 3710) ≤ g → (σ.1 3709) = e → (some (.int (1 : Int32)), HH x σ) = r) (k3 : ¬ (σ.1 3710) ≤ g → e ≤ (σ.1 3709) → (some (.int (0 : Int32)), HH x σ) = r) (k4 : ¬ (σ.1 3710) ≤ g → ¬ e ≤ (σ.1 3709) → ¬ ((σ.1 3709) < 0 ∨ 240 ≤ (σ.1 3709).toNatClampNeg)) (k5 : ¬ (σ.1 3710) ≤ g → ¬ e ≤ (σ.1 3709) → ((σ.2.2.1 40) (σ.1 3709).toNatClampNeg) = (59 : Int32) → mm_Runs d 98 (124, [some (.ref 37), some (.int e), some (.int g), some (.int (0 : Int32))], [], HH x (ui σ 3709 ((σ.1 3709) + (1 : Int32)))) r) (k6 : ¬ (σ.1 3710) ≤ g → ¬ e ≤ (σ.1 3709) → ¬ ((σ.2.2.1 40) (σ.1 3709).toNatClampNeg) = (59 : Int32) → (some (.int (0 : Int32)), HH x σ) = r) : mm_Runs d 98 (80, [some (.ref 37), some (.int e), some (.int g), none], [], HH x σ) r := by
  refine mm_go 4 (F' := (bif mm_cond .ge g (σ.1 3710) then 224 else 88, [some (.ref 37), some (.int e), some (.int g), none], [], HH x σ)) rfl ?_
  refine mb_ge (fun h1 => ?_) (fun h1 => ?_)
  · refine mm_go 4 (F' := (bif mm_cond .ne (σ.1 3709) e then 236 else 232, [some (.ref 37), some (.int e), some (.int g), none], [], HH x σ)) rfl ?_
    refine mb_ne (fun h2 => ?_) (fun h2 => ?_)
    · refine mm_go 1 (F' := (237, [some (.ref 37), some (.int e), some (.int g), none], [.int (0 : Int32)], HH x σ)) rfl ?_
      exact mm_rtz rfl rfl (Or.inl rfl) (k1 h1 h2)
    · refine mm_go 2 (F' := (237, [some (.ref 37), some (.int e), some (.int g), none], [.int (1 : Int32)], HH x σ)) rfl ?_
      exact mm_rtz rfl rfl (Or.inr rfl) (k2 h1 h2)
  · refine mm_go 4 (F' := (bif mm_cond .ge (σ.1 3709) e then 110 else 96, [some (.ref 37), some (.int e), some (.int g), none], [], HH x σ)) rfl ?_
    refine mb_ge (fun h3 => ?_) (fun h3 => ?_)
    · refine mm_go 1 (F' := (111, [some (.ref 37), some (.int e), some (.int g), none], [.int (0 : Int32)], HH x σ)) rfl ?_
      exact mm_rtz rfl rfl (Or.inl rfl) (k3 h1 h3)
    · refine mm_go 4 (F' := (104, [some (.ref 37), some (.int e), some (.int g), none], [.int (σ.1 3709), .ref 40], HH x σ)) rfl ?_
      refine mm_gd (F' := (105, [some (.ref 37), some (.int e), some (.int g), none], [.int ((σ.2.2.1 40) (σ.1 3709).toNatClampNeg)], HH x σ)) rfl (k4 h1 h3) ?_
      refine mm_go 2 (F' := (bif mm_cond .eq ((σ.2.2.1 40) (σ.1 3709).toNatClampNeg) (59 : Int32) then 112 else 110, [some (.ref 37), some (.int e), some (.int g), none], [], HH x σ)) rfl ?_
      refine mb_eq (fun h4 => ?_) (fun h4 => ?_)
      · refine mm_go 5 (F' := (119, [some (.ref 37), some (.int e), some (.int g), none], [.int ((σ.1 3709) + (1 : Int32)), .ref 37], HH x σ)) rfl ?_
        refine mm_go 1 (F' := (122, [some (.ref 37), some (.int e), some (.int g), none], [], HH x (ui σ 3709 ((σ.1 3709) + (1 : Int32))))) rfl ?_
        refine mm_go 2 (F' := (124, [some (.ref 37), some (.int e), some (.int g), some (.int (0 : Int32))], [], HH x (ui σ 3709 ((σ.1 3709) + (1 : Int32))))) rfl ?_
        exact mm_wk (by exact (And.intro rfl (And.intro rfl (And.intro rfl (And.intro rfl True.intro))))) (k5 h1 h3 h4)
      · refine mm_go 1 (F' := (111, [some (.ref 37), some (.int e), some (.int g), none], [.int (0 : Int32)], HH x σ)) rfl ?_
        exact mm_rtz rfl rfl (Or.inl rfl) (k6 h1 h3 h4)
set_option maxRecDepth 20000 in
theorem vc_m_rpc {d : Nat} {x : Nat × (Nat → Int32)} {σ : mm_S} {e g c : Int32} {r : Option Value × mm_H} (k1 : (σ.1 3711) ≤ c → mm_Runs d 98 (80, [some (.ref 37), some (.int e), some (.int (g + (1 : Int32))), none], [], HH x σ) r) (k2 : ¬ (σ.1 3711) ≤ c → e ≤ (σ.1 3709) → (some (.int (0 : Int32)), HH x σ) = r) (k3 : ¬ (σ.1 3711) ≤ c → ¬ e ≤ (σ.1 3709) → ¬ ((σ.1 3709) < 0 ∨ 240 ≤ (σ.1 3709).toNatClampNeg)) (k4 : ¬ (σ.1 3711) ≤ c → ¬ e ≤ (σ.1 3709) → ((σ.2.2.1 40) (σ.1 3709).toNatClampNeg) = (46 : Int32) → ¬ ((σ.1 3709) < 0 ∨ 240 ≤ (σ.1 3709).toNatClampNeg)) (k5 : ¬ (σ.1 3711) ≤ c → ¬ e ≤ (σ.1 3709) → ((σ.2.2.1 40) (σ.1 3709).toNatClampNeg) = (46 : Int32) → ¬ ((((σ.1 3711) * g) + c) < 0 ∨ 42 ≤ (((σ.1 3711) * g) + c).toNatClampNeg)) (k6 : ¬ (σ.1 3711) ≤ c → ¬ e ≤ (σ.1 3709) → ((σ.2.2.1 40) (σ.1 3709).toNatClampNeg) = (46 : Int32) → mm_Runs d 98 (124, [some (.ref 37), some (.int e), some (.int g), some (.int (c + (1 : Int32)))], [], HH x (ui (ua σ 43 (upd (σ.2.2.1 43) (((σ.1 3711) * g) + c).toNatClampNeg (1 : Int32))) 3709 ((σ.1 3709) + (1 : Int32)))) r) (k7 : ¬ (σ.1 3711) ≤ c → ¬ e ≤ (σ.1 3709) → ¬ ((σ.2.2.1 40) (σ.1 3709).toNatClampNeg) = (46 : Int32) → ¬ ((σ.1 3709) < 0 ∨ 240 ≤ (σ.1 3709).toNatClampNeg)) (k8 : ¬ (σ.1 3711) ≤ c → ¬ e ≤ (σ.1 3709) → ¬ ((σ.2.2.1 40) (σ.1 3709).toNatClampNeg) = (46 : Int32) → ((σ.2.2.1 40) (σ.1 3709).toNatClampNeg) = (35 : Int32) → ¬ ((σ.1 3709) < 0 ∨ 240 ≤ (σ.1 3709).toNatClampNeg)) (k9 : ¬ (σ.1 3711) ≤ c → ¬ e ≤ (σ.1 3709) → ¬ ((σ.2.2.1 40) (σ.1 3709).toNatClampNeg) = (46 : Int32) → ((σ.2.2.1 40) (σ.1 3709).toNatClampNeg) = (35 : Int32) → ¬ ((((σ.1 3711) * g) + c) < 0 ∨ 42 ≤ (((σ.1 3711) * g) + c).toNatClampNeg)) (k10 : ¬ (σ.1 3711) ≤ c → ¬ e ≤ (σ.1 3709) → ¬ ((σ.2.2.1 40) (σ.1 3709).toNatClampNeg) = (46 : Int32) → ((σ.2.2.1 40) (σ.1 3709).toNatClampNeg) = (35 : Int32) → mm_Runs d 98 (124, [some (.ref 37), some (.int e), some (.int g), some (.int (c + (1 : Int32)))], [], HH x (ui (ua σ 43 (upd (σ.2.2.1 43) (((σ.1 3711) * g) + c).toNatClampNeg (0 : Int32))) 3709 ((σ.1 3709) + (1 : Int32)))) r) (k11 : ¬ (σ.1 3711) ≤ c → ¬ e ≤ (σ.1 3709) → ¬ ((σ.2.2.1 40) (σ.1 3709).toNatClampNeg) = (46 : Int32) → ¬ ((σ.2.2.1 40) (σ.1 3709).toNatClampNeg) = (35 : Int32) → (some (.int (0 : Int32)), HH x σ) = r) : mm_Runs d 98 (124, [some (.ref 37), some (.int e), some (.int g), some (.int c)], [], HH x σ) r := by
  refine mm_go 4 (F' := (bif mm_cond .ge c (σ.1 3711) then 218 else 132, [some (.ref 37), some (.int e), some (.int g), some (.int c)], [], HH x σ)) rfl ?_
  refine mb_ge (fun h1 => ?_) (fun h1 => ?_)
  · refine mm_go 2 (F' := (80, [some (.ref 37), some (.int e), some (.int (g + (1 : Int32))), some (.int c)], [], HH x σ)) rfl ?_
    exact mm_wk (by exact (And.intro rfl (And.intro rfl (And.intro rfl True.intro)))) (k1 h1)
  · refine mm_go 4 (F' := (bif mm_cond .ge (σ.1 3709) e then 168 else 140, [some (.ref 37), some (.int e), some (.int g), some (.int c)], [], HH x σ)) rfl ?_
    refine mb_ge (fun h2 => ?_) (fun h2 => ?_)
    · refine mm_go 1 (F' := (169, [some (.ref 37), some (.int e), some (.int g), some (.int c)], [.int (0 : Int32)], HH x σ)) rfl ?_
      exact mm_rtz rfl rfl (Or.inl rfl) (k2 h1 h2)
    · refine mm_go 4 (F' := (148, [some (.ref 37), some (.int e), some (.int g), some (.int c)], [.int (σ.1 3709), .ref 40], HH x σ)) rfl ?_
      refine mm_gd (F' := (149, [some (.ref 37), some (.int e), some (.int g), some (.int c)], [.int ((σ.2.2.1 40) (σ.1 3709).toNatClampNeg)], HH x σ)) rfl (k3 h1 h2) ?_
      refine mm_go 2 (F' := (bif mm_cond .eq ((σ.2.2.1 40) (σ.1 3709).toNatClampNeg) (46 : Int32) then 170 else 154, [some (.ref 37), some (.int e), some (.int g), some (.int c)], [], HH x σ)) rfl ?_
      refine mb_eq (fun h3 => ?_) (fun h3 => ?_)
      · refine mm_go 12 (F' := (190, [some (.ref 37), some (.int e), some (.int g), some (.int c)], [.int (σ.1 3709), .ref 40, .int (((σ.1 3711) * g) + c), .ref 43], HH x σ)) rfl ?_
        refine mm_gd (F' := (191, [some (.ref 37), some (.int e), some (.int g), some (.int c)], [.int ((σ.2.2.1 40) (σ.1 3709).toNatClampNeg), .int (((σ.1 3711) * g) + c), .ref 43], HH x σ)) rfl (k4 h1 h2 h3) ?_
        refine mm_go 2 (F' := (bif mm_cond .ne ((σ.2.2.1 40) (σ.1 3709).toNatClampNeg) (46 : Int32) then 200 else 196, [some (.ref 37), some (.int e), some (.int g), some (.int c)], [.int (((σ.1 3711) * g) + c), .ref 43], HH x σ)) rfl ?_
        refine mb_ne (fun h4 => absurd h3 h4) (fun _ => ?_)
        refine mm_go 2 (F' := (201, [some (.ref 37), some (.int e), some (.int g), some (.int c)], [.int (1 : Int32), .int (((σ.1 3711) * g) + c), .ref 43], HH x σ)) rfl ?_
        refine mm_gdt (b := (1 : Int32) = 0 ∨ (1 : Int32) = 1) (F' := (202, [some (.ref 37), some (.int e), some (.int g), some (.int c)], [], HH x (ua σ 43 (upd (σ.2.2.1 43) (((σ.1 3711) * g) + c).toNatClampNeg (1 : Int32))))) rfl (k5 h1 h2 h3) (Or.inr rfl) ?_
        refine mm_go 5 (F' := (209, [some (.ref 37), some (.int e), some (.int g), some (.int c)], [.int ((σ.1 3709) + (1 : Int32)), .ref 37], HH x (ua σ 43 (upd (σ.2.2.1 43) (((σ.1 3711) * g) + c).toNatClampNeg (1 : Int32))))) rfl ?_
        refine mm_go 1 (F' := (212, [some (.ref 37), some (.int e), some (.int g), some (.int c)], [], HH x (ui (ua σ 43 (upd (σ.2.2.1 43) (((σ.1 3711) * g) + c).toNatClampNeg (1 : Int32))) 3709 ((σ.1 3709) + (1 : Int32))))) rfl ?_
        refine mm_go 2 (F' := (124, [some (.ref 37), some (.int e), some (.int g), some (.int (c + (1 : Int32)))], [], HH x (ui (ua σ 43 (upd (σ.2.2.1 43) (((σ.1 3711) * g) + c).toNatClampNeg (1 : Int32))) 3709 ((σ.1 3709) + (1 : Int32))))) rfl ?_
        exact mm_wk (by exact (And.intro rfl (And.intro rfl (And.intro rfl (And.intro rfl True.intro))))) (k6 h1 h2 h3)
      · refine mm_go 4 (F' := (162, [some (.ref 37), some (.int e), some (.int g), some (.int c)], [.int (σ.1 3709), .ref 40], HH x σ)) rfl ?_
        refine mm_gd (F' := (163, [some (.ref 37), some (.int e), some (.int g), some (.int c)], [.int ((σ.2.2.1 40) (σ.1 3709).toNatClampNeg)], HH x σ)) rfl (k7 h1 h2 h3) ?_
        refine mm_go 2 (F' := (bif mm_cond .eq ((σ.2.2.1 40) (σ.1 3709).toNatClampNeg) (35 : Int32) then 170 else 168, [some (.ref 37), some (.int e), some (.int g), some (.int c)], [], HH x σ)) rfl ?_
        refine mb_eq (fun h5 => ?_) (fun h5 => ?_)
        · refine mm_go 12 (F' := (190, [some (.ref 37), some (.int e), some (.int g), some (.int c)], [.int (σ.1 3709), .ref 40, .int (((σ.1 3711) * g) + c), .ref 43], HH x σ)) rfl ?_
          refine mm_gd (F' := (191, [some (.ref 37), some (.int e), some (.int g), some (.int c)], [.int ((σ.2.2.1 40) (σ.1 3709).toNatClampNeg), .int (((σ.1 3711) * g) + c), .ref 43], HH x σ)) rfl (k8 h1 h2 h3 h5) ?_
          refine mm_go 2 (F' := (bif mm_cond .ne ((σ.2.2.1 40) (σ.1 3709).toNatClampNeg) (46 : Int32) then 200 else 196, [some (.ref 37), some (.int e), some (.int g), some (.int c)], [.int (((σ.1 3711) * g) + c), .ref 43], HH x σ)) rfl ?_
          refine mb_ne (fun _ => ?_) (fun h6 => absurd h6 h3)
          refine mm_go 1 (F' := (201, [some (.ref 37), some (.int e), some (.int g), some (.int c)], [.int (0 : Int32), .int (((σ.1 3711) * g) + c), .ref 43], HH x σ)) rfl ?_
          refine mm_gdt (b := (0 : Int32) = 0 ∨ (0 : Int32) = 1) (F' := (202, [some (.ref 37), some (.int e), some (.int g), some (.int c)], [], HH x (ua σ 43 (upd (σ.2.2.1 43) (((σ.1 3711) * g) + c).toNatClampNeg (0 : Int32))))) rfl (k9 h1 h2 h3 h5) (Or.inl rfl) ?_
          refine mm_go 5 (F' := (209, [some (.ref 37), some (.int e), some (.int g), some (.int c)], [.int ((σ.1 3709) + (1 : Int32)), .ref 37], HH x (ua σ 43 (upd (σ.2.2.1 43) (((σ.1 3711) * g) + c).toNatClampNeg (0 : Int32))))) rfl ?_
          refine mm_go 1 (F' := (212, [some (.ref 37), some (.int e), some (.int g), some (.int c)], [], HH x (ui (ua σ 43 (upd (σ.2.2.1 43) (((σ.1 3711) * g) + c).toNatClampNeg (0 : Int32))) 3709 ((σ.1 3709) + (1 : Int32))))) rfl ?_
          refine mm_go 2 (F' := (124, [some (.ref 37), some (.int e), some (.int g), some (.int (c + (1 : Int32)))], [], HH x (ui (ua σ 43 (upd (σ.2.2.1 43) (((σ.1 3711) * g) + c).toNatClampNeg (0 : Int32))) 3709 ((σ.1 3709) + (1 : Int32))))) rfl ?_
          exact mm_wk (by exact (And.intro rfl (And.intro rfl (And.intro rfl (And.intro rfl True.intro))))) (k10 h1 h2 h3 h5)
        · refine mm_go 1 (F' := (169, [some (.ref 37), some (.int e), some (.int g), some (.int c)], [.int (0 : Int32)], HH x σ)) rfl ?_
          exact mm_rtz rfl rfl (Or.inl rfl) (k11 h1 h2 h3 h5)
theorem vc_m_pond {d : Nat} {x : Nat × (Nat → Int32)} {σ : mm_S} {k t i n : Int32} {v1 : Int32} {σ1 : mm_S} {r : Option Value × mm_H} (hd : 2 ≤ d) (k1 : (p_m_isSheet (ui σ 3700 (0 : Int32)) k) → (p_m_isSort (ui σ 3700 (0 : Int32)) t) → ¬ (k < 0 ∨ 4 ≤ k.toNatClampNeg)) (k2 : (p_m_isSheet (ui σ 3700 (0 : Int32)) k) → (p_m_isSort (ui σ 3700 (0 : Int32)) t) → (((ui σ 3700 (0 : Int32)).2.2.1 38) k.toNatClampNeg) = (-9 : Int32) → ¬ (k < 0 ∨ 4 ≤ k.toNatClampNeg)) (k3 : (p_m_isSheet (ui σ 3700 (0 : Int32)) k) → (p_m_isSort (ui σ 3700 (0 : Int32)) t) → ¬ (((ui σ 3700 (0 : Int32)).2.2.1 38) k.toNatClampNeg) = (-9 : Int32) → ¬ (k < 0 ∨ 4 ≤ k.toNatClampNeg)) (k4 : (p_m_isSheet (ui σ 3700 (0 : Int32)) k) → (p_m_isSort (ui σ 3700 (0 : Int32)) t) → ¬ (((ui σ 3700 (0 : Int32)).2.2.1 38) k.toNatClampNeg) = (-9 : Int32) → (((ui σ 3700 (0 : Int32)).2.2.1 38) k.toNatClampNeg) = t → ¬ (k < 0 ∨ 4 ≤ k.toNatClampNeg)) (k5 : (p_m_isSheet (ui σ 3700 (0 : Int32)) k) → (p_m_isSort (ui σ 3700 (0 : Int32)) t) → ¬ (((ui σ 3700 (0 : Int32)).2.2.1 38) k.toNatClampNeg) = (-9 : Int32) → (((ui σ 3700 (0 : Int32)).2.2.1 38) k.toNatClampNeg) = t → 0 ≤ n → ¬ i < 0 → ¬ (k < 0 ∨ 4 ≤ k.toNatClampNeg)) (k6 : (p_m_isSheet (ui σ 3700 (0 : Int32)) k) → (p_m_isSort (ui σ 3700 (0 : Int32)) t) → ¬ (((ui σ 3700 (0 : Int32)).2.2.1 38) k.toNatClampNeg) = (-9 : Int32) → (((ui σ 3700 (0 : Int32)).2.2.1 38) k.toNatClampNeg) = t → 0 ≤ n → ¬ i < 0 → ¬ (((ui σ 3700 (0 : Int32)).2.2.1 39) k.toNatClampNeg) < i → ¬ (k < 0 ∨ 4 ≤ k.toNatClampNeg)) (k7 : (p_m_isSheet (ui σ 3700 (0 : Int32)) k) → (p_m_isSort (ui σ 3700 (0 : Int32)) t) → (f_m_against (ui σ 3700 (0 : Int32)) k t i n) = 0 → mm_Runs (d - 1) 98 (0, [some (.ref 37), some (.int ((((60 : Int32) * k) + i) + n)), none, none], [], HH x (ui (ui σ 3700 (0 : Int32)) 3709 (((60 : Int32) * k) + i))) (some (.int v1), HH x σ1)) (k8 : (p_m_isSheet (ui σ 3700 (0 : Int32)) k) → (p_m_isSort (ui σ 3700 (0 : Int32)) t) → (f_m_against (ui σ 3700 (0 : Int32)) k t i n) = 0 → ¬ v1 = 0 → mm_Runs d 97 (103, [some (.ref 37), none, none, none, none, none, none, some (.int (0 : Int32))], [], HH x (ui (ui σ1 3705 (σ1.1 3710)) 3706 (σ1.1 3711))) r) (k9 : (p_m_isSheet (ui σ 3700 (0 : Int32)) k) → (p_m_isSort (ui σ 3700 (0 : Int32)) t) → (f_m_against (ui σ 3700 (0 : Int32)) k t i n) = 0 → v1 = 0 → (some (.int ((-100 : Int32) - ((σ1.1 3709) - (((60 : Int32) * k) + i)))), HH x σ1) = r) (k10 : (p_m_isSheet (ui σ 3700 (0 : Int32)) k) → (p_m_isSort (ui σ 3700 (0 : Int32)) t) → ¬ (f_m_against (ui σ 3700 (0 : Int32)) k t i n) = 0 → (some (.int (f_m_fails (ui σ 3700 (0 : Int32)) (f_m_against (ui σ 3700 (0 : Int32)) k t i n))), HH x (g_m_fails (ui σ 3700 (0 : Int32)) (f_m_against (ui σ 3700 (0 : Int32)) k t i n))) = r) (k11 : (p_m_isSheet (ui σ 3700 (0 : Int32)) k) → ¬ (p_m_isSort (ui σ 3700 (0 : Int32)) t) → (some (.int (-2 : Int32)), HH x (ui σ 3700 (0 : Int32))) = r) (k12 : ¬ (p_m_isSheet (ui σ 3700 (0 : Int32)) k) → (some (.int (-1 : Int32)), HH x (ui σ 3700 (0 : Int32))) = r) : mm_Runs d 97 (0, [some (.ref 37), some (.int k), some (.int t), some (.int i), some (.int n), none, none, none], [], HH x σ) r := by
  refine mm_go 2 (F' := (2, [some (.ref 37), some (.int k), some (.int t), some (.int i), some (.int n), none, none, none], [.int (0 : Int32), .ref 37], HH x σ)) rfl ?_
  refine mm_go 1 (F' := (5, [some (.ref 37), some (.int k), some (.int t), some (.int i), some (.int n), none, none, none], [], HH x (ui σ 3700 (0 : Int32)))) rfl ?_
  refine mm_go 1 (F' := (6, [some (.ref 37), some (.int k), some (.int t), some (.int i), some (.int n), none, none, none], [.int k], HH x (ui σ 3700 (0 : Int32)))) rfl ?_
  refine mm_kl (z := 91) (as := [.int k]) (S' := []) (L2 := [some (.int k)]) (v := some (.int (mm_b (p_m_isSheet (ui σ 3700 (0 : Int32)) k)))) (h1 := HH x (ui σ 3700 (0 : Int32))) rfl rfl rfl rfl rfl (by omega) (r_m_isSheet (by omega)) ?_
  show mm_Runs d 97 (9, [some (.ref 37), some (.int k), some (.int t), some (.int i), some (.int n), none, none, none], [.int (mm_b (p_m_isSheet (ui σ 3700 (0 : Int32)) k))], HH x (ui σ 3700 (0 : Int32))) r
  refine mm_go 1 (F' := (bif mm_cond .ne (mm_b (p_m_isSheet (ui σ 3700 (0 : Int32)) k)) 0 then 14 else 12, [some (.ref 37), some (.int k), some (.int t), some (.int i), some (.int n), none, none, none], [], HH x (ui σ 3700 (0 : Int32)))) rfl ?_
  refine mb_bne (fun h1 => ?_) (fun h1 => ?_)
  · refine mm_go 1 (F' := (15, [some (.ref 37), some (.int k), some (.int t), some (.int i), some (.int n), none, none, none], [.int t], HH x (ui σ 3700 (0 : Int32)))) rfl ?_
    refine mm_kl (z := 92) (as := [.int t]) (S' := []) (L2 := [some (.int t)]) (v := some (.int (mm_b (p_m_isSort (ui σ 3700 (0 : Int32)) t)))) (h1 := HH x (ui σ 3700 (0 : Int32))) rfl rfl rfl rfl rfl (by omega) (r_m_isSort (by omega)) ?_
    show mm_Runs d 97 (18, [some (.ref 37), some (.int k), some (.int t), some (.int i), some (.int n), none, none, none], [.int (mm_b (p_m_isSort (ui σ 3700 (0 : Int32)) t))], HH x (ui σ 3700 (0 : Int32))) r
    refine mm_go 1 (F' := (bif mm_cond .ne (mm_b (p_m_isSort (ui σ 3700 (0 : Int32)) t)) 0 then 24 else 21, [some (.ref 37), some (.int k), some (.int t), some (.int i), some (.int n), none, none, none], [], HH x (ui σ 3700 (0 : Int32)))) rfl ?_
    refine mb_bne (fun h2 => ?_) (fun h2 => ?_)
    · refine mm_go 5 (F' := (30, [some (.ref 37), some (.int k), some (.int t), some (.int i), some (.int n), none, none, none], [.int n, .int i, .int t, .int k, .ref 37], HH x (ui σ 3700 (0 : Int32)))) rfl ?_
      refine mm_kl (z := 93) (as := [.ref 37, .int k, .int t, .int i, .int n]) (S' := []) (L2 := [some (.ref 37), some (.int k), some (.int t), some (.int i), some (.int n)]) (v := some (.int (f_m_against (ui σ 3700 (0 : Int32)) k t i n))) (h1 := HH x (ui σ 3700 (0 : Int32))) rfl rfl rfl rfl rfl (by omega) (r_m_against (by omega) (k1 h1 h2) (k2 h1 h2) (k3 h1 h2) (k4 h1 h2) (k5 h1 h2) (k6 h1 h2)) ?_
      show mm_Runs d 97 (33, [some (.ref 37), some (.int k), some (.int t), some (.int i), some (.int n), none, none, none], [.int (f_m_against (ui σ 3700 (0 : Int32)) k t i n)], HH x (ui σ 3700 (0 : Int32))) r
      refine mm_go 3 (F' := (bif mm_cond .eq (f_m_against (ui σ 3700 (0 : Int32)) k t i n) 0 then 47 else 40, [some (.ref 37), some (.int k), some (.int t), some (.int i), some (.int n), some (.int (f_m_against (ui σ 3700 (0 : Int32)) k t i n)), none, none], [], HH x (ui σ 3700 (0 : Int32)))) rfl ?_
      refine mb_eq (fun h3 => ?_) (fun h3 => ?_)
      · refine mm_go 8 (F' := (58, [some (.ref 37), some (.int k), some (.int t), some (.int i), some (.int n), some (.int (f_m_against (ui σ 3700 (0 : Int32)) k t i n)), some (.int (((60 : Int32) * k) + i)), none], [.int (((60 : Int32) * k) + i), .ref 37], HH x (ui σ 3700 (0 : Int32)))) rfl ?_
        refine mm_go 1 (F' := (61, [some (.ref 37), some (.int k), some (.int t), some (.int i), some (.int n), some (.int (f_m_against (ui σ 3700 (0 : Int32)) k t i n)), some (.int (((60 : Int32) * k) + i)), none], [], HH x (ui (ui σ 3700 (0 : Int32)) 3709 (((60 : Int32) * k) + i)))) rfl ?_
        refine mm_go 4 (F' := (67, [some (.ref 37), some (.int k), some (.int t), some (.int i), some (.int n), some (.int (f_m_against (ui σ 3700 (0 : Int32)) k t i n)), some (.int (((60 : Int32) * k) + i)), none], [.int ((((60 : Int32) * k) + i) + n), .ref 37], HH x (ui (ui σ 3700 (0 : Int32)) 3709 (((60 : Int32) * k) + i)))) rfl ?_
        refine mm_kl (z := 98) (as := [.ref 37, .int ((((60 : Int32) * k) + i) + n)]) (S' := []) (L2 := [some (.ref 37), some (.int ((((60 : Int32) * k) + i) + n)), none, none]) (v := some (.int v1)) (h1 := HH x σ1) rfl rfl rfl rfl rfl (by omega) (k7 h1 h2 h3) ?_
        show mm_Runs d 97 (70, [some (.ref 37), some (.int k), some (.int t), some (.int i), some (.int n), some (.int (f_m_against (ui σ 3700 (0 : Int32)) k t i n)), some (.int (((60 : Int32) * k) + i)), none], [.int v1], HH x σ1) r
        refine mm_go 1 (F' := (bif mm_cond .ne v1 0 then 84 else 73, [some (.ref 37), some (.int k), some (.int t), some (.int i), some (.int n), some (.int (f_m_against (ui σ 3700 (0 : Int32)) k t i n)), some (.int (((60 : Int32) * k) + i)), none], [], HH x σ1)) rfl ?_
        refine mb_ne (fun h4 => ?_) (fun h4 => ?_)
        · refine mm_go 3 (F' := (89, [some (.ref 37), some (.int k), some (.int t), some (.int i), some (.int n), some (.int (f_m_against (ui σ 3700 (0 : Int32)) k t i n)), some (.int (((60 : Int32) * k) + i)), none], [.int (σ1.1 3710), .ref 37], HH x σ1)) rfl ?_
          refine mm_go 1 (F' := (92, [some (.ref 37), some (.int k), some (.int t), some (.int i), some (.int n), some (.int (f_m_against (ui σ 3700 (0 : Int32)) k t i n)), some (.int (((60 : Int32) * k) + i)), none], [], HH x (ui σ1 3705 (σ1.1 3710)))) rfl ?_
          refine mm_go 3 (F' := (97, [some (.ref 37), some (.int k), some (.int t), some (.int i), some (.int n), some (.int (f_m_against (ui σ 3700 (0 : Int32)) k t i n)), some (.int (((60 : Int32) * k) + i)), none], [.int (σ1.1 3711), .ref 37], HH x (ui σ1 3705 (σ1.1 3710)))) rfl ?_
          refine mm_go 1 (F' := (100, [some (.ref 37), some (.int k), some (.int t), some (.int i), some (.int n), some (.int (f_m_against (ui σ 3700 (0 : Int32)) k t i n)), some (.int (((60 : Int32) * k) + i)), none], [], HH x (ui (ui σ1 3705 (σ1.1 3710)) 3706 (σ1.1 3711)))) rfl ?_
          refine mm_go 2 (F' := (103, [some (.ref 37), some (.int k), some (.int t), some (.int i), some (.int n), some (.int (f_m_against (ui σ 3700 (0 : Int32)) k t i n)), some (.int (((60 : Int32) * k) + i)), some (.int (0 : Int32))], [], HH x (ui (ui σ1 3705 (σ1.1 3710)) 3706 (σ1.1 3711)))) rfl ?_
          exact mm_wk (by exact (And.intro rfl (And.intro rfl True.intro))) (k8 h1 h2 h3 h4)
        · refine mm_go 6 (F' := (83, [some (.ref 37), some (.int k), some (.int t), some (.int i), some (.int n), some (.int (f_m_against (ui σ 3700 (0 : Int32)) k t i n)), some (.int (((60 : Int32) * k) + i)), none], [.int ((-100 : Int32) - ((σ1.1 3709) - (((60 : Int32) * k) + i)))], HH x σ1)) rfl ?_
          exact mm_rt rfl rfl (k9 h1 h2 h3 h4)
      · refine mm_go 2 (F' := (43, [some (.ref 37), some (.int k), some (.int t), some (.int i), some (.int n), some (.int (f_m_against (ui σ 3700 (0 : Int32)) k t i n)), none, none], [.int (f_m_against (ui σ 3700 (0 : Int32)) k t i n), .ref 37], HH x (ui σ 3700 (0 : Int32)))) rfl ?_
        refine mm_kl (z := 88) (as := [.ref 37, .int (f_m_against (ui σ 3700 (0 : Int32)) k t i n)]) (S' := []) (L2 := [some (.ref 37), some (.int (f_m_against (ui σ 3700 (0 : Int32)) k t i n))]) (v := some (.int (f_m_fails (ui σ 3700 (0 : Int32)) (f_m_against (ui σ 3700 (0 : Int32)) k t i n)))) (h1 := HH x (g_m_fails (ui σ 3700 (0 : Int32)) (f_m_against (ui σ 3700 (0 : Int32)) k t i n))) rfl rfl rfl rfl rfl (by omega) (r_m_fails (by omega)) ?_
        show mm_Runs d 97 (46, [some (.ref 37), some (.int k), some (.int t), some (.int i), some (.int n), some (.int (f_m_against (ui σ 3700 (0 : Int32)) k t i n)), none, none], [.int (f_m_fails (ui σ 3700 (0 : Int32)) (f_m_against (ui σ 3700 (0 : Int32)) k t i n))], HH x (g_m_fails (ui σ 3700 (0 : Int32)) (f_m_against (ui σ 3700 (0 : Int32)) k t i n))) r
        exact mm_rt rfl rfl (k10 h1 h2 h3)
    · refine mm_go 1 (F' := (23, [some (.ref 37), some (.int k), some (.int t), some (.int i), some (.int n), none, none, none], [.int (-2 : Int32)], HH x (ui σ 3700 (0 : Int32)))) rfl ?_
      exact mm_rt rfl rfl (k11 h1 h2)
  · refine mm_go 1 (F' := (13, [some (.ref 37), some (.int k), some (.int t), some (.int i), some (.int n), none, none, none], [.int (-1 : Int32)], HH x (ui σ 3700 (0 : Int32)))) rfl ?_
    exact mm_rt rfl rfl (k12 h1)
theorem vc_m_pondh {d : Nat} {x : Nat × (Nat → Int32)} {σ : mm_S} {c : Int32} {σ1 : mm_S} {r : Option Value × mm_H} (hd : 1 ≤ d) (k1 : (f_m_all σ) ≤ c → mm_Runs (d - 1) 101 (0, [some (.ref 37), none, none], [], HH x σ) (none, HH x σ1)) (k2 : (f_m_all σ) ≤ c → (some (.int (f_m_all (ui (ui (ui σ1 3713 (0 : Int32)) 3720 (0 : Int32)) 3725 (0 : Int32)))), HH x (ui (ui (ui σ1 3713 (0 : Int32)) 3720 (0 : Int32)) 3725 (0 : Int32))) = r) (k3 : ¬ (f_m_all σ) ≤ c → ¬ (c < 0 ∨ 42 ≤ c.toNatClampNeg)) (k4 : ¬ (f_m_all σ) ≤ c → ¬ (c < 0 ∨ 42 ≤ c.toNatClampNeg)) (k5 : ¬ (f_m_all σ) ≤ c → (((σ.2.2.1 43) c.toNatClampNeg) = 0 ∨ ((σ.2.2.1 43) c.toNatClampNeg) = 1)) (k6 : ¬ (f_m_all σ) ≤ c → mm_Runs d 97 (103, [some (.ref 37), none, none, none, none, none, none, some (.int (c + (1 : Int32)))], [], HH x (ua σ 41 (upd (σ.2.2.1 41) c.toNatClampNeg ((σ.2.2.1 43) c.toNatClampNeg)))) r) : mm_Runs d 97 (103, [some (.ref 37), none, none, none, none, none, none, some (.int c)], [], HH x σ) r := by
  refine mm_go 2 (F' := (106, [some (.ref 37), none, none, none, none, none, none, some (.int c)], [.ref 37, .int c], HH x σ)) rfl ?_
  refine mm_kl (z := 94) (as := [.ref 37]) (S' := [.int c]) (L2 := [some (.ref 37)]) (v := some (.int (f_m_all σ))) (h1 := HH x σ) rfl rfl rfl rfl rfl (by omega) (r_m_all (by omega)) ?_
  show mm_Runs d 97 (109, [some (.ref 37), none, none, none, none, none, none, some (.int c)], [.int (f_m_all σ), .int c], HH x σ) r
  refine mm_go 1 (F' := (bif mm_cond .ge c (f_m_all σ) then 132 else 112, [some (.ref 37), none, none, none, none, none, none, some (.int c)], [], HH x σ)) rfl ?_
  refine mb_ge (fun h1 => ?_) (fun h1 => ?_)
  · refine mm_go 1 (F' := (133, [some (.ref 37), none, none, none, none, none, none, some (.int c)], [.ref 37], HH x σ)) rfl ?_
    refine mm_kl (z := 101) (as := [.ref 37]) (S' := []) (L2 := [some (.ref 37), none, none]) (v := none) (h1 := HH x σ1) rfl rfl rfl rfl rfl (by omega) (k1 h1) ?_
    show mm_Runs d 97 (136, [some (.ref 37), none, none, none, none, none, none, some (.int c)], [], HH x σ1) r
    refine mm_go 2 (F' := (138, [some (.ref 37), none, none, none, none, none, none, some (.int c)], [.int (0 : Int32), .ref 37], HH x σ1)) rfl ?_
    refine mm_go 1 (F' := (141, [some (.ref 37), none, none, none, none, none, none, some (.int c)], [], HH x (ui σ1 3713 (0 : Int32)))) rfl ?_
    refine mm_go 2 (F' := (143, [some (.ref 37), none, none, none, none, none, none, some (.int c)], [.int (0 : Int32), .ref 37], HH x (ui σ1 3713 (0 : Int32)))) rfl ?_
    refine mm_go 1 (F' := (146, [some (.ref 37), none, none, none, none, none, none, some (.int c)], [], HH x (ui (ui σ1 3713 (0 : Int32)) 3720 (0 : Int32)))) rfl ?_
    refine mm_go 2 (F' := (148, [some (.ref 37), none, none, none, none, none, none, some (.int c)], [.int (0 : Int32), .ref 37], HH x (ui (ui σ1 3713 (0 : Int32)) 3720 (0 : Int32)))) rfl ?_
    refine mm_go 1 (F' := (151, [some (.ref 37), none, none, none, none, none, none, some (.int c)], [], HH x (ui (ui (ui σ1 3713 (0 : Int32)) 3720 (0 : Int32)) 3725 (0 : Int32)))) rfl ?_
    refine mm_go 1 (F' := (152, [some (.ref 37), none, none, none, none, none, none, some (.int c)], [.ref 37], HH x (ui (ui (ui σ1 3713 (0 : Int32)) 3720 (0 : Int32)) 3725 (0 : Int32)))) rfl ?_
    refine mm_kl (z := 94) (as := [.ref 37]) (S' := []) (L2 := [some (.ref 37)]) (v := some (.int (f_m_all (ui (ui (ui σ1 3713 (0 : Int32)) 3720 (0 : Int32)) 3725 (0 : Int32))))) (h1 := HH x (ui (ui (ui σ1 3713 (0 : Int32)) 3720 (0 : Int32)) 3725 (0 : Int32))) rfl rfl rfl rfl rfl (by omega) (r_m_all (by omega)) ?_
    show mm_Runs d 97 (155, [some (.ref 37), none, none, none, none, none, none, some (.int c)], [.int (f_m_all (ui (ui (ui σ1 3713 (0 : Int32)) 3720 (0 : Int32)) 3725 (0 : Int32)))], HH x (ui (ui (ui σ1 3713 (0 : Int32)) 3720 (0 : Int32)) 3725 (0 : Int32))) r
    exact mm_rt rfl rfl (k2 h1)
  · refine mm_go 6 (F' := (124, [some (.ref 37), none, none, none, none, none, none, some (.int c)], [.int c, .ref 43, .int c, .ref 41], HH x σ)) rfl ?_
    refine mm_gd (F' := (125, [some (.ref 37), none, none, none, none, none, none, some (.int c)], [.int ((σ.2.2.1 43) c.toNatClampNeg), .int c, .ref 41], HH x σ)) rfl (k3 h1) ?_
    refine mm_gdt (b := ((σ.2.2.1 43) c.toNatClampNeg) = 0 ∨ ((σ.2.2.1 43) c.toNatClampNeg) = 1) (F' := (126, [some (.ref 37), none, none, none, none, none, none, some (.int c)], [], HH x (ua σ 41 (upd (σ.2.2.1 41) c.toNatClampNeg ((σ.2.2.1 43) c.toNatClampNeg))))) rfl (k4 h1) (k5 h1) ?_
    refine mm_go 2 (F' := (103, [some (.ref 37), none, none, none, none, none, none, some (.int (c + (1 : Int32)))], [], HH x (ua σ 41 (upd (σ.2.2.1 41) c.toNatClampNeg ((σ.2.2.1 43) c.toNatClampNeg))))) rfl ?_
    exact mm_wk (by exact (And.intro rfl (And.intro rfl True.intro))) (k6 h1)
theorem vc_pond {d : Nat} {x : Nat × (Nat → Int32)} {σ : mm_S} {k t i n : Int32} {v1 v3 v5 v7 : Int32} {σ1 σ2 σ3 σ4 σ5 σ6 σ7 σ8 : mm_S} {r : Option Value × mm_H} (hd : 1 ≤ d) (k1 : (p_isSheet (ui σ 210 (0 : Int32)) k) → (p_isSort (ui σ 210 (0 : Int32)) t) → ¬ (k < 0 ∨ 4 ≤ k.toNatClampNeg)) (k2 : (p_isSheet (ui σ 210 (0 : Int32)) k) → (p_isSort (ui σ 210 (0 : Int32)) t) → k = (0 : Int32) → ¬ (p_isOfAnother_4 (ui σ 210 (0 : Int32)) t) → ¬ (σ.1 401) = 0 → 0 ≤ n → (p_hasCells_4 (ui σ 210 (0 : Int32)) i n) → mm_Runs (d - 1) 15 (0, [some (.ref 12), some (.ref 4), some (.int i), some (.int n), none], [], HH x (ui σ 210 (0 : Int32))) (some (.int v1), HH x σ1)) (k3 : (p_isSheet (ui σ 210 (0 : Int32)) k) → (p_isSort (ui σ 210 (0 : Int32)) t) → k = (0 : Int32) → ¬ (p_isOfAnother_4 (ui σ 210 (0 : Int32)) t) → ¬ (σ.1 401) = 0 → 0 ≤ n → (p_hasCells_4 (ui σ 210 (0 : Int32)) i n) → v1 = (-1 : Int32) → mm_Runs (d - 1) 6 (0, [some (.ref 13), some (.int (σ1.1 1200)), some (.int (σ1.1 1201)), some (.long (σ1.2.1 1202)), none, none], [], HH x σ1) (none, HH x σ2)) (k4 : (p_isSheet (ui σ 210 (0 : Int32)) k) → (p_isSort (ui σ 210 (0 : Int32)) t) → k = (0 : Int32) → ¬ (p_isOfAnother_4 (ui σ 210 (0 : Int32)) t) → ¬ (σ.1 401) = 0 → 0 ≤ n → (p_hasCells_4 (ui σ 210 (0 : Int32)) i n) → v1 = (-1 : Int32) → (some (.int ((g_forgetPlan (ui (ui (ui σ2 1603 (0 : Int32)) 2003 (0 : Int32)) 2403 (0 : Int32))).1 1305)), HH x (g_forgetPlan (ui (ui (ui σ2 1603 (0 : Int32)) 2003 (0 : Int32)) 2403 (0 : Int32)))) = r) (k5 : (p_isSheet (ui σ 210 (0 : Int32)) k) → (p_isSort (ui σ 210 (0 : Int32)) t) → k = (0 : Int32) → ¬ (p_isOfAnother_4 (ui σ 210 (0 : Int32)) t) → ¬ (σ.1 401) = 0 → 0 ≤ n → (p_hasCells_4 (ui σ 210 (0 : Int32)) i n) → ¬ v1 = (-1 : Int32) → (some (.int ((-100 : Int32) - v1)), HH x σ1) = r) (k6 : (p_isSheet (ui σ 210 (0 : Int32)) k) → (p_isSort (ui σ 210 (0 : Int32)) t) → k = (0 : Int32) → ¬ (p_isOfAnother_4 (ui σ 210 (0 : Int32)) t) → ¬ (σ.1 401) = 0 → 0 ≤ n → ¬ (p_hasCells_4 (ui σ 210 (0 : Int32)) i n) → (some (.int (f_faulty (ui σ 210 (0 : Int32)) (3 : Int32))), HH x (g_faulty (ui σ 210 (0 : Int32)) (3 : Int32))) = r) (k7 : (p_isSheet (ui σ 210 (0 : Int32)) k) → (p_isSort (ui σ 210 (0 : Int32)) t) → k = (0 : Int32) → ¬ (p_isOfAnother_4 (ui σ 210 (0 : Int32)) t) → ¬ (σ.1 401) = 0 → ¬ 0 ≤ n → (some (.int (f_faulty (ui σ 210 (0 : Int32)) (4 : Int32))), HH x (g_faulty (ui σ 210 (0 : Int32)) (4 : Int32))) = r) (k8 : (p_isSheet (ui σ 210 (0 : Int32)) k) → (p_isSort (ui σ 210 (0 : Int32)) t) → k = (0 : Int32) → ¬ (p_isOfAnother_4 (ui σ 210 (0 : Int32)) t) → (σ.1 401) = 0 → (some (.int (f_faulty (ui σ 210 (0 : Int32)) (1 : Int32))), HH x (g_faulty (ui σ 210 (0 : Int32)) (1 : Int32))) = r) (k9 : (p_isSheet (ui σ 210 (0 : Int32)) k) → (p_isSort (ui σ 210 (0 : Int32)) t) → k = (0 : Int32) → (p_isOfAnother_4 (ui σ 210 (0 : Int32)) t) → (some (.int (f_faulty (ui σ 210 (0 : Int32)) (2 : Int32))), HH x (g_faulty (ui σ 210 (0 : Int32)) (2 : Int32))) = r) (k10 : (p_isSheet (ui σ 210 (0 : Int32)) k) → (p_isSort (ui σ 210 (0 : Int32)) t) → k = (1 : Int32) → ¬ (p_isOfAnother_5 (ui σ 210 (0 : Int32)) t) → ¬ (σ.1 501) = 0 → 0 ≤ n → (p_hasCells_5 (ui σ 210 (0 : Int32)) i n) → mm_Runs (d - 1) 15 (0, [some (.ref 12), some (.ref 5), some (.int i), some (.int n), none], [], HH x (ui σ 210 (0 : Int32))) (some (.int v3), HH x σ3)) (k11 : (p_isSheet (ui σ 210 (0 : Int32)) k) → (p_isSort (ui σ 210 (0 : Int32)) t) → k = (1 : Int32) → ¬ (p_isOfAnother_5 (ui σ 210 (0 : Int32)) t) → ¬ (σ.1 501) = 0 → 0 ≤ n → (p_hasCells_5 (ui σ 210 (0 : Int32)) i n) → v3 = (-1 : Int32) → mm_Runs (d - 1) 6 (0, [some (.ref 13), some (.int (σ3.1 1200)), some (.int (σ3.1 1201)), some (.long (σ3.2.1 1202)), none, none], [], HH x σ3) (none, HH x σ4)) (k12 : (p_isSheet (ui σ 210 (0 : Int32)) k) → (p_isSort (ui σ 210 (0 : Int32)) t) → k = (1 : Int32) → ¬ (p_isOfAnother_5 (ui σ 210 (0 : Int32)) t) → ¬ (σ.1 501) = 0 → 0 ≤ n → (p_hasCells_5 (ui σ 210 (0 : Int32)) i n) → v3 = (-1 : Int32) → (some (.int ((g_forgetPlan (ui (ui (ui σ4 1603 (0 : Int32)) 2003 (0 : Int32)) 2403 (0 : Int32))).1 1305)), HH x (g_forgetPlan (ui (ui (ui σ4 1603 (0 : Int32)) 2003 (0 : Int32)) 2403 (0 : Int32)))) = r) (k13 : (p_isSheet (ui σ 210 (0 : Int32)) k) → (p_isSort (ui σ 210 (0 : Int32)) t) → k = (1 : Int32) → ¬ (p_isOfAnother_5 (ui σ 210 (0 : Int32)) t) → ¬ (σ.1 501) = 0 → 0 ≤ n → (p_hasCells_5 (ui σ 210 (0 : Int32)) i n) → ¬ v3 = (-1 : Int32) → (some (.int ((-100 : Int32) - v3)), HH x σ3) = r) (k14 : (p_isSheet (ui σ 210 (0 : Int32)) k) → (p_isSort (ui σ 210 (0 : Int32)) t) → k = (1 : Int32) → ¬ (p_isOfAnother_5 (ui σ 210 (0 : Int32)) t) → ¬ (σ.1 501) = 0 → 0 ≤ n → ¬ (p_hasCells_5 (ui σ 210 (0 : Int32)) i n) → (some (.int (f_faulty (ui σ 210 (0 : Int32)) (3 : Int32))), HH x (g_faulty (ui σ 210 (0 : Int32)) (3 : Int32))) = r) (k15 : (p_isSheet (ui σ 210 (0 : Int32)) k) → (p_isSort (ui σ 210 (0 : Int32)) t) → k = (1 : Int32) → ¬ (p_isOfAnother_5 (ui σ 210 (0 : Int32)) t) → ¬ (σ.1 501) = 0 → ¬ 0 ≤ n → (some (.int (f_faulty (ui σ 210 (0 : Int32)) (4 : Int32))), HH x (g_faulty (ui σ 210 (0 : Int32)) (4 : Int32))) = r) (k16 : (p_isSheet (ui σ 210 (0 : Int32)) k) → (p_isSort (ui σ 210 (0 : Int32)) t) → k = (1 : Int32) → ¬ (p_isOfAnother_5 (ui σ 210 (0 : Int32)) t) → (σ.1 501) = 0 → (some (.int (f_faulty (ui σ 210 (0 : Int32)) (1 : Int32))), HH x (g_faulty (ui σ 210 (0 : Int32)) (1 : Int32))) = r) (k17 : (p_isSheet (ui σ 210 (0 : Int32)) k) → (p_isSort (ui σ 210 (0 : Int32)) t) → k = (1 : Int32) → (p_isOfAnother_5 (ui σ 210 (0 : Int32)) t) → (some (.int (f_faulty (ui σ 210 (0 : Int32)) (2 : Int32))), HH x (g_faulty (ui σ 210 (0 : Int32)) (2 : Int32))) = r) (k18 : (p_isSheet (ui σ 210 (0 : Int32)) k) → (p_isSort (ui σ 210 (0 : Int32)) t) → k = (2 : Int32) → ¬ (p_isOfAnother_6 (ui σ 210 (0 : Int32)) t) → ¬ (σ.1 601) = 0 → 0 ≤ n → (p_hasCells_6 (ui σ 210 (0 : Int32)) i n) → mm_Runs (d - 1) 15 (0, [some (.ref 12), some (.ref 6), some (.int i), some (.int n), none], [], HH x (ui σ 210 (0 : Int32))) (some (.int v5), HH x σ5)) (k19 : (p_isSheet (ui σ 210 (0 : Int32)) k) → (p_isSort (ui σ 210 (0 : Int32)) t) → k = (2 : Int32) → ¬ (p_isOfAnother_6 (ui σ 210 (0 : Int32)) t) → ¬ (σ.1 601) = 0 → 0 ≤ n → (p_hasCells_6 (ui σ 210 (0 : Int32)) i n) → v5 = (-1 : Int32) → mm_Runs (d - 1) 6 (0, [some (.ref 13), some (.int (σ5.1 1200)), some (.int (σ5.1 1201)), some (.long (σ5.2.1 1202)), none, none], [], HH x σ5) (none, HH x σ6)) (k20 : (p_isSheet (ui σ 210 (0 : Int32)) k) → (p_isSort (ui σ 210 (0 : Int32)) t) → k = (2 : Int32) → ¬ (p_isOfAnother_6 (ui σ 210 (0 : Int32)) t) → ¬ (σ.1 601) = 0 → 0 ≤ n → (p_hasCells_6 (ui σ 210 (0 : Int32)) i n) → v5 = (-1 : Int32) → (some (.int ((g_forgetPlan (ui (ui (ui σ6 1603 (0 : Int32)) 2003 (0 : Int32)) 2403 (0 : Int32))).1 1305)), HH x (g_forgetPlan (ui (ui (ui σ6 1603 (0 : Int32)) 2003 (0 : Int32)) 2403 (0 : Int32)))) = r) (k21 : (p_isSheet (ui σ 210 (0 : Int32)) k) → (p_isSort (ui σ 210 (0 : Int32)) t) → k = (2 : Int32) → ¬ (p_isOfAnother_6 (ui σ 210 (0 : Int32)) t) → ¬ (σ.1 601) = 0 → 0 ≤ n → (p_hasCells_6 (ui σ 210 (0 : Int32)) i n) → ¬ v5 = (-1 : Int32) → (some (.int ((-100 : Int32) - v5)), HH x σ5) = r) (k22 : (p_isSheet (ui σ 210 (0 : Int32)) k) → (p_isSort (ui σ 210 (0 : Int32)) t) → k = (2 : Int32) → ¬ (p_isOfAnother_6 (ui σ 210 (0 : Int32)) t) → ¬ (σ.1 601) = 0 → 0 ≤ n → ¬ (p_hasCells_6 (ui σ 210 (0 : Int32)) i n) → (some (.int (f_faulty (ui σ 210 (0 : Int32)) (3 : Int32))), HH x (g_faulty (ui σ 210 (0 : Int32)) (3 : Int32))) = r) (k23 : (p_isSheet (ui σ 210 (0 : Int32)) k) → (p_isSort (ui σ 210 (0 : Int32)) t) → k = (2 : Int32) → ¬ (p_isOfAnother_6 (ui σ 210 (0 : Int32)) t) → ¬ (σ.1 601) = 0 → ¬ 0 ≤ n → (some (.int (f_faulty (ui σ 210 (0 : Int32)) (4 : Int32))), HH x (g_faulty (ui σ 210 (0 : Int32)) (4 : Int32))) = r) (k24 : (p_isSheet (ui σ 210 (0 : Int32)) k) → (p_isSort (ui σ 210 (0 : Int32)) t) → k = (2 : Int32) → ¬ (p_isOfAnother_6 (ui σ 210 (0 : Int32)) t) → (σ.1 601) = 0 → (some (.int (f_faulty (ui σ 210 (0 : Int32)) (1 : Int32))), HH x (g_faulty (ui σ 210 (0 : Int32)) (1 : Int32))) = r) (k25 : (p_isSheet (ui σ 210 (0 : Int32)) k) → (p_isSort (ui σ 210 (0 : Int32)) t) → k = (2 : Int32) → (p_isOfAnother_6 (ui σ 210 (0 : Int32)) t) → (some (.int (f_faulty (ui σ 210 (0 : Int32)) (2 : Int32))), HH x (g_faulty (ui σ 210 (0 : Int32)) (2 : Int32))) = r) (k26 : (p_isSheet (ui σ 210 (0 : Int32)) k) → (p_isSort (ui σ 210 (0 : Int32)) t) → k = (3 : Int32) → ¬ (p_isOfAnother_7 (ui σ 210 (0 : Int32)) t) → ¬ (σ.1 701) = 0 → 0 ≤ n → (p_hasCells_7 (ui σ 210 (0 : Int32)) i n) → mm_Runs (d - 1) 15 (0, [some (.ref 12), some (.ref 7), some (.int i), some (.int n), none], [], HH x (ui σ 210 (0 : Int32))) (some (.int v7), HH x σ7)) (k27 : (p_isSheet (ui σ 210 (0 : Int32)) k) → (p_isSort (ui σ 210 (0 : Int32)) t) → k = (3 : Int32) → ¬ (p_isOfAnother_7 (ui σ 210 (0 : Int32)) t) → ¬ (σ.1 701) = 0 → 0 ≤ n → (p_hasCells_7 (ui σ 210 (0 : Int32)) i n) → v7 = (-1 : Int32) → mm_Runs (d - 1) 6 (0, [some (.ref 13), some (.int (σ7.1 1200)), some (.int (σ7.1 1201)), some (.long (σ7.2.1 1202)), none, none], [], HH x σ7) (none, HH x σ8)) (k28 : (p_isSheet (ui σ 210 (0 : Int32)) k) → (p_isSort (ui σ 210 (0 : Int32)) t) → k = (3 : Int32) → ¬ (p_isOfAnother_7 (ui σ 210 (0 : Int32)) t) → ¬ (σ.1 701) = 0 → 0 ≤ n → (p_hasCells_7 (ui σ 210 (0 : Int32)) i n) → v7 = (-1 : Int32) → (some (.int ((g_forgetPlan (ui (ui (ui σ8 1603 (0 : Int32)) 2003 (0 : Int32)) 2403 (0 : Int32))).1 1305)), HH x (g_forgetPlan (ui (ui (ui σ8 1603 (0 : Int32)) 2003 (0 : Int32)) 2403 (0 : Int32)))) = r) (k29 : (p_isSheet (ui σ 210 (0 : Int32)) k) → (p_isSort (ui σ 210 (0 : Int32)) t) → k = (3 : Int32) → ¬ (p_isOfAnother_7 (ui σ 210 (0 : Int32)) t) → ¬ (σ.1 701) = 0 → 0 ≤ n → (p_hasCells_7 (ui σ 210 (0 : Int32)) i n) → ¬ v7 = (-1 : Int32) → (some (.int ((-100 : Int32) - v7)), HH x σ7) = r) (k30 : (p_isSheet (ui σ 210 (0 : Int32)) k) → (p_isSort (ui σ 210 (0 : Int32)) t) → k = (3 : Int32) → ¬ (p_isOfAnother_7 (ui σ 210 (0 : Int32)) t) → ¬ (σ.1 701) = 0 → 0 ≤ n → ¬ (p_hasCells_7 (ui σ 210 (0 : Int32)) i n) → (some (.int (f_faulty (ui σ 210 (0 : Int32)) (3 : Int32))), HH x (g_faulty (ui σ 210 (0 : Int32)) (3 : Int32))) = r) (k31 : (p_isSheet (ui σ 210 (0 : Int32)) k) → (p_isSort (ui σ 210 (0 : Int32)) t) → k = (3 : Int32) → ¬ (p_isOfAnother_7 (ui σ 210 (0 : Int32)) t) → ¬ (σ.1 701) = 0 → ¬ 0 ≤ n → (some (.int (f_faulty (ui σ 210 (0 : Int32)) (4 : Int32))), HH x (g_faulty (ui σ 210 (0 : Int32)) (4 : Int32))) = r) (k32 : (p_isSheet (ui σ 210 (0 : Int32)) k) → (p_isSort (ui σ 210 (0 : Int32)) t) → k = (3 : Int32) → ¬ (p_isOfAnother_7 (ui σ 210 (0 : Int32)) t) → (σ.1 701) = 0 → (some (.int (f_faulty (ui σ 210 (0 : Int32)) (1 : Int32))), HH x (g_faulty (ui σ 210 (0 : Int32)) (1 : Int32))) = r) (k33 : (p_isSheet (ui σ 210 (0 : Int32)) k) → (p_isSort (ui σ 210 (0 : Int32)) t) → k = (3 : Int32) → (p_isOfAnother_7 (ui σ 210 (0 : Int32)) t) → (some (.int (f_faulty (ui σ 210 (0 : Int32)) (2 : Int32))), HH x (g_faulty (ui σ 210 (0 : Int32)) (2 : Int32))) = r) (k34 : (p_isSheet (ui σ 210 (0 : Int32)) k) → ¬ (p_isSort (ui σ 210 (0 : Int32)) t) → (some (.int (-2 : Int32)), HH x (ui σ 210 (0 : Int32))) = r) (k35 : ¬ (p_isSheet (ui σ 210 (0 : Int32)) k) → (some (.int (-1 : Int32)), HH x (ui σ 210 (0 : Int32))) = r) : mm_Runs d 38 (0, [some (.ref 2), some (.int k), some (.int t), some (.int i), some (.int n), none, none], [], HH x σ) r := by
  refine mm_go 2 (F' := (2, [some (.ref 2), some (.int k), some (.int t), some (.int i), some (.int n), none, none], [.int (0 : Int32), .ref 2], HH x σ)) rfl ?_
  refine mm_go 1 (F' := (5, [some (.ref 2), some (.int k), some (.int t), some (.int i), some (.int n), none, none], [], HH x (ui σ 210 (0 : Int32)))) rfl ?_
  refine mm_go 1 (F' := (6, [some (.ref 2), some (.int k), some (.int t), some (.int i), some (.int n), none, none], [.int k], HH x (ui σ 210 (0 : Int32)))) rfl ?_
  refine mm_kl (z := 71) (as := [.int k]) (S' := []) (L2 := [some (.int k)]) (v := some (.int (mm_b (p_isSheet (ui σ 210 (0 : Int32)) k)))) (h1 := HH x (ui σ 210 (0 : Int32))) rfl rfl rfl rfl rfl (by omega) (r_isSheet (by omega)) ?_
  show mm_Runs d 38 (9, [some (.ref 2), some (.int k), some (.int t), some (.int i), some (.int n), none, none], [.int (mm_b (p_isSheet (ui σ 210 (0 : Int32)) k))], HH x (ui σ 210 (0 : Int32))) r
  refine mm_go 1 (F' := (bif mm_cond .ne (mm_b (p_isSheet (ui σ 210 (0 : Int32)) k)) 0 then 14 else 12, [some (.ref 2), some (.int k), some (.int t), some (.int i), some (.int n), none, none], [], HH x (ui σ 210 (0 : Int32)))) rfl ?_
  refine mb_bne (fun h1 => ?_) (fun h1 => ?_)
  · refine mm_go 1 (F' := (15, [some (.ref 2), some (.int k), some (.int t), some (.int i), some (.int n), none, none], [.int t], HH x (ui σ 210 (0 : Int32)))) rfl ?_
    refine mm_kl (z := 72) (as := [.int t]) (S' := []) (L2 := [some (.int t)]) (v := some (.int (mm_b (p_isSort (ui σ 210 (0 : Int32)) t)))) (h1 := HH x (ui σ 210 (0 : Int32))) rfl rfl rfl rfl rfl (by omega) (r_isSort (by omega)) ?_
    show mm_Runs d 38 (18, [some (.ref 2), some (.int k), some (.int t), some (.int i), some (.int n), none, none], [.int (mm_b (p_isSort (ui σ 210 (0 : Int32)) t))], HH x (ui σ 210 (0 : Int32))) r
    refine mm_go 1 (F' := (bif mm_cond .ne (mm_b (p_isSort (ui σ 210 (0 : Int32)) t)) 0 then 24 else 21, [some (.ref 2), some (.int k), some (.int t), some (.int i), some (.int n), none, none], [], HH x (ui σ 210 (0 : Int32)))) rfl ?_
    refine mb_bne (fun h2 => ?_) (fun h2 => ?_)
    · refine mm_go 3 (F' := (29, [some (.ref 2), some (.int k), some (.int t), some (.int i), some (.int n), none, none], [.int k, .ref 3], HH x (ui σ 210 (0 : Int32)))) rfl ?_
      rcases mm_in4 (k1 h1 h2) with h3 | h3 | h3 | h3
      · refine mm_tsA h3 (F' := (30, [some (.ref 2), some (.int k), some (.int t), some (.int i), some (.int n), none, none], [.ref 4], HH x (ui σ 210 (0 : Int32)))) rfl ?_
        refine mm_go 3 (F' := (35, [some (.ref 2), some (.int k), some (.int t), some (.int i), some (.int n), some (.ref 4), none], [.int t, .ref 4], HH x (ui σ 210 (0 : Int32)))) rfl ?_
        refine mm_kl (z := 20) (as := [.ref 4, .int t]) (S' := []) (L2 := [some (.ref 4), some (.int t)]) (v := some (.int (mm_b (p_isOfAnother_4 (ui σ 210 (0 : Int32)) t)))) (h1 := HH x (ui σ 210 (0 : Int32))) rfl rfl rfl rfl rfl (by omega) (r_isOfAnother_4 (by omega)) ?_
        show mm_Runs d 38 (38, [some (.ref 2), some (.int k), some (.int t), some (.int i), some (.int n), some (.ref 4), none], [.int (mm_b (p_isOfAnother_4 (ui σ 210 (0 : Int32)) t))], HH x (ui σ 210 (0 : Int32))) r
        refine mm_go 1 (F' := (bif mm_cond .eq (mm_b (p_isOfAnother_4 (ui σ 210 (0 : Int32)) t)) 0 then 47 else 41, [some (.ref 2), some (.int k), some (.int t), some (.int i), some (.int n), some (.ref 4), none], [], HH x (ui σ 210 (0 : Int32)))) rfl ?_
        refine mb_beq (fun h4 => ?_) (fun h4 => ?_)
        · refine mm_go 3 (F' := (bif mm_cond .ne (σ.1 401) 0 then 61 else 55, [some (.ref 2), some (.int k), some (.int t), some (.int i), some (.int n), some (.ref 4), none], [], HH x (ui σ 210 (0 : Int32)))) rfl ?_
          refine mb_ne (fun h5 => ?_) (fun h5 => ?_)
          · refine mm_go 2 (F' := (bif mm_cond .ge n 0 then 72 else 66, [some (.ref 2), some (.int k), some (.int t), some (.int i), some (.int n), some (.ref 4), none], [], HH x (ui σ 210 (0 : Int32)))) rfl ?_
            refine mb_ge (fun h6 => ?_) (fun h6 => ?_)
            · refine mm_go 3 (F' := (77, [some (.ref 2), some (.int k), some (.int t), some (.int i), some (.int n), some (.ref 4), none], [.int n, .int i, .ref 4], HH x (ui σ 210 (0 : Int32)))) rfl ?_
              refine mm_kl (z := 21) (as := [.ref 4, .int i, .int n]) (S' := []) (L2 := [some (.ref 4), some (.int i), some (.int n)]) (v := some (.int (mm_b (p_hasCells_4 (ui σ 210 (0 : Int32)) i n)))) (h1 := HH x (ui σ 210 (0 : Int32))) rfl rfl rfl rfl rfl (by omega) (r_hasCells_4 (by omega)) ?_
              show mm_Runs d 38 (80, [some (.ref 2), some (.int k), some (.int t), some (.int i), some (.int n), some (.ref 4), none], [.int (mm_b (p_hasCells_4 (ui σ 210 (0 : Int32)) i n))], HH x (ui σ 210 (0 : Int32))) r
              refine mm_go 1 (F' := (bif mm_cond .ne (mm_b (p_hasCells_4 (ui σ 210 (0 : Int32)) i n)) 0 then 89 else 83, [some (.ref 2), some (.int k), some (.int t), some (.int i), some (.int n), some (.ref 4), none], [], HH x (ui σ 210 (0 : Int32)))) rfl ?_
              refine mb_bne (fun h7 => ?_) (fun h7 => ?_)
              · refine mm_go 5 (F' := (98, [some (.ref 2), some (.int k), some (.int t), some (.int i), some (.int n), some (.ref 4), none], [.int n, .int i, .ref 4, .ref 12], HH x (ui σ 210 (0 : Int32)))) rfl ?_
                refine mm_kl (z := 15) (as := [.ref 12, .ref 4, .int i, .int n]) (S' := []) (L2 := [some (.ref 12), some (.ref 4), some (.int i), some (.int n), none]) (v := some (.int v1)) (h1 := HH x σ1) rfl rfl rfl rfl rfl (by omega) (k2 h1 h2 h3 h4 h5 h6 h7) ?_
                show mm_Runs d 38 (101, [some (.ref 2), some (.int k), some (.int t), some (.int i), some (.int n), some (.ref 4), none], [.int v1], HH x σ1) r
                refine mm_go 4 (F' := (bif mm_cond .eq v1 (-1 : Int32) then 115 else 109, [some (.ref 2), some (.int k), some (.int t), some (.int i), some (.int n), some (.ref 4), some (.int v1)], [], HH x σ1)) rfl ?_
                refine mb_eq (fun h8 => ?_) (fun h8 => ?_)
                · refine mm_go 11 (F' := (140, [some (.ref 2), some (.int k), some (.int t), some (.int i), some (.int n), some (.ref 4), some (.int v1)], [.long (σ1.2.1 1202), .int (σ1.1 1201), .int (σ1.1 1200), .ref 13], HH x σ1)) rfl ?_
                  refine mm_kl (z := 6) (as := [.ref 13, .int (σ1.1 1200), .int (σ1.1 1201), .long (σ1.2.1 1202)]) (S' := []) (L2 := [some (.ref 13), some (.int (σ1.1 1200)), some (.int (σ1.1 1201)), some (.long (σ1.2.1 1202)), none, none]) (v := none) (h1 := HH x σ2) rfl rfl rfl rfl rfl (by omega) (k3 h1 h2 h3 h4 h5 h6 h7 h8) ?_
                  show mm_Runs d 38 (143, [some (.ref 2), some (.int k), some (.int t), some (.int i), some (.int n), some (.ref 4), some (.int v1)], [], HH x σ2) r
                  refine mm_go 3 (F' := (148, [some (.ref 2), some (.int k), some (.int t), some (.int i), some (.int n), some (.ref 4), some (.int v1)], [.int (0 : Int32), .ref 16], HH x σ2)) rfl ?_
                  refine mm_go 1 (F' := (151, [some (.ref 2), some (.int k), some (.int t), some (.int i), some (.int n), some (.ref 4), some (.int v1)], [], HH x (ui σ2 1603 (0 : Int32)))) rfl ?_
                  refine mm_go 3 (F' := (156, [some (.ref 2), some (.int k), some (.int t), some (.int i), some (.int n), some (.ref 4), some (.int v1)], [.int (0 : Int32), .ref 20], HH x (ui σ2 1603 (0 : Int32)))) rfl ?_
                  refine mm_go 1 (F' := (159, [some (.ref 2), some (.int k), some (.int t), some (.int i), some (.int n), some (.ref 4), some (.int v1)], [], HH x (ui (ui σ2 1603 (0 : Int32)) 2003 (0 : Int32)))) rfl ?_
                  refine mm_go 3 (F' := (164, [some (.ref 2), some (.int k), some (.int t), some (.int i), some (.int n), some (.ref 4), some (.int v1)], [.int (0 : Int32), .ref 24], HH x (ui (ui σ2 1603 (0 : Int32)) 2003 (0 : Int32)))) rfl ?_
                  refine mm_go 1 (F' := (167, [some (.ref 2), some (.int k), some (.int t), some (.int i), some (.int n), some (.ref 4), some (.int v1)], [], HH x (ui (ui (ui σ2 1603 (0 : Int32)) 2003 (0 : Int32)) 2403 (0 : Int32)))) rfl ?_
                  refine mm_go 2 (F' := (171, [some (.ref 2), some (.int k), some (.int t), some (.int i), some (.int n), some (.ref 4), some (.int v1)], [.ref 29], HH x (ui (ui (ui σ2 1603 (0 : Int32)) 2003 (0 : Int32)) 2403 (0 : Int32)))) rfl ?_
                  refine mm_kl (z := 23) (as := [.ref 29]) (S' := []) (L2 := [some (.ref 29)]) (v := none) (h1 := HH x (g_forgetPlan (ui (ui (ui σ2 1603 (0 : Int32)) 2003 (0 : Int32)) 2403 (0 : Int32)))) rfl rfl rfl rfl rfl (by omega) (r_forgetPlan (by omega)) ?_
                  show mm_Runs d 38 (174, [some (.ref 2), some (.int k), some (.int t), some (.int i), some (.int n), some (.ref 4), some (.int v1)], [], HH x (g_forgetPlan (ui (ui (ui σ2 1603 (0 : Int32)) 2003 (0 : Int32)) 2403 (0 : Int32)))) r
                  refine mm_go 3 (F' := (181, [some (.ref 2), some (.int k), some (.int t), some (.int i), some (.int n), some (.ref 4), some (.int v1)], [.int ((g_forgetPlan (ui (ui (ui σ2 1603 (0 : Int32)) 2003 (0 : Int32)) 2403 (0 : Int32))).1 1305)], HH x (g_forgetPlan (ui (ui (ui σ2 1603 (0 : Int32)) 2003 (0 : Int32)) 2403 (0 : Int32))))) rfl ?_
                  exact mm_rt rfl rfl (k4 h1 h2 h3 h4 h5 h6 h7 h8)
                · refine mm_go 3 (F' := (114, [some (.ref 2), some (.int k), some (.int t), some (.int i), some (.int n), some (.ref 4), some (.int v1)], [.int ((-100 : Int32) - v1)], HH x σ1)) rfl ?_
                  exact mm_rt rfl rfl (k5 h1 h2 h3 h4 h5 h6 h7 h8)
              · refine mm_go 2 (F' := (85, [some (.ref 2), some (.int k), some (.int t), some (.int i), some (.int n), some (.ref 4), none], [.int (3 : Int32), .ref 2], HH x (ui σ 210 (0 : Int32)))) rfl ?_
                refine mm_kl (z := 70) (as := [.ref 2, .int (3 : Int32)]) (S' := []) (L2 := [some (.ref 2), some (.int (3 : Int32))]) (v := some (.int (f_faulty (ui σ 210 (0 : Int32)) (3 : Int32)))) (h1 := HH x (g_faulty (ui σ 210 (0 : Int32)) (3 : Int32))) rfl rfl rfl rfl rfl (by omega) (r_faulty (by omega)) ?_
                show mm_Runs d 38 (88, [some (.ref 2), some (.int k), some (.int t), some (.int i), some (.int n), some (.ref 4), none], [.int (f_faulty (ui σ 210 (0 : Int32)) (3 : Int32))], HH x (g_faulty (ui σ 210 (0 : Int32)) (3 : Int32))) r
                exact mm_rt rfl rfl (k6 h1 h2 h3 h4 h5 h6 h7)
            · refine mm_go 2 (F' := (68, [some (.ref 2), some (.int k), some (.int t), some (.int i), some (.int n), some (.ref 4), none], [.int (4 : Int32), .ref 2], HH x (ui σ 210 (0 : Int32)))) rfl ?_
              refine mm_kl (z := 70) (as := [.ref 2, .int (4 : Int32)]) (S' := []) (L2 := [some (.ref 2), some (.int (4 : Int32))]) (v := some (.int (f_faulty (ui σ 210 (0 : Int32)) (4 : Int32)))) (h1 := HH x (g_faulty (ui σ 210 (0 : Int32)) (4 : Int32))) rfl rfl rfl rfl rfl (by omega) (r_faulty (by omega)) ?_
              show mm_Runs d 38 (71, [some (.ref 2), some (.int k), some (.int t), some (.int i), some (.int n), some (.ref 4), none], [.int (f_faulty (ui σ 210 (0 : Int32)) (4 : Int32))], HH x (g_faulty (ui σ 210 (0 : Int32)) (4 : Int32))) r
              exact mm_rt rfl rfl (k7 h1 h2 h3 h4 h5 h6)
          · refine mm_go 2 (F' := (57, [some (.ref 2), some (.int k), some (.int t), some (.int i), some (.int n), some (.ref 4), none], [.int (1 : Int32), .ref 2], HH x (ui σ 210 (0 : Int32)))) rfl ?_
            refine mm_kl (z := 70) (as := [.ref 2, .int (1 : Int32)]) (S' := []) (L2 := [some (.ref 2), some (.int (1 : Int32))]) (v := some (.int (f_faulty (ui σ 210 (0 : Int32)) (1 : Int32)))) (h1 := HH x (g_faulty (ui σ 210 (0 : Int32)) (1 : Int32))) rfl rfl rfl rfl rfl (by omega) (r_faulty (by omega)) ?_
            show mm_Runs d 38 (60, [some (.ref 2), some (.int k), some (.int t), some (.int i), some (.int n), some (.ref 4), none], [.int (f_faulty (ui σ 210 (0 : Int32)) (1 : Int32))], HH x (g_faulty (ui σ 210 (0 : Int32)) (1 : Int32))) r
            exact mm_rt rfl rfl (k8 h1 h2 h3 h4 h5)
        · refine mm_go 2 (F' := (43, [some (.ref 2), some (.int k), some (.int t), some (.int i), some (.int n), some (.ref 4), none], [.int (2 : Int32), .ref 2], HH x (ui σ 210 (0 : Int32)))) rfl ?_
          refine mm_kl (z := 70) (as := [.ref 2, .int (2 : Int32)]) (S' := []) (L2 := [some (.ref 2), some (.int (2 : Int32))]) (v := some (.int (f_faulty (ui σ 210 (0 : Int32)) (2 : Int32)))) (h1 := HH x (g_faulty (ui σ 210 (0 : Int32)) (2 : Int32))) rfl rfl rfl rfl rfl (by omega) (r_faulty (by omega)) ?_
          show mm_Runs d 38 (46, [some (.ref 2), some (.int k), some (.int t), some (.int i), some (.int n), some (.ref 4), none], [.int (f_faulty (ui σ 210 (0 : Int32)) (2 : Int32))], HH x (g_faulty (ui σ 210 (0 : Int32)) (2 : Int32))) r
          exact mm_rt rfl rfl (k9 h1 h2 h3 h4)
      · refine mm_tsA h3 (F' := (30, [some (.ref 2), some (.int k), some (.int t), some (.int i), some (.int n), none, none], [.ref 5], HH x (ui σ 210 (0 : Int32)))) rfl ?_
        refine mm_go 3 (F' := (35, [some (.ref 2), some (.int k), some (.int t), some (.int i), some (.int n), some (.ref 5), none], [.int t, .ref 5], HH x (ui σ 210 (0 : Int32)))) rfl ?_
        refine mm_kl (z := 20) (as := [.ref 5, .int t]) (S' := []) (L2 := [some (.ref 5), some (.int t)]) (v := some (.int (mm_b (p_isOfAnother_5 (ui σ 210 (0 : Int32)) t)))) (h1 := HH x (ui σ 210 (0 : Int32))) rfl rfl rfl rfl rfl (by omega) (r_isOfAnother_5 (by omega)) ?_
        show mm_Runs d 38 (38, [some (.ref 2), some (.int k), some (.int t), some (.int i), some (.int n), some (.ref 5), none], [.int (mm_b (p_isOfAnother_5 (ui σ 210 (0 : Int32)) t))], HH x (ui σ 210 (0 : Int32))) r
        refine mm_go 1 (F' := (bif mm_cond .eq (mm_b (p_isOfAnother_5 (ui σ 210 (0 : Int32)) t)) 0 then 47 else 41, [some (.ref 2), some (.int k), some (.int t), some (.int i), some (.int n), some (.ref 5), none], [], HH x (ui σ 210 (0 : Int32)))) rfl ?_
        refine mb_beq (fun h9 => ?_) (fun h9 => ?_)
        · refine mm_go 3 (F' := (bif mm_cond .ne (σ.1 501) 0 then 61 else 55, [some (.ref 2), some (.int k), some (.int t), some (.int i), some (.int n), some (.ref 5), none], [], HH x (ui σ 210 (0 : Int32)))) rfl ?_
          refine mb_ne (fun h10 => ?_) (fun h10 => ?_)
          · refine mm_go 2 (F' := (bif mm_cond .ge n 0 then 72 else 66, [some (.ref 2), some (.int k), some (.int t), some (.int i), some (.int n), some (.ref 5), none], [], HH x (ui σ 210 (0 : Int32)))) rfl ?_
            refine mb_ge (fun h11 => ?_) (fun h11 => ?_)
            · refine mm_go 3 (F' := (77, [some (.ref 2), some (.int k), some (.int t), some (.int i), some (.int n), some (.ref 5), none], [.int n, .int i, .ref 5], HH x (ui σ 210 (0 : Int32)))) rfl ?_
              refine mm_kl (z := 21) (as := [.ref 5, .int i, .int n]) (S' := []) (L2 := [some (.ref 5), some (.int i), some (.int n)]) (v := some (.int (mm_b (p_hasCells_5 (ui σ 210 (0 : Int32)) i n)))) (h1 := HH x (ui σ 210 (0 : Int32))) rfl rfl rfl rfl rfl (by omega) (r_hasCells_5 (by omega)) ?_
              show mm_Runs d 38 (80, [some (.ref 2), some (.int k), some (.int t), some (.int i), some (.int n), some (.ref 5), none], [.int (mm_b (p_hasCells_5 (ui σ 210 (0 : Int32)) i n))], HH x (ui σ 210 (0 : Int32))) r
              refine mm_go 1 (F' := (bif mm_cond .ne (mm_b (p_hasCells_5 (ui σ 210 (0 : Int32)) i n)) 0 then 89 else 83, [some (.ref 2), some (.int k), some (.int t), some (.int i), some (.int n), some (.ref 5), none], [], HH x (ui σ 210 (0 : Int32)))) rfl ?_
              refine mb_bne (fun h12 => ?_) (fun h12 => ?_)
              · refine mm_go 5 (F' := (98, [some (.ref 2), some (.int k), some (.int t), some (.int i), some (.int n), some (.ref 5), none], [.int n, .int i, .ref 5, .ref 12], HH x (ui σ 210 (0 : Int32)))) rfl ?_
                refine mm_kl (z := 15) (as := [.ref 12, .ref 5, .int i, .int n]) (S' := []) (L2 := [some (.ref 12), some (.ref 5), some (.int i), some (.int n), none]) (v := some (.int v3)) (h1 := HH x σ3) rfl rfl rfl rfl rfl (by omega) (k10 h1 h2 h3 h9 h10 h11 h12) ?_
                show mm_Runs d 38 (101, [some (.ref 2), some (.int k), some (.int t), some (.int i), some (.int n), some (.ref 5), none], [.int v3], HH x σ3) r
                refine mm_go 4 (F' := (bif mm_cond .eq v3 (-1 : Int32) then 115 else 109, [some (.ref 2), some (.int k), some (.int t), some (.int i), some (.int n), some (.ref 5), some (.int v3)], [], HH x σ3)) rfl ?_
                refine mb_eq (fun h13 => ?_) (fun h13 => ?_)
                · refine mm_go 11 (F' := (140, [some (.ref 2), some (.int k), some (.int t), some (.int i), some (.int n), some (.ref 5), some (.int v3)], [.long (σ3.2.1 1202), .int (σ3.1 1201), .int (σ3.1 1200), .ref 13], HH x σ3)) rfl ?_
                  refine mm_kl (z := 6) (as := [.ref 13, .int (σ3.1 1200), .int (σ3.1 1201), .long (σ3.2.1 1202)]) (S' := []) (L2 := [some (.ref 13), some (.int (σ3.1 1200)), some (.int (σ3.1 1201)), some (.long (σ3.2.1 1202)), none, none]) (v := none) (h1 := HH x σ4) rfl rfl rfl rfl rfl (by omega) (k11 h1 h2 h3 h9 h10 h11 h12 h13) ?_
                  show mm_Runs d 38 (143, [some (.ref 2), some (.int k), some (.int t), some (.int i), some (.int n), some (.ref 5), some (.int v3)], [], HH x σ4) r
                  refine mm_go 3 (F' := (148, [some (.ref 2), some (.int k), some (.int t), some (.int i), some (.int n), some (.ref 5), some (.int v3)], [.int (0 : Int32), .ref 16], HH x σ4)) rfl ?_
                  refine mm_go 1 (F' := (151, [some (.ref 2), some (.int k), some (.int t), some (.int i), some (.int n), some (.ref 5), some (.int v3)], [], HH x (ui σ4 1603 (0 : Int32)))) rfl ?_
                  refine mm_go 3 (F' := (156, [some (.ref 2), some (.int k), some (.int t), some (.int i), some (.int n), some (.ref 5), some (.int v3)], [.int (0 : Int32), .ref 20], HH x (ui σ4 1603 (0 : Int32)))) rfl ?_
                  refine mm_go 1 (F' := (159, [some (.ref 2), some (.int k), some (.int t), some (.int i), some (.int n), some (.ref 5), some (.int v3)], [], HH x (ui (ui σ4 1603 (0 : Int32)) 2003 (0 : Int32)))) rfl ?_
                  refine mm_go 3 (F' := (164, [some (.ref 2), some (.int k), some (.int t), some (.int i), some (.int n), some (.ref 5), some (.int v3)], [.int (0 : Int32), .ref 24], HH x (ui (ui σ4 1603 (0 : Int32)) 2003 (0 : Int32)))) rfl ?_
                  refine mm_go 1 (F' := (167, [some (.ref 2), some (.int k), some (.int t), some (.int i), some (.int n), some (.ref 5), some (.int v3)], [], HH x (ui (ui (ui σ4 1603 (0 : Int32)) 2003 (0 : Int32)) 2403 (0 : Int32)))) rfl ?_
                  refine mm_go 2 (F' := (171, [some (.ref 2), some (.int k), some (.int t), some (.int i), some (.int n), some (.ref 5), some (.int v3)], [.ref 29], HH x (ui (ui (ui σ4 1603 (0 : Int32)) 2003 (0 : Int32)) 2403 (0 : Int32)))) rfl ?_
                  refine mm_kl (z := 23) (as := [.ref 29]) (S' := []) (L2 := [some (.ref 29)]) (v := none) (h1 := HH x (g_forgetPlan (ui (ui (ui σ4 1603 (0 : Int32)) 2003 (0 : Int32)) 2403 (0 : Int32)))) rfl rfl rfl rfl rfl (by omega) (r_forgetPlan (by omega)) ?_
                  show mm_Runs d 38 (174, [some (.ref 2), some (.int k), some (.int t), some (.int i), some (.int n), some (.ref 5), some (.int v3)], [], HH x (g_forgetPlan (ui (ui (ui σ4 1603 (0 : Int32)) 2003 (0 : Int32)) 2403 (0 : Int32)))) r
                  refine mm_go 3 (F' := (181, [some (.ref 2), some (.int k), some (.int t), some (.int i), some (.int n), some (.ref 5), some (.int v3)], [.int ((g_forgetPlan (ui (ui (ui σ4 1603 (0 : Int32)) 2003 (0 : Int32)) 2403 (0 : Int32))).1 1305)], HH x (g_forgetPlan (ui (ui (ui σ4 1603 (0 : Int32)) 2003 (0 : Int32)) 2403 (0 : Int32))))) rfl ?_
                  exact mm_rt rfl rfl (k12 h1 h2 h3 h9 h10 h11 h12 h13)
                · refine mm_go 3 (F' := (114, [some (.ref 2), some (.int k), some (.int t), some (.int i), some (.int n), some (.ref 5), some (.int v3)], [.int ((-100 : Int32) - v3)], HH x σ3)) rfl ?_
                  exact mm_rt rfl rfl (k13 h1 h2 h3 h9 h10 h11 h12 h13)
              · refine mm_go 2 (F' := (85, [some (.ref 2), some (.int k), some (.int t), some (.int i), some (.int n), some (.ref 5), none], [.int (3 : Int32), .ref 2], HH x (ui σ 210 (0 : Int32)))) rfl ?_
                refine mm_kl (z := 70) (as := [.ref 2, .int (3 : Int32)]) (S' := []) (L2 := [some (.ref 2), some (.int (3 : Int32))]) (v := some (.int (f_faulty (ui σ 210 (0 : Int32)) (3 : Int32)))) (h1 := HH x (g_faulty (ui σ 210 (0 : Int32)) (3 : Int32))) rfl rfl rfl rfl rfl (by omega) (r_faulty (by omega)) ?_
                show mm_Runs d 38 (88, [some (.ref 2), some (.int k), some (.int t), some (.int i), some (.int n), some (.ref 5), none], [.int (f_faulty (ui σ 210 (0 : Int32)) (3 : Int32))], HH x (g_faulty (ui σ 210 (0 : Int32)) (3 : Int32))) r
                exact mm_rt rfl rfl (k14 h1 h2 h3 h9 h10 h11 h12)
            · refine mm_go 2 (F' := (68, [some (.ref 2), some (.int k), some (.int t), some (.int i), some (.int n), some (.ref 5), none], [.int (4 : Int32), .ref 2], HH x (ui σ 210 (0 : Int32)))) rfl ?_
              refine mm_kl (z := 70) (as := [.ref 2, .int (4 : Int32)]) (S' := []) (L2 := [some (.ref 2), some (.int (4 : Int32))]) (v := some (.int (f_faulty (ui σ 210 (0 : Int32)) (4 : Int32)))) (h1 := HH x (g_faulty (ui σ 210 (0 : Int32)) (4 : Int32))) rfl rfl rfl rfl rfl (by omega) (r_faulty (by omega)) ?_
              show mm_Runs d 38 (71, [some (.ref 2), some (.int k), some (.int t), some (.int i), some (.int n), some (.ref 5), none], [.int (f_faulty (ui σ 210 (0 : Int32)) (4 : Int32))], HH x (g_faulty (ui σ 210 (0 : Int32)) (4 : Int32))) r
              exact mm_rt rfl rfl (k15 h1 h2 h3 h9 h10 h11)
          · refine mm_go 2 (F' := (57, [some (.ref 2), some (.int k), some (.int t), some (.int i), some (.int n), some (.ref 5), none], [.int (1 : Int32), .ref 2], HH x (ui σ 210 (0 : Int32)))) rfl ?_
            refine mm_kl (z := 70) (as := [.ref 2, .int (1 : Int32)]) (S' := []) (L2 := [some (.ref 2), some (.int (1 : Int32))]) (v := some (.int (f_faulty (ui σ 210 (0 : Int32)) (1 : Int32)))) (h1 := HH x (g_faulty (ui σ 210 (0 : Int32)) (1 : Int32))) rfl rfl rfl rfl rfl (by omega) (r_faulty (by omega)) ?_
            show mm_Runs d 38 (60, [some (.ref 2), some (.int k), some (.int t), some (.int i), some (.int n), some (.ref 5), none], [.int (f_faulty (ui σ 210 (0 : Int32)) (1 : Int32))], HH x (g_faulty (ui σ 210 (0 : Int32)) (1 : Int32))) r
            exact mm_rt rfl rfl (k16 h1 h2 h3 h9 h10)
        · refine mm_go 2 (F' := (43, [some (.ref 2), some (.int k), some (.int t), some (.int i), some (.int n), some (.ref 5), none], [.int (2 : Int32), .ref 2], HH x (ui σ 210 (0 : Int32)))) rfl ?_
          refine mm_kl (z := 70) (as := [.ref 2, .int (2 : Int32)]) (S' := []) (L2 := [some (.ref 2), some (.int (2 : Int32))]) (v := some (.int (f_faulty (ui σ 210 (0 : Int32)) (2 : Int32)))) (h1 := HH x (g_faulty (ui σ 210 (0 : Int32)) (2 : Int32))) rfl rfl rfl rfl rfl (by omega) (r_faulty (by omega)) ?_
          show mm_Runs d 38 (46, [some (.ref 2), some (.int k), some (.int t), some (.int i), some (.int n), some (.ref 5), none], [.int (f_faulty (ui σ 210 (0 : Int32)) (2 : Int32))], HH x (g_faulty (ui σ 210 (0 : Int32)) (2 : Int32))) r
          exact mm_rt rfl rfl (k17 h1 h2 h3 h9)
      · refine mm_tsA h3 (F' := (30, [some (.ref 2), some (.int k), some (.int t), some (.int i), some (.int n), none, none], [.ref 6], HH x (ui σ 210 (0 : Int32)))) rfl ?_
        refine mm_go 3 (F' := (35, [some (.ref 2), some (.int k), some (.int t), some (.int i), some (.int n), some (.ref 6), none], [.int t, .ref 6], HH x (ui σ 210 (0 : Int32)))) rfl ?_
        refine mm_kl (z := 20) (as := [.ref 6, .int t]) (S' := []) (L2 := [some (.ref 6), some (.int t)]) (v := some (.int (mm_b (p_isOfAnother_6 (ui σ 210 (0 : Int32)) t)))) (h1 := HH x (ui σ 210 (0 : Int32))) rfl rfl rfl rfl rfl (by omega) (r_isOfAnother_6 (by omega)) ?_
        show mm_Runs d 38 (38, [some (.ref 2), some (.int k), some (.int t), some (.int i), some (.int n), some (.ref 6), none], [.int (mm_b (p_isOfAnother_6 (ui σ 210 (0 : Int32)) t))], HH x (ui σ 210 (0 : Int32))) r
        refine mm_go 1 (F' := (bif mm_cond .eq (mm_b (p_isOfAnother_6 (ui σ 210 (0 : Int32)) t)) 0 then 47 else 41, [some (.ref 2), some (.int k), some (.int t), some (.int i), some (.int n), some (.ref 6), none], [], HH x (ui σ 210 (0 : Int32)))) rfl ?_
        refine mb_beq (fun h14 => ?_) (fun h14 => ?_)
        · refine mm_go 3 (F' := (bif mm_cond .ne (σ.1 601) 0 then 61 else 55, [some (.ref 2), some (.int k), some (.int t), some (.int i), some (.int n), some (.ref 6), none], [], HH x (ui σ 210 (0 : Int32)))) rfl ?_
          refine mb_ne (fun h15 => ?_) (fun h15 => ?_)
          · refine mm_go 2 (F' := (bif mm_cond .ge n 0 then 72 else 66, [some (.ref 2), some (.int k), some (.int t), some (.int i), some (.int n), some (.ref 6), none], [], HH x (ui σ 210 (0 : Int32)))) rfl ?_
            refine mb_ge (fun h16 => ?_) (fun h16 => ?_)
            · refine mm_go 3 (F' := (77, [some (.ref 2), some (.int k), some (.int t), some (.int i), some (.int n), some (.ref 6), none], [.int n, .int i, .ref 6], HH x (ui σ 210 (0 : Int32)))) rfl ?_
              refine mm_kl (z := 21) (as := [.ref 6, .int i, .int n]) (S' := []) (L2 := [some (.ref 6), some (.int i), some (.int n)]) (v := some (.int (mm_b (p_hasCells_6 (ui σ 210 (0 : Int32)) i n)))) (h1 := HH x (ui σ 210 (0 : Int32))) rfl rfl rfl rfl rfl (by omega) (r_hasCells_6 (by omega)) ?_
              show mm_Runs d 38 (80, [some (.ref 2), some (.int k), some (.int t), some (.int i), some (.int n), some (.ref 6), none], [.int (mm_b (p_hasCells_6 (ui σ 210 (0 : Int32)) i n))], HH x (ui σ 210 (0 : Int32))) r
              refine mm_go 1 (F' := (bif mm_cond .ne (mm_b (p_hasCells_6 (ui σ 210 (0 : Int32)) i n)) 0 then 89 else 83, [some (.ref 2), some (.int k), some (.int t), some (.int i), some (.int n), some (.ref 6), none], [], HH x (ui σ 210 (0 : Int32)))) rfl ?_
              refine mb_bne (fun h17 => ?_) (fun h17 => ?_)
              · refine mm_go 5 (F' := (98, [some (.ref 2), some (.int k), some (.int t), some (.int i), some (.int n), some (.ref 6), none], [.int n, .int i, .ref 6, .ref 12], HH x (ui σ 210 (0 : Int32)))) rfl ?_
                refine mm_kl (z := 15) (as := [.ref 12, .ref 6, .int i, .int n]) (S' := []) (L2 := [some (.ref 12), some (.ref 6), some (.int i), some (.int n), none]) (v := some (.int v5)) (h1 := HH x σ5) rfl rfl rfl rfl rfl (by omega) (k18 h1 h2 h3 h14 h15 h16 h17) ?_
                show mm_Runs d 38 (101, [some (.ref 2), some (.int k), some (.int t), some (.int i), some (.int n), some (.ref 6), none], [.int v5], HH x σ5) r
                refine mm_go 4 (F' := (bif mm_cond .eq v5 (-1 : Int32) then 115 else 109, [some (.ref 2), some (.int k), some (.int t), some (.int i), some (.int n), some (.ref 6), some (.int v5)], [], HH x σ5)) rfl ?_
                refine mb_eq (fun h18 => ?_) (fun h18 => ?_)
                · refine mm_go 11 (F' := (140, [some (.ref 2), some (.int k), some (.int t), some (.int i), some (.int n), some (.ref 6), some (.int v5)], [.long (σ5.2.1 1202), .int (σ5.1 1201), .int (σ5.1 1200), .ref 13], HH x σ5)) rfl ?_
                  refine mm_kl (z := 6) (as := [.ref 13, .int (σ5.1 1200), .int (σ5.1 1201), .long (σ5.2.1 1202)]) (S' := []) (L2 := [some (.ref 13), some (.int (σ5.1 1200)), some (.int (σ5.1 1201)), some (.long (σ5.2.1 1202)), none, none]) (v := none) (h1 := HH x σ6) rfl rfl rfl rfl rfl (by omega) (k19 h1 h2 h3 h14 h15 h16 h17 h18) ?_
                  show mm_Runs d 38 (143, [some (.ref 2), some (.int k), some (.int t), some (.int i), some (.int n), some (.ref 6), some (.int v5)], [], HH x σ6) r
                  refine mm_go 3 (F' := (148, [some (.ref 2), some (.int k), some (.int t), some (.int i), some (.int n), some (.ref 6), some (.int v5)], [.int (0 : Int32), .ref 16], HH x σ6)) rfl ?_
                  refine mm_go 1 (F' := (151, [some (.ref 2), some (.int k), some (.int t), some (.int i), some (.int n), some (.ref 6), some (.int v5)], [], HH x (ui σ6 1603 (0 : Int32)))) rfl ?_
                  refine mm_go 3 (F' := (156, [some (.ref 2), some (.int k), some (.int t), some (.int i), some (.int n), some (.ref 6), some (.int v5)], [.int (0 : Int32), .ref 20], HH x (ui σ6 1603 (0 : Int32)))) rfl ?_
                  refine mm_go 1 (F' := (159, [some (.ref 2), some (.int k), some (.int t), some (.int i), some (.int n), some (.ref 6), some (.int v5)], [], HH x (ui (ui σ6 1603 (0 : Int32)) 2003 (0 : Int32)))) rfl ?_
                  refine mm_go 3 (F' := (164, [some (.ref 2), some (.int k), some (.int t), some (.int i), some (.int n), some (.ref 6), some (.int v5)], [.int (0 : Int32), .ref 24], HH x (ui (ui σ6 1603 (0 : Int32)) 2003 (0 : Int32)))) rfl ?_
                  refine mm_go 1 (F' := (167, [some (.ref 2), some (.int k), some (.int t), some (.int i), some (.int n), some (.ref 6), some (.int v5)], [], HH x (ui (ui (ui σ6 1603 (0 : Int32)) 2003 (0 : Int32)) 2403 (0 : Int32)))) rfl ?_
                  refine mm_go 2 (F' := (171, [some (.ref 2), some (.int k), some (.int t), some (.int i), some (.int n), some (.ref 6), some (.int v5)], [.ref 29], HH x (ui (ui (ui σ6 1603 (0 : Int32)) 2003 (0 : Int32)) 2403 (0 : Int32)))) rfl ?_
                  refine mm_kl (z := 23) (as := [.ref 29]) (S' := []) (L2 := [some (.ref 29)]) (v := none) (h1 := HH x (g_forgetPlan (ui (ui (ui σ6 1603 (0 : Int32)) 2003 (0 : Int32)) 2403 (0 : Int32)))) rfl rfl rfl rfl rfl (by omega) (r_forgetPlan (by omega)) ?_
                  show mm_Runs d 38 (174, [some (.ref 2), some (.int k), some (.int t), some (.int i), some (.int n), some (.ref 6), some (.int v5)], [], HH x (g_forgetPlan (ui (ui (ui σ6 1603 (0 : Int32)) 2003 (0 : Int32)) 2403 (0 : Int32)))) r
                  refine mm_go 3 (F' := (181, [some (.ref 2), some (.int k), some (.int t), some (.int i), some (.int n), some (.ref 6), some (.int v5)], [.int ((g_forgetPlan (ui (ui (ui σ6 1603 (0 : Int32)) 2003 (0 : Int32)) 2403 (0 : Int32))).1 1305)], HH x (g_forgetPlan (ui (ui (ui σ6 1603 (0 : Int32)) 2003 (0 : Int32)) 2403 (0 : Int32))))) rfl ?_
                  exact mm_rt rfl rfl (k20 h1 h2 h3 h14 h15 h16 h17 h18)
                · refine mm_go 3 (F' := (114, [some (.ref 2), some (.int k), some (.int t), some (.int i), some (.int n), some (.ref 6), some (.int v5)], [.int ((-100 : Int32) - v5)], HH x σ5)) rfl ?_
                  exact mm_rt rfl rfl (k21 h1 h2 h3 h14 h15 h16 h17 h18)
              · refine mm_go 2 (F' := (85, [some (.ref 2), some (.int k), some (.int t), some (.int i), some (.int n), some (.ref 6), none], [.int (3 : Int32), .ref 2], HH x (ui σ 210 (0 : Int32)))) rfl ?_
                refine mm_kl (z := 70) (as := [.ref 2, .int (3 : Int32)]) (S' := []) (L2 := [some (.ref 2), some (.int (3 : Int32))]) (v := some (.int (f_faulty (ui σ 210 (0 : Int32)) (3 : Int32)))) (h1 := HH x (g_faulty (ui σ 210 (0 : Int32)) (3 : Int32))) rfl rfl rfl rfl rfl (by omega) (r_faulty (by omega)) ?_
                show mm_Runs d 38 (88, [some (.ref 2), some (.int k), some (.int t), some (.int i), some (.int n), some (.ref 6), none], [.int (f_faulty (ui σ 210 (0 : Int32)) (3 : Int32))], HH x (g_faulty (ui σ 210 (0 : Int32)) (3 : Int32))) r
                exact mm_rt rfl rfl (k22 h1 h2 h3 h14 h15 h16 h17)
            · refine mm_go 2 (F' := (68, [some (.ref 2), some (.int k), some (.int t), some (.int i), some (.int n), some (.ref 6), none], [.int (4 : Int32), .ref 2], HH x (ui σ 210 (0 : Int32)))) rfl ?_
              refine mm_kl (z := 70) (as := [.ref 2, .int (4 : Int32)]) (S' := []) (L2 := [some (.ref 2), some (.int (4 : Int32))]) (v := some (.int (f_faulty (ui σ 210 (0 : Int32)) (4 : Int32)))) (h1 := HH x (g_faulty (ui σ 210 (0 : Int32)) (4 : Int32))) rfl rfl rfl rfl rfl (by omega) (r_faulty (by omega)) ?_
              show mm_Runs d 38 (71, [some (.ref 2), some (.int k), some (.int t), some (.int i), some (.int n), some (.ref 6), none], [.int (f_faulty (ui σ 210 (0 : Int32)) (4 : Int32))], HH x (g_faulty (ui σ 210 (0 : Int32)) (4 : Int32))) r
              exact mm_rt rfl rfl (k23 h1 h2 h3 h14 h15 h16)
          · refine mm_go 2 (F' := (57, [some (.ref 2), some (.int k), some (.int t), some (.int i), some (.int n), some (.ref 6), none], [.int (1 : Int32), .ref 2], HH x (ui σ 210 (0 : Int32)))) rfl ?_
            refine mm_kl (z := 70) (as := [.ref 2, .int (1 : Int32)]) (S' := []) (L2 := [some (.ref 2), some (.int (1 : Int32))]) (v := some (.int (f_faulty (ui σ 210 (0 : Int32)) (1 : Int32)))) (h1 := HH x (g_faulty (ui σ 210 (0 : Int32)) (1 : Int32))) rfl rfl rfl rfl rfl (by omega) (r_faulty (by omega)) ?_
            show mm_Runs d 38 (60, [some (.ref 2), some (.int k), some (.int t), some (.int i), some (.int n), some (.ref 6), none], [.int (f_faulty (ui σ 210 (0 : Int32)) (1 : Int32))], HH x (g_faulty (ui σ 210 (0 : Int32)) (1 : Int32))) r
            exact mm_rt rfl rfl (k24 h1 h2 h3 h14 h15)
        · refine mm_go 2 (F' := (43, [some (.ref 2), some (.int k), some (.int t), some (.int i), some (.int n), some (.ref 6), none], [.int (2 : Int32), .ref 2], HH x (ui σ 210 (0 : Int32)))) rfl ?_
          refine mm_kl (z := 70) (as := [.ref 2, .int (2 : Int32)]) (S' := []) (L2 := [some (.ref 2), some (.int (2 : Int32))]) (v := some (.int (f_faulty (ui σ 210 (0 : Int32)) (2 : Int32)))) (h1 := HH x (g_faulty (ui σ 210 (0 : Int32)) (2 : Int32))) rfl rfl rfl rfl rfl (by omega) (r_faulty (by omega)) ?_
          show mm_Runs d 38 (46, [some (.ref 2), some (.int k), some (.int t), some (.int i), some (.int n), some (.ref 6), none], [.int (f_faulty (ui σ 210 (0 : Int32)) (2 : Int32))], HH x (g_faulty (ui σ 210 (0 : Int32)) (2 : Int32))) r
          exact mm_rt rfl rfl (k25 h1 h2 h3 h14)
      · refine mm_tsA h3 (F' := (30, [some (.ref 2), some (.int k), some (.int t), some (.int i), some (.int n), none, none], [.ref 7], HH x (ui σ 210 (0 : Int32)))) rfl ?_
        refine mm_go 3 (F' := (35, [some (.ref 2), some (.int k), some (.int t), some (.int i), some (.int n), some (.ref 7), none], [.int t, .ref 7], HH x (ui σ 210 (0 : Int32)))) rfl ?_
        refine mm_kl (z := 20) (as := [.ref 7, .int t]) (S' := []) (L2 := [some (.ref 7), some (.int t)]) (v := some (.int (mm_b (p_isOfAnother_7 (ui σ 210 (0 : Int32)) t)))) (h1 := HH x (ui σ 210 (0 : Int32))) rfl rfl rfl rfl rfl (by omega) (r_isOfAnother_7 (by omega)) ?_
        show mm_Runs d 38 (38, [some (.ref 2), some (.int k), some (.int t), some (.int i), some (.int n), some (.ref 7), none], [.int (mm_b (p_isOfAnother_7 (ui σ 210 (0 : Int32)) t))], HH x (ui σ 210 (0 : Int32))) r
        refine mm_go 1 (F' := (bif mm_cond .eq (mm_b (p_isOfAnother_7 (ui σ 210 (0 : Int32)) t)) 0 then 47 else 41, [some (.ref 2), some (.int k), some (.int t), some (.int i), some (.int n), some (.ref 7), none], [], HH x (ui σ 210 (0 : Int32)))) rfl ?_
        refine mb_beq (fun h19 => ?_) (fun h19 => ?_)
        · refine mm_go 3 (F' := (bif mm_cond .ne (σ.1 701) 0 then 61 else 55, [some (.ref 2), some (.int k), some (.int t), some (.int i), some (.int n), some (.ref 7), none], [], HH x (ui σ 210 (0 : Int32)))) rfl ?_
          refine mb_ne (fun h20 => ?_) (fun h20 => ?_)
          · refine mm_go 2 (F' := (bif mm_cond .ge n 0 then 72 else 66, [some (.ref 2), some (.int k), some (.int t), some (.int i), some (.int n), some (.ref 7), none], [], HH x (ui σ 210 (0 : Int32)))) rfl ?_
            refine mb_ge (fun h21 => ?_) (fun h21 => ?_)
            · refine mm_go 3 (F' := (77, [some (.ref 2), some (.int k), some (.int t), some (.int i), some (.int n), some (.ref 7), none], [.int n, .int i, .ref 7], HH x (ui σ 210 (0 : Int32)))) rfl ?_
              refine mm_kl (z := 21) (as := [.ref 7, .int i, .int n]) (S' := []) (L2 := [some (.ref 7), some (.int i), some (.int n)]) (v := some (.int (mm_b (p_hasCells_7 (ui σ 210 (0 : Int32)) i n)))) (h1 := HH x (ui σ 210 (0 : Int32))) rfl rfl rfl rfl rfl (by omega) (r_hasCells_7 (by omega)) ?_
              show mm_Runs d 38 (80, [some (.ref 2), some (.int k), some (.int t), some (.int i), some (.int n), some (.ref 7), none], [.int (mm_b (p_hasCells_7 (ui σ 210 (0 : Int32)) i n))], HH x (ui σ 210 (0 : Int32))) r
              refine mm_go 1 (F' := (bif mm_cond .ne (mm_b (p_hasCells_7 (ui σ 210 (0 : Int32)) i n)) 0 then 89 else 83, [some (.ref 2), some (.int k), some (.int t), some (.int i), some (.int n), some (.ref 7), none], [], HH x (ui σ 210 (0 : Int32)))) rfl ?_
              refine mb_bne (fun h22 => ?_) (fun h22 => ?_)
              · refine mm_go 5 (F' := (98, [some (.ref 2), some (.int k), some (.int t), some (.int i), some (.int n), some (.ref 7), none], [.int n, .int i, .ref 7, .ref 12], HH x (ui σ 210 (0 : Int32)))) rfl ?_
                refine mm_kl (z := 15) (as := [.ref 12, .ref 7, .int i, .int n]) (S' := []) (L2 := [some (.ref 12), some (.ref 7), some (.int i), some (.int n), none]) (v := some (.int v7)) (h1 := HH x σ7) rfl rfl rfl rfl rfl (by omega) (k26 h1 h2 h3 h19 h20 h21 h22) ?_
                show mm_Runs d 38 (101, [some (.ref 2), some (.int k), some (.int t), some (.int i), some (.int n), some (.ref 7), none], [.int v7], HH x σ7) r
                refine mm_go 4 (F' := (bif mm_cond .eq v7 (-1 : Int32) then 115 else 109, [some (.ref 2), some (.int k), some (.int t), some (.int i), some (.int n), some (.ref 7), some (.int v7)], [], HH x σ7)) rfl ?_
                refine mb_eq (fun h23 => ?_) (fun h23 => ?_)
                · refine mm_go 11 (F' := (140, [some (.ref 2), some (.int k), some (.int t), some (.int i), some (.int n), some (.ref 7), some (.int v7)], [.long (σ7.2.1 1202), .int (σ7.1 1201), .int (σ7.1 1200), .ref 13], HH x σ7)) rfl ?_
                  refine mm_kl (z := 6) (as := [.ref 13, .int (σ7.1 1200), .int (σ7.1 1201), .long (σ7.2.1 1202)]) (S' := []) (L2 := [some (.ref 13), some (.int (σ7.1 1200)), some (.int (σ7.1 1201)), some (.long (σ7.2.1 1202)), none, none]) (v := none) (h1 := HH x σ8) rfl rfl rfl rfl rfl (by omega) (k27 h1 h2 h3 h19 h20 h21 h22 h23) ?_
                  show mm_Runs d 38 (143, [some (.ref 2), some (.int k), some (.int t), some (.int i), some (.int n), some (.ref 7), some (.int v7)], [], HH x σ8) r
                  refine mm_go 3 (F' := (148, [some (.ref 2), some (.int k), some (.int t), some (.int i), some (.int n), some (.ref 7), some (.int v7)], [.int (0 : Int32), .ref 16], HH x σ8)) rfl ?_
                  refine mm_go 1 (F' := (151, [some (.ref 2), some (.int k), some (.int t), some (.int i), some (.int n), some (.ref 7), some (.int v7)], [], HH x (ui σ8 1603 (0 : Int32)))) rfl ?_
                  refine mm_go 3 (F' := (156, [some (.ref 2), some (.int k), some (.int t), some (.int i), some (.int n), some (.ref 7), some (.int v7)], [.int (0 : Int32), .ref 20], HH x (ui σ8 1603 (0 : Int32)))) rfl ?_
                  refine mm_go 1 (F' := (159, [some (.ref 2), some (.int k), some (.int t), some (.int i), some (.int n), some (.ref 7), some (.int v7)], [], HH x (ui (ui σ8 1603 (0 : Int32)) 2003 (0 : Int32)))) rfl ?_
                  refine mm_go 3 (F' := (164, [some (.ref 2), some (.int k), some (.int t), some (.int i), some (.int n), some (.ref 7), some (.int v7)], [.int (0 : Int32), .ref 24], HH x (ui (ui σ8 1603 (0 : Int32)) 2003 (0 : Int32)))) rfl ?_
                  refine mm_go 1 (F' := (167, [some (.ref 2), some (.int k), some (.int t), some (.int i), some (.int n), some (.ref 7), some (.int v7)], [], HH x (ui (ui (ui σ8 1603 (0 : Int32)) 2003 (0 : Int32)) 2403 (0 : Int32)))) rfl ?_
                  refine mm_go 2 (F' := (171, [some (.ref 2), some (.int k), some (.int t), some (.int i), some (.int n), some (.ref 7), some (.int v7)], [.ref 29], HH x (ui (ui (ui σ8 1603 (0 : Int32)) 2003 (0 : Int32)) 2403 (0 : Int32)))) rfl ?_
                  refine mm_kl (z := 23) (as := [.ref 29]) (S' := []) (L2 := [some (.ref 29)]) (v := none) (h1 := HH x (g_forgetPlan (ui (ui (ui σ8 1603 (0 : Int32)) 2003 (0 : Int32)) 2403 (0 : Int32)))) rfl rfl rfl rfl rfl (by omega) (r_forgetPlan (by omega)) ?_
                  show mm_Runs d 38 (174, [some (.ref 2), some (.int k), some (.int t), some (.int i), some (.int n), some (.ref 7), some (.int v7)], [], HH x (g_forgetPlan (ui (ui (ui σ8 1603 (0 : Int32)) 2003 (0 : Int32)) 2403 (0 : Int32)))) r
                  refine mm_go 3 (F' := (181, [some (.ref 2), some (.int k), some (.int t), some (.int i), some (.int n), some (.ref 7), some (.int v7)], [.int ((g_forgetPlan (ui (ui (ui σ8 1603 (0 : Int32)) 2003 (0 : Int32)) 2403 (0 : Int32))).1 1305)], HH x (g_forgetPlan (ui (ui (ui σ8 1603 (0 : Int32)) 2003 (0 : Int32)) 2403 (0 : Int32))))) rfl ?_
                  exact mm_rt rfl rfl (k28 h1 h2 h3 h19 h20 h21 h22 h23)
                · refine mm_go 3 (F' := (114, [some (.ref 2), some (.int k), some (.int t), some (.int i), some (.int n), some (.ref 7), some (.int v7)], [.int ((-100 : Int32) - v7)], HH x σ7)) rfl ?_
                  exact mm_rt rfl rfl (k29 h1 h2 h3 h19 h20 h21 h22 h23)
              · refine mm_go 2 (F' := (85, [some (.ref 2), some (.int k), some (.int t), some (.int i), some (.int n), some (.ref 7), none], [.int (3 : Int32), .ref 2], HH x (ui σ 210 (0 : Int32)))) rfl ?_
                refine mm_kl (z := 70) (as := [.ref 2, .int (3 : Int32)]) (S' := []) (L2 := [some (.ref 2), some (.int (3 : Int32))]) (v := some (.int (f_faulty (ui σ 210 (0 : Int32)) (3 : Int32)))) (h1 := HH x (g_faulty (ui σ 210 (0 : Int32)) (3 : Int32))) rfl rfl rfl rfl rfl (by omega) (r_faulty (by omega)) ?_
                show mm_Runs d 38 (88, [some (.ref 2), some (.int k), some (.int t), some (.int i), some (.int n), some (.ref 7), none], [.int (f_faulty (ui σ 210 (0 : Int32)) (3 : Int32))], HH x (g_faulty (ui σ 210 (0 : Int32)) (3 : Int32))) r
                exact mm_rt rfl rfl (k30 h1 h2 h3 h19 h20 h21 h22)
            · refine mm_go 2 (F' := (68, [some (.ref 2), some (.int k), some (.int t), some (.int i), some (.int n), some (.ref 7), none], [.int (4 : Int32), .ref 2], HH x (ui σ 210 (0 : Int32)))) rfl ?_
              refine mm_kl (z := 70) (as := [.ref 2, .int (4 : Int32)]) (S' := []) (L2 := [some (.ref 2), some (.int (4 : Int32))]) (v := some (.int (f_faulty (ui σ 210 (0 : Int32)) (4 : Int32)))) (h1 := HH x (g_faulty (ui σ 210 (0 : Int32)) (4 : Int32))) rfl rfl rfl rfl rfl (by omega) (r_faulty (by omega)) ?_
              show mm_Runs d 38 (71, [some (.ref 2), some (.int k), some (.int t), some (.int i), some (.int n), some (.ref 7), none], [.int (f_faulty (ui σ 210 (0 : Int32)) (4 : Int32))], HH x (g_faulty (ui σ 210 (0 : Int32)) (4 : Int32))) r
              exact mm_rt rfl rfl (k31 h1 h2 h3 h19 h20 h21)
          · refine mm_go 2 (F' := (57, [some (.ref 2), some (.int k), some (.int t), some (.int i), some (.int n), some (.ref 7), none], [.int (1 : Int32), .ref 2], HH x (ui σ 210 (0 : Int32)))) rfl ?_
            refine mm_kl (z := 70) (as := [.ref 2, .int (1 : Int32)]) (S' := []) (L2 := [some (.ref 2), some (.int (1 : Int32))]) (v := some (.int (f_faulty (ui σ 210 (0 : Int32)) (1 : Int32)))) (h1 := HH x (g_faulty (ui σ 210 (0 : Int32)) (1 : Int32))) rfl rfl rfl rfl rfl (by omega) (r_faulty (by omega)) ?_
            show mm_Runs d 38 (60, [some (.ref 2), some (.int k), some (.int t), some (.int i), some (.int n), some (.ref 7), none], [.int (f_faulty (ui σ 210 (0 : Int32)) (1 : Int32))], HH x (g_faulty (ui σ 210 (0 : Int32)) (1 : Int32))) r
            exact mm_rt rfl rfl (k32 h1 h2 h3 h19 h20)
        · refine mm_go 2 (F' := (43, [some (.ref 2), some (.int k), some (.int t), some (.int i), some (.int n), some (.ref 7), none], [.int (2 : Int32), .ref 2], HH x (ui σ 210 (0 : Int32)))) rfl ?_
          refine mm_kl (z := 70) (as := [.ref 2, .int (2 : Int32)]) (S' := []) (L2 := [some (.ref 2), some (.int (2 : Int32))]) (v := some (.int (f_faulty (ui σ 210 (0 : Int32)) (2 : Int32)))) (h1 := HH x (g_faulty (ui σ 210 (0 : Int32)) (2 : Int32))) rfl rfl rfl rfl rfl (by omega) (r_faulty (by omega)) ?_
          show mm_Runs d 38 (46, [some (.ref 2), some (.int k), some (.int t), some (.int i), some (.int n), some (.ref 7), none], [.int (f_faulty (ui σ 210 (0 : Int32)) (2 : Int32))], HH x (g_faulty (ui σ 210 (0 : Int32)) (2 : Int32))) r
          exact mm_rt rfl rfl (k33 h1 h2 h3 h19)
    · refine mm_go 1 (F' := (23, [some (.ref 2), some (.int k), some (.int t), some (.int i), some (.int n), none, none], [.int (-2 : Int32)], HH x (ui σ 210 (0 : Int32)))) rfl ?_
      exact mm_rt rfl rfl (k34 h1 h2)
  · refine mm_go 1 (F' := (13, [some (.ref 2), some (.int k), some (.int t), some (.int i), some (.int n), none, none], [.int (-1 : Int32)], HH x (ui σ 210 (0 : Int32)))) rfl ?_
    exact mm_rt rfl rfl (k35 h1)
/-- the model's cells as it reads -/
def rx (σ : mm_S) (a h w : Int32) (W : Nat → Int32) : mm_S := ua (ui (ui (ui σ 3709 a) 3710 h) 3711 w) 43 W
theorem rx_a (σ : mm_S) (a h w a' : Int32) (W : Nat → Int32) : ui (rx σ a h w W) 3709 a' = rx σ a' h w W := by
  unfold rx ui ua
  simp only
  rw [mm_up_comm (k := 3711) (k' := 3709) _ (by decide), mm_up_comm (k := 3710) (k' := 3709) _ (by decide), mm_up_up]
theorem rx_h (σ : mm_S) (a h w h' : Int32) (W : Nat → Int32) : ui (rx σ a h w W) 3710 h' = rx σ a h' w W := by
  unfold rx ui ua
  simp only
  rw [mm_up_comm (k := 3711) (k' := 3710) _ (by decide), mm_up_up]
theorem rx_w (σ : mm_S) (a h w w' : Int32) (W : Nat → Int32) : ui (rx σ a h w W) 3711 w' = rx σ a h w' W := by
  unfold rx ui ua
  simp only [mm_up_up]
theorem rx_W (σ : mm_S) (a h w : Int32) (W W' : Nat → Int32) : ua (rx σ a h w W) 43 W' = rx σ a h w W' := by
  unfold rx ui ua
  simp only [mm_up_up]
theorem rx_0 (σ : mm_S) (a : Int32) : ui σ 3709 a = rx σ a (σ.1 3710) (σ.1 3711) (σ.2.2.1 43) := by
  unfold rx ui ua
  simp only
  rw [mm_up_self, show σ.1 3710 = mm_up σ.1 3709 a 3710 from rfl, mm_up_self, show σ.1 3711 = mm_up σ.1 3709 a 3711 from rfl, mm_up_self]
theorem i_nlt {a b : Int32} : ¬ a < b ↔ b ≤ a := by
  rw [Int32.lt_iff_toInt_lt, Int32.le_iff_toInt_le]
  omega
theorem m_digit {d : Nat} {x : Nat × (Nat → Int32)} {σ : mm_S} {s : Nat → Int32} {B n k mo : Nat} {h w : Int32} {W : Nat → Int32} (hd : 1 ≤ d) (hB : B + n ≤ 240) (hs : ∀ j, j < n → σ.2.2.1 40 (B + j) = s j) (hk : k ≤ n) :
    ∃ v a', mm_Runs d 96 (0, [some (.ref 37), some (.int (nI (B + n))), some (.int (nI mo))], [], HH x (rx σ (nI (B + k)) h w W)) (some (.int v), HH x (rx σ a' h w W)) ∧ ((k < n ∧ (49 ≤ s k ∧ s k ≤ nI (48 + mo)) ∧ v = s k - 48 ∧ a' = nI (B + (k + 1))) ∨ (¬ (k < n ∧ (49 ≤ s k ∧ s k ≤ nI (48 + mo))) ∧ v = -9 ∧ a' = nI (B + k))) := by
  have kc : (nI (B + k)).toNatClampNeg = B + k := nI_clamp (by omega)
  have pm : nI (B + k) + 1 - 1 = nI (B + k) := nI_p1m1 _
  have at0 : (rx σ (nI (B + k)) h w W).1 3709 = nI (B + k) := rfl
  have ar : (rx σ (nI (B + k)) h w W).2.2.1 40 = σ.2.2.1 40 := rfl
  by_cases hkn : k < n
  · have g : ¬ (nI (B + k) < 0 ∨ 240 ≤ (nI (B + k)).toNatClampNeg) := nI_in (by omega) (by omega)
    have hlt : ¬ nI (B + n) ≤ nI (B + k) := nI_ge (by omega) (by omega)
    have r := r_m_digit (d := d) (x := x) (σ := rx σ (nI (B + k)) h w W) (e := nI (B + n)) (k := nI mo) hd (fun _ => g) (fun _ _ => by
      show ¬ (nI (B + k) + 1 - 1 < 0 ∨ 240 ≤ (nI (B + k) + 1 - 1).toNatClampNeg)
      rw [pm]; exact g)
    have hw : p_m_within (rx σ (nI (B + k)) h w W) (σ.2.2.1 40 (nI (B + k)).toNatClampNeg) 49 (48 + nI mo) ↔ (49 ≤ s k ∧ s k ≤ nI (48 + mo)) := by
      unfold p_m_within
      rw [kc, hs k hkn, i_nlt, i_nlt, show (48 : Int32) + nI mo = nI (48 + mo) from nI_add 48 mo]
    by_cases hq : 49 ≤ s k ∧ s k ≤ nI (48 + mo)
    · refine ⟨s k - 48, nI (B + (k + 1)), ?_, Or.inl ⟨hkn, hq, rfl, rfl⟩⟩
      rw [show f_m_digit (rx σ (nI (B + k)) h w W) (nI (B + n)) (nI mo) = s k - 48 by
        unfold f_m_digit
        rw [at0, ar, if_neg hlt, if_pos (hw.mpr hq)]
        rw [pm, kc, hs k hkn], show g_m_digit (rx σ (nI (B + k)) h w W) (nI (B + n)) (nI mo) = rx σ (nI (B + (k + 1))) h w W by
        unfold g_m_digit
        rw [at0, ar, if_neg hlt, if_pos (hw.mpr hq), rx_a, nI_1]
        rfl] at r
      exact r
    · refine ⟨-9, nI (B + k), ?_, Or.inr ⟨fun z => hq z.2, rfl, rfl⟩⟩
      rw [show f_m_digit (rx σ (nI (B + k)) h w W) (nI (B + n)) (nI mo) = -9 by
        unfold f_m_digit
        rw [at0, ar, if_neg hlt, if_neg (fun z => hq (hw.mp z))], show g_m_digit (rx σ (nI (B + k)) h w W) (nI (B + n)) (nI mo) = rx σ (nI (B + k)) h w W by
        unfold g_m_digit
        rw [at0, ar, if_neg hlt, if_neg (fun z => hq (hw.mp z))]] at r
      exact r
  · have hle : nI (B + n) ≤ nI (B + k) := nI_le (by omega) (by omega)
    have r := r_m_digit (d := d) (x := x) (σ := rx σ (nI (B + k)) h w W) (e := nI (B + n)) (k := nI mo) hd (fun z => absurd hle z) (fun z => absurd hle z)
    refine ⟨-9, nI (B + k), ?_, Or.inr ⟨fun z => hkn z.1, rfl, rfl⟩⟩
    rw [show f_m_digit (rx σ (nI (B + k)) h w W) (nI (B + n)) (nI mo) = -9 by
      unfold f_m_digit
      exact if_pos hle, show g_m_digit (rx σ (nI (B + k)) h w W) (nI (B + n)) (nI mo) = rx σ (nI (B + k)) h w W by
      unfold g_m_digit
      exact if_pos hle] at r
    exact r
def rd_arr (s : Nat → Int32) (k : Nat) (W : Nat → Int32) : Prop := ∀ c, c < rd_H s * rd_W s → rd_p (rd_W s) c < k → W c = if s (rd_p (rd_W s) c) = 46 then 1 else 0
def rd_fin (s : Nat → Int32) (n B : Nat) (v a h w : Int32) (W : Nat → Int32) : Prop := (v = 1 ∧ rd_t s n ∧ h = nI (rd_H s) ∧ w = nI (rd_W s) ∧ ∀ c, c < rd_H s * rd_W s → W c = if rd_w s n c = true then 1 else 0) ∨ (v = 0 ∧ ∃ f, rd_f s n f ∧ a = nI (B + f))
theorem rp_ar {H W r q : Nat} (h1 : 1 ≤ W) (h7 : W ≤ 7) (hr : r < H) (hq : q ≤ W) : (3 + r * (W + 1) + q - 3) % (W + 1) = q ∧ (3 + r * (W + 1) + q - 3) / (W + 1) = r ∧ 3 + r * (W + 1) + q < 3 + H * (W + 1) := by
  have : W = 1 ∨ W = 2 ∨ W = 3 ∨ W = 4 ∨ W = 5 ∨ W = 6 ∨ W = 7 := by omega
  rcases this with rfl | rfl | rfl | rfl | rfl | rfl | rfl <;> omega
theorem rp_inj {H W r c e : Nat} (h1 : 1 ≤ W) (h7 : W ≤ 7) (hr : r < H) (hc : c < W) : rd_p W e = 3 + r * (W + 1) + (1 + c) ↔ e = W * r + c := by
  unfold rd_p
  have : W = 1 ∨ W = 2 ∨ W = 3 ∨ W = 4 ∨ W = 5 ∨ W = 6 ∨ W = 7 := by omega
  rcases this with rfl | rfl | rfl | rfl | rfl | rfl | rfl <;> omega
theorem rp_lt {H W r c : Nat} (h6 : H ≤ 6) (h1 : 1 ≤ W) (h7 : W ≤ 7) (hr : r < H) (hc : c < W) : W * r + c < 42 ∧ W * r + c < H * W := by
  have : W = 1 ∨ W = 2 ∨ W = 3 ∨ W = 4 ∨ W = 5 ∨ W = 6 ∨ W = 7 := by omega
  rcases this with rfl | rfl | rfl | rfl | rfl | rfl | rfl <;> omega
section RP2
variable {d : Nat} {x : Nat × (Nat → Int32)} {σ : mm_S} {s : Nat → Int32} {B n : Nat}
theorem m_rp_c {r : Nat} (hB : B + n ≤ 240) (hs : ∀ j, j < n → σ.2.2.1 40 (B + j) = s j) (hH : rd_H s ≤ 6) (hW1 : 1 ≤ rd_W s) (hW : rd_W s ≤ 7) (hr : r < rd_H s)
    (cont : ∀ W, rd_arr s (3 + (r + 1) * (rd_W s + 1)) W → (∀ j, j < 3 + (r + 1) * (rd_W s + 1) → rd_ok s j) → 3 + (r + 1) * (rd_W s + 1) ≤ n → ∃ v a h w W', mm_Runs d 98 (80, [some (.ref 37), some (.int (nI (B + n))), some (.int (nI (r + 1))), none], [], HH x (rx σ (nI (B + (3 + (r + 1) * (rd_W s + 1)))) (nI (rd_H s)) (nI (rd_W s)) W)) (some (.int v), HH x (rx σ a h w W')) ∧ rd_fin s n B v a h w W') :
    ∀ (m c : Nat), c + m = rd_W s → ∀ W, rd_arr s (3 + r * (rd_W s + 1) + (1 + c)) W → (∀ j, j < 3 + r * (rd_W s + 1) + (1 + c) → rd_ok s j) → 3 + r * (rd_W s + 1) + (1 + c) ≤ n → ∃ v a h w W', mm_Runs d 98 (124, [some (.ref 37), some (.int (nI (B + n))), some (.int (nI r)), some (.int (nI c))], [], HH x (rx σ (nI (B + (3 + r * (rd_W s + 1) + (1 + c)))) (nI (rd_H s)) (nI (rd_W s)) W)) (some (.int v), HH x (rx σ a h w W')) ∧ rd_fin s n B v a h w W'
  | 0, c, h, W, hA, ho, hn => by
    have e : c = rd_W s := by omega
    have e2 : 3 + (r + 1) * (rd_W s + 1) = 3 + r * (rd_W s + 1) + (1 + c) := by rw [Nat.succ_mul, e]; omega
    rw [e2] at cont
    obtain ⟨v, a, h', w, W', c1, c2⟩ := cont W hA ho hn
    have hle : nI (rd_W s) ≤ nI c := nI_le (by omega) (by omega)
    refine ⟨v, a, h', w, W', vc_m_rpc (fun _ => ?_) (fun z => absurd hle z) (fun z => absurd hle z) (fun z => absurd hle z) (fun z => absurd hle z) (fun z => absurd hle z) (fun z => absurd hle z) (fun z => absurd hle z) (fun z => absurd hle z) (fun z => absurd hle z) (fun z => absurd hle z), c2⟩
    rw [show nI r + (1 : Int32) = nI (r + 1) from nI_1 r]
    exact c1
  | m + 1, c, h, W, hA, ho, hn => by
    have hlt : ¬ nI (rd_W s) ≤ nI c := nI_ge (by omega) (by omega)
    obtain ⟨a1, a2, a3⟩ := rp_ar (H := rd_H s) (q := 1 + c) hW1 hW hr (by omega)
    have a4 := fun e => rp_inj (e := e) hW1 hW hr (show c < rd_W s by omega)
    obtain ⟨a5, a6⟩ := rp_lt hH hW1 hW hr (show c < rd_W s by omega)
    have ih := m_rp_c hB hs hH hW1 hW hr cont m (c + 1) (by omega)
    rw [show 1 + (c + 1) = 1 + c + 1 by omega, show 3 + r * (rd_W s + 1) + (1 + c + 1) = 3 + r * (rd_W s + 1) + (1 + c) + 1 by omega] at ih
    have k3 : 3 ≤ 3 + r * (rd_W s + 1) + (1 + c) := by omega
    generalize hk : 3 + r * (rd_W s + 1) + (1 + c) = k at *
    have kc : (nI (B + k)).toNatClampNeg = B + k := nI_clamp (by omega)
    have at1 : nI (B + k) + (1 : Int32) = nI (B + (k + 1)) := nI_1 _
    have ok : rd_ok s k ↔ (s k = 46 ∨ s k = 35) := by
      constructor
      · intro z
        rcases z with ⟨y, -⟩ | ⟨y, -⟩ | ⟨y, -⟩ | ⟨-, -, y | y⟩
        · omega
        · omega
        · omega
        · rw [a1] at y; omega
        · exact y.2
      · intro z
        exact Or.inr (Or.inr (Or.inr ⟨k3, a3, Or.inr ⟨by rw [a1]; omega, z⟩⟩))
    have ix : nI (rd_W s) * nI r + nI c = nI (rd_W s * r + c) := by rw [pk_mul, nI_add]
    have gi : ¬ (nI (rd_W s) * nI r + nI c < 0 ∨ 42 ≤ (nI (rd_W s) * nI r + nI c).toNatClampNeg) := by rw [ix]; exact nI_in a5 (by omega)
    have icl : (nI (rd_W s) * nI r + nI c).toNatClampNeg = rd_W s * r + c := by rw [ix]; exact nI_clamp (by omega)
    by_cases hkn : k < n
    · have g : ¬ (nI (B + k) < 0 ∨ 240 ≤ (nI (B + k)).toNatClampNeg) := nI_in (by omega) (by omega)
      have hlt2 : ¬ nI (B + n) ≤ nI (B + k) := nI_ge (by omega) (by omega)
      have cell : ∀ τ : mm_S, τ = rx σ (nI (B + k)) (nI (rd_H s)) (nI (rd_W s)) W → τ.2.2.1 40 (τ.1 3709).toNatClampNeg = s k := by
        rintro τ rfl
        show σ.2.2.1 40 (nI (B + k)).toNatClampNeg = s k
        rw [kc, hs k hkn]
      have cl := cell _ rfl
      have step : ∀ v0 : Int32, rd_ok s k → (v0 = if s k = 46 then 1 else 0) → rd_arr s (k + 1) (upd W (rd_W s * r + c) v0) := by
        intro v0 _ e0 c' h1 h2
        rw [upd_at]
        by_cases hc' : c' = rd_W s * r + c
        · rw [if_pos hc', e0, (a4 c').mpr hc']
        · rw [if_neg hc']
          refine hA c' h1 ?_
          have : ¬ rd_p (rd_W s) c' = k := fun z => hc' ((a4 c').mp z)
          omega
      have oks : rd_ok s k → ∀ j, j < k + 1 → rd_ok s j := by
        intro z j hj
        rcases Nat.lt_or_ge j k with q | q
        · exact ho j q
        · have e : j = k := by omega
          rw [e]; exact z
      by_cases h46 : s k = 46
      · obtain ⟨v, a, h', w, W', c1, c2⟩ := ih (upd W (rd_W s * r + c) 1) (step 1 (ok.mpr (Or.inl h46)) (by rw [if_pos h46])) (oks (ok.mpr (Or.inl h46))) hkn
        refine ⟨v, a, h', w, W', vc_m_rpc (fun z => absurd z hlt) (fun _ z => absurd z hlt2) (fun _ _ => g) (fun _ _ _ => g) (fun _ _ _ => gi) (fun _ _ _ => ?_) (fun _ _ z => absurd (cl.trans h46) z) (fun _ _ z => absurd (cl.trans h46) z) (fun _ _ z => absurd (cl.trans h46) z) (fun _ _ z => absurd (cl.trans h46) z) (fun _ _ z => absurd (cl.trans h46) z), c2⟩
        rw [rx_W]
        show mm_Runs d 98 (124, [some (.ref 37), some (.int (nI (B + n))), some (.int (nI r)), some (.int (nI c + 1))], [], HH x (ui (rx σ (nI (B + k)) (nI (rd_H s)) (nI (rd_W s)) (upd W (nI (rd_W s) * nI r + nI c).toNatClampNeg 1)) 3709 (nI (B + k) + 1))) _
        rw [rx_a, icl, at1, show nI c + (1 : Int32) = nI (c + 1) from nI_1 c]
        exact c1
      · by_cases h35 : s k = 35
        · obtain ⟨v, a, h', w, W', c1, c2⟩ := ih (upd W (rd_W s * r + c) 0) (step 0 (ok.mpr (Or.inr h35)) (by rw [if_neg h46])) (oks (ok.mpr (Or.inr h35))) hkn
          refine ⟨v, a, h', w, W', vc_m_rpc (fun z => absurd z hlt) (fun _ z => absurd z hlt2) (fun _ _ => g) (fun _ _ z => absurd (cl.symm.trans z) h46) (fun _ _ z => absurd (cl.symm.trans z) h46) (fun _ _ z => absurd (cl.symm.trans z) h46) (fun _ _ _ => g) (fun _ _ _ _ => g) (fun _ _ _ _ => gi) (fun _ _ _ _ => ?_) (fun _ _ _ z => absurd (cl.trans h35) z), c2⟩
          rw [rx_W]
          show mm_Runs d 98 (124, [some (.ref 37), some (.int (nI (B + n))), some (.int (nI r)), some (.int (nI c + 1))], [], HH x (ui (rx σ (nI (B + k)) (nI (rd_H s)) (nI (rd_W s)) (upd W (nI (rd_W s) * nI r + nI c).toNatClampNeg 0)) 3709 (nI (B + k) + 1))) _
          rw [rx_a, icl, at1, show nI c + (1 : Int32) = nI (c + 1) from nI_1 c]
          exact c1
        · exact ⟨_, _, _, _, _, vc_m_rpc (fun z => absurd z hlt) (fun _ z => absurd z hlt2) (fun _ _ => g) (fun _ _ z => absurd (cl.symm.trans z) h46) (fun _ _ z => absurd (cl.symm.trans z) h46) (fun _ _ z => absurd (cl.symm.trans z) h46) (fun _ _ _ => g) (fun _ _ _ z => absurd (cl.symm.trans z) h35) (fun _ _ _ z => absurd (cl.symm.trans z) h35) (fun _ _ _ z => absurd (cl.symm.trans z) h35) (fun _ _ _ _ => rfl), Or.inr ⟨rfl, k, ⟨Or.inl ⟨hkn, fun z => (ok.mp z).elim h46 h35⟩, ho⟩, rfl⟩⟩
    · have e : k = n := by omega
      have hle : nI (B + n) ≤ nI (B + k) := nI_le (by omega) (by omega)
      exact ⟨_, _, _, _, _, vc_m_rpc (fun z => absurd z hlt) (fun _ _ => rfl) (fun _ z => absurd hle z) (fun _ z => absurd hle z) (fun _ z => absurd hle z) (fun _ z => absurd hle z) (fun _ z => absurd hle z) (fun _ z => absurd hle z) (fun _ z => absurd hle z) (fun _ z => absurd hle z) (fun _ z => absurd hle z), Or.inr ⟨rfl, n, ⟨Or.inr ⟨rfl, Or.inr (by unfold rd_E; omega)⟩, by rw [← e]; exact ho⟩, by rw [e]⟩⟩
theorem m_rp_r (hB : B + n ≤ 240) (hs : ∀ j, j < n → σ.2.2.1 40 (B + j) = s j) (hH : rd_H s ≤ 6) (hW1 : 1 ≤ rd_W s) (hW : rd_W s ≤ 7) :
    ∀ (m r : Nat), r + m = rd_H s → ∀ W, rd_arr s (3 + r * (rd_W s + 1)) W → (∀ j, j < 3 + r * (rd_W s + 1) → rd_ok s j) → 3 + r * (rd_W s + 1) ≤ n → ∃ v a h w W', mm_Runs d 98 (80, [some (.ref 37), some (.int (nI (B + n))), some (.int (nI r)), none], [], HH x (rx σ (nI (B + (3 + r * (rd_W s + 1)))) (nI (rd_H s)) (nI (rd_W s)) W)) (some (.int v), HH x (rx σ a h w W')) ∧ rd_fin s n B v a h w W'
  | 0, r, h, W, hA, ho, hn => by
    have e : r = rd_H s := by omega
    subst e
    have hle : nI (rd_H s) ≤ nI (rd_H s) := nI_le (Nat.le_refl _) (by omega)
    have hE : 3 + rd_H s * (rd_W s + 1) = rd_E s := rfl
    rw [hE] at hA ho hn
    have at0 : (rx σ (nI (B + rd_E s)) (nI (rd_H s)) (nI (rd_W s)) W).1 3709 = nI (B + rd_E s) := rfl
    by_cases e : rd_E s = n
    · have hv : nI (B + rd_E s) = nI (B + n) := by rw [e]
      refine ⟨_, _, _, _, _, vc_m_rpr (fun _ z => absurd hv z) (fun _ _ => rfl) (fun z => absurd hle z) (fun z => absurd hle z) (fun z => absurd hle z) (fun z => absurd hle z), Or.inl ⟨rfl, ⟨?_, by omega, ?_⟩, rfl, rfl, fun c hc => ?_⟩⟩
      · rw [← e, ← hE]; omega
      · rw [← e]; exact ho
      · have q := (rd_pE hW1 hW hc).2
        rw [hE] at q
        rw [hA c hc q]
        unfold rd_w
        rw [← e]
        simp [hc, q]
    · have hv : ¬ nI (B + rd_E s) = nI (B + n) := fun z => by
        have hE2 : rd_E s ≤ 60 := by
          unfold rd_E
          have := Nat.mul_le_mul hH (show rd_W s + 1 ≤ 8 by omega)
          omega
        have := (nI_eq (by omega) (by omega)).mp z
        omega
      refine ⟨_, _, _, _, _, vc_m_rpr (fun _ _ => rfl) (fun _ z => absurd z hv) (fun z => absurd hle z) (fun z => absurd hle z) (fun z => absurd hle z) (fun z => absurd hle z), Or.inr ⟨rfl, rd_E s, ⟨Or.inl ⟨by omega, fun z => ?_⟩, ho⟩, rfl⟩⟩
      have : 3 ≤ rd_E s := by unfold rd_E; omega
      rcases z with ⟨y, -⟩ | ⟨y, -⟩ | ⟨y, -⟩ | ⟨-, y, -⟩ <;> omega
  | m + 1, r, h, W, hA, ho, hn => by
    have hr : r < rd_H s := by omega
    have hlt : ¬ nI (rd_H s) ≤ nI r := nI_ge hr (by omega)
    obtain ⟨a1, a2, a3⟩ := rp_ar (H := rd_H s) (q := 0) hW1 hW hr (by omega)
    have ih := m_rp_c (d := d) (x := x) hB hs hH hW1 hW hr (fun W hA ho hn => m_rp_r hB hs hH hW1 hW m (r + 1) (by omega) W hA ho hn) (rd_W s) 0 (by omega)
    rw [show 3 + r * (rd_W s + 1) + (1 + 0) = 3 + r * (rd_W s + 1) + 1 by omega] at ih
    rw [Nat.add_zero] at a1 a2 a3
    have k3 : 3 ≤ 3 + r * (rd_W s + 1) := by omega
    have nop : ∀ c, ¬ rd_p (rd_W s) c = 3 + r * (rd_W s + 1) := by
      intro c z
      unfold rd_p at z
      have hm := Nat.mod_lt c (show 0 < rd_W s by omega)
      generalize c / rd_W s = p at *
      generalize c % rd_W s = q at *
      generalize rd_W s = V at *
      have : V = 1 ∨ V = 2 ∨ V = 3 ∨ V = 4 ∨ V = 5 ∨ V = 6 ∨ V = 7 := by omega
      rcases this with rfl | rfl | rfl | rfl | rfl | rfl | rfl <;> omega
    generalize hk : 3 + r * (rd_W s + 1) = k at *
    have kc : (nI (B + k)).toNatClampNeg = B + k := nI_clamp (by omega)
    have at1 : nI (B + k) + (1 : Int32) = nI (B + (k + 1)) := nI_1 _
    have ok : rd_ok s k ↔ s k = 59 := by
      constructor
      · intro z
        rcases z with ⟨y, -⟩ | ⟨y, -⟩ | ⟨y, -⟩ | ⟨-, -, y | y⟩
        · omega
        · omega
        · omega
        · exact y.2
        · exact absurd a1 y.1
      · intro z
        exact Or.inr (Or.inr (Or.inr ⟨k3, a3, Or.inl ⟨a1, z⟩⟩))
    by_cases hkn : k < n
    · have g : ¬ (nI (B + k) < 0 ∨ 240 ≤ (nI (B + k)).toNatClampNeg) := nI_in (by omega) (by omega)
      have hlt2 : ¬ nI (B + n) ≤ nI (B + k) := nI_ge (by omega) (by omega)
      have cell : ∀ τ : mm_S, τ = rx σ (nI (B + k)) (nI (rd_H s)) (nI (rd_W s)) W → τ.2.2.1 40 (τ.1 3709).toNatClampNeg = s k := by
        rintro τ rfl
        show σ.2.2.1 40 (nI (B + k)).toNatClampNeg = s k
        rw [kc, hs k hkn]
      have cl := cell _ rfl
      by_cases h59 : s k = 59
      · obtain ⟨v, a, h', w, W', c1, c2⟩ := ih W (fun c h1 h2 => hA c h1 (by
          have := nop c
          omega)) (by
          intro j hj
          rcases Nat.lt_or_ge j k with q | q
          · exact ho j q
          · have e : j = k := by omega
            rw [e]; exact ok.mpr h59) hkn
        refine ⟨v, a, h', w, W', vc_m_rpr (fun z => absurd z hlt) (fun z => absurd z hlt) (fun _ z => absurd z hlt2) (fun _ _ => g) (fun _ _ _ => ?_) (fun _ _ z => absurd (cl.trans h59) z), c2⟩
        show mm_Runs d 98 (124, [some (.ref 37), some (.int (nI (B + n))), some (.int (nI r)), some (.int 0)], [], HH x (ui (rx σ (nI (B + k)) (nI (rd_H s)) (nI (rd_W s)) W) 3709 (nI (B + k) + 1))) _
        rw [rx_a, at1]
        exact c1
      · exact ⟨_, _, _, _, _, vc_m_rpr (fun z => absurd z hlt) (fun z => absurd z hlt) (fun _ z => absurd z hlt2) (fun _ _ => g) (fun _ _ z => absurd (cl.symm.trans z) h59) (fun _ _ _ => rfl), Or.inr ⟨rfl, k, ⟨Or.inl ⟨hkn, fun z => h59 (ok.mp z)⟩, ho⟩, rfl⟩⟩
    · have e : k = n := by omega
      have hle : nI (B + n) ≤ nI (B + k) := nI_le (by omega) (by omega)
      exact ⟨_, _, _, _, _, vc_m_rpr (fun z => absurd z hlt) (fun z => absurd z hlt) (fun _ _ => rfl) (fun _ z => absurd hle z) (fun _ z => absurd hle z) (fun _ z => absurd hle z), Or.inr ⟨rfl, n, ⟨Or.inr ⟨rfl, Or.inr (by unfold rd_E; omega)⟩, by rw [← e]; exact ho⟩, by rw [e]⟩⟩
theorem rd_n9 {v : Int32} {m : Nat} (hm : m ≤ 60) (h : 49 ≤ v ∧ v ≤ nI m) : ¬ v - 48 = -9 := by
  obtain ⟨u, u1, u2, u3⟩ := rd_d hm h.1 h.2
  rw [u3, show nI u - 48 = nI (u - 48) from pk_sub (a := u) (b := 48) (by omega)]
  exact nI_n9 (by omega)
theorem m_readPond (hd : 2 ≤ d) (hB : B + n ≤ 240) (hs : ∀ j, j < n → σ.2.2.1 40 (B + j) = s j) : ∃ v a h w W, mm_Runs d 98 (0, [some (.ref 37), some (.int (nI (B + n))), none, none], [], HH x (ui σ 3709 (nI B))) (some (.int v), HH x (rx σ a h w W)) ∧ rd_fin s n B v a h w W := by
  rw [rx_0]
  generalize σ.1 3710 = h0
  generalize σ.1 3711 = w0
  generalize σ.2.2.1 43 = W0
  have kc : (nI B).toNatClampNeg = B := nI_clamp (by omega)
  by_cases hn0 : 0 < n
  · have g : ¬ (nI B < 0 ∨ 240 ≤ (nI B).toNatClampNeg) := nI_in (by omega) (by omega)
    have hlt2 : ¬ nI (B + n) ≤ nI B := nI_ge (by omega) (by omega)
    have cell : ∀ τ : mm_S, τ = rx σ (nI B) h0 w0 W0 → τ.2.2.1 40 (τ.1 3709).toNatClampNeg = s 0 := by
      rintro τ rfl
      show σ.2.2.1 40 (nI B).toNatClampNeg = s 0
      rw [kc]
      exact hs 0 hn0
    have cl := cell _ rfl
    have ok0 : rd_ok s 0 ↔ s 0 = 112 := by
      constructor
      · intro z
        rcases z with ⟨-, y⟩ | ⟨y, -⟩ | ⟨y, -⟩ | ⟨y, -⟩
        · exact y
        · omega
        · omega
        · omega
      · exact fun z => Or.inl ⟨rfl, z⟩
    have ok1 : rd_ok s 1 ↔ (49 ≤ s 1 ∧ s 1 ≤ nI (48 + 6)) := by
      constructor
      · intro z
        rcases z with ⟨y, -⟩ | ⟨-, y⟩ | ⟨y, -⟩ | ⟨y, -⟩
        · omega
        · exact y
        · omega
        · omega
      · exact fun z => Or.inr (Or.inl ⟨rfl, z⟩)
    have ok2 : rd_ok s 2 ↔ (49 ≤ s 2 ∧ s 2 ≤ nI (48 + 7)) := by
      constructor
      · intro z
        rcases z with ⟨y, -⟩ | ⟨y, -⟩ | ⟨-, y⟩ | ⟨y, -⟩
        · omega
        · omega
        · exact y
        · omega
      · exact fun z => Or.inr (Or.inr (Or.inl ⟨rfl, z⟩))
    by_cases h112 : s 0 = 112
    · obtain ⟨v1, a1, d1, e1⟩ := m_digit (d := d - 1) (x := x) (k := 1) (mo := 6) (h := h0) (w := w0) (W := W0) (by omega) hB hs hn0
      have d1' : mm_Runs (d - 1) 96 (0, [some (.ref 37), some (.int (nI (B + n))), some (.int (6 : Int32))], [], HH x (ui (rx σ (nI B) h0 w0 W0) 3709 (nI B + 1))) (some (.int v1), HH x (rx σ a1 h0 w0 W0)) := by
        rw [rx_a, show nI B + (1 : Int32) = nI (B + 1) from nI_1 B]
        exact d1
      rcases e1 with ⟨b1, b2, b3, b4⟩ | ⟨b1, b2, b3⟩
      · obtain ⟨v2, a2, d2, e2⟩ := m_digit (d := d - 1) (x := x) (k := 2) (mo := 7) (h := v1) (w := w0) (W := W0) (by omega) hB hs b1
        have d2' : mm_Runs (d - 1) 96 (0, [some (.ref 37), some (.int (nI (B + n))), some (.int (7 : Int32))], [], HH x (ui (rx σ a1 h0 w0 W0) 3710 v1)) (some (.int v2), HH x (rx σ a2 v1 w0 W0)) := by
          rw [rx_h, b4]
          exact d2
        have n1 : ¬ v1 = -9 := by rw [b3]; exact rd_n9 (by omega) b2
        rcases e2 with ⟨f1, f2, f3, f4⟩ | ⟨f1, f2, f3⟩
        · have n2 : ¬ v2 = -9 := by rw [f3]; exact rd_n9 (by omega) f2
          obtain ⟨⟨g1, g2, g3⟩, g4, g5, g6⟩ := rd_hw (ok1.mpr b2) (ok2.mpr f2)
          obtain ⟨v, a, h', w, W', c1, c2⟩ := m_rp_r (d := d) (x := x) hB hs g2 g4 g5 (rd_H s) 0 (by omega) W0 (fun c _ z => by
            unfold rd_p at z
            omega) (by
            intro j hj
            rw [Nat.zero_mul] at hj
            have : j = 0 ∨ j = 1 ∨ j = 2 := by omega
            rcases this with rfl | rfl | rfl
            · exact ok0.mpr h112
            · exact ok1.mpr b2
            · exact ok2.mpr f2) (by omega)
          refine ⟨v, a, h', w, W', vc_m_rp0 (by omega) (fun z => absurd z hlt2) (fun _ => g) (fun _ _ => d1') (fun _ _ _ => d2') (fun _ _ _ _ => ?_) (fun _ _ _ z => absurd z n2) (fun _ _ z => absurd z n1) (fun _ z => absurd (cl.trans h112) z), c2⟩
          rw [rx_w, f3, f4, b3, g3, g6]
          rw [Nat.zero_mul] at c1
          exact c1
        · refine ⟨0, a2, v1, v2, W0, vc_m_rp0 (by omega) (fun z => absurd z hlt2) (fun _ => g) (fun _ _ => d1') (fun _ _ _ => d2') (fun _ _ _ z => absurd f2 z) (fun _ _ _ _ => ?_) (fun _ _ z => absurd z n1) (fun _ z => absurd (cl.trans h112) z), Or.inr ⟨rfl, 2, ⟨?_, ?_⟩, f3⟩⟩
          · rw [rx_w]
          · by_cases q : 2 < n
            · exact Or.inl ⟨q, fun z => f1 ⟨q, ok2.mp z⟩⟩
            · exact Or.inr ⟨by omega, Or.inl (by omega)⟩
          · intro j hj
            have : j = 0 ∨ j = 1 := by omega
            rcases this with rfl | rfl
            · exact ok0.mpr h112
            · exact ok1.mpr b2
      · refine ⟨0, a1, v1, w0, W0, vc_m_rp0 (v2 := 0) (σ2 := σ) (by omega) (fun z => absurd z hlt2) (fun _ => g) (fun _ _ => d1') (fun _ _ z => absurd b2 z) (fun _ _ z => absurd b2 z) (fun _ _ z => absurd b2 z) (fun _ _ _ => ?_) (fun _ z => absurd (cl.trans h112) z), Or.inr ⟨rfl, 1, ⟨?_, ?_⟩, b3⟩⟩
        · rw [rx_h]
        · by_cases q : 1 < n
          · exact Or.inl ⟨q, fun z => b1 ⟨q, ok1.mp z⟩⟩
          · exact Or.inr ⟨by omega, Or.inl (by omega)⟩
        · intro j hj
          have : j = 0 := by omega
          rw [this]; exact ok0.mpr h112
    · exact ⟨_, _, _, _, _, vc_m_rp0 (v1 := 0) (v2 := 0) (σ1 := σ) (σ2 := σ) (by omega) (fun z => absurd z hlt2) (fun _ => g) (fun _ z => absurd (cl.symm.trans z) h112) (fun _ z => absurd (cl.symm.trans z) h112) (fun _ z => absurd (cl.symm.trans z) h112) (fun _ z => absurd (cl.symm.trans z) h112) (fun _ z => absurd (cl.symm.trans z) h112) (fun _ _ => rfl), Or.inr ⟨rfl, 0, ⟨Or.inl ⟨hn0, fun z => h112 (ok0.mp z)⟩, fun j hj => by omega⟩, rfl⟩⟩
  · have hle : nI (B + n) ≤ nI B := nI_le (by omega) (by omega)
    exact ⟨_, _, _, _, _, vc_m_rp0 (v1 := 0) (v2 := 0) (σ1 := σ) (σ2 := σ) (by omega) (fun _ => rfl) (fun z => absurd hle z) (fun z => absurd hle z) (fun z => absurd hle z) (fun z => absurd hle z) (fun z => absurd hle z) (fun z => absurd hle z) (fun z => absurd hle z), Or.inr ⟨rfl, 0, ⟨Or.inr ⟨by omega, Or.inl (by omega)⟩, fun j hj => by omega⟩, rfl⟩⟩
end RP2

