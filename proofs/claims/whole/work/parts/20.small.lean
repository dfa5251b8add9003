theorem mm_inb {i m : Int32} {n : Nat} (h0 : ¬ i < 0) (h1 : i < m) (h2 : m.toInt ≤ n) : ¬ (i < 0 ∨ n ≤ i.toNatClampNeg) := by
  rintro (h | h)
  · exact h0 h
  · rw [Int32.lt_iff_toInt_lt] at h1 h0
    have e : i.toNatClampNeg = i.toInt.toNat := rfl
    have e0 : (0 : Int32).toInt = 0 := rfl
    omega
theorem mm_in4 {i : Int32} (h : ¬ (i < 0 ∨ 4 ≤ i.toNatClampNeg)) : i = 0 ∨ i = 1 ∨ i = 2 ∨ i = 3 := by
  obtain ⟨j, hj, rfl⟩ := vp_in_of (x := i) (n := 4) h (by decide)
  match j, hj with
  | 0, _ => exact Or.inl rfl
  | 1, _ => exact Or.inr (Or.inl rfl)
  | 2, _ => exact Or.inr (Or.inr (Or.inl rfl))
  | 3, _ => exact Or.inr (Or.inr (Or.inr rfl))
  | k + 4, hk => exact absurd hk (by omega)
theorem mm_tsA {d y pc : Nat} {L : mm_L} {S : List Value} {h : mm_H} {r : Option Value × mm_H} {i c : Int32} {q : Nat} {F' : mm_F} (e : i = c) (hs : mm_s1 y (pc, L, .int c :: .ref q :: S, h) = some F') (k : mm_Runs d y F' r) : mm_Runs d y (pc, L, .int i :: .ref q :: S, h) r := by
  subst e
  exact mm_go1 hs k
theorem mm_sn0_2 {i : Int32} (h : i.toInt < 0 ∨ 2 < i.toInt) : ¬ i = 0 ∧ ¬ i = 1 ∧ ¬ i = 2 := by
  refine ⟨?_, ?_, ?_⟩ <;> (intro e; subst e; revert h; decide)
theorem mm_sn0_3 {i : Int32} (h : i.toInt < 0 ∨ 3 < i.toInt) : ¬ i = 0 ∧ ¬ i = 1 ∧ ¬ i = 2 ∧ ¬ i = 3 := by
  refine ⟨?_, ?_, ?_, ?_⟩ <;> (intro e; subst e; revert h; decide)
theorem mm_sn0_4 {i : Int32} (h : i.toInt < 0 ∨ 4 < i.toInt) : ¬ i = 0 ∧ ¬ i = 1 ∧ ¬ i = 2 ∧ ¬ i = 3 ∧ ¬ i = 4 := by
  refine ⟨?_, ?_, ?_, ?_, ?_⟩ <;> (intro e; subst e; revert h; decide)
theorem mm_sn1_2 {i : Int32} (h : i.toInt < 1 ∨ 2 < i.toInt) : ¬ i = 1 ∧ ¬ i = 2 := by
  refine ⟨?_, ?_⟩ <;> (intro e; subst e; revert h; decide)
theorem mm_sw0_2 (i : Int32) : i = 0 ∨ i = 1 ∨ i = 2 ∨ (i.toInt < 0 ∨ 2 < i.toInt) := by
  by_cases h : i.toInt < 0 ∨ 2 < i.toInt
  · exact Or.inr (Or.inr (Or.inr (h)))
  · have key : ∀ c : Int32, i.toInt = c.toInt → i = c := fun c e => Int32.toInt_inj.mp e
    have h2 : i.toInt = 0 ∨ i.toInt = 1 ∨ i.toInt = 2 := by omega
    rcases h2 with h2 | h2 | h2
    · exact Or.inl (key 0 h2)
    · exact Or.inr (Or.inl (key 1 h2))
    · exact Or.inr (Or.inr (Or.inl (key 2 h2)))
theorem mm_sw0_3 (i : Int32) : i = 0 ∨ i = 1 ∨ i = 2 ∨ i = 3 ∨ (i.toInt < 0 ∨ 3 < i.toInt) := by
  by_cases h : i.toInt < 0 ∨ 3 < i.toInt
  · exact Or.inr (Or.inr (Or.inr (Or.inr (h))))
  · have key : ∀ c : Int32, i.toInt = c.toInt → i = c := fun c e => Int32.toInt_inj.mp e
    have h2 : i.toInt = 0 ∨ i.toInt = 1 ∨ i.toInt = 2 ∨ i.toInt = 3 := by omega
    rcases h2 with h2 | h2 | h2 | h2
    · exact Or.inl (key 0 h2)
    · exact Or.inr (Or.inl (key 1 h2))
    · exact Or.inr (Or.inr (Or.inl (key 2 h2)))
    · exact Or.inr (Or.inr (Or.inr (Or.inl (key 3 h2))))
theorem mm_sw0_4 (i : Int32) : i = 0 ∨ i = 1 ∨ i = 2 ∨ i = 3 ∨ i = 4 ∨ (i.toInt < 0 ∨ 4 < i.toInt) := by
  by_cases h : i.toInt < 0 ∨ 4 < i.toInt
  · exact Or.inr (Or.inr (Or.inr (Or.inr (Or.inr (h)))))
  · have key : ∀ c : Int32, i.toInt = c.toInt → i = c := fun c e => Int32.toInt_inj.mp e
    have h2 : i.toInt = 0 ∨ i.toInt = 1 ∨ i.toInt = 2 ∨ i.toInt = 3 ∨ i.toInt = 4 := by omega
    rcases h2 with h2 | h2 | h2 | h2 | h2
    · exact Or.inl (key 0 h2)
    · exact Or.inr (Or.inl (key 1 h2))
    · exact Or.inr (Or.inr (Or.inl (key 2 h2)))
    · exact Or.inr (Or.inr (Or.inr (Or.inl (key 3 h2))))
    · exact Or.inr (Or.inr (Or.inr (Or.inr (Or.inl (key 4 h2)))))
theorem mm_sw1_2 (i : Int32) : i = 1 ∨ i = 2 ∨ (i.toInt < 1 ∨ 2 < i.toInt) := by
  by_cases h : i.toInt < 1 ∨ 2 < i.toInt
  · exact Or.inr (Or.inr (h))
  · have key : ∀ c : Int32, i.toInt = c.toInt → i = c := fun c e => Int32.toInt_inj.mp e
    have h2 : i.toInt = 1 ∨ i.toInt = 2 := by omega
    rcases h2 with h2 | h2
    · exact Or.inl (key 1 h2)
    · exact Or.inr (Or.inl (key 2 h2))
theorem vc_has_16 {d : Nat} {x : Nat × (Nat → Int32)} {σ : mm_S} {k : Int32} {r : Option Value × mm_H} (k1 : k < 0 → (some (.int (0 : Int32)), HH x σ) = r) (k2 : ¬ k < 0 → (σ.1 1603) ≤ k → (some (.int (0 : Int32)), HH x σ) = r) (k3 : ¬ k < 0 → ¬ (σ.1 1603) ≤ k → (some (.int (1 : Int32)), HH x σ) = r) : mm_Runs d 0 (0, [some (.ref 16), some (.int k)], [], HH x σ) r := by
  refine mm_go 2 (F' := (bif mm_cond .lt k 0 then 16 else 4, [some (.ref 16), some (.int k)], [], HH x σ)) rfl ?_
  refine mb_lt (fun h1 => ?_) (fun h1 => ?_)
  · refine mm_go 1 (F' := (17, [some (.ref 16), some (.int k)], [.int (0 : Int32)], HH x σ)) rfl ?_
    exact mm_rtz rfl rfl (Or.inl rfl) (k1 h1)
  · refine mm_go 4 (F' := (bif mm_cond .ge k (σ.1 1603) then 16 else 12, [some (.ref 16), some (.int k)], [], HH x σ)) rfl ?_
    refine mb_ge (fun h2 => ?_) (fun h2 => ?_)
    · refine mm_go 1 (F' := (17, [some (.ref 16), some (.int k)], [.int (0 : Int32)], HH x σ)) rfl ?_
      exact mm_rtz rfl rfl (Or.inl rfl) (k2 h1 h2)
    · refine mm_go 2 (F' := (17, [some (.ref 16), some (.int k)], [.int (1 : Int32)], HH x σ)) rfl ?_
      exact mm_rtz rfl rfl (Or.inr rfl) (k3 h1 h2)
abbrev p_has_16 (σ : mm_S) (k : Int32) : Prop := (¬ (k < 0) ∧ ¬ ((σ.1 1603) ≤ k))
theorem r_has_16 {d : Nat} {x : Nat × (Nat → Int32)} {σ : mm_S} {k : Int32} (hd : 0 ≤ d) : mm_Runs d 0 (0, [some (.ref 16), some (.int k)], [], HH x σ) (some (.int (mm_b (p_has_16 σ k))), HH x σ) := by
  refine vc_has_16 (fun h1 => by first | rfl | (simp [p_has_16, mm_b, h1]; done) | (simp_all [p_has_16, mm_b]; done) | grind [p_has_16, mm_b]) (fun h1 h2 => by first | rfl | (simp [p_has_16, mm_b, h1, h2]; done) | (simp_all [p_has_16, mm_b]; done) | grind [p_has_16, mm_b]) (fun h1 h2 => by first | rfl | (simp [p_has_16, mm_b, h1, h2]; done) | (simp_all [p_has_16, mm_b]; done) | grind [p_has_16, mm_b])
theorem vc_reach_16 {d : Nat} {x : Nat × (Nat → Int32)} {σ : mm_S} {k : Int32} {r : Option Value × mm_H} (k1 : ¬ (k < 0 ∨ 8 ≤ k.toNatClampNeg)) (k2 : ¬ (((σ.2.2.1 17) k.toNatClampNeg) < 0 ∨ 3 ≤ ((σ.2.2.1 17) k.toNatClampNeg).toNatClampNeg)) (k3 : (some (.int (mm_reach ((σ.2.2.1 17) k.toNatClampNeg).toNatClampNeg)), HH x σ) = r) : mm_Runs d 1 (0, [some (.ref 16), some (.int k)], [], HH x σ) r := by
  refine mm_go 4 (F' := (8, [some (.ref 16), some (.int k)], [.int k, .ref 17, .ref 0], HH x σ)) rfl ?_
  refine mm_gd (F' := (9, [some (.ref 16), some (.int k)], [.int ((σ.2.2.1 17) k.toNatClampNeg), .ref 0], HH x σ)) rfl k1 ?_
  refine mm_gd (F' := (10, [some (.ref 16), some (.int k)], [.int (mm_reach ((σ.2.2.1 17) k.toNatClampNeg).toNatClampNeg)], HH x σ)) rfl k2 ?_
  exact mm_rt rfl rfl k3
def f_reach_16 (σ : mm_S) (k : Int32) : Int32 := (mm_reach ((σ.2.2.1 17) k.toNatClampNeg).toNatClampNeg)
theorem r_reach_16 {d : Nat} {x : Nat × (Nat → Int32)} {σ : mm_S} {k : Int32} (hd : 0 ≤ d) (p0 : ¬ (k < 0 ∨ 8 ≤ k.toNatClampNeg)) (p1 : ¬ (((σ.2.2.1 17) k.toNatClampNeg) < 0 ∨ 3 ≤ ((σ.2.2.1 17) k.toNatClampNeg).toNatClampNeg)) : mm_Runs d 1 (0, [some (.ref 16), some (.int k)], [], HH x σ) (some (.int (f_reach_16 σ k)), HH x σ) := by
  refine vc_reach_16 p0 p1 (by first | rfl | (simp [f_reach_16]; done) | (simp_all [f_reach_16]; done) | grind [f_reach_16])
theorem vc_add_16 {d : Nat} {x : Nat × (Nat → Int32)} {σ : mm_S} {a : Int32} {b : Int32} {c : Int32} {r : Option Value × mm_H} (k1 : (σ.1 1603) < (Int32.ofNat 8) → ¬ ((σ.1 1603) < 0 ∨ 8 ≤ (σ.1 1603).toNatClampNeg)) (k2 : (σ.1 1603) < (Int32.ofNat 8) → ¬ ((σ.1 1603) < 0 ∨ 8 ≤ (σ.1 1603).toNatClampNeg)) (k3 : (σ.1 1603) < (Int32.ofNat 8) → ¬ ((σ.1 1603) < 0 ∨ 8 ≤ (σ.1 1603).toNatClampNeg)) (k4 : (σ.1 1603) < (Int32.ofNat 8) → (some (.int (((σ.1 1603) + (1 : Int32)) - (1 : Int32))), HH x (ui (ua (ua (ua σ 17 (upd (σ.2.2.1 17) (σ.1 1603).toNatClampNeg a)) 18 (upd (σ.2.2.1 18) (σ.1 1603).toNatClampNeg b)) 19 (upd (σ.2.2.1 19) (σ.1 1603).toNatClampNeg c)) 1603 ((σ.1 1603) + (1 : Int32)))) = r) (k5 : ¬ (σ.1 1603) < (Int32.ofNat 8) → (some (.int (-4 : Int32)), HH x σ) = r) : mm_Runs d 2 (0, [some (.ref 16), some (.int a), some (.int b), some (.int c)], [], HH x σ) r := by
  refine mm_go 6 (F' := (bif mm_cond .lt (σ.1 1603) (Int32.ofNat 8) then 15 else 12, [some (.ref 16), some (.int a), some (.int b), some (.int c)], [], HH x σ)) rfl ?_
  refine mb_lt (fun h1 => ?_) (fun h1 => ?_)
  · refine mm_go 5 (F' := (24, [some (.ref 16), some (.int a), some (.int b), some (.int c)], [.int a, .int (σ.1 1603), .ref 17], HH x σ)) rfl ?_
    refine mm_gd (F' := (25, [some (.ref 16), some (.int a), some (.int b), some (.int c)], [], HH x (ua σ 17 (upd (σ.2.2.1 17) (σ.1 1603).toNatClampNeg a)))) rfl (k1 h1) ?_
    refine mm_go 5 (F' := (34, [some (.ref 16), some (.int a), some (.int b), some (.int c)], [.int b, .int (σ.1 1603), .ref 18], HH x (ua σ 17 (upd (σ.2.2.1 17) (σ.1 1603).toNatClampNeg a)))) rfl ?_
    refine mm_gd (F' := (35, [some (.ref 16), some (.int a), some (.int b), some (.int c)], [], HH x (ua (ua σ 17 (upd (σ.2.2.1 17) (σ.1 1603).toNatClampNeg a)) 18 (upd (σ.2.2.1 18) (σ.1 1603).toNatClampNeg b)))) rfl (k2 h1) ?_
    refine mm_go 5 (F' := (44, [some (.ref 16), some (.int a), some (.int b), some (.int c)], [.int c, .int (σ.1 1603), .ref 19], HH x (ua (ua σ 17 (upd (σ.2.2.1 17) (σ.1 1603).toNatClampNeg a)) 18 (upd (σ.2.2.1 18) (σ.1 1603).toNatClampNeg b)))) rfl ?_
    refine mm_gd (F' := (45, [some (.ref 16), some (.int a), some (.int b), some (.int c)], [], HH x (ua (ua (ua σ 17 (upd (σ.2.2.1 17) (σ.1 1603).toNatClampNeg a)) 18 (upd (σ.2.2.1 18) (σ.1 1603).toNatClampNeg b)) 19 (upd (σ.2.2.1 19) (σ.1 1603).toNatClampNeg c)))) rfl (k3 h1) ?_
    refine mm_go 5 (F' := (52, [some (.ref 16), some (.int a), some (.int b), some (.int c)], [.int ((σ.1 1603) + (1 : Int32)), .ref 16], HH x (ua (ua (ua σ 17 (upd (σ.2.2.1 17) (σ.1 1603).toNatClampNeg a)) 18 (upd (σ.2.2.1 18) (σ.1 1603).toNatClampNeg b)) 19 (upd (σ.2.2.1 19) (σ.1 1603).toNatClampNeg c)))) rfl ?_
    refine mm_go 1 (F' := (55, [some (.ref 16), some (.int a), some (.int b), some (.int c)], [], HH x (ui (ua (ua (ua σ 17 (upd (σ.2.2.1 17) (σ.1 1603).toNatClampNeg a)) 18 (upd (σ.2.2.1 18) (σ.1 1603).toNatClampNeg b)) 19 (upd (σ.2.2.1 19) (σ.1 1603).toNatClampNeg c)) 1603 ((σ.1 1603) + (1 : Int32))))) rfl ?_
    refine mm_go 4 (F' := (61, [some (.ref 16), some (.int a), some (.int b), some (.int c)], [.int (((σ.1 1603) + (1 : Int32)) - (1 : Int32))], HH x (ui (ua (ua (ua σ 17 (upd (σ.2.2.1 17) (σ.1 1603).toNatClampNeg a)) 18 (upd (σ.2.2.1 18) (σ.1 1603).toNatClampNeg b)) 19 (upd (σ.2.2.1 19) (σ.1 1603).toNatClampNeg c)) 1603 ((σ.1 1603) + (1 : Int32))))) rfl ?_
    exact mm_rt rfl rfl (k4 h1)
  · refine mm_go 1 (F' := (14, [some (.ref 16), some (.int a), some (.int b), some (.int c)], [.int (-4 : Int32)], HH x σ)) rfl ?_
    exact mm_rt rfl rfl (k5 h1)
def f_add_16 (σ : mm_S) (a : Int32) (b : Int32) (c : Int32) : Int32 := (if (σ.1 1603) < (Int32.ofNat 8) then (((σ.1 1603) + (1 : Int32)) - (1 : Int32)) else (-4 : Int32))
def g_add_16 (σ : mm_S) (a : Int32) (b : Int32) (c : Int32) : mm_S := (if (σ.1 1603) < (Int32.ofNat 8) then (ui (ua (ua (ua σ 17 (upd (σ.2.2.1 17) (σ.1 1603).toNatClampNeg a)) 18 (upd (σ.2.2.1 18) (σ.1 1603).toNatClampNeg b)) 19 (upd (σ.2.2.1 19) (σ.1 1603).toNatClampNeg c)) 1603 ((σ.1 1603) + (1 : Int32))) else σ)
theorem r_add_16 {d : Nat} {x : Nat × (Nat → Int32)} {σ : mm_S} {a : Int32} {b : Int32} {c : Int32} (hd : 0 ≤ d) (p0 : (σ.1 1603) < (Int32.ofNat 8) → ¬ ((σ.1 1603) < 0 ∨ 8 ≤ (σ.1 1603).toNatClampNeg)) (p1 : (σ.1 1603) < (Int32.ofNat 8) → ¬ ((σ.1 1603) < 0 ∨ 8 ≤ (σ.1 1603).toNatClampNeg)) (p2 : (σ.1 1603) < (Int32.ofNat 8) → ¬ ((σ.1 1603) < 0 ∨ 8 ≤ (σ.1 1603).toNatClampNeg)) : mm_Runs d 2 (0, [some (.ref 16), some (.int a), some (.int b), some (.int c)], [], HH x σ) (some (.int (f_add_16 σ a b c)), HH x (g_add_16 σ a b c)) := by
  refine vc_add_16 p0 p1 p2 (fun h1 => by first | rfl | (simp [f_add_16, g_add_16, h1]; done) | (simp_all [f_add_16, g_add_16]; done) | grind [f_add_16, g_add_16]) (fun h1 => by first | rfl | (simp [f_add_16, g_add_16, h1]; done) | (simp_all [f_add_16, g_add_16]; done) | grind [f_add_16, g_add_16])
theorem vc_takeBack_16 {d : Nat} {x : Nat × (Nat → Int32)} {σ : mm_S} {k : Int32} {r : Option Value × mm_H} (k1 : k < 0 → (some (.int (-2 : Int32)), HH x σ) = r) (k2 : ¬ k < 0 → k ≤ (σ.1 1603) → (some (.int ((σ.1 1603) - k)), HH x (ui σ 1603 ((σ.1 1603) - k))) = r) (k3 : ¬ k < 0 → ¬ k ≤ (σ.1 1603) → (some (.int (-2 : Int32)), HH x σ) = r) : mm_Runs d 3 (0, [some (.ref 16), some (.int k)], [], HH x σ) r := by
  refine mm_go 2 (F' := (bif mm_cond .lt k 0 then 12 else 4, [some (.ref 16), some (.int k)], [], HH x σ)) rfl ?_
  refine mb_lt (fun h1 => ?_) (fun h1 => ?_)
  · refine mm_go 1 (F' := (14, [some (.ref 16), some (.int k)], [.int (-2 : Int32)], HH x σ)) rfl ?_
    exact mm_rt rfl rfl (k1 h1)
  · refine mm_go 4 (F' := (bif mm_cond .le k (σ.1 1603) then 15 else 12, [some (.ref 16), some (.int k)], [], HH x σ)) rfl ?_
    refine mb_le (fun h2 => ?_) (fun h2 => ?_)
    · refine mm_go 5 (F' := (22, [some (.ref 16), some (.int k)], [.int ((σ.1 1603) - k), .ref 16], HH x σ)) rfl ?_
      refine mm_go 1 (F' := (25, [some (.ref 16), some (.int k)], [], HH x (ui σ 1603 ((σ.1 1603) - k)))) rfl ?_
      refine mm_go 2 (F' := (29, [some (.ref 16), some (.int k)], [.int ((σ.1 1603) - k)], HH x (ui σ 1603 ((σ.1 1603) - k)))) rfl ?_
      exact mm_rt rfl rfl (k2 h1 h2)
    · refine mm_go 1 (F' := (14, [some (.ref 16), some (.int k)], [.int (-2 : Int32)], HH x σ)) rfl ?_
      exact mm_rt rfl rfl (k3 h1 h2)
def f_takeBack_16 (σ : mm_S) (k : Int32) : Int32 := (if k < 0 then (-2 : Int32) else (if k ≤ (σ.1 1603) then ((σ.1 1603) - k) else (-2 : Int32)))
def g_takeBack_16 (σ : mm_S) (k : Int32) : mm_S := (if k < 0 then σ else (if k ≤ (σ.1 1603) then (ui σ 1603 ((σ.1 1603) - k)) else σ))
theorem r_takeBack_16 {d : Nat} {x : Nat × (Nat → Int32)} {σ : mm_S} {k : Int32} (hd : 0 ≤ d) : mm_Runs d 3 (0, [some (.ref 16), some (.int k)], [], HH x σ) (some (.int (f_takeBack_16 σ k)), HH x (g_takeBack_16 σ k)) := by
  refine vc_takeBack_16 (fun h1 => by first | rfl | (simp [f_takeBack_16, g_takeBack_16, h1]; done) | (simp_all [f_takeBack_16, g_takeBack_16]; done) | grind [f_takeBack_16, g_takeBack_16]) (fun h1 h2 => by first | rfl | (simp [f_takeBack_16, g_takeBack_16, h1, h2]; done) | (simp_all [f_takeBack_16, g_takeBack_16]; done) | grind [f_takeBack_16, g_takeBack_16]) (fun h1 h2 => by first | rfl | (simp [f_takeBack_16, g_takeBack_16, h1, h2]; done) | (simp_all [f_takeBack_16, g_takeBack_16]; done) | grind [f_takeBack_16, g_takeBack_16])
theorem vc_has_20 {d : Nat} {x : Nat × (Nat → Int32)} {σ : mm_S} {k : Int32} {r : Option Value × mm_H} (k1 : k < 0 → (some (.int (0 : Int32)), HH x σ) = r) (k2 : ¬ k < 0 → (σ.1 2003) ≤ k → (some (.int (0 : Int32)), HH x σ) = r) (k3 : ¬ k < 0 → ¬ (σ.1 2003) ≤ k → (some (.int (1 : Int32)), HH x σ) = r) : mm_Runs d 0 (0, [some (.ref 20), some (.int k)], [], HH x σ) r := by
  refine mm_go 2 (F' := (bif mm_cond .lt k 0 then 16 else 4, [some (.ref 20), some (.int k)], [], HH x σ)) rfl ?_
  refine mb_lt (fun h1 => ?_) (fun h1 => ?_)
  · refine mm_go 1 (F' := (17, [some (.ref 20), some (.int k)], [.int (0 : Int32)], HH x σ)) rfl ?_
    exact mm_rtz rfl rfl (Or.inl rfl) (k1 h1)
  · refine mm_go 4 (F' := (bif mm_cond .ge k (σ.1 2003) then 16 else 12, [some (.ref 20), some (.int k)], [], HH x σ)) rfl ?_
    refine mb_ge (fun h2 => ?_) (fun h2 => ?_)
    · refine mm_go 1 (F' := (17, [some (.ref 20), some (.int k)], [.int (0 : Int32)], HH x σ)) rfl ?_
      exact mm_rtz rfl rfl (Or.inl rfl) (k2 h1 h2)
    · refine mm_go 2 (F' := (17, [some (.ref 20), some (.int k)], [.int (1 : Int32)], HH x σ)) rfl ?_
      exact mm_rtz rfl rfl (Or.inr rfl) (k3 h1 h2)
abbrev p_has_20 (σ : mm_S) (k : Int32) : Prop := (¬ (k < 0) ∧ ¬ ((σ.1 2003) ≤ k))
theorem r_has_20 {d : Nat} {x : Nat × (Nat → Int32)} {σ : mm_S} {k : Int32} (hd : 0 ≤ d) : mm_Runs d 0 (0, [some (.ref 20), some (.int k)], [], HH x σ) (some (.int (mm_b (p_has_20 σ k))), HH x σ) := by
  refine vc_has_20 (fun h1 => by first | rfl | (simp [p_has_20, mm_b, h1]; done) | (simp_all [p_has_20, mm_b]; done) | grind [p_has_20, mm_b]) (fun h1 h2 => by first | rfl | (simp [p_has_20, mm_b, h1, h2]; done) | (simp_all [p_has_20, mm_b]; done) | grind [p_has_20, mm_b]) (fun h1 h2 => by first | rfl | (simp [p_has_20, mm_b, h1, h2]; done) | (simp_all [p_has_20, mm_b]; done) | grind [p_has_20, mm_b])
theorem vc_reach_20 {d : Nat} {x : Nat × (Nat → Int32)} {σ : mm_S} {k : Int32} {r : Option Value × mm_H} (k1 : ¬ (k < 0 ∨ 6 ≤ k.toNatClampNeg)) (k2 : ¬ (((σ.2.2.1 21) k.toNatClampNeg) < 0 ∨ 3 ≤ ((σ.2.2.1 21) k.toNatClampNeg).toNatClampNeg)) (k3 : (some (.int (mm_reach ((σ.2.2.1 21) k.toNatClampNeg).toNatClampNeg)), HH x σ) = r) : mm_Runs d 1 (0, [some (.ref 20), some (.int k)], [], HH x σ) r := by
  refine mm_go 4 (F' := (8, [some (.ref 20), some (.int k)], [.int k, .ref 21, .ref 0], HH x σ)) rfl ?_
  refine mm_gd (F' := (9, [some (.ref 20), some (.int k)], [.int ((σ.2.2.1 21) k.toNatClampNeg), .ref 0], HH x σ)) rfl k1 ?_
  refine mm_gd (F' := (10, [some (.ref 20), some (.int k)], [.int (mm_reach ((σ.2.2.1 21) k.toNatClampNeg).toNatClampNeg)], HH x σ)) rfl k2 ?_
  exact mm_rt rfl rfl k3
def f_reach_20 (σ : mm_S) (k : Int32) : Int32 := (mm_reach ((σ.2.2.1 21) k.toNatClampNeg).toNatClampNeg)
theorem r_reach_20 {d : Nat} {x : Nat × (Nat → Int32)} {σ : mm_S} {k : Int32} (hd : 0 ≤ d) (p0 : ¬ (k < 0 ∨ 6 ≤ k.toNatClampNeg)) (p1 : ¬ (((σ.2.2.1 21) k.toNatClampNeg) < 0 ∨ 3 ≤ ((σ.2.2.1 21) k.toNatClampNeg).toNatClampNeg)) : mm_Runs d 1 (0, [some (.ref 20), some (.int k)], [], HH x σ) (some (.int (f_reach_20 σ k)), HH x σ) := by
  refine vc_reach_20 p0 p1 (by first | rfl | (simp [f_reach_20]; done) | (simp_all [f_reach_20]; done) | grind [f_reach_20])
theorem vc_add_20 {d : Nat} {x : Nat × (Nat → Int32)} {σ : mm_S} {a : Int32} {b : Int32} {c : Int32} {r : Option Value × mm_H} (k1 : (σ.1 2003) < (Int32.ofNat 6) → ¬ ((σ.1 2003) < 0 ∨ 6 ≤ (σ.1 2003).toNatClampNeg)) (k2 : (σ.1 2003) < (Int32.ofNat 6) → ¬ ((σ.1 2003) < 0 ∨ 6 ≤ (σ.1 2003).toNatClampNeg)) (k3 : (σ.1 2003) < (Int32.ofNat 6) → ¬ ((σ.1 2003) < 0 ∨ 6 ≤ (σ.1 2003).toNatClampNeg)) (k4 : (σ.1 2003) < (Int32.ofNat 6) → (some (.int (((σ.1 2003) + (1 : Int32)) - (1 : Int32))), HH x (ui (ua (ua (ua σ 21 (upd (σ.2.2.1 21) (σ.1 2003).toNatClampNeg a)) 22 (upd (σ.2.2.1 22) (σ.1 2003).toNatClampNeg b)) 23 (upd (σ.2.2.1 23) (σ.1 2003).toNatClampNeg c)) 2003 ((σ.1 2003) + (1 : Int32)))) = r) (k5 : ¬ (σ.1 2003) < (Int32.ofNat 6) → (some (.int (-4 : Int32)), HH x σ) = r) : mm_Runs d 2 (0, [some (.ref 20), some (.int a), some (.int b), some (.int c)], [], HH x σ) r := by
  refine mm_go 6 (F' := (bif mm_cond .lt (σ.1 2003) (Int32.ofNat 6) then 15 else 12, [some (.ref 20), some (.int a), some (.int b), some (.int c)], [], HH x σ)) rfl ?_
  refine mb_lt (fun h1 => ?_) (fun h1 => ?_)
  · refine mm_go 5 (F' := (24, [some (.ref 20), some (.int a), some (.int b), some (.int c)], [.int a, .int (σ.1 2003), .ref 21], HH x σ)) rfl ?_
    refine mm_gd (F' := (25, [some (.ref 20), some (.int a), some (.int b), some (.int c)], [], HH x (ua σ 21 (upd (σ.2.2.1 21) (σ.1 2003).toNatClampNeg a)))) rfl (k1 h1) ?_
    refine mm_go 5 (F' := (34, [some (.ref 20), some (.int a), some (.int b), some (.int c)], [.int b, .int (σ.1 2003), .ref 22], HH x (ua σ 21 (upd (σ.2.2.1 21) (σ.1 2003).toNatClampNeg a)))) rfl ?_
    refine mm_gd (F' := (35, [some (.ref 20), some (.int a), some (.int b), some (.int c)], [], HH x (ua (ua σ 21 (upd (σ.2.2.1 21) (σ.1 2003).toNatClampNeg a)) 22 (upd (σ.2.2.1 22) (σ.1 2003).toNatClampNeg b)))) rfl (k2 h1) ?_
    refine mm_go 5 (F' := (44, [some (.ref 20), some (.int a), some (.int b), some (.int c)], [.int c, .int (σ.1 2003), .ref 23], HH x (ua (ua σ 21 (upd (σ.2.2.1 21) (σ.1 2003).toNatClampNeg a)) 22 (upd (σ.2.2.1 22) (σ.1 2003).toNatClampNeg b)))) rfl ?_
    refine mm_gd (F' := (45, [some (.ref 20), some (.int a), some (.int b), some (.int c)], [], HH x (ua (ua (ua σ 21 (upd (σ.2.2.1 21) (σ.1 2003).toNatClampNeg a)) 22 (upd (σ.2.2.1 22) (σ.1 2003).toNatClampNeg b)) 23 (upd (σ.2.2.1 23) (σ.1 2003).toNatClampNeg c)))) rfl (k3 h1) ?_
    refine mm_go 5 (F' := (52, [some (.ref 20), some (.int a), some (.int b), some (.int c)], [.int ((σ.1 2003) + (1 : Int32)), .ref 20], HH x (ua (ua (ua σ 21 (upd (σ.2.2.1 21) (σ.1 2003).toNatClampNeg a)) 22 (upd (σ.2.2.1 22) (σ.1 2003).toNatClampNeg b)) 23 (upd (σ.2.2.1 23) (σ.1 2003).toNatClampNeg c)))) rfl ?_
    refine mm_go 1 (F' := (55, [some (.ref 20), some (.int a), some (.int b), some (.int c)], [], HH x (ui (ua (ua (ua σ 21 (upd (σ.2.2.1 21) (σ.1 2003).toNatClampNeg a)) 22 (upd (σ.2.2.1 22) (σ.1 2003).toNatClampNeg b)) 23 (upd (σ.2.2.1 23) (σ.1 2003).toNatClampNeg c)) 2003 ((σ.1 2003) + (1 : Int32))))) rfl ?_
    refine mm_go 4 (F' := (61, [some (.ref 20), some (.int a), some (.int b), some (.int c)], [.int (((σ.1 2003) + (1 : Int32)) - (1 : Int32))], HH x (ui (ua (ua (ua σ 21 (upd (σ.2.2.1 21) (σ.1 2003).toNatClampNeg a)) 22 (upd (σ.2.2.1 22) (σ.1 2003).toNatClampNeg b)) 23 (upd (σ.2.2.1 23) (σ.1 2003).toNatClampNeg c)) 2003 ((σ.1 2003) + (1 : Int32))))) rfl ?_
    exact mm_rt rfl rfl (k4 h1)
  · refine mm_go 1 (F' := (14, [some (.ref 20), some (.int a), some (.int b), some (.int c)], [.int (-4 : Int32)], HH x σ)) rfl ?_
    exact mm_rt rfl rfl (k5 h1)
def f_add_20 (σ : mm_S) (a : Int32) (b : Int32) (c : Int32) : Int32 := (if (σ.1 2003) < (Int32.ofNat 6) then (((σ.1 2003) + (1 : Int32)) - (1 : Int32)) else (-4 : Int32))
def g_add_20 (σ : mm_S) (a : Int32) (b : Int32) (c : Int32) : mm_S := (if (σ.1 2003) < (Int32.ofNat 6) then (ui (ua (ua (ua σ 21 (upd (σ.2.2.1 21) (σ.1 2003).toNatClampNeg a)) 22 (upd (σ.2.2.1 22) (σ.1 2003).toNatClampNeg b)) 23 (upd (σ.2.2.1 23) (σ.1 2003).toNatClampNeg c)) 2003 ((σ.1 2003) + (1 : Int32))) else σ)
theorem r_add_20 {d : Nat} {x : Nat × (Nat → Int32)} {σ : mm_S} {a : Int32} {b : Int32} {c : Int32} (hd : 0 ≤ d) (p0 : (σ.1 2003) < (Int32.ofNat 6) → ¬ ((σ.1 2003) < 0 ∨ 6 ≤ (σ.1 2003).toNatClampNeg)) (p1 : (σ.1 2003) < (Int32.ofNat 6) → ¬ ((σ.1 2003) < 0 ∨ 6 ≤ (σ.1 2003).toNatClampNeg)) (p2 : (σ.1 2003) < (Int32.ofNat 6) → ¬ ((σ.1 2003) < 0 ∨ 6 ≤ (σ.1 2003).toNatClampNeg)) : mm_Runs d 2 (0, [some (.ref 20), some (.int a), some (.int b), some (.int c)], [], HH x σ) (some (.int (f_add_20 σ a b c)), HH x (g_add_20 σ a b c)) := by
  refine vc_add_20 p0 p1 p2 (fun h1 => by first | rfl | (simp [f_add_20, g_add_20, h1]; done) | (simp_all [f_add_20, g_add_20]; done) | grind [f_add_20, g_add_20]) (fun h1 => by first | rfl | (simp [f_add_20, g_add_20, h1]; done) | (simp_all [f_add_20, g_add_20]; done) | grind [f_add_20, g_add_20])
theorem vc_takeBack_20 {d : Nat} {x : Nat × (Nat → Int32)} {σ : mm_S} {k : Int32} {r : Option Value × mm_H} (k1 : k < 0 → (some (.int (-2 : Int32)), HH x σ) = r) (k2 : ¬ k < 0 → k ≤ (σ.1 2003) → (some (.int ((σ.1 2003) - k)), HH x (ui σ 2003 ((σ.1 2003) - k))) = r) (k3 : ¬ k < 0 → ¬ k ≤ (σ.1 2003) → (some (.int (-2 : Int32)), HH x σ) = r) : mm_Runs d 3 (0, [some (.ref 20), some (.int k)], [], HH x σ) r := by
  refine mm_go 2 (F' := (bif mm_cond .lt k 0 then 12 else 4, [some (.ref 20), some (.int k)], [], HH x σ)) rfl ?_
  refine mb_lt (fun h1 => ?_) (fun h1 => ?_)
  · refine mm_go 1 (F' := (14, [some (.ref 20), some (.int k)], [.int (-2 : Int32)], HH x σ)) rfl ?_
    exact mm_rt rfl rfl (k1 h1)
  · refine mm_go 4 (F' := (bif mm_cond .le k (σ.1 2003) then 15 else 12, [some (.ref 20), some (.int k)], [], HH x σ)) rfl ?_
    refine mb_le (fun h2 => ?_) (fun h2 => ?_)
    · refine mm_go 5 (F' := (22, [some (.ref 20), some (.int k)], [.int ((σ.1 2003) - k), .ref 20], HH x σ)) rfl ?_
      refine mm_go 1 (F' := (25, [some (.ref 20), some (.int k)], [], HH x (ui σ 2003 ((σ.1 2003) - k)))) rfl ?_
      refine mm_go 2 (F' := (29, [some (.ref 20), some (.int k)], [.int ((σ.1 2003) - k)], HH x (ui σ 2003 ((σ.1 2003) - k)))) rfl ?_
      exact mm_rt rfl rfl (k2 h1 h2)
    · refine mm_go 1 (F' := (14, [some (.ref 20), some (.int k)], [.int (-2 : Int32)], HH x σ)) rfl ?_
      exact mm_rt rfl rfl (k3 h1 h2)
def f_takeBack_20 (σ : mm_S) (k : Int32) : Int32 := (if k < 0 then (-2 : Int32) else (if k ≤ (σ.1 2003) then ((σ.1 2003) - k) else (-2 : Int32)))
def g_takeBack_20 (σ : mm_S) (k : Int32) : mm_S := (if k < 0 then σ else (if k ≤ (σ.1 2003) then (ui σ 2003 ((σ.1 2003) - k)) else σ))
theorem r_takeBack_20 {d : Nat} {x : Nat × (Nat → Int32)} {σ : mm_S} {k : Int32} (hd : 0 ≤ d) : mm_Runs d 3 (0, [some (.ref 20), some (.int k)], [], HH x σ) (some (.int (f_takeBack_20 σ k)), HH x (g_takeBack_20 σ k)) := by
  refine vc_takeBack_20 (fun h1 => by first | rfl | (simp [f_takeBack_20, g_takeBack_20, h1]; done) | (simp_all [f_takeBack_20, g_takeBack_20]; done) | grind [f_takeBack_20, g_takeBack_20]) (fun h1 h2 => by first | rfl | (simp [f_takeBack_20, g_takeBack_20, h1, h2]; done) | (simp_all [f_takeBack_20, g_takeBack_20]; done) | grind [f_takeBack_20, g_takeBack_20]) (fun h1 h2 => by first | rfl | (simp [f_takeBack_20, g_takeBack_20, h1, h2]; done) | (simp_all [f_takeBack_20, g_takeBack_20]; done) | grind [f_takeBack_20, g_takeBack_20])
theorem vc_has_24 {d : Nat} {x : Nat × (Nat → Int32)} {σ : mm_S} {k : Int32} {r : Option Value × mm_H} (k1 : k < 0 → (some (.int (0 : Int32)), HH x σ) = r) (k2 : ¬ k < 0 → (σ.1 2403) ≤ k → (some (.int (0 : Int32)), HH x σ) = r) (k3 : ¬ k < 0 → ¬ (σ.1 2403) ≤ k → (some (.int (1 : Int32)), HH x σ) = r) : mm_Runs d 0 (0, [some (.ref 24), some (.int k)], [], HH x σ) r := by
  refine mm_go 2 (F' := (bif mm_cond .lt k 0 then 16 else 4, [some (.ref 24), some (.int k)], [], HH x σ)) rfl ?_
  refine mb_lt (fun h1 => ?_) (fun h1 => ?_)
  · refine mm_go 1 (F' := (17, [some (.ref 24), some (.int k)], [.int (0 : Int32)], HH x σ)) rfl ?_
    exact mm_rtz rfl rfl (Or.inl rfl) (k1 h1)
  · refine mm_go 4 (F' := (bif mm_cond .ge k (σ.1 2403) then 16 else 12, [some (.ref 24), some (.int k)], [], HH x σ)) rfl ?_
    refine mb_ge (fun h2 => ?_) (fun h2 => ?_)
    · refine mm_go 1 (F' := (17, [some (.ref 24), some (.int k)], [.int (0 : Int32)], HH x σ)) rfl ?_
      exact mm_rtz rfl rfl (Or.inl rfl) (k2 h1 h2)
    · refine mm_go 2 (F' := (17, [some (.ref 24), some (.int k)], [.int (1 : Int32)], HH x σ)) rfl ?_
      exact mm_rtz rfl rfl (Or.inr rfl) (k3 h1 h2)
abbrev p_has_24 (σ : mm_S) (k : Int32) : Prop := (¬ (k < 0) ∧ ¬ ((σ.1 2403) ≤ k))
theorem r_has_24 {d : Nat} {x : Nat × (Nat → Int32)} {σ : mm_S} {k : Int32} (hd : 0 ≤ d) : mm_Runs d 0 (0, [some (.ref 24), some (.int k)], [], HH x σ) (some (.int (mm_b (p_has_24 σ k))), HH x σ) := by
  refine vc_has_24 (fun h1 => by first | rfl | (simp [p_has_24, mm_b, h1]; done) | (simp_all [p_has_24, mm_b]; done) | grind [p_has_24, mm_b]) (fun h1 h2 => by first | rfl | (simp [p_has_24, mm_b, h1, h2]; done) | (simp_all [p_has_24, mm_b]; done) | grind [p_has_24, mm_b]) (fun h1 h2 => by first | rfl | (simp [p_has_24, mm_b, h1, h2]; done) | (simp_all [p_has_24, mm_b]; done) | grind [p_has_24, mm_b])
theorem vc_reach_24 {d : Nat} {x : Nat × (Nat → Int32)} {σ : mm_S} {k : Int32} {r : Option Value × mm_H} (k1 : ¬ (k < 0 ∨ 6 ≤ k.toNatClampNeg)) (k2 : ¬ (((σ.2.2.1 25) k.toNatClampNeg) < 0 ∨ 3 ≤ ((σ.2.2.1 25) k.toNatClampNeg).toNatClampNeg)) (k3 : (some (.int (mm_reach ((σ.2.2.1 25) k.toNatClampNeg).toNatClampNeg)), HH x σ) = r) : mm_Runs d 1 (0, [some (.ref 24), some (.int k)], [], HH x σ) r := by
  refine mm_go 4 (F' := (8, [some (.ref 24), some (.int k)], [.int k, .ref 25, .ref 0], HH x σ)) rfl ?_
  refine mm_gd (F' := (9, [some (.ref 24), some (.int k)], [.int ((σ.2.2.1 25) k.toNatClampNeg), .ref 0], HH x σ)) rfl k1 ?_
  refine mm_gd (F' := (10, [some (.ref 24), some (.int k)], [.int (mm_reach ((σ.2.2.1 25) k.toNatClampNeg).toNatClampNeg)], HH x σ)) rfl k2 ?_
  exact mm_rt rfl rfl k3
def f_reach_24 (σ : mm_S) (k : Int32) : Int32 := (mm_reach ((σ.2.2.1 25) k.toNatClampNeg).toNatClampNeg)
theorem r_reach_24 {d : Nat} {x : Nat × (Nat → Int32)} {σ : mm_S} {k : Int32} (hd : 0 ≤ d) (p0 : ¬ (k < 0 ∨ 6 ≤ k.toNatClampNeg)) (p1 : ¬ (((σ.2.2.1 25) k.toNatClampNeg) < 0 ∨ 3 ≤ ((σ.2.2.1 25) k.toNatClampNeg).toNatClampNeg)) : mm_Runs d 1 (0, [some (.ref 24), some (.int k)], [], HH x σ) (some (.int (f_reach_24 σ k)), HH x σ) := by
  refine vc_reach_24 p0 p1 (by first | rfl | (simp [f_reach_24]; done) | (simp_all [f_reach_24]; done) | grind [f_reach_24])
theorem vc_add_24 {d : Nat} {x : Nat × (Nat → Int32)} {σ : mm_S} {a : Int32} {b : Int32} {c : Int32} {r : Option Value × mm_H} (k1 : (σ.1 2403) < (Int32.ofNat 6) → ¬ ((σ.1 2403) < 0 ∨ 6 ≤ (σ.1 2403).toNatClampNeg)) (k2 : (σ.1 2403) < (Int32.ofNat 6) → ¬ ((σ.1 2403) < 0 ∨ 6 ≤ (σ.1 2403).toNatClampNeg)) (k3 : (σ.1 2403) < (Int32.ofNat 6) → ¬ ((σ.1 2403) < 0 ∨ 6 ≤ (σ.1 2403).toNatClampNeg)) (k4 : (σ.1 2403) < (Int32.ofNat 6) → (some (.int (((σ.1 2403) + (1 : Int32)) - (1 : Int32))), HH x (ui (ua (ua (ua σ 25 (upd (σ.2.2.1 25) (σ.1 2403).toNatClampNeg a)) 26 (upd (σ.2.2.1 26) (σ.1 2403).toNatClampNeg b)) 27 (upd (σ.2.2.1 27) (σ.1 2403).toNatClampNeg c)) 2403 ((σ.1 2403) + (1 : Int32)))) = r) (k5 : ¬ (σ.1 2403) < (Int32.ofNat 6) → (some (.int (-4 : Int32)), HH x σ) = r) : mm_Runs d 2 (0, [some (.ref 24), some (.int a), some (.int b), some (.int c)], [], HH x σ) r := by
  refine mm_go 6 (F' := (bif mm_cond .lt (σ.1 2403) (Int32.ofNat 6) then 15 else 12, [some (.ref 24), some (.int a), some (.int b), some (.int c)], [], HH x σ)) rfl ?_
  refine mb_lt (fun h1 => ?_) (fun h1 => ?_)
  · refine mm_go 5 (F' := (24, [some (.ref 24), some (.int a), some (.int b), some (.int c)], [.int a, .int (σ.1 2403), .ref 25], HH x σ)) rfl ?_
    refine mm_gd (F' := (25, [some (.ref 24), some (.int a), some (.int b), some (.int c)], [], HH x (ua σ 25 (upd (σ.2.2.1 25) (σ.1 2403).toNatClampNeg a)))) rfl (k1 h1) ?_
    refine mm_go 5 (F' := (34, [some (.ref 24), some (.int a), some (.int b), some (.int c)], [.int b, .int (σ.1 2403), .ref 26], HH x (ua σ 25 (upd (σ.2.2.1 25) (σ.1 2403).toNatClampNeg a)))) rfl ?_
    refine mm_gd (F' := (35, [some (.ref 24), some (.int a), some (.int b), some (.int c)], [], HH x (ua (ua σ 25 (upd (σ.2.2.1 25) (σ.1 2403).toNatClampNeg a)) 26 (upd (σ.2.2.1 26) (σ.1 2403).toNatClampNeg b)))) rfl (k2 h1) ?_
    refine mm_go 5 (F' := (44, [some (.ref 24), some (.int a), some (.int b), some (.int c)], [.int c, .int (σ.1 2403), .ref 27], HH x (ua (ua σ 25 (upd (σ.2.2.1 25) (σ.1 2403).toNatClampNeg a)) 26 (upd (σ.2.2.1 26) (σ.1 2403).toNatClampNeg b)))) rfl ?_
    refine mm_gd (F' := (45, [some (.ref 24), some (.int a), some (.int b), some (.int c)], [], HH x (ua (ua (ua σ 25 (upd (σ.2.2.1 25) (σ.1 2403).toNatClampNeg a)) 26 (upd (σ.2.2.1 26) (σ.1 2403).toNatClampNeg b)) 27 (upd (σ.2.2.1 27) (σ.1 2403).toNatClampNeg c)))) rfl (k3 h1) ?_
    refine mm_go 5 (F' := (52, [some (.ref 24), some (.int a), some (.int b), some (.int c)], [.int ((σ.1 2403) + (1 : Int32)), .ref 24], HH x (ua (ua (ua σ 25 (upd (σ.2.2.1 25) (σ.1 2403).toNatClampNeg a)) 26 (upd (σ.2.2.1 26) (σ.1 2403).toNatClampNeg b)) 27 (upd (σ.2.2.1 27) (σ.1 2403).toNatClampNeg c)))) rfl ?_
    refine mm_go 1 (F' := (55, [some (.ref 24), some (.int a), some (.int b), some (.int c)], [], HH x (ui (ua (ua (ua σ 25 (upd (σ.2.2.1 25) (σ.1 2403).toNatClampNeg a)) 26 (upd (σ.2.2.1 26) (σ.1 2403).toNatClampNeg b)) 27 (upd (σ.2.2.1 27) (σ.1 2403).toNatClampNeg c)) 2403 ((σ.1 2403) + (1 : Int32))))) rfl ?_
    refine mm_go 4 (F' := (61, [some (.ref 24), some (.int a), some (.int b), some (.int c)], [.int (((σ.1 2403) + (1 : Int32)) - (1 : Int32))], HH x (ui (ua (ua (ua σ 25 (upd (σ.2.2.1 25) (σ.1 2403).toNatClampNeg a)) 26 (upd (σ.2.2.1 26) (σ.1 2403).toNatClampNeg b)) 27 (upd (σ.2.2.1 27) (σ.1 2403).toNatClampNeg c)) 2403 ((σ.1 2403) + (1 : Int32))))) rfl ?_
    exact mm_rt rfl rfl (k4 h1)
  · refine mm_go 1 (F' := (14, [some (.ref 24), some (.int a), some (.int b), some (.int c)], [.int (-4 : Int32)], HH x σ)) rfl ?_
    exact mm_rt rfl rfl (k5 h1)
def f_add_24 (σ : mm_S) (a : Int32) (b : Int32) (c : Int32) : Int32 := (if (σ.1 2403) < (Int32.ofNat 6) then (((σ.1 2403) + (1 : Int32)) - (1 : Int32)) else (-4 : Int32))
def g_add_24 (σ : mm_S) (a : Int32) (b : Int32) (c : Int32) : mm_S := (if (σ.1 2403) < (Int32.ofNat 6) then (ui (ua (ua (ua σ 25 (upd (σ.2.2.1 25) (σ.1 2403).toNatClampNeg a)) 26 (upd (σ.2.2.1 26) (σ.1 2403).toNatClampNeg b)) 27 (upd (σ.2.2.1 27) (σ.1 2403).toNatClampNeg c)) 2403 ((σ.1 2403) + (1 : Int32))) else σ)
theorem r_add_24 {d : Nat} {x : Nat × (Nat → Int32)} {σ : mm_S} {a : Int32} {b : Int32} {c : Int32} (hd : 0 ≤ d) (p0 : (σ.1 2403) < (Int32.ofNat 6) → ¬ ((σ.1 2403) < 0 ∨ 6 ≤ (σ.1 2403).toNatClampNeg)) (p1 : (σ.1 2403) < (Int32.ofNat 6) → ¬ ((σ.1 2403) < 0 ∨ 6 ≤ (σ.1 2403).toNatClampNeg)) (p2 : (σ.1 2403) < (Int32.ofNat 6) → ¬ ((σ.1 2403) < 0 ∨ 6 ≤ (σ.1 2403).toNatClampNeg)) : mm_Runs d 2 (0, [some (.ref 24), some (.int a), some (.int b), some (.int c)], [], HH x σ) (some (.int (f_add_24 σ a b c)), HH x (g_add_24 σ a b c)) := by
  refine vc_add_24 p0 p1 p2 (fun h1 => by first | rfl | (simp [f_add_24, g_add_24, h1]; done) | (simp_all [f_add_24, g_add_24]; done) | grind [f_add_24, g_add_24]) (fun h1 => by first | rfl | (simp [f_add_24, g_add_24, h1]; done) | (simp_all [f_add_24, g_add_24]; done) | grind [f_add_24, g_add_24])
theorem vc_takeBack_24 {d : Nat} {x : Nat × (Nat → Int32)} {σ : mm_S} {k : Int32} {r : Option Value × mm_H} (k1 : k < 0 → (some (.int (-2 : Int32)), HH x σ) = r) (k2 : ¬ k < 0 → k ≤ (σ.1 2403) → (some (.int ((σ.1 2403) - k)), HH x (ui σ 2403 ((σ.1 2403) - k))) = r) (k3 : ¬ k < 0 → ¬ k ≤ (σ.1 2403) → (some (.int (-2 : Int32)), HH x σ) = r) : mm_Runs d 3 (0, [some (.ref 24), some (.int k)], [], HH x σ) r := by
  refine mm_go 2 (F' := (bif mm_cond .lt k 0 then 12 else 4, [some (.ref 24), some (.int k)], [], HH x σ)) rfl ?_
  refine mb_lt (fun h1 => ?_) (fun h1 => ?_)
  · refine mm_go 1 (F' := (14, [some (.ref 24), some (.int k)], [.int (-2 : Int32)], HH x σ)) rfl ?_
    exact mm_rt rfl rfl (k1 h1)
  · refine mm_go 4 (F' := (bif mm_cond .le k (σ.1 2403) then 15 else 12, [some (.ref 24), some (.int k)], [], HH x σ)) rfl ?_
    refine mb_le (fun h2 => ?_) (fun h2 => ?_)
    · refine mm_go 5 (F' := (22, [some (.ref 24), some (.int k)], [.int ((σ.1 2403) - k), .ref 24], HH x σ)) rfl ?_
      refine mm_go 1 (F' := (25, [some (.ref 24), some (.int k)], [], HH x (ui σ 2403 ((σ.1 2403) - k)))) rfl ?_
      refine mm_go 2 (F' := (29, [some (.ref 24), some (.int k)], [.int ((σ.1 2403) - k)], HH x (ui σ 2403 ((σ.1 2403) - k)))) rfl ?_
      exact mm_rt rfl rfl (k2 h1 h2)
    · refine mm_go 1 (F' := (14, [some (.ref 24), some (.int k)], [.int (-2 : Int32)], HH x σ)) rfl ?_
      exact mm_rt rfl rfl (k3 h1 h2)
def f_takeBack_24 (σ : mm_S) (k : Int32) : Int32 := (if k < 0 then (-2 : Int32) else (if k ≤ (σ.1 2403) then ((σ.1 2403) - k) else (-2 : Int32)))
def g_takeBack_24 (σ : mm_S) (k : Int32) : mm_S := (if k < 0 then σ else (if k ≤ (σ.1 2403) then (ui σ 2403 ((σ.1 2403) - k)) else σ))
theorem r_takeBack_24 {d : Nat} {x : Nat × (Nat → Int32)} {σ : mm_S} {k : Int32} (hd : 0 ≤ d) : mm_Runs d 3 (0, [some (.ref 24), some (.int k)], [], HH x σ) (some (.int (f_takeBack_24 σ k)), HH x (g_takeBack_24 σ k)) := by
  refine vc_takeBack_24 (fun h1 => by first | rfl | (simp [f_takeBack_24, g_takeBack_24, h1]; done) | (simp_all [f_takeBack_24, g_takeBack_24]; done) | grind [f_takeBack_24, g_takeBack_24]) (fun h1 h2 => by first | rfl | (simp [f_takeBack_24, g_takeBack_24, h1, h2]; done) | (simp_all [f_takeBack_24, g_takeBack_24]; done) | grind [f_takeBack_24, g_takeBack_24]) (fun h1 h2 => by first | rfl | (simp [f_takeBack_24, g_takeBack_24, h1, h2]; done) | (simp_all [f_takeBack_24, g_takeBack_24]; done) | grind [f_takeBack_24, g_takeBack_24])
theorem vc_has_13 {d : Nat} {x : Nat × (Nat → Int32)} {σ : mm_S} {k : Int32} {r : Option Value × mm_H} (k1 : k < 0 → (some (.int (0 : Int32)), HH x σ) = r) (k2 : ¬ k < 0 → (σ.1 1305) ≤ k → (some (.int (0 : Int32)), HH x σ) = r) (k3 : ¬ k < 0 → ¬ (σ.1 1305) ≤ k → (some (.int (1 : Int32)), HH x σ) = r) : mm_Runs d 8 (0, [some (.ref 13), some (.int k)], [], HH x σ) r := by
  refine mm_go 2 (F' := (bif mm_cond .lt k 0 then 16 else 4, [some (.ref 13), some (.int k)], [], HH x σ)) rfl ?_
  refine mb_lt (fun h1 => ?_) (fun h1 => ?_)
  · refine mm_go 1 (F' := (17, [some (.ref 13), some (.int k)], [.int (0 : Int32)], HH x σ)) rfl ?_
    exact mm_rtz rfl rfl (Or.inl rfl) (k1 h1)
  · refine mm_go 4 (F' := (bif mm_cond .ge k (σ.1 1305) then 16 else 12, [some (.ref 13), some (.int k)], [], HH x σ)) rfl ?_
    refine mb_ge (fun h2 => ?_) (fun h2 => ?_)
    · refine mm_go 1 (F' := (17, [some (.ref 13), some (.int k)], [.int (0 : Int32)], HH x σ)) rfl ?_
      exact mm_rtz rfl rfl (Or.inl rfl) (k2 h1 h2)
    · refine mm_go 2 (F' := (17, [some (.ref 13), some (.int k)], [.int (1 : Int32)], HH x σ)) rfl ?_
      exact mm_rtz rfl rfl (Or.inr rfl) (k3 h1 h2)
abbrev p_has_13 (σ : mm_S) (k : Int32) : Prop := (¬ (k < 0) ∧ ¬ ((σ.1 1305) ≤ k))
theorem r_has_13 {d : Nat} {x : Nat × (Nat → Int32)} {σ : mm_S} {k : Int32} (hd : 0 ≤ d) : mm_Runs d 8 (0, [some (.ref 13), some (.int k)], [], HH x σ) (some (.int (mm_b (p_has_13 σ k))), HH x σ) := by
  refine vc_has_13 (fun h1 => by first | rfl | (simp [p_has_13, mm_b, h1]; done) | (simp_all [p_has_13, mm_b]; done) | grind [p_has_13, mm_b]) (fun h1 h2 => by first | rfl | (simp [p_has_13, mm_b, h1, h2]; done) | (simp_all [p_has_13, mm_b]; done) | grind [p_has_13, mm_b]) (fun h1 h2 => by first | rfl | (simp [p_has_13, mm_b, h1, h2]; done) | (simp_all [p_has_13, mm_b]; done) | grind [p_has_13, mm_b])
theorem vc_isWater {d : Nat} {x : Nat × (Nat → Int32)} {σ : mm_S} {k : Int32} {r : Option Value × mm_H} (k1 : k < 0 → (some (.int (0 : Int32)), HH x σ) = r) (k2 : ¬ k < 0 → (σ.1 1305) ≤ k → (some (.int (0 : Int32)), HH x σ) = r) (k3 : ¬ k < 0 → ¬ (σ.1 1305) ≤ k → (((Int64.toUInt64 (σ.2.1 1307) >>> ((Int32.toInt64 k).toUInt64 &&& Int64.toUInt64 63)).toInt64) &&& (1 : Int64)) = (0 : Int64) → (some (.int (0 : Int32)), HH x σ) = r) (k4 : ¬ k < 0 → ¬ (σ.1 1305) ≤ k → ¬ (((Int64.toUInt64 (σ.2.1 1307) >>> ((Int32.toInt64 k).toUInt64 &&& Int64.toUInt64 63)).toInt64) &&& (1 : Int64)) = (0 : Int64) → (some (.int (1 : Int32)), HH x σ) = r) : mm_Runs d 9 (0, [some (.ref 13), some (.int k)], [], HH x σ) r := by
  refine mm_go 2 (F' := (bif mm_cond .lt k 0 then 29 else 4, [some (.ref 13), some (.int k)], [], HH x σ)) rfl ?_
  refine mb_lt (fun h1 => ?_) (fun h1 => ?_)
  · refine mm_go 1 (F' := (30, [some (.ref 13), some (.int k)], [.int (0 : Int32)], HH x σ)) rfl ?_
    exact mm_rtz rfl rfl (Or.inl rfl) (k1 h1)
  · refine mm_go 4 (F' := (bif mm_cond .ge k (σ.1 1305) then 29 else 12, [some (.ref 13), some (.int k)], [], HH x σ)) rfl ?_
    refine mb_ge (fun h2 => ?_) (fun h2 => ?_)
    · refine mm_go 1 (F' := (30, [some (.ref 13), some (.int k)], [.int (0 : Int32)], HH x σ)) rfl ?_
      exact mm_rtz rfl rfl (Or.inl rfl) (k2 h1 h2)
    · refine mm_go 9 (F' := (bif mm_cond .eq (lg_cmp (((Int64.toUInt64 (σ.2.1 1307) >>> ((Int32.toInt64 k).toUInt64 &&& Int64.toUInt64 63)).toInt64) &&& (1 : Int64)) (0 : Int64)) 0 then 29 else 25, [some (.ref 13), some (.int k)], [], HH x σ)) rfl ?_
      refine mb_leq (fun h3 => ?_) (fun h3 => ?_)
      · refine mm_go 1 (F' := (30, [some (.ref 13), some (.int k)], [.int (0 : Int32)], HH x σ)) rfl ?_
        exact mm_rtz rfl rfl (Or.inl rfl) (k3 h1 h2 h3)
      · refine mm_go 2 (F' := (30, [some (.ref 13), some (.int k)], [.int (1 : Int32)], HH x σ)) rfl ?_
        exact mm_rtz rfl rfl (Or.inr rfl) (k4 h1 h2 h3)
abbrev p_isWater (σ : mm_S) (k : Int32) : Prop := (¬ (k < 0) ∧ (¬ ((σ.1 1305) ≤ k) ∧ ¬ ((((Int64.toUInt64 (σ.2.1 1307) >>> ((Int32.toInt64 k).toUInt64 &&& Int64.toUInt64 63)).toInt64) &&& (1 : Int64)) = (0 : Int64))))
theorem r_isWater {d : Nat} {x : Nat × (Nat → Int32)} {σ : mm_S} {k : Int32} (hd : 0 ≤ d) : mm_Runs d 9 (0, [some (.ref 13), some (.int k)], [], HH x σ) (some (.int (mm_b (p_isWater σ k))), HH x σ) := by
  refine vc_isWater (fun h1 => by first | rfl | (simp [p_isWater, mm_b, h1]; done) | (simp_all [p_isWater, mm_b]; done) | grind [p_isWater, mm_b]) (fun h1 h2 => by first | rfl | (simp [p_isWater, mm_b, h1, h2]; done) | (simp_all [p_isWater, mm_b]; done) | grind [p_isWater, mm_b]) (fun h1 h2 h3 => by first | rfl | (simp [p_isWater, mm_b, h1, h2, h3]; done) | (simp_all [p_isWater, mm_b]; done) | grind [p_isWater, mm_b]) (fun h1 h2 h3 => by first | rfl | (simp [p_isWater, mm_b, h1, h2, h3]; done) | (simp_all [p_isWater, mm_b]; done) | grind [p_isWater, mm_b])
theorem vc_turnTo {d : Nat} {x : Nat × (Nat → Int32)} {σ : mm_S} {v : Int64} {r : Option Value × mm_H} (k1 : (none, HH x (ul (ul σ 1307 v) 1302 (0 : Int64))) = r) : mm_Runs d 7 (0, [some (.ref 13), some (.long v), none], [], HH x σ) r := by
  refine mm_go 2 (F' := (2, [some (.ref 13), some (.long v), none], [.long v, .ref 13], HH x σ)) rfl ?_
  refine mm_go 1 (F' := (5, [some (.ref 13), some (.long v), none], [], HH x (ul σ 1307 v))) rfl ?_
  refine mm_go 2 (F' := (7, [some (.ref 13), some (.long v), none], [.long (0 : Int64), .ref 13], HH x (ul σ 1307 v))) rfl ?_
  refine mm_go 1 (F' := (10, [some (.ref 13), some (.long v), none], [], HH x (ul (ul σ 1307 v) 1302 (0 : Int64)))) rfl ?_
  exact mm_rt rfl rfl k1
def g_turnTo (σ : mm_S) (v : Int64) : mm_S := (ul (ul σ 1307 v) 1302 (0 : Int64))
theorem r_turnTo {d : Nat} {x : Nat × (Nat → Int32)} {σ : mm_S} {v : Int64} (hd : 0 ≤ d) : mm_Runs d 7 (0, [some (.ref 13), some (.long v), none], [], HH x σ) (none, HH x (g_turnTo σ v)) := by
  refine vc_turnTo (by first | rfl | (simp [g_turnTo]; done) | (simp_all [g_turnTo]; done) | grind [g_turnTo])
theorem vc_ringAt {d : Nat} {x : Nat × (Nat → Int32)} {σ : mm_S} {c : Int32} {m : Int32} {a : Int32} {r : Option Value × mm_H} (hd : 1 ≤ d) (k1 : ¬ (p_has_13 σ c) → (some (.long (0 : Int64)), HH x σ) = r) (k2 : (p_has_13 σ c) → a < 0 → (some (.long (0 : Int64)), HH x σ) = r) (k3 : (p_has_13 σ c) → ¬ a < 0 → m ≤ a → (some (.long (0 : Int64)), HH x σ) = r) (k4 : (p_has_13 σ c) → ¬ a < 0 → ¬ m ≤ a → ¬ (((c * (42 : Int32)) + a) < 0 ∨ 1764 ≤ ((c * (42 : Int32)) + a).toNatClampNeg)) (k5 : (p_has_13 σ c) → ¬ a < 0 → ¬ m ≤ a → (some (.long ((σ.2.2.2 14) ((c * (42 : Int32)) + a).toNatClampNeg)), HH x σ) = r) : mm_Runs d 12 (0, [some (.ref 13), some (.int c), some (.int m), some (.int a)], [], HH x σ) r := by
  refine mm_go 2 (F' := (2, [some (.ref 13), some (.int c), some (.int m), some (.int a)], [.int c, .ref 13], HH x σ)) rfl ?_
  refine mm_kl (z := 8) (as := [.ref 13, .int c]) (S' := []) (L2 := [some (.ref 13), some (.int c)]) (v := some (.int (mm_b (p_has_13 σ c)))) (h1 := HH x σ) rfl rfl rfl rfl rfl (by omega) (r_has_13 (by omega)) ?_
  show mm_Runs d 12 (5, [some (.ref 13), some (.int c), some (.int m), some (.int a)], [.int (mm_b (p_has_13 σ c))], HH x σ) r
  refine mm_go 1 (F' := (bif mm_cond .eq (mm_b (p_has_13 σ c)) 0 then 31 else 8, [some (.ref 13), some (.int c), some (.int m), some (.int a)], [], HH x σ)) rfl ?_
  refine mb_beq (fun h1 => ?_) (fun h1 => ?_)
  · refine mm_go 1 (F' := (32, [some (.ref 13), some (.int c), some (.int m), some (.int a)], [.long (0 : Int64)], HH x σ)) rfl ?_
    exact mm_rt rfl rfl (k1 h1)
  · refine mm_go 2 (F' := (bif mm_cond .lt a 0 then 31 else 12, [some (.ref 13), some (.int c), some (.int m), some (.int a)], [], HH x σ)) rfl ?_
    refine mb_lt (fun h2 => ?_) (fun h2 => ?_)
    · refine mm_go 1 (F' := (32, [some (.ref 13), some (.int c), some (.int m), some (.int a)], [.long (0 : Int64)], HH x σ)) rfl ?_
      exact mm_rt rfl rfl (k2 h1 h2)
    · refine mm_go 3 (F' := (bif mm_cond .ge a m then 31 else 17, [some (.ref 13), some (.int c), some (.int m), some (.int a)], [], HH x σ)) rfl ?_
      refine mb_ge (fun h3 => ?_) (fun h3 => ?_)
      · refine mm_go 1 (F' := (32, [some (.ref 13), some (.int c), some (.int m), some (.int a)], [.long (0 : Int64)], HH x σ)) rfl ?_
        exact mm_rt rfl rfl (k3 h1 h2 h3)
      · refine mm_go 7 (F' := (27, [some (.ref 13), some (.int c), some (.int m), some (.int a)], [.int ((c * (42 : Int32)) + a), .ref 14], HH x σ)) rfl ?_
        refine mm_gd (F' := (28, [some (.ref 13), some (.int c), some (.int m), some (.int a)], [.long ((σ.2.2.2 14) ((c * (42 : Int32)) + a).toNatClampNeg)], HH x σ)) rfl (k4 h1 h2 h3) ?_
        refine mm_go 1 (F' := (32, [some (.ref 13), some (.int c), some (.int m), some (.int a)], [.long ((σ.2.2.2 14) ((c * (42 : Int32)) + a).toNatClampNeg)], HH x σ)) rfl ?_
        exact mm_rt rfl rfl (k5 h1 h2 h3)
def f_ringAt (σ : mm_S) (c : Int32) (m : Int32) (a : Int32) : Int64 := (if (p_has_13 σ c) then (if a < 0 then (0 : Int64) else (if m ≤ a then (0 : Int64) else ((σ.2.2.2 14) ((c * (42 : Int32)) + a).toNatClampNeg))) else (0 : Int64))
theorem r_ringAt {d : Nat} {x : Nat × (Nat → Int32)} {σ : mm_S} {c : Int32} {m : Int32} {a : Int32} (hd : 1 ≤ d) (p0 : (p_has_13 σ c) → ¬ a < 0 → ¬ m ≤ a → ¬ (((c * (42 : Int32)) + a) < 0 ∨ 1764 ≤ ((c * (42 : Int32)) + a).toNatClampNeg)) : mm_Runs d 12 (0, [some (.ref 13), some (.int c), some (.int m), some (.int a)], [], HH x σ) (some (.long (f_ringAt σ c m a)), HH x σ) := by
  refine vc_ringAt (by omega) (fun h1 => by first | rfl | (simp [f_ringAt, h1]; done) | (simp_all [f_ringAt]; done) | grind [f_ringAt]) (fun h1 h2 => by first | rfl | (simp [f_ringAt, h1, h2]; done) | (simp_all [f_ringAt]; done) | grind [f_ringAt]) (fun h1 h2 h3 => by first | rfl | (simp [f_ringAt, h1, h2, h3]; done) | (simp_all [f_ringAt]; done) | grind [f_ringAt]) p0 (fun h1 h2 h3 => by first | rfl | (simp [f_ringAt, h1, h2, h3]; done) | (simp_all [f_ringAt]; done) | grind [f_ringAt])
theorem vc_lesserBeside {d : Nat} {x : Nat × (Nat → Int32)} {σ : mm_S} {u : Int64} {v : Int64} {r : Option Value × mm_H} (k1 : (some (.long (((((u &&& ((Int64.toUInt64 v >>> ((Int32.toInt64 (1 : Int32)).toUInt64 &&& Int64.toUInt64 63)).toInt64)) ||| (v &&& ((Int64.toUInt64 u >>> ((Int32.toInt64 (1 : Int32)).toUInt64 &&& Int64.toUInt64 63)).toInt64))) &&& ((σ.2.1 1304) ^^^ (-1 : Int64))) ||| (u &&& ((Int64.toUInt64 v >>> ((Int32.toInt64 (σ.1 1306)).toUInt64 &&& Int64.toUInt64 63)).toInt64))) ||| (v &&& ((Int64.toUInt64 u >>> ((Int32.toInt64 (σ.1 1306)).toUInt64 &&& Int64.toUInt64 63)).toInt64)))), HH x σ) = r) : mm_Runs d 14 (0, [some (.ref 13), some (.long u), none, some (.long v), none, none, none], [], HH x σ) r := by
  refine mm_go 32 (F' := (42, [some (.ref 13), some (.long u), none, some (.long v), none, some (.long (((u &&& ((Int64.toUInt64 v >>> ((Int32.toInt64 (1 : Int32)).toUInt64 &&& Int64.toUInt64 63)).toInt64)) ||| (v &&& ((Int64.toUInt64 u >>> ((Int32.toInt64 (1 : Int32)).toUInt64 &&& Int64.toUInt64 63)).toInt64))) &&& ((σ.2.1 1304) ^^^ (-1 : Int64)))), none], [.long (((((u &&& ((Int64.toUInt64 v >>> ((Int32.toInt64 (1 : Int32)).toUInt64 &&& Int64.toUInt64 63)).toInt64)) ||| (v &&& ((Int64.toUInt64 u >>> ((Int32.toInt64 (1 : Int32)).toUInt64 &&& Int64.toUInt64 63)).toInt64))) &&& ((σ.2.1 1304) ^^^ (-1 : Int64))) ||| (u &&& ((Int64.toUInt64 v >>> ((Int32.toInt64 (σ.1 1306)).toUInt64 &&& Int64.toUInt64 63)).toInt64))) ||| (v &&& ((Int64.toUInt64 u >>> ((Int32.toInt64 (σ.1 1306)).toUInt64 &&& Int64.toUInt64 63)).toInt64)))], HH x σ)) rfl ?_
  exact mm_rt rfl rfl k1
def f_lesserBeside (σ : mm_S) (u : Int64) (v : Int64) : Int64 := (((((u &&& ((Int64.toUInt64 v >>> ((Int32.toInt64 (1 : Int32)).toUInt64 &&& Int64.toUInt64 63)).toInt64)) ||| (v &&& ((Int64.toUInt64 u >>> ((Int32.toInt64 (1 : Int32)).toUInt64 &&& Int64.toUInt64 63)).toInt64))) &&& ((σ.2.1 1304) ^^^ (-1 : Int64))) ||| (u &&& ((Int64.toUInt64 v >>> ((Int32.toInt64 (σ.1 1306)).toUInt64 &&& Int64.toUInt64 63)).toInt64))) ||| (v &&& ((Int64.toUInt64 u >>> ((Int32.toInt64 (σ.1 1306)).toUInt64 &&& Int64.toUInt64 63)).toInt64)))
theorem r_lesserBeside {d : Nat} {x : Nat × (Nat → Int32)} {σ : mm_S} {u : Int64} {v : Int64} (hd : 0 ≤ d) : mm_Runs d 14 (0, [some (.ref 13), some (.long u), none, some (.long v), none, none, none], [], HH x σ) (some (.long (f_lesserBeside σ u v)), HH x σ) := by
  refine vc_lesserBeside (by first | rfl | (simp [f_lesserBeside]; done) | (simp_all [f_lesserBeside]; done) | grind [f_lesserBeside])
theorem vc_end_ {d : Nat} {x : Nat × (Nat → Int32)} {σ : mm_S} {r : Option Value × mm_H} (k1 : (some (.int ((3 : Int32) + ((σ.1 1200) * ((σ.1 1201) + (1 : Int32))))), HH x σ) = r) : mm_Runs d 16 (0, [some (.ref 12)], [], HH x σ) r := by
  refine mm_go 9 (F' := (13, [some (.ref 12)], [.int ((3 : Int32) + ((σ.1 1200) * ((σ.1 1201) + (1 : Int32))))], HH x σ)) rfl ?_
  exact mm_rt rfl rfl k1
def f_end_ (σ : mm_S)  : Int32 := ((3 : Int32) + ((σ.1 1200) * ((σ.1 1201) + (1 : Int32))))
theorem r_end_ {d : Nat} {x : Nat × (Nat → Int32)} {σ : mm_S}  (hd : 0 ≤ d) : mm_Runs d 16 (0, [some (.ref 12)], [], HH x σ) (some (.int (f_end_ σ )), HH x σ) := by
  refine vc_end_ (by first | rfl | (simp [f_end_]; done) | (simp_all [f_end_]; done) | grind [f_end_])
theorem vc_goesOnInRows {d : Nat} {x : Nat × (Nat → Int32)} {σ : mm_S} {a : Int32} {c : Int32} {r : Option Value × mm_H} (k1 : ¬ ((σ.1 1201) + (1 : Int32)) = 0) (k2 : 0 ≤ ((a - a / ((σ.1 1201) + (1 : Int32)) * ((σ.1 1201) + (1 : Int32))) - (1 : Int32)) → ¬ c = (46 : Int32) → ¬ c = (35 : Int32) → (some (.int (0 : Int32)), HH x σ) = r) (k3 : 0 ≤ ((a - a / ((σ.1 1201) + (1 : Int32)) * ((σ.1 1201) + (1 : Int32))) - (1 : Int32)) → ¬ c = (46 : Int32) → c = (35 : Int32) → (some (.int (1 : Int32)), HH x σ) = r) (k4 : 0 ≤ ((a - a / ((σ.1 1201) + (1 : Int32)) * ((σ.1 1201) + (1 : Int32))) - (1 : Int32)) → c = (46 : Int32) → ¬ ((σ.1 1201) + (1 : Int32)) = 0) (k5 : 0 ≤ ((a - a / ((σ.1 1201) + (1 : Int32)) * ((σ.1 1201) + (1 : Int32))) - (1 : Int32)) → c = (46 : Int32) → (some (.int (1 : Int32)), HH x (ul σ 1202 ((σ.2.1 1202) ||| ((1 : Int64) <<< (Int32.toInt64 (((a / ((σ.1 1201) + (1 : Int32))) * (σ.1 1201)) + ((a - a / ((σ.1 1201) + (1 : Int32)) * ((σ.1 1201) + (1 : Int32))) - (1 : Int32))) &&& 63))))) = r) (k6 : ¬ 0 ≤ ((a - a / ((σ.1 1201) + (1 : Int32)) * ((σ.1 1201) + (1 : Int32))) - (1 : Int32)) → ¬ c = (59 : Int32) → (some (.int (0 : Int32)), HH x σ) = r) (k7 : ¬ 0 ≤ ((a - a / ((σ.1 1201) + (1 : Int32)) * ((σ.1 1201) + (1 : Int32))) - (1 : Int32)) → c = (59 : Int32) → (some (.int (1 : Int32)), HH x σ) = r) : mm_Runs d 18 (0, [some (.ref 12), some (.int a), some (.int c), none], [], HH x σ) r := by
  refine mm_go 5 (F' := (7, [some (.ref 12), some (.int a), some (.int c), none], [.int ((σ.1 1201) + (1 : Int32)), .int a], HH x σ)) rfl ?_
  refine mm_gd (F' := (8, [some (.ref 12), some (.int a), some (.int c), none], [.int (a - a / ((σ.1 1201) + (1 : Int32)) * ((σ.1 1201) + (1 : Int32)))], HH x σ)) rfl k1 ?_
  refine mm_go 5 (F' := (bif mm_cond .ge ((a - a / ((σ.1 1201) + (1 : Int32)) * ((σ.1 1201) + (1 : Int32))) - (1 : Int32)) 0 then 27 else 15, [some (.ref 12), some (.int a), some (.int c), some (.int ((a - a / ((σ.1 1201) + (1 : Int32)) * ((σ.1 1201) + (1 : Int32))) - (1 : Int32)))], [], HH x σ)) rfl ?_
  refine mb_ge (fun h1 => ?_) (fun h1 => ?_)
  · refine mm_go 3 (F' := (bif mm_cond .ne c (46 : Int32) then 59 else 33, [some (.ref 12), some (.int a), some (.int c), some (.int ((a - a / ((σ.1 1201) + (1 : Int32)) * ((σ.1 1201) + (1 : Int32))) - (1 : Int32)))], [], HH x σ)) rfl ?_
    refine mb_ne (fun h2 => ?_) (fun h2 => ?_)
    · refine mm_go 3 (F' := (bif mm_cond .eq c (46 : Int32) then 71 else 65, [some (.ref 12), some (.int a), some (.int c), some (.int ((a - a / ((σ.1 1201) + (1 : Int32)) * ((σ.1 1201) + (1 : Int32))) - (1 : Int32)))], [], HH x σ)) rfl ?_
      refine mb_eq (fun h3 => absurd h3 h2) (fun _ => ?_)
      refine mm_go 3 (F' := (bif mm_cond .ne c (35 : Int32) then 75 else 71, [some (.ref 12), some (.int a), some (.int c), some (.int ((a - a / ((σ.1 1201) + (1 : Int32)) * ((σ.1 1201) + (1 : Int32))) - (1 : Int32)))], [], HH x σ)) rfl ?_
      refine mb_ne (fun h4 => ?_) (fun h4 => ?_)
      · refine mm_go 1 (F' := (76, [some (.ref 12), some (.int a), some (.int c), some (.int ((a - a / ((σ.1 1201) + (1 : Int32)) * ((σ.1 1201) + (1 : Int32))) - (1 : Int32)))], [.int (0 : Int32)], HH x σ)) rfl ?_
        exact mm_rtz rfl rfl (Or.inl rfl) (k2 h1 h2 h4)
      · refine mm_go 2 (F' := (76, [some (.ref 12), some (.int a), some (.int c), some (.int ((a - a / ((σ.1 1201) + (1 : Int32)) * ((σ.1 1201) + (1 : Int32))) - (1 : Int32)))], [.int (1 : Int32)], HH x σ)) rfl ?_
        exact mm_rtz rfl rfl (Or.inr rfl) (k3 h1 h2 h4)
    · refine mm_go 9 (F' := (46, [some (.ref 12), some (.int a), some (.int c), some (.int ((a - a / ((σ.1 1201) + (1 : Int32)) * ((σ.1 1201) + (1 : Int32))) - (1 : Int32)))], [.int ((σ.1 1201) + (1 : Int32)), .int a, .long (1 : Int64), .long (σ.2.1 1202), .ref 12], HH x σ)) rfl ?_
      refine mm_gd (F' := (47, [some (.ref 12), some (.int a), some (.int c), some (.int ((a - a / ((σ.1 1201) + (1 : Int32)) * ((σ.1 1201) + (1 : Int32))) - (1 : Int32)))], [.int (a / ((σ.1 1201) + (1 : Int32))), .long (1 : Int64), .long (σ.2.1 1202), .ref 12], HH x σ)) rfl (k4 h1 h2) ?_
      refine mm_go 7 (F' := (56, [some (.ref 12), some (.int a), some (.int c), some (.int ((a - a / ((σ.1 1201) + (1 : Int32)) * ((σ.1 1201) + (1 : Int32))) - (1 : Int32)))], [.long ((σ.2.1 1202) ||| ((1 : Int64) <<< (Int32.toInt64 (((a / ((σ.1 1201) + (1 : Int32))) * (σ.1 1201)) + ((a - a / ((σ.1 1201) + (1 : Int32)) * ((σ.1 1201) + (1 : Int32))) - (1 : Int32))) &&& 63))), .ref 12], HH x σ)) rfl ?_
      refine mm_go 1 (F' := (59, [some (.ref 12), some (.int a), some (.int c), some (.int ((a - a / ((σ.1 1201) + (1 : Int32)) * ((σ.1 1201) + (1 : Int32))) - (1 : Int32)))], [], HH x (ul σ 1202 ((σ.2.1 1202) ||| ((1 : Int64) <<< (Int32.toInt64 (((a / ((σ.1 1201) + (1 : Int32))) * (σ.1 1201)) + ((a - a / ((σ.1 1201) + (1 : Int32)) * ((σ.1 1201) + (1 : Int32))) - (1 : Int32))) &&& 63)))))) rfl ?_
      refine mm_go 3 (F' := (bif mm_cond .eq c (46 : Int32) then 71 else 65, [some (.ref 12), some (.int a), some (.int c), some (.int ((a - a / ((σ.1 1201) + (1 : Int32)) * ((σ.1 1201) + (1 : Int32))) - (1 : Int32)))], [], HH x (ul σ 1202 ((σ.2.1 1202) ||| ((1 : Int64) <<< (Int32.toInt64 (((a / ((σ.1 1201) + (1 : Int32))) * (σ.1 1201)) + ((a - a / ((σ.1 1201) + (1 : Int32)) * ((σ.1 1201) + (1 : Int32))) - (1 : Int32))) &&& 63)))))) rfl ?_
      refine mb_eq (fun _ => ?_) (fun h5 => absurd h2 h5)
      refine mm_go 2 (F' := (76, [some (.ref 12), some (.int a), some (.int c), some (.int ((a - a / ((σ.1 1201) + (1 : Int32)) * ((σ.1 1201) + (1 : Int32))) - (1 : Int32)))], [.int (1 : Int32)], HH x (ul σ 1202 ((σ.2.1 1202) ||| ((1 : Int64) <<< (Int32.toInt64 (((a / ((σ.1 1201) + (1 : Int32))) * (σ.1 1201)) + ((a - a / ((σ.1 1201) + (1 : Int32)) * ((σ.1 1201) + (1 : Int32))) - (1 : Int32))) &&& 63)))))) rfl ?_
      exact mm_rtz rfl rfl (Or.inr rfl) (k5 h1 h2)
  · refine mm_go 3 (F' := (bif mm_cond .ne c (59 : Int32) then 25 else 21, [some (.ref 12), some (.int a), some (.int c), some (.int ((a - a / ((σ.1 1201) + (1 : Int32)) * ((σ.1 1201) + (1 : Int32))) - (1 : Int32)))], [], HH x σ)) rfl ?_
    refine mb_ne (fun h6 => ?_) (fun h6 => ?_)
    · refine mm_go 1 (F' := (26, [some (.ref 12), some (.int a), some (.int c), some (.int ((a - a / ((σ.1 1201) + (1 : Int32)) * ((σ.1 1201) + (1 : Int32))) - (1 : Int32)))], [.int (0 : Int32)], HH x σ)) rfl ?_
      exact mm_rtz rfl rfl (Or.inl rfl) (k6 h1 h6)
    · refine mm_go 2 (F' := (26, [some (.ref 12), some (.int a), some (.int c), some (.int ((a - a / ((σ.1 1201) + (1 : Int32)) * ((σ.1 1201) + (1 : Int32))) - (1 : Int32)))], [.int (1 : Int32)], HH x σ)) rfl ?_
      exact mm_rtz rfl rfl (Or.inr rfl) (k7 h1 h6)
abbrev p_goesOnInRows (σ : mm_S) (a : Int32) (c : Int32) : Prop := (((0 ≤ ((a - a / ((σ.1 1201) + (1 : Int32)) * ((σ.1 1201) + (1 : Int32))) - (1 : Int32))) ∧ ((c = (46 : Int32)) ∨ (c = (35 : Int32)))) ∨ (¬ (0 ≤ ((a - a / ((σ.1 1201) + (1 : Int32)) * ((σ.1 1201) + (1 : Int32))) - (1 : Int32))) ∧ (c = (59 : Int32))))
def g_goesOnInRows (σ : mm_S) (a : Int32) (c : Int32) : mm_S := (if 0 ≤ ((a - a / ((σ.1 1201) + (1 : Int32)) * ((σ.1 1201) + (1 : Int32))) - (1 : Int32)) then (if c = (46 : Int32) then (ul σ 1202 ((σ.2.1 1202) ||| ((1 : Int64) <<< (Int32.toInt64 (((a / ((σ.1 1201) + (1 : Int32))) * (σ.1 1201)) + ((a - a / ((σ.1 1201) + (1 : Int32)) * ((σ.1 1201) + (1 : Int32))) - (1 : Int32))) &&& 63)))) else σ) else σ)
theorem r_goesOnInRows {d : Nat} {x : Nat × (Nat → Int32)} {σ : mm_S} {a : Int32} {c : Int32} (hd : 0 ≤ d) (p0 : ¬ ((σ.1 1201) + (1 : Int32)) = 0) (p1 : 0 ≤ ((a - a / ((σ.1 1201) + (1 : Int32)) * ((σ.1 1201) + (1 : Int32))) - (1 : Int32)) → c = (46 : Int32) → ¬ ((σ.1 1201) + (1 : Int32)) = 0) : mm_Runs d 18 (0, [some (.ref 12), some (.int a), some (.int c), none], [], HH x σ) (some (.int (mm_b (p_goesOnInRows σ a c))), HH x (g_goesOnInRows σ a c)) := by
  refine vc_goesOnInRows p0 (fun h1 h2 h3 => by first | rfl | (simp [p_goesOnInRows, mm_b, g_goesOnInRows, h1, h2, h3]; done) | (simp_all [p_goesOnInRows, mm_b, g_goesOnInRows]; done) | grind [p_goesOnInRows, mm_b, g_goesOnInRows]) (fun h1 h2 h3 => by first | rfl | (simp [p_goesOnInRows, mm_b, g_goesOnInRows, h1, h2, h3]; done) | (simp_all [p_goesOnInRows, mm_b, g_goesOnInRows]; done) | grind [p_goesOnInRows, mm_b, g_goesOnInRows]) p1 (fun h1 h2 => by first | rfl | (simp [p_goesOnInRows, mm_b, g_goesOnInRows, h1, h2]; done) | (simp_all [p_goesOnInRows, mm_b, g_goesOnInRows]; done) | grind [p_goesOnInRows, mm_b, g_goesOnInRows]) (fun h1 h2 => by first | rfl | (simp [p_goesOnInRows, mm_b, g_goesOnInRows, h1, h2]; done) | (simp_all [p_goesOnInRows, mm_b, g_goesOnInRows]; done) | grind [p_goesOnInRows, mm_b, g_goesOnInRows]) (fun h1 h2 => by first | rfl | (simp [p_goesOnInRows, mm_b, g_goesOnInRows, h1, h2]; done) | (simp_all [p_goesOnInRows, mm_b, g_goesOnInRows]; done) | grind [p_goesOnInRows, mm_b, g_goesOnInRows])
theorem vc_goesOn {d : Nat} {x : Nat × (Nat → Int32)} {σ : mm_S} {a : Int32} {c : Int32} {r : Option Value × mm_H} (hd : 1 ≤ d) (k1 : a = (0 : Int32) → ¬ c = (112 : Int32) → (some (.int (0 : Int32)), HH x σ) = r) (k2 : a = (0 : Int32) → c = (112 : Int32) → (some (.int (1 : Int32)), HH x σ) = r) (k3 : a = (1 : Int32) → c < (49 : Int32) → (some (.int (0 : Int32)), HH x (ui σ 1200 (c - (48 : Int32)))) = r) (k4 : a = (1 : Int32) → ¬ c < (49 : Int32) → (54 : Int32) < c → (some (.int (0 : Int32)), HH x (ui σ 1200 (c - (48 : Int32)))) = r) (k5 : a = (1 : Int32) → ¬ c < (49 : Int32) → ¬ (54 : Int32) < c → (some (.int (1 : Int32)), HH x (ui σ 1200 (c - (48 : Int32)))) = r) (k6 : a = (2 : Int32) → c < (49 : Int32) → (some (.int (0 : Int32)), HH x (ui σ 1201 (c - (48 : Int32)))) = r) (k7 : a = (2 : Int32) → ¬ c < (49 : Int32) → (55 : Int32) < c → (some (.int (0 : Int32)), HH x (ui σ 1201 (c - (48 : Int32)))) = r) (k8 : a = (2 : Int32) → ¬ c < (49 : Int32) → ¬ (55 : Int32) < c → (some (.int (1 : Int32)), HH x (ui σ 1201 (c - (48 : Int32)))) = r) (k9 : (¬ a = (0 : Int32) ∧ ¬ a = (1 : Int32) ∧ ¬ a = (2 : Int32)) → (f_end_ σ) ≤ a → (some (.int (0 : Int32)), HH x σ) = r) (k10 : (¬ a = (0 : Int32) ∧ ¬ a = (1 : Int32) ∧ ¬ a = (2 : Int32)) → ¬ (f_end_ σ) ≤ a → ¬ ((σ.1 1201) + (1 : Int32)) = 0) (k11 : (¬ a = (0 : Int32) ∧ ¬ a = (1 : Int32) ∧ ¬ a = (2 : Int32)) → ¬ (f_end_ σ) ≤ a → 0 ≤ (((a - (3 : Int32)) - (a - (3 : Int32)) / ((σ.1 1201) + (1 : Int32)) * ((σ.1 1201) + (1 : Int32))) - (1 : Int32)) → c = (46 : Int32) → ¬ ((σ.1 1201) + (1 : Int32)) = 0) (k12 : (¬ a = (0 : Int32) ∧ ¬ a = (1 : Int32) ∧ ¬ a = (2 : Int32)) → ¬ (f_end_ σ) ≤ a → ¬ (p_goesOnInRows σ (a - (3 : Int32)) c) → (some (.int (0 : Int32)), HH x (g_goesOnInRows σ (a - (3 : Int32)) c)) = r) (k13 : (¬ a = (0 : Int32) ∧ ¬ a = (1 : Int32) ∧ ¬ a = (2 : Int32)) → ¬ (f_end_ σ) ≤ a → (p_goesOnInRows σ (a - (3 : Int32)) c) → (some (.int (1 : Int32)), HH x (g_goesOnInRows σ (a - (3 : Int32)) c)) = r) : mm_Runs d 17 (0, [some (.ref 12), some (.int a), some (.int c)], [], HH x σ) r := by
  refine mm_go 1 (F' := (1, [some (.ref 12), some (.int a), some (.int c)], [.int a], HH x σ)) rfl ?_
  rcases mm_sw0_2 a with h1 | h1 | h1 | h1
  · refine mm_tsI h1 (F' := (28, [some (.ref 12), some (.int a), some (.int c)], [], HH x σ)) rfl ?_
    refine mm_go 3 (F' := (bif mm_cond .ne c (112 : Int32) then 38 else 34, [some (.ref 12), some (.int a), some (.int c)], [], HH x σ)) rfl ?_
    refine mb_ne (fun h2 => ?_) (fun h2 => ?_)
    · refine mm_go 1 (F' := (39, [some (.ref 12), some (.int a), some (.int c)], [.int (0 : Int32)], HH x σ)) rfl ?_
      exact mm_rtz rfl rfl (Or.inl rfl) (k1 h1 h2)
    · refine mm_go 2 (F' := (39, [some (.ref 12), some (.int a), some (.int c)], [.int (1 : Int32)], HH x σ)) rfl ?_
      exact mm_rtz rfl rfl (Or.inr rfl) (k2 h1 h2)
  · refine mm_tsI h1 (F' := (40, [some (.ref 12), some (.int a), some (.int c)], [], HH x σ)) rfl ?_
    refine mm_go 4 (F' := (45, [some (.ref 12), some (.int a), some (.int c)], [.int (c - (48 : Int32)), .ref 12], HH x σ)) rfl ?_
    refine mm_go 1 (F' := (48, [some (.ref 12), some (.int a), some (.int c)], [], HH x (ui σ 1200 (c - (48 : Int32))))) rfl ?_
    refine mm_go 3 (F' := (bif mm_cond .lt c (49 : Int32) then 64 else 54, [some (.ref 12), some (.int a), some (.int c)], [], HH x (ui σ 1200 (c - (48 : Int32))))) rfl ?_
    refine mb_lt (fun h3 => ?_) (fun h3 => ?_)
    · refine mm_go 1 (F' := (65, [some (.ref 12), some (.int a), some (.int c)], [.int (0 : Int32)], HH x (ui σ 1200 (c - (48 : Int32))))) rfl ?_
      exact mm_rtz rfl rfl (Or.inl rfl) (k3 h1 h3)
    · refine mm_go 3 (F' := (bif mm_cond .gt c (54 : Int32) then 64 else 60, [some (.ref 12), some (.int a), some (.int c)], [], HH x (ui σ 1200 (c - (48 : Int32))))) rfl ?_
      refine mb_gt (fun h4 => ?_) (fun h4 => ?_)
      · refine mm_go 1 (F' := (65, [some (.ref 12), some (.int a), some (.int c)], [.int (0 : Int32)], HH x (ui σ 1200 (c - (48 : Int32))))) rfl ?_
        exact mm_rtz rfl rfl (Or.inl rfl) (k4 h1 h3 h4)
      · refine mm_go 2 (F' := (65, [some (.ref 12), some (.int a), some (.int c)], [.int (1 : Int32)], HH x (ui σ 1200 (c - (48 : Int32))))) rfl ?_
        exact mm_rtz rfl rfl (Or.inr rfl) (k5 h1 h3 h4)
  · refine mm_tsI h1 (F' := (66, [some (.ref 12), some (.int a), some (.int c)], [], HH x σ)) rfl ?_
    refine mm_go 4 (F' := (71, [some (.ref 12), some (.int a), some (.int c)], [.int (c - (48 : Int32)), .ref 12], HH x σ)) rfl ?_
    refine mm_go 1 (F' := (74, [some (.ref 12), some (.int a), some (.int c)], [], HH x (ui σ 1201 (c - (48 : Int32))))) rfl ?_
    refine mm_go 3 (F' := (bif mm_cond .lt c (49 : Int32) then 90 else 80, [some (.ref 12), some (.int a), some (.int c)], [], HH x (ui σ 1201 (c - (48 : Int32))))) rfl ?_
    refine mb_lt (fun h5 => ?_) (fun h5 => ?_)
    · refine mm_go 1 (F' := (91, [some (.ref 12), some (.int a), some (.int c)], [.int (0 : Int32)], HH x (ui σ 1201 (c - (48 : Int32))))) rfl ?_
      exact mm_rtz rfl rfl (Or.inl rfl) (k6 h1 h5)
    · refine mm_go 3 (F' := (bif mm_cond .gt c (55 : Int32) then 90 else 86, [some (.ref 12), some (.int a), some (.int c)], [], HH x (ui σ 1201 (c - (48 : Int32))))) rfl ?_
      refine mb_gt (fun h6 => ?_) (fun h6 => ?_)
      · refine mm_go 1 (F' := (91, [some (.ref 12), some (.int a), some (.int c)], [.int (0 : Int32)], HH x (ui σ 1201 (c - (48 : Int32))))) rfl ?_
        exact mm_rtz rfl rfl (Or.inl rfl) (k7 h1 h5 h6)
      · refine mm_go 2 (F' := (91, [some (.ref 12), some (.int a), some (.int c)], [.int (1 : Int32)], HH x (ui σ 1201 (c - (48 : Int32))))) rfl ?_
        exact mm_rtz rfl rfl (Or.inr rfl) (k8 h1 h5 h6)
  · refine mm_ti (F' := (92, [some (.ref 12), some (.int a), some (.int c)], [], HH x σ)) rfl h1 ?_
    refine mm_go 2 (F' := (94, [some (.ref 12), some (.int a), some (.int c)], [.ref 12, .int a], HH x σ)) rfl ?_
    refine mm_kl (z := 16) (as := [.ref 12]) (S' := [.int a]) (L2 := [some (.ref 12)]) (v := some (.int (f_end_ σ))) (h1 := HH x σ) rfl rfl rfl rfl rfl (by omega) (r_end_ (by omega)) ?_
    show mm_Runs d 17 (97, [some (.ref 12), some (.int a), some (.int c)], [.int (f_end_ σ), .int a], HH x σ) r
    refine mm_go 1 (F' := (bif mm_cond .ge a (f_end_ σ) then 115 else 100, [some (.ref 12), some (.int a), some (.int c)], [], HH x σ)) rfl ?_
    refine mb_ge (fun h7 => ?_) (fun h7 => ?_)
    · refine mm_go 1 (F' := (116, [some (.ref 12), some (.int a), some (.int c)], [.int (0 : Int32)], HH x σ)) rfl ?_
      exact mm_rtz rfl rfl (Or.inl rfl) (k9 (mm_sn0_2 h1) h7)
    · refine mm_go 5 (F' := (105, [some (.ref 12), some (.int a), some (.int c)], [.int c, .int (a - (3 : Int32)), .ref 12], HH x σ)) rfl ?_
      refine mm_kl (z := 18) (as := [.ref 12, .int (a - (3 : Int32)), .int c]) (S' := []) (L2 := [some (.ref 12), some (.int (a - (3 : Int32))), some (.int c), none]) (v := some (.int (mm_b (p_goesOnInRows σ (a - (3 : Int32)) c)))) (h1 := HH x (g_goesOnInRows σ (a - (3 : Int32)) c)) rfl rfl rfl rfl rfl (by omega) (r_goesOnInRows (by omega) (k10 (mm_sn0_2 h1) h7) (k11 (mm_sn0_2 h1) h7)) ?_
      show mm_Runs d 17 (108, [some (.ref 12), some (.int a), some (.int c)], [.int (mm_b (p_goesOnInRows σ (a - (3 : Int32)) c))], HH x (g_goesOnInRows σ (a - (3 : Int32)) c)) r
      refine mm_go 1 (F' := (bif mm_cond .eq (mm_b (p_goesOnInRows σ (a - (3 : Int32)) c)) 0 then 115 else 111, [some (.ref 12), some (.int a), some (.int c)], [], HH x (g_goesOnInRows σ (a - (3 : Int32)) c))) rfl ?_
      refine mb_beq (fun h8 => ?_) (fun h8 => ?_)
      · refine mm_go 1 (F' := (116, [some (.ref 12), some (.int a), some (.int c)], [.int (0 : Int32)], HH x (g_goesOnInRows σ (a - (3 : Int32)) c))) rfl ?_
        exact mm_rtz rfl rfl (Or.inl rfl) (k12 (mm_sn0_2 h1) h7 h8)
      · refine mm_go 2 (F' := (116, [some (.ref 12), some (.int a), some (.int c)], [.int (1 : Int32)], HH x (g_goesOnInRows σ (a - (3 : Int32)) c))) rfl ?_
        exact mm_rtz rfl rfl (Or.inr rfl) (k13 (mm_sn0_2 h1) h7 h8)
abbrev p_goesOn (σ : mm_S) (a : Int32) (c : Int32) : Prop := (((a = (0 : Int32)) ∧ (c = (112 : Int32))) ∨ (¬ (a = (0 : Int32)) ∧ (((a = (1 : Int32)) ∧ (¬ (c < (49 : Int32)) ∧ ¬ ((54 : Int32) < c))) ∨ (¬ (a = (1 : Int32)) ∧ (((a = (2 : Int32)) ∧ (¬ (c < (49 : Int32)) ∧ ¬ ((55 : Int32) < c))) ∨ (¬ (a = (2 : Int32)) ∧ (¬ ((f_end_ σ) ≤ a) ∧ ((p_goesOnInRows σ (a - (3 : Int32)) c)))))))))
def g_goesOn (σ : mm_S) (a : Int32) (c : Int32) : mm_S := (if a = (0 : Int32) then σ else (if a = (1 : Int32) then (ui σ 1200 (c - (48 : Int32))) else (if a = (2 : Int32) then (ui σ 1201 (c - (48 : Int32))) else (if (f_end_ σ) ≤ a then σ else (g_goesOnInRows σ (a - (3 : Int32)) c)))))
theorem r_goesOn {d : Nat} {x : Nat × (Nat → Int32)} {σ : mm_S} {a : Int32} {c : Int32} (hd : 1 ≤ d) (p0 : (¬ a = (0 : Int32) ∧ ¬ a = (1 : Int32) ∧ ¬ a = (2 : Int32)) → ¬ (f_end_ σ) ≤ a → ¬ ((σ.1 1201) + (1 : Int32)) = 0) (p1 : (¬ a = (0 : Int32) ∧ ¬ a = (1 : Int32) ∧ ¬ a = (2 : Int32)) → ¬ (f_end_ σ) ≤ a → 0 ≤ (((a - (3 : Int32)) - (a - (3 : Int32)) / ((σ.1 1201) + (1 : Int32)) * ((σ.1 1201) + (1 : Int32))) - (1 : Int32)) → c = (46 : Int32) → ¬ ((σ.1 1201) + (1 : Int32)) = 0) : mm_Runs d 17 (0, [some (.ref 12), some (.int a), some (.int c)], [], HH x σ) (some (.int (mm_b (p_goesOn σ a c))), HH x (g_goesOn σ a c)) := by
  refine vc_goesOn (by omega) (fun h1 h2 => by first | rfl | (simp [p_goesOn, mm_b, g_goesOn, h1, h2]; done) | (simp_all [p_goesOn, mm_b, g_goesOn]; done) | grind [p_goesOn, mm_b, g_goesOn]) (fun h1 h2 => by first | rfl | (simp [p_goesOn, mm_b, g_goesOn, h1, h2]; done) | (simp_all [p_goesOn, mm_b, g_goesOn]; done) | grind [p_goesOn, mm_b, g_goesOn]) (fun h1 h2 => by first | rfl | (simp [p_goesOn, mm_b, g_goesOn, h1, h2]; done) | (simp_all [p_goesOn, mm_b, g_goesOn]; done) | grind [p_goesOn, mm_b, g_goesOn]) (fun h1 h2 h3 => by first | rfl | (simp [p_goesOn, mm_b, g_goesOn, h1, h2, h3]; done) | (simp_all [p_goesOn, mm_b, g_goesOn]; done) | grind [p_goesOn, mm_b, g_goesOn]) (fun h1 h2 h3 => by first | rfl | (simp [p_goesOn, mm_b, g_goesOn, h1, h2, h3]; done) | (simp_all [p_goesOn, mm_b, g_goesOn]; done) | grind [p_goesOn, mm_b, g_goesOn]) (fun h1 h2 => by first | rfl | (simp [p_goesOn, mm_b, g_goesOn, h1, h2]; done) | (simp_all [p_goesOn, mm_b, g_goesOn]; done) | grind [p_goesOn, mm_b, g_goesOn]) (fun h1 h2 h3 => by first | rfl | (simp [p_goesOn, mm_b, g_goesOn, h1, h2, h3]; done) | (simp_all [p_goesOn, mm_b, g_goesOn]; done) | grind [p_goesOn, mm_b, g_goesOn]) (fun h1 h2 h3 => by first | rfl | (simp [p_goesOn, mm_b, g_goesOn, h1, h2, h3]; done) | (simp_all [p_goesOn, mm_b, g_goesOn]; done) | grind [p_goesOn, mm_b, g_goesOn]) (fun h1 h2 => by first | rfl | (simp [p_goesOn, mm_b, g_goesOn, h1, h2]; done) | (simp_all [p_goesOn, mm_b, g_goesOn]; done) | grind [p_goesOn, mm_b, g_goesOn]) p0 p1 (fun h1 h2 h3 => by first | rfl | (simp [p_goesOn, mm_b, g_goesOn, h1, h2, h3]; done) | (simp_all [p_goesOn, mm_b, g_goesOn]; done) | grind [p_goesOn, mm_b, g_goesOn]) (fun h1 h2 h3 => by first | rfl | (simp [p_goesOn, mm_b, g_goesOn, h1, h2, h3]; done) | (simp_all [p_goesOn, mm_b, g_goesOn]; done) | grind [p_goesOn, mm_b, g_goesOn])
theorem vc_isOfAnother_4 {d : Nat} {x : Nat × (Nat → Int32)} {σ : mm_S} {k : Int32} {r : Option Value × mm_H} (k1 : (σ.1 401) = 0 → (some (.int (0 : Int32)), HH x σ) = r) (k2 : ¬ (σ.1 401) = 0 → (σ.1 402) = k → (some (.int (0 : Int32)), HH x σ) = r) (k3 : ¬ (σ.1 401) = 0 → ¬ (σ.1 402) = k → (some (.int (1 : Int32)), HH x σ) = r) : mm_Runs d 20 (0, [some (.ref 4), some (.int k)], [], HH x σ) r := by
  refine mm_go 3 (F' := (bif mm_cond .eq (σ.1 401) 0 then 19 else 7, [some (.ref 4), some (.int k)], [], HH x σ)) rfl ?_
  refine mb_eq (fun h1 => ?_) (fun h1 => ?_)
  · refine mm_go 1 (F' := (20, [some (.ref 4), some (.int k)], [.int (0 : Int32)], HH x σ)) rfl ?_
    exact mm_rtz rfl rfl (Or.inl rfl) (k1 h1)
  · refine mm_go 4 (F' := (bif mm_cond .eq (σ.1 402) k then 19 else 15, [some (.ref 4), some (.int k)], [], HH x σ)) rfl ?_
    refine mb_eq (fun h2 => ?_) (fun h2 => ?_)
    · refine mm_go 1 (F' := (20, [some (.ref 4), some (.int k)], [.int (0 : Int32)], HH x σ)) rfl ?_
      exact mm_rtz rfl rfl (Or.inl rfl) (k2 h1 h2)
    · refine mm_go 2 (F' := (20, [some (.ref 4), some (.int k)], [.int (1 : Int32)], HH x σ)) rfl ?_
      exact mm_rtz rfl rfl (Or.inr rfl) (k3 h1 h2)
abbrev p_isOfAnother_4 (σ : mm_S) (k : Int32) : Prop := (¬ ((σ.1 401) = 0) ∧ ¬ ((σ.1 402) = k))
theorem r_isOfAnother_4 {d : Nat} {x : Nat × (Nat → Int32)} {σ : mm_S} {k : Int32} (hd : 0 ≤ d) : mm_Runs d 20 (0, [some (.ref 4), some (.int k)], [], HH x σ) (some (.int (mm_b (p_isOfAnother_4 σ k))), HH x σ) := by
  refine vc_isOfAnother_4 (fun h1 => by first | rfl | (simp [p_isOfAnother_4, mm_b, h1]; done) | (simp_all [p_isOfAnother_4, mm_b]; done) | grind [p_isOfAnother_4, mm_b]) (fun h1 h2 => by first | rfl | (simp [p_isOfAnother_4, mm_b, h1, h2]; done) | (simp_all [p_isOfAnother_4, mm_b]; done) | grind [p_isOfAnother_4, mm_b]) (fun h1 h2 => by first | rfl | (simp [p_isOfAnother_4, mm_b, h1, h2]; done) | (simp_all [p_isOfAnother_4, mm_b]; done) | grind [p_isOfAnother_4, mm_b])
theorem vc_hasCells_4 {d : Nat} {x : Nat × (Nat → Int32)} {σ : mm_S} {i : Int32} {n : Int32} {r : Option Value × mm_H} (k1 : i < 0 → (some (.int (0 : Int32)), HH x σ) = r) (k2 : ¬ i < 0 → n < 0 → (some (.int (0 : Int32)), HH x σ) = r) (k3 : ¬ i < 0 → ¬ n < 0 → (σ.1 403) < i → (some (.int (0 : Int32)), HH x σ) = r) (k4 : ¬ i < 0 → ¬ n < 0 → ¬ (σ.1 403) < i → ((σ.1 403) - i) < n → (some (.int (0 : Int32)), HH x σ) = r) (k5 : ¬ i < 0 → ¬ n < 0 → ¬ (σ.1 403) < i → ¬ ((σ.1 403) - i) < n → (some (.int (1 : Int32)), HH x σ) = r) : mm_Runs d 21 (0, [some (.ref 4), some (.int i), some (.int n)], [], HH x σ) r := by
  refine mm_go 2 (F' := (bif mm_cond .lt i 0 then 30 else 4, [some (.ref 4), some (.int i), some (.int n)], [], HH x σ)) rfl ?_
  refine mb_lt (fun h1 => ?_) (fun h1 => ?_)
  · refine mm_go 1 (F' := (31, [some (.ref 4), some (.int i), some (.int n)], [.int (0 : Int32)], HH x σ)) rfl ?_
    exact mm_rtz rfl rfl (Or.inl rfl) (k1 h1)
  · refine mm_go 2 (F' := (bif mm_cond .lt n 0 then 30 else 8, [some (.ref 4), some (.int i), some (.int n)], [], HH x σ)) rfl ?_
    refine mb_lt (fun h2 => ?_) (fun h2 => ?_)
    · refine mm_go 1 (F' := (31, [some (.ref 4), some (.int i), some (.int n)], [.int (0 : Int32)], HH x σ)) rfl ?_
      exact mm_rtz rfl rfl (Or.inl rfl) (k2 h1 h2)
    · refine mm_go 4 (F' := (bif mm_cond .gt i (σ.1 403) then 30 else 16, [some (.ref 4), some (.int i), some (.int n)], [], HH x σ)) rfl ?_
      refine mb_gt (fun h3 => ?_) (fun h3 => ?_)
      · refine mm_go 1 (F' := (31, [some (.ref 4), some (.int i), some (.int n)], [.int (0 : Int32)], HH x σ)) rfl ?_
        exact mm_rtz rfl rfl (Or.inl rfl) (k3 h1 h2 h3)
      · refine mm_go 6 (F' := (bif mm_cond .gt n ((σ.1 403) - i) then 30 else 26, [some (.ref 4), some (.int i), some (.int n)], [], HH x σ)) rfl ?_
        refine mb_gt (fun h4 => ?_) (fun h4 => ?_)
        · refine mm_go 1 (F' := (31, [some (.ref 4), some (.int i), some (.int n)], [.int (0 : Int32)], HH x σ)) rfl ?_
          exact mm_rtz rfl rfl (Or.inl rfl) (k4 h1 h2 h3 h4)
        · refine mm_go 2 (F' := (31, [some (.ref 4), some (.int i), some (.int n)], [.int (1 : Int32)], HH x σ)) rfl ?_
          exact mm_rtz rfl rfl (Or.inr rfl) (k5 h1 h2 h3 h4)
abbrev p_hasCells_4 (σ : mm_S) (i : Int32) (n : Int32) : Prop := (¬ (i < 0) ∧ (¬ (n < 0) ∧ (¬ ((σ.1 403) < i) ∧ ¬ (((σ.1 403) - i) < n))))
theorem r_hasCells_4 {d : Nat} {x : Nat × (Nat → Int32)} {σ : mm_S} {i : Int32} {n : Int32} (hd : 0 ≤ d) : mm_Runs d 21 (0, [some (.ref 4), some (.int i), some (.int n)], [], HH x σ) (some (.int (mm_b (p_hasCells_4 σ i n))), HH x σ) := by
  refine vc_hasCells_4 (fun h1 => by first | rfl | (simp [p_hasCells_4, mm_b, h1]; done) | (simp_all [p_hasCells_4, mm_b]; done) | grind [p_hasCells_4, mm_b]) (fun h1 h2 => by first | rfl | (simp [p_hasCells_4, mm_b, h1, h2]; done) | (simp_all [p_hasCells_4, mm_b]; done) | grind [p_hasCells_4, mm_b]) (fun h1 h2 h3 => by first | rfl | (simp [p_hasCells_4, mm_b, h1, h2, h3]; done) | (simp_all [p_hasCells_4, mm_b]; done) | grind [p_hasCells_4, mm_b]) (fun h1 h2 h3 h4 => by first | rfl | (simp [p_hasCells_4, mm_b, h1, h2, h3, h4]; done) | (simp_all [p_hasCells_4, mm_b]; done) | grind [p_hasCells_4, mm_b]) (fun h1 h2 h3 h4 => by first | rfl | (simp [p_hasCells_4, mm_b, h1, h2, h3, h4]; done) | (simp_all [p_hasCells_4, mm_b]; done) | grind [p_hasCells_4, mm_b])
theorem vc_take_4 {d : Nat} {x : Nat × (Nat → Int32)} {σ : mm_S} {i : Int32} {v : Int32} {r : Option Value × mm_H} (k1 : ¬ (σ.1 402) = 0 → ¬ (σ.1 402) = (1 : Int32) → ¬ (i < 0 ∨ 60 ≤ i.toNatClampNeg)) (k2 : ¬ (σ.1 402) = 0 → ¬ (σ.1 402) = (1 : Int32) → (none, HH x (ua σ 8 (upd (σ.2.2.1 8) i.toNatClampNeg v))) = r) (k3 : ¬ (σ.1 402) = 0 → (σ.1 402) = (1 : Int32) → ¬ (i < 0 ∨ 60 ≤ i.toNatClampNeg)) (k4 : ¬ (σ.1 402) = 0 → (σ.1 402) = (1 : Int32) → (none, HH x (ua σ 8 (upd (σ.2.2.1 8) i.toNatClampNeg ((Int32.toInt16 v).toInt32)))) = r) (k5 : (σ.1 402) = 0 → ¬ (i < 0 ∨ 60 ≤ i.toNatClampNeg)) (k6 : (σ.1 402) = 0 → (none, HH x (ua σ 8 (upd (σ.2.2.1 8) i.toNatClampNeg ((Int32.toInt8 v).toInt32)))) = r) : mm_Runs d 22 (0, [some (.ref 4), some (.int i), some (.int v)], [], HH x σ) r := by
  refine mm_go 3 (F' := (bif mm_cond .ne (σ.1 402) 0 then 18 else 7, [some (.ref 4), some (.int i), some (.int v)], [], HH x σ)) rfl ?_
  refine mb_ne (fun h1 => ?_) (fun h1 => ?_)
  · refine mm_go 7 (F' := (bif mm_cond .ne (σ.1 402) (1 : Int32) then 36 else 31, [some (.ref 4), some (.int i), some (.int v)], [.int i, .ref 8], HH x σ)) rfl ?_
    refine mb_ne (fun h2 => ?_) (fun h2 => ?_)
    · refine mm_go 1 (F' := (37, [some (.ref 4), some (.int i), some (.int v)], [.int v, .int i, .ref 8], HH x σ)) rfl ?_
      refine mm_gd (F' := (38, [some (.ref 4), some (.int i), some (.int v)], [], HH x (ua σ 8 (upd (σ.2.2.1 8) i.toNatClampNeg v)))) rfl (k1 h1 h2) ?_
      exact mm_rt rfl rfl (k2 h1 h2)
    · refine mm_go 3 (F' := (37, [some (.ref 4), some (.int i), some (.int v)], [.int ((Int32.toInt16 v).toInt32), .int i, .ref 8], HH x σ)) rfl ?_
      refine mm_gd (F' := (38, [some (.ref 4), some (.int i), some (.int v)], [], HH x (ua σ 8 (upd (σ.2.2.1 8) i.toNatClampNeg ((Int32.toInt16 v).toInt32))))) rfl (k3 h1 h2) ?_
      exact mm_rt rfl rfl (k4 h1 h2)
  · refine mm_go 5 (F' := (14, [some (.ref 4), some (.int i), some (.int v)], [.int ((Int32.toInt8 v).toInt32), .int i, .ref 8], HH x σ)) rfl ?_
    refine mm_gd (F' := (15, [some (.ref 4), some (.int i), some (.int v)], [], HH x (ua σ 8 (upd (σ.2.2.1 8) i.toNatClampNeg ((Int32.toInt8 v).toInt32))))) rfl (k5 h1) ?_
    refine mm_go 1 (F' := (38, [some (.ref 4), some (.int i), some (.int v)], [], HH x (ua σ 8 (upd (σ.2.2.1 8) i.toNatClampNeg ((Int32.toInt8 v).toInt32))))) rfl ?_
    exact mm_rt rfl rfl (k6 h1)
def g_take_4 (σ : mm_S) (i : Int32) (v : Int32) : mm_S := (if (σ.1 402) = 0 then (ua σ 8 (upd (σ.2.2.1 8) i.toNatClampNeg ((Int32.toInt8 v).toInt32))) else (if (σ.1 402) = (1 : Int32) then (ua σ 8 (upd (σ.2.2.1 8) i.toNatClampNeg ((Int32.toInt16 v).toInt32))) else (ua σ 8 (upd (σ.2.2.1 8) i.toNatClampNeg v))))
theorem r_take_4 {d : Nat} {x : Nat × (Nat → Int32)} {σ : mm_S} {i : Int32} {v : Int32} (hd : 0 ≤ d) (p0 : ¬ (σ.1 402) = 0 → ¬ (σ.1 402) = (1 : Int32) → ¬ (i < 0 ∨ 60 ≤ i.toNatClampNeg)) (p1 : ¬ (σ.1 402) = 0 → (σ.1 402) = (1 : Int32) → ¬ (i < 0 ∨ 60 ≤ i.toNatClampNeg)) (p2 : (σ.1 402) = 0 → ¬ (i < 0 ∨ 60 ≤ i.toNatClampNeg)) : mm_Runs d 22 (0, [some (.ref 4), some (.int i), some (.int v)], [], HH x σ) (none, HH x (g_take_4 σ i v)) := by
  refine vc_take_4 p0 (fun h1 h2 => by first | rfl | (simp [g_take_4, h1, h2]; done) | (simp_all [g_take_4]; done) | grind [g_take_4]) p1 (fun h1 h2 => by first | rfl | (simp [g_take_4, h1, h2]; done) | (simp_all [g_take_4]; done) | grind [g_take_4]) p2 (fun h1 => by first | rfl | (simp [g_take_4, h1]; done) | (simp_all [g_take_4]; done) | grind [g_take_4])
theorem vc_isOfAnother_5 {d : Nat} {x : Nat × (Nat → Int32)} {σ : mm_S} {k : Int32} {r : Option Value × mm_H} (k1 : (σ.1 501) = 0 → (some (.int (0 : Int32)), HH x σ) = r) (k2 : ¬ (σ.1 501) = 0 → (σ.1 502) = k → (some (.int (0 : Int32)), HH x σ) = r) (k3 : ¬ (σ.1 501) = 0 → ¬ (σ.1 502) = k → (some (.int (1 : Int32)), HH x σ) = r) : mm_Runs d 20 (0, [some (.ref 5), some (.int k)], [], HH x σ) r := by
  refine mm_go 3 (F' := (bif mm_cond .eq (σ.1 501) 0 then 19 else 7, [some (.ref 5), some (.int k)], [], HH x σ)) rfl ?_
  refine mb_eq (fun h1 => ?_) (fun h1 => ?_)
  · refine mm_go 1 (F' := (20, [some (.ref 5), some (.int k)], [.int (0 : Int32)], HH x σ)) rfl ?_
    exact mm_rtz rfl rfl (Or.inl rfl) (k1 h1)
  · refine mm_go 4 (F' := (bif mm_cond .eq (σ.1 502) k then 19 else 15, [some (.ref 5), some (.int k)], [], HH x σ)) rfl ?_
    refine mb_eq (fun h2 => ?_) (fun h2 => ?_)
    · refine mm_go 1 (F' := (20, [some (.ref 5), some (.int k)], [.int (0 : Int32)], HH x σ)) rfl ?_
      exact mm_rtz rfl rfl (Or.inl rfl) (k2 h1 h2)
    · refine mm_go 2 (F' := (20, [some (.ref 5), some (.int k)], [.int (1 : Int32)], HH x σ)) rfl ?_
      exact mm_rtz rfl rfl (Or.inr rfl) (k3 h1 h2)
abbrev p_isOfAnother_5 (σ : mm_S) (k : Int32) : Prop := (¬ ((σ.1 501) = 0) ∧ ¬ ((σ.1 502) = k))
theorem r_isOfAnother_5 {d : Nat} {x : Nat × (Nat → Int32)} {σ : mm_S} {k : Int32} (hd : 0 ≤ d) : mm_Runs d 20 (0, [some (.ref 5), some (.int k)], [], HH x σ) (some (.int (mm_b (p_isOfAnother_5 σ k))), HH x σ) := by
  refine vc_isOfAnother_5 (fun h1 => by first | rfl | (simp [p_isOfAnother_5, mm_b, h1]; done) | (simp_all [p_isOfAnother_5, mm_b]; done) | grind [p_isOfAnother_5, mm_b]) (fun h1 h2 => by first | rfl | (simp [p_isOfAnother_5, mm_b, h1, h2]; done) | (simp_all [p_isOfAnother_5, mm_b]; done) | grind [p_isOfAnother_5, mm_b]) (fun h1 h2 => by first | rfl | (simp [p_isOfAnother_5, mm_b, h1, h2]; done) | (simp_all [p_isOfAnother_5, mm_b]; done) | grind [p_isOfAnother_5, mm_b])
theorem vc_hasCells_5 {d : Nat} {x : Nat × (Nat → Int32)} {σ : mm_S} {i : Int32} {n : Int32} {r : Option Value × mm_H} (k1 : i < 0 → (some (.int (0 : Int32)), HH x σ) = r) (k2 : ¬ i < 0 → n < 0 → (some (.int (0 : Int32)), HH x σ) = r) (k3 : ¬ i < 0 → ¬ n < 0 → (σ.1 503) < i → (some (.int (0 : Int32)), HH x σ) = r) (k4 : ¬ i < 0 → ¬ n < 0 → ¬ (σ.1 503) < i → ((σ.1 503) - i) < n → (some (.int (0 : Int32)), HH x σ) = r) (k5 : ¬ i < 0 → ¬ n < 0 → ¬ (σ.1 503) < i → ¬ ((σ.1 503) - i) < n → (some (.int (1 : Int32)), HH x σ) = r) : mm_Runs d 21 (0, [some (.ref 5), some (.int i), some (.int n)], [], HH x σ) r := by
  refine mm_go 2 (F' := (bif mm_cond .lt i 0 then 30 else 4, [some (.ref 5), some (.int i), some (.int n)], [], HH x σ)) rfl ?_
  refine mb_lt (fun h1 => ?_) (fun h1 => ?_)
  · refine mm_go 1 (F' := (31, [some (.ref 5), some (.int i), some (.int n)], [.int (0 : Int32)], HH x σ)) rfl ?_
    exact mm_rtz rfl rfl (Or.inl rfl) (k1 h1)
  · refine mm_go 2 (F' := (bif mm_cond .lt n 0 then 30 else 8, [some (.ref 5), some (.int i), some (.int n)], [], HH x σ)) rfl ?_
    refine mb_lt (fun h2 => ?_) (fun h2 => ?_)
    · refine mm_go 1 (F' := (31, [some (.ref 5), some (.int i), some (.int n)], [.int (0 : Int32)], HH x σ)) rfl ?_
      exact mm_rtz rfl rfl (Or.inl rfl) (k2 h1 h2)
    · refine mm_go 4 (F' := (bif mm_cond .gt i (σ.1 503) then 30 else 16, [some (.ref 5), some (.int i), some (.int n)], [], HH x σ)) rfl ?_
      refine mb_gt (fun h3 => ?_) (fun h3 => ?_)
      · refine mm_go 1 (F' := (31, [some (.ref 5), some (.int i), some (.int n)], [.int (0 : Int32)], HH x σ)) rfl ?_
        exact mm_rtz rfl rfl (Or.inl rfl) (k3 h1 h2 h3)
      · refine mm_go 6 (F' := (bif mm_cond .gt n ((σ.1 503) - i) then 30 else 26, [some (.ref 5), some (.int i), some (.int n)], [], HH x σ)) rfl ?_
        refine mb_gt (fun h4 => ?_) (fun h4 => ?_)
        · refine mm_go 1 (F' := (31, [some (.ref 5), some (.int i), some (.int n)], [.int (0 : Int32)], HH x σ)) rfl ?_
          exact mm_rtz rfl rfl (Or.inl rfl) (k4 h1 h2 h3 h4)
        · refine mm_go 2 (F' := (31, [some (.ref 5), some (.int i), some (.int n)], [.int (1 : Int32)], HH x σ)) rfl ?_
          exact mm_rtz rfl rfl (Or.inr rfl) (k5 h1 h2 h3 h4)
abbrev p_hasCells_5 (σ : mm_S) (i : Int32) (n : Int32) : Prop := (¬ (i < 0) ∧ (¬ (n < 0) ∧ (¬ ((σ.1 503) < i) ∧ ¬ (((σ.1 503) - i) < n))))
theorem r_hasCells_5 {d : Nat} {x : Nat × (Nat → Int32)} {σ : mm_S} {i : Int32} {n : Int32} (hd : 0 ≤ d) : mm_Runs d 21 (0, [some (.ref 5), some (.int i), some (.int n)], [], HH x σ) (some (.int (mm_b (p_hasCells_5 σ i n))), HH x σ) := by
  refine vc_hasCells_5 (fun h1 => by first | rfl | (simp [p_hasCells_5, mm_b, h1]; done) | (simp_all [p_hasCells_5, mm_b]; done) | grind [p_hasCells_5, mm_b]) (fun h1 h2 => by first | rfl | (simp [p_hasCells_5, mm_b, h1, h2]; done) | (simp_all [p_hasCells_5, mm_b]; done) | grind [p_hasCells_5, mm_b]) (fun h1 h2 h3 => by first | rfl | (simp [p_hasCells_5, mm_b, h1, h2, h3]; done) | (simp_all [p_hasCells_5, mm_b]; done) | grind [p_hasCells_5, mm_b]) (fun h1 h2 h3 h4 => by first | rfl | (simp [p_hasCells_5, mm_b, h1, h2, h3, h4]; done) | (simp_all [p_hasCells_5, mm_b]; done) | grind [p_hasCells_5, mm_b]) (fun h1 h2 h3 h4 => by first | rfl | (simp [p_hasCells_5, mm_b, h1, h2, h3, h4]; done) | (simp_all [p_hasCells_5, mm_b]; done) | grind [p_hasCells_5, mm_b])
theorem vc_take_5 {d : Nat} {x : Nat × (Nat → Int32)} {σ : mm_S} {i : Int32} {v : Int32} {r : Option Value × mm_H} (k1 : ¬ (σ.1 502) = 0 → ¬ (σ.1 502) = (1 : Int32) → ¬ (i < 0 ∨ 60 ≤ i.toNatClampNeg)) (k2 : ¬ (σ.1 502) = 0 → ¬ (σ.1 502) = (1 : Int32) → (none, HH x (ua σ 9 (upd (σ.2.2.1 9) i.toNatClampNeg v))) = r) (k3 : ¬ (σ.1 502) = 0 → (σ.1 502) = (1 : Int32) → ¬ (i < 0 ∨ 60 ≤ i.toNatClampNeg)) (k4 : ¬ (σ.1 502) = 0 → (σ.1 502) = (1 : Int32) → (none, HH x (ua σ 9 (upd (σ.2.2.1 9) i.toNatClampNeg ((Int32.toInt16 v).toInt32)))) = r) (k5 : (σ.1 502) = 0 → ¬ (i < 0 ∨ 60 ≤ i.toNatClampNeg)) (k6 : (σ.1 502) = 0 → (none, HH x (ua σ 9 (upd (σ.2.2.1 9) i.toNatClampNeg ((Int32.toInt8 v).toInt32)))) = r) : mm_Runs d 22 (0, [some (.ref 5), some (.int i), some (.int v)], [], HH x σ) r := by
  refine mm_go 3 (F' := (bif mm_cond .ne (σ.1 502) 0 then 18 else 7, [some (.ref 5), some (.int i), some (.int v)], [], HH x σ)) rfl ?_
  refine mb_ne (fun h1 => ?_) (fun h1 => ?_)
  · refine mm_go 7 (F' := (bif mm_cond .ne (σ.1 502) (1 : Int32) then 36 else 31, [some (.ref 5), some (.int i), some (.int v)], [.int i, .ref 9], HH x σ)) rfl ?_
    refine mb_ne (fun h2 => ?_) (fun h2 => ?_)
    · refine mm_go 1 (F' := (37, [some (.ref 5), some (.int i), some (.int v)], [.int v, .int i, .ref 9], HH x σ)) rfl ?_
      refine mm_gd (F' := (38, [some (.ref 5), some (.int i), some (.int v)], [], HH x (ua σ 9 (upd (σ.2.2.1 9) i.toNatClampNeg v)))) rfl (k1 h1 h2) ?_
      exact mm_rt rfl rfl (k2 h1 h2)
    · refine mm_go 3 (F' := (37, [some (.ref 5), some (.int i), some (.int v)], [.int ((Int32.toInt16 v).toInt32), .int i, .ref 9], HH x σ)) rfl ?_
      refine mm_gd (F' := (38, [some (.ref 5), some (.int i), some (.int v)], [], HH x (ua σ 9 (upd (σ.2.2.1 9) i.toNatClampNeg ((Int32.toInt16 v).toInt32))))) rfl (k3 h1 h2) ?_
      exact mm_rt rfl rfl (k4 h1 h2)
  · refine mm_go 5 (F' := (14, [some (.ref 5), some (.int i), some (.int v)], [.int ((Int32.toInt8 v).toInt32), .int i, .ref 9], HH x σ)) rfl ?_
    refine mm_gd (F' := (15, [some (.ref 5), some (.int i), some (.int v)], [], HH x (ua σ 9 (upd (σ.2.2.1 9) i.toNatClampNeg ((Int32.toInt8 v).toInt32))))) rfl (k5 h1) ?_
    refine mm_go 1 (F' := (38, [some (.ref 5), some (.int i), some (.int v)], [], HH x (ua σ 9 (upd (σ.2.2.1 9) i.toNatClampNeg ((Int32.toInt8 v).toInt32))))) rfl ?_
    exact mm_rt rfl rfl (k6 h1)
def g_take_5 (σ : mm_S) (i : Int32) (v : Int32) : mm_S := (if (σ.1 502) = 0 then (ua σ 9 (upd (σ.2.2.1 9) i.toNatClampNeg ((Int32.toInt8 v).toInt32))) else (if (σ.1 502) = (1 : Int32) then (ua σ 9 (upd (σ.2.2.1 9) i.toNatClampNeg ((Int32.toInt16 v).toInt32))) else (ua σ 9 (upd (σ.2.2.1 9) i.toNatClampNeg v))))
theorem r_take_5 {d : Nat} {x : Nat × (Nat → Int32)} {σ : mm_S} {i : Int32} {v : Int32} (hd : 0 ≤ d) (p0 : ¬ (σ.1 502) = 0 → ¬ (σ.1 502) = (1 : Int32) → ¬ (i < 0 ∨ 60 ≤ i.toNatClampNeg)) (p1 : ¬ (σ.1 502) = 0 → (σ.1 502) = (1 : Int32) → ¬ (i < 0 ∨ 60 ≤ i.toNatClampNeg)) (p2 : (σ.1 502) = 0 → ¬ (i < 0 ∨ 60 ≤ i.toNatClampNeg)) : mm_Runs d 22 (0, [some (.ref 5), some (.int i), some (.int v)], [], HH x σ) (none, HH x (g_take_5 σ i v)) := by
  refine vc_take_5 p0 (fun h1 h2 => by first | rfl | (simp [g_take_5, h1, h2]; done) | (simp_all [g_take_5]; done) | grind [g_take_5]) p1 (fun h1 h2 => by first | rfl | (simp [g_take_5, h1, h2]; done) | (simp_all [g_take_5]; done) | grind [g_take_5]) p2 (fun h1 => by first | rfl | (simp [g_take_5, h1]; done) | (simp_all [g_take_5]; done) | grind [g_take_5])
theorem vc_isOfAnother_6 {d : Nat} {x : Nat × (Nat → Int32)} {σ : mm_S} {k : Int32} {r : Option Value × mm_H} (k1 : (σ.1 601) = 0 → (some (.int (0 : Int32)), HH x σ) = r) (k2 : ¬ (σ.1 601) = 0 → (σ.1 602) = k → (some (.int (0 : Int32)), HH x σ) = r) (k3 : ¬ (σ.1 601) = 0 → ¬ (σ.1 602) = k → (some (.int (1 : Int32)), HH x σ) = r) : mm_Runs d 20 (0, [some (.ref 6), some (.int k)], [], HH x σ) r := by
  refine mm_go 3 (F' := (bif mm_cond .eq (σ.1 601) 0 then 19 else 7, [some (.ref 6), some (.int k)], [], HH x σ)) rfl ?_
  refine mb_eq (fun h1 => ?_) (fun h1 => ?_)
  · refine mm_go 1 (F' := (20, [some (.ref 6), some (.int k)], [.int (0 : Int32)], HH x σ)) rfl ?_
    exact mm_rtz rfl rfl (Or.inl rfl) (k1 h1)
  · refine mm_go 4 (F' := (bif mm_cond .eq (σ.1 602) k then 19 else 15, [some (.ref 6), some (.int k)], [], HH x σ)) rfl ?_
    refine mb_eq (fun h2 => ?_) (fun h2 => ?_)
    · refine mm_go 1 (F' := (20, [some (.ref 6), some (.int k)], [.int (0 : Int32)], HH x σ)) rfl ?_
      exact mm_rtz rfl rfl (Or.inl rfl) (k2 h1 h2)
    · refine mm_go 2 (F' := (20, [some (.ref 6), some (.int k)], [.int (1 : Int32)], HH x σ)) rfl ?_
      exact mm_rtz rfl rfl (Or.inr rfl) (k3 h1 h2)
abbrev p_isOfAnother_6 (σ : mm_S) (k : Int32) : Prop := (¬ ((σ.1 601) = 0) ∧ ¬ ((σ.1 602) = k))
theorem r_isOfAnother_6 {d : Nat} {x : Nat × (Nat → Int32)} {σ : mm_S} {k : Int32} (hd : 0 ≤ d) : mm_Runs d 20 (0, [some (.ref 6), some (.int k)], [], HH x σ) (some (.int (mm_b (p_isOfAnother_6 σ k))), HH x σ) := by
  refine vc_isOfAnother_6 (fun h1 => by first | rfl | (simp [p_isOfAnother_6, mm_b, h1]; done) | (simp_all [p_isOfAnother_6, mm_b]; done) | grind [p_isOfAnother_6, mm_b]) (fun h1 h2 => by first | rfl | (simp [p_isOfAnother_6, mm_b, h1, h2]; done) | (simp_all [p_isOfAnother_6, mm_b]; done) | grind [p_isOfAnother_6, mm_b]) (fun h1 h2 => by first | rfl | (simp [p_isOfAnother_6, mm_b, h1, h2]; done) | (simp_all [p_isOfAnother_6, mm_b]; done) | grind [p_isOfAnother_6, mm_b])
theorem vc_hasCells_6 {d : Nat} {x : Nat × (Nat → Int32)} {σ : mm_S} {i : Int32} {n : Int32} {r : Option Value × mm_H} (k1 : i < 0 → (some (.int (0 : Int32)), HH x σ) = r) (k2 : ¬ i < 0 → n < 0 → (some (.int (0 : Int32)), HH x σ) = r) (k3 : ¬ i < 0 → ¬ n < 0 → (σ.1 603) < i → (some (.int (0 : Int32)), HH x σ) = r) (k4 : ¬ i < 0 → ¬ n < 0 → ¬ (σ.1 603) < i → ((σ.1 603) - i) < n → (some (.int (0 : Int32)), HH x σ) = r) (k5 : ¬ i < 0 → ¬ n < 0 → ¬ (σ.1 603) < i → ¬ ((σ.1 603) - i) < n → (some (.int (1 : Int32)), HH x σ) = r) : mm_Runs d 21 (0, [some (.ref 6), some (.int i), some (.int n)], [], HH x σ) r := by
  refine mm_go 2 (F' := (bif mm_cond .lt i 0 then 30 else 4, [some (.ref 6), some (.int i), some (.int n)], [], HH x σ)) rfl ?_
  refine mb_lt (fun h1 => ?_) (fun h1 => ?_)
  · refine mm_go 1 (F' := (31, [some (.ref 6), some (.int i), some (.int n)], [.int (0 : Int32)], HH x σ)) rfl ?_
    exact mm_rtz rfl rfl (Or.inl rfl) (k1 h1)
  · refine mm_go 2 (F' := (bif mm_cond .lt n 0 then 30 else 8, [some (.ref 6), some (.int i), some (.int n)], [], HH x σ)) rfl ?_
    refine mb_lt (fun h2 => ?_) (fun h2 => ?_)
    · refine mm_go 1 (F' := (31, [some (.ref 6), some (.int i), some (.int n)], [.int (0 : Int32)], HH x σ)) rfl ?_
      exact mm_rtz rfl rfl (Or.inl rfl) (k2 h1 h2)
    · refine mm_go 4 (F' := (bif mm_cond .gt i (σ.1 603) then 30 else 16, [some (.ref 6), some (.int i), some (.int n)], [], HH x σ)) rfl ?_
      refine mb_gt (fun h3 => ?_) (fun h3 => ?_)
      · refine mm_go 1 (F' := (31, [some (.ref 6), some (.int i), some (.int n)], [.int (0 : Int32)], HH x σ)) rfl ?_
        exact mm_rtz rfl rfl (Or.inl rfl) (k3 h1 h2 h3)
      · refine mm_go 6 (F' := (bif mm_cond .gt n ((σ.1 603) - i) then 30 else 26, [some (.ref 6), some (.int i), some (.int n)], [], HH x σ)) rfl ?_
        refine mb_gt (fun h4 => ?_) (fun h4 => ?_)
        · refine mm_go 1 (F' := (31, [some (.ref 6), some (.int i), some (.int n)], [.int (0 : Int32)], HH x σ)) rfl ?_
          exact mm_rtz rfl rfl (Or.inl rfl) (k4 h1 h2 h3 h4)
        · refine mm_go 2 (F' := (31, [some (.ref 6), some (.int i), some (.int n)], [.int (1 : Int32)], HH x σ)) rfl ?_
          exact mm_rtz rfl rfl (Or.inr rfl) (k5 h1 h2 h3 h4)
abbrev p_hasCells_6 (σ : mm_S) (i : Int32) (n : Int32) : Prop := (¬ (i < 0) ∧ (¬ (n < 0) ∧ (¬ ((σ.1 603) < i) ∧ ¬ (((σ.1 603) - i) < n))))
theorem r_hasCells_6 {d : Nat} {x : Nat × (Nat → Int32)} {σ : mm_S} {i : Int32} {n : Int32} (hd : 0 ≤ d) : mm_Runs d 21 (0, [some (.ref 6), some (.int i), some (.int n)], [], HH x σ) (some (.int (mm_b (p_hasCells_6 σ i n))), HH x σ) := by
  refine vc_hasCells_6 (fun h1 => by first | rfl | (simp [p_hasCells_6, mm_b, h1]; done) | (simp_all [p_hasCells_6, mm_b]; done) | grind [p_hasCells_6, mm_b]) (fun h1 h2 => by first | rfl | (simp [p_hasCells_6, mm_b, h1, h2]; done) | (simp_all [p_hasCells_6, mm_b]; done) | grind [p_hasCells_6, mm_b]) (fun h1 h2 h3 => by first | rfl | (simp [p_hasCells_6, mm_b, h1, h2, h3]; done) | (simp_all [p_hasCells_6, mm_b]; done) | grind [p_hasCells_6, mm_b]) (fun h1 h2 h3 h4 => by first | rfl | (simp [p_hasCells_6, mm_b, h1, h2, h3, h4]; done) | (simp_all [p_hasCells_6, mm_b]; done) | grind [p_hasCells_6, mm_b]) (fun h1 h2 h3 h4 => by first | rfl | (simp [p_hasCells_6, mm_b, h1, h2, h3, h4]; done) | (simp_all [p_hasCells_6, mm_b]; done) | grind [p_hasCells_6, mm_b])
theorem vc_take_6 {d : Nat} {x : Nat × (Nat → Int32)} {σ : mm_S} {i : Int32} {v : Int32} {r : Option Value × mm_H} (k1 : ¬ (σ.1 602) = 0 → ¬ (σ.1 602) = (1 : Int32) → ¬ (i < 0 ∨ 60 ≤ i.toNatClampNeg)) (k2 : ¬ (σ.1 602) = 0 → ¬ (σ.1 602) = (1 : Int32) → (none, HH x (ua σ 10 (upd (σ.2.2.1 10) i.toNatClampNeg v))) = r) (k3 : ¬ (σ.1 602) = 0 → (σ.1 602) = (1 : Int32) → ¬ (i < 0 ∨ 60 ≤ i.toNatClampNeg)) (k4 : ¬ (σ.1 602) = 0 → (σ.1 602) = (1 : Int32) → (none, HH x (ua σ 10 (upd (σ.2.2.1 10) i.toNatClampNeg ((Int32.toInt16 v).toInt32)))) = r) (k5 : (σ.1 602) = 0 → ¬ (i < 0 ∨ 60 ≤ i.toNatClampNeg)) (k6 : (σ.1 602) = 0 → (none, HH x (ua σ 10 (upd (σ.2.2.1 10) i.toNatClampNeg ((Int32.toInt8 v).toInt32)))) = r) : mm_Runs d 22 (0, [some (.ref 6), some (.int i), some (.int v)], [], HH x σ) r := by
  refine mm_go 3 (F' := (bif mm_cond .ne (σ.1 602) 0 then 18 else 7, [some (.ref 6), some (.int i), some (.int v)], [], HH x σ)) rfl ?_
  refine mb_ne (fun h1 => ?_) (fun h1 => ?_)
  · refine mm_go 7 (F' := (bif mm_cond .ne (σ.1 602) (1 : Int32) then 36 else 31, [some (.ref 6), some (.int i), some (.int v)], [.int i, .ref 10], HH x σ)) rfl ?_
    refine mb_ne (fun h2 => ?_) (fun h2 => ?_)
    · refine mm_go 1 (F' := (37, [some (.ref 6), some (.int i), some (.int v)], [.int v, .int i, .ref 10], HH x σ)) rfl ?_
      refine mm_gd (F' := (38, [some (.ref 6), some (.int i), some (.int v)], [], HH x (ua σ 10 (upd (σ.2.2.1 10) i.toNatClampNeg v)))) rfl (k1 h1 h2) ?_
      exact mm_rt rfl rfl (k2 h1 h2)
    · refine mm_go 3 (F' := (37, [some (.ref 6), some (.int i), some (.int v)], [.int ((Int32.toInt16 v).toInt32), .int i, .ref 10], HH x σ)) rfl ?_
      refine mm_gd (F' := (38, [some (.ref 6), some (.int i), some (.int v)], [], HH x (ua σ 10 (upd (σ.2.2.1 10) i.toNatClampNeg ((Int32.toInt16 v).toInt32))))) rfl (k3 h1 h2) ?_
      exact mm_rt rfl rfl (k4 h1 h2)
  · refine mm_go 5 (F' := (14, [some (.ref 6), some (.int i), some (.int v)], [.int ((Int32.toInt8 v).toInt32), .int i, .ref 10], HH x σ)) rfl ?_
    refine mm_gd (F' := (15, [some (.ref 6), some (.int i), some (.int v)], [], HH x (ua σ 10 (upd (σ.2.2.1 10) i.toNatClampNeg ((Int32.toInt8 v).toInt32))))) rfl (k5 h1) ?_
    refine mm_go 1 (F' := (38, [some (.ref 6), some (.int i), some (.int v)], [], HH x (ua σ 10 (upd (σ.2.2.1 10) i.toNatClampNeg ((Int32.toInt8 v).toInt32))))) rfl ?_
    exact mm_rt rfl rfl (k6 h1)
def g_take_6 (σ : mm_S) (i : Int32) (v : Int32) : mm_S := (if (σ.1 602) = 0 then (ua σ 10 (upd (σ.2.2.1 10) i.toNatClampNeg ((Int32.toInt8 v).toInt32))) else (if (σ.1 602) = (1 : Int32) then (ua σ 10 (upd (σ.2.2.1 10) i.toNatClampNeg ((Int32.toInt16 v).toInt32))) else (ua σ 10 (upd (σ.2.2.1 10) i.toNatClampNeg v))))
theorem r_take_6 {d : Nat} {x : Nat × (Nat → Int32)} {σ : mm_S} {i : Int32} {v : Int32} (hd : 0 ≤ d) (p0 : ¬ (σ.1 602) = 0 → ¬ (σ.1 602) = (1 : Int32) → ¬ (i < 0 ∨ 60 ≤ i.toNatClampNeg)) (p1 : ¬ (σ.1 602) = 0 → (σ.1 602) = (1 : Int32) → ¬ (i < 0 ∨ 60 ≤ i.toNatClampNeg)) (p2 : (σ.1 602) = 0 → ¬ (i < 0 ∨ 60 ≤ i.toNatClampNeg)) : mm_Runs d 22 (0, [some (.ref 6), some (.int i), some (.int v)], [], HH x σ) (none, HH x (g_take_6 σ i v)) := by
  refine vc_take_6 p0 (fun h1 h2 => by first | rfl | (simp [g_take_6, h1, h2]; done) | (simp_all [g_take_6]; done) | grind [g_take_6]) p1 (fun h1 h2 => by first | rfl | (simp [g_take_6, h1, h2]; done) | (simp_all [g_take_6]; done) | grind [g_take_6]) p2 (fun h1 => by first | rfl | (simp [g_take_6, h1]; done) | (simp_all [g_take_6]; done) | grind [g_take_6])
theorem vc_isOfAnother_7 {d : Nat} {x : Nat × (Nat → Int32)} {σ : mm_S} {k : Int32} {r : Option Value × mm_H} (k1 : (σ.1 701) = 0 → (some (.int (0 : Int32)), HH x σ) = r) (k2 : ¬ (σ.1 701) = 0 → (σ.1 702) = k → (some (.int (0 : Int32)), HH x σ) = r) (k3 : ¬ (σ.1 701) = 0 → ¬ (σ.1 702) = k → (some (.int (1 : Int32)), HH x σ) = r) : mm_Runs d 20 (0, [some (.ref 7), some (.int k)], [], HH x σ) r := by
  refine mm_go 3 (F' := (bif mm_cond .eq (σ.1 701) 0 then 19 else 7, [some (.ref 7), some (.int k)], [], HH x σ)) rfl ?_
  refine mb_eq (fun h1 => ?_) (fun h1 => ?_)
  · refine mm_go 1 (F' := (20, [some (.ref 7), some (.int k)], [.int (0 : Int32)], HH x σ)) rfl ?_
    exact mm_rtz rfl rfl (Or.inl rfl) (k1 h1)
  · refine mm_go 4 (F' := (bif mm_cond .eq (σ.1 702) k then 19 else 15, [some (.ref 7), some (.int k)], [], HH x σ)) rfl ?_
    refine mb_eq (fun h2 => ?_) (fun h2 => ?_)
    · refine mm_go 1 (F' := (20, [some (.ref 7), some (.int k)], [.int (0 : Int32)], HH x σ)) rfl ?_
      exact mm_rtz rfl rfl (Or.inl rfl) (k2 h1 h2)
    · refine mm_go 2 (F' := (20, [some (.ref 7), some (.int k)], [.int (1 : Int32)], HH x σ)) rfl ?_
      exact mm_rtz rfl rfl (Or.inr rfl) (k3 h1 h2)
abbrev p_isOfAnother_7 (σ : mm_S) (k : Int32) : Prop := (¬ ((σ.1 701) = 0) ∧ ¬ ((σ.1 702) = k))
theorem r_isOfAnother_7 {d : Nat} {x : Nat × (Nat → Int32)} {σ : mm_S} {k : Int32} (hd : 0 ≤ d) : mm_Runs d 20 (0, [some (.ref 7), some (.int k)], [], HH x σ) (some (.int (mm_b (p_isOfAnother_7 σ k))), HH x σ) := by
  refine vc_isOfAnother_7 (fun h1 => by first | rfl | (simp [p_isOfAnother_7, mm_b, h1]; done) | (simp_all [p_isOfAnother_7, mm_b]; done) | grind [p_isOfAnother_7, mm_b]) (fun h1 h2 => by first | rfl | (simp [p_isOfAnother_7, mm_b, h1, h2]; done) | (simp_all [p_isOfAnother_7, mm_b]; done) | grind [p_isOfAnother_7, mm_b]) (fun h1 h2 => by first | rfl | (simp [p_isOfAnother_7, mm_b, h1, h2]; done) | (simp_all [p_isOfAnother_7, mm_b]; done) | grind [p_isOfAnother_7, mm_b])
theorem vc_hasCells_7 {d : Nat} {x : Nat × (Nat → Int32)} {σ : mm_S} {i : Int32} {n : Int32} {r : Option Value × mm_H} (k1 : i < 0 → (some (.int (0 : Int32)), HH x σ) = r) (k2 : ¬ i < 0 → n < 0 → (some (.int (0 : Int32)), HH x σ) = r) (k3 : ¬ i < 0 → ¬ n < 0 → (σ.1 703) < i → (some (.int (0 : Int32)), HH x σ) = r) (k4 : ¬ i < 0 → ¬ n < 0 → ¬ (σ.1 703) < i → ((σ.1 703) - i) < n → (some (.int (0 : Int32)), HH x σ) = r) (k5 : ¬ i < 0 → ¬ n < 0 → ¬ (σ.1 703) < i → ¬ ((σ.1 703) - i) < n → (some (.int (1 : Int32)), HH x σ) = r) : mm_Runs d 21 (0, [some (.ref 7), some (.int i), some (.int n)], [], HH x σ) r := by
  refine mm_go 2 (F' := (bif mm_cond .lt i 0 then 30 else 4, [some (.ref 7), some (.int i), some (.int n)], [], HH x σ)) rfl ?_
  refine mb_lt (fun h1 => ?_) (fun h1 => ?_)
  · refine mm_go 1 (F' := (31, [some (.ref 7), some (.int i), some (.int n)], [.int (0 : Int32)], HH x σ)) rfl ?_
    exact mm_rtz rfl rfl (Or.inl rfl) (k1 h1)
  · refine mm_go 2 (F' := (bif mm_cond .lt n 0 then 30 else 8, [some (.ref 7), some (.int i), some (.int n)], [], HH x σ)) rfl ?_
    refine mb_lt (fun h2 => ?_) (fun h2 => ?_)
    · refine mm_go 1 (F' := (31, [some (.ref 7), some (.int i), some (.int n)], [.int (0 : Int32)], HH x σ)) rfl ?_
      exact mm_rtz rfl rfl (Or.inl rfl) (k2 h1 h2)
    · refine mm_go 4 (F' := (bif mm_cond .gt i (σ.1 703) then 30 else 16, [some (.ref 7), some (.int i), some (.int n)], [], HH x σ)) rfl ?_
      refine mb_gt (fun h3 => ?_) (fun h3 => ?_)
      · refine mm_go 1 (F' := (31, [some (.ref 7), some (.int i), some (.int n)], [.int (0 : Int32)], HH x σ)) rfl ?_
        exact mm_rtz rfl rfl (Or.inl rfl) (k3 h1 h2 h3)
      · refine mm_go 6 (F' := (bif mm_cond .gt n ((σ.1 703) - i) then 30 else 26, [some (.ref 7), some (.int i), some (.int n)], [], HH x σ)) rfl ?_
        refine mb_gt (fun h4 => ?_) (fun h4 => ?_)
        · refine mm_go 1 (F' := (31, [some (.ref 7), some (.int i), some (.int n)], [.int (0 : Int32)], HH x σ)) rfl ?_
          exact mm_rtz rfl rfl (Or.inl rfl) (k4 h1 h2 h3 h4)
        · refine mm_go 2 (F' := (31, [some (.ref 7), some (.int i), some (.int n)], [.int (1 : Int32)], HH x σ)) rfl ?_
          exact mm_rtz rfl rfl (Or.inr rfl) (k5 h1 h2 h3 h4)
abbrev p_hasCells_7 (σ : mm_S) (i : Int32) (n : Int32) : Prop := (¬ (i < 0) ∧ (¬ (n < 0) ∧ (¬ ((σ.1 703) < i) ∧ ¬ (((σ.1 703) - i) < n))))
theorem r_hasCells_7 {d : Nat} {x : Nat × (Nat → Int32)} {σ : mm_S} {i : Int32} {n : Int32} (hd : 0 ≤ d) : mm_Runs d 21 (0, [some (.ref 7), some (.int i), some (.int n)], [], HH x σ) (some (.int (mm_b (p_hasCells_7 σ i n))), HH x σ) := by
  refine vc_hasCells_7 (fun h1 => by first | rfl | (simp [p_hasCells_7, mm_b, h1]; done) | (simp_all [p_hasCells_7, mm_b]; done) | grind [p_hasCells_7, mm_b]) (fun h1 h2 => by first | rfl | (simp [p_hasCells_7, mm_b, h1, h2]; done) | (simp_all [p_hasCells_7, mm_b]; done) | grind [p_hasCells_7, mm_b]) (fun h1 h2 h3 => by first | rfl | (simp [p_hasCells_7, mm_b, h1, h2, h3]; done) | (simp_all [p_hasCells_7, mm_b]; done) | grind [p_hasCells_7, mm_b]) (fun h1 h2 h3 h4 => by first | rfl | (simp [p_hasCells_7, mm_b, h1, h2, h3, h4]; done) | (simp_all [p_hasCells_7, mm_b]; done) | grind [p_hasCells_7, mm_b]) (fun h1 h2 h3 h4 => by first | rfl | (simp [p_hasCells_7, mm_b, h1, h2, h3, h4]; done) | (simp_all [p_hasCells_7, mm_b]; done) | grind [p_hasCells_7, mm_b])
theorem vc_take_7 {d : Nat} {x : Nat × (Nat → Int32)} {σ : mm_S} {i : Int32} {v : Int32} {r : Option Value × mm_H} (k1 : ¬ (σ.1 702) = 0 → ¬ (σ.1 702) = (1 : Int32) → ¬ (i < 0 ∨ 60 ≤ i.toNatClampNeg)) (k2 : ¬ (σ.1 702) = 0 → ¬ (σ.1 702) = (1 : Int32) → (none, HH x (ua σ 11 (upd (σ.2.2.1 11) i.toNatClampNeg v))) = r) (k3 : ¬ (σ.1 702) = 0 → (σ.1 702) = (1 : Int32) → ¬ (i < 0 ∨ 60 ≤ i.toNatClampNeg)) (k4 : ¬ (σ.1 702) = 0 → (σ.1 702) = (1 : Int32) → (none, HH x (ua σ 11 (upd (σ.2.2.1 11) i.toNatClampNeg ((Int32.toInt16 v).toInt32)))) = r) (k5 : (σ.1 702) = 0 → ¬ (i < 0 ∨ 60 ≤ i.toNatClampNeg)) (k6 : (σ.1 702) = 0 → (none, HH x (ua σ 11 (upd (σ.2.2.1 11) i.toNatClampNeg ((Int32.toInt8 v).toInt32)))) = r) : mm_Runs d 22 (0, [some (.ref 7), some (.int i), some (.int v)], [], HH x σ) r := by
  refine mm_go 3 (F' := (bif mm_cond .ne (σ.1 702) 0 then 18 else 7, [some (.ref 7), some (.int i), some (.int v)], [], HH x σ)) rfl ?_
  refine mb_ne (fun h1 => ?_) (fun h1 => ?_)
  · refine mm_go 7 (F' := (bif mm_cond .ne (σ.1 702) (1 : Int32) then 36 else 31, [some (.ref 7), some (.int i), some (.int v)], [.int i, .ref 11], HH x σ)) rfl ?_
    refine mb_ne (fun h2 => ?_) (fun h2 => ?_)
    · refine mm_go 1 (F' := (37, [some (.ref 7), some (.int i), some (.int v)], [.int v, .int i, .ref 11], HH x σ)) rfl ?_
      refine mm_gd (F' := (38, [some (.ref 7), some (.int i), some (.int v)], [], HH x (ua σ 11 (upd (σ.2.2.1 11) i.toNatClampNeg v)))) rfl (k1 h1 h2) ?_
      exact mm_rt rfl rfl (k2 h1 h2)
    · refine mm_go 3 (F' := (37, [some (.ref 7), some (.int i), some (.int v)], [.int ((Int32.toInt16 v).toInt32), .int i, .ref 11], HH x σ)) rfl ?_
      refine mm_gd (F' := (38, [some (.ref 7), some (.int i), some (.int v)], [], HH x (ua σ 11 (upd (σ.2.2.1 11) i.toNatClampNeg ((Int32.toInt16 v).toInt32))))) rfl (k3 h1 h2) ?_
      exact mm_rt rfl rfl (k4 h1 h2)
  · refine mm_go 5 (F' := (14, [some (.ref 7), some (.int i), some (.int v)], [.int ((Int32.toInt8 v).toInt32), .int i, .ref 11], HH x σ)) rfl ?_
    refine mm_gd (F' := (15, [some (.ref 7), some (.int i), some (.int v)], [], HH x (ua σ 11 (upd (σ.2.2.1 11) i.toNatClampNeg ((Int32.toInt8 v).toInt32))))) rfl (k5 h1) ?_
    refine mm_go 1 (F' := (38, [some (.ref 7), some (.int i), some (.int v)], [], HH x (ua σ 11 (upd (σ.2.2.1 11) i.toNatClampNeg ((Int32.toInt8 v).toInt32))))) rfl ?_
    exact mm_rt rfl rfl (k6 h1)
def g_take_7 (σ : mm_S) (i : Int32) (v : Int32) : mm_S := (if (σ.1 702) = 0 then (ua σ 11 (upd (σ.2.2.1 11) i.toNatClampNeg ((Int32.toInt8 v).toInt32))) else (if (σ.1 702) = (1 : Int32) then (ua σ 11 (upd (σ.2.2.1 11) i.toNatClampNeg ((Int32.toInt16 v).toInt32))) else (ua σ 11 (upd (σ.2.2.1 11) i.toNatClampNeg v))))
theorem r_take_7 {d : Nat} {x : Nat × (Nat → Int32)} {σ : mm_S} {i : Int32} {v : Int32} (hd : 0 ≤ d) (p0 : ¬ (σ.1 702) = 0 → ¬ (σ.1 702) = (1 : Int32) → ¬ (i < 0 ∨ 60 ≤ i.toNatClampNeg)) (p1 : ¬ (σ.1 702) = 0 → (σ.1 702) = (1 : Int32) → ¬ (i < 0 ∨ 60 ≤ i.toNatClampNeg)) (p2 : (σ.1 702) = 0 → ¬ (i < 0 ∨ 60 ≤ i.toNatClampNeg)) : mm_Runs d 22 (0, [some (.ref 7), some (.int i), some (.int v)], [], HH x σ) (none, HH x (g_take_7 σ i v)) := by
  refine vc_take_7 p0 (fun h1 h2 => by first | rfl | (simp [g_take_7, h1, h2]; done) | (simp_all [g_take_7]; done) | grind [g_take_7]) p1 (fun h1 h2 => by first | rfl | (simp [g_take_7, h1, h2]; done) | (simp_all [g_take_7]; done) | grind [g_take_7]) p2 (fun h1 => by first | rfl | (simp [g_take_7, h1]; done) | (simp_all [g_take_7]; done) | grind [g_take_7])
theorem vc_forgetPlan {d : Nat} {x : Nat × (Nat → Int32)} {σ : mm_S} {r : Option Value × mm_H} (k1 : (none, HH x (ui σ 2904 (0 : Int32))) = r) : mm_Runs d 23 (0, [some (.ref 29)], [], HH x σ) r := by
  refine mm_go 2 (F' := (2, [some (.ref 29)], [.int (0 : Int32), .ref 29], HH x σ)) rfl ?_
  refine mm_gt (c := (0 : Int32) = 0 ∨ (0 : Int32) = 1) (F' := (5, [some (.ref 29)], [], HH x (ui σ 2904 (0 : Int32)))) rfl (Or.inl rfl) ?_
  exact mm_rt rfl rfl k1
def g_forgetPlan (σ : mm_S)  : mm_S := (ui σ 2904 (0 : Int32))
theorem r_forgetPlan {d : Nat} {x : Nat × (Nat → Int32)} {σ : mm_S}  (hd : 0 ≤ d) : mm_Runs d 23 (0, [some (.ref 29)], [], HH x σ) (none, HH x (g_forgetPlan σ )) := by
  refine vc_forgetPlan (by first | rfl | (simp [g_forgetPlan]; done) | (simp_all [g_forgetPlan]; done) | grind [g_forgetPlan])
theorem vc_isSheet {d : Nat} {x : Nat × (Nat → Int32)} {σ : mm_S} {k : Int32} {r : Option Value × mm_H} (k1 : k < 0 → (some (.int (0 : Int32)), HH x σ) = r) (k2 : ¬ k < 0 → (4 : Int32) ≤ k → (some (.int (0 : Int32)), HH x σ) = r) (k3 : ¬ k < 0 → ¬ (4 : Int32) ≤ k → (some (.int (1 : Int32)), HH x σ) = r) : mm_Runs d 71 (0, [some (.int k)], [], HH x σ) r := by
  refine mm_go 2 (F' := (bif mm_cond .lt k 0 then 13 else 4, [some (.int k)], [], HH x σ)) rfl ?_
  refine mb_lt (fun h1 => ?_) (fun h1 => ?_)
  · refine mm_go 1 (F' := (14, [some (.int k)], [.int (0 : Int32)], HH x σ)) rfl ?_
    exact mm_rtz rfl rfl (Or.inl rfl) (k1 h1)
  · refine mm_go 3 (F' := (bif mm_cond .ge k (4 : Int32) then 13 else 9, [some (.int k)], [], HH x σ)) rfl ?_
    refine mb_ge (fun h2 => ?_) (fun h2 => ?_)
    · refine mm_go 1 (F' := (14, [some (.int k)], [.int (0 : Int32)], HH x σ)) rfl ?_
      exact mm_rtz rfl rfl (Or.inl rfl) (k2 h1 h2)
    · refine mm_go 2 (F' := (14, [some (.int k)], [.int (1 : Int32)], HH x σ)) rfl ?_
      exact mm_rtz rfl rfl (Or.inr rfl) (k3 h1 h2)
abbrev p_isSheet (σ : mm_S) (k : Int32) : Prop := (¬ (k < 0) ∧ ¬ ((4 : Int32) ≤ k))
theorem r_isSheet {d : Nat} {x : Nat × (Nat → Int32)} {σ : mm_S} {k : Int32} (hd : 0 ≤ d) : mm_Runs d 71 (0, [some (.int k)], [], HH x σ) (some (.int (mm_b (p_isSheet σ k))), HH x σ) := by
  refine vc_isSheet (fun h1 => by first | rfl | (simp [p_isSheet, mm_b, h1]; done) | (simp_all [p_isSheet, mm_b]; done) | grind [p_isSheet, mm_b]) (fun h1 h2 => by first | rfl | (simp [p_isSheet, mm_b, h1, h2]; done) | (simp_all [p_isSheet, mm_b]; done) | grind [p_isSheet, mm_b]) (fun h1 h2 => by first | rfl | (simp [p_isSheet, mm_b, h1, h2]; done) | (simp_all [p_isSheet, mm_b]; done) | grind [p_isSheet, mm_b])
theorem vc_isSort {d : Nat} {x : Nat × (Nat → Int32)} {σ : mm_S} {k : Int32} {r : Option Value × mm_H} (k1 : k < 0 → (some (.int (0 : Int32)), HH x σ) = r) (k2 : ¬ k < 0 → (3 : Int32) ≤ k → (some (.int (0 : Int32)), HH x σ) = r) (k3 : ¬ k < 0 → ¬ (3 : Int32) ≤ k → (some (.int (1 : Int32)), HH x σ) = r) : mm_Runs d 72 (0, [some (.int k)], [], HH x σ) r := by
  refine mm_go 2 (F' := (bif mm_cond .lt k 0 then 13 else 4, [some (.int k)], [], HH x σ)) rfl ?_
  refine mb_lt (fun h1 => ?_) (fun h1 => ?_)
  · refine mm_go 1 (F' := (14, [some (.int k)], [.int (0 : Int32)], HH x σ)) rfl ?_
    exact mm_rtz rfl rfl (Or.inl rfl) (k1 h1)
  · refine mm_go 3 (F' := (bif mm_cond .ge k (3 : Int32) then 13 else 9, [some (.int k)], [], HH x σ)) rfl ?_
    refine mb_ge (fun h2 => ?_) (fun h2 => ?_)
    · refine mm_go 1 (F' := (14, [some (.int k)], [.int (0 : Int32)], HH x σ)) rfl ?_
      exact mm_rtz rfl rfl (Or.inl rfl) (k2 h1 h2)
    · refine mm_go 2 (F' := (14, [some (.int k)], [.int (1 : Int32)], HH x σ)) rfl ?_
      exact mm_rtz rfl rfl (Or.inr rfl) (k3 h1 h2)
abbrev p_isSort (σ : mm_S) (k : Int32) : Prop := (¬ (k < 0) ∧ ¬ ((3 : Int32) ≤ k))
theorem r_isSort {d : Nat} {x : Nat × (Nat → Int32)} {σ : mm_S} {k : Int32} (hd : 0 ≤ d) : mm_Runs d 72 (0, [some (.int k)], [], HH x σ) (some (.int (mm_b (p_isSort σ k))), HH x σ) := by
  refine vc_isSort (fun h1 => by first | rfl | (simp [p_isSort, mm_b, h1]; done) | (simp_all [p_isSort, mm_b]; done) | grind [p_isSort, mm_b]) (fun h1 h2 => by first | rfl | (simp [p_isSort, mm_b, h1, h2]; done) | (simp_all [p_isSort, mm_b]; done) | grind [p_isSort, mm_b]) (fun h1 h2 => by first | rfl | (simp [p_isSort, mm_b, h1, h2]; done) | (simp_all [p_isSort, mm_b]; done) | grind [p_isSort, mm_b])
theorem vc_isKind {d : Nat} {x : Nat × (Nat → Int32)} {σ : mm_S} {k : Int32} {r : Option Value × mm_H} (k1 : k < 0 → (some (.int (0 : Int32)), HH x σ) = r) (k2 : ¬ k < 0 → (3 : Int32) ≤ k → (some (.int (0 : Int32)), HH x σ) = r) (k3 : ¬ k < 0 → ¬ (3 : Int32) ≤ k → (some (.int (1 : Int32)), HH x σ) = r) : mm_Runs d 73 (0, [some (.int k)], [], HH x σ) r := by
  refine mm_go 2 (F' := (bif mm_cond .lt k 0 then 13 else 4, [some (.int k)], [], HH x σ)) rfl ?_
  refine mb_lt (fun h1 => ?_) (fun h1 => ?_)
  · refine mm_go 1 (F' := (14, [some (.int k)], [.int (0 : Int32)], HH x σ)) rfl ?_
    exact mm_rtz rfl rfl (Or.inl rfl) (k1 h1)
  · refine mm_go 3 (F' := (bif mm_cond .ge k (3 : Int32) then 13 else 9, [some (.int k)], [], HH x σ)) rfl ?_
    refine mb_ge (fun h2 => ?_) (fun h2 => ?_)
    · refine mm_go 1 (F' := (14, [some (.int k)], [.int (0 : Int32)], HH x σ)) rfl ?_
      exact mm_rtz rfl rfl (Or.inl rfl) (k2 h1 h2)
    · refine mm_go 2 (F' := (14, [some (.int k)], [.int (1 : Int32)], HH x σ)) rfl ?_
      exact mm_rtz rfl rfl (Or.inr rfl) (k3 h1 h2)
abbrev p_isKind (σ : mm_S) (k : Int32) : Prop := (¬ (k < 0) ∧ ¬ ((3 : Int32) ≤ k))
theorem r_isKind {d : Nat} {x : Nat × (Nat → Int32)} {σ : mm_S} {k : Int32} (hd : 0 ≤ d) : mm_Runs d 73 (0, [some (.int k)], [], HH x σ) (some (.int (mm_b (p_isKind σ k))), HH x σ) := by
  refine vc_isKind (fun h1 => by first | rfl | (simp [p_isKind, mm_b, h1]; done) | (simp_all [p_isKind, mm_b]; done) | grind [p_isKind, mm_b]) (fun h1 h2 => by first | rfl | (simp [p_isKind, mm_b, h1, h2]; done) | (simp_all [p_isKind, mm_b]; done) | grind [p_isKind, mm_b]) (fun h1 h2 => by first | rfl | (simp [p_isKind, mm_b, h1, h2]; done) | (simp_all [p_isKind, mm_b]; done) | grind [p_isKind, mm_b])
theorem vc_isMinute {d : Nat} {x : Nat × (Nat → Int32)} {σ : mm_S} {k : Int32} {r : Option Value × mm_H} (k1 : k < 0 → (some (.int (0 : Int32)), HH x σ) = r) (k2 : ¬ k < 0 → (99 : Int32) < k → (some (.int (0 : Int32)), HH x σ) = r) (k3 : ¬ k < 0 → ¬ (99 : Int32) < k → (some (.int (1 : Int32)), HH x σ) = r) : mm_Runs d 74 (0, [some (.int k)], [], HH x σ) r := by
  refine mm_go 2 (F' := (bif mm_cond .lt k 0 then 14 else 4, [some (.int k)], [], HH x σ)) rfl ?_
  refine mb_lt (fun h1 => ?_) (fun h1 => ?_)
  · refine mm_go 1 (F' := (15, [some (.int k)], [.int (0 : Int32)], HH x σ)) rfl ?_
    exact mm_rtz rfl rfl (Or.inl rfl) (k1 h1)
  · refine mm_go 3 (F' := (bif mm_cond .gt k (99 : Int32) then 14 else 10, [some (.int k)], [], HH x σ)) rfl ?_
    refine mb_gt (fun h2 => ?_) (fun h2 => ?_)
    · refine mm_go 1 (F' := (15, [some (.int k)], [.int (0 : Int32)], HH x σ)) rfl ?_
      exact mm_rtz rfl rfl (Or.inl rfl) (k2 h1 h2)
    · refine mm_go 2 (F' := (15, [some (.int k)], [.int (1 : Int32)], HH x σ)) rfl ?_
      exact mm_rtz rfl rfl (Or.inr rfl) (k3 h1 h2)
abbrev p_isMinute (σ : mm_S) (k : Int32) : Prop := (¬ (k < 0) ∧ ¬ ((99 : Int32) < k))
theorem r_isMinute {d : Nat} {x : Nat × (Nat → Int32)} {σ : mm_S} {k : Int32} (hd : 0 ≤ d) : mm_Runs d 74 (0, [some (.int k)], [], HH x σ) (some (.int (mm_b (p_isMinute σ k))), HH x σ) := by
  refine vc_isMinute (fun h1 => by first | rfl | (simp [p_isMinute, mm_b, h1]; done) | (simp_all [p_isMinute, mm_b]; done) | grind [p_isMinute, mm_b]) (fun h1 h2 => by first | rfl | (simp [p_isMinute, mm_b, h1, h2]; done) | (simp_all [p_isMinute, mm_b]; done) | grind [p_isMinute, mm_b]) (fun h1 h2 => by first | rfl | (simp [p_isMinute, mm_b, h1, h2]; done) | (simp_all [p_isMinute, mm_b]; done) | grind [p_isMinute, mm_b])
theorem vc_faulty {d : Nat} {x : Nat × (Nat → Int32)} {σ : mm_S} {k : Int32} {r : Option Value × mm_H} (k1 : (some (.int ((-10 : Int32) - k)), HH x (ui σ 210 k)) = r) : mm_Runs d 70 (0, [some (.ref 2), some (.int k)], [], HH x σ) r := by
  refine mm_go 2 (F' := (2, [some (.ref 2), some (.int k)], [.int k, .ref 2], HH x σ)) rfl ?_
  refine mm_go 1 (F' := (5, [some (.ref 2), some (.int k)], [], HH x (ui σ 210 k))) rfl ?_
  refine mm_go 3 (F' := (9, [some (.ref 2), some (.int k)], [.int ((-10 : Int32) - k)], HH x (ui σ 210 k))) rfl ?_
  exact mm_rt rfl rfl k1
def f_faulty (σ : mm_S) (k : Int32) : Int32 := ((-10 : Int32) - k)
def g_faulty (σ : mm_S) (k : Int32) : mm_S := (ui σ 210 k)
theorem r_faulty {d : Nat} {x : Nat × (Nat → Int32)} {σ : mm_S} {k : Int32} (hd : 0 ≤ d) : mm_Runs d 70 (0, [some (.ref 2), some (.int k)], [], HH x σ) (some (.int (f_faulty σ k)), HH x (g_faulty σ k)) := by
  refine vc_faulty (by first | rfl | (simp [f_faulty, g_faulty]; done) | (simp_all [f_faulty, g_faulty]; done) | grind [f_faulty, g_faulty])
theorem vc_leave {d : Nat} {x : Nat × (Nat → Int32)} {σ : mm_S} {k : Int32} {r : Option Value × mm_H} (k1 : (none, HH x (ui σ 209 (((31 : Int32) * (σ.1 209)) + k))) = r) : mm_Runs d 82 (0, [some (.ref 2), some (.int k)], [], HH x σ) r := by
  refine mm_go 7 (F' := (10, [some (.ref 2), some (.int k)], [.int (((31 : Int32) * (σ.1 209)) + k), .ref 2], HH x σ)) rfl ?_
  refine mm_go 1 (F' := (13, [some (.ref 2), some (.int k)], [], HH x (ui σ 209 (((31 : Int32) * (σ.1 209)) + k)))) rfl ?_
  exact mm_rt rfl rfl k1
def g_leave (σ : mm_S) (k : Int32) : mm_S := (ui σ 209 (((31 : Int32) * (σ.1 209)) + k))
theorem r_leave {d : Nat} {x : Nat × (Nat → Int32)} {σ : mm_S} {k : Int32} (hd : 0 ≤ d) : mm_Runs d 82 (0, [some (.ref 2), some (.int k)], [], HH x σ) (none, HH x (g_leave σ k)) := by
  refine vc_leave (by first | rfl | (simp [g_leave]; done) | (simp_all [g_leave]; done) | grind [g_leave])
theorem vc_stoneTells {d : Nat} {x : Nat × (Nat → Int32)} {σ : mm_S} {k : Int32} {r : Option Value × mm_H} (hd : 1 ≤ d) (k1 : (some (.int k), HH x (g_leave σ (1 : Int32))) = r) : mm_Runs d 83 (0, [some (.ref 2), some (.int k)], [], HH x σ) r := by
  refine mm_go 2 (F' := (2, [some (.ref 2), some (.int k)], [.int (1 : Int32), .ref 2], HH x σ)) rfl ?_
  refine mm_kl (z := 82) (as := [.ref 2, .int (1 : Int32)]) (S' := []) (L2 := [some (.ref 2), some (.int (1 : Int32))]) (v := none) (h1 := HH x (g_leave σ (1 : Int32))) rfl rfl rfl rfl rfl (by omega) (r_leave (by omega)) ?_
  show mm_Runs d 83 (5, [some (.ref 2), some (.int k)], [], HH x (g_leave σ (1 : Int32))) r
  refine mm_go 1 (F' := (6, [some (.ref 2), some (.int k)], [.int k], HH x (g_leave σ (1 : Int32)))) rfl ?_
  exact mm_rt rfl rfl k1
def f_stoneTells (σ : mm_S) (k : Int32) : Int32 := k
def g_stoneTells (σ : mm_S) (k : Int32) : mm_S := (g_leave σ (1 : Int32))
theorem r_stoneTells {d : Nat} {x : Nat × (Nat → Int32)} {σ : mm_S} {k : Int32} (hd : 1 ≤ d) : mm_Runs d 83 (0, [some (.ref 2), some (.int k)], [], HH x σ) (some (.int (f_stoneTells σ k)), HH x (g_stoneTells σ k)) := by
  refine vc_stoneTells (by omega) (by first | rfl | (simp [f_stoneTells, g_stoneTells]; done) | (simp_all [f_stoneTells, g_stoneTells]; done) | grind [f_stoneTells, g_stoneTells])
theorem vc_pebbleTells {d : Nat} {x : Nat × (Nat → Int32)} {σ : mm_S} {k : Int32} {r : Option Value × mm_H} (hd : 2 ≤ d) (k1 : (some (.int ((f_stoneTells (g_leave σ (2 : Int32)) k) + (100 : Int32))), HH x (g_stoneTells (g_leave σ (2 : Int32)) k)) = r) : mm_Runs d 84 (0, [some (.ref 2), some (.int k)], [], HH x σ) r := by
  refine mm_go 2 (F' := (2, [some (.ref 2), some (.int k)], [.int (2 : Int32), .ref 2], HH x σ)) rfl ?_
  refine mm_kl (z := 82) (as := [.ref 2, .int (2 : Int32)]) (S' := []) (L2 := [some (.ref 2), some (.int (2 : Int32))]) (v := none) (h1 := HH x (g_leave σ (2 : Int32))) rfl rfl rfl rfl rfl (by omega) (r_leave (by omega)) ?_
  show mm_Runs d 84 (5, [some (.ref 2), some (.int k)], [], HH x (g_leave σ (2 : Int32))) r
  refine mm_go 2 (F' := (7, [some (.ref 2), some (.int k)], [.int k, .ref 2], HH x (g_leave σ (2 : Int32)))) rfl ?_
  refine mm_kl (z := 83) (as := [.ref 2, .int k]) (S' := []) (L2 := [some (.ref 2), some (.int k)]) (v := some (.int (f_stoneTells (g_leave σ (2 : Int32)) k))) (h1 := HH x (g_stoneTells (g_leave σ (2 : Int32)) k)) rfl rfl rfl rfl rfl (by omega) (r_stoneTells (by omega)) ?_
  show mm_Runs d 84 (10, [some (.ref 2), some (.int k)], [.int (f_stoneTells (g_leave σ (2 : Int32)) k)], HH x (g_stoneTells (g_leave σ (2 : Int32)) k)) r
  refine mm_go 2 (F' := (13, [some (.ref 2), some (.int k)], [.int ((f_stoneTells (g_leave σ (2 : Int32)) k) + (100 : Int32))], HH x (g_stoneTells (g_leave σ (2 : Int32)) k))) rfl ?_
  exact mm_rt rfl rfl k1
def f_pebbleTells (σ : mm_S) (k : Int32) : Int32 := ((f_stoneTells (g_leave σ (2 : Int32)) k) + (100 : Int32))
def g_pebbleTells (σ : mm_S) (k : Int32) : mm_S := (g_stoneTells (g_leave σ (2 : Int32)) k)
theorem r_pebbleTells {d : Nat} {x : Nat × (Nat → Int32)} {σ : mm_S} {k : Int32} (hd : 2 ≤ d) : mm_Runs d 84 (0, [some (.ref 2), some (.int k)], [], HH x σ) (some (.int (f_pebbleTells σ k)), HH x (g_pebbleTells σ k)) := by
  refine vc_pebbleTells (by omega) (by first | rfl | (simp [f_pebbleTells, g_pebbleTells]; done) | (simp_all [f_pebbleTells, g_pebbleTells]; done) | grind [f_pebbleTells, g_pebbleTells])
theorem vc_grainTells {d : Nat} {x : Nat × (Nat → Int32)} {σ : mm_S} {k : Int32} {r : Option Value × mm_H} (hd : 3 ≤ d) (k1 : (some (.int ((f_pebbleTells (g_leave σ (3 : Int32)) k) + (f_stoneTells (g_pebbleTells (g_leave σ (3 : Int32)) k) k))), HH x (g_stoneTells (g_pebbleTells (g_leave σ (3 : Int32)) k) k)) = r) : mm_Runs d 85 (0, [some (.ref 2), some (.int k), none], [], HH x σ) r := by
  refine mm_go 2 (F' := (2, [some (.ref 2), some (.int k), none], [.int (3 : Int32), .ref 2], HH x σ)) rfl ?_
  refine mm_kl (z := 82) (as := [.ref 2, .int (3 : Int32)]) (S' := []) (L2 := [some (.ref 2), some (.int (3 : Int32))]) (v := none) (h1 := HH x (g_leave σ (3 : Int32))) rfl rfl rfl rfl rfl (by omega) (r_leave (by omega)) ?_
  show mm_Runs d 85 (5, [some (.ref 2), some (.int k), none], [], HH x (g_leave σ (3 : Int32))) r
  refine mm_go 2 (F' := (7, [some (.ref 2), some (.int k), none], [.int k, .ref 2], HH x (g_leave σ (3 : Int32)))) rfl ?_
  refine mm_kl (z := 84) (as := [.ref 2, .int k]) (S' := []) (L2 := [some (.ref 2), some (.int k)]) (v := some (.int (f_pebbleTells (g_leave σ (3 : Int32)) k))) (h1 := HH x (g_pebbleTells (g_leave σ (3 : Int32)) k)) rfl rfl rfl rfl rfl (by omega) (r_pebbleTells (by omega)) ?_
  show mm_Runs d 85 (10, [some (.ref 2), some (.int k), none], [.int (f_pebbleTells (g_leave σ (3 : Int32)) k)], HH x (g_pebbleTells (g_leave σ (3 : Int32)) k)) r
  refine mm_go 4 (F' := (14, [some (.ref 2), some (.int k), some (.int (f_pebbleTells (g_leave σ (3 : Int32)) k))], [.int k, .ref 2, .int (f_pebbleTells (g_leave σ (3 : Int32)) k)], HH x (g_pebbleTells (g_leave σ (3 : Int32)) k))) rfl ?_
  refine mm_kl (z := 83) (as := [.ref 2, .int k]) (S' := [.int (f_pebbleTells (g_leave σ (3 : Int32)) k)]) (L2 := [some (.ref 2), some (.int k)]) (v := some (.int (f_stoneTells (g_pebbleTells (g_leave σ (3 : Int32)) k) k))) (h1 := HH x (g_stoneTells (g_pebbleTells (g_leave σ (3 : Int32)) k) k)) rfl rfl rfl rfl rfl (by omega) (r_stoneTells (by omega)) ?_
  show mm_Runs d 85 (17, [some (.ref 2), some (.int k), some (.int (f_pebbleTells (g_leave σ (3 : Int32)) k))], [.int (f_stoneTells (g_pebbleTells (g_leave σ (3 : Int32)) k) k), .int (f_pebbleTells (g_leave σ (3 : Int32)) k)], HH x (g_stoneTells (g_pebbleTells (g_leave σ (3 : Int32)) k) k)) r
  refine mm_go 1 (F' := (18, [some (.ref 2), some (.int k), some (.int (f_pebbleTells (g_leave σ (3 : Int32)) k))], [.int ((f_pebbleTells (g_leave σ (3 : Int32)) k) + (f_stoneTells (g_pebbleTells (g_leave σ (3 : Int32)) k) k))], HH x (g_stoneTells (g_pebbleTells (g_leave σ (3 : Int32)) k) k))) rfl ?_
  exact mm_rt rfl rfl k1
def f_grainTells (σ : mm_S) (k : Int32) : Int32 := ((f_pebbleTells (g_leave σ (3 : Int32)) k) + (f_stoneTells (g_pebbleTells (g_leave σ (3 : Int32)) k) k))
def g_grainTells (σ : mm_S) (k : Int32) : mm_S := (g_stoneTells (g_pebbleTells (g_leave σ (3 : Int32)) k) k)
theorem r_grainTells {d : Nat} {x : Nat × (Nat → Int32)} {σ : mm_S} {k : Int32} (hd : 3 ≤ d) : mm_Runs d 85 (0, [some (.ref 2), some (.int k), none], [], HH x σ) (some (.int (f_grainTells σ k)), HH x (g_grainTells σ k)) := by
  refine vc_grainTells (by omega) (by first | rfl | (simp [f_grainTells, g_grainTells]; done) | (simp_all [f_grainTells, g_grainTells]; done) | grind [f_grainTells, g_grainTells])
theorem vc_lentMakes {d : Nat} {x : Nat × (Nat → Int32)} {σ : mm_S} {k : Int32} {r : Option Value × mm_H} (hd : 1 ≤ d) (k1 : (some (.int k), HH x (g_leave σ (4 : Int32))) = r) : mm_Runs d 86 (0, [some (.ref 2), some (.int k)], [], HH x σ) r := by
  refine mm_go 2 (F' := (2, [some (.ref 2), some (.int k)], [.int (4 : Int32), .ref 2], HH x σ)) rfl ?_
  refine mm_kl (z := 82) (as := [.ref 2, .int (4 : Int32)]) (S' := []) (L2 := [some (.ref 2), some (.int (4 : Int32))]) (v := none) (h1 := HH x (g_leave σ (4 : Int32))) rfl rfl rfl rfl rfl (by omega) (r_leave (by omega)) ?_
  show mm_Runs d 86 (5, [some (.ref 2), some (.int k)], [], HH x (g_leave σ (4 : Int32))) r
  refine mm_go 1 (F' := (6, [some (.ref 2), some (.int k)], [.int k], HH x (g_leave σ (4 : Int32)))) rfl ?_
  exact mm_rt rfl rfl k1
def f_lentMakes (σ : mm_S) (k : Int32) : Int32 := k
def g_lentMakes (σ : mm_S) (k : Int32) : mm_S := (g_leave σ (4 : Int32))
theorem r_lentMakes {d : Nat} {x : Nat × (Nat → Int32)} {σ : mm_S} {k : Int32} (hd : 1 ≤ d) : mm_Runs d 86 (0, [some (.ref 2), some (.int k)], [], HH x σ) (some (.int (f_lentMakes σ k)), HH x (g_lentMakes σ k)) := by
  refine vc_lentMakes (by omega) (by first | rfl | (simp [f_lentMakes, g_lentMakes]; done) | (simp_all [f_lentMakes, g_lentMakes]; done) | grind [f_lentMakes, g_lentMakes])
theorem vc_grainMakes {d : Nat} {x : Nat × (Nat → Int32)} {σ : mm_S} {r : Option Value × mm_H} (hd : 1 ≤ d) (k1 : (some (.int (80 : Int32)), HH x (g_leave σ (5 : Int32))) = r) : mm_Runs d 87 (0, [some (.ref 2)], [], HH x σ) r := by
  refine mm_go 2 (F' := (2, [some (.ref 2)], [.int (5 : Int32), .ref 2], HH x σ)) rfl ?_
  refine mm_kl (z := 82) (as := [.ref 2, .int (5 : Int32)]) (S' := []) (L2 := [some (.ref 2), some (.int (5 : Int32))]) (v := none) (h1 := HH x (g_leave σ (5 : Int32))) rfl rfl rfl rfl rfl (by omega) (r_leave (by omega)) ?_
  show mm_Runs d 87 (5, [some (.ref 2)], [], HH x (g_leave σ (5 : Int32))) r
  refine mm_go 1 (F' := (7, [some (.ref 2)], [.int (80 : Int32)], HH x (g_leave σ (5 : Int32)))) rfl ?_
  exact mm_rt rfl rfl k1
def f_grainMakes (σ : mm_S)  : Int32 := (80 : Int32)
def g_grainMakes (σ : mm_S)  : mm_S := (g_leave σ (5 : Int32))
theorem r_grainMakes {d : Nat} {x : Nat × (Nat → Int32)} {σ : mm_S}  (hd : 1 ≤ d) : mm_Runs d 87 (0, [some (.ref 2)], [], HH x σ) (some (.int (f_grainMakes σ )), HH x (g_grainMakes σ )) := by
  refine vc_grainMakes (by omega) (by first | rfl | (simp [f_grainMakes, g_grainMakes]; done) | (simp_all [f_grainMakes, g_grainMakes]; done) | grind [f_grainMakes, g_grainMakes])
theorem vc_trace {d : Nat} {x : Nat × (Nat → Int32)} {σ : mm_S} {r : Option Value × mm_H} (k1 : (some (.int (σ.1 209)), HH x σ) = r) : mm_Runs d 67 (0, [some (.ref 2)], [], HH x σ) r := by
  refine mm_go 2 (F' := (4, [some (.ref 2)], [.int (σ.1 209)], HH x σ)) rfl ?_
  exact mm_rt rfl rfl k1
def f_trace (σ : mm_S)  : Int32 := (σ.1 209)
theorem r_trace {d : Nat} {x : Nat × (Nat → Int32)} {σ : mm_S}  (hd : 0 ≤ d) : mm_Runs d 67 (0, [some (.ref 2)], [], HH x σ) (some (.int (f_trace σ )), HH x σ) := by
  refine vc_trace (by first | rfl | (simp [f_trace]; done) | (simp_all [f_trace]; done) | grind [f_trace])
theorem vc_fault {d : Nat} {x : Nat × (Nat → Int32)} {σ : mm_S} {r : Option Value × mm_H} (k1 : (some (.int (σ.1 210)), HH x σ) = r) : mm_Runs d 68 (0, [some (.ref 2)], [], HH x σ) r := by
  refine mm_go 2 (F' := (4, [some (.ref 2)], [.int (σ.1 210)], HH x σ)) rfl ?_
  exact mm_rt rfl rfl k1
def f_fault (σ : mm_S)  : Int32 := (σ.1 210)
theorem r_fault {d : Nat} {x : Nat × (Nat → Int32)} {σ : mm_S}  (hd : 0 ≤ d) : mm_Runs d 68 (0, [some (.ref 2)], [], HH x σ) (some (.int (f_fault σ )), HH x σ) := by
  refine vc_fault (by first | rfl | (simp [f_fault]; done) | (simp_all [f_fault]; done) | grind [f_fault])
theorem vc_many {d : Nat} {x : Nat × (Nat → Int32)} {σ : mm_S} {k : Int32} {r : Option Value × mm_H} (k1 : k = (0 : Int32) → (some (.int (σ.1 1305)), HH x σ) = r) (k2 : k = (1 : Int32) → (some (.int (σ.1 1306)), HH x σ) = r) (k3 : k = (2 : Int32) → (some (.int (σ.1 1603)), HH x σ) = r) (k4 : k = (3 : Int32) → (some (.int (σ.1 2003)), HH x σ) = r) (k5 : k = (4 : Int32) → (some (.int (σ.1 2403)), HH x σ) = r) (k6 : (¬ k = (0 : Int32) ∧ ¬ k = (1 : Int32) ∧ ¬ k = (2 : Int32) ∧ ¬ k = (3 : Int32) ∧ ¬ k = (4 : Int32)) → (some (.int (-2 : Int32)), HH x σ) = r) : mm_Runs d 69 (0, [some (.ref 2), some (.int k)], [], HH x σ) r := by
  refine mm_go 1 (F' := (1, [some (.ref 2), some (.int k)], [.int k], HH x σ)) rfl ?_
  rcases mm_sw0_4 k with h1 | h1 | h1 | h1 | h1 | h1
  · refine mm_tsI h1 (F' := (36, [some (.ref 2), some (.int k)], [], HH x σ)) rfl ?_
    refine mm_go 3 (F' := (43, [some (.ref 2), some (.int k)], [.int (σ.1 1305)], HH x σ)) rfl ?_
    exact mm_rt rfl rfl (k1 h1)
  · refine mm_tsI h1 (F' := (44, [some (.ref 2), some (.int k)], [], HH x σ)) rfl ?_
    refine mm_go 3 (F' := (51, [some (.ref 2), some (.int k)], [.int (σ.1 1306)], HH x σ)) rfl ?_
    exact mm_rt rfl rfl (k2 h1)
  · refine mm_tsI h1 (F' := (52, [some (.ref 2), some (.int k)], [], HH x σ)) rfl ?_
    refine mm_go 3 (F' := (59, [some (.ref 2), some (.int k)], [.int (σ.1 1603)], HH x σ)) rfl ?_
    exact mm_rt rfl rfl (k3 h1)
  · refine mm_tsI h1 (F' := (60, [some (.ref 2), some (.int k)], [], HH x σ)) rfl ?_
    refine mm_go 3 (F' := (67, [some (.ref 2), some (.int k)], [.int (σ.1 2003)], HH x σ)) rfl ?_
    exact mm_rt rfl rfl (k4 h1)
  · refine mm_tsI h1 (F' := (68, [some (.ref 2), some (.int k)], [], HH x σ)) rfl ?_
    refine mm_go 3 (F' := (75, [some (.ref 2), some (.int k)], [.int (σ.1 2403)], HH x σ)) rfl ?_
    exact mm_rt rfl rfl (k5 h1)
  · refine mm_ti (F' := (76, [some (.ref 2), some (.int k)], [], HH x σ)) rfl h1 ?_
    refine mm_go 1 (F' := (78, [some (.ref 2), some (.int k)], [.int (-2 : Int32)], HH x σ)) rfl ?_
    exact mm_rt rfl rfl (k6 (mm_sn0_4 h1))
def f_many (σ : mm_S) (k : Int32) : Int32 := (if k = (0 : Int32) then (σ.1 1305) else (if k = (1 : Int32) then (σ.1 1306) else (if k = (2 : Int32) then (σ.1 1603) else (if k = (3 : Int32) then (σ.1 2003) else (if k = (4 : Int32) then (σ.1 2403) else (-2 : Int32))))))
theorem r_many {d : Nat} {x : Nat × (Nat → Int32)} {σ : mm_S} {k : Int32} (hd : 0 ≤ d) : mm_Runs d 69 (0, [some (.ref 2), some (.int k)], [], HH x σ) (some (.int (f_many σ k)), HH x σ) := by
  refine vc_many (fun h1 => by first | rfl | (simp [f_many, h1]; done) | (simp_all [f_many]; done) | grind [f_many]) (fun h1 => by first | rfl | (simp [f_many, h1]; done) | (simp_all [f_many]; done) | grind [f_many]) (fun h1 => by first | rfl | (simp [f_many, h1]; done) | (simp_all [f_many]; done) | grind [f_many]) (fun h1 => by first | rfl | (simp [f_many, h1]; done) | (simp_all [f_many]; done) | grind [f_many]) (fun h1 => by first | rfl | (simp [f_many, h1]; done) | (simp_all [f_many]; done) | grind [f_many]) (fun h1 => by first | rfl | (simp [f_many, h1]; done) | (simp_all [f_many]; done) | grind [f_many])
theorem vc_back {d : Nat} {x : Nat × (Nat → Int32)} {σ : mm_S} {k : Int32} {r : Option Value × mm_H} (hd : 1 ≤ d) (k1 : (some (.int (f_takeBack_16 σ k)), HH x (g_takeBack_16 σ k)) = r) : mm_Runs d 43 (0, [some (.ref 2), some (.int k)], [], HH x σ) r := by
  refine mm_go 3 (F' := (5, [some (.ref 2), some (.int k)], [.int k, .ref 16], HH x σ)) rfl ?_
  refine mm_kl (z := 3) (as := [.ref 16, .int k]) (S' := []) (L2 := [some (.ref 16), some (.int k)]) (v := some (.int (f_takeBack_16 σ k))) (h1 := HH x (g_takeBack_16 σ k)) rfl rfl rfl rfl rfl (by omega) (r_takeBack_16 (by omega)) ?_
  show mm_Runs d 43 (8, [some (.ref 2), some (.int k)], [.int (f_takeBack_16 σ k)], HH x (g_takeBack_16 σ k)) r
  exact mm_rt rfl rfl k1
def f_back (σ : mm_S) (k : Int32) : Int32 := (f_takeBack_16 σ k)
def g_back (σ : mm_S) (k : Int32) : mm_S := (g_takeBack_16 σ k)
theorem r_back {d : Nat} {x : Nat × (Nat → Int32)} {σ : mm_S} {k : Int32} (hd : 1 ≤ d) : mm_Runs d 43 (0, [some (.ref 2), some (.int k)], [], HH x σ) (some (.int (f_back σ k)), HH x (g_back σ k)) := by
  refine vc_back (by omega) (by first | rfl | (simp [f_back, g_back]; done) | (simp_all [f_back, g_back]; done) | grind [f_back, g_back])
theorem vc_pull {d : Nat} {x : Nat × (Nat → Int32)} {σ : mm_S} {k : Int32} {r : Option Value × mm_H} (hd : 1 ≤ d) (k1 : (some (.int (f_takeBack_24 σ k)), HH x (g_takeBack_24 σ k)) = r) : mm_Runs d 56 (0, [some (.ref 2), some (.int k)], [], HH x σ) r := by
  refine mm_go 3 (F' := (5, [some (.ref 2), some (.int k)], [.int k, .ref 24], HH x σ)) rfl ?_
  refine mm_kl (z := 3) (as := [.ref 24, .int k]) (S' := []) (L2 := [some (.ref 24), some (.int k)]) (v := some (.int (f_takeBack_24 σ k))) (h1 := HH x (g_takeBack_24 σ k)) rfl rfl rfl rfl rfl (by omega) (r_takeBack_24 (by omega)) ?_
  show mm_Runs d 56 (8, [some (.ref 2), some (.int k)], [.int (f_takeBack_24 σ k)], HH x (g_takeBack_24 σ k)) r
  exact mm_rt rfl rfl k1
def f_pull (σ : mm_S) (k : Int32) : Int32 := (f_takeBack_24 σ k)
def g_pull (σ : mm_S) (k : Int32) : mm_S := (g_takeBack_24 σ k)
theorem r_pull {d : Nat} {x : Nat × (Nat → Int32)} {σ : mm_S} {k : Int32} (hd : 1 ≤ d) : mm_Runs d 56 (0, [some (.ref 2), some (.int k)], [], HH x σ) (some (.int (f_pull σ k)), HH x (g_pull σ k)) := by
  refine vc_pull (by omega) (by first | rfl | (simp [f_pull, g_pull]; done) | (simp_all [f_pull, g_pull]; done) | grind [f_pull, g_pull])
theorem vc_drop {d : Nat} {x : Nat × (Nat → Int32)} {σ : mm_S} {k : Int32} {r : Option Value × mm_H} (hd : 1 ≤ d) (k1 : (f_takeBack_20 σ k) < 0 → (some (.int (f_takeBack_20 σ k)), HH x (g_takeBack_20 σ k)) = r) (k2 : ¬ (f_takeBack_20 σ k) < 0 → (some (.int (f_takeBack_20 σ k)), HH x (g_forgetPlan (g_takeBack_20 σ k))) = r) : mm_Runs d 49 (0, [some (.ref 2), some (.int k), none], [], HH x σ) r := by
  refine mm_go 3 (F' := (5, [some (.ref 2), some (.int k), none], [.int k, .ref 20], HH x σ)) rfl ?_
  refine mm_kl (z := 3) (as := [.ref 20, .int k]) (S' := []) (L2 := [some (.ref 20), some (.int k)]) (v := some (.int (f_takeBack_20 σ k))) (h1 := HH x (g_takeBack_20 σ k)) rfl rfl rfl rfl rfl (by omega) (r_takeBack_20 (by omega)) ?_
  show mm_Runs d 49 (8, [some (.ref 2), some (.int k), none], [.int (f_takeBack_20 σ k)], HH x (g_takeBack_20 σ k)) r
  refine mm_go 3 (F' := (bif mm_cond .lt (f_takeBack_20 σ k) 0 then 20 else 13, [some (.ref 2), some (.int k), some (.int (f_takeBack_20 σ k))], [], HH x (g_takeBack_20 σ k))) rfl ?_
  refine mb_lt (fun h1 => ?_) (fun h1 => ?_)
  · refine mm_go 1 (F' := (21, [some (.ref 2), some (.int k), some (.int (f_takeBack_20 σ k))], [.int (f_takeBack_20 σ k)], HH x (g_takeBack_20 σ k))) rfl ?_
    exact mm_rt rfl rfl (k1 h1)
  · refine mm_go 2 (F' := (17, [some (.ref 2), some (.int k), some (.int (f_takeBack_20 σ k))], [.ref 29], HH x (g_takeBack_20 σ k))) rfl ?_
    refine mm_kl (z := 23) (as := [.ref 29]) (S' := []) (L2 := [some (.ref 29)]) (v := none) (h1 := HH x (g_forgetPlan (g_takeBack_20 σ k))) rfl rfl rfl rfl rfl (by omega) (r_forgetPlan (by omega)) ?_
    show mm_Runs d 49 (20, [some (.ref 2), some (.int k), some (.int (f_takeBack_20 σ k))], [], HH x (g_forgetPlan (g_takeBack_20 σ k))) r
    refine mm_go 1 (F' := (21, [some (.ref 2), some (.int k), some (.int (f_takeBack_20 σ k))], [.int (f_takeBack_20 σ k)], HH x (g_forgetPlan (g_takeBack_20 σ k)))) rfl ?_
    exact mm_rt rfl rfl (k2 h1)
def f_drop (σ : mm_S) (k : Int32) : Int32 := (f_takeBack_20 σ k)
def g_drop (σ : mm_S) (k : Int32) : mm_S := (if (f_takeBack_20 σ k) < 0 then (g_takeBack_20 σ k) else (g_forgetPlan (g_takeBack_20 σ k)))
theorem r_drop {d : Nat} {x : Nat × (Nat → Int32)} {σ : mm_S} {k : Int32} (hd : 1 ≤ d) : mm_Runs d 49 (0, [some (.ref 2), some (.int k), none], [], HH x σ) (some (.int (f_drop σ k)), HH x (g_drop σ k)) := by
  refine vc_drop (by omega) (fun h1 => by first | rfl | (simp [f_drop, g_drop, h1]; done) | (simp_all [f_drop, g_drop]; done) | grind [f_drop, g_drop]) (fun h1 => by first | rfl | (simp [f_drop, g_drop, h1]; done) | (simp_all [f_drop, g_drop]; done) | grind [f_drop, g_drop])
theorem vc_water {d : Nat} {x : Nat × (Nat → Int32)} {σ : mm_S} {k : Int32} {r : Option Value × mm_H} (hd : 1 ≤ d) (k1 : (p_has_13 σ k) → ¬ (p_isWater σ k) → (some (.int (0 : Int32)), HH x σ) = r) (k2 : (p_has_13 σ k) → (p_isWater σ k) → (some (.int (1 : Int32)), HH x σ) = r) (k3 : ¬ (p_has_13 σ k) → (some (.int (-1 : Int32)), HH x σ) = r) : mm_Runs d 39 (0, [some (.ref 2), some (.int k)], [], HH x σ) r := by
  refine mm_go 3 (F' := (5, [some (.ref 2), some (.int k)], [.int k, .ref 13], HH x σ)) rfl ?_
  refine mm_kl (z := 8) (as := [.ref 13, .int k]) (S' := []) (L2 := [some (.ref 13), some (.int k)]) (v := some (.int (mm_b (p_has_13 σ k)))) (h1 := HH x σ) rfl rfl rfl rfl rfl (by omega) (r_has_13 (by omega)) ?_
  show mm_Runs d 39 (8, [some (.ref 2), some (.int k)], [.int (mm_b (p_has_13 σ k))], HH x σ) r
  refine mm_go 1 (F' := (bif mm_cond .ne (mm_b (p_has_13 σ k)) 0 then 13 else 11, [some (.ref 2), some (.int k)], [], HH x σ)) rfl ?_
  refine mb_bne (fun h1 => ?_) (fun h1 => ?_)
  · refine mm_go 3 (F' := (18, [some (.ref 2), some (.int k)], [.int k, .ref 13], HH x σ)) rfl ?_
    refine mm_kl (z := 9) (as := [.ref 13, .int k]) (S' := []) (L2 := [some (.ref 13), some (.int k)]) (v := some (.int (mm_b (p_isWater σ k)))) (h1 := HH x σ) rfl rfl rfl rfl rfl (by omega) (r_isWater (by omega)) ?_
    show mm_Runs d 39 (21, [some (.ref 2), some (.int k)], [.int (mm_b (p_isWater σ k))], HH x σ) r
    refine mm_go 1 (F' := (bif mm_cond .eq (mm_b (p_isWater σ k)) 0 then 28 else 24, [some (.ref 2), some (.int k)], [], HH x σ)) rfl ?_
    refine mb_beq (fun h2 => ?_) (fun h2 => ?_)
    · refine mm_go 1 (F' := (29, [some (.ref 2), some (.int k)], [.int (0 : Int32)], HH x σ)) rfl ?_
      exact mm_rt rfl rfl (k1 h1 h2)
    · refine mm_go 2 (F' := (29, [some (.ref 2), some (.int k)], [.int (1 : Int32)], HH x σ)) rfl ?_
      exact mm_rt rfl rfl (k2 h1 h2)
  · refine mm_go 1 (F' := (12, [some (.ref 2), some (.int k)], [.int (-1 : Int32)], HH x σ)) rfl ?_
    exact mm_rt rfl rfl (k3 h1)
def f_water (σ : mm_S) (k : Int32) : Int32 := (if (p_has_13 σ k) then (if (p_isWater σ k) then (1 : Int32) else (0 : Int32)) else (-1 : Int32))
theorem r_water {d : Nat} {x : Nat × (Nat → Int32)} {σ : mm_S} {k : Int32} (hd : 1 ≤ d) : mm_Runs d 39 (0, [some (.ref 2), some (.int k)], [], HH x σ) (some (.int (f_water σ k)), HH x σ) := by
  refine vc_water (by omega) (fun h1 h2 => by first | rfl | (simp [f_water, h1, h2]; done) | (simp_all [f_water]; done) | grind [f_water]) (fun h1 h2 => by first | rfl | (simp [f_water, h1, h2]; done) | (simp_all [f_water]; done) | grind [f_water]) (fun h1 => by first | rfl | (simp [f_water, h1]; done) | (simp_all [f_water]; done) | grind [f_water])
theorem vc_ofWish {d : Nat} {x : Nat × (Nat → Int32)} {σ : mm_S} {k : Int32} {j : Int32} {r : Option Value × mm_H} (hd : 1 ≤ d) (k1 : (p_has_20 σ k) → ¬ j = 0 → ¬ j = (1 : Int32) → (some (.int (-2 : Int32)), HH x σ) = r) (k2 : (p_has_20 σ k) → ¬ j = 0 → j = (1 : Int32) → ¬ (k < 0 ∨ 6 ≤ k.toNatClampNeg)) (k3 : (p_has_20 σ k) → ¬ j = 0 → j = (1 : Int32) → (some (.int ((σ.2.2.1 22) k.toNatClampNeg)), HH x σ) = r) (k4 : (p_has_20 σ k) → j = 0 → ¬ (k < 0 ∨ 6 ≤ k.toNatClampNeg)) (k5 : (p_has_20 σ k) → j = 0 → (some (.int ((σ.2.2.1 21) k.toNatClampNeg)), HH x σ) = r) (k6 : ¬ (p_has_20 σ k) → (some (.int (-1 : Int32)), HH x σ) = r) : mm_Runs d 48 (0, [some (.ref 2), some (.int k), some (.int j)], [], HH x σ) r := by
  refine mm_go 3 (F' := (5, [some (.ref 2), some (.int k), some (.int j)], [.int k, .ref 20], HH x σ)) rfl ?_
  refine mm_kl (z := 0) (as := [.ref 20, .int k]) (S' := []) (L2 := [some (.ref 20), some (.int k)]) (v := some (.int (mm_b (p_has_20 σ k)))) (h1 := HH x σ) rfl rfl rfl rfl rfl (by omega) (r_has_20 (by omega)) ?_
  show mm_Runs d 48 (8, [some (.ref 2), some (.int k), some (.int j)], [.int (mm_b (p_has_20 σ k))], HH x σ) r
  refine mm_go 1 (F' := (bif mm_cond .ne (mm_b (p_has_20 σ k)) 0 then 13 else 11, [some (.ref 2), some (.int k), some (.int j)], [], HH x σ)) rfl ?_
  refine mb_bne (fun h1 => ?_) (fun h1 => ?_)
  · refine mm_go 2 (F' := (bif mm_cond .ne j 0 then 27 else 17, [some (.ref 2), some (.int k), some (.int j)], [], HH x σ)) rfl ?_
    refine mb_ne (fun h2 => ?_) (fun h2 => ?_)
    · refine mm_go 3 (F' := (bif mm_cond .ne j (1 : Int32) then 44 else 32, [some (.ref 2), some (.int k), some (.int j)], [], HH x σ)) rfl ?_
      refine mb_ne (fun h3 => ?_) (fun h3 => ?_)
      · refine mm_go 1 (F' := (46, [some (.ref 2), some (.int k), some (.int j)], [.int (-2 : Int32)], HH x σ)) rfl ?_
        exact mm_rt rfl rfl (k1 h1 h2 h3)
      · refine mm_go 4 (F' := (40, [some (.ref 2), some (.int k), some (.int j)], [.int k, .ref 22], HH x σ)) rfl ?_
        refine mm_gd (F' := (41, [some (.ref 2), some (.int k), some (.int j)], [.int ((σ.2.2.1 22) k.toNatClampNeg)], HH x σ)) rfl (k2 h1 h2 h3) ?_
        refine mm_go 1 (F' := (46, [some (.ref 2), some (.int k), some (.int j)], [.int ((σ.2.2.1 22) k.toNatClampNeg)], HH x σ)) rfl ?_
        exact mm_rt rfl rfl (k3 h1 h2 h3)
    · refine mm_go 4 (F' := (25, [some (.ref 2), some (.int k), some (.int j)], [.int k, .ref 21], HH x σ)) rfl ?_
      refine mm_gd (F' := (26, [some (.ref 2), some (.int k), some (.int j)], [.int ((σ.2.2.1 21) k.toNatClampNeg)], HH x σ)) rfl (k4 h1 h2) ?_
      exact mm_rt rfl rfl (k5 h1 h2)
  · refine mm_go 1 (F' := (12, [some (.ref 2), some (.int k), some (.int j)], [.int (-1 : Int32)], HH x σ)) rfl ?_
    exact mm_rt rfl rfl (k6 h1)
def f_ofWish (σ : mm_S) (k : Int32) (j : Int32) : Int32 := (if (p_has_20 σ k) then (if j = 0 then ((σ.2.2.1 21) k.toNatClampNeg) else (if j = (1 : Int32) then ((σ.2.2.1 22) k.toNatClampNeg) else (-2 : Int32))) else (-1 : Int32))
theorem r_ofWish {d : Nat} {x : Nat × (Nat → Int32)} {σ : mm_S} {k : Int32} {j : Int32} (hd : 1 ≤ d) (p0 : (p_has_20 σ k) → ¬ j = 0 → j = (1 : Int32) → ¬ (k < 0 ∨ 6 ≤ k.toNatClampNeg)) (p1 : (p_has_20 σ k) → j = 0 → ¬ (k < 0 ∨ 6 ≤ k.toNatClampNeg)) : mm_Runs d 48 (0, [some (.ref 2), some (.int k), some (.int j)], [], HH x σ) (some (.int (f_ofWish σ k j)), HH x σ) := by
  refine vc_ofWish (by omega) (fun h1 h2 h3 => by first | rfl | (simp [f_ofWish, h1, h2, h3]; done) | (simp_all [f_ofWish]; done) | grind [f_ofWish]) p0 (fun h1 h2 h3 => by first | rfl | (simp [f_ofWish, h1, h2, h3]; done) | (simp_all [f_ofWish]; done) | grind [f_ofWish]) p1 (fun h1 h2 => by first | rfl | (simp [f_ofWish, h1, h2]; done) | (simp_all [f_ofWish]; done) | grind [f_ofWish]) (fun h1 => by first | rfl | (simp [f_ofWish, h1]; done) | (simp_all [f_ofWish]; done) | grind [f_ofWish])
theorem vc_reed {d : Nat} {x : Nat × (Nat → Int32)} {σ : mm_S} {c : Int32} {m : Int32} {r : Option Value × mm_H} (hd : 1 ≤ d) (k1 : (p_has_13 σ c) → (p_isMinute σ m) → (p_isWater σ c) → (σ.1 2403) < (Int32.ofNat 6) → ¬ ((σ.1 2403) < 0 ∨ 6 ≤ (σ.1 2403).toNatClampNeg)) (k2 : (p_has_13 σ c) → (p_isMinute σ m) → (p_isWater σ c) → (σ.1 2403) < (Int32.ofNat 6) → ¬ ((σ.1 2403) < 0 ∨ 6 ≤ (σ.1 2403).toNatClampNeg)) (k3 : (p_has_13 σ c) → (p_isMinute σ m) → (p_isWater σ c) → (σ.1 2403) < (Int32.ofNat 6) → ¬ ((σ.1 2403) < 0 ∨ 6 ≤ (σ.1 2403).toNatClampNeg)) (k4 : (p_has_13 σ c) → (p_isMinute σ m) → (p_isWater σ c) → (some (.int (f_add_24 σ (0 : Int32) c m)), HH x (g_add_24 σ (0 : Int32) c m)) = r) (k5 : (p_has_13 σ c) → (p_isMinute σ m) → ¬ (p_isWater σ c) → (some (.int (-3 : Int32)), HH x σ) = r) (k6 : (p_has_13 σ c) → ¬ (p_isMinute σ m) → (some (.int (-2 : Int32)), HH x σ) = r) (k7 : ¬ (p_has_13 σ c) → (some (.int (-1 : Int32)), HH x σ) = r) : mm_Runs d 55 (0, [some (.ref 2), some (.int c), some (.int m)], [], HH x σ) r := by
  refine mm_go 3 (F' := (5, [some (.ref 2), some (.int c), some (.int m)], [.int c, .ref 13], HH x σ)) rfl ?_
  refine mm_kl (z := 8) (as := [.ref 13, .int c]) (S' := []) (L2 := [some (.ref 13), some (.int c)]) (v := some (.int (mm_b (p_has_13 σ c)))) (h1 := HH x σ) rfl rfl rfl rfl rfl (by omega) (r_has_13 (by omega)) ?_
  show mm_Runs d 55 (8, [some (.ref 2), some (.int c), some (.int m)], [.int (mm_b (p_has_13 σ c))], HH x σ) r
  refine mm_go 1 (F' := (bif mm_cond .ne (mm_b (p_has_13 σ c)) 0 then 13 else 11, [some (.ref 2), some (.int c), some (.int m)], [], HH x σ)) rfl ?_
  refine mb_bne (fun h1 => ?_) (fun h1 => ?_)
  · refine mm_go 1 (F' := (14, [some (.ref 2), some (.int c), some (.int m)], [.int m], HH x σ)) rfl ?_
    refine mm_kl (z := 74) (as := [.int m]) (S' := []) (L2 := [some (.int m)]) (v := some (.int (mm_b (p_isMinute σ m)))) (h1 := HH x σ) rfl rfl rfl rfl rfl (by omega) (r_isMinute (by omega)) ?_
    show mm_Runs d 55 (17, [some (.ref 2), some (.int c), some (.int m)], [.int (mm_b (p_isMinute σ m))], HH x σ) r
    refine mm_go 1 (F' := (bif mm_cond .ne (mm_b (p_isMinute σ m)) 0 then 23 else 20, [some (.ref 2), some (.int c), some (.int m)], [], HH x σ)) rfl ?_
    refine mb_bne (fun h2 => ?_) (fun h2 => ?_)
    · refine mm_go 3 (F' := (28, [some (.ref 2), some (.int c), some (.int m)], [.int c, .ref 13], HH x σ)) rfl ?_
      refine mm_kl (z := 9) (as := [.ref 13, .int c]) (S' := []) (L2 := [some (.ref 13), some (.int c)]) (v := some (.int (mm_b (p_isWater σ c)))) (h1 := HH x σ) rfl rfl rfl rfl rfl (by omega) (r_isWater (by omega)) ?_
      show mm_Runs d 55 (31, [some (.ref 2), some (.int c), some (.int m)], [.int (mm_b (p_isWater σ c))], HH x σ) r
      refine mm_go 1 (F' := (bif mm_cond .ne (mm_b (p_isWater σ c)) 0 then 37 else 34, [some (.ref 2), some (.int c), some (.int m)], [], HH x σ)) rfl ?_
      refine mb_bne (fun h3 => ?_) (fun h3 => ?_)
      · refine mm_go 5 (F' := (44, [some (.ref 2), some (.int c), some (.int m)], [.int m, .int c, .int (0 : Int32), .ref 24], HH x σ)) rfl ?_
        refine mm_kl (z := 2) (as := [.ref 24, .int (0 : Int32), .int c, .int m]) (S' := []) (L2 := [some (.ref 24), some (.int (0 : Int32)), some (.int c), some (.int m)]) (v := some (.int (f_add_24 σ (0 : Int32) c m))) (h1 := HH x (g_add_24 σ (0 : Int32) c m)) rfl rfl rfl rfl rfl (by omega) (r_add_24 (by omega) (k1 h1 h2 h3) (k2 h1 h2 h3) (k3 h1 h2 h3)) ?_
        show mm_Runs d 55 (47, [some (.ref 2), some (.int c), some (.int m)], [.int (f_add_24 σ (0 : Int32) c m)], HH x (g_add_24 σ (0 : Int32) c m)) r
        exact mm_rt rfl rfl (k4 h1 h2 h3)
      · refine mm_go 1 (F' := (36, [some (.ref 2), some (.int c), some (.int m)], [.int (-3 : Int32)], HH x σ)) rfl ?_
        exact mm_rt rfl rfl (k5 h1 h2 h3)
    · refine mm_go 1 (F' := (22, [some (.ref 2), some (.int c), some (.int m)], [.int (-2 : Int32)], HH x σ)) rfl ?_
      exact mm_rt rfl rfl (k6 h1 h2)
  · refine mm_go 1 (F' := (12, [some (.ref 2), some (.int c), some (.int m)], [.int (-1 : Int32)], HH x σ)) rfl ?_
    exact mm_rt rfl rfl (k7 h1)
def f_reed (σ : mm_S) (c : Int32) (m : Int32) : Int32 := (if (p_has_13 σ c) then (if (p_isMinute σ m) then (if (p_isWater σ c) then (f_add_24 σ (0 : Int32) c m) else (-3 : Int32)) else (-2 : Int32)) else (-1 : Int32))
def g_reed (σ : mm_S) (c : Int32) (m : Int32) : mm_S := (if (p_has_13 σ c) then (if (p_isMinute σ m) then (if (p_isWater σ c) then (g_add_24 σ (0 : Int32) c m) else σ) else σ) else σ)
theorem r_reed {d : Nat} {x : Nat × (Nat → Int32)} {σ : mm_S} {c : Int32} {m : Int32} (hd : 1 ≤ d) (p0 : (p_has_13 σ c) → (p_isMinute σ m) → (p_isWater σ c) → (σ.1 2403) < (Int32.ofNat 6) → ¬ ((σ.1 2403) < 0 ∨ 6 ≤ (σ.1 2403).toNatClampNeg)) (p1 : (p_has_13 σ c) → (p_isMinute σ m) → (p_isWater σ c) → (σ.1 2403) < (Int32.ofNat 6) → ¬ ((σ.1 2403) < 0 ∨ 6 ≤ (σ.1 2403).toNatClampNeg)) (p2 : (p_has_13 σ c) → (p_isMinute σ m) → (p_isWater σ c) → (σ.1 2403) < (Int32.ofNat 6) → ¬ ((σ.1 2403) < 0 ∨ 6 ≤ (σ.1 2403).toNatClampNeg)) : mm_Runs d 55 (0, [some (.ref 2), some (.int c), some (.int m)], [], HH x σ) (some (.int (f_reed σ c m)), HH x (g_reed σ c m)) := by
  refine vc_reed (by omega) p0 p1 p2 (fun h1 h2 h3 => by first | rfl | (simp [f_reed, g_reed, h1, h2, h3]; done) | (simp_all [f_reed, g_reed]; done) | grind [f_reed, g_reed]) (fun h1 h2 h3 => by first | rfl | (simp [f_reed, g_reed, h1, h2, h3]; done) | (simp_all [f_reed, g_reed]; done) | grind [f_reed, g_reed]) (fun h1 h2 => by first | rfl | (simp [f_reed, g_reed, h1, h2]; done) | (simp_all [f_reed, g_reed]; done) | grind [f_reed, g_reed]) (fun h1 => by first | rfl | (simp [f_reed, g_reed, h1]; done) | (simp_all [f_reed, g_reed]; done) | grind [f_reed, g_reed])
theorem vc_stone {d : Nat} {x : Nat × (Nat → Int32)} {σ : mm_S} {k : Int32} {c : Int32} {m : Int32} {r : Option Value × mm_H} (hd : 1 ≤ d) (k1 : (p_has_13 σ c) → ¬ (p_isKind σ k) → (some (.int (-2 : Int32)), HH x σ) = r) (k2 : (p_has_13 σ c) → (p_isKind σ k) → (p_isMinute σ m) → (p_isWater σ c) → (σ.1 1603) < (Int32.ofNat 8) → ¬ ((σ.1 1603) < 0 ∨ 8 ≤ (σ.1 1603).toNatClampNeg)) (k3 : (p_has_13 σ c) → (p_isKind σ k) → (p_isMinute σ m) → (p_isWater σ c) → (σ.1 1603) < (Int32.ofNat 8) → ¬ ((σ.1 1603) < 0 ∨ 8 ≤ (σ.1 1603).toNatClampNeg)) (k4 : (p_has_13 σ c) → (p_isKind σ k) → (p_isMinute σ m) → (p_isWater σ c) → (σ.1 1603) < (Int32.ofNat 8) → ¬ ((σ.1 1603) < 0 ∨ 8 ≤ (σ.1 1603).toNatClampNeg)) (k5 : (p_has_13 σ c) → (p_isKind σ k) → (p_isMinute σ m) → (p_isWater σ c) → (some (.int (f_add_16 σ k c m)), HH x (g_add_16 σ k c m)) = r) (k6 : (p_has_13 σ c) → (p_isKind σ k) → (p_isMinute σ m) → ¬ (p_isWater σ c) → (some (.int (-3 : Int32)), HH x σ) = r) (k7 : (p_has_13 σ c) → (p_isKind σ k) → ¬ (p_isMinute σ m) → (some (.int (-2 : Int32)), HH x σ) = r) (k8 : ¬ (p_has_13 σ c) → (some (.int (-1 : Int32)), HH x σ) = r) : mm_Runs d 41 (0, [some (.ref 2), some (.int k), some (.int c), some (.int m)], [], HH x σ) r := by
  refine mm_go 3 (F' := (5, [some (.ref 2), some (.int k), some (.int c), some (.int m)], [.int c, .ref 13], HH x σ)) rfl ?_
  refine mm_kl (z := 8) (as := [.ref 13, .int c]) (S' := []) (L2 := [some (.ref 13), some (.int c)]) (v := some (.int (mm_b (p_has_13 σ c)))) (h1 := HH x σ) rfl rfl rfl rfl rfl (by omega) (r_has_13 (by omega)) ?_
  show mm_Runs d 41 (8, [some (.ref 2), some (.int k), some (.int c), some (.int m)], [.int (mm_b (p_has_13 σ c))], HH x σ) r
  refine mm_go 1 (F' := (bif mm_cond .ne (mm_b (p_has_13 σ c)) 0 then 13 else 11, [some (.ref 2), some (.int k), some (.int c), some (.int m)], [], HH x σ)) rfl ?_
  refine mb_bne (fun h1 => ?_) (fun h1 => ?_)
  · refine mm_go 1 (F' := (14, [some (.ref 2), some (.int k), some (.int c), some (.int m)], [.int k], HH x σ)) rfl ?_
    refine mm_kl (z := 73) (as := [.int k]) (S' := []) (L2 := [some (.int k)]) (v := some (.int (mm_b (p_isKind σ k)))) (h1 := HH x σ) rfl rfl rfl rfl rfl (by omega) (r_isKind (by omega)) ?_
    show mm_Runs d 41 (17, [some (.ref 2), some (.int k), some (.int c), some (.int m)], [.int (mm_b (p_isKind σ k))], HH x σ) r
    refine mm_go 1 (F' := (bif mm_cond .eq (mm_b (p_isKind σ k)) 0 then 27 else 20, [some (.ref 2), some (.int k), some (.int c), some (.int m)], [], HH x σ)) rfl ?_
    refine mb_beq (fun h2 => ?_) (fun h2 => ?_)
    · refine mm_go 1 (F' := (29, [some (.ref 2), some (.int k), some (.int c), some (.int m)], [.int (-2 : Int32)], HH x σ)) rfl ?_
      exact mm_rt rfl rfl (k1 h1 h2)
    · refine mm_go 1 (F' := (21, [some (.ref 2), some (.int k), some (.int c), some (.int m)], [.int m], HH x σ)) rfl ?_
      refine mm_kl (z := 74) (as := [.int m]) (S' := []) (L2 := [some (.int m)]) (v := some (.int (mm_b (p_isMinute σ m)))) (h1 := HH x σ) rfl rfl rfl rfl rfl (by omega) (r_isMinute (by omega)) ?_
      show mm_Runs d 41 (24, [some (.ref 2), some (.int k), some (.int c), some (.int m)], [.int (mm_b (p_isMinute σ m))], HH x σ) r
      refine mm_go 1 (F' := (bif mm_cond .ne (mm_b (p_isMinute σ m)) 0 then 30 else 27, [some (.ref 2), some (.int k), some (.int c), some (.int m)], [], HH x σ)) rfl ?_
      refine mb_bne (fun h3 => ?_) (fun h3 => ?_)
      · refine mm_go 3 (F' := (35, [some (.ref 2), some (.int k), some (.int c), some (.int m)], [.int c, .ref 13], HH x σ)) rfl ?_
        refine mm_kl (z := 9) (as := [.ref 13, .int c]) (S' := []) (L2 := [some (.ref 13), some (.int c)]) (v := some (.int (mm_b (p_isWater σ c)))) (h1 := HH x σ) rfl rfl rfl rfl rfl (by omega) (r_isWater (by omega)) ?_
        show mm_Runs d 41 (38, [some (.ref 2), some (.int k), some (.int c), some (.int m)], [.int (mm_b (p_isWater σ c))], HH x σ) r
        refine mm_go 1 (F' := (bif mm_cond .ne (mm_b (p_isWater σ c)) 0 then 44 else 41, [some (.ref 2), some (.int k), some (.int c), some (.int m)], [], HH x σ)) rfl ?_
        refine mb_bne (fun h4 => ?_) (fun h4 => ?_)
        · refine mm_go 5 (F' := (51, [some (.ref 2), some (.int k), some (.int c), some (.int m)], [.int m, .int c, .int k, .ref 16], HH x σ)) rfl ?_
          refine mm_kl (z := 2) (as := [.ref 16, .int k, .int c, .int m]) (S' := []) (L2 := [some (.ref 16), some (.int k), some (.int c), some (.int m)]) (v := some (.int (f_add_16 σ k c m))) (h1 := HH x (g_add_16 σ k c m)) rfl rfl rfl rfl rfl (by omega) (r_add_16 (by omega) (k2 h1 h2 h3 h4) (k3 h1 h2 h3 h4) (k4 h1 h2 h3 h4)) ?_
          show mm_Runs d 41 (54, [some (.ref 2), some (.int k), some (.int c), some (.int m)], [.int (f_add_16 σ k c m)], HH x (g_add_16 σ k c m)) r
          exact mm_rt rfl rfl (k5 h1 h2 h3 h4)
        · refine mm_go 1 (F' := (43, [some (.ref 2), some (.int k), some (.int c), some (.int m)], [.int (-3 : Int32)], HH x σ)) rfl ?_
          exact mm_rt rfl rfl (k6 h1 h2 h3 h4)
      · refine mm_go 1 (F' := (29, [some (.ref 2), some (.int k), some (.int c), some (.int m)], [.int (-2 : Int32)], HH x σ)) rfl ?_
        exact mm_rt rfl rfl (k7 h1 h2 h3)
  · refine mm_go 1 (F' := (12, [some (.ref 2), some (.int k), some (.int c), some (.int m)], [.int (-1 : Int32)], HH x σ)) rfl ?_
    exact mm_rt rfl rfl (k8 h1)
def f_stone (σ : mm_S) (k : Int32) (c : Int32) (m : Int32) : Int32 := (if (p_has_13 σ c) then (if (p_isKind σ k) then (if (p_isMinute σ m) then (if (p_isWater σ c) then (f_add_16 σ k c m) else (-3 : Int32)) else (-2 : Int32)) else (-2 : Int32)) else (-1 : Int32))
def g_stone (σ : mm_S) (k : Int32) (c : Int32) (m : Int32) : mm_S := (if (p_has_13 σ c) then (if (p_isKind σ k) then (if (p_isMinute σ m) then (if (p_isWater σ c) then (g_add_16 σ k c m) else σ) else σ) else σ) else σ)
theorem r_stone {d : Nat} {x : Nat × (Nat → Int32)} {σ : mm_S} {k : Int32} {c : Int32} {m : Int32} (hd : 1 ≤ d) (p0 : (p_has_13 σ c) → (p_isKind σ k) → (p_isMinute σ m) → (p_isWater σ c) → (σ.1 1603) < (Int32.ofNat 8) → ¬ ((σ.1 1603) < 0 ∨ 8 ≤ (σ.1 1603).toNatClampNeg)) (p1 : (p_has_13 σ c) → (p_isKind σ k) → (p_isMinute σ m) → (p_isWater σ c) → (σ.1 1603) < (Int32.ofNat 8) → ¬ ((σ.1 1603) < 0 ∨ 8 ≤ (σ.1 1603).toNatClampNeg)) (p2 : (p_has_13 σ c) → (p_isKind σ k) → (p_isMinute σ m) → (p_isWater σ c) → (σ.1 1603) < (Int32.ofNat 8) → ¬ ((σ.1 1603) < 0 ∨ 8 ≤ (σ.1 1603).toNatClampNeg)) : mm_Runs d 41 (0, [some (.ref 2), some (.int k), some (.int c), some (.int m)], [], HH x σ) (some (.int (f_stone σ k c m)), HH x (g_stone σ k c m)) := by
  refine vc_stone (by omega) (fun h1 h2 => by first | rfl | (simp [f_stone, g_stone, h1, h2]; done) | (simp_all [f_stone, g_stone]; done) | grind [f_stone, g_stone]) p0 p1 p2 (fun h1 h2 h3 h4 => by first | rfl | (simp [f_stone, g_stone, h1, h2, h3, h4]; done) | (simp_all [f_stone, g_stone]; done) | grind [f_stone, g_stone]) (fun h1 h2 h3 h4 => by first | rfl | (simp [f_stone, g_stone, h1, h2, h3, h4]; done) | (simp_all [f_stone, g_stone]; done) | grind [f_stone, g_stone]) (fun h1 h2 h3 => by first | rfl | (simp [f_stone, g_stone, h1, h2, h3]; done) | (simp_all [f_stone, g_stone]; done) | grind [f_stone, g_stone]) (fun h1 => by first | rfl | (simp [f_stone, g_stone, h1]; done) | (simp_all [f_stone, g_stone]; done) | grind [f_stone, g_stone])
theorem vc_make {d : Nat} {x : Nat × (Nat → Int32)} {σ : mm_S} {k : Int32} {r : Option Value × mm_H} (hd : 2 ≤ d) (k1 : (p_has_20 σ k) → ¬ (k < 0 ∨ 6 ≤ k.toNatClampNeg)) (k2 : (p_has_20 σ k) → ¬ ((σ.2.2.1 21) k.toNatClampNeg) = (2 : Int32) → (some (.int (f_lentMakes σ k)), HH x (g_lentMakes σ k)) = r) (k3 : (p_has_20 σ k) → ((σ.2.2.1 21) k.toNatClampNeg) = (2 : Int32) → (some (.int (f_grainMakes σ)), HH x (g_grainMakes σ)) = r) (k4 : ¬ (p_has_20 σ k) → (some (.int (-1 : Int32)), HH x σ) = r) : mm_Runs d 65 (0, [some (.ref 2), some (.int k)], [], HH x σ) r := by
  refine mm_go 3 (F' := (5, [some (.ref 2), some (.int k)], [.int k, .ref 20], HH x σ)) rfl ?_
  refine mm_kl (z := 0) (as := [.ref 20, .int k]) (S' := []) (L2 := [some (.ref 20), some (.int k)]) (v := some (.int (mm_b (p_has_20 σ k)))) (h1 := HH x σ) rfl rfl rfl rfl rfl (by omega) (r_has_20 (by omega)) ?_
  show mm_Runs d 65 (8, [some (.ref 2), some (.int k)], [.int (mm_b (p_has_20 σ k))], HH x σ) r
  refine mm_go 1 (F' := (bif mm_cond .ne (mm_b (p_has_20 σ k)) 0 then 13 else 11, [some (.ref 2), some (.int k)], [], HH x σ)) rfl ?_
  refine mb_bne (fun h1 => ?_) (fun h1 => ?_)
  · refine mm_go 4 (F' := (21, [some (.ref 2), some (.int k)], [.int k, .ref 21], HH x σ)) rfl ?_
    refine mm_gd (F' := (22, [some (.ref 2), some (.int k)], [.int ((σ.2.2.1 21) k.toNatClampNeg)], HH x σ)) rfl (k1 h1) ?_
    refine mm_go 2 (F' := (bif mm_cond .ne ((σ.2.2.1 21) k.toNatClampNeg) (2 : Int32) then 33 else 26, [some (.ref 2), some (.int k)], [], HH x σ)) rfl ?_
    refine mb_ne (fun h2 => ?_) (fun h2 => ?_)
    · refine mm_go 2 (F' := (35, [some (.ref 2), some (.int k)], [.int k, .ref 2], HH x σ)) rfl ?_
      refine mm_kl (z := 86) (as := [.ref 2, .int k]) (S' := []) (L2 := [some (.ref 2), some (.int k)]) (v := some (.int (f_lentMakes σ k))) (h1 := HH x (g_lentMakes σ k)) rfl rfl rfl rfl rfl (by omega) (r_lentMakes (by omega)) ?_
      show mm_Runs d 65 (38, [some (.ref 2), some (.int k)], [.int (f_lentMakes σ k)], HH x (g_lentMakes σ k)) r
      exact mm_rt rfl rfl (k2 h1 h2)
    · refine mm_go 1 (F' := (27, [some (.ref 2), some (.int k)], [.ref 2], HH x σ)) rfl ?_
      refine mm_kl (z := 87) (as := [.ref 2]) (S' := []) (L2 := [some (.ref 2)]) (v := some (.int (f_grainMakes σ))) (h1 := HH x (g_grainMakes σ)) rfl rfl rfl rfl rfl (by omega) (r_grainMakes (by omega)) ?_
      show mm_Runs d 65 (30, [some (.ref 2), some (.int k)], [.int (f_grainMakes σ)], HH x (g_grainMakes σ)) r
      refine mm_go 1 (F' := (38, [some (.ref 2), some (.int k)], [.int (f_grainMakes σ)], HH x (g_grainMakes σ))) rfl ?_
      exact mm_rt rfl rfl (k3 h1 h2)
  · refine mm_go 1 (F' := (12, [some (.ref 2), some (.int k)], [.int (-1 : Int32)], HH x σ)) rfl ?_
    exact mm_rt rfl rfl (k4 h1)
def f_make (σ : mm_S) (k : Int32) : Int32 := (if (p_has_20 σ k) then (if ((σ.2.2.1 21) k.toNatClampNeg) = (2 : Int32) then (f_grainMakes σ) else (f_lentMakes σ k)) else (-1 : Int32))
def g_make (σ : mm_S) (k : Int32) : mm_S := (if (p_has_20 σ k) then (if ((σ.2.2.1 21) k.toNatClampNeg) = (2 : Int32) then (g_grainMakes σ) else (g_lentMakes σ k)) else σ)
theorem r_make {d : Nat} {x : Nat × (Nat → Int32)} {σ : mm_S} {k : Int32} (hd : 2 ≤ d) (p0 : (p_has_20 σ k) → ¬ (k < 0 ∨ 6 ≤ k.toNatClampNeg)) : mm_Runs d 65 (0, [some (.ref 2), some (.int k)], [], HH x σ) (some (.int (f_make σ k)), HH x (g_make σ k)) := by
  refine vc_make (by omega) p0 (fun h1 h2 => by first | rfl | (simp [f_make, g_make, h1, h2]; done) | (simp_all [f_make, g_make]; done) | grind [f_make, g_make]) (fun h1 h2 => by first | rfl | (simp [f_make, g_make, h1, h2]; done) | (simp_all [f_make, g_make]; done) | grind [f_make, g_make]) (fun h1 => by first | rfl | (simp [f_make, g_make, h1]; done) | (simp_all [f_make, g_make]; done) | grind [f_make, g_make])
theorem vc_as_ {d : Nat} {x : Nat × (Nat → Int32)} {σ : mm_S} {k : Int32} {j : Int32} {r : Option Value × mm_H} (hd : 1 ≤ d) (k1 : (p_has_20 (ui σ 210 (0 : Int32)) k) → (p_isKind (ui σ 210 (0 : Int32)) j) → ¬ (k < 0 ∨ 6 ≤ k.toNatClampNeg)) (k2 : (p_has_20 (ui σ 210 (0 : Int32)) k) → (p_isKind (ui σ 210 (0 : Int32)) j) → ((σ.2.2.1 21) k.toNatClampNeg) < j → (some (.int (f_faulty (ui σ 210 (0 : Int32)) (2 : Int32))), HH x (g_faulty (ui σ 210 (0 : Int32)) (2 : Int32))) = r) (k3 : (p_has_20 (ui σ 210 (0 : Int32)) k) → (p_isKind (ui σ 210 (0 : Int32)) j) → ¬ ((σ.2.2.1 21) k.toNatClampNeg) < j → (some (.int (1 : Int32)), HH x (ui σ 210 (0 : Int32))) = r) (k4 : (p_has_20 (ui σ 210 (0 : Int32)) k) → ¬ (p_isKind (ui σ 210 (0 : Int32)) j) → (some (.int (-2 : Int32)), HH x (ui σ 210 (0 : Int32))) = r) (k5 : ¬ (p_has_20 (ui σ 210 (0 : Int32)) k) → (some (.int (-1 : Int32)), HH x (ui σ 210 (0 : Int32))) = r) : mm_Runs d 66 (0, [some (.ref 2), some (.int k), some (.int j)], [], HH x σ) r := by
  refine mm_go 2 (F' := (2, [some (.ref 2), some (.int k), some (.int j)], [.int (0 : Int32), .ref 2], HH x σ)) rfl ?_
  refine mm_go 1 (F' := (5, [some (.ref 2), some (.int k), some (.int j)], [], HH x (ui σ 210 (0 : Int32)))) rfl ?_
  refine mm_go 3 (F' := (10, [some (.ref 2), some (.int k), some (.int j)], [.int k, .ref 20], HH x (ui σ 210 (0 : Int32)))) rfl ?_
  refine mm_kl (z := 0) (as := [.ref 20, .int k]) (S' := []) (L2 := [some (.ref 20), some (.int k)]) (v := some (.int (mm_b (p_has_20 (ui σ 210 (0 : Int32)) k)))) (h1 := HH x (ui σ 210 (0 : Int32))) rfl rfl rfl rfl rfl (by omega) (r_has_20 (by omega)) ?_
  show mm_Runs d 66 (13, [some (.ref 2), some (.int k), some (.int j)], [.int (mm_b (p_has_20 (ui σ 210 (0 : Int32)) k))], HH x (ui σ 210 (0 : Int32))) r
  refine mm_go 1 (F' := (bif mm_cond .ne (mm_b (p_has_20 (ui σ 210 (0 : Int32)) k)) 0 then 18 else 16, [some (.ref 2), some (.int k), some (.int j)], [], HH x (ui σ 210 (0 : Int32)))) rfl ?_
  refine mb_bne (fun h1 => ?_) (fun h1 => ?_)
  · refine mm_go 1 (F' := (19, [some (.ref 2), some (.int k), some (.int j)], [.int j], HH x (ui σ 210 (0 : Int32)))) rfl ?_
    refine mm_kl (z := 73) (as := [.int j]) (S' := []) (L2 := [some (.int j)]) (v := some (.int (mm_b (p_isKind (ui σ 210 (0 : Int32)) j)))) (h1 := HH x (ui σ 210 (0 : Int32))) rfl rfl rfl rfl rfl (by omega) (r_isKind (by omega)) ?_
    show mm_Runs d 66 (22, [some (.ref 2), some (.int k), some (.int j)], [.int (mm_b (p_isKind (ui σ 210 (0 : Int32)) j))], HH x (ui σ 210 (0 : Int32))) r
    refine mm_go 1 (F' := (bif mm_cond .ne (mm_b (p_isKind (ui σ 210 (0 : Int32)) j)) 0 then 28 else 25, [some (.ref 2), some (.int k), some (.int j)], [], HH x (ui σ 210 (0 : Int32)))) rfl ?_
    refine mb_bne (fun h2 => ?_) (fun h2 => ?_)
    · refine mm_go 4 (F' := (36, [some (.ref 2), some (.int k), some (.int j)], [.int k, .ref 21], HH x (ui σ 210 (0 : Int32)))) rfl ?_
      refine mm_gd (F' := (37, [some (.ref 2), some (.int k), some (.int j)], [.int ((σ.2.2.1 21) k.toNatClampNeg)], HH x (ui σ 210 (0 : Int32)))) rfl (k1 h1 h2) ?_
      refine mm_go 2 (F' := (bif mm_cond .lt ((σ.2.2.1 21) k.toNatClampNeg) j then 45 else 41, [some (.ref 2), some (.int k), some (.int j)], [], HH x (ui σ 210 (0 : Int32)))) rfl ?_
      refine mb_lt (fun h3 => ?_) (fun h3 => ?_)
      · refine mm_go 2 (F' := (47, [some (.ref 2), some (.int k), some (.int j)], [.int (2 : Int32), .ref 2], HH x (ui σ 210 (0 : Int32)))) rfl ?_
        refine mm_kl (z := 70) (as := [.ref 2, .int (2 : Int32)]) (S' := []) (L2 := [some (.ref 2), some (.int (2 : Int32))]) (v := some (.int (f_faulty (ui σ 210 (0 : Int32)) (2 : Int32)))) (h1 := HH x (g_faulty (ui σ 210 (0 : Int32)) (2 : Int32))) rfl rfl rfl rfl rfl (by omega) (r_faulty (by omega)) ?_
        show mm_Runs d 66 (50, [some (.ref 2), some (.int k), some (.int j)], [.int (f_faulty (ui σ 210 (0 : Int32)) (2 : Int32))], HH x (g_faulty (ui σ 210 (0 : Int32)) (2 : Int32))) r
        exact mm_rt rfl rfl (k2 h1 h2 h3)
      · refine mm_go 2 (F' := (50, [some (.ref 2), some (.int k), some (.int j)], [.int (1 : Int32)], HH x (ui σ 210 (0 : Int32)))) rfl ?_
        exact mm_rt rfl rfl (k3 h1 h2 h3)
    · refine mm_go 1 (F' := (27, [some (.ref 2), some (.int k), some (.int j)], [.int (-2 : Int32)], HH x (ui σ 210 (0 : Int32)))) rfl ?_
      exact mm_rt rfl rfl (k4 h1 h2)
  · refine mm_go 1 (F' := (17, [some (.ref 2), some (.int k), some (.int j)], [.int (-1 : Int32)], HH x (ui σ 210 (0 : Int32)))) rfl ?_
    exact mm_rt rfl rfl (k5 h1)
def f_as_ (σ : mm_S) (k : Int32) (j : Int32) : Int32 := (if (p_has_20 (ui σ 210 (0 : Int32)) k) then (if (p_isKind (ui σ 210 (0 : Int32)) j) then (if ((σ.2.2.1 21) k.toNatClampNeg) < j then (f_faulty (ui σ 210 (0 : Int32)) (2 : Int32)) else (1 : Int32)) else (-2 : Int32)) else (-1 : Int32))
def g_as_ (σ : mm_S) (k : Int32) (j : Int32) : mm_S := (if (p_has_20 (ui σ 210 (0 : Int32)) k) then (if (p_isKind (ui σ 210 (0 : Int32)) j) then (if ((σ.2.2.1 21) k.toNatClampNeg) < j then (g_faulty (ui σ 210 (0 : Int32)) (2 : Int32)) else (ui σ 210 (0 : Int32))) else (ui σ 210 (0 : Int32))) else (ui σ 210 (0 : Int32)))
theorem r_as_ {d : Nat} {x : Nat × (Nat → Int32)} {σ : mm_S} {k : Int32} {j : Int32} (hd : 1 ≤ d) (p0 : (p_has_20 (ui σ 210 (0 : Int32)) k) → (p_isKind (ui σ 210 (0 : Int32)) j) → ¬ (k < 0 ∨ 6 ≤ k.toNatClampNeg)) : mm_Runs d 66 (0, [some (.ref 2), some (.int k), some (.int j)], [], HH x σ) (some (.int (f_as_ σ k j)), HH x (g_as_ σ k j)) := by
  refine vc_as_ (by omega) p0 (fun h1 h2 h3 => by first | rfl | (simp [f_as_, g_as_, h1, h2, h3]; done) | (simp_all [f_as_, g_as_]; done) | grind [f_as_, g_as_]) (fun h1 h2 h3 => by first | rfl | (simp [f_as_, g_as_, h1, h2, h3]; done) | (simp_all [f_as_, g_as_]; done) | grind [f_as_, g_as_]) (fun h1 h2 => by first | rfl | (simp [f_as_, g_as_, h1, h2]; done) | (simp_all [f_as_, g_as_]; done) | grind [f_as_, g_as_]) (fun h1 => by first | rfl | (simp [f_as_, g_as_, h1]; done) | (simp_all [f_as_, g_as_]; done) | grind [f_as_, g_as_])
theorem vc_lose {d : Nat} {x : Nat × (Nat → Int32)} {σ : mm_S} {k : Int32} {r : Option Value × mm_H} (hd : 1 ≤ d) (k1 : (p_isSheet σ k) → ¬ (k < 0 ∨ 4 ≤ k.toNatClampNeg)) (k2 : (p_isSheet σ k) → k = (0 : Int32) → (σ.1 401) = 0 → (some (.int (0 : Int32)), HH x (ui σ 401 (0 : Int32))) = r) (k3 : (p_isSheet σ k) → k = (0 : Int32) → ¬ (σ.1 401) = 0 → (some (.int (1 : Int32)), HH x (ui σ 401 (0 : Int32))) = r) (k4 : (p_isSheet σ k) → k = (1 : Int32) → (σ.1 501) = 0 → (some (.int (0 : Int32)), HH x (ui σ 501 (0 : Int32))) = r) (k5 : (p_isSheet σ k) → k = (1 : Int32) → ¬ (σ.1 501) = 0 → (some (.int (1 : Int32)), HH x (ui σ 501 (0 : Int32))) = r) (k6 : (p_isSheet σ k) → k = (2 : Int32) → (σ.1 601) = 0 → (some (.int (0 : Int32)), HH x (ui σ 601 (0 : Int32))) = r) (k7 : (p_isSheet σ k) → k = (2 : Int32) → ¬ (σ.1 601) = 0 → (some (.int (1 : Int32)), HH x (ui σ 601 (0 : Int32))) = r) (k8 : (p_isSheet σ k) → k = (3 : Int32) → (σ.1 701) = 0 → (some (.int (0 : Int32)), HH x (ui σ 701 (0 : Int32))) = r) (k9 : (p_isSheet σ k) → k = (3 : Int32) → ¬ (σ.1 701) = 0 → (some (.int (1 : Int32)), HH x (ui σ 701 (0 : Int32))) = r) (k10 : ¬ (p_isSheet σ k) → (some (.int (-1 : Int32)), HH x σ) = r) : mm_Runs d 60 (0, [some (.ref 2), some (.int k), none], [], HH x σ) r := by
  refine mm_go 1 (F' := (1, [some (.ref 2), some (.int k), none], [.int k], HH x σ)) rfl ?_
  refine mm_kl (z := 71) (as := [.int k]) (S' := []) (L2 := [some (.int k)]) (v := some (.int (mm_b (p_isSheet σ k)))) (h1 := HH x σ) rfl rfl rfl rfl rfl (by omega) (r_isSheet (by omega)) ?_
  show mm_Runs d 60 (4, [some (.ref 2), some (.int k), none], [.int (mm_b (p_isSheet σ k))], HH x σ) r
  refine mm_go 1 (F' := (bif mm_cond .ne (mm_b (p_isSheet σ k)) 0 then 9 else 7, [some (.ref 2), some (.int k), none], [], HH x σ)) rfl ?_
  refine mb_bne (fun h1 => ?_) (fun h1 => ?_)
  · refine mm_go 3 (F' := (14, [some (.ref 2), some (.int k), none], [.int k, .ref 3], HH x σ)) rfl ?_
    rcases mm_in4 (k1 h1) with h2 | h2 | h2 | h2
    · refine mm_tsA h2 (F' := (15, [some (.ref 2), some (.int k), none], [.ref 4], HH x σ)) rfl ?_
      refine mm_go 2 (F' := (bif mm_cond .eq (σ.1 401) 0 then 25 else 21, [some (.ref 2), some (.int k), none], [], HH x σ)) rfl ?_
      refine mb_eq (fun h3 => ?_) (fun h3 => ?_)
      · refine mm_go 5 (F' := (32, [some (.ref 2), some (.int k), some (.int (0 : Int32))], [.int k, .ref 3], HH x σ)) rfl ?_
        refine mm_tsA h2 (F' := (33, [some (.ref 2), some (.int k), some (.int (0 : Int32))], [.ref 4], HH x σ)) rfl ?_
        refine mm_go 1 (F' := (34, [some (.ref 2), some (.int k), some (.int (0 : Int32))], [.int (0 : Int32), .ref 4], HH x σ)) rfl ?_
        refine mm_gt (c := (0 : Int32) = 0 ∨ (0 : Int32) = 1) (F' := (37, [some (.ref 2), some (.int k), some (.int (0 : Int32))], [], HH x (ui σ 401 (0 : Int32)))) rfl (Or.inl rfl) ?_
        refine mm_go 1 (F' := (38, [some (.ref 2), some (.int k), some (.int (0 : Int32))], [.int (0 : Int32)], HH x (ui σ 401 (0 : Int32)))) rfl ?_
        exact mm_rt rfl rfl (k2 h1 h2 h3)
      · refine mm_go 6 (F' := (32, [some (.ref 2), some (.int k), some (.int (1 : Int32))], [.int k, .ref 3], HH x σ)) rfl ?_
        refine mm_tsA h2 (F' := (33, [some (.ref 2), some (.int k), some (.int (1 : Int32))], [.ref 4], HH x σ)) rfl ?_
        refine mm_go 1 (F' := (34, [some (.ref 2), some (.int k), some (.int (1 : Int32))], [.int (0 : Int32), .ref 4], HH x σ)) rfl ?_
        refine mm_gt (c := (0 : Int32) = 0 ∨ (0 : Int32) = 1) (F' := (37, [some (.ref 2), some (.int k), some (.int (1 : Int32))], [], HH x (ui σ 401 (0 : Int32)))) rfl (Or.inl rfl) ?_
        refine mm_go 1 (F' := (38, [some (.ref 2), some (.int k), some (.int (1 : Int32))], [.int (1 : Int32)], HH x (ui σ 401 (0 : Int32)))) rfl ?_
        exact mm_rt rfl rfl (k3 h1 h2 h3)
    · refine mm_tsA h2 (F' := (15, [some (.ref 2), some (.int k), none], [.ref 5], HH x σ)) rfl ?_
      refine mm_go 2 (F' := (bif mm_cond .eq (σ.1 501) 0 then 25 else 21, [some (.ref 2), some (.int k), none], [], HH x σ)) rfl ?_
      refine mb_eq (fun h4 => ?_) (fun h4 => ?_)
      · refine mm_go 5 (F' := (32, [some (.ref 2), some (.int k), some (.int (0 : Int32))], [.int k, .ref 3], HH x σ)) rfl ?_
        refine mm_tsA h2 (F' := (33, [some (.ref 2), some (.int k), some (.int (0 : Int32))], [.ref 5], HH x σ)) rfl ?_
        refine mm_go 1 (F' := (34, [some (.ref 2), some (.int k), some (.int (0 : Int32))], [.int (0 : Int32), .ref 5], HH x σ)) rfl ?_
        refine mm_gt (c := (0 : Int32) = 0 ∨ (0 : Int32) = 1) (F' := (37, [some (.ref 2), some (.int k), some (.int (0 : Int32))], [], HH x (ui σ 501 (0 : Int32)))) rfl (Or.inl rfl) ?_
        refine mm_go 1 (F' := (38, [some (.ref 2), some (.int k), some (.int (0 : Int32))], [.int (0 : Int32)], HH x (ui σ 501 (0 : Int32)))) rfl ?_
        exact mm_rt rfl rfl (k4 h1 h2 h4)
      · refine mm_go 6 (F' := (32, [some (.ref 2), some (.int k), some (.int (1 : Int32))], [.int k, .ref 3], HH x σ)) rfl ?_
        refine mm_tsA h2 (F' := (33, [some (.ref 2), some (.int k), some (.int (1 : Int32))], [.ref 5], HH x σ)) rfl ?_
        refine mm_go 1 (F' := (34, [some (.ref 2), some (.int k), some (.int (1 : Int32))], [.int (0 : Int32), .ref 5], HH x σ)) rfl ?_
        refine mm_gt (c := (0 : Int32) = 0 ∨ (0 : Int32) = 1) (F' := (37, [some (.ref 2), some (.int k), some (.int (1 : Int32))], [], HH x (ui σ 501 (0 : Int32)))) rfl (Or.inl rfl) ?_
        refine mm_go 1 (F' := (38, [some (.ref 2), some (.int k), some (.int (1 : Int32))], [.int (1 : Int32)], HH x (ui σ 501 (0 : Int32)))) rfl ?_
        exact mm_rt rfl rfl (k5 h1 h2 h4)
    · refine mm_tsA h2 (F' := (15, [some (.ref 2), some (.int k), none], [.ref 6], HH x σ)) rfl ?_
      refine mm_go 2 (F' := (bif mm_cond .eq (σ.1 601) 0 then 25 else 21, [some (.ref 2), some (.int k), none], [], HH x σ)) rfl ?_
      refine mb_eq (fun h5 => ?_) (fun h5 => ?_)
      · refine mm_go 5 (F' := (32, [some (.ref 2), some (.int k), some (.int (0 : Int32))], [.int k, .ref 3], HH x σ)) rfl ?_
        refine mm_tsA h2 (F' := (33, [some (.ref 2), some (.int k), some (.int (0 : Int32))], [.ref 6], HH x σ)) rfl ?_
        refine mm_go 1 (F' := (34, [some (.ref 2), some (.int k), some (.int (0 : Int32))], [.int (0 : Int32), .ref 6], HH x σ)) rfl ?_
        refine mm_gt (c := (0 : Int32) = 0 ∨ (0 : Int32) = 1) (F' := (37, [some (.ref 2), some (.int k), some (.int (0 : Int32))], [], HH x (ui σ 601 (0 : Int32)))) rfl (Or.inl rfl) ?_
        refine mm_go 1 (F' := (38, [some (.ref 2), some (.int k), some (.int (0 : Int32))], [.int (0 : Int32)], HH x (ui σ 601 (0 : Int32)))) rfl ?_
        exact mm_rt rfl rfl (k6 h1 h2 h5)
      · refine mm_go 6 (F' := (32, [some (.ref 2), some (.int k), some (.int (1 : Int32))], [.int k, .ref 3], HH x σ)) rfl ?_
        refine mm_tsA h2 (F' := (33, [some (.ref 2), some (.int k), some (.int (1 : Int32))], [.ref 6], HH x σ)) rfl ?_
        refine mm_go 1 (F' := (34, [some (.ref 2), some (.int k), some (.int (1 : Int32))], [.int (0 : Int32), .ref 6], HH x σ)) rfl ?_
        refine mm_gt (c := (0 : Int32) = 0 ∨ (0 : Int32) = 1) (F' := (37, [some (.ref 2), some (.int k), some (.int (1 : Int32))], [], HH x (ui σ 601 (0 : Int32)))) rfl (Or.inl rfl) ?_
        refine mm_go 1 (F' := (38, [some (.ref 2), some (.int k), some (.int (1 : Int32))], [.int (1 : Int32)], HH x (ui σ 601 (0 : Int32)))) rfl ?_
        exact mm_rt rfl rfl (k7 h1 h2 h5)
    · refine mm_tsA h2 (F' := (15, [some (.ref 2), some (.int k), none], [.ref 7], HH x σ)) rfl ?_
      refine mm_go 2 (F' := (bif mm_cond .eq (σ.1 701) 0 then 25 else 21, [some (.ref 2), some (.int k), none], [], HH x σ)) rfl ?_
      refine mb_eq (fun h6 => ?_) (fun h6 => ?_)
      · refine mm_go 5 (F' := (32, [some (.ref 2), some (.int k), some (.int (0 : Int32))], [.int k, .ref 3], HH x σ)) rfl ?_
        refine mm_tsA h2 (F' := (33, [some (.ref 2), some (.int k), some (.int (0 : Int32))], [.ref 7], HH x σ)) rfl ?_
        refine mm_go 1 (F' := (34, [some (.ref 2), some (.int k), some (.int (0 : Int32))], [.int (0 : Int32), .ref 7], HH x σ)) rfl ?_
        refine mm_gt (c := (0 : Int32) = 0 ∨ (0 : Int32) = 1) (F' := (37, [some (.ref 2), some (.int k), some (.int (0 : Int32))], [], HH x (ui σ 701 (0 : Int32)))) rfl (Or.inl rfl) ?_
        refine mm_go 1 (F' := (38, [some (.ref 2), some (.int k), some (.int (0 : Int32))], [.int (0 : Int32)], HH x (ui σ 701 (0 : Int32)))) rfl ?_
        exact mm_rt rfl rfl (k8 h1 h2 h6)
      · refine mm_go 6 (F' := (32, [some (.ref 2), some (.int k), some (.int (1 : Int32))], [.int k, .ref 3], HH x σ)) rfl ?_
        refine mm_tsA h2 (F' := (33, [some (.ref 2), some (.int k), some (.int (1 : Int32))], [.ref 7], HH x σ)) rfl ?_
        refine mm_go 1 (F' := (34, [some (.ref 2), some (.int k), some (.int (1 : Int32))], [.int (0 : Int32), .ref 7], HH x σ)) rfl ?_
        refine mm_gt (c := (0 : Int32) = 0 ∨ (0 : Int32) = 1) (F' := (37, [some (.ref 2), some (.int k), some (.int (1 : Int32))], [], HH x (ui σ 701 (0 : Int32)))) rfl (Or.inl rfl) ?_
        refine mm_go 1 (F' := (38, [some (.ref 2), some (.int k), some (.int (1 : Int32))], [.int (1 : Int32)], HH x (ui σ 701 (0 : Int32)))) rfl ?_
        exact mm_rt rfl rfl (k9 h1 h2 h6)
  · refine mm_go 1 (F' := (8, [some (.ref 2), some (.int k), none], [.int (-1 : Int32)], HH x σ)) rfl ?_
    exact mm_rt rfl rfl (k10 h1)
def f_lose (σ : mm_S) (k : Int32) : Int32 := (if (p_isSheet σ k) then (if k = (0 : Int32) then (if (σ.1 401) = 0 then (0 : Int32) else (1 : Int32)) else (if k = (1 : Int32) then (if (σ.1 501) = 0 then (0 : Int32) else (1 : Int32)) else (if k = (2 : Int32) then (if (σ.1 601) = 0 then (0 : Int32) else (1 : Int32)) else (if (σ.1 701) = 0 then (0 : Int32) else (1 : Int32))))) else (-1 : Int32))
def g_lose (σ : mm_S) (k : Int32) : mm_S := (if (p_isSheet σ k) then (if k = (0 : Int32) then (ui σ 401 (0 : Int32)) else (if k = (1 : Int32) then (ui σ 501 (0 : Int32)) else (if k = (2 : Int32) then (ui σ 601 (0 : Int32)) else (ui σ 701 (0 : Int32))))) else σ)
theorem r_lose {d : Nat} {x : Nat × (Nat → Int32)} {σ : mm_S} {k : Int32} (hd : 1 ≤ d) (p0 : (p_isSheet σ k) → ¬ (k < 0 ∨ 4 ≤ k.toNatClampNeg)) : mm_Runs d 60 (0, [some (.ref 2), some (.int k), none], [], HH x σ) (some (.int (f_lose σ k)), HH x (g_lose σ k)) := by
  refine vc_lose (by omega) p0 (fun h1 h2 h3 => by first | rfl | (simp [f_lose, g_lose, h1, h2, h3]; done) | (simp_all [f_lose, g_lose]; done) | grind [f_lose, g_lose]) (fun h1 h2 h3 => by first | rfl | (simp [f_lose, g_lose, h1, h2, h3]; done) | (simp_all [f_lose, g_lose]; done) | grind [f_lose, g_lose]) (fun h1 h2 h3 => by first | rfl | (simp [f_lose, g_lose, h1, h2, h3]; done) | (simp_all [f_lose, g_lose]; done) | grind [f_lose, g_lose]) (fun h1 h2 h3 => by first | rfl | (simp [f_lose, g_lose, h1, h2, h3]; done) | (simp_all [f_lose, g_lose]; done) | grind [f_lose, g_lose]) (fun h1 h2 h3 => by first | rfl | (simp [f_lose, g_lose, h1, h2, h3]; done) | (simp_all [f_lose, g_lose]; done) | grind [f_lose, g_lose]) (fun h1 h2 h3 => by first | rfl | (simp [f_lose, g_lose, h1, h2, h3]; done) | (simp_all [f_lose, g_lose]; done) | grind [f_lose, g_lose]) (fun h1 h2 h3 => by first | rfl | (simp [f_lose, g_lose, h1, h2, h3]; done) | (simp_all [f_lose, g_lose]; done) | grind [f_lose, g_lose]) (fun h1 h2 h3 => by first | rfl | (simp [f_lose, g_lose, h1, h2, h3]; done) | (simp_all [f_lose, g_lose]; done) | grind [f_lose, g_lose]) (fun h1 => by first | rfl | (simp [f_lose, g_lose, h1]; done) | (simp_all [f_lose, g_lose]; done) | grind [f_lose, g_lose])
theorem vc_put {d : Nat} {x : Nat × (Nat → Int32)} {σ : mm_S} {k : Int32} {i : Int32} {v : Int32} {r : Option Value × mm_H} (hd : 1 ≤ d) (k1 : (p_isSheet (ui σ 210 (0 : Int32)) k) → ¬ (k < 0 ∨ 4 ≤ k.toNatClampNeg)) (k2 : (p_isSheet (ui σ 210 (0 : Int32)) k) → k = (0 : Int32) → ¬ (σ.1 401) = 0 → (p_hasCells_4 (ui σ 210 (0 : Int32)) i (1 : Int32)) → ¬ ((ui σ 210 (0 : Int32)).1 402) = 0 → ¬ ((ui σ 210 (0 : Int32)).1 402) = (1 : Int32) → ¬ (i < 0 ∨ 60 ≤ i.toNatClampNeg)) (k3 : (p_isSheet (ui σ 210 (0 : Int32)) k) → k = (0 : Int32) → ¬ (σ.1 401) = 0 → (p_hasCells_4 (ui σ 210 (0 : Int32)) i (1 : Int32)) → ¬ ((ui σ 210 (0 : Int32)).1 402) = 0 → ((ui σ 210 (0 : Int32)).1 402) = (1 : Int32) → ¬ (i < 0 ∨ 60 ≤ i.toNatClampNeg)) (k4 : (p_isSheet (ui σ 210 (0 : Int32)) k) → k = (0 : Int32) → ¬ (σ.1 401) = 0 → (p_hasCells_4 (ui σ 210 (0 : Int32)) i (1 : Int32)) → ((ui σ 210 (0 : Int32)).1 402) = 0 → ¬ (i < 0 ∨ 60 ≤ i.toNatClampNeg)) (k5 : (p_isSheet (ui σ 210 (0 : Int32)) k) → k = (0 : Int32) → ¬ (σ.1 401) = 0 → (p_hasCells_4 (ui σ 210 (0 : Int32)) i (1 : Int32)) → (some (.int (1 : Int32)), HH x (g_take_4 (ui σ 210 (0 : Int32)) i v)) = r) (k6 : (p_isSheet (ui σ 210 (0 : Int32)) k) → k = (0 : Int32) → ¬ (σ.1 401) = 0 → ¬ (p_hasCells_4 (ui σ 210 (0 : Int32)) i (1 : Int32)) → (some (.int (f_faulty (ui σ 210 (0 : Int32)) (3 : Int32))), HH x (g_faulty (ui σ 210 (0 : Int32)) (3 : Int32))) = r) (k7 : (p_isSheet (ui σ 210 (0 : Int32)) k) → k = (0 : Int32) → (σ.1 401) = 0 → (some (.int (f_faulty (ui σ 210 (0 : Int32)) (1 : Int32))), HH x (g_faulty (ui σ 210 (0 : Int32)) (1 : Int32))) = r) (k8 : (p_isSheet (ui σ 210 (0 : Int32)) k) → k = (1 : Int32) → ¬ (σ.1 501) = 0 → (p_hasCells_5 (ui σ 210 (0 : Int32)) i (1 : Int32)) → ¬ ((ui σ 210 (0 : Int32)).1 502) = 0 → ¬ ((ui σ 210 (0 : Int32)).1 502) = (1 : Int32) → ¬ (i < 0 ∨ 60 ≤ i.toNatClampNeg)) (k9 : (p_isSheet (ui σ 210 (0 : Int32)) k) → k = (1 : Int32) → ¬ (σ.1 501) = 0 → (p_hasCells_5 (ui σ 210 (0 : Int32)) i (1 : Int32)) → ¬ ((ui σ 210 (0 : Int32)).1 502) = 0 → ((ui σ 210 (0 : Int32)).1 502) = (1 : Int32) → ¬ (i < 0 ∨ 60 ≤ i.toNatClampNeg)) (k10 : (p_isSheet (ui σ 210 (0 : Int32)) k) → k = (1 : Int32) → ¬ (σ.1 501) = 0 → (p_hasCells_5 (ui σ 210 (0 : Int32)) i (1 : Int32)) → ((ui σ 210 (0 : Int32)).1 502) = 0 → ¬ (i < 0 ∨ 60 ≤ i.toNatClampNeg)) (k11 : (p_isSheet (ui σ 210 (0 : Int32)) k) → k = (1 : Int32) → ¬ (σ.1 501) = 0 → (p_hasCells_5 (ui σ 210 (0 : Int32)) i (1 : Int32)) → (some (.int (1 : Int32)), HH x (g_take_5 (ui σ 210 (0 : Int32)) i v)) = r) (k12 : (p_isSheet (ui σ 210 (0 : Int32)) k) → k = (1 : Int32) → ¬ (σ.1 501) = 0 → ¬ (p_hasCells_5 (ui σ 210 (0 : Int32)) i (1 : Int32)) → (some (.int (f_faulty (ui σ 210 (0 : Int32)) (3 : Int32))), HH x (g_faulty (ui σ 210 (0 : Int32)) (3 : Int32))) = r) (k13 : (p_isSheet (ui σ 210 (0 : Int32)) k) → k = (1 : Int32) → (σ.1 501) = 0 → (some (.int (f_faulty (ui σ 210 (0 : Int32)) (1 : Int32))), HH x (g_faulty (ui σ 210 (0 : Int32)) (1 : Int32))) = r) (k14 : (p_isSheet (ui σ 210 (0 : Int32)) k) → k = (2 : Int32) → ¬ (σ.1 601) = 0 → (p_hasCells_6 (ui σ 210 (0 : Int32)) i (1 : Int32)) → ¬ ((ui σ 210 (0 : Int32)).1 602) = 0 → ¬ ((ui σ 210 (0 : Int32)).1 602) = (1 : Int32) → ¬ (i < 0 ∨ 60 ≤ i.toNatClampNeg)) (k15 : (p_isSheet (ui σ 210 (0 : Int32)) k) → k = (2 : Int32) → ¬ (σ.1 601) = 0 → (p_hasCells_6 (ui σ 210 (0 : Int32)) i (1 : Int32)) → ¬ ((ui σ 210 (0 : Int32)).1 602) = 0 → ((ui σ 210 (0 : Int32)).1 602) = (1 : Int32) → ¬ (i < 0 ∨ 60 ≤ i.toNatClampNeg)) (k16 : (p_isSheet (ui σ 210 (0 : Int32)) k) → k = (2 : Int32) → ¬ (σ.1 601) = 0 → (p_hasCells_6 (ui σ 210 (0 : Int32)) i (1 : Int32)) → ((ui σ 210 (0 : Int32)).1 602) = 0 → ¬ (i < 0 ∨ 60 ≤ i.toNatClampNeg)) (k17 : (p_isSheet (ui σ 210 (0 : Int32)) k) → k = (2 : Int32) → ¬ (σ.1 601) = 0 → (p_hasCells_6 (ui σ 210 (0 : Int32)) i (1 : Int32)) → (some (.int (1 : Int32)), HH x (g_take_6 (ui σ 210 (0 : Int32)) i v)) = r) (k18 : (p_isSheet (ui σ 210 (0 : Int32)) k) → k = (2 : Int32) → ¬ (σ.1 601) = 0 → ¬ (p_hasCells_6 (ui σ 210 (0 : Int32)) i (1 : Int32)) → (some (.int (f_faulty (ui σ 210 (0 : Int32)) (3 : Int32))), HH x (g_faulty (ui σ 210 (0 : Int32)) (3 : Int32))) = r) (k19 : (p_isSheet (ui σ 210 (0 : Int32)) k) → k = (2 : Int32) → (σ.1 601) = 0 → (some (.int (f_faulty (ui σ 210 (0 : Int32)) (1 : Int32))), HH x (g_faulty (ui σ 210 (0 : Int32)) (1 : Int32))) = r) (k20 : (p_isSheet (ui σ 210 (0 : Int32)) k) → k = (3 : Int32) → ¬ (σ.1 701) = 0 → (p_hasCells_7 (ui σ 210 (0 : Int32)) i (1 : Int32)) → ¬ ((ui σ 210 (0 : Int32)).1 702) = 0 → ¬ ((ui σ 210 (0 : Int32)).1 702) = (1 : Int32) → ¬ (i < 0 ∨ 60 ≤ i.toNatClampNeg)) (k21 : (p_isSheet (ui σ 210 (0 : Int32)) k) → k = (3 : Int32) → ¬ (σ.1 701) = 0 → (p_hasCells_7 (ui σ 210 (0 : Int32)) i (1 : Int32)) → ¬ ((ui σ 210 (0 : Int32)).1 702) = 0 → ((ui σ 210 (0 : Int32)).1 702) = (1 : Int32) → ¬ (i < 0 ∨ 60 ≤ i.toNatClampNeg)) (k22 : (p_isSheet (ui σ 210 (0 : Int32)) k) → k = (3 : Int32) → ¬ (σ.1 701) = 0 → (p_hasCells_7 (ui σ 210 (0 : Int32)) i (1 : Int32)) → ((ui σ 210 (0 : Int32)).1 702) = 0 → ¬ (i < 0 ∨ 60 ≤ i.toNatClampNeg)) (k23 : (p_isSheet (ui σ 210 (0 : Int32)) k) → k = (3 : Int32) → ¬ (σ.1 701) = 0 → (p_hasCells_7 (ui σ 210 (0 : Int32)) i (1 : Int32)) → (some (.int (1 : Int32)), HH x (g_take_7 (ui σ 210 (0 : Int32)) i v)) = r) (k24 : (p_isSheet (ui σ 210 (0 : Int32)) k) → k = (3 : Int32) → ¬ (σ.1 701) = 0 → ¬ (p_hasCells_7 (ui σ 210 (0 : Int32)) i (1 : Int32)) → (some (.int (f_faulty (ui σ 210 (0 : Int32)) (3 : Int32))), HH x (g_faulty (ui σ 210 (0 : Int32)) (3 : Int32))) = r) (k25 : (p_isSheet (ui σ 210 (0 : Int32)) k) → k = (3 : Int32) → (σ.1 701) = 0 → (some (.int (f_faulty (ui σ 210 (0 : Int32)) (1 : Int32))), HH x (g_faulty (ui σ 210 (0 : Int32)) (1 : Int32))) = r) (k26 : ¬ (p_isSheet (ui σ 210 (0 : Int32)) k) → (some (.int (-1 : Int32)), HH x (ui σ 210 (0 : Int32))) = r) : mm_Runs d 61 (0, [some (.ref 2), some (.int k), some (.int i), some (.int v)], [], HH x σ) r := by
  refine mm_go 2 (F' := (2, [some (.ref 2), some (.int k), some (.int i), some (.int v)], [.int (0 : Int32), .ref 2], HH x σ)) rfl ?_
  refine mm_go 1 (F' := (5, [some (.ref 2), some (.int k), some (.int i), some (.int v)], [], HH x (ui σ 210 (0 : Int32)))) rfl ?_
  refine mm_go 1 (F' := (6, [some (.ref 2), some (.int k), some (.int i), some (.int v)], [.int k], HH x (ui σ 210 (0 : Int32)))) rfl ?_
  refine mm_kl (z := 71) (as := [.int k]) (S' := []) (L2 := [some (.int k)]) (v := some (.int (mm_b (p_isSheet (ui σ 210 (0 : Int32)) k)))) (h1 := HH x (ui σ 210 (0 : Int32))) rfl rfl rfl rfl rfl (by omega) (r_isSheet (by omega)) ?_
  show mm_Runs d 61 (9, [some (.ref 2), some (.int k), some (.int i), some (.int v)], [.int (mm_b (p_isSheet (ui σ 210 (0 : Int32)) k))], HH x (ui σ 210 (0 : Int32))) r
  refine mm_go 1 (F' := (bif mm_cond .ne (mm_b (p_isSheet (ui σ 210 (0 : Int32)) k)) 0 then 14 else 12, [some (.ref 2), some (.int k), some (.int i), some (.int v)], [], HH x (ui σ 210 (0 : Int32)))) rfl ?_
  refine mb_bne (fun h1 => ?_) (fun h1 => ?_)
  · refine mm_go 3 (F' := (19, [some (.ref 2), some (.int k), some (.int i), some (.int v)], [.int k, .ref 3], HH x (ui σ 210 (0 : Int32)))) rfl ?_
    rcases mm_in4 (k1 h1) with h2 | h2 | h2 | h2
    · refine mm_tsA h2 (F' := (20, [some (.ref 2), some (.int k), some (.int i), some (.int v)], [.ref 4], HH x (ui σ 210 (0 : Int32)))) rfl ?_
      refine mm_go 2 (F' := (bif mm_cond .ne (σ.1 401) 0 then 32 else 26, [some (.ref 2), some (.int k), some (.int i), some (.int v)], [], HH x (ui σ 210 (0 : Int32)))) rfl ?_
      refine mb_ne (fun h3 => ?_) (fun h3 => ?_)
      · refine mm_go 3 (F' := (37, [some (.ref 2), some (.int k), some (.int i), some (.int v)], [.int k, .ref 3], HH x (ui σ 210 (0 : Int32)))) rfl ?_
        refine mm_tsA h2 (F' := (38, [some (.ref 2), some (.int k), some (.int i), some (.int v)], [.ref 4], HH x (ui σ 210 (0 : Int32)))) rfl ?_
        refine mm_go 2 (F' := (40, [some (.ref 2), some (.int k), some (.int i), some (.int v)], [.int (1 : Int32), .int i, .ref 4], HH x (ui σ 210 (0 : Int32)))) rfl ?_
        refine mm_kl (z := 21) (as := [.ref 4, .int i, .int (1 : Int32)]) (S' := []) (L2 := [some (.ref 4), some (.int i), some (.int (1 : Int32))]) (v := some (.int (mm_b (p_hasCells_4 (ui σ 210 (0 : Int32)) i (1 : Int32))))) (h1 := HH x (ui σ 210 (0 : Int32))) rfl rfl rfl rfl rfl (by omega) (r_hasCells_4 (by omega)) ?_
        show mm_Runs d 61 (43, [some (.ref 2), some (.int k), some (.int i), some (.int v)], [.int (mm_b (p_hasCells_4 (ui σ 210 (0 : Int32)) i (1 : Int32)))], HH x (ui σ 210 (0 : Int32))) r
        refine mm_go 1 (F' := (bif mm_cond .ne (mm_b (p_hasCells_4 (ui σ 210 (0 : Int32)) i (1 : Int32))) 0 then 52 else 46, [some (.ref 2), some (.int k), some (.int i), some (.int v)], [], HH x (ui σ 210 (0 : Int32)))) rfl ?_
        refine mb_bne (fun h4 => ?_) (fun h4 => ?_)
        · refine mm_go 3 (F' := (57, [some (.ref 2), some (.int k), some (.int i), some (.int v)], [.int k, .ref 3], HH x (ui σ 210 (0 : Int32)))) rfl ?_
          refine mm_tsA h2 (F' := (58, [some (.ref 2), some (.int k), some (.int i), some (.int v)], [.ref 4], HH x (ui σ 210 (0 : Int32)))) rfl ?_
          refine mm_go 2 (F' := (60, [some (.ref 2), some (.int k), some (.int i), some (.int v)], [.int v, .int i, .ref 4], HH x (ui σ 210 (0 : Int32)))) rfl ?_
          refine mm_kl (z := 22) (as := [.ref 4, .int i, .int v]) (S' := []) (L2 := [some (.ref 4), some (.int i), some (.int v)]) (v := none) (h1 := HH x (g_take_4 (ui σ 210 (0 : Int32)) i v)) rfl rfl rfl rfl rfl (by omega) (r_take_4 (by omega) (k2 h1 h2 h3 h4) (k3 h1 h2 h3 h4) (k4 h1 h2 h3 h4)) ?_
          show mm_Runs d 61 (63, [some (.ref 2), some (.int k), some (.int i), some (.int v)], [], HH x (g_take_4 (ui σ 210 (0 : Int32)) i v)) r
          refine mm_go 1 (F' := (64, [some (.ref 2), some (.int k), some (.int i), some (.int v)], [.int (1 : Int32)], HH x (g_take_4 (ui σ 210 (0 : Int32)) i v))) rfl ?_
          exact mm_rt rfl rfl (k5 h1 h2 h3 h4)
        · refine mm_go 2 (F' := (48, [some (.ref 2), some (.int k), some (.int i), some (.int v)], [.int (3 : Int32), .ref 2], HH x (ui σ 210 (0 : Int32)))) rfl ?_
          refine mm_kl (z := 70) (as := [.ref 2, .int (3 : Int32)]) (S' := []) (L2 := [some (.ref 2), some (.int (3 : Int32))]) (v := some (.int (f_faulty (ui σ 210 (0 : Int32)) (3 : Int32)))) (h1 := HH x (g_faulty (ui σ 210 (0 : Int32)) (3 : Int32))) rfl rfl rfl rfl rfl (by omega) (r_faulty (by omega)) ?_
          show mm_Runs d 61 (51, [some (.ref 2), some (.int k), some (.int i), some (.int v)], [.int (f_faulty (ui σ 210 (0 : Int32)) (3 : Int32))], HH x (g_faulty (ui σ 210 (0 : Int32)) (3 : Int32))) r
          exact mm_rt rfl rfl (k6 h1 h2 h3 h4)
      · refine mm_go 2 (F' := (28, [some (.ref 2), some (.int k), some (.int i), some (.int v)], [.int (1 : Int32), .ref 2], HH x (ui σ 210 (0 : Int32)))) rfl ?_
        refine mm_kl (z := 70) (as := [.ref 2, .int (1 : Int32)]) (S' := []) (L2 := [some (.ref 2), some (.int (1 : Int32))]) (v := some (.int (f_faulty (ui σ 210 (0 : Int32)) (1 : Int32)))) (h1 := HH x (g_faulty (ui σ 210 (0 : Int32)) (1 : Int32))) rfl rfl rfl rfl rfl (by omega) (r_faulty (by omega)) ?_
        show mm_Runs d 61 (31, [some (.ref 2), some (.int k), some (.int i), some (.int v)], [.int (f_faulty (ui σ 210 (0 : Int32)) (1 : Int32))], HH x (g_faulty (ui σ 210 (0 : Int32)) (1 : Int32))) r
        exact mm_rt rfl rfl (k7 h1 h2 h3)
    · refine mm_tsA h2 (F' := (20, [some (.ref 2), some (.int k), some (.int i), some (.int v)], [.ref 5], HH x (ui σ 210 (0 : Int32)))) rfl ?_
      refine mm_go 2 (F' := (bif mm_cond .ne (σ.1 501) 0 then 32 else 26, [some (.ref 2), some (.int k), some (.int i), some (.int v)], [], HH x (ui σ 210 (0 : Int32)))) rfl ?_
      refine mb_ne (fun h5 => ?_) (fun h5 => ?_)
      · refine mm_go 3 (F' := (37, [some (.ref 2), some (.int k), some (.int i), some (.int v)], [.int k, .ref 3], HH x (ui σ 210 (0 : Int32)))) rfl ?_
        refine mm_tsA h2 (F' := (38, [some (.ref 2), some (.int k), some (.int i), some (.int v)], [.ref 5], HH x (ui σ 210 (0 : Int32)))) rfl ?_
        refine mm_go 2 (F' := (40, [some (.ref 2), some (.int k), some (.int i), some (.int v)], [.int (1 : Int32), .int i, .ref 5], HH x (ui σ 210 (0 : Int32)))) rfl ?_
        refine mm_kl (z := 21) (as := [.ref 5, .int i, .int (1 : Int32)]) (S' := []) (L2 := [some (.ref 5), some (.int i), some (.int (1 : Int32))]) (v := some (.int (mm_b (p_hasCells_5 (ui σ 210 (0 : Int32)) i (1 : Int32))))) (h1 := HH x (ui σ 210 (0 : Int32))) rfl rfl rfl rfl rfl (by omega) (r_hasCells_5 (by omega)) ?_
        show mm_Runs d 61 (43, [some (.ref 2), some (.int k), some (.int i), some (.int v)], [.int (mm_b (p_hasCells_5 (ui σ 210 (0 : Int32)) i (1 : Int32)))], HH x (ui σ 210 (0 : Int32))) r
        refine mm_go 1 (F' := (bif mm_cond .ne (mm_b (p_hasCells_5 (ui σ 210 (0 : Int32)) i (1 : Int32))) 0 then 52 else 46, [some (.ref 2), some (.int k), some (.int i), some (.int v)], [], HH x (ui σ 210 (0 : Int32)))) rfl ?_
        refine mb_bne (fun h6 => ?_) (fun h6 => ?_)
        · refine mm_go 3 (F' := (57, [some (.ref 2), some (.int k), some (.int i), some (.int v)], [.int k, .ref 3], HH x (ui σ 210 (0 : Int32)))) rfl ?_
          refine mm_tsA h2 (F' := (58, [some (.ref 2), some (.int k), some (.int i), some (.int v)], [.ref 5], HH x (ui σ 210 (0 : Int32)))) rfl ?_
          refine mm_go 2 (F' := (60, [some (.ref 2), some (.int k), some (.int i), some (.int v)], [.int v, .int i, .ref 5], HH x (ui σ 210 (0 : Int32)))) rfl ?_
          refine mm_kl (z := 22) (as := [.ref 5, .int i, .int v]) (S' := []) (L2 := [some (.ref 5), some (.int i), some (.int v)]) (v := none) (h1 := HH x (g_take_5 (ui σ 210 (0 : Int32)) i v)) rfl rfl rfl rfl rfl (by omega) (r_take_5 (by omega) (k8 h1 h2 h5 h6) (k9 h1 h2 h5 h6) (k10 h1 h2 h5 h6)) ?_
          show mm_Runs d 61 (63, [some (.ref 2), some (.int k), some (.int i), some (.int v)], [], HH x (g_take_5 (ui σ 210 (0 : Int32)) i v)) r
          refine mm_go 1 (F' := (64, [some (.ref 2), some (.int k), some (.int i), some (.int v)], [.int (1 : Int32)], HH x (g_take_5 (ui σ 210 (0 : Int32)) i v))) rfl ?_
          exact mm_rt rfl rfl (k11 h1 h2 h5 h6)
        · refine mm_go 2 (F' := (48, [some (.ref 2), some (.int k), some (.int i), some (.int v)], [.int (3 : Int32), .ref 2], HH x (ui σ 210 (0 : Int32)))) rfl ?_
          refine mm_kl (z := 70) (as := [.ref 2, .int (3 : Int32)]) (S' := []) (L2 := [some (.ref 2), some (.int (3 : Int32))]) (v := some (.int (f_faulty (ui σ 210 (0 : Int32)) (3 : Int32)))) (h1 := HH x (g_faulty (ui σ 210 (0 : Int32)) (3 : Int32))) rfl rfl rfl rfl rfl (by omega) (r_faulty (by omega)) ?_
          show mm_Runs d 61 (51, [some (.ref 2), some (.int k), some (.int i), some (.int v)], [.int (f_faulty (ui σ 210 (0 : Int32)) (3 : Int32))], HH x (g_faulty (ui σ 210 (0 : Int32)) (3 : Int32))) r
          exact mm_rt rfl rfl (k12 h1 h2 h5 h6)
      · refine mm_go 2 (F' := (28, [some (.ref 2), some (.int k), some (.int i), some (.int v)], [.int (1 : Int32), .ref 2], HH x (ui σ 210 (0 : Int32)))) rfl ?_
        refine mm_kl (z := 70) (as := [.ref 2, .int (1 : Int32)]) (S' := []) (L2 := [some (.ref 2), some (.int (1 : Int32))]) (v := some (.int (f_faulty (ui σ 210 (0 : Int32)) (1 : Int32)))) (h1 := HH x (g_faulty (ui σ 210 (0 : Int32)) (1 : Int32))) rfl rfl rfl rfl rfl (by omega) (r_faulty (by omega)) ?_
        show mm_Runs d 61 (31, [some (.ref 2), some (.int k), some (.int i), some (.int v)], [.int (f_faulty (ui σ 210 (0 : Int32)) (1 : Int32))], HH x (g_faulty (ui σ 210 (0 : Int32)) (1 : Int32))) r
        exact mm_rt rfl rfl (k13 h1 h2 h5)
    · refine mm_tsA h2 (F' := (20, [some (.ref 2), some (.int k), some (.int i), some (.int v)], [.ref 6], HH x (ui σ 210 (0 : Int32)))) rfl ?_
      refine mm_go 2 (F' := (bif mm_cond .ne (σ.1 601) 0 then 32 else 26, [some (.ref 2), some (.int k), some (.int i), some (.int v)], [], HH x (ui σ 210 (0 : Int32)))) rfl ?_
      refine mb_ne (fun h7 => ?_) (fun h7 => ?_)
      · refine mm_go 3 (F' := (37, [some (.ref 2), some (.int k), some (.int i), some (.int v)], [.int k, .ref 3], HH x (ui σ 210 (0 : Int32)))) rfl ?_
        refine mm_tsA h2 (F' := (38, [some (.ref 2), some (.int k), some (.int i), some (.int v)], [.ref 6], HH x (ui σ 210 (0 : Int32)))) rfl ?_
        refine mm_go 2 (F' := (40, [some (.ref 2), some (.int k), some (.int i), some (.int v)], [.int (1 : Int32), .int i, .ref 6], HH x (ui σ 210 (0 : Int32)))) rfl ?_
        refine mm_kl (z := 21) (as := [.ref 6, .int i, .int (1 : Int32)]) (S' := []) (L2 := [some (.ref 6), some (.int i), some (.int (1 : Int32))]) (v := some (.int (mm_b (p_hasCells_6 (ui σ 210 (0 : Int32)) i (1 : Int32))))) (h1 := HH x (ui σ 210 (0 : Int32))) rfl rfl rfl rfl rfl (by omega) (r_hasCells_6 (by omega)) ?_
        show mm_Runs d 61 (43, [some (.ref 2), some (.int k), some (.int i), some (.int v)], [.int (mm_b (p_hasCells_6 (ui σ 210 (0 : Int32)) i (1 : Int32)))], HH x (ui σ 210 (0 : Int32))) r
        refine mm_go 1 (F' := (bif mm_cond .ne (mm_b (p_hasCells_6 (ui σ 210 (0 : Int32)) i (1 : Int32))) 0 then 52 else 46, [some (.ref 2), some (.int k), some (.int i), some (.int v)], [], HH x (ui σ 210 (0 : Int32)))) rfl ?_
        refine mb_bne (fun h8 => ?_) (fun h8 => ?_)
        · refine mm_go 3 (F' := (57, [some (.ref 2), some (.int k), some (.int i), some (.int v)], [.int k, .ref 3], HH x (ui σ 210 (0 : Int32)))) rfl ?_
          refine mm_tsA h2 (F' := (58, [some (.ref 2), some (.int k), some (.int i), some (.int v)], [.ref 6], HH x (ui σ 210 (0 : Int32)))) rfl ?_
          refine mm_go 2 (F' := (60, [some (.ref 2), some (.int k), some (.int i), some (.int v)], [.int v, .int i, .ref 6], HH x (ui σ 210 (0 : Int32)))) rfl ?_
          refine mm_kl (z := 22) (as := [.ref 6, .int i, .int v]) (S' := []) (L2 := [some (.ref 6), some (.int i), some (.int v)]) (v := none) (h1 := HH x (g_take_6 (ui σ 210 (0 : Int32)) i v)) rfl rfl rfl rfl rfl (by omega) (r_take_6 (by omega) (k14 h1 h2 h7 h8) (k15 h1 h2 h7 h8) (k16 h1 h2 h7 h8)) ?_
          show mm_Runs d 61 (63, [some (.ref 2), some (.int k), some (.int i), some (.int v)], [], HH x (g_take_6 (ui σ 210 (0 : Int32)) i v)) r
          refine mm_go 1 (F' := (64, [some (.ref 2), some (.int k), some (.int i), some (.int v)], [.int (1 : Int32)], HH x (g_take_6 (ui σ 210 (0 : Int32)) i v))) rfl ?_
          exact mm_rt rfl rfl (k17 h1 h2 h7 h8)
        · refine mm_go 2 (F' := (48, [some (.ref 2), some (.int k), some (.int i), some (.int v)], [.int (3 : Int32), .ref 2], HH x (ui σ 210 (0 : Int32)))) rfl ?_
          refine mm_kl (z := 70) (as := [.ref 2, .int (3 : Int32)]) (S' := []) (L2 := [some (.ref 2), some (.int (3 : Int32))]) (v := some (.int (f_faulty (ui σ 210 (0 : Int32)) (3 : Int32)))) (h1 := HH x (g_faulty (ui σ 210 (0 : Int32)) (3 : Int32))) rfl rfl rfl rfl rfl (by omega) (r_faulty (by omega)) ?_
          show mm_Runs d 61 (51, [some (.ref 2), some (.int k), some (.int i), some (.int v)], [.int (f_faulty (ui σ 210 (0 : Int32)) (3 : Int32))], HH x (g_faulty (ui σ 210 (0 : Int32)) (3 : Int32))) r
          exact mm_rt rfl rfl (k18 h1 h2 h7 h8)
      · refine mm_go 2 (F' := (28, [some (.ref 2), some (.int k), some (.int i), some (.int v)], [.int (1 : Int32), .ref 2], HH x (ui σ 210 (0 : Int32)))) rfl ?_
        refine mm_kl (z := 70) (as := [.ref 2, .int (1 : Int32)]) (S' := []) (L2 := [some (.ref 2), some (.int (1 : Int32))]) (v := some (.int (f_faulty (ui σ 210 (0 : Int32)) (1 : Int32)))) (h1 := HH x (g_faulty (ui σ 210 (0 : Int32)) (1 : Int32))) rfl rfl rfl rfl rfl (by omega) (r_faulty (by omega)) ?_
        show mm_Runs d 61 (31, [some (.ref 2), some (.int k), some (.int i), some (.int v)], [.int (f_faulty (ui σ 210 (0 : Int32)) (1 : Int32))], HH x (g_faulty (ui σ 210 (0 : Int32)) (1 : Int32))) r
        exact mm_rt rfl rfl (k19 h1 h2 h7)
    · refine mm_tsA h2 (F' := (20, [some (.ref 2), some (.int k), some (.int i), some (.int v)], [.ref 7], HH x (ui σ 210 (0 : Int32)))) rfl ?_
      refine mm_go 2 (F' := (bif mm_cond .ne (σ.1 701) 0 then 32 else 26, [some (.ref 2), some (.int k), some (.int i), some (.int v)], [], HH x (ui σ 210 (0 : Int32)))) rfl ?_
      refine mb_ne (fun h9 => ?_) (fun h9 => ?_)
      · refine mm_go 3 (F' := (37, [some (.ref 2), some (.int k), some (.int i), some (.int v)], [.int k, .ref 3], HH x (ui σ 210 (0 : Int32)))) rfl ?_
        refine mm_tsA h2 (F' := (38, [some (.ref 2), some (.int k), some (.int i), some (.int v)], [.ref 7], HH x (ui σ 210 (0 : Int32)))) rfl ?_
        refine mm_go 2 (F' := (40, [some (.ref 2), some (.int k), some (.int i), some (.int v)], [.int (1 : Int32), .int i, .ref 7], HH x (ui σ 210 (0 : Int32)))) rfl ?_
        refine mm_kl (z := 21) (as := [.ref 7, .int i, .int (1 : Int32)]) (S' := []) (L2 := [some (.ref 7), some (.int i), some (.int (1 : Int32))]) (v := some (.int (mm_b (p_hasCells_7 (ui σ 210 (0 : Int32)) i (1 : Int32))))) (h1 := HH x (ui σ 210 (0 : Int32))) rfl rfl rfl rfl rfl (by omega) (r_hasCells_7 (by omega)) ?_
        show mm_Runs d 61 (43, [some (.ref 2), some (.int k), some (.int i), some (.int v)], [.int (mm_b (p_hasCells_7 (ui σ 210 (0 : Int32)) i (1 : Int32)))], HH x (ui σ 210 (0 : Int32))) r
        refine mm_go 1 (F' := (bif mm_cond .ne (mm_b (p_hasCells_7 (ui σ 210 (0 : Int32)) i (1 : Int32))) 0 then 52 else 46, [some (.ref 2), some (.int k), some (.int i), some (.int v)], [], HH x (ui σ 210 (0 : Int32)))) rfl ?_
        refine mb_bne (fun h10 => ?_) (fun h10 => ?_)
        · refine mm_go 3 (F' := (57, [some (.ref 2), some (.int k), some (.int i), some (.int v)], [.int k, .ref 3], HH x (ui σ 210 (0 : Int32)))) rfl ?_
          refine mm_tsA h2 (F' := (58, [some (.ref 2), some (.int k), some (.int i), some (.int v)], [.ref 7], HH x (ui σ 210 (0 : Int32)))) rfl ?_
          refine mm_go 2 (F' := (60, [some (.ref 2), some (.int k), some (.int i), some (.int v)], [.int v, .int i, .ref 7], HH x (ui σ 210 (0 : Int32)))) rfl ?_
          refine mm_kl (z := 22) (as := [.ref 7, .int i, .int v]) (S' := []) (L2 := [some (.ref 7), some (.int i), some (.int v)]) (v := none) (h1 := HH x (g_take_7 (ui σ 210 (0 : Int32)) i v)) rfl rfl rfl rfl rfl (by omega) (r_take_7 (by omega) (k20 h1 h2 h9 h10) (k21 h1 h2 h9 h10) (k22 h1 h2 h9 h10)) ?_
          show mm_Runs d 61 (63, [some (.ref 2), some (.int k), some (.int i), some (.int v)], [], HH x (g_take_7 (ui σ 210 (0 : Int32)) i v)) r
          refine mm_go 1 (F' := (64, [some (.ref 2), some (.int k), some (.int i), some (.int v)], [.int (1 : Int32)], HH x (g_take_7 (ui σ 210 (0 : Int32)) i v))) rfl ?_
          exact mm_rt rfl rfl (k23 h1 h2 h9 h10)
        · refine mm_go 2 (F' := (48, [some (.ref 2), some (.int k), some (.int i), some (.int v)], [.int (3 : Int32), .ref 2], HH x (ui σ 210 (0 : Int32)))) rfl ?_
          refine mm_kl (z := 70) (as := [.ref 2, .int (3 : Int32)]) (S' := []) (L2 := [some (.ref 2), some (.int (3 : Int32))]) (v := some (.int (f_faulty (ui σ 210 (0 : Int32)) (3 : Int32)))) (h1 := HH x (g_faulty (ui σ 210 (0 : Int32)) (3 : Int32))) rfl rfl rfl rfl rfl (by omega) (r_faulty (by omega)) ?_
          show mm_Runs d 61 (51, [some (.ref 2), some (.int k), some (.int i), some (.int v)], [.int (f_faulty (ui σ 210 (0 : Int32)) (3 : Int32))], HH x (g_faulty (ui σ 210 (0 : Int32)) (3 : Int32))) r
          exact mm_rt rfl rfl (k24 h1 h2 h9 h10)
      · refine mm_go 2 (F' := (28, [some (.ref 2), some (.int k), some (.int i), some (.int v)], [.int (1 : Int32), .ref 2], HH x (ui σ 210 (0 : Int32)))) rfl ?_
        refine mm_kl (z := 70) (as := [.ref 2, .int (1 : Int32)]) (S' := []) (L2 := [some (.ref 2), some (.int (1 : Int32))]) (v := some (.int (f_faulty (ui σ 210 (0 : Int32)) (1 : Int32)))) (h1 := HH x (g_faulty (ui σ 210 (0 : Int32)) (1 : Int32))) rfl rfl rfl rfl rfl (by omega) (r_faulty (by omega)) ?_
        show mm_Runs d 61 (31, [some (.ref 2), some (.int k), some (.int i), some (.int v)], [.int (f_faulty (ui σ 210 (0 : Int32)) (1 : Int32))], HH x (g_faulty (ui σ 210 (0 : Int32)) (1 : Int32))) r
        exact mm_rt rfl rfl (k25 h1 h2 h9)
  · refine mm_go 1 (F' := (13, [some (.ref 2), some (.int k), some (.int i), some (.int v)], [.int (-1 : Int32)], HH x (ui σ 210 (0 : Int32)))) rfl ?_
    exact mm_rt rfl rfl (k26 h1)
def f_put (σ : mm_S) (k : Int32) (i : Int32) (v : Int32) : Int32 := (if (p_isSheet (ui σ 210 (0 : Int32)) k) then (if k = (0 : Int32) then (if (σ.1 401) = 0 then (f_faulty (ui σ 210 (0 : Int32)) (1 : Int32)) else (if (p_hasCells_4 (ui σ 210 (0 : Int32)) i (1 : Int32)) then (1 : Int32) else (f_faulty (ui σ 210 (0 : Int32)) (3 : Int32)))) else (if k = (1 : Int32) then (if (σ.1 501) = 0 then (f_faulty (ui σ 210 (0 : Int32)) (1 : Int32)) else (if (p_hasCells_5 (ui σ 210 (0 : Int32)) i (1 : Int32)) then (1 : Int32) else (f_faulty (ui σ 210 (0 : Int32)) (3 : Int32)))) else (if k = (2 : Int32) then (if (σ.1 601) = 0 then (f_faulty (ui σ 210 (0 : Int32)) (1 : Int32)) else (if (p_hasCells_6 (ui σ 210 (0 : Int32)) i (1 : Int32)) then (1 : Int32) else (f_faulty (ui σ 210 (0 : Int32)) (3 : Int32)))) else (if (σ.1 701) = 0 then (f_faulty (ui σ 210 (0 : Int32)) (1 : Int32)) else (if (p_hasCells_7 (ui σ 210 (0 : Int32)) i (1 : Int32)) then (1 : Int32) else (f_faulty (ui σ 210 (0 : Int32)) (3 : Int32))))))) else (-1 : Int32))
def g_put (σ : mm_S) (k : Int32) (i : Int32) (v : Int32) : mm_S := (if (p_isSheet (ui σ 210 (0 : Int32)) k) then (if k = (0 : Int32) then (if (σ.1 401) = 0 then (g_faulty (ui σ 210 (0 : Int32)) (1 : Int32)) else (if (p_hasCells_4 (ui σ 210 (0 : Int32)) i (1 : Int32)) then (g_take_4 (ui σ 210 (0 : Int32)) i v) else (g_faulty (ui σ 210 (0 : Int32)) (3 : Int32)))) else (if k = (1 : Int32) then (if (σ.1 501) = 0 then (g_faulty (ui σ 210 (0 : Int32)) (1 : Int32)) else (if (p_hasCells_5 (ui σ 210 (0 : Int32)) i (1 : Int32)) then (g_take_5 (ui σ 210 (0 : Int32)) i v) else (g_faulty (ui σ 210 (0 : Int32)) (3 : Int32)))) else (if k = (2 : Int32) then (if (σ.1 601) = 0 then (g_faulty (ui σ 210 (0 : Int32)) (1 : Int32)) else (if (p_hasCells_6 (ui σ 210 (0 : Int32)) i (1 : Int32)) then (g_take_6 (ui σ 210 (0 : Int32)) i v) else (g_faulty (ui σ 210 (0 : Int32)) (3 : Int32)))) else (if (σ.1 701) = 0 then (g_faulty (ui σ 210 (0 : Int32)) (1 : Int32)) else (if (p_hasCells_7 (ui σ 210 (0 : Int32)) i (1 : Int32)) then (g_take_7 (ui σ 210 (0 : Int32)) i v) else (g_faulty (ui σ 210 (0 : Int32)) (3 : Int32))))))) else (ui σ 210 (0 : Int32)))
theorem r_put {d : Nat} {x : Nat × (Nat → Int32)} {σ : mm_S} {k : Int32} {i : Int32} {v : Int32} (hd : 1 ≤ d) (p0 : (p_isSheet (ui σ 210 (0 : Int32)) k) → ¬ (k < 0 ∨ 4 ≤ k.toNatClampNeg)) (p1 : (p_isSheet (ui σ 210 (0 : Int32)) k) → k = (0 : Int32) → ¬ (σ.1 401) = 0 → (p_hasCells_4 (ui σ 210 (0 : Int32)) i (1 : Int32)) → ¬ ((ui σ 210 (0 : Int32)).1 402) = 0 → ¬ ((ui σ 210 (0 : Int32)).1 402) = (1 : Int32) → ¬ (i < 0 ∨ 60 ≤ i.toNatClampNeg)) (p2 : (p_isSheet (ui σ 210 (0 : Int32)) k) → k = (0 : Int32) → ¬ (σ.1 401) = 0 → (p_hasCells_4 (ui σ 210 (0 : Int32)) i (1 : Int32)) → ¬ ((ui σ 210 (0 : Int32)).1 402) = 0 → ((ui σ 210 (0 : Int32)).1 402) = (1 : Int32) → ¬ (i < 0 ∨ 60 ≤ i.toNatClampNeg)) (p3 : (p_isSheet (ui σ 210 (0 : Int32)) k) → k = (0 : Int32) → ¬ (σ.1 401) = 0 → (p_hasCells_4 (ui σ 210 (0 : Int32)) i (1 : Int32)) → ((ui σ 210 (0 : Int32)).1 402) = 0 → ¬ (i < 0 ∨ 60 ≤ i.toNatClampNeg)) (p4 : (p_isSheet (ui σ 210 (0 : Int32)) k) → k = (1 : Int32) → ¬ (σ.1 501) = 0 → (p_hasCells_5 (ui σ 210 (0 : Int32)) i (1 : Int32)) → ¬ ((ui σ 210 (0 : Int32)).1 502) = 0 → ¬ ((ui σ 210 (0 : Int32)).1 502) = (1 : Int32) → ¬ (i < 0 ∨ 60 ≤ i.toNatClampNeg)) (p5 : (p_isSheet (ui σ 210 (0 : Int32)) k) → k = (1 : Int32) → ¬ (σ.1 501) = 0 → (p_hasCells_5 (ui σ 210 (0 : Int32)) i (1 : Int32)) → ¬ ((ui σ 210 (0 : Int32)).1 502) = 0 → ((ui σ 210 (0 : Int32)).1 502) = (1 : Int32) → ¬ (i < 0 ∨ 60 ≤ i.toNatClampNeg)) (p6 : (p_isSheet (ui σ 210 (0 : Int32)) k) → k = (1 : Int32) → ¬ (σ.1 501) = 0 → (p_hasCells_5 (ui σ 210 (0 : Int32)) i (1 : Int32)) → ((ui σ 210 (0 : Int32)).1 502) = 0 → ¬ (i < 0 ∨ 60 ≤ i.toNatClampNeg)) (p7 : (p_isSheet (ui σ 210 (0 : Int32)) k) → k = (2 : Int32) → ¬ (σ.1 601) = 0 → (p_hasCells_6 (ui σ 210 (0 : Int32)) i (1 : Int32)) → ¬ ((ui σ 210 (0 : Int32)).1 602) = 0 → ¬ ((ui σ 210 (0 : Int32)).1 602) = (1 : Int32) → ¬ (i < 0 ∨ 60 ≤ i.toNatClampNeg)) (p8 : (p_isSheet (ui σ 210 (0 : Int32)) k) → k = (2 : Int32) → ¬ (σ.1 601) = 0 → (p_hasCells_6 (ui σ 210 (0 : Int32)) i (1 : Int32)) → ¬ ((ui σ 210 (0 : Int32)).1 602) = 0 → ((ui σ 210 (0 : Int32)).1 602) = (1 : Int32) → ¬ (i < 0 ∨ 60 ≤ i.toNatClampNeg)) (p9 : (p_isSheet (ui σ 210 (0 : Int32)) k) → k = (2 : Int32) → ¬ (σ.1 601) = 0 → (p_hasCells_6 (ui σ 210 (0 : Int32)) i (1 : Int32)) → ((ui σ 210 (0 : Int32)).1 602) = 0 → ¬ (i < 0 ∨ 60 ≤ i.toNatClampNeg)) (p10 : (p_isSheet (ui σ 210 (0 : Int32)) k) → k = (3 : Int32) → ¬ (σ.1 701) = 0 → (p_hasCells_7 (ui σ 210 (0 : Int32)) i (1 : Int32)) → ¬ ((ui σ 210 (0 : Int32)).1 702) = 0 → ¬ ((ui σ 210 (0 : Int32)).1 702) = (1 : Int32) → ¬ (i < 0 ∨ 60 ≤ i.toNatClampNeg)) (p11 : (p_isSheet (ui σ 210 (0 : Int32)) k) → k = (3 : Int32) → ¬ (σ.1 701) = 0 → (p_hasCells_7 (ui σ 210 (0 : Int32)) i (1 : Int32)) → ¬ ((ui σ 210 (0 : Int32)).1 702) = 0 → ((ui σ 210 (0 : Int32)).1 702) = (1 : Int32) → ¬ (i < 0 ∨ 60 ≤ i.toNatClampNeg)) (p12 : (p_isSheet (ui σ 210 (0 : Int32)) k) → k = (3 : Int32) → ¬ (σ.1 701) = 0 → (p_hasCells_7 (ui σ 210 (0 : Int32)) i (1 : Int32)) → ((ui σ 210 (0 : Int32)).1 702) = 0 → ¬ (i < 0 ∨ 60 ≤ i.toNatClampNeg)) : mm_Runs d 61 (0, [some (.ref 2), some (.int k), some (.int i), some (.int v)], [], HH x σ) (some (.int (f_put σ k i v)), HH x (g_put σ k i v)) := by
  refine vc_put (by omega) p0 p1 p2 p3 (fun h1 h2 h3 h4 => by first | rfl | (simp [f_put, g_put, h1, h2, h3, h4]; done) | (simp_all [f_put, g_put]; done) | grind [f_put, g_put]) (fun h1 h2 h3 h4 => by first | rfl | (simp [f_put, g_put, h1, h2, h3, h4]; done) | (simp_all [f_put, g_put]; done) | grind [f_put, g_put]) (fun h1 h2 h3 => by first | rfl | (simp [f_put, g_put, h1, h2, h3]; done) | (simp_all [f_put, g_put]; done) | grind [f_put, g_put]) p4 p5 p6 (fun h1 h2 h3 h4 => by first | rfl | (simp [f_put, g_put, h1, h2, h3, h4]; done) | (simp_all [f_put, g_put]; done) | grind [f_put, g_put]) (fun h1 h2 h3 h4 => by first | rfl | (simp [f_put, g_put, h1, h2, h3, h4]; done) | (simp_all [f_put, g_put]; done) | grind [f_put, g_put]) (fun h1 h2 h3 => by first | rfl | (simp [f_put, g_put, h1, h2, h3]; done) | (simp_all [f_put, g_put]; done) | grind [f_put, g_put]) p7 p8 p9 (fun h1 h2 h3 h4 => by first | rfl | (simp [f_put, g_put, h1, h2, h3, h4]; done) | (simp_all [f_put, g_put]; done) | grind [f_put, g_put]) (fun h1 h2 h3 h4 => by first | rfl | (simp [f_put, g_put, h1, h2, h3, h4]; done) | (simp_all [f_put, g_put]; done) | grind [f_put, g_put]) (fun h1 h2 h3 => by first | rfl | (simp [f_put, g_put, h1, h2, h3]; done) | (simp_all [f_put, g_put]; done) | grind [f_put, g_put]) p10 p11 p12 (fun h1 h2 h3 h4 => by first | rfl | (simp [f_put, g_put, h1, h2, h3, h4]; done) | (simp_all [f_put, g_put]; done) | grind [f_put, g_put]) (fun h1 h2 h3 h4 => by first | rfl | (simp [f_put, g_put, h1, h2, h3, h4]; done) | (simp_all [f_put, g_put]; done) | grind [f_put, g_put]) (fun h1 h2 h3 => by first | rfl | (simp [f_put, g_put, h1, h2, h3]; done) | (simp_all [f_put, g_put]; done) | grind [f_put, g_put]) (fun h1 => by first | rfl | (simp [f_put, g_put, h1]; done) | (simp_all [f_put, g_put]; done) | grind [f_put, g_put])
theorem vc_cell {d : Nat} {x : Nat × (Nat → Int32)} {σ : mm_S} {k : Int32} {i : Int32} {j : Int32} {r : Option Value × mm_H} (hd : 1 ≤ d) (k1 : ¬ (p_isSheet (ui σ 210 (0 : Int32)) k) → (some (.long (-9223372036854775808 : Int64)), HH x (ui σ 210 (0 : Int32))) = r) (k2 : (p_isSheet (ui σ 210 (0 : Int32)) k) → (p_isSort (ui σ 210 (0 : Int32)) j) → ¬ (k < 0 ∨ 4 ≤ k.toNatClampNeg)) (k3 : (p_isSheet (ui σ 210 (0 : Int32)) k) → (p_isSort (ui σ 210 (0 : Int32)) j) → k = (0 : Int32) → ¬ (p_isOfAnother_4 (ui σ 210 (0 : Int32)) j) → ¬ (σ.1 401) = 0 → (p_hasCells_4 (ui σ 210 (0 : Int32)) i (1 : Int32)) → ¬ (i < 0 ∨ 60 ≤ i.toNatClampNeg)) (k4 : (p_isSheet (ui σ 210 (0 : Int32)) k) → (p_isSort (ui σ 210 (0 : Int32)) j) → k = (0 : Int32) → ¬ (p_isOfAnother_4 (ui σ 210 (0 : Int32)) j) → ¬ (σ.1 401) = 0 → (p_hasCells_4 (ui σ 210 (0 : Int32)) i (1 : Int32)) → (some (.long (Int32.toInt64 ((σ.2.2.1 8) i.toNatClampNeg))), HH x (ui σ 210 (0 : Int32))) = r) (k5 : (p_isSheet (ui σ 210 (0 : Int32)) k) → (p_isSort (ui σ 210 (0 : Int32)) j) → k = (0 : Int32) → ¬ (p_isOfAnother_4 (ui σ 210 (0 : Int32)) j) → ¬ (σ.1 401) = 0 → ¬ (p_hasCells_4 (ui σ 210 (0 : Int32)) i (1 : Int32)) → (some (.long (-9223372036854775808 : Int64)), HH x (ui σ 210 (3 : Int32))) = r) (k6 : (p_isSheet (ui σ 210 (0 : Int32)) k) → (p_isSort (ui σ 210 (0 : Int32)) j) → k = (0 : Int32) → ¬ (p_isOfAnother_4 (ui σ 210 (0 : Int32)) j) → (σ.1 401) = 0 → (some (.long (-9223372036854775808 : Int64)), HH x (ui σ 210 (1 : Int32))) = r) (k7 : (p_isSheet (ui σ 210 (0 : Int32)) k) → (p_isSort (ui σ 210 (0 : Int32)) j) → k = (0 : Int32) → (p_isOfAnother_4 (ui σ 210 (0 : Int32)) j) → (some (.long (-9223372036854775808 : Int64)), HH x (ui σ 210 (2 : Int32))) = r) (k8 : (p_isSheet (ui σ 210 (0 : Int32)) k) → (p_isSort (ui σ 210 (0 : Int32)) j) → k = (1 : Int32) → ¬ (p_isOfAnother_5 (ui σ 210 (0 : Int32)) j) → ¬ (σ.1 501) = 0 → (p_hasCells_5 (ui σ 210 (0 : Int32)) i (1 : Int32)) → ¬ (i < 0 ∨ 60 ≤ i.toNatClampNeg)) (k9 : (p_isSheet (ui σ 210 (0 : Int32)) k) → (p_isSort (ui σ 210 (0 : Int32)) j) → k = (1 : Int32) → ¬ (p_isOfAnother_5 (ui σ 210 (0 : Int32)) j) → ¬ (σ.1 501) = 0 → (p_hasCells_5 (ui σ 210 (0 : Int32)) i (1 : Int32)) → (some (.long (Int32.toInt64 ((σ.2.2.1 9) i.toNatClampNeg))), HH x (ui σ 210 (0 : Int32))) = r) (k10 : (p_isSheet (ui σ 210 (0 : Int32)) k) → (p_isSort (ui σ 210 (0 : Int32)) j) → k = (1 : Int32) → ¬ (p_isOfAnother_5 (ui σ 210 (0 : Int32)) j) → ¬ (σ.1 501) = 0 → ¬ (p_hasCells_5 (ui σ 210 (0 : Int32)) i (1 : Int32)) → (some (.long (-9223372036854775808 : Int64)), HH x (ui σ 210 (3 : Int32))) = r) (k11 : (p_isSheet (ui σ 210 (0 : Int32)) k) → (p_isSort (ui σ 210 (0 : Int32)) j) → k = (1 : Int32) → ¬ (p_isOfAnother_5 (ui σ 210 (0 : Int32)) j) → (σ.1 501) = 0 → (some (.long (-9223372036854775808 : Int64)), HH x (ui σ 210 (1 : Int32))) = r) (k12 : (p_isSheet (ui σ 210 (0 : Int32)) k) → (p_isSort (ui σ 210 (0 : Int32)) j) → k = (1 : Int32) → (p_isOfAnother_5 (ui σ 210 (0 : Int32)) j) → (some (.long (-9223372036854775808 : Int64)), HH x (ui σ 210 (2 : Int32))) = r) (k13 : (p_isSheet (ui σ 210 (0 : Int32)) k) → (p_isSort (ui σ 210 (0 : Int32)) j) → k = (2 : Int32) → ¬ (p_isOfAnother_6 (ui σ 210 (0 : Int32)) j) → ¬ (σ.1 601) = 0 → (p_hasCells_6 (ui σ 210 (0 : Int32)) i (1 : Int32)) → ¬ (i < 0 ∨ 60 ≤ i.toNatClampNeg)) (k14 : (p_isSheet (ui σ 210 (0 : Int32)) k) → (p_isSort (ui σ 210 (0 : Int32)) j) → k = (2 : Int32) → ¬ (p_isOfAnother_6 (ui σ 210 (0 : Int32)) j) → ¬ (σ.1 601) = 0 → (p_hasCells_6 (ui σ 210 (0 : Int32)) i (1 : Int32)) → (some (.long (Int32.toInt64 ((σ.2.2.1 10) i.toNatClampNeg))), HH x (ui σ 210 (0 : Int32))) = r) (k15 : (p_isSheet (ui σ 210 (0 : Int32)) k) → (p_isSort (ui σ 210 (0 : Int32)) j) → k = (2 : Int32) → ¬ (p_isOfAnother_6 (ui σ 210 (0 : Int32)) j) → ¬ (σ.1 601) = 0 → ¬ (p_hasCells_6 (ui σ 210 (0 : Int32)) i (1 : Int32)) → (some (.long (-9223372036854775808 : Int64)), HH x (ui σ 210 (3 : Int32))) = r) (k16 : (p_isSheet (ui σ 210 (0 : Int32)) k) → (p_isSort (ui σ 210 (0 : Int32)) j) → k = (2 : Int32) → ¬ (p_isOfAnother_6 (ui σ 210 (0 : Int32)) j) → (σ.1 601) = 0 → (some (.long (-9223372036854775808 : Int64)), HH x (ui σ 210 (1 : Int32))) = r) (k17 : (p_isSheet (ui σ 210 (0 : Int32)) k) → (p_isSort (ui σ 210 (0 : Int32)) j) → k = (2 : Int32) → (p_isOfAnother_6 (ui σ 210 (0 : Int32)) j) → (some (.long (-9223372036854775808 : Int64)), HH x (ui σ 210 (2 : Int32))) = r) (k18 : (p_isSheet (ui σ 210 (0 : Int32)) k) → (p_isSort (ui σ 210 (0 : Int32)) j) → k = (3 : Int32) → ¬ (p_isOfAnother_7 (ui σ 210 (0 : Int32)) j) → ¬ (σ.1 701) = 0 → (p_hasCells_7 (ui σ 210 (0 : Int32)) i (1 : Int32)) → ¬ (i < 0 ∨ 60 ≤ i.toNatClampNeg)) (k19 : (p_isSheet (ui σ 210 (0 : Int32)) k) → (p_isSort (ui σ 210 (0 : Int32)) j) → k = (3 : Int32) → ¬ (p_isOfAnother_7 (ui σ 210 (0 : Int32)) j) → ¬ (σ.1 701) = 0 → (p_hasCells_7 (ui σ 210 (0 : Int32)) i (1 : Int32)) → (some (.long (Int32.toInt64 ((σ.2.2.1 11) i.toNatClampNeg))), HH x (ui σ 210 (0 : Int32))) = r) (k20 : (p_isSheet (ui σ 210 (0 : Int32)) k) → (p_isSort (ui σ 210 (0 : Int32)) j) → k = (3 : Int32) → ¬ (p_isOfAnother_7 (ui σ 210 (0 : Int32)) j) → ¬ (σ.1 701) = 0 → ¬ (p_hasCells_7 (ui σ 210 (0 : Int32)) i (1 : Int32)) → (some (.long (-9223372036854775808 : Int64)), HH x (ui σ 210 (3 : Int32))) = r) (k21 : (p_isSheet (ui σ 210 (0 : Int32)) k) → (p_isSort (ui σ 210 (0 : Int32)) j) → k = (3 : Int32) → ¬ (p_isOfAnother_7 (ui σ 210 (0 : Int32)) j) → (σ.1 701) = 0 → (some (.long (-9223372036854775808 : Int64)), HH x (ui σ 210 (1 : Int32))) = r) (k22 : (p_isSheet (ui σ 210 (0 : Int32)) k) → (p_isSort (ui σ 210 (0 : Int32)) j) → k = (3 : Int32) → (p_isOfAnother_7 (ui σ 210 (0 : Int32)) j) → (some (.long (-9223372036854775808 : Int64)), HH x (ui σ 210 (2 : Int32))) = r) (k23 : (p_isSheet (ui σ 210 (0 : Int32)) k) → ¬ (p_isSort (ui σ 210 (0 : Int32)) j) → (some (.long (-9223372036854775808 : Int64)), HH x (ui σ 210 (0 : Int32))) = r) : mm_Runs d 62 (0, [some (.ref 2), some (.int k), some (.int i), some (.int j), none], [], HH x σ) r := by
  refine mm_go 2 (F' := (2, [some (.ref 2), some (.int k), some (.int i), some (.int j), none], [.int (0 : Int32), .ref 2], HH x σ)) rfl ?_
  refine mm_go 1 (F' := (5, [some (.ref 2), some (.int k), some (.int i), some (.int j), none], [], HH x (ui σ 210 (0 : Int32)))) rfl ?_
  refine mm_go 1 (F' := (6, [some (.ref 2), some (.int k), some (.int i), some (.int j), none], [.int k], HH x (ui σ 210 (0 : Int32)))) rfl ?_
  refine mm_kl (z := 71) (as := [.int k]) (S' := []) (L2 := [some (.int k)]) (v := some (.int (mm_b (p_isSheet (ui σ 210 (0 : Int32)) k)))) (h1 := HH x (ui σ 210 (0 : Int32))) rfl rfl rfl rfl rfl (by omega) (r_isSheet (by omega)) ?_
  show mm_Runs d 62 (9, [some (.ref 2), some (.int k), some (.int i), some (.int j), none], [.int (mm_b (p_isSheet (ui σ 210 (0 : Int32)) k))], HH x (ui σ 210 (0 : Int32))) r
  refine mm_go 1 (F' := (bif mm_cond .eq (mm_b (p_isSheet (ui σ 210 (0 : Int32)) k)) 0 then 19 else 12, [some (.ref 2), some (.int k), some (.int i), some (.int j), none], [], HH x (ui σ 210 (0 : Int32)))) rfl ?_
  refine mb_beq (fun h1 => ?_) (fun h1 => ?_)
  · refine mm_go 1 (F' := (22, [some (.ref 2), some (.int k), some (.int i), some (.int j), none], [.long (-9223372036854775808 : Int64)], HH x (ui σ 210 (0 : Int32)))) rfl ?_
    exact mm_rt rfl rfl (k1 h1)
  · refine mm_go 1 (F' := (13, [some (.ref 2), some (.int k), some (.int i), some (.int j), none], [.int j], HH x (ui σ 210 (0 : Int32)))) rfl ?_
    refine mm_kl (z := 72) (as := [.int j]) (S' := []) (L2 := [some (.int j)]) (v := some (.int (mm_b (p_isSort (ui σ 210 (0 : Int32)) j)))) (h1 := HH x (ui σ 210 (0 : Int32))) rfl rfl rfl rfl rfl (by omega) (r_isSort (by omega)) ?_
    show mm_Runs d 62 (16, [some (.ref 2), some (.int k), some (.int i), some (.int j), none], [.int (mm_b (p_isSort (ui σ 210 (0 : Int32)) j))], HH x (ui σ 210 (0 : Int32))) r
    refine mm_go 1 (F' := (bif mm_cond .ne (mm_b (p_isSort (ui σ 210 (0 : Int32)) j)) 0 then 23 else 19, [some (.ref 2), some (.int k), some (.int i), some (.int j), none], [], HH x (ui σ 210 (0 : Int32)))) rfl ?_
    refine mb_bne (fun h2 => ?_) (fun h2 => ?_)
    · refine mm_go 3 (F' := (28, [some (.ref 2), some (.int k), some (.int i), some (.int j), none], [.int k, .ref 3], HH x (ui σ 210 (0 : Int32)))) rfl ?_
      rcases mm_in4 (k2 h1 h2) with h3 | h3 | h3 | h3
      · refine mm_tsA h3 (F' := (29, [some (.ref 2), some (.int k), some (.int i), some (.int j), none], [.ref 4], HH x (ui σ 210 (0 : Int32)))) rfl ?_
        refine mm_go 3 (F' := (34, [some (.ref 2), some (.int k), some (.int i), some (.int j), some (.ref 4)], [.int j, .ref 4], HH x (ui σ 210 (0 : Int32)))) rfl ?_
        refine mm_kl (z := 20) (as := [.ref 4, .int j]) (S' := []) (L2 := [some (.ref 4), some (.int j)]) (v := some (.int (mm_b (p_isOfAnother_4 (ui σ 210 (0 : Int32)) j)))) (h1 := HH x (ui σ 210 (0 : Int32))) rfl rfl rfl rfl rfl (by omega) (r_isOfAnother_4 (by omega)) ?_
        show mm_Runs d 62 (37, [some (.ref 2), some (.int k), some (.int i), some (.int j), some (.ref 4)], [.int (mm_b (p_isOfAnother_4 (ui σ 210 (0 : Int32)) j))], HH x (ui σ 210 (0 : Int32))) r
        refine mm_go 1 (F' := (bif mm_cond .eq (mm_b (p_isOfAnother_4 (ui σ 210 (0 : Int32)) j)) 0 then 49 else 40, [some (.ref 2), some (.int k), some (.int i), some (.int j), some (.ref 4)], [], HH x (ui σ 210 (0 : Int32)))) rfl ?_
        refine mb_beq (fun h4 => ?_) (fun h4 => ?_)
        · refine mm_go 3 (F' := (bif mm_cond .ne (σ.1 401) 0 then 66 else 57, [some (.ref 2), some (.int k), some (.int i), some (.int j), some (.ref 4)], [], HH x (ui σ 210 (0 : Int32)))) rfl ?_
          refine mb_ne (fun h5 => ?_) (fun h5 => ?_)
          · refine mm_go 3 (F' := (70, [some (.ref 2), some (.int k), some (.int i), some (.int j), some (.ref 4)], [.int (1 : Int32), .int i, .ref 4], HH x (ui σ 210 (0 : Int32)))) rfl ?_
            refine mm_kl (z := 21) (as := [.ref 4, .int i, .int (1 : Int32)]) (S' := []) (L2 := [some (.ref 4), some (.int i), some (.int (1 : Int32))]) (v := some (.int (mm_b (p_hasCells_4 (ui σ 210 (0 : Int32)) i (1 : Int32))))) (h1 := HH x (ui σ 210 (0 : Int32))) rfl rfl rfl rfl rfl (by omega) (r_hasCells_4 (by omega)) ?_
            show mm_Runs d 62 (73, [some (.ref 2), some (.int k), some (.int i), some (.int j), some (.ref 4)], [.int (mm_b (p_hasCells_4 (ui σ 210 (0 : Int32)) i (1 : Int32)))], HH x (ui σ 210 (0 : Int32))) r
            refine mm_go 1 (F' := (bif mm_cond .ne (mm_b (p_hasCells_4 (ui σ 210 (0 : Int32)) i (1 : Int32))) 0 then 85 else 76, [some (.ref 2), some (.int k), some (.int i), some (.int j), some (.ref 4)], [], HH x (ui σ 210 (0 : Int32)))) rfl ?_
            refine mb_bne (fun h6 => ?_) (fun h6 => ?_)
            · refine mm_go 3 (F' := (91, [some (.ref 2), some (.int k), some (.int i), some (.int j), some (.ref 4)], [.int i, .ref 8], HH x (ui σ 210 (0 : Int32)))) rfl ?_
              refine mm_gd (F' := (92, [some (.ref 2), some (.int k), some (.int i), some (.int j), some (.ref 4)], [.int ((σ.2.2.1 8) i.toNatClampNeg)], HH x (ui σ 210 (0 : Int32)))) rfl (k3 h1 h2 h3 h4 h5 h6) ?_
              refine mm_go 1 (F' := (93, [some (.ref 2), some (.int k), some (.int i), some (.int j), some (.ref 4)], [.long (Int32.toInt64 ((σ.2.2.1 8) i.toNatClampNeg))], HH x (ui σ 210 (0 : Int32)))) rfl ?_
              exact mm_rt rfl rfl (k4 h1 h2 h3 h4 h5 h6)
            · refine mm_go 2 (F' := (78, [some (.ref 2), some (.int k), some (.int i), some (.int j), some (.ref 4)], [.int (3 : Int32), .ref 2], HH x (ui σ 210 (0 : Int32)))) rfl ?_
              refine mm_go 1 (F' := (81, [some (.ref 2), some (.int k), some (.int i), some (.int j), some (.ref 4)], [], HH x (ui σ 210 (3 : Int32)))) rfl ?_
              refine mm_go 1 (F' := (84, [some (.ref 2), some (.int k), some (.int i), some (.int j), some (.ref 4)], [.long (-9223372036854775808 : Int64)], HH x (ui σ 210 (3 : Int32)))) rfl ?_
              exact mm_rt rfl rfl (k5 h1 h2 h3 h4 h5 h6)
          · refine mm_go 2 (F' := (59, [some (.ref 2), some (.int k), some (.int i), some (.int j), some (.ref 4)], [.int (1 : Int32), .ref 2], HH x (ui σ 210 (0 : Int32)))) rfl ?_
            refine mm_go 1 (F' := (62, [some (.ref 2), some (.int k), some (.int i), some (.int j), some (.ref 4)], [], HH x (ui σ 210 (1 : Int32)))) rfl ?_
            refine mm_go 1 (F' := (65, [some (.ref 2), some (.int k), some (.int i), some (.int j), some (.ref 4)], [.long (-9223372036854775808 : Int64)], HH x (ui σ 210 (1 : Int32)))) rfl ?_
            exact mm_rt rfl rfl (k6 h1 h2 h3 h4 h5)
        · refine mm_go 2 (F' := (42, [some (.ref 2), some (.int k), some (.int i), some (.int j), some (.ref 4)], [.int (2 : Int32), .ref 2], HH x (ui σ 210 (0 : Int32)))) rfl ?_
          refine mm_go 1 (F' := (45, [some (.ref 2), some (.int k), some (.int i), some (.int j), some (.ref 4)], [], HH x (ui σ 210 (2 : Int32)))) rfl ?_
          refine mm_go 1 (F' := (48, [some (.ref 2), some (.int k), some (.int i), some (.int j), some (.ref 4)], [.long (-9223372036854775808 : Int64)], HH x (ui σ 210 (2 : Int32)))) rfl ?_
          exact mm_rt rfl rfl (k7 h1 h2 h3 h4)
      · refine mm_tsA h3 (F' := (29, [some (.ref 2), some (.int k), some (.int i), some (.int j), none], [.ref 5], HH x (ui σ 210 (0 : Int32)))) rfl ?_
        refine mm_go 3 (F' := (34, [some (.ref 2), some (.int k), some (.int i), some (.int j), some (.ref 5)], [.int j, .ref 5], HH x (ui σ 210 (0 : Int32)))) rfl ?_
        refine mm_kl (z := 20) (as := [.ref 5, .int j]) (S' := []) (L2 := [some (.ref 5), some (.int j)]) (v := some (.int (mm_b (p_isOfAnother_5 (ui σ 210 (0 : Int32)) j)))) (h1 := HH x (ui σ 210 (0 : Int32))) rfl rfl rfl rfl rfl (by omega) (r_isOfAnother_5 (by omega)) ?_
        show mm_Runs d 62 (37, [some (.ref 2), some (.int k), some (.int i), some (.int j), some (.ref 5)], [.int (mm_b (p_isOfAnother_5 (ui σ 210 (0 : Int32)) j))], HH x (ui σ 210 (0 : Int32))) r
        refine mm_go 1 (F' := (bif mm_cond .eq (mm_b (p_isOfAnother_5 (ui σ 210 (0 : Int32)) j)) 0 then 49 else 40, [some (.ref 2), some (.int k), some (.int i), some (.int j), some (.ref 5)], [], HH x (ui σ 210 (0 : Int32)))) rfl ?_
        refine mb_beq (fun h7 => ?_) (fun h7 => ?_)
        · refine mm_go 3 (F' := (bif mm_cond .ne (σ.1 501) 0 then 66 else 57, [some (.ref 2), some (.int k), some (.int i), some (.int j), some (.ref 5)], [], HH x (ui σ 210 (0 : Int32)))) rfl ?_
          refine mb_ne (fun h8 => ?_) (fun h8 => ?_)
          · refine mm_go 3 (F' := (70, [some (.ref 2), some (.int k), some (.int i), some (.int j), some (.ref 5)], [.int (1 : Int32), .int i, .ref 5], HH x (ui σ 210 (0 : Int32)))) rfl ?_
            refine mm_kl (z := 21) (as := [.ref 5, .int i, .int (1 : Int32)]) (S' := []) (L2 := [some (.ref 5), some (.int i), some (.int (1 : Int32))]) (v := some (.int (mm_b (p_hasCells_5 (ui σ 210 (0 : Int32)) i (1 : Int32))))) (h1 := HH x (ui σ 210 (0 : Int32))) rfl rfl rfl rfl rfl (by omega) (r_hasCells_5 (by omega)) ?_
            show mm_Runs d 62 (73, [some (.ref 2), some (.int k), some (.int i), some (.int j), some (.ref 5)], [.int (mm_b (p_hasCells_5 (ui σ 210 (0 : Int32)) i (1 : Int32)))], HH x (ui σ 210 (0 : Int32))) r
            refine mm_go 1 (F' := (bif mm_cond .ne (mm_b (p_hasCells_5 (ui σ 210 (0 : Int32)) i (1 : Int32))) 0 then 85 else 76, [some (.ref 2), some (.int k), some (.int i), some (.int j), some (.ref 5)], [], HH x (ui σ 210 (0 : Int32)))) rfl ?_
            refine mb_bne (fun h9 => ?_) (fun h9 => ?_)
            · refine mm_go 3 (F' := (91, [some (.ref 2), some (.int k), some (.int i), some (.int j), some (.ref 5)], [.int i, .ref 9], HH x (ui σ 210 (0 : Int32)))) rfl ?_
              refine mm_gd (F' := (92, [some (.ref 2), some (.int k), some (.int i), some (.int j), some (.ref 5)], [.int ((σ.2.2.1 9) i.toNatClampNeg)], HH x (ui σ 210 (0 : Int32)))) rfl (k8 h1 h2 h3 h7 h8 h9) ?_
              refine mm_go 1 (F' := (93, [some (.ref 2), some (.int k), some (.int i), some (.int j), some (.ref 5)], [.long (Int32.toInt64 ((σ.2.2.1 9) i.toNatClampNeg))], HH x (ui σ 210 (0 : Int32)))) rfl ?_
              exact mm_rt rfl rfl (k9 h1 h2 h3 h7 h8 h9)
            · refine mm_go 2 (F' := (78, [some (.ref 2), some (.int k), some (.int i), some (.int j), some (.ref 5)], [.int (3 : Int32), .ref 2], HH x (ui σ 210 (0 : Int32)))) rfl ?_
              refine mm_go 1 (F' := (81, [some (.ref 2), some (.int k), some (.int i), some (.int j), some (.ref 5)], [], HH x (ui σ 210 (3 : Int32)))) rfl ?_
              refine mm_go 1 (F' := (84, [some (.ref 2), some (.int k), some (.int i), some (.int j), some (.ref 5)], [.long (-9223372036854775808 : Int64)], HH x (ui σ 210 (3 : Int32)))) rfl ?_
              exact mm_rt rfl rfl (k10 h1 h2 h3 h7 h8 h9)
          · refine mm_go 2 (F' := (59, [some (.ref 2), some (.int k), some (.int i), some (.int j), some (.ref 5)], [.int (1 : Int32), .ref 2], HH x (ui σ 210 (0 : Int32)))) rfl ?_
            refine mm_go 1 (F' := (62, [some (.ref 2), some (.int k), some (.int i), some (.int j), some (.ref 5)], [], HH x (ui σ 210 (1 : Int32)))) rfl ?_
            refine mm_go 1 (F' := (65, [some (.ref 2), some (.int k), some (.int i), some (.int j), some (.ref 5)], [.long (-9223372036854775808 : Int64)], HH x (ui σ 210 (1 : Int32)))) rfl ?_
            exact mm_rt rfl rfl (k11 h1 h2 h3 h7 h8)
        · refine mm_go 2 (F' := (42, [some (.ref 2), some (.int k), some (.int i), some (.int j), some (.ref 5)], [.int (2 : Int32), .ref 2], HH x (ui σ 210 (0 : Int32)))) rfl ?_
          refine mm_go 1 (F' := (45, [some (.ref 2), some (.int k), some (.int i), some (.int j), some (.ref 5)], [], HH x (ui σ 210 (2 : Int32)))) rfl ?_
          refine mm_go 1 (F' := (48, [some (.ref 2), some (.int k), some (.int i), some (.int j), some (.ref 5)], [.long (-9223372036854775808 : Int64)], HH x (ui σ 210 (2 : Int32)))) rfl ?_
          exact mm_rt rfl rfl (k12 h1 h2 h3 h7)
      · refine mm_tsA h3 (F' := (29, [some (.ref 2), some (.int k), some (.int i), some (.int j), none], [.ref 6], HH x (ui σ 210 (0 : Int32)))) rfl ?_
        refine mm_go 3 (F' := (34, [some (.ref 2), some (.int k), some (.int i), some (.int j), some (.ref 6)], [.int j, .ref 6], HH x (ui σ 210 (0 : Int32)))) rfl ?_
        refine mm_kl (z := 20) (as := [.ref 6, .int j]) (S' := []) (L2 := [some (.ref 6), some (.int j)]) (v := some (.int (mm_b (p_isOfAnother_6 (ui σ 210 (0 : Int32)) j)))) (h1 := HH x (ui σ 210 (0 : Int32))) rfl rfl rfl rfl rfl (by omega) (r_isOfAnother_6 (by omega)) ?_
        show mm_Runs d 62 (37, [some (.ref 2), some (.int k), some (.int i), some (.int j), some (.ref 6)], [.int (mm_b (p_isOfAnother_6 (ui σ 210 (0 : Int32)) j))], HH x (ui σ 210 (0 : Int32))) r
        refine mm_go 1 (F' := (bif mm_cond .eq (mm_b (p_isOfAnother_6 (ui σ 210 (0 : Int32)) j)) 0 then 49 else 40, [some (.ref 2), some (.int k), some (.int i), some (.int j), some (.ref 6)], [], HH x (ui σ 210 (0 : Int32)))) rfl ?_
        refine mb_beq (fun h10 => ?_) (fun h10 => ?_)
        · refine mm_go 3 (F' := (bif mm_cond .ne (σ.1 601) 0 then 66 else 57, [some (.ref 2), some (.int k), some (.int i), some (.int j), some (.ref 6)], [], HH x (ui σ 210 (0 : Int32)))) rfl ?_
          refine mb_ne (fun h11 => ?_) (fun h11 => ?_)
          · refine mm_go 3 (F' := (70, [some (.ref 2), some (.int k), some (.int i), some (.int j), some (.ref 6)], [.int (1 : Int32), .int i, .ref 6], HH x (ui σ 210 (0 : Int32)))) rfl ?_
            refine mm_kl (z := 21) (as := [.ref 6, .int i, .int (1 : Int32)]) (S' := []) (L2 := [some (.ref 6), some (.int i), some (.int (1 : Int32))]) (v := some (.int (mm_b (p_hasCells_6 (ui σ 210 (0 : Int32)) i (1 : Int32))))) (h1 := HH x (ui σ 210 (0 : Int32))) rfl rfl rfl rfl rfl (by omega) (r_hasCells_6 (by omega)) ?_
            show mm_Runs d 62 (73, [some (.ref 2), some (.int k), some (.int i), some (.int j), some (.ref 6)], [.int (mm_b (p_hasCells_6 (ui σ 210 (0 : Int32)) i (1 : Int32)))], HH x (ui σ 210 (0 : Int32))) r
            refine mm_go 1 (F' := (bif mm_cond .ne (mm_b (p_hasCells_6 (ui σ 210 (0 : Int32)) i (1 : Int32))) 0 then 85 else 76, [some (.ref 2), some (.int k), some (.int i), some (.int j), some (.ref 6)], [], HH x (ui σ 210 (0 : Int32)))) rfl ?_
            refine mb_bne (fun h12 => ?_) (fun h12 => ?_)
            · refine mm_go 3 (F' := (91, [some (.ref 2), some (.int k), some (.int i), some (.int j), some (.ref 6)], [.int i, .ref 10], HH x (ui σ 210 (0 : Int32)))) rfl ?_
              refine mm_gd (F' := (92, [some (.ref 2), some (.int k), some (.int i), some (.int j), some (.ref 6)], [.int ((σ.2.2.1 10) i.toNatClampNeg)], HH x (ui σ 210 (0 : Int32)))) rfl (k13 h1 h2 h3 h10 h11 h12) ?_
              refine mm_go 1 (F' := (93, [some (.ref 2), some (.int k), some (.int i), some (.int j), some (.ref 6)], [.long (Int32.toInt64 ((σ.2.2.1 10) i.toNatClampNeg))], HH x (ui σ 210 (0 : Int32)))) rfl ?_
              exact mm_rt rfl rfl (k14 h1 h2 h3 h10 h11 h12)
            · refine mm_go 2 (F' := (78, [some (.ref 2), some (.int k), some (.int i), some (.int j), some (.ref 6)], [.int (3 : Int32), .ref 2], HH x (ui σ 210 (0 : Int32)))) rfl ?_
              refine mm_go 1 (F' := (81, [some (.ref 2), some (.int k), some (.int i), some (.int j), some (.ref 6)], [], HH x (ui σ 210 (3 : Int32)))) rfl ?_
              refine mm_go 1 (F' := (84, [some (.ref 2), some (.int k), some (.int i), some (.int j), some (.ref 6)], [.long (-9223372036854775808 : Int64)], HH x (ui σ 210 (3 : Int32)))) rfl ?_
              exact mm_rt rfl rfl (k15 h1 h2 h3 h10 h11 h12)
          · refine mm_go 2 (F' := (59, [some (.ref 2), some (.int k), some (.int i), some (.int j), some (.ref 6)], [.int (1 : Int32), .ref 2], HH x (ui σ 210 (0 : Int32)))) rfl ?_
            refine mm_go 1 (F' := (62, [some (.ref 2), some (.int k), some (.int i), some (.int j), some (.ref 6)], [], HH x (ui σ 210 (1 : Int32)))) rfl ?_
            refine mm_go 1 (F' := (65, [some (.ref 2), some (.int k), some (.int i), some (.int j), some (.ref 6)], [.long (-9223372036854775808 : Int64)], HH x (ui σ 210 (1 : Int32)))) rfl ?_
            exact mm_rt rfl rfl (k16 h1 h2 h3 h10 h11)
        · refine mm_go 2 (F' := (42, [some (.ref 2), some (.int k), some (.int i), some (.int j), some (.ref 6)], [.int (2 : Int32), .ref 2], HH x (ui σ 210 (0 : Int32)))) rfl ?_
          refine mm_go 1 (F' := (45, [some (.ref 2), some (.int k), some (.int i), some (.int j), some (.ref 6)], [], HH x (ui σ 210 (2 : Int32)))) rfl ?_
          refine mm_go 1 (F' := (48, [some (.ref 2), some (.int k), some (.int i), some (.int j), some (.ref 6)], [.long (-9223372036854775808 : Int64)], HH x (ui σ 210 (2 : Int32)))) rfl ?_
          exact mm_rt rfl rfl (k17 h1 h2 h3 h10)
      · refine mm_tsA h3 (F' := (29, [some (.ref 2), some (.int k), some (.int i), some (.int j), none], [.ref 7], HH x (ui σ 210 (0 : Int32)))) rfl ?_
        refine mm_go 3 (F' := (34, [some (.ref 2), some (.int k), some (.int i), some (.int j), some (.ref 7)], [.int j, .ref 7], HH x (ui σ 210 (0 : Int32)))) rfl ?_
        refine mm_kl (z := 20) (as := [.ref 7, .int j]) (S' := []) (L2 := [some (.ref 7), some (.int j)]) (v := some (.int (mm_b (p_isOfAnother_7 (ui σ 210 (0 : Int32)) j)))) (h1 := HH x (ui σ 210 (0 : Int32))) rfl rfl rfl rfl rfl (by omega) (r_isOfAnother_7 (by omega)) ?_
        show mm_Runs d 62 (37, [some (.ref 2), some (.int k), some (.int i), some (.int j), some (.ref 7)], [.int (mm_b (p_isOfAnother_7 (ui σ 210 (0 : Int32)) j))], HH x (ui σ 210 (0 : Int32))) r
        refine mm_go 1 (F' := (bif mm_cond .eq (mm_b (p_isOfAnother_7 (ui σ 210 (0 : Int32)) j)) 0 then 49 else 40, [some (.ref 2), some (.int k), some (.int i), some (.int j), some (.ref 7)], [], HH x (ui σ 210 (0 : Int32)))) rfl ?_
        refine mb_beq (fun h13 => ?_) (fun h13 => ?_)
        · refine mm_go 3 (F' := (bif mm_cond .ne (σ.1 701) 0 then 66 else 57, [some (.ref 2), some (.int k), some (.int i), some (.int j), some (.ref 7)], [], HH x (ui σ 210 (0 : Int32)))) rfl ?_
          refine mb_ne (fun h14 => ?_) (fun h14 => ?_)
          · refine mm_go 3 (F' := (70, [some (.ref 2), some (.int k), some (.int i), some (.int j), some (.ref 7)], [.int (1 : Int32), .int i, .ref 7], HH x (ui σ 210 (0 : Int32)))) rfl ?_
            refine mm_kl (z := 21) (as := [.ref 7, .int i, .int (1 : Int32)]) (S' := []) (L2 := [some (.ref 7), some (.int i), some (.int (1 : Int32))]) (v := some (.int (mm_b (p_hasCells_7 (ui σ 210 (0 : Int32)) i (1 : Int32))))) (h1 := HH x (ui σ 210 (0 : Int32))) rfl rfl rfl rfl rfl (by omega) (r_hasCells_7 (by omega)) ?_
            show mm_Runs d 62 (73, [some (.ref 2), some (.int k), some (.int i), some (.int j), some (.ref 7)], [.int (mm_b (p_hasCells_7 (ui σ 210 (0 : Int32)) i (1 : Int32)))], HH x (ui σ 210 (0 : Int32))) r
            refine mm_go 1 (F' := (bif mm_cond .ne (mm_b (p_hasCells_7 (ui σ 210 (0 : Int32)) i (1 : Int32))) 0 then 85 else 76, [some (.ref 2), some (.int k), some (.int i), some (.int j), some (.ref 7)], [], HH x (ui σ 210 (0 : Int32)))) rfl ?_
            refine mb_bne (fun h15 => ?_) (fun h15 => ?_)
            · refine mm_go 3 (F' := (91, [some (.ref 2), some (.int k), some (.int i), some (.int j), some (.ref 7)], [.int i, .ref 11], HH x (ui σ 210 (0 : Int32)))) rfl ?_
              refine mm_gd (F' := (92, [some (.ref 2), some (.int k), some (.int i), some (.int j), some (.ref 7)], [.int ((σ.2.2.1 11) i.toNatClampNeg)], HH x (ui σ 210 (0 : Int32)))) rfl (k18 h1 h2 h3 h13 h14 h15) ?_
              refine mm_go 1 (F' := (93, [some (.ref 2), some (.int k), some (.int i), some (.int j), some (.ref 7)], [.long (Int32.toInt64 ((σ.2.2.1 11) i.toNatClampNeg))], HH x (ui σ 210 (0 : Int32)))) rfl ?_
              exact mm_rt rfl rfl (k19 h1 h2 h3 h13 h14 h15)
            · refine mm_go 2 (F' := (78, [some (.ref 2), some (.int k), some (.int i), some (.int j), some (.ref 7)], [.int (3 : Int32), .ref 2], HH x (ui σ 210 (0 : Int32)))) rfl ?_
              refine mm_go 1 (F' := (81, [some (.ref 2), some (.int k), some (.int i), some (.int j), some (.ref 7)], [], HH x (ui σ 210 (3 : Int32)))) rfl ?_
              refine mm_go 1 (F' := (84, [some (.ref 2), some (.int k), some (.int i), some (.int j), some (.ref 7)], [.long (-9223372036854775808 : Int64)], HH x (ui σ 210 (3 : Int32)))) rfl ?_
              exact mm_rt rfl rfl (k20 h1 h2 h3 h13 h14 h15)
          · refine mm_go 2 (F' := (59, [some (.ref 2), some (.int k), some (.int i), some (.int j), some (.ref 7)], [.int (1 : Int32), .ref 2], HH x (ui σ 210 (0 : Int32)))) rfl ?_
            refine mm_go 1 (F' := (62, [some (.ref 2), some (.int k), some (.int i), some (.int j), some (.ref 7)], [], HH x (ui σ 210 (1 : Int32)))) rfl ?_
            refine mm_go 1 (F' := (65, [some (.ref 2), some (.int k), some (.int i), some (.int j), some (.ref 7)], [.long (-9223372036854775808 : Int64)], HH x (ui σ 210 (1 : Int32)))) rfl ?_
            exact mm_rt rfl rfl (k21 h1 h2 h3 h13 h14)
        · refine mm_go 2 (F' := (42, [some (.ref 2), some (.int k), some (.int i), some (.int j), some (.ref 7)], [.int (2 : Int32), .ref 2], HH x (ui σ 210 (0 : Int32)))) rfl ?_
          refine mm_go 1 (F' := (45, [some (.ref 2), some (.int k), some (.int i), some (.int j), some (.ref 7)], [], HH x (ui σ 210 (2 : Int32)))) rfl ?_
          refine mm_go 1 (F' := (48, [some (.ref 2), some (.int k), some (.int i), some (.int j), some (.ref 7)], [.long (-9223372036854775808 : Int64)], HH x (ui σ 210 (2 : Int32)))) rfl ?_
          exact mm_rt rfl rfl (k22 h1 h2 h3 h13)
    · refine mm_go 1 (F' := (22, [some (.ref 2), some (.int k), some (.int i), some (.int j), none], [.long (-9223372036854775808 : Int64)], HH x (ui σ 210 (0 : Int32)))) rfl ?_
      exact mm_rt rfl rfl (k23 h1 h2)
def f_cell (σ : mm_S) (k : Int32) (i : Int32) (j : Int32) : Int64 := (if (p_isSheet (ui σ 210 (0 : Int32)) k) then (if (p_isSort (ui σ 210 (0 : Int32)) j) then (if k = (0 : Int32) then (if (p_isOfAnother_4 (ui σ 210 (0 : Int32)) j) then (-9223372036854775808 : Int64) else (if (σ.1 401) = 0 then (-9223372036854775808 : Int64) else (if (p_hasCells_4 (ui σ 210 (0 : Int32)) i (1 : Int32)) then (Int32.toInt64 ((σ.2.2.1 8) i.toNatClampNeg)) else (-9223372036854775808 : Int64)))) else (if k = (1 : Int32) then (if (p_isOfAnother_5 (ui σ 210 (0 : Int32)) j) then (-9223372036854775808 : Int64) else (if (σ.1 501) = 0 then (-9223372036854775808 : Int64) else (if (p_hasCells_5 (ui σ 210 (0 : Int32)) i (1 : Int32)) then (Int32.toInt64 ((σ.2.2.1 9) i.toNatClampNeg)) else (-9223372036854775808 : Int64)))) else (if k = (2 : Int32) then (if (p_isOfAnother_6 (ui σ 210 (0 : Int32)) j) then (-9223372036854775808 : Int64) else (if (σ.1 601) = 0 then (-9223372036854775808 : Int64) else (if (p_hasCells_6 (ui σ 210 (0 : Int32)) i (1 : Int32)) then (Int32.toInt64 ((σ.2.2.1 10) i.toNatClampNeg)) else (-9223372036854775808 : Int64)))) else (if (p_isOfAnother_7 (ui σ 210 (0 : Int32)) j) then (-9223372036854775808 : Int64) else (if (σ.1 701) = 0 then (-9223372036854775808 : Int64) else (if (p_hasCells_7 (ui σ 210 (0 : Int32)) i (1 : Int32)) then (Int32.toInt64 ((σ.2.2.1 11) i.toNatClampNeg)) else (-9223372036854775808 : Int64))))))) else (-9223372036854775808 : Int64)) else (-9223372036854775808 : Int64))
def g_cell (σ : mm_S) (k : Int32) (i : Int32) (j : Int32) : mm_S := (if (p_isSheet (ui σ 210 (0 : Int32)) k) then (if (p_isSort (ui σ 210 (0 : Int32)) j) then (if k = (0 : Int32) then (if (p_isOfAnother_4 (ui σ 210 (0 : Int32)) j) then (ui σ 210 (2 : Int32)) else (if (σ.1 401) = 0 then (ui σ 210 (1 : Int32)) else (if (p_hasCells_4 (ui σ 210 (0 : Int32)) i (1 : Int32)) then (ui σ 210 (0 : Int32)) else (ui σ 210 (3 : Int32))))) else (if k = (1 : Int32) then (if (p_isOfAnother_5 (ui σ 210 (0 : Int32)) j) then (ui σ 210 (2 : Int32)) else (if (σ.1 501) = 0 then (ui σ 210 (1 : Int32)) else (if (p_hasCells_5 (ui σ 210 (0 : Int32)) i (1 : Int32)) then (ui σ 210 (0 : Int32)) else (ui σ 210 (3 : Int32))))) else (if k = (2 : Int32) then (if (p_isOfAnother_6 (ui σ 210 (0 : Int32)) j) then (ui σ 210 (2 : Int32)) else (if (σ.1 601) = 0 then (ui σ 210 (1 : Int32)) else (if (p_hasCells_6 (ui σ 210 (0 : Int32)) i (1 : Int32)) then (ui σ 210 (0 : Int32)) else (ui σ 210 (3 : Int32))))) else (if (p_isOfAnother_7 (ui σ 210 (0 : Int32)) j) then (ui σ 210 (2 : Int32)) else (if (σ.1 701) = 0 then (ui σ 210 (1 : Int32)) else (if (p_hasCells_7 (ui σ 210 (0 : Int32)) i (1 : Int32)) then (ui σ 210 (0 : Int32)) else (ui σ 210 (3 : Int32)))))))) else (ui σ 210 (0 : Int32))) else (ui σ 210 (0 : Int32)))
theorem r_cell {d : Nat} {x : Nat × (Nat → Int32)} {σ : mm_S} {k : Int32} {i : Int32} {j : Int32} (hd : 1 ≤ d) (p0 : (p_isSheet (ui σ 210 (0 : Int32)) k) → (p_isSort (ui σ 210 (0 : Int32)) j) → ¬ (k < 0 ∨ 4 ≤ k.toNatClampNeg)) (p1 : (p_isSheet (ui σ 210 (0 : Int32)) k) → (p_isSort (ui σ 210 (0 : Int32)) j) → k = (0 : Int32) → ¬ (p_isOfAnother_4 (ui σ 210 (0 : Int32)) j) → ¬ (σ.1 401) = 0 → (p_hasCells_4 (ui σ 210 (0 : Int32)) i (1 : Int32)) → ¬ (i < 0 ∨ 60 ≤ i.toNatClampNeg)) (p2 : (p_isSheet (ui σ 210 (0 : Int32)) k) → (p_isSort (ui σ 210 (0 : Int32)) j) → k = (1 : Int32) → ¬ (p_isOfAnother_5 (ui σ 210 (0 : Int32)) j) → ¬ (σ.1 501) = 0 → (p_hasCells_5 (ui σ 210 (0 : Int32)) i (1 : Int32)) → ¬ (i < 0 ∨ 60 ≤ i.toNatClampNeg)) (p3 : (p_isSheet (ui σ 210 (0 : Int32)) k) → (p_isSort (ui σ 210 (0 : Int32)) j) → k = (2 : Int32) → ¬ (p_isOfAnother_6 (ui σ 210 (0 : Int32)) j) → ¬ (σ.1 601) = 0 → (p_hasCells_6 (ui σ 210 (0 : Int32)) i (1 : Int32)) → ¬ (i < 0 ∨ 60 ≤ i.toNatClampNeg)) (p4 : (p_isSheet (ui σ 210 (0 : Int32)) k) → (p_isSort (ui σ 210 (0 : Int32)) j) → k = (3 : Int32) → ¬ (p_isOfAnother_7 (ui σ 210 (0 : Int32)) j) → ¬ (σ.1 701) = 0 → (p_hasCells_7 (ui σ 210 (0 : Int32)) i (1 : Int32)) → ¬ (i < 0 ∨ 60 ≤ i.toNatClampNeg)) : mm_Runs d 62 (0, [some (.ref 2), some (.int k), some (.int i), some (.int j), none], [], HH x σ) (some (.long (f_cell σ k i j)), HH x (g_cell σ k i j)) := by
  refine vc_cell (by omega) (fun h1 => by first | rfl | (simp [f_cell, g_cell, h1]; done) | (simp_all [f_cell, g_cell]; done) | grind [f_cell, g_cell]) p0 p1 (fun h1 h2 h3 h4 h5 h6 => by first | rfl | (simp [f_cell, g_cell, h1, h2, h3, h4, h5, h6]; done) | (simp_all [f_cell, g_cell]; done) | grind [f_cell, g_cell]) (fun h1 h2 h3 h4 h5 h6 => by first | rfl | (simp [f_cell, g_cell, h1, h2, h3, h4, h5, h6]; done) | (simp_all [f_cell, g_cell]; done) | grind [f_cell, g_cell]) (fun h1 h2 h3 h4 h5 => by first | rfl | (simp [f_cell, g_cell, h1, h2, h3, h4, h5]; done) | (simp_all [f_cell, g_cell]; done) | grind [f_cell, g_cell]) (fun h1 h2 h3 h4 => by first | rfl | (simp [f_cell, g_cell, h1, h2, h3, h4]; done) | (simp_all [f_cell, g_cell]; done) | grind [f_cell, g_cell]) p2 (fun h1 h2 h3 h4 h5 h6 => by first | rfl | (simp [f_cell, g_cell, h1, h2, h3, h4, h5, h6]; done) | (simp_all [f_cell, g_cell]; done) | grind [f_cell, g_cell]) (fun h1 h2 h3 h4 h5 h6 => by first | rfl | (simp [f_cell, g_cell, h1, h2, h3, h4, h5, h6]; done) | (simp_all [f_cell, g_cell]; done) | grind [f_cell, g_cell]) (fun h1 h2 h3 h4 h5 => by first | rfl | (simp [f_cell, g_cell, h1, h2, h3, h4, h5]; done) | (simp_all [f_cell, g_cell]; done) | grind [f_cell, g_cell]) (fun h1 h2 h3 h4 => by first | rfl | (simp [f_cell, g_cell, h1, h2, h3, h4]; done) | (simp_all [f_cell, g_cell]; done) | grind [f_cell, g_cell]) p3 (fun h1 h2 h3 h4 h5 h6 => by first | rfl | (simp [f_cell, g_cell, h1, h2, h3, h4, h5, h6]; done) | (simp_all [f_cell, g_cell]; done) | grind [f_cell, g_cell]) (fun h1 h2 h3 h4 h5 h6 => by first | rfl | (simp [f_cell, g_cell, h1, h2, h3, h4, h5, h6]; done) | (simp_all [f_cell, g_cell]; done) | grind [f_cell, g_cell]) (fun h1 h2 h3 h4 h5 => by first | rfl | (simp [f_cell, g_cell, h1, h2, h3, h4, h5]; done) | (simp_all [f_cell, g_cell]; done) | grind [f_cell, g_cell]) (fun h1 h2 h3 h4 => by first | rfl | (simp [f_cell, g_cell, h1, h2, h3, h4]; done) | (simp_all [f_cell, g_cell]; done) | grind [f_cell, g_cell]) p4 (fun h1 h2 h3 h4 h5 h6 => by first | rfl | (simp [f_cell, g_cell, h1, h2, h3, h4, h5, h6]; done) | (simp_all [f_cell, g_cell]; done) | grind [f_cell, g_cell]) (fun h1 h2 h3 h4 h5 h6 => by first | rfl | (simp [f_cell, g_cell, h1, h2, h3, h4, h5, h6]; done) | (simp_all [f_cell, g_cell]; done) | grind [f_cell, g_cell]) (fun h1 h2 h3 h4 h5 => by first | rfl | (simp [f_cell, g_cell, h1, h2, h3, h4, h5]; done) | (simp_all [f_cell, g_cell]; done) | grind [f_cell, g_cell]) (fun h1 h2 h3 h4 => by first | rfl | (simp [f_cell, g_cell, h1, h2, h3, h4]; done) | (simp_all [f_cell, g_cell]; done) | grind [f_cell, g_cell]) (fun h1 h2 => by first | rfl | (simp [f_cell, g_cell, h1, h2]; done) | (simp_all [f_cell, g_cell]; done) | grind [f_cell, g_cell])
