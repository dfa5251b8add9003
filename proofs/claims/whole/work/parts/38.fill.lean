/-! filling a row (written by wip/whole/t38.py) -/
theorem mm_up_up {α : Type} (f : Nat → α) (k : Nat) (x y : α) : mm_up (mm_up f k x) k y = mm_up f k y := by
  funext j
  unfold mm_up
  cases Nat.beq j k <;> rfl
theorem ua_ua (σ : mm_S) (q : Nat) (f g : Nat → Int32) : ua (ua σ q f) q g = ua σ q g := by
  unfold ua
  simp only [mm_up_up]
theorem ub_ub (σ : mm_S) (q : Nat) (f g : Nat → Int64) : ub (ub σ q f) q g = ub σ q g := by
  unfold ub
  simp only [mm_up_up]
theorem mm_up_self {α : Type} (f : Nat → α) (k : Nat) : mm_up f k (f k) = f := by
  funext j
  unfold mm_up
  cases h : Nat.beq j k
  · rfl
  · rw [Nat.eq_of_beq_eq_true h]; rfl
theorem ua_self (σ : mm_S) (q : Nat) : ua σ q (σ.2.2.1 q) = σ := by
  unfold ua
  rw [mm_up_self]
theorem ub_self (σ : mm_S) (q : Nat) : ub σ q (σ.2.2.2 q) = σ := by
  unfold ub
  rw [mm_up_self]
/-- the first n become v -/
def fl {α : Type} (n : Nat) (v : α) (f : Nat → α) : Nat → α := fun j => if j < n then v else f j
theorem fl_0 {α : Type} (v : α) (f : Nat → α) : fl 0 v f = f := by
  funext j
  unfold fl
  rw [if_neg (by omega)]
theorem fl_s (n : Nat) (v : Int32) (f : Nat → Int32) : upd (fl n v f) n v = fl (n + 1) v f := by
  funext j
  show (if j = n then v else (if j < n then v else f j)) = if j < n + 1 then v else f j
  by_cases h : j = n
  · rw [if_pos h, if_pos (by omega)]
  · rw [if_neg h]
    by_cases h2 : j < n
    · rw [if_pos h2, if_pos (by omega)]
    · rw [if_neg h2, if_neg (by omega)]
theorem fl_sL (n : Nat) (v : Int64) (f : Nat → Int64) : vp_updL (fl n v f) n v = fl (n + 1) v f := by
  funext j
  show (if j = n then v else (if j < n then v else f j)) = if j < n + 1 then v else f j
  by_cases h : j = n
  · rw [if_pos h, if_pos (by omega)]
  · rw [if_neg h]
    by_cases h2 : j < n
    · rw [if_pos h2, if_pos (by omega)]
    · rw [if_neg h2, if_neg (by omega)]
theorem vc_fill0_8 {d : Nat} {x : Nat × (Nat → Int32)} {σ : mm_S} {v : Int32} {r : Option Value × mm_H} (k1 : mm_Runs d 157 (5, [some (.ref 8), some (.int v), some (.int (0 : Int32)), some (.int (Int32.ofNat 60))], [], HH x σ) r) : mm_Runs d 157 (0, [some (.ref 8), some (.int v), none, none], [], HH x σ) r := by
  refine mm_go 5 (F' := (5, [some (.ref 8), some (.int v), some (.int (0 : Int32)), some (.int (Int32.ofNat 60))], [], HH x σ)) rfl ?_
  exact mm_wk (by exact (And.intro rfl (And.intro rfl (And.intro rfl (And.intro rfl True.intro))))) k1
theorem vc_fillh_8 {d : Nat} {x : Nat × (Nat → Int32)} {σ : mm_S} {v i n : Int32} {r : Option Value × mm_H} (k1 : n ≤ i → (none, HH x σ) = r) (k2 : ¬ n ≤ i → ¬ (i < 0 ∨ 60 ≤ i.toNatClampNeg)) (k3 : ¬ n ≤ i → mm_Runs d 157 (5, [some (.ref 8), some (.int v), some (.int (i + (1 : Int32))), some (.int n)], [], HH x (ua σ 8 (upd (σ.2.2.1 8) i.toNatClampNeg v))) r) : mm_Runs d 157 (5, [some (.ref 8), some (.int v), some (.int i), some (.int n)], [], HH x σ) r := by
  refine mm_go 3 (F' := (bif mm_cond .ge i n then 20 else 10, [some (.ref 8), some (.int v), some (.int i), some (.int n)], [], HH x σ)) rfl ?_
  refine mb_ge (fun h1 => ?_) (fun h1 => ?_)
  · exact mm_rt rfl rfl (k1 h1)
  · refine mm_go 3 (F' := (13, [some (.ref 8), some (.int v), some (.int i), some (.int n)], [.int v, .int i, .ref 8], HH x σ)) rfl ?_
    refine mm_gd (F' := (14, [some (.ref 8), some (.int v), some (.int i), some (.int n)], [], HH x (ua σ 8 (upd (σ.2.2.1 8) i.toNatClampNeg v)))) rfl (k2 h1) ?_
    refine mm_go 2 (F' := (5, [some (.ref 8), some (.int v), some (.int (i + (1 : Int32))), some (.int n)], [], HH x (ua σ 8 (upd (σ.2.2.1 8) i.toNatClampNeg v)))) rfl ?_
    exact mm_wk (by exact (And.intro rfl (And.intro rfl (And.intro rfl (And.intro rfl True.intro))))) (k3 h1)
theorem fill_8 {d : Nat} {x : Nat × (Nat → Int32)} {v : Int32} (σ : mm_S) : ∀ (k i : Nat), i + k = 60 → mm_Runs d 157 (5, [some (.ref 8), some (.int v), some (.int (nI i)), some (.int (nI 60))], [], HH x (ua σ 8 (fl i v (σ.2.2.1 8)))) (none, HH x (ua σ 8 (fl 60 v (σ.2.2.1 8))))
  | 0, i, h => by
    have e : i = 60 := by omega
    subst e
    exact vc_fillh_8 (fun _ => rfl) (fun z => absurd (nI_le (Nat.le_refl _) (by omega)) z) (fun z => absurd (nI_le (Nat.le_refl _) (by omega)) z)
  | k + 1, i, h => by
    have hlt : ¬ nI 60 ≤ nI i := nI_ge (by omega) (by omega)
    refine vc_fillh_8 (fun z => absurd z hlt) (fun _ => nI_in (by omega) (by omega)) (fun _ => ?_)
    have ih := fill_8 (d := d) (x := x) (v := v) σ k (i + 1) (by omega)
    rw [nI_clamp (show i < 2 ^ 31 by omega), ua_ua, show (ua σ 8 (fl i v (σ.2.2.1 8))).2.2.1 8 = fl i v (σ.2.2.1 8) from rfl, fl_s, show nI i + (1 : Int32) = nI (i + 1) from nI_1 i]
    exact ih
theorem r_fill_8 {d : Nat} {x : Nat × (Nat → Int32)} {σ : mm_S} {v : Int32} (hd : 0 ≤ d) : mm_Runs d 157 (0, [some (.ref 8), some (.int v), none, none], [], HH x σ) (none, HH x (ua σ 8 (fl 60 v (σ.2.2.1 8)))) := by
  refine vc_fill0_8 ?_
  have h := fill_8 (d := d) (x := x) (v := v) σ 60 0 (by omega)
  rw [fl_0, ua_self] at h
  exact h
theorem vc_fill0_9 {d : Nat} {x : Nat × (Nat → Int32)} {σ : mm_S} {v : Int32} {r : Option Value × mm_H} (k1 : mm_Runs d 157 (5, [some (.ref 9), some (.int v), some (.int (0 : Int32)), some (.int (Int32.ofNat 60))], [], HH x σ) r) : mm_Runs d 157 (0, [some (.ref 9), some (.int v), none, none], [], HH x σ) r := by
  refine mm_go 5 (F' := (5, [some (.ref 9), some (.int v), some (.int (0 : Int32)), some (.int (Int32.ofNat 60))], [], HH x σ)) rfl ?_
  exact mm_wk (by exact (And.intro rfl (And.intro rfl (And.intro rfl (And.intro rfl True.intro))))) k1
theorem vc_fillh_9 {d : Nat} {x : Nat × (Nat → Int32)} {σ : mm_S} {v i n : Int32} {r : Option Value × mm_H} (k1 : n ≤ i → (none, HH x σ) = r) (k2 : ¬ n ≤ i → ¬ (i < 0 ∨ 60 ≤ i.toNatClampNeg)) (k3 : ¬ n ≤ i → mm_Runs d 157 (5, [some (.ref 9), some (.int v), some (.int (i + (1 : Int32))), some (.int n)], [], HH x (ua σ 9 (upd (σ.2.2.1 9) i.toNatClampNeg v))) r) : mm_Runs d 157 (5, [some (.ref 9), some (.int v), some (.int i), some (.int n)], [], HH x σ) r := by
  refine mm_go 3 (F' := (bif mm_cond .ge i n then 20 else 10, [some (.ref 9), some (.int v), some (.int i), some (.int n)], [], HH x σ)) rfl ?_
  refine mb_ge (fun h1 => ?_) (fun h1 => ?_)
  · exact mm_rt rfl rfl (k1 h1)
  · refine mm_go 3 (F' := (13, [some (.ref 9), some (.int v), some (.int i), some (.int n)], [.int v, .int i, .ref 9], HH x σ)) rfl ?_
    refine mm_gd (F' := (14, [some (.ref 9), some (.int v), some (.int i), some (.int n)], [], HH x (ua σ 9 (upd (σ.2.2.1 9) i.toNatClampNeg v)))) rfl (k2 h1) ?_
    refine mm_go 2 (F' := (5, [some (.ref 9), some (.int v), some (.int (i + (1 : Int32))), some (.int n)], [], HH x (ua σ 9 (upd (σ.2.2.1 9) i.toNatClampNeg v)))) rfl ?_
    exact mm_wk (by exact (And.intro rfl (And.intro rfl (And.intro rfl (And.intro rfl True.intro))))) (k3 h1)
theorem fill_9 {d : Nat} {x : Nat × (Nat → Int32)} {v : Int32} (σ : mm_S) : ∀ (k i : Nat), i + k = 60 → mm_Runs d 157 (5, [some (.ref 9), some (.int v), some (.int (nI i)), some (.int (nI 60))], [], HH x (ua σ 9 (fl i v (σ.2.2.1 9)))) (none, HH x (ua σ 9 (fl 60 v (σ.2.2.1 9))))
  | 0, i, h => by
    have e : i = 60 := by omega
    subst e
    exact vc_fillh_9 (fun _ => rfl) (fun z => absurd (nI_le (Nat.le_refl _) (by omega)) z) (fun z => absurd (nI_le (Nat.le_refl _) (by omega)) z)
  | k + 1, i, h => by
    have hlt : ¬ nI 60 ≤ nI i := nI_ge (by omega) (by omega)
    refine vc_fillh_9 (fun z => absurd z hlt) (fun _ => nI_in (by omega) (by omega)) (fun _ => ?_)
    have ih := fill_9 (d := d) (x := x) (v := v) σ k (i + 1) (by omega)
    rw [nI_clamp (show i < 2 ^ 31 by omega), ua_ua, show (ua σ 9 (fl i v (σ.2.2.1 9))).2.2.1 9 = fl i v (σ.2.2.1 9) from rfl, fl_s, show nI i + (1 : Int32) = nI (i + 1) from nI_1 i]
    exact ih
theorem r_fill_9 {d : Nat} {x : Nat × (Nat → Int32)} {σ : mm_S} {v : Int32} (hd : 0 ≤ d) : mm_Runs d 157 (0, [some (.ref 9), some (.int v), none, none], [], HH x σ) (none, HH x (ua σ 9 (fl 60 v (σ.2.2.1 9)))) := by
  refine vc_fill0_9 ?_
  have h := fill_9 (d := d) (x := x) (v := v) σ 60 0 (by omega)
  rw [fl_0, ua_self] at h
  exact h
theorem vc_fill0_10 {d : Nat} {x : Nat × (Nat → Int32)} {σ : mm_S} {v : Int32} {r : Option Value × mm_H} (k1 : mm_Runs d 157 (5, [some (.ref 10), some (.int v), some (.int (0 : Int32)), some (.int (Int32.ofNat 60))], [], HH x σ) r) : mm_Runs d 157 (0, [some (.ref 10), some (.int v), none, none], [], HH x σ) r := by
  refine mm_go 5 (F' := (5, [some (.ref 10), some (.int v), some (.int (0 : Int32)), some (.int (Int32.ofNat 60))], [], HH x σ)) rfl ?_
  exact mm_wk (by exact (And.intro rfl (And.intro rfl (And.intro rfl (And.intro rfl True.intro))))) k1
theorem vc_fillh_10 {d : Nat} {x : Nat × (Nat → Int32)} {σ : mm_S} {v i n : Int32} {r : Option Value × mm_H} (k1 : n ≤ i → (none, HH x σ) = r) (k2 : ¬ n ≤ i → ¬ (i < 0 ∨ 60 ≤ i.toNatClampNeg)) (k3 : ¬ n ≤ i → mm_Runs d 157 (5, [some (.ref 10), some (.int v), some (.int (i + (1 : Int32))), some (.int n)], [], HH x (ua σ 10 (upd (σ.2.2.1 10) i.toNatClampNeg v))) r) : mm_Runs d 157 (5, [some (.ref 10), some (.int v), some (.int i), some (.int n)], [], HH x σ) r := by
  refine mm_go 3 (F' := (bif mm_cond .ge i n then 20 else 10, [some (.ref 10), some (.int v), some (.int i), some (.int n)], [], HH x σ)) rfl ?_
  refine mb_ge (fun h1 => ?_) (fun h1 => ?_)
  · exact mm_rt rfl rfl (k1 h1)
  · refine mm_go 3 (F' := (13, [some (.ref 10), some (.int v), some (.int i), some (.int n)], [.int v, .int i, .ref 10], HH x σ)) rfl ?_
    refine mm_gd (F' := (14, [some (.ref 10), some (.int v), some (.int i), some (.int n)], [], HH x (ua σ 10 (upd (σ.2.2.1 10) i.toNatClampNeg v)))) rfl (k2 h1) ?_
    refine mm_go 2 (F' := (5, [some (.ref 10), some (.int v), some (.int (i + (1 : Int32))), some (.int n)], [], HH x (ua σ 10 (upd (σ.2.2.1 10) i.toNatClampNeg v)))) rfl ?_
    exact mm_wk (by exact (And.intro rfl (And.intro rfl (And.intro rfl (And.intro rfl True.intro))))) (k3 h1)
theorem fill_10 {d : Nat} {x : Nat × (Nat → Int32)} {v : Int32} (σ : mm_S) : ∀ (k i : Nat), i + k = 60 → mm_Runs d 157 (5, [some (.ref 10), some (.int v), some (.int (nI i)), some (.int (nI 60))], [], HH x (ua σ 10 (fl i v (σ.2.2.1 10)))) (none, HH x (ua σ 10 (fl 60 v (σ.2.2.1 10))))
  | 0, i, h => by
    have e : i = 60 := by omega
    subst e
    exact vc_fillh_10 (fun _ => rfl) (fun z => absurd (nI_le (Nat.le_refl _) (by omega)) z) (fun z => absurd (nI_le (Nat.le_refl _) (by omega)) z)
  | k + 1, i, h => by
    have hlt : ¬ nI 60 ≤ nI i := nI_ge (by omega) (by omega)
    refine vc_fillh_10 (fun z => absurd z hlt) (fun _ => nI_in (by omega) (by omega)) (fun _ => ?_)
    have ih := fill_10 (d := d) (x := x) (v := v) σ k (i + 1) (by omega)
    rw [nI_clamp (show i < 2 ^ 31 by omega), ua_ua, show (ua σ 10 (fl i v (σ.2.2.1 10))).2.2.1 10 = fl i v (σ.2.2.1 10) from rfl, fl_s, show nI i + (1 : Int32) = nI (i + 1) from nI_1 i]
    exact ih
theorem r_fill_10 {d : Nat} {x : Nat × (Nat → Int32)} {σ : mm_S} {v : Int32} (hd : 0 ≤ d) : mm_Runs d 157 (0, [some (.ref 10), some (.int v), none, none], [], HH x σ) (none, HH x (ua σ 10 (fl 60 v (σ.2.2.1 10)))) := by
  refine vc_fill0_10 ?_
  have h := fill_10 (d := d) (x := x) (v := v) σ 60 0 (by omega)
  rw [fl_0, ua_self] at h
  exact h
theorem vc_fill0_11 {d : Nat} {x : Nat × (Nat → Int32)} {σ : mm_S} {v : Int32} {r : Option Value × mm_H} (k1 : mm_Runs d 157 (5, [some (.ref 11), some (.int v), some (.int (0 : Int32)), some (.int (Int32.ofNat 60))], [], HH x σ) r) : mm_Runs d 157 (0, [some (.ref 11), some (.int v), none, none], [], HH x σ) r := by
  refine mm_go 5 (F' := (5, [some (.ref 11), some (.int v), some (.int (0 : Int32)), some (.int (Int32.ofNat 60))], [], HH x σ)) rfl ?_
  exact mm_wk (by exact (And.intro rfl (And.intro rfl (And.intro rfl (And.intro rfl True.intro))))) k1
theorem vc_fillh_11 {d : Nat} {x : Nat × (Nat → Int32)} {σ : mm_S} {v i n : Int32} {r : Option Value × mm_H} (k1 : n ≤ i → (none, HH x σ) = r) (k2 : ¬ n ≤ i → ¬ (i < 0 ∨ 60 ≤ i.toNatClampNeg)) (k3 : ¬ n ≤ i → mm_Runs d 157 (5, [some (.ref 11), some (.int v), some (.int (i + (1 : Int32))), some (.int n)], [], HH x (ua σ 11 (upd (σ.2.2.1 11) i.toNatClampNeg v))) r) : mm_Runs d 157 (5, [some (.ref 11), some (.int v), some (.int i), some (.int n)], [], HH x σ) r := by
  refine mm_go 3 (F' := (bif mm_cond .ge i n then 20 else 10, [some (.ref 11), some (.int v), some (.int i), some (.int n)], [], HH x σ)) rfl ?_
  refine mb_ge (fun h1 => ?_) (fun h1 => ?_)
  · exact mm_rt rfl rfl (k1 h1)
  · refine mm_go 3 (F' := (13, [some (.ref 11), some (.int v), some (.int i), some (.int n)], [.int v, .int i, .ref 11], HH x σ)) rfl ?_
    refine mm_gd (F' := (14, [some (.ref 11), some (.int v), some (.int i), some (.int n)], [], HH x (ua σ 11 (upd (σ.2.2.1 11) i.toNatClampNeg v)))) rfl (k2 h1) ?_
    refine mm_go 2 (F' := (5, [some (.ref 11), some (.int v), some (.int (i + (1 : Int32))), some (.int n)], [], HH x (ua σ 11 (upd (σ.2.2.1 11) i.toNatClampNeg v)))) rfl ?_
    exact mm_wk (by exact (And.intro rfl (And.intro rfl (And.intro rfl (And.intro rfl True.intro))))) (k3 h1)
theorem fill_11 {d : Nat} {x : Nat × (Nat → Int32)} {v : Int32} (σ : mm_S) : ∀ (k i : Nat), i + k = 60 → mm_Runs d 157 (5, [some (.ref 11), some (.int v), some (.int (nI i)), some (.int (nI 60))], [], HH x (ua σ 11 (fl i v (σ.2.2.1 11)))) (none, HH x (ua σ 11 (fl 60 v (σ.2.2.1 11))))
  | 0, i, h => by
    have e : i = 60 := by omega
    subst e
    exact vc_fillh_11 (fun _ => rfl) (fun z => absurd (nI_le (Nat.le_refl _) (by omega)) z) (fun z => absurd (nI_le (Nat.le_refl _) (by omega)) z)
  | k + 1, i, h => by
    have hlt : ¬ nI 60 ≤ nI i := nI_ge (by omega) (by omega)
    refine vc_fillh_11 (fun z => absurd z hlt) (fun _ => nI_in (by omega) (by omega)) (fun _ => ?_)
    have ih := fill_11 (d := d) (x := x) (v := v) σ k (i + 1) (by omega)
    rw [nI_clamp (show i < 2 ^ 31 by omega), ua_ua, show (ua σ 11 (fl i v (σ.2.2.1 11))).2.2.1 11 = fl i v (σ.2.2.1 11) from rfl, fl_s, show nI i + (1 : Int32) = nI (i + 1) from nI_1 i]
    exact ih
theorem r_fill_11 {d : Nat} {x : Nat × (Nat → Int32)} {σ : mm_S} {v : Int32} (hd : 0 ≤ d) : mm_Runs d 157 (0, [some (.ref 11), some (.int v), none, none], [], HH x σ) (none, HH x (ua σ 11 (fl 60 v (σ.2.2.1 11)))) := by
  refine vc_fill0_11 ?_
  have h := fill_11 (d := d) (x := x) (v := v) σ 60 0 (by omega)
  rw [fl_0, ua_self] at h
  exact h
theorem vc_fill0_36 {d : Nat} {x : Nat × (Nat → Int32)} {σ : mm_S} {v : Int32} {r : Option Value × mm_H} (k1 : mm_Runs d 157 (5, [some (.ref 36), some (.int v), some (.int (0 : Int32)), some (.int (Int32.ofNat 6))], [], HH x σ) r) : mm_Runs d 157 (0, [some (.ref 36), some (.int v), none, none], [], HH x σ) r := by
  refine mm_go 5 (F' := (5, [some (.ref 36), some (.int v), some (.int (0 : Int32)), some (.int (Int32.ofNat 6))], [], HH x σ)) rfl ?_
  exact mm_wk (by exact (And.intro rfl (And.intro rfl (And.intro rfl (And.intro rfl True.intro))))) k1
theorem vc_fillh_36 {d : Nat} {x : Nat × (Nat → Int32)} {σ : mm_S} {v i n : Int32} {r : Option Value × mm_H} (k1 : n ≤ i → (none, HH x σ) = r) (k2 : ¬ n ≤ i → ¬ (i < 0 ∨ 6 ≤ i.toNatClampNeg)) (k3 : ¬ n ≤ i → mm_Runs d 157 (5, [some (.ref 36), some (.int v), some (.int (i + (1 : Int32))), some (.int n)], [], HH x (ua σ 36 (upd (σ.2.2.1 36) i.toNatClampNeg v))) r) : mm_Runs d 157 (5, [some (.ref 36), some (.int v), some (.int i), some (.int n)], [], HH x σ) r := by
  refine mm_go 3 (F' := (bif mm_cond .ge i n then 20 else 10, [some (.ref 36), some (.int v), some (.int i), some (.int n)], [], HH x σ)) rfl ?_
  refine mb_ge (fun h1 => ?_) (fun h1 => ?_)
  · exact mm_rt rfl rfl (k1 h1)
  · refine mm_go 3 (F' := (13, [some (.ref 36), some (.int v), some (.int i), some (.int n)], [.int v, .int i, .ref 36], HH x σ)) rfl ?_
    refine mm_gd (F' := (14, [some (.ref 36), some (.int v), some (.int i), some (.int n)], [], HH x (ua σ 36 (upd (σ.2.2.1 36) i.toNatClampNeg v)))) rfl (k2 h1) ?_
    refine mm_go 2 (F' := (5, [some (.ref 36), some (.int v), some (.int (i + (1 : Int32))), some (.int n)], [], HH x (ua σ 36 (upd (σ.2.2.1 36) i.toNatClampNeg v)))) rfl ?_
    exact mm_wk (by exact (And.intro rfl (And.intro rfl (And.intro rfl (And.intro rfl True.intro))))) (k3 h1)
theorem fill_36 {d : Nat} {x : Nat × (Nat → Int32)} {v : Int32} (σ : mm_S) : ∀ (k i : Nat), i + k = 6 → mm_Runs d 157 (5, [some (.ref 36), some (.int v), some (.int (nI i)), some (.int (nI 6))], [], HH x (ua σ 36 (fl i v (σ.2.2.1 36)))) (none, HH x (ua σ 36 (fl 6 v (σ.2.2.1 36))))
  | 0, i, h => by
    have e : i = 6 := by omega
    subst e
    exact vc_fillh_36 (fun _ => rfl) (fun z => absurd (nI_le (Nat.le_refl _) (by omega)) z) (fun z => absurd (nI_le (Nat.le_refl _) (by omega)) z)
  | k + 1, i, h => by
    have hlt : ¬ nI 6 ≤ nI i := nI_ge (by omega) (by omega)
    refine vc_fillh_36 (fun z => absurd z hlt) (fun _ => nI_in (by omega) (by omega)) (fun _ => ?_)
    have ih := fill_36 (d := d) (x := x) (v := v) σ k (i + 1) (by omega)
    rw [nI_clamp (show i < 2 ^ 31 by omega), ua_ua, show (ua σ 36 (fl i v (σ.2.2.1 36))).2.2.1 36 = fl i v (σ.2.2.1 36) from rfl, fl_s, show nI i + (1 : Int32) = nI (i + 1) from nI_1 i]
    exact ih
theorem r_fill_36 {d : Nat} {x : Nat × (Nat → Int32)} {σ : mm_S} {v : Int32} (hd : 0 ≤ d) : mm_Runs d 157 (0, [some (.ref 36), some (.int v), none, none], [], HH x σ) (none, HH x (ua σ 36 (fl 6 v (σ.2.2.1 36)))) := by
  refine vc_fill0_36 ?_
  have h := fill_36 (d := d) (x := x) (v := v) σ 6 0 (by omega)
  rw [fl_0, ua_self] at h
  exact h
theorem vc_fill0_32 {d : Nat} {x : Nat × (Nat → Int32)} {σ : mm_S} {v : Int64} {r : Option Value × mm_H} (k1 : mm_Runs d 156 (6, [some (.ref 32), some (.long v), none, some (.int (0 : Int32)), some (.int (Int32.ofNat 42))], [], HH x σ) r) : mm_Runs d 156 (0, [some (.ref 32), some (.long v), none, none, none], [], HH x σ) r := by
  refine mm_go 5 (F' := (6, [some (.ref 32), some (.long v), none, some (.int (0 : Int32)), some (.int (Int32.ofNat 42))], [], HH x σ)) rfl ?_
  exact mm_wk (by exact (And.intro rfl (And.intro rfl (And.intro rfl (And.intro rfl True.intro))))) k1
theorem vc_fillh_32 {d : Nat} {x : Nat × (Nat → Int32)} {σ : mm_S} {v : Int64} {i n : Int32} {r : Option Value × mm_H} (k1 : n ≤ i → (none, HH x σ) = r) (k2 : ¬ n ≤ i → ¬ (i < 0 ∨ 42 ≤ i.toNatClampNeg)) (k3 : ¬ n ≤ i → mm_Runs d 156 (6, [some (.ref 32), some (.long v), none, some (.int (i + (1 : Int32))), some (.int n)], [], HH x (ub σ 32 (vp_updL (σ.2.2.2 32) i.toNatClampNeg v))) r) : mm_Runs d 156 (6, [some (.ref 32), some (.long v), none, some (.int i), some (.int n)], [], HH x σ) r := by
  refine mm_go 3 (F' := (bif mm_cond .ge i n then 22 else 12, [some (.ref 32), some (.long v), none, some (.int i), some (.int n)], [], HH x σ)) rfl ?_
  refine mb_ge (fun h1 => ?_) (fun h1 => ?_)
  · exact mm_rt rfl rfl (k1 h1)
  · refine mm_go 3 (F' := (15, [some (.ref 32), some (.long v), none, some (.int i), some (.int n)], [.long v, .int i, .ref 32], HH x σ)) rfl ?_
    refine mm_gd (F' := (16, [some (.ref 32), some (.long v), none, some (.int i), some (.int n)], [], HH x (ub σ 32 (vp_updL (σ.2.2.2 32) i.toNatClampNeg v)))) rfl (k2 h1) ?_
    refine mm_go 2 (F' := (6, [some (.ref 32), some (.long v), none, some (.int (i + (1 : Int32))), some (.int n)], [], HH x (ub σ 32 (vp_updL (σ.2.2.2 32) i.toNatClampNeg v)))) rfl ?_
    exact mm_wk (by exact (And.intro rfl (And.intro rfl (And.intro rfl (And.intro rfl True.intro))))) (k3 h1)
theorem fill_32 {d : Nat} {x : Nat × (Nat → Int32)} {v : Int64} (σ : mm_S) : ∀ (k i : Nat), i + k = 42 → mm_Runs d 156 (6, [some (.ref 32), some (.long v), none, some (.int (nI i)), some (.int (nI 42))], [], HH x (ub σ 32 (fl i v (σ.2.2.2 32)))) (none, HH x (ub σ 32 (fl 42 v (σ.2.2.2 32))))
  | 0, i, h => by
    have e : i = 42 := by omega
    subst e
    exact vc_fillh_32 (fun _ => rfl) (fun z => absurd (nI_le (Nat.le_refl _) (by omega)) z) (fun z => absurd (nI_le (Nat.le_refl _) (by omega)) z)
  | k + 1, i, h => by
    have hlt : ¬ nI 42 ≤ nI i := nI_ge (by omega) (by omega)
    refine vc_fillh_32 (fun z => absurd z hlt) (fun _ => nI_in (by omega) (by omega)) (fun _ => ?_)
    have ih := fill_32 (d := d) (x := x) (v := v) σ k (i + 1) (by omega)
    rw [nI_clamp (show i < 2 ^ 31 by omega), ub_ub, show (ub σ 32 (fl i v (σ.2.2.2 32))).2.2.2 32 = fl i v (σ.2.2.2 32) from rfl, fl_sL, show nI i + (1 : Int32) = nI (i + 1) from nI_1 i]
    exact ih
theorem r_fill_32 {d : Nat} {x : Nat × (Nat → Int32)} {σ : mm_S} {v : Int64} (hd : 0 ≤ d) : mm_Runs d 156 (0, [some (.ref 32), some (.long v), none, none, none], [], HH x σ) (none, HH x (ub σ 32 (fl 42 v (σ.2.2.2 32)))) := by
  refine vc_fill0_32 ?_
  have h := fill_32 (d := d) (x := x) (v := v) σ 42 0 (by omega)
  rw [fl_0, ub_self] at h
  exact h
theorem vc_renew_4 {d : Nat} {x : Nat × (Nat → Int32)} {σ : mm_S} {t : Int32} {n : Int32} {r : Option Value × mm_H} (hd : 1 ≤ d) (k1 : (none, HH x (ua (ui (ui (ui σ 401 (1 : Int32)) 402 t) 403 n) 8 (fl 60 (0 : Int32) (σ.2.2.1 8)))) = r) : mm_Runs d 19 (0, [some (.ref 4), some (.int t), some (.int n)], [], HH x σ) r := by
  refine mm_go 2 (F' := (2, [some (.ref 4), some (.int t), some (.int n)], [.int (1 : Int32), .ref 4], HH x σ)) rfl ?_
  refine mm_gt (c := (1 : Int32) = 0 ∨ (1 : Int32) = 1) (F' := (5, [some (.ref 4), some (.int t), some (.int n)], [], HH x (ui σ 401 (1 : Int32)))) rfl (Or.inr rfl) ?_
  refine mm_go 2 (F' := (7, [some (.ref 4), some (.int t), some (.int n)], [.int t, .ref 4], HH x (ui σ 401 (1 : Int32)))) rfl ?_
  refine mm_go 1 (F' := (10, [some (.ref 4), some (.int t), some (.int n)], [], HH x (ui (ui σ 401 (1 : Int32)) 402 t))) rfl ?_
  refine mm_go 2 (F' := (12, [some (.ref 4), some (.int t), some (.int n)], [.int n, .ref 4], HH x (ui (ui σ 401 (1 : Int32)) 402 t))) rfl ?_
  refine mm_go 1 (F' := (15, [some (.ref 4), some (.int t), some (.int n)], [], HH x (ui (ui (ui σ 401 (1 : Int32)) 402 t) 403 n))) rfl ?_
  refine mm_go 3 (F' := (20, [some (.ref 4), some (.int t), some (.int n)], [.int (0 : Int32), .ref 8], HH x (ui (ui (ui σ 401 (1 : Int32)) 402 t) 403 n))) rfl ?_
  refine mm_kl (z := 157) (as := [.ref 8, .int (0 : Int32)]) (S' := []) (L2 := [some (.ref 8), some (.int (0 : Int32)), none, none]) (v := none) (h1 := HH x (ua (ui (ui (ui σ 401 (1 : Int32)) 402 t) 403 n) 8 (fl 60 (0 : Int32) (σ.2.2.1 8)))) rfl rfl rfl rfl rfl (by omega) (r_fill_8 (by omega)) ?_
  show mm_Runs d 19 (23, [some (.ref 4), some (.int t), some (.int n)], [], HH x (ua (ui (ui (ui σ 401 (1 : Int32)) 402 t) 403 n) 8 (fl 60 (0 : Int32) (σ.2.2.1 8)))) r
  exact mm_rt rfl rfl k1
def g_renew_4 (σ : mm_S) (t : Int32) (n : Int32) : mm_S := (ua (ui (ui (ui σ 401 (1 : Int32)) 402 t) 403 n) 8 (fl 60 (0 : Int32) (σ.2.2.1 8)))
theorem r_renew_4 {d : Nat} {x : Nat × (Nat → Int32)} {σ : mm_S} {t : Int32} {n : Int32} (hd : 1 ≤ d) : mm_Runs d 19 (0, [some (.ref 4), some (.int t), some (.int n)], [], HH x σ) (none, HH x (g_renew_4 σ t n)) := by
  refine vc_renew_4 (by omega) (by first | rfl | (simp [g_renew_4]; done) | (simp_all [g_renew_4]; done) | grind [g_renew_4])
theorem vc_renew_5 {d : Nat} {x : Nat × (Nat → Int32)} {σ : mm_S} {t : Int32} {n : Int32} {r : Option Value × mm_H} (hd : 1 ≤ d) (k1 : (none, HH x (ua (ui (ui (ui σ 501 (1 : Int32)) 502 t) 503 n) 9 (fl 60 (0 : Int32) (σ.2.2.1 9)))) = r) : mm_Runs d 19 (0, [some (.ref 5), some (.int t), some (.int n)], [], HH x σ) r := by
  refine mm_go 2 (F' := (2, [some (.ref 5), some (.int t), some (.int n)], [.int (1 : Int32), .ref 5], HH x σ)) rfl ?_
  refine mm_gt (c := (1 : Int32) = 0 ∨ (1 : Int32) = 1) (F' := (5, [some (.ref 5), some (.int t), some (.int n)], [], HH x (ui σ 501 (1 : Int32)))) rfl (Or.inr rfl) ?_
  refine mm_go 2 (F' := (7, [some (.ref 5), some (.int t), some (.int n)], [.int t, .ref 5], HH x (ui σ 501 (1 : Int32)))) rfl ?_
  refine mm_go 1 (F' := (10, [some (.ref 5), some (.int t), some (.int n)], [], HH x (ui (ui σ 501 (1 : Int32)) 502 t))) rfl ?_
  refine mm_go 2 (F' := (12, [some (.ref 5), some (.int t), some (.int n)], [.int n, .ref 5], HH x (ui (ui σ 501 (1 : Int32)) 502 t))) rfl ?_
  refine mm_go 1 (F' := (15, [some (.ref 5), some (.int t), some (.int n)], [], HH x (ui (ui (ui σ 501 (1 : Int32)) 502 t) 503 n))) rfl ?_
  refine mm_go 3 (F' := (20, [some (.ref 5), some (.int t), some (.int n)], [.int (0 : Int32), .ref 9], HH x (ui (ui (ui σ 501 (1 : Int32)) 502 t) 503 n))) rfl ?_
  refine mm_kl (z := 157) (as := [.ref 9, .int (0 : Int32)]) (S' := []) (L2 := [some (.ref 9), some (.int (0 : Int32)), none, none]) (v := none) (h1 := HH x (ua (ui (ui (ui σ 501 (1 : Int32)) 502 t) 503 n) 9 (fl 60 (0 : Int32) (σ.2.2.1 9)))) rfl rfl rfl rfl rfl (by omega) (r_fill_9 (by omega)) ?_
  show mm_Runs d 19 (23, [some (.ref 5), some (.int t), some (.int n)], [], HH x (ua (ui (ui (ui σ 501 (1 : Int32)) 502 t) 503 n) 9 (fl 60 (0 : Int32) (σ.2.2.1 9)))) r
  exact mm_rt rfl rfl k1
def g_renew_5 (σ : mm_S) (t : Int32) (n : Int32) : mm_S := (ua (ui (ui (ui σ 501 (1 : Int32)) 502 t) 503 n) 9 (fl 60 (0 : Int32) (σ.2.2.1 9)))
theorem r_renew_5 {d : Nat} {x : Nat × (Nat → Int32)} {σ : mm_S} {t : Int32} {n : Int32} (hd : 1 ≤ d) : mm_Runs d 19 (0, [some (.ref 5), some (.int t), some (.int n)], [], HH x σ) (none, HH x (g_renew_5 σ t n)) := by
  refine vc_renew_5 (by omega) (by first | rfl | (simp [g_renew_5]; done) | (simp_all [g_renew_5]; done) | grind [g_renew_5])
theorem vc_renew_6 {d : Nat} {x : Nat × (Nat → Int32)} {σ : mm_S} {t : Int32} {n : Int32} {r : Option Value × mm_H} (hd : 1 ≤ d) (k1 : (none, HH x (ua (ui (ui (ui σ 601 (1 : Int32)) 602 t) 603 n) 10 (fl 60 (0 : Int32) (σ.2.2.1 10)))) = r) : mm_Runs d 19 (0, [some (.ref 6), some (.int t), some (.int n)], [], HH x σ) r := by
  refine mm_go 2 (F' := (2, [some (.ref 6), some (.int t), some (.int n)], [.int (1 : Int32), .ref 6], HH x σ)) rfl ?_
  refine mm_gt (c := (1 : Int32) = 0 ∨ (1 : Int32) = 1) (F' := (5, [some (.ref 6), some (.int t), some (.int n)], [], HH x (ui σ 601 (1 : Int32)))) rfl (Or.inr rfl) ?_
  refine mm_go 2 (F' := (7, [some (.ref 6), some (.int t), some (.int n)], [.int t, .ref 6], HH x (ui σ 601 (1 : Int32)))) rfl ?_
  refine mm_go 1 (F' := (10, [some (.ref 6), some (.int t), some (.int n)], [], HH x (ui (ui σ 601 (1 : Int32)) 602 t))) rfl ?_
  refine mm_go 2 (F' := (12, [some (.ref 6), some (.int t), some (.int n)], [.int n, .ref 6], HH x (ui (ui σ 601 (1 : Int32)) 602 t))) rfl ?_
  refine mm_go 1 (F' := (15, [some (.ref 6), some (.int t), some (.int n)], [], HH x (ui (ui (ui σ 601 (1 : Int32)) 602 t) 603 n))) rfl ?_
  refine mm_go 3 (F' := (20, [some (.ref 6), some (.int t), some (.int n)], [.int (0 : Int32), .ref 10], HH x (ui (ui (ui σ 601 (1 : Int32)) 602 t) 603 n))) rfl ?_
  refine mm_kl (z := 157) (as := [.ref 10, .int (0 : Int32)]) (S' := []) (L2 := [some (.ref 10), some (.int (0 : Int32)), none, none]) (v := none) (h1 := HH x (ua (ui (ui (ui σ 601 (1 : Int32)) 602 t) 603 n) 10 (fl 60 (0 : Int32) (σ.2.2.1 10)))) rfl rfl rfl rfl rfl (by omega) (r_fill_10 (by omega)) ?_
  show mm_Runs d 19 (23, [some (.ref 6), some (.int t), some (.int n)], [], HH x (ua (ui (ui (ui σ 601 (1 : Int32)) 602 t) 603 n) 10 (fl 60 (0 : Int32) (σ.2.2.1 10)))) r
  exact mm_rt rfl rfl k1
def g_renew_6 (σ : mm_S) (t : Int32) (n : Int32) : mm_S := (ua (ui (ui (ui σ 601 (1 : Int32)) 602 t) 603 n) 10 (fl 60 (0 : Int32) (σ.2.2.1 10)))
theorem r_renew_6 {d : Nat} {x : Nat × (Nat → Int32)} {σ : mm_S} {t : Int32} {n : Int32} (hd : 1 ≤ d) : mm_Runs d 19 (0, [some (.ref 6), some (.int t), some (.int n)], [], HH x σ) (none, HH x (g_renew_6 σ t n)) := by
  refine vc_renew_6 (by omega) (by first | rfl | (simp [g_renew_6]; done) | (simp_all [g_renew_6]; done) | grind [g_renew_6])
theorem vc_renew_7 {d : Nat} {x : Nat × (Nat → Int32)} {σ : mm_S} {t : Int32} {n : Int32} {r : Option Value × mm_H} (hd : 1 ≤ d) (k1 : (none, HH x (ua (ui (ui (ui σ 701 (1 : Int32)) 702 t) 703 n) 11 (fl 60 (0 : Int32) (σ.2.2.1 11)))) = r) : mm_Runs d 19 (0, [some (.ref 7), some (.int t), some (.int n)], [], HH x σ) r := by
  refine mm_go 2 (F' := (2, [some (.ref 7), some (.int t), some (.int n)], [.int (1 : Int32), .ref 7], HH x σ)) rfl ?_
  refine mm_gt (c := (1 : Int32) = 0 ∨ (1 : Int32) = 1) (F' := (5, [some (.ref 7), some (.int t), some (.int n)], [], HH x (ui σ 701 (1 : Int32)))) rfl (Or.inr rfl) ?_
  refine mm_go 2 (F' := (7, [some (.ref 7), some (.int t), some (.int n)], [.int t, .ref 7], HH x (ui σ 701 (1 : Int32)))) rfl ?_
  refine mm_go 1 (F' := (10, [some (.ref 7), some (.int t), some (.int n)], [], HH x (ui (ui σ 701 (1 : Int32)) 702 t))) rfl ?_
  refine mm_go 2 (F' := (12, [some (.ref 7), some (.int t), some (.int n)], [.int n, .ref 7], HH x (ui (ui σ 701 (1 : Int32)) 702 t))) rfl ?_
  refine mm_go 1 (F' := (15, [some (.ref 7), some (.int t), some (.int n)], [], HH x (ui (ui (ui σ 701 (1 : Int32)) 702 t) 703 n))) rfl ?_
  refine mm_go 3 (F' := (20, [some (.ref 7), some (.int t), some (.int n)], [.int (0 : Int32), .ref 11], HH x (ui (ui (ui σ 701 (1 : Int32)) 702 t) 703 n))) rfl ?_
  refine mm_kl (z := 157) (as := [.ref 11, .int (0 : Int32)]) (S' := []) (L2 := [some (.ref 11), some (.int (0 : Int32)), none, none]) (v := none) (h1 := HH x (ua (ui (ui (ui σ 701 (1 : Int32)) 702 t) 703 n) 11 (fl 60 (0 : Int32) (σ.2.2.1 11)))) rfl rfl rfl rfl rfl (by omega) (r_fill_11 (by omega)) ?_
  show mm_Runs d 19 (23, [some (.ref 7), some (.int t), some (.int n)], [], HH x (ua (ui (ui (ui σ 701 (1 : Int32)) 702 t) 703 n) 11 (fl 60 (0 : Int32) (σ.2.2.1 11)))) r
  exact mm_rt rfl rfl k1
def g_renew_7 (σ : mm_S) (t : Int32) (n : Int32) : mm_S := (ua (ui (ui (ui σ 701 (1 : Int32)) 702 t) 703 n) 11 (fl 60 (0 : Int32) (σ.2.2.1 11)))
theorem r_renew_7 {d : Nat} {x : Nat × (Nat → Int32)} {σ : mm_S} {t : Int32} {n : Int32} (hd : 1 ≤ d) : mm_Runs d 19 (0, [some (.ref 7), some (.int t), some (.int n)], [], HH x σ) (none, HH x (g_renew_7 σ t n)) := by
  refine vc_renew_7 (by omega) (by first | rfl | (simp [g_renew_7]; done) | (simp_all [g_renew_7]; done) | grind [g_renew_7])
theorem vc_sheet {d : Nat} {x : Nat × (Nat → Int32)} {σ : mm_S} {k : Int32} {t : Int32} {n : Int32} {r : Option Value × mm_H} (hd : 2 ≤ d) (k1 : (p_isSheet (ui σ 210 (0 : Int32)) k) → ¬ (p_isSort (ui σ 210 (0 : Int32)) t) → (some (.int (-2 : Int32)), HH x (ui σ 210 (0 : Int32))) = r) (k2 : (p_isSheet (ui σ 210 (0 : Int32)) k) → (p_isSort (ui σ 210 (0 : Int32)) t) → n ≤ (60 : Int32) → 0 ≤ n → ¬ (k < 0 ∨ 4 ≤ k.toNatClampNeg)) (k3 : (p_isSheet (ui σ 210 (0 : Int32)) k) → (p_isSort (ui σ 210 (0 : Int32)) t) → n ≤ (60 : Int32) → 0 ≤ n → k = (0 : Int32) → (some (.int (1 : Int32)), HH x (g_renew_4 (ui σ 210 (0 : Int32)) t n)) = r) (k4 : (p_isSheet (ui σ 210 (0 : Int32)) k) → (p_isSort (ui σ 210 (0 : Int32)) t) → n ≤ (60 : Int32) → 0 ≤ n → k = (1 : Int32) → (some (.int (1 : Int32)), HH x (g_renew_5 (ui σ 210 (0 : Int32)) t n)) = r) (k5 : (p_isSheet (ui σ 210 (0 : Int32)) k) → (p_isSort (ui σ 210 (0 : Int32)) t) → n ≤ (60 : Int32) → 0 ≤ n → k = (2 : Int32) → (some (.int (1 : Int32)), HH x (g_renew_6 (ui σ 210 (0 : Int32)) t n)) = r) (k6 : (p_isSheet (ui σ 210 (0 : Int32)) k) → (p_isSort (ui σ 210 (0 : Int32)) t) → n ≤ (60 : Int32) → 0 ≤ n → k = (3 : Int32) → (some (.int (1 : Int32)), HH x (g_renew_7 (ui σ 210 (0 : Int32)) t n)) = r) (k7 : (p_isSheet (ui σ 210 (0 : Int32)) k) → (p_isSort (ui σ 210 (0 : Int32)) t) → n ≤ (60 : Int32) → ¬ 0 ≤ n → (some (.int (f_faulty (ui σ 210 (0 : Int32)) (4 : Int32))), HH x (g_faulty (ui σ 210 (0 : Int32)) (4 : Int32))) = r) (k8 : (p_isSheet (ui σ 210 (0 : Int32)) k) → (p_isSort (ui σ 210 (0 : Int32)) t) → ¬ n ≤ (60 : Int32) → (some (.int (-2 : Int32)), HH x (ui σ 210 (0 : Int32))) = r) (k9 : ¬ (p_isSheet (ui σ 210 (0 : Int32)) k) → (some (.int (-1 : Int32)), HH x (ui σ 210 (0 : Int32))) = r) : mm_Runs d 59 (0, [some (.ref 2), some (.int k), some (.int t), some (.int n)], [], HH x σ) r := by
  refine mm_go 2 (F' := (2, [some (.ref 2), some (.int k), some (.int t), some (.int n)], [.int (0 : Int32), .ref 2], HH x σ)) rfl ?_
  refine mm_go 1 (F' := (5, [some (.ref 2), some (.int k), some (.int t), some (.int n)], [], HH x (ui σ 210 (0 : Int32)))) rfl ?_
  refine mm_go 1 (F' := (6, [some (.ref 2), some (.int k), some (.int t), some (.int n)], [.int k], HH x (ui σ 210 (0 : Int32)))) rfl ?_
  refine mm_kl (z := 71) (as := [.int k]) (S' := []) (L2 := [some (.int k)]) (v := some (.int (mm_b (p_isSheet (ui σ 210 (0 : Int32)) k)))) (h1 := HH x (ui σ 210 (0 : Int32))) rfl rfl rfl rfl rfl (by omega) (r_isSheet (by omega)) ?_
  show mm_Runs d 59 (9, [some (.ref 2), some (.int k), some (.int t), some (.int n)], [.int (mm_b (p_isSheet (ui σ 210 (0 : Int32)) k))], HH x (ui σ 210 (0 : Int32))) r
  refine mm_go 1 (F' := (bif mm_cond .ne (mm_b (p_isSheet (ui σ 210 (0 : Int32)) k)) 0 then 14 else 12, [some (.ref 2), some (.int k), some (.int t), some (.int n)], [], HH x (ui σ 210 (0 : Int32)))) rfl ?_
  refine mb_bne (fun h1 => ?_) (fun h1 => ?_)
  · refine mm_go 1 (F' := (15, [some (.ref 2), some (.int k), some (.int t), some (.int n)], [.int t], HH x (ui σ 210 (0 : Int32)))) rfl ?_
    refine mm_kl (z := 72) (as := [.int t]) (S' := []) (L2 := [some (.int t)]) (v := some (.int (mm_b (p_isSort (ui σ 210 (0 : Int32)) t)))) (h1 := HH x (ui σ 210 (0 : Int32))) rfl rfl rfl rfl rfl (by omega) (r_isSort (by omega)) ?_
    show mm_Runs d 59 (18, [some (.ref 2), some (.int k), some (.int t), some (.int n)], [.int (mm_b (p_isSort (ui σ 210 (0 : Int32)) t))], HH x (ui σ 210 (0 : Int32))) r
    refine mm_go 1 (F' := (bif mm_cond .eq (mm_b (p_isSort (ui σ 210 (0 : Int32)) t)) 0 then 27 else 21, [some (.ref 2), some (.int k), some (.int t), some (.int n)], [], HH x (ui σ 210 (0 : Int32)))) rfl ?_
    refine mb_beq (fun h2 => ?_) (fun h2 => ?_)
    · refine mm_go 1 (F' := (29, [some (.ref 2), some (.int k), some (.int t), some (.int n)], [.int (-2 : Int32)], HH x (ui σ 210 (0 : Int32)))) rfl ?_
      exact mm_rt rfl rfl (k1 h1 h2)
    · refine mm_go 3 (F' := (bif mm_cond .le n (60 : Int32) then 30 else 27, [some (.ref 2), some (.int k), some (.int t), some (.int n)], [], HH x (ui σ 210 (0 : Int32)))) rfl ?_
      refine mb_le (fun h3 => ?_) (fun h3 => ?_)
      · refine mm_go 2 (F' := (bif mm_cond .ge n 0 then 40 else 34, [some (.ref 2), some (.int k), some (.int t), some (.int n)], [], HH x (ui σ 210 (0 : Int32)))) rfl ?_
        refine mb_ge (fun h4 => ?_) (fun h4 => ?_)
        · refine mm_go 3 (F' := (45, [some (.ref 2), some (.int k), some (.int t), some (.int n)], [.int k, .ref 3], HH x (ui σ 210 (0 : Int32)))) rfl ?_
          rcases mm_in4 (k2 h1 h2 h3 h4) with h5 | h5 | h5 | h5
          · refine mm_tsA h5 (F' := (46, [some (.ref 2), some (.int k), some (.int t), some (.int n)], [.ref 4], HH x (ui σ 210 (0 : Int32)))) rfl ?_
            refine mm_go 2 (F' := (48, [some (.ref 2), some (.int k), some (.int t), some (.int n)], [.int n, .int t, .ref 4], HH x (ui σ 210 (0 : Int32)))) rfl ?_
            refine mm_kl (z := 19) (as := [.ref 4, .int t, .int n]) (S' := []) (L2 := [some (.ref 4), some (.int t), some (.int n)]) (v := none) (h1 := HH x (g_renew_4 (ui σ 210 (0 : Int32)) t n)) rfl rfl rfl rfl rfl (by omega) (r_renew_4 (by omega)) ?_
            show mm_Runs d 59 (51, [some (.ref 2), some (.int k), some (.int t), some (.int n)], [], HH x (g_renew_4 (ui σ 210 (0 : Int32)) t n)) r
            refine mm_go 1 (F' := (52, [some (.ref 2), some (.int k), some (.int t), some (.int n)], [.int (1 : Int32)], HH x (g_renew_4 (ui σ 210 (0 : Int32)) t n))) rfl ?_
            exact mm_rt rfl rfl (k3 h1 h2 h3 h4 h5)
          · refine mm_tsA h5 (F' := (46, [some (.ref 2), some (.int k), some (.int t), some (.int n)], [.ref 5], HH x (ui σ 210 (0 : Int32)))) rfl ?_
            refine mm_go 2 (F' := (48, [some (.ref 2), some (.int k), some (.int t), some (.int n)], [.int n, .int t, .ref 5], HH x (ui σ 210 (0 : Int32)))) rfl ?_
            refine mm_kl (z := 19) (as := [.ref 5, .int t, .int n]) (S' := []) (L2 := [some (.ref 5), some (.int t), some (.int n)]) (v := none) (h1 := HH x (g_renew_5 (ui σ 210 (0 : Int32)) t n)) rfl rfl rfl rfl rfl (by omega) (r_renew_5 (by omega)) ?_
            show mm_Runs d 59 (51, [some (.ref 2), some (.int k), some (.int t), some (.int n)], [], HH x (g_renew_5 (ui σ 210 (0 : Int32)) t n)) r
            refine mm_go 1 (F' := (52, [some (.ref 2), some (.int k), some (.int t), some (.int n)], [.int (1 : Int32)], HH x (g_renew_5 (ui σ 210 (0 : Int32)) t n))) rfl ?_
            exact mm_rt rfl rfl (k4 h1 h2 h3 h4 h5)
          · refine mm_tsA h5 (F' := (46, [some (.ref 2), some (.int k), some (.int t), some (.int n)], [.ref 6], HH x (ui σ 210 (0 : Int32)))) rfl ?_
            refine mm_go 2 (F' := (48, [some (.ref 2), some (.int k), some (.int t), some (.int n)], [.int n, .int t, .ref 6], HH x (ui σ 210 (0 : Int32)))) rfl ?_
            refine mm_kl (z := 19) (as := [.ref 6, .int t, .int n]) (S' := []) (L2 := [some (.ref 6), some (.int t), some (.int n)]) (v := none) (h1 := HH x (g_renew_6 (ui σ 210 (0 : Int32)) t n)) rfl rfl rfl rfl rfl (by omega) (r_renew_6 (by omega)) ?_
            show mm_Runs d 59 (51, [some (.ref 2), some (.int k), some (.int t), some (.int n)], [], HH x (g_renew_6 (ui σ 210 (0 : Int32)) t n)) r
            refine mm_go 1 (F' := (52, [some (.ref 2), some (.int k), some (.int t), some (.int n)], [.int (1 : Int32)], HH x (g_renew_6 (ui σ 210 (0 : Int32)) t n))) rfl ?_
            exact mm_rt rfl rfl (k5 h1 h2 h3 h4 h5)
          · refine mm_tsA h5 (F' := (46, [some (.ref 2), some (.int k), some (.int t), some (.int n)], [.ref 7], HH x (ui σ 210 (0 : Int32)))) rfl ?_
            refine mm_go 2 (F' := (48, [some (.ref 2), some (.int k), some (.int t), some (.int n)], [.int n, .int t, .ref 7], HH x (ui σ 210 (0 : Int32)))) rfl ?_
            refine mm_kl (z := 19) (as := [.ref 7, .int t, .int n]) (S' := []) (L2 := [some (.ref 7), some (.int t), some (.int n)]) (v := none) (h1 := HH x (g_renew_7 (ui σ 210 (0 : Int32)) t n)) rfl rfl rfl rfl rfl (by omega) (r_renew_7 (by omega)) ?_
            show mm_Runs d 59 (51, [some (.ref 2), some (.int k), some (.int t), some (.int n)], [], HH x (g_renew_7 (ui σ 210 (0 : Int32)) t n)) r
            refine mm_go 1 (F' := (52, [some (.ref 2), some (.int k), some (.int t), some (.int n)], [.int (1 : Int32)], HH x (g_renew_7 (ui σ 210 (0 : Int32)) t n))) rfl ?_
            exact mm_rt rfl rfl (k6 h1 h2 h3 h4 h5)
        · refine mm_go 2 (F' := (36, [some (.ref 2), some (.int k), some (.int t), some (.int n)], [.int (4 : Int32), .ref 2], HH x (ui σ 210 (0 : Int32)))) rfl ?_
          refine mm_kl (z := 70) (as := [.ref 2, .int (4 : Int32)]) (S' := []) (L2 := [some (.ref 2), some (.int (4 : Int32))]) (v := some (.int (f_faulty (ui σ 210 (0 : Int32)) (4 : Int32)))) (h1 := HH x (g_faulty (ui σ 210 (0 : Int32)) (4 : Int32))) rfl rfl rfl rfl rfl (by omega) (r_faulty (by omega)) ?_
          show mm_Runs d 59 (39, [some (.ref 2), some (.int k), some (.int t), some (.int n)], [.int (f_faulty (ui σ 210 (0 : Int32)) (4 : Int32))], HH x (g_faulty (ui σ 210 (0 : Int32)) (4 : Int32))) r
          exact mm_rt rfl rfl (k7 h1 h2 h3 h4)
      · refine mm_go 1 (F' := (29, [some (.ref 2), some (.int k), some (.int t), some (.int n)], [.int (-2 : Int32)], HH x (ui σ 210 (0 : Int32)))) rfl ?_
        exact mm_rt rfl rfl (k8 h1 h2 h3)
  · refine mm_go 1 (F' := (13, [some (.ref 2), some (.int k), some (.int t), some (.int n)], [.int (-1 : Int32)], HH x (ui σ 210 (0 : Int32)))) rfl ?_
    exact mm_rt rfl rfl (k9 h1)
def f_sheet (σ : mm_S) (k : Int32) (t : Int32) (n : Int32) : Int32 := (if (p_isSheet (ui σ 210 (0 : Int32)) k) then (if (p_isSort (ui σ 210 (0 : Int32)) t) then (if n ≤ (60 : Int32) then (if 0 ≤ n then (1 : Int32) else (f_faulty (ui σ 210 (0 : Int32)) (4 : Int32))) else (-2 : Int32)) else (-2 : Int32)) else (-1 : Int32))
def g_sheet (σ : mm_S) (k : Int32) (t : Int32) (n : Int32) : mm_S := (if (p_isSheet (ui σ 210 (0 : Int32)) k) then (if (p_isSort (ui σ 210 (0 : Int32)) t) then (if n ≤ (60 : Int32) then (if 0 ≤ n then (if k = (0 : Int32) then (g_renew_4 (ui σ 210 (0 : Int32)) t n) else (if k = (1 : Int32) then (g_renew_5 (ui σ 210 (0 : Int32)) t n) else (if k = (2 : Int32) then (g_renew_6 (ui σ 210 (0 : Int32)) t n) else (g_renew_7 (ui σ 210 (0 : Int32)) t n)))) else (g_faulty (ui σ 210 (0 : Int32)) (4 : Int32))) else (ui σ 210 (0 : Int32))) else (ui σ 210 (0 : Int32))) else (ui σ 210 (0 : Int32)))
theorem r_sheet {d : Nat} {x : Nat × (Nat → Int32)} {σ : mm_S} {k : Int32} {t : Int32} {n : Int32} (hd : 2 ≤ d) (p0 : (p_isSheet (ui σ 210 (0 : Int32)) k) → (p_isSort (ui σ 210 (0 : Int32)) t) → n ≤ (60 : Int32) → 0 ≤ n → ¬ (k < 0 ∨ 4 ≤ k.toNatClampNeg)) : mm_Runs d 59 (0, [some (.ref 2), some (.int k), some (.int t), some (.int n)], [], HH x σ) (some (.int (f_sheet σ k t n)), HH x (g_sheet σ k t n)) := by
  refine vc_sheet (by omega) (fun h1 h2 => by first | rfl | (simp [f_sheet, g_sheet, h1, h2]; done) | (simp_all [f_sheet, g_sheet]; done) | grind [f_sheet, g_sheet]) p0 (fun h1 h2 h3 h4 h5 => by first | rfl | (simp [f_sheet, g_sheet, h1, h2, h3, h4, h5]; done) | (simp_all [f_sheet, g_sheet]; done) | grind [f_sheet, g_sheet]) (fun h1 h2 h3 h4 h5 => by first | rfl | (simp [f_sheet, g_sheet, h1, h2, h3, h4, h5]; done) | (simp_all [f_sheet, g_sheet]; done) | grind [f_sheet, g_sheet]) (fun h1 h2 h3 h4 h5 => by first | rfl | (simp [f_sheet, g_sheet, h1, h2, h3, h4, h5]; done) | (simp_all [f_sheet, g_sheet]; done) | grind [f_sheet, g_sheet]) (fun h1 h2 h3 h4 h5 => by first | rfl | (simp [f_sheet, g_sheet, h1, h2, h3, h4, h5]; done) | (simp_all [f_sheet, g_sheet]; done) | grind [f_sheet, g_sheet]) (fun h1 h2 h3 h4 => by first | rfl | (simp [f_sheet, g_sheet, h1, h2, h3, h4]; done) | (simp_all [f_sheet, g_sheet]; done) | grind [f_sheet, g_sheet]) (fun h1 h2 h3 => by first | rfl | (simp [f_sheet, g_sheet, h1, h2, h3]; done) | (simp_all [f_sheet, g_sheet]; done) | grind [f_sheet, g_sheet]) (fun h1 => by first | rfl | (simp [f_sheet, g_sheet, h1]; done) | (simp_all [f_sheet, g_sheet]; done) | grind [f_sheet, g_sheet])
theorem vc_m_sheet {d : Nat} {x : Nat × (Nat → Int32)} {σ : mm_S} {k t n : Int32} {r : Option Value × mm_H} (hd : 2 ≤ d) (k1 : (p_m_isSheet (ui σ 3700 (0 : Int32)) k) → ¬ (p_m_isSort (ui σ 3700 (0 : Int32)) t) → (some (.int (-2 : Int32)), HH x (ui σ 3700 (0 : Int32))) = r) (k2 : (p_m_isSheet (ui σ 3700 (0 : Int32)) k) → (p_m_isSort (ui σ 3700 (0 : Int32)) t) → n ≤ (60 : Int32) → 0 ≤ n → ¬ (k < 0 ∨ 4 ≤ k.toNatClampNeg)) (k3 : (p_m_isSheet (ui σ 3700 (0 : Int32)) k) → (p_m_isSort (ui σ 3700 (0 : Int32)) t) → n ≤ (60 : Int32) → 0 ≤ n → ¬ (k < 0 ∨ 4 ≤ k.toNatClampNeg)) (k4 : (p_m_isSheet (ui σ 3700 (0 : Int32)) k) → (p_m_isSort (ui σ 3700 (0 : Int32)) t) → n ≤ (60 : Int32) → 0 ≤ n → mm_Runs d 142 (57, [some (.ref 37), some (.int k), none, none, some (.int (0 : Int32))], [], HH x (ua (ua (ui σ 3700 (0 : Int32)) 38 (upd (σ.2.2.1 38) k.toNatClampNeg t)) 39 (upd (σ.2.2.1 39) k.toNatClampNeg n))) r) (k5 : (p_m_isSheet (ui σ 3700 (0 : Int32)) k) → (p_m_isSort (ui σ 3700 (0 : Int32)) t) → n ≤ (60 : Int32) → ¬ 0 ≤ n → (some (.int (f_m_fails (ui σ 3700 (0 : Int32)) (4 : Int32))), HH x (g_m_fails (ui σ 3700 (0 : Int32)) (4 : Int32))) = r) (k6 : (p_m_isSheet (ui σ 3700 (0 : Int32)) k) → (p_m_isSort (ui σ 3700 (0 : Int32)) t) → ¬ n ≤ (60 : Int32) → (some (.int (-2 : Int32)), HH x (ui σ 3700 (0 : Int32))) = r) (k7 : ¬ (p_m_isSheet (ui σ 3700 (0 : Int32)) k) → (some (.int (-1 : Int32)), HH x (ui σ 3700 (0 : Int32))) = r) : mm_Runs d 142 (0, [some (.ref 37), some (.int k), some (.int t), some (.int n), none], [], HH x σ) r := by
  refine mm_go 2 (F' := (2, [some (.ref 37), some (.int k), some (.int t), some (.int n), none], [.int (0 : Int32), .ref 37], HH x σ)) rfl ?_
  refine mm_go 1 (F' := (5, [some (.ref 37), some (.int k), some (.int t), some (.int n), none], [], HH x (ui σ 3700 (0 : Int32)))) rfl ?_
  refine mm_go 1 (F' := (6, [some (.ref 37), some (.int k), some (.int t), some (.int n), none], [.int k], HH x (ui σ 3700 (0 : Int32)))) rfl ?_
  refine mm_kl (z := 91) (as := [.int k]) (S' := []) (L2 := [some (.int k)]) (v := some (.int (mm_b (p_m_isSheet (ui σ 3700 (0 : Int32)) k)))) (h1 := HH x (ui σ 3700 (0 : Int32))) rfl rfl rfl rfl rfl (by omega) (r_m_isSheet (by omega)) ?_
  show mm_Runs d 142 (9, [some (.ref 37), some (.int k), some (.int t), some (.int n), none], [.int (mm_b (p_m_isSheet (ui σ 3700 (0 : Int32)) k))], HH x (ui σ 3700 (0 : Int32))) r
  refine mm_go 1 (F' := (bif mm_cond .ne (mm_b (p_m_isSheet (ui σ 3700 (0 : Int32)) k)) 0 then 14 else 12, [some (.ref 37), some (.int k), some (.int t), some (.int n), none], [], HH x (ui σ 3700 (0 : Int32)))) rfl ?_
  refine mb_bne (fun h1 => ?_) (fun h1 => ?_)
  · refine mm_go 1 (F' := (15, [some (.ref 37), some (.int k), some (.int t), some (.int n), none], [.int t], HH x (ui σ 3700 (0 : Int32)))) rfl ?_
    refine mm_kl (z := 92) (as := [.int t]) (S' := []) (L2 := [some (.int t)]) (v := some (.int (mm_b (p_m_isSort (ui σ 3700 (0 : Int32)) t)))) (h1 := HH x (ui σ 3700 (0 : Int32))) rfl rfl rfl rfl rfl (by omega) (r_m_isSort (by omega)) ?_
    show mm_Runs d 142 (18, [some (.ref 37), some (.int k), some (.int t), some (.int n), none], [.int (mm_b (p_m_isSort (ui σ 3700 (0 : Int32)) t))], HH x (ui σ 3700 (0 : Int32))) r
    refine mm_go 1 (F' := (bif mm_cond .eq (mm_b (p_m_isSort (ui σ 3700 (0 : Int32)) t)) 0 then 27 else 21, [some (.ref 37), some (.int k), some (.int t), some (.int n), none], [], HH x (ui σ 3700 (0 : Int32)))) rfl ?_
    refine mb_beq (fun h2 => ?_) (fun h2 => ?_)
    · refine mm_go 1 (F' := (29, [some (.ref 37), some (.int k), some (.int t), some (.int n), none], [.int (-2 : Int32)], HH x (ui σ 3700 (0 : Int32)))) rfl ?_
      exact mm_rt rfl rfl (k1 h1 h2)
    · refine mm_go 3 (F' := (bif mm_cond .le n (60 : Int32) then 30 else 27, [some (.ref 37), some (.int k), some (.int t), some (.int n), none], [], HH x (ui σ 3700 (0 : Int32)))) rfl ?_
      refine mb_le (fun h3 => ?_) (fun h3 => ?_)
      · refine mm_go 2 (F' := (bif mm_cond .ge n 0 then 40 else 34, [some (.ref 37), some (.int k), some (.int t), some (.int n), none], [], HH x (ui σ 3700 (0 : Int32)))) rfl ?_
        refine mb_ge (fun h4 => ?_) (fun h4 => ?_)
        · refine mm_go 4 (F' := (46, [some (.ref 37), some (.int k), some (.int t), some (.int n), none], [.int t, .int k, .ref 38], HH x (ui σ 3700 (0 : Int32)))) rfl ?_
          refine mm_gd (F' := (47, [some (.ref 37), some (.int k), some (.int t), some (.int n), none], [], HH x (ua (ui σ 3700 (0 : Int32)) 38 (upd (σ.2.2.1 38) k.toNatClampNeg t)))) rfl (k2 h1 h2 h3 h4) ?_
          refine mm_go 4 (F' := (53, [some (.ref 37), some (.int k), some (.int t), some (.int n), none], [.int n, .int k, .ref 39], HH x (ua (ui σ 3700 (0 : Int32)) 38 (upd (σ.2.2.1 38) k.toNatClampNeg t)))) rfl ?_
          refine mm_gd (F' := (54, [some (.ref 37), some (.int k), some (.int t), some (.int n), none], [], HH x (ua (ua (ui σ 3700 (0 : Int32)) 38 (upd (σ.2.2.1 38) k.toNatClampNeg t)) 39 (upd (σ.2.2.1 39) k.toNatClampNeg n)))) rfl (k3 h1 h2 h3 h4) ?_
          refine mm_go 2 (F' := (57, [some (.ref 37), some (.int k), some (.int t), some (.int n), some (.int (0 : Int32))], [], HH x (ua (ua (ui σ 3700 (0 : Int32)) 38 (upd (σ.2.2.1 38) k.toNatClampNeg t)) 39 (upd (σ.2.2.1 39) k.toNatClampNeg n)))) rfl ?_
          exact mm_wk (by exact (And.intro rfl (And.intro rfl (And.intro rfl True.intro)))) (k4 h1 h2 h3 h4)
        · refine mm_go 2 (F' := (36, [some (.ref 37), some (.int k), some (.int t), some (.int n), none], [.int (4 : Int32), .ref 37], HH x (ui σ 3700 (0 : Int32)))) rfl ?_
          refine mm_kl (z := 88) (as := [.ref 37, .int (4 : Int32)]) (S' := []) (L2 := [some (.ref 37), some (.int (4 : Int32))]) (v := some (.int (f_m_fails (ui σ 3700 (0 : Int32)) (4 : Int32)))) (h1 := HH x (g_m_fails (ui σ 3700 (0 : Int32)) (4 : Int32))) rfl rfl rfl rfl rfl (by omega) (r_m_fails (by omega)) ?_
          show mm_Runs d 142 (39, [some (.ref 37), some (.int k), some (.int t), some (.int n), none], [.int (f_m_fails (ui σ 3700 (0 : Int32)) (4 : Int32))], HH x (g_m_fails (ui σ 3700 (0 : Int32)) (4 : Int32))) r
          exact mm_rt rfl rfl (k5 h1 h2 h3 h4)
      · refine mm_go 1 (F' := (29, [some (.ref 37), some (.int k), some (.int t), some (.int n), none], [.int (-2 : Int32)], HH x (ui σ 3700 (0 : Int32)))) rfl ?_
        exact mm_rt rfl rfl (k6 h1 h2 h3)
  · refine mm_go 1 (F' := (13, [some (.ref 37), some (.int k), some (.int t), some (.int n), none], [.int (-1 : Int32)], HH x (ui σ 3700 (0 : Int32)))) rfl ?_
    exact mm_rt rfl rfl (k7 h1)
theorem vc_m_sheeth {d : Nat} {x : Nat × (Nat → Int32)} {σ : mm_S} {k i : Int32} {r : Option Value × mm_H} (k1 : (60 : Int32) ≤ i → (some (.int (1 : Int32)), HH x σ) = r) (k2 : ¬ (60 : Int32) ≤ i → ¬ ((((60 : Int32) * k) + i) < 0 ∨ 240 ≤ (((60 : Int32) * k) + i).toNatClampNeg)) (k3 : ¬ (60 : Int32) ≤ i → mm_Runs d 142 (57, [some (.ref 37), some (.int k), none, none, some (.int (i + (1 : Int32)))], [], HH x (ua σ 40 (upd (σ.2.2.1 40) (((60 : Int32) * k) + i).toNatClampNeg (0 : Int32)))) r) : mm_Runs d 142 (57, [some (.ref 37), some (.int k), none, none, some (.int i)], [], HH x σ) r := by
  refine mm_go 3 (F' := (bif mm_cond .ge i (60 : Int32) then 83 else 64, [some (.ref 37), some (.int k), none, none, some (.int i)], [], HH x σ)) rfl ?_
  refine mb_ge (fun h1 => ?_) (fun h1 => ?_)
  · refine mm_go 1 (F' := (84, [some (.ref 37), some (.int k), none, none, some (.int i)], [.int (1 : Int32)], HH x σ)) rfl ?_
    exact mm_rt rfl rfl (k1 h1)
  · refine mm_go 8 (F' := (76, [some (.ref 37), some (.int k), none, none, some (.int i)], [.int (0 : Int32), .int (((60 : Int32) * k) + i), .ref 40], HH x σ)) rfl ?_
    refine mm_gd (F' := (77, [some (.ref 37), some (.int k), none, none, some (.int i)], [], HH x (ua σ 40 (upd (σ.2.2.1 40) (((60 : Int32) * k) + i).toNatClampNeg (0 : Int32))))) rfl (k2 h1) ?_
    refine mm_go 2 (F' := (57, [some (.ref 37), some (.int k), none, none, some (.int (i + (1 : Int32)))], [], HH x (ua σ 40 (upd (σ.2.2.1 40) (((60 : Int32) * k) + i).toNatClampNeg (0 : Int32))))) rfl ?_
    exact mm_wk (by exact (And.intro rfl (And.intro rfl (And.intro rfl True.intro)))) (k3 h1)
