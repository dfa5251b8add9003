/-! spread, lasts, steps: the class (written by wip/whole/t44.py) -/
theorem vc_spread0 {d : Nat} {x : Nat × (Nat → Int32)} {σ : mm_S} {c : Int32} {r : Option Value × mm_H} (k1 : mm_Runs d 13 (10, [some (.ref 13), some (.int c), some (.long ((1 : Int64) <<< (Int32.toInt64 c &&& 63))), none, some (.long ((1 : Int64) <<< (Int32.toInt64 c &&& 63))), none, some (.int (0 : Int32)), none, none], [], HH x σ) r) : mm_Runs d 13 (0, [some (.ref 13), some (.int c), none, none, none, none, none, none, none], [], HH x σ) r := by
  refine mm_go 8 (F' := (10, [some (.ref 13), some (.int c), some (.long ((1 : Int64) <<< (Int32.toInt64 c &&& 63))), none, some (.long ((1 : Int64) <<< (Int32.toInt64 c &&& 63))), none, some (.int (0 : Int32)), none, none], [], HH x σ)) rfl ?_
  exact mm_wk (by exact (And.intro rfl (And.intro rfl (And.intro rfl (And.intro rfl (And.intro rfl True.intro)))))) k1
theorem vc_spreadh {d : Nat} {x : Nat × (Nat → Int32)} {σ : mm_S} {c t : Int32} {fr se : Int64} {r : Option Value × mm_H} (k1 : fr = (0 : Int64) → ¬ (c < 0 ∨ 42 ≤ c.toNatClampNeg)) (k2 : fr = (0 : Int64) → (none, HH x (ul (ua σ 15 (upd (σ.2.2.1 15) c.toNatClampNeg t)) 1302 ((σ.2.1 1302) ||| ((1 : Int64) <<< (Int32.toInt64 c &&& 63))))) = r) (k3 : ¬ fr = (0 : Int64) → (42 : Int32) ≤ t → ¬ (c < 0 ∨ 42 ≤ c.toNatClampNeg)) (k4 : ¬ fr = (0 : Int64) → (42 : Int32) ≤ t → (none, HH x (ul (ua σ 15 (upd (σ.2.2.1 15) c.toNatClampNeg t)) 1302 ((σ.2.1 1302) ||| ((1 : Int64) <<< (Int32.toInt64 c &&& 63))))) = r) (k5 : ¬ fr = (0 : Int64) → ¬ (42 : Int32) ≤ t → ¬ (((c * (42 : Int32)) + t) < 0 ∨ 1764 ≤ ((c * (42 : Int32)) + t).toNatClampNeg)) (k6 : ¬ fr = (0 : Int64) → ¬ (42 : Int32) ≤ t → mm_Runs d 13 (10, [some (.ref 13), some (.int c), some (.long (((((((fr &&& ((σ.2.1 1304) ^^^ (-1 : Int64))) <<< (Int32.toInt64 (1 : Int32) &&& 63)) ||| ((Int64.toUInt64 (fr &&& ((σ.2.1 1303) ^^^ (-1 : Int64))) >>> ((Int32.toInt64 (1 : Int32)).toUInt64 &&& Int64.toUInt64 63)).toInt64)) ||| (fr <<< (Int32.toInt64 (σ.1 1306) &&& 63))) ||| ((Int64.toUInt64 fr >>> ((Int32.toInt64 (σ.1 1306)).toUInt64 &&& Int64.toUInt64 63)).toInt64)) &&& (σ.2.1 1307)) &&& (se ^^^ (-1 : Int64)))), none, some (.long (se ||| (((((((fr &&& ((σ.2.1 1304) ^^^ (-1 : Int64))) <<< (Int32.toInt64 (1 : Int32) &&& 63)) ||| ((Int64.toUInt64 (fr &&& ((σ.2.1 1303) ^^^ (-1 : Int64))) >>> ((Int32.toInt64 (1 : Int32)).toUInt64 &&& Int64.toUInt64 63)).toInt64)) ||| (fr <<< (Int32.toInt64 (σ.1 1306) &&& 63))) ||| ((Int64.toUInt64 fr >>> ((Int32.toInt64 (σ.1 1306)).toUInt64 &&& Int64.toUInt64 63)).toInt64)) &&& (σ.2.1 1307)) &&& (se ^^^ (-1 : Int64))))), none, some (.int (t + (1 : Int32))), none, none], [], HH x (ub σ 14 (vp_updL (σ.2.2.2 14) ((c * (42 : Int32)) + t).toNatClampNeg fr))) r) : mm_Runs d 13 (10, [some (.ref 13), some (.int c), some (.long fr), none, some (.long se), none, some (.int t), none, none], [], HH x σ) r := by
  refine mm_go 4 (F' := (bif mm_cond .eq (lg_cmp fr (0 : Int64)) 0 then 104 else 16, [some (.ref 13), some (.int c), some (.long fr), none, some (.long se), none, some (.int t), none, none], [], HH x σ)) rfl ?_
  refine mb_leq (fun h1 => ?_) (fun h1 => ?_)
  · refine mm_go 4 (F' := (111, [some (.ref 13), some (.int c), some (.long fr), none, some (.long se), none, some (.int t), none, none], [.int t, .int c, .ref 15], HH x σ)) rfl ?_
    refine mm_gd (F' := (112, [some (.ref 13), some (.int c), some (.long fr), none, some (.long se), none, some (.int t), none, none], [], HH x (ua σ 15 (upd (σ.2.2.1 15) c.toNatClampNeg t)))) rfl (k1 h1) ?_
    refine mm_go 7 (F' := (121, [some (.ref 13), some (.int c), some (.long fr), none, some (.long se), none, some (.int t), none, none], [.long ((σ.2.1 1302) ||| ((1 : Int64) <<< (Int32.toInt64 c &&& 63))), .ref 13], HH x (ua σ 15 (upd (σ.2.2.1 15) c.toNatClampNeg t)))) rfl ?_
    refine mm_go 1 (F' := (124, [some (.ref 13), some (.int c), some (.long fr), none, some (.long se), none, some (.int t), none, none], [], HH x (ul (ua σ 15 (upd (σ.2.2.1 15) c.toNatClampNeg t)) 1302 ((σ.2.1 1302) ||| ((1 : Int64) <<< (Int32.toInt64 c &&& 63)))))) rfl ?_
    exact mm_rt rfl rfl (k2 h1)
  · refine mm_go 3 (F' := (bif mm_cond .ge t (42 : Int32) then 104 else 23, [some (.ref 13), some (.int c), some (.long fr), none, some (.long se), none, some (.int t), none, none], [], HH x σ)) rfl ?_
    refine mb_ge (fun h2 => ?_) (fun h2 => ?_)
    · refine mm_go 4 (F' := (111, [some (.ref 13), some (.int c), some (.long fr), none, some (.long se), none, some (.int t), none, none], [.int t, .int c, .ref 15], HH x σ)) rfl ?_
      refine mm_gd (F' := (112, [some (.ref 13), some (.int c), some (.long fr), none, some (.long se), none, some (.int t), none, none], [], HH x (ua σ 15 (upd (σ.2.2.1 15) c.toNatClampNeg t)))) rfl (k3 h1 h2) ?_
      refine mm_go 7 (F' := (121, [some (.ref 13), some (.int c), some (.long fr), none, some (.long se), none, some (.int t), none, none], [.long ((σ.2.1 1302) ||| ((1 : Int64) <<< (Int32.toInt64 c &&& 63))), .ref 13], HH x (ua σ 15 (upd (σ.2.2.1 15) c.toNatClampNeg t)))) rfl ?_
      refine mm_go 1 (F' := (124, [some (.ref 13), some (.int c), some (.long fr), none, some (.long se), none, some (.int t), none, none], [], HH x (ul (ua σ 15 (upd (σ.2.2.1 15) c.toNatClampNeg t)) 1302 ((σ.2.1 1302) ||| ((1 : Int64) <<< (Int32.toInt64 c &&& 63)))))) rfl ?_
      exact mm_rt rfl rfl (k4 h1 h2)
    · refine mm_go 8 (F' := (35, [some (.ref 13), some (.int c), some (.long fr), none, some (.long se), none, some (.int t), none, none], [.long fr, .int ((c * (42 : Int32)) + t), .ref 14], HH x σ)) rfl ?_
      refine mm_gd (F' := (36, [some (.ref 13), some (.int c), some (.long fr), none, some (.long se), none, some (.int t), none, none], [], HH x (ub σ 14 (vp_updL (σ.2.2.2 14) ((c * (42 : Int32)) + t).toNatClampNeg fr)))) rfl (k5 h1 h2) ?_
      refine mm_go 43 (F' := (10, [some (.ref 13), some (.int c), some (.long (((((((fr &&& ((σ.2.1 1304) ^^^ (-1 : Int64))) <<< (Int32.toInt64 (1 : Int32) &&& 63)) ||| ((Int64.toUInt64 (fr &&& ((σ.2.1 1303) ^^^ (-1 : Int64))) >>> ((Int32.toInt64 (1 : Int32)).toUInt64 &&& Int64.toUInt64 63)).toInt64)) ||| (fr <<< (Int32.toInt64 (σ.1 1306) &&& 63))) ||| ((Int64.toUInt64 fr >>> ((Int32.toInt64 (σ.1 1306)).toUInt64 &&& Int64.toUInt64 63)).toInt64)) &&& (σ.2.1 1307)) &&& (se ^^^ (-1 : Int64)))), none, some (.long (se ||| (((((((fr &&& ((σ.2.1 1304) ^^^ (-1 : Int64))) <<< (Int32.toInt64 (1 : Int32) &&& 63)) ||| ((Int64.toUInt64 (fr &&& ((σ.2.1 1303) ^^^ (-1 : Int64))) >>> ((Int32.toInt64 (1 : Int32)).toUInt64 &&& Int64.toUInt64 63)).toInt64)) ||| (fr <<< (Int32.toInt64 (σ.1 1306) &&& 63))) ||| ((Int64.toUInt64 fr >>> ((Int32.toInt64 (σ.1 1306)).toUInt64 &&& Int64.toUInt64 63)).toInt64)) &&& (σ.2.1 1307)) &&& (se ^^^ (-1 : Int64))))), none, some (.int (t + (1 : Int32))), some (.long (((fr &&& ((σ.2.1 1304) ^^^ (-1 : Int64))) <<< (Int32.toInt64 (1 : Int32) &&& 63)) ||| ((Int64.toUInt64 (fr &&& ((σ.2.1 1303) ^^^ (-1 : Int64))) >>> ((Int32.toInt64 (1 : Int32)).toUInt64 &&& Int64.toUInt64 63)).toInt64))), none], [], HH x (ub σ 14 (vp_updL (σ.2.2.2 14) ((c * (42 : Int32)) + t).toNatClampNeg fr)))) rfl ?_
      exact mm_wk (by exact (And.intro rfl (And.intro rfl (And.intro rfl (And.intro rfl (And.intro rfl True.intro)))))) (k6 h1 h2)
theorem vc_lasts {d : Nat} {x : Nat × (Nat → Int32)} {σ : mm_S} {c k : Int32} {σ1 : mm_S} {r : Option Value × mm_H} (hd : 1 ≤ d) (k1 : (p_isWater σ c) → ¬ (((Int64.toUInt64 (σ.2.1 1302) >>> ((Int32.toInt64 c).toUInt64 &&& Int64.toUInt64 63)).toInt64) &&& (1 : Int64)) = (0 : Int64) → ¬ (c < 0 ∨ 42 ≤ c.toNatClampNeg)) (k2 : (p_isWater σ c) → ¬ (((Int64.toUInt64 (σ.2.1 1302) >>> ((Int32.toInt64 c).toUInt64 &&& Int64.toUInt64 63)).toInt64) &&& (1 : Int64)) = (0 : Int64) → (some (.int (if (k + (1 : Int32)) < ((σ.2.2.1 15) c.toNatClampNeg) then (k + (1 : Int32)) else ((σ.2.2.1 15) c.toNatClampNeg))), HH x σ) = r) (k3 : (p_isWater σ c) → (((Int64.toUInt64 (σ.2.1 1302) >>> ((Int32.toInt64 c).toUInt64 &&& Int64.toUInt64 63)).toInt64) &&& (1 : Int64)) = (0 : Int64) → mm_Runs (d - 1) 13 (0, [some (.ref 13), some (.int c), none, none, none, none, none, none, none], [], HH x σ) (none, HH x σ1)) (k4 : (p_isWater σ c) → (((Int64.toUInt64 (σ.2.1 1302) >>> ((Int32.toInt64 c).toUInt64 &&& Int64.toUInt64 63)).toInt64) &&& (1 : Int64)) = (0 : Int64) → ¬ (c < 0 ∨ 42 ≤ c.toNatClampNeg)) (k5 : (p_isWater σ c) → (((Int64.toUInt64 (σ.2.1 1302) >>> ((Int32.toInt64 c).toUInt64 &&& Int64.toUInt64 63)).toInt64) &&& (1 : Int64)) = (0 : Int64) → (some (.int (if (k + (1 : Int32)) < ((σ1.2.2.1 15) c.toNatClampNeg) then (k + (1 : Int32)) else ((σ1.2.2.1 15) c.toNatClampNeg))), HH x σ1) = r) (k6 : ¬ (p_isWater σ c) → (some (.int (0 : Int32)), HH x σ) = r) : mm_Runs d 11 (0, [some (.ref 13), some (.int c), some (.int k)], [], HH x σ) r := by
  refine mm_go 2 (F' := (2, [some (.ref 13), some (.int c), some (.int k)], [.int c, .ref 13], HH x σ)) rfl ?_
  refine mm_kl (z := 9) (as := [.ref 13, .int c]) (S' := []) (L2 := [some (.ref 13), some (.int c)]) (v := some (.int (mm_b (p_isWater σ c)))) (h1 := HH x σ) rfl rfl rfl rfl rfl (by omega) (r_isWater (by omega)) ?_
  show mm_Runs d 11 (5, [some (.ref 13), some (.int c), some (.int k)], [.int (mm_b (p_isWater σ c))], HH x σ) r
  refine mm_go 1 (F' := (bif mm_cond .ne (mm_b (p_isWater σ c)) 0 then 10 else 8, [some (.ref 13), some (.int c), some (.int k)], [], HH x σ)) rfl ?_
  refine mb_bne (fun h1 => ?_) (fun h1 => ?_)
  · refine mm_go 9 (F' := (bif mm_cond .ne (lg_cmp (((Int64.toUInt64 (σ.2.1 1302) >>> ((Int32.toInt64 c).toUInt64 &&& Int64.toUInt64 63)).toInt64) &&& (1 : Int64)) (0 : Int64)) 0 then 28 else 23, [some (.ref 13), some (.int c), some (.int k)], [], HH x σ)) rfl ?_
    refine mb_lne (fun h2 => ?_) (fun h2 => ?_)
    · refine mm_go 3 (F' := (33, [some (.ref 13), some (.int c), some (.int k)], [.int c, .ref 15], HH x σ)) rfl ?_
      refine mm_gd (F' := (34, [some (.ref 13), some (.int c), some (.int k)], [.int ((σ.2.2.1 15) c.toNatClampNeg)], HH x σ)) rfl (k1 h1 h2) ?_
      refine mm_go 4 (F' := (40, [some (.ref 13), some (.int c), some (.int k)], [.int (if (k + (1 : Int32)) < ((σ.2.2.1 15) c.toNatClampNeg) then (k + (1 : Int32)) else ((σ.2.2.1 15) c.toNatClampNeg))], HH x σ)) rfl ?_
      exact mm_rt rfl rfl (k2 h1 h2)
    · refine mm_go 2 (F' := (25, [some (.ref 13), some (.int c), some (.int k)], [.int c, .ref 13], HH x σ)) rfl ?_
      refine mm_kl (z := 13) (as := [.ref 13, .int c]) (S' := []) (L2 := [some (.ref 13), some (.int c), none, none, none, none, none, none, none]) (v := none) (h1 := HH x σ1) rfl rfl rfl rfl rfl (by omega) (k3 h1 h2) ?_
      show mm_Runs d 11 (28, [some (.ref 13), some (.int c), some (.int k)], [], HH x σ1) r
      refine mm_go 3 (F' := (33, [some (.ref 13), some (.int c), some (.int k)], [.int c, .ref 15], HH x σ1)) rfl ?_
      refine mm_gd (F' := (34, [some (.ref 13), some (.int c), some (.int k)], [.int ((σ1.2.2.1 15) c.toNatClampNeg)], HH x σ1)) rfl (k4 h1 h2) ?_
      refine mm_go 4 (F' := (40, [some (.ref 13), some (.int c), some (.int k)], [.int (if (k + (1 : Int32)) < ((σ1.2.2.1 15) c.toNatClampNeg) then (k + (1 : Int32)) else ((σ1.2.2.1 15) c.toNatClampNeg))], HH x σ1)) rfl ?_
      exact mm_rt rfl rfl (k5 h1 h2)
  · refine mm_go 1 (F' := (9, [some (.ref 13), some (.int c), some (.int k)], [.int (0 : Int32)], HH x σ)) rfl ?_
    exact mm_rt rfl rfl (k6 h1)
theorem vc_steps0 {d : Nat} {x : Nat × (Nat → Int32)} {σ : mm_S} {a b v1 : Int32} {σ1 : mm_S} {r : Option Value × mm_H} (hd : 1 ≤ d) (k1 : ¬ (p_isWater σ a) → (some (.int (-9 : Int32)), HH x σ) = r) (k2 : (p_isWater σ a) → (p_isWater σ b) → mm_Runs (d - 1) 11 (0, [some (.ref 13), some (.int a), some (.int (42 : Int32))], [], HH x σ) (some (.int v1), HH x σ1)) (k3 : (p_isWater σ a) → (p_isWater σ b) → mm_Runs d 10 (30, [some (.ref 13), some (.int a), some (.int b), some (.int v1), some (.int (0 : Int32))], [], HH x σ1) r) (k4 : (p_isWater σ a) → ¬ (p_isWater σ b) → (some (.int (-9 : Int32)), HH x σ) = r) : mm_Runs d 10 (0, [some (.ref 13), some (.int a), some (.int b), none, none], [], HH x σ) r := by
  refine mm_go 2 (F' := (2, [some (.ref 13), some (.int a), some (.int b), none, none], [.int a, .ref 13], HH x σ)) rfl ?_
  refine mm_kl (z := 9) (as := [.ref 13, .int a]) (S' := []) (L2 := [some (.ref 13), some (.int a)]) (v := some (.int (mm_b (p_isWater σ a)))) (h1 := HH x σ) rfl rfl rfl rfl rfl (by omega) (r_isWater (by omega)) ?_
  show mm_Runs d 10 (5, [some (.ref 13), some (.int a), some (.int b), none, none], [.int (mm_b (p_isWater σ a))], HH x σ) r
  refine mm_go 1 (F' := (bif mm_cond .eq (mm_b (p_isWater σ a)) 0 then 16 else 8, [some (.ref 13), some (.int a), some (.int b), none, none], [], HH x σ)) rfl ?_
  refine mb_beq (fun h1 => ?_) (fun h1 => ?_)
  · refine mm_go 1 (F' := (18, [some (.ref 13), some (.int a), some (.int b), none, none], [.int (-9 : Int32)], HH x σ)) rfl ?_
    exact mm_rt rfl rfl (k1 h1)
  · refine mm_go 2 (F' := (10, [some (.ref 13), some (.int a), some (.int b), none, none], [.int b, .ref 13], HH x σ)) rfl ?_
    refine mm_kl (z := 9) (as := [.ref 13, .int b]) (S' := []) (L2 := [some (.ref 13), some (.int b)]) (v := some (.int (mm_b (p_isWater σ b)))) (h1 := HH x σ) rfl rfl rfl rfl rfl (by omega) (r_isWater (by omega)) ?_
    show mm_Runs d 10 (13, [some (.ref 13), some (.int a), some (.int b), none, none], [.int (mm_b (p_isWater σ b))], HH x σ) r
    refine mm_go 1 (F' := (bif mm_cond .ne (mm_b (p_isWater σ b)) 0 then 19 else 16, [some (.ref 13), some (.int a), some (.int b), none, none], [], HH x σ)) rfl ?_
    refine mb_bne (fun h2 => ?_) (fun h2 => ?_)
    · refine mm_go 3 (F' := (23, [some (.ref 13), some (.int a), some (.int b), none, none], [.int (42 : Int32), .int a, .ref 13], HH x σ)) rfl ?_
      refine mm_kl (z := 11) (as := [.ref 13, .int a, .int (42 : Int32)]) (S' := []) (L2 := [some (.ref 13), some (.int a), some (.int (42 : Int32))]) (v := some (.int v1)) (h1 := HH x σ1) rfl rfl rfl rfl rfl (by omega) (k2 h1 h2) ?_
      show mm_Runs d 10 (26, [some (.ref 13), some (.int a), some (.int b), none, none], [.int v1], HH x σ1) r
      refine mm_go 3 (F' := (30, [some (.ref 13), some (.int a), some (.int b), some (.int v1), some (.int (0 : Int32))], [], HH x σ1)) rfl ?_
      exact mm_wk (by exact (And.intro rfl (And.intro rfl (And.intro rfl (And.intro rfl (And.intro rfl True.intro)))))) (k3 h1 h2)
    · refine mm_go 1 (F' := (18, [some (.ref 13), some (.int a), some (.int b), none, none], [.int (-9 : Int32)], HH x σ)) rfl ?_
      exact mm_rt rfl rfl (k4 h1 h2)
theorem vc_stepsh {d : Nat} {x : Nat × (Nat → Int32)} {σ : mm_S} {a b n i : Int32} {r : Option Value × mm_H} (k1 : n ≤ i → (some (.int (-9 : Int32)), HH x σ) = r) (k2 : ¬ n ≤ i → ¬ (((a * (42 : Int32)) + i) < 0 ∨ 1764 ≤ ((a * (42 : Int32)) + i).toNatClampNeg)) (k3 : ¬ n ≤ i → (((Int64.toUInt64 ((σ.2.2.2 14) ((a * (42 : Int32)) + i).toNatClampNeg) >>> ((Int32.toInt64 b).toUInt64 &&& Int64.toUInt64 63)).toInt64) &&& (1 : Int64)) = (0 : Int64) → mm_Runs d 10 (30, [some (.ref 13), some (.int a), some (.int b), some (.int n), some (.int (i + (1 : Int32)))], [], HH x σ) r) (k4 : ¬ n ≤ i → ¬ (((Int64.toUInt64 ((σ.2.2.2 14) ((a * (42 : Int32)) + i).toNatClampNeg) >>> ((Int32.toInt64 b).toUInt64 &&& Int64.toUInt64 63)).toInt64) &&& (1 : Int64)) = (0 : Int64) → (some (.int i), HH x σ) = r) : mm_Runs d 10 (30, [some (.ref 13), some (.int a), some (.int b), some (.int n), some (.int i)], [], HH x σ) r := by
  refine mm_go 3 (F' := (bif mm_cond .ge i n then 66 else 36, [some (.ref 13), some (.int a), some (.int b), some (.int n), some (.int i)], [], HH x σ)) rfl ?_
  refine mb_ge (fun h1 => ?_) (fun h1 => ?_)
  · refine mm_go 1 (F' := (68, [some (.ref 13), some (.int a), some (.int b), some (.int n), some (.int i)], [.int (-9 : Int32)], HH x σ)) rfl ?_
    exact mm_rt rfl rfl (k1 h1)
  · refine mm_go 7 (F' := (47, [some (.ref 13), some (.int a), some (.int b), some (.int n), some (.int i)], [.int ((a * (42 : Int32)) + i), .ref 14], HH x σ)) rfl ?_
    refine mm_gd (F' := (48, [some (.ref 13), some (.int a), some (.int b), some (.int n), some (.int i)], [.long ((σ.2.2.2 14) ((a * (42 : Int32)) + i).toNatClampNeg)], HH x σ)) rfl (k2 h1) ?_
    refine mm_go 7 (F' := (bif mm_cond .eq (lg_cmp (((Int64.toUInt64 ((σ.2.2.2 14) ((a * (42 : Int32)) + i).toNatClampNeg) >>> ((Int32.toInt64 b).toUInt64 &&& Int64.toUInt64 63)).toInt64) &&& (1 : Int64)) (0 : Int64)) 0 then 60 else 57, [some (.ref 13), some (.int a), some (.int b), some (.int n), some (.int i)], [], HH x σ)) rfl ?_
    refine mb_leq (fun h2 => ?_) (fun h2 => ?_)
    · refine mm_go 2 (F' := (30, [some (.ref 13), some (.int a), some (.int b), some (.int n), some (.int (i + (1 : Int32)))], [], HH x σ)) rfl ?_
      exact mm_wk (by exact (And.intro rfl (And.intro rfl (And.intro rfl (And.intro rfl (And.intro rfl True.intro)))))) (k3 h1 h2)
    · refine mm_go 1 (F' := (59, [some (.ref 13), some (.int a), some (.int b), some (.int n), some (.int i)], [.int i], HH x σ)) rfl ?_
      exact mm_rt rfl rfl (k4 h1 h2)
theorem bt_andn (u v : Int64) (i : Nat) : bt (u &&& (v ^^^ (-1 : Int64))) i = (bt u i && !bt v i) := by
  rcases Nat.lt_or_ge i 64 with h | h
  · rw [bt_and, bt_not h]
  · rw [bt_big h, bt_big h]; rfl
/-- the next front -/
def sp_nx (fr se la fi wa : Int64) (wi : Int32) : Int64 := (((((((fr &&& (la ^^^ (-1 : Int64))) <<< (Int32.toInt64 (1 : Int32) &&& 63)) ||| ((Int64.toUInt64 (fr &&& (fi ^^^ (-1 : Int64))) >>> ((Int32.toInt64 (1 : Int32)).toUInt64 &&& Int64.toUInt64 63)).toInt64)) ||| (fr <<< (Int32.toInt64 wi &&& 63))) ||| ((Int64.toUInt64 fr >>> ((Int32.toInt64 wi).toUInt64 &&& Int64.toUInt64 63)).toInt64)) &&& wa) &&& (se ^^^ (-1 : Int64)))
theorem sp_bits (fr se la fi wa : Int64) {w b : Nat} (hw : w < 64) (hb : b < 64) : bt (sp_nx fr se la fi wa (nI w)) b = ((((decide (1 ≤ b) && (bt fr (b - 1) && !bt la (b - 1))) || (bt fr (1 + b) && !bt fi (1 + b)) || (decide (w ≤ b) && bt fr (b - w)) || bt fr (w + b)) && bt wa b) && !bt se b) := by
  unfold sp_nx
  rw [bt_andn, bt_and, bt_or, bt_or, bt_or, show (1 : Int32) = nI 1 from rfl, bt_shl _ (by omega) hb, bt_ushr _ (by omega), bt_shl _ hw hb, bt_ushr _ hw, bt_andn, bt_andn]
/-- the pond in the class, in the model -/
def r_pc (P : pd_T) (σ : mm_S) : Prop := P.1 ≤ 6 ∧ P.2.1 ≤ 7 ∧ σ.1 1305 = nI (pd_n P) ∧ σ.1 1306 = nI P.2.1 ∧ pd_wf P ∧ ∀ c, bt (σ.2.1 1307) c = P.2.2 c
def r_pm (P : pd_T) (σ : mm_S) : Prop := P.1 ≤ 6 ∧ P.2.1 ≤ 7 ∧ σ.1 3705 = nI P.1 ∧ σ.1 3706 = nI P.2.1 ∧ pd_wf P ∧ ∀ c, c < pd_n P → σ.2.2.1 41 c = if P.2.2 c = true then 1 else 0
theorem pond_c {P : pd_T} {σ : mm_S} (h : r_pond P σ) : r_pc P σ := ⟨h.1, h.2.1, h.2.2.1, h.2.2.2.1, h.2.2.2.2.2.2.1, h.2.2.2.2.2.2.2.1⟩
theorem pond_m {P : pd_T} {σ : mm_S} (h : r_pond P σ) : r_pm P σ := ⟨h.1, h.2.1, h.2.2.2.2.1, h.2.2.2.2.2.1, h.2.2.2.2.2.2.1, h.2.2.2.2.2.2.2.2⟩
theorem pond_cm {P : pd_T} {σ : mm_S} (h : r_pc P σ) (g : r_pm P σ) : r_pond P σ := ⟨h.1, h.2.1, h.2.2.1, h.2.2.2.1, g.2.2.1, g.2.2.2.1, h.2.2.2.2.1, h.2.2.2.2.2, g.2.2.2.2.2⟩
theorem pc_n42 {P : pd_T} {σ : mm_S} (h : r_pc P σ) : pd_n P ≤ 42 := by
  have h1 := h.1
  have h2 := h.2.1
  unfold pd_n
  exact Nat.le_trans (Nat.mul_le_mul h1 h2) (by decide)
theorem pm_n42 {P : pd_T} {σ : mm_S} (h : r_pm P σ) : pd_n P ≤ 42 := by
  have h1 := h.1
  have h2 := h.2.1
  unfold pd_n
  exact Nat.le_trans (Nat.mul_le_mul h1 h2) (by decide)
theorem pc_wf {P : pd_T} {σ : mm_S} (h : r_pc P σ) : pd_wf P := h.2.2.2.2.1
theorem pm_wf {P : pd_T} {σ : mm_S} (h : r_pm P σ) : pd_wf P := h.2.2.2.2.1
theorem pond_wf {P : pd_T} {σ : mm_S} (h : r_pond P σ) : pd_wf P := h.2.2.2.2.2.2.1
/-- the lake, as far as it bears on rings -/
def LK (P : pd_T) (σ : mm_S) : Prop := r_pc P σ ∧ r_col P σ ∧ r_rip P σ
theorem pond_w0 {P : pd_T} {c : Nat} (h : pd_wf P) (hc : P.2.2 c = true) : 0 < P.2.1 := by
  have h1 := h c hc
  unfold pd_n at h1
  rcases Nat.eq_zero_or_pos P.2.1 with q | q
  · rw [q, Nat.mul_zero] at h1; omega
  · exact q
theorem sp_next {P : pd_T} {σ : mm_S} (hp : r_pc P σ) (hc : r_col P σ) {c t : Nat} {fr se : Int64} (h1 : ∀ b, bt fr b = pd_lay P c t b) (h2 : ∀ b, bt se b = pd_see P c t b) (b : Nat) : bt (sp_nx fr se (σ.2.1 1304) (σ.2.1 1303) (σ.2.1 1307) (σ.1 1306)) b = pd_lay P c (t + 1) b := by
  have hn := pc_n42 hp
  have hwf := pc_wf hp
  rcases Nat.lt_or_ge b 64 with hb | hb
  · have hw := hp.2.1
    rw [hp.2.2.2.1, sp_bits _ _ _ _ _ (w := P.2.1) (by omega) hb, h1, h1, h1, h1, h2, hc.1, hc.2, hp.2.2.2.2.2, Bool.eq_iff_iff, bf_1]
    simp only [Bool.and_eq_true, Bool.or_eq_true, decide_eq_true_eq, Bool.not_eq_true', decide_eq_false_iff_not, List.any_eq_true, List.mem_range]
    constructor
    · rintro ⟨⟨h, hwb⟩, hs⟩
      refine ⟨⟨hwb, hs⟩, ?_⟩
      rcases h with ((⟨q1, q2, q3⟩ | ⟨q1, q2⟩) | ⟨q1, q2⟩) | q1
      · have z := hwf _ (bf_lw q2)
        refine ⟨b - 1, z, q2, ?_⟩
        unfold pd_adj
        have e : b - 1 + 1 = b := by omega
        rw [e] at q3 ⊢
        have q4 : ¬ b % P.2.1 = 0 := fun y => q3 ⟨z, y⟩
        simp [q4]
      · have z := hwf _ (bf_lw q1)
        refine ⟨1 + b, z, q1, ?_⟩
        unfold pd_adj
        have e : 1 + b = b + 1 := by omega
        rw [e] at q2 z ⊢
        have q4 : ¬ (b + 1) % P.2.1 = 0 := fun y => q2 ⟨z, y⟩
        simp [q4]
      · refine ⟨b - P.2.1, hwf _ (bf_lw q2), q2, ?_⟩
        unfold pd_adj
        have e : b = b - P.2.1 + P.2.1 := by omega
        have e2 : decide (b = b - P.2.1 + P.2.1) = true := decide_eq_true e
        rw [e2]
        simp
      · refine ⟨P.2.1 + b, hwf _ (bf_lw q1), q1, ?_⟩
        unfold pd_adj
        have e2 : decide (P.2.1 + b = b + P.2.1) = true := decide_eq_true (by omega)
        rw [e2]
        simp
    · rintro ⟨⟨hwb, hs⟩, a, ha, hl, hadj⟩
      refine ⟨⟨?_, hwb⟩, hs⟩
      unfold pd_adj at hadj
      simp only [Bool.and_eq_true, Bool.or_eq_true, decide_eq_true_eq, Bool.not_eq_true', decide_eq_false_iff_not] at hadj
      rcases hadj with ((⟨e, q⟩ | ⟨e, q⟩) | e) | e
      · subst e
        refine Or.inl (Or.inl (Or.inl ⟨by omega, ?_, ?_⟩))
        · exact hl
        · intro y; exact q y.2
      · subst e
        refine Or.inl (Or.inl (Or.inr ⟨?_, ?_⟩))
        · rw [Nat.add_comm]; exact hl
        · intro y; rw [Nat.add_comm 1 b] at y; exact q y.2
      · subst e
        refine Or.inl (Or.inr ⟨by omega, ?_⟩)
        rw [Nat.add_sub_cancel]; exact hl
      · subst e
        refine Or.inr ?_
        rw [Nat.add_comm]; exact hl
  · rw [bt_big hb]
    cases hl : pd_lay P c (t + 1) b with
    | false => rfl
    | true =>
      have := hwf _ (bf_lw hl)
      omega
/-- what a call may change in the lake: the rows that are ready -/
def LZ (P : pd_T) (σ σ' : mm_S) : Prop := (∃ (y : Int64) (D : Nat → Int32) (R : Nat → Int64), σ' = ub (ua (ul σ 1302 y) 15 D) 14 R) ∧ r_rip P σ' ∧ ∀ c, bt (σ.2.1 1302) c = true → bt (σ'.2.1 1302) c = true
theorem LZ_refl {P : pd_T} {σ : mm_S} (h : r_rip P σ) : LZ P σ σ := ⟨⟨σ.2.1 1302, σ.2.2.1 15, σ.2.2.2 14, by
  have e1 : ul σ 1302 (σ.2.1 1302) = σ := by unfold ul; rw [mm_up_self]
  rw [e1, ua_self, ub_self]⟩, h, fun _ h => h⟩
theorem LZ_trans {P : pd_T} {σ τ υ : mm_S} (h : LZ P σ τ) (g : LZ P τ υ) : LZ P σ υ := by
  obtain ⟨⟨y, D, R, rfl⟩, h2, h3⟩ := h
  obtain ⟨⟨y', D', R', rfl⟩, g2, g3⟩ := g
  refine ⟨⟨y', D', R', ?_⟩, g2, fun c hc => g3 c (h3 c hc)⟩
  unfold ub ua ul
  simp only [mm_up_up]
theorem LK_of {P : pd_T} {σ σ' : mm_S} (h : LK P σ) (g : LZ P σ σ') : LK P σ' := by
  obtain ⟨⟨y, D, R, rfl⟩, h2, h3⟩ := g
  exact ⟨h.1, h.2.1, h2⟩
theorem lay_lt {P : pd_T} {c t b : Nat} (hw : pd_wf P) (h : pd_lay P c t b = true) : t < pd_n P := by
  rcases Nat.lt_or_ge t (pd_n P) with q | q
  · exact q
  · rw [bf_42 hw q b] at h; cases h
theorem c42 {c t : Nat} : nI c * (42 : Int32) + nI t = nI (42 * c + t) := by
  rw [show (42 : Int32) = nI 42 from rfl, pk_mul, nI_add, Nat.mul_comm]
theorem spread_h {d : Nat} {x : Nat × (Nat → Int32)} {P : pd_T} {σ : mm_S} {c : Nat} (hp : r_pc P σ) (hcol : r_col P σ) (hcw : P.2.2 c = true) : ∀ (k t : Nat), t + k = 43 → t ≤ 42 → ∀ (R : Nat → Int64) (fr se : Int64), (∀ b, bt fr b = pd_lay P c t b) → (∀ b, bt se b = pd_see P c t b) → (∀ s, s < t → (∃ b, pd_lay P c s b = true) ∧ ∀ b, bt (R (42 * c + s)) b = pd_lay P c s b) →
    ∃ (R' : Nat → Int64) (dp : Nat), mm_Runs d 13 (10, [some (.ref 13), some (.int (nI c)), some (.long fr), none, some (.long se), none, some (.int (nI t)), none, none], [], HH x (ub σ 14 R)) (none, HH x (ul (ua (ub σ 14 R') 15 (upd (σ.2.2.1 15) c (nI dp))) 1302 (σ.2.1 1302 ||| ((1 : Int64) <<< (Int32.toInt64 (nI c) &&& 63))))) ∧ (∀ y, (y < 42 * c ∨ 42 * c + 42 ≤ y) → R' y = R y) ∧ 1 ≤ dp ∧ dp ≤ 42 ∧ (∀ s, s < dp → (∃ b, pd_lay P c s b = true) ∧ ∀ b, bt (R' (42 * c + s)) b = pd_lay P c s b) ∧ ∀ s, dp ≤ s → ∀ b, pd_lay P c s b = false
  | 0, t, h, h', R, fr, se, h1, h2, h3 => by omega
  | k + 1, t, h, h', R, fr, se, h1, h2, h3 => by
    have hn := pc_n42 hp
    have hwf := pc_wf hp
    have hc : c < pd_n P := hwf c hcw
    have cc : (nI c).toNatClampNeg = c := nI_clamp (by omega)
    by_cases hf : fr = 0
    · refine ⟨R, t, ?_, fun _ _ => rfl, ?_, h', h3, ?_⟩
      · refine vc_spreadh (fun _ => nI_in (by omega) (by omega)) (fun _ => ?_) (fun z => absurd hf z) (fun z => absurd hf z) (fun z => absurd hf z) (fun z => absurd hf z)
        rw [cc]
        rfl
      · rcases Nat.eq_zero_or_pos t with q | q
        · subst q
          have h4 := h1 c
          rw [hf, bt_0, bf_0, hcw] at h4
          simp at h4
        · exact q
      · refine fun s hs b => bf_end (t := t) (fun b => ?_) hs b
        rw [← h1, hf, bt_0]
    · have hb : ∃ b, pd_lay P c t b = true := by
        by_cases q : ∃ b, pd_lay P c t b = true
        · exact q
        · exfalso
          apply hf
          rw [bt_zero]
          intro i
          rw [h1]
          cases hl : pd_lay P c t i with
          | false => rfl
          | true => exact absurd ⟨i, hl⟩ q
      obtain ⟨b0, hb0⟩ := hb
      have ht : t < pd_n P := lay_lt hwf hb0
      have hlt : ¬ (42 : Int32) ≤ nI t := nI_ge (a := t) (b := 42) (by omega) (by omega)
      obtain ⟨R', dp, g1, g2, g3, g4, g5, g6⟩ := spread_h (d := d) (x := x) hp hcol hcw k (t + 1) (by omega) (by omega) (vp_updL R (42 * c + t) fr) (sp_nx fr se (σ.2.1 1304) (σ.2.1 1303) (σ.2.1 1307) (σ.1 1306)) (se ||| sp_nx fr se (σ.2.1 1304) (σ.2.1 1303) (σ.2.1 1307) (σ.1 1306)) (sp_next hp hcol h1 h2) (fun b => by rw [bt_or, sp_next hp hcol h1 h2, h2, bf_s]) (fun s hs => by
        rcases Nat.lt_or_ge s t with q | q
        · rw [pk_uLn (by omega)]; exact h3 s q
        · have e : s = t := by omega
          subst e
          rw [pk_uLs]; exact ⟨⟨b0, hb0⟩, h1⟩)
      refine ⟨R', dp, ?_, fun y hy => by rw [g2 y hy, pk_uLn (by omega)], g3, g4, g5, g6⟩
      refine vc_spreadh (fun z => absurd z hf) (fun z => absurd z hf) (fun _ z => absurd z hlt) (fun _ z => absurd z hlt) (fun _ _ => by rw [c42]; exact nI_in (by omega) (by omega)) (fun _ _ => ?_)
      rw [c42, nI_clamp (show 42 * c + t < 2 ^ 31 by omega), show nI t + (1 : Int32) = nI (t + 1) from nI_1 t, ub_ub]
      exact g1
theorem c_spread {d : Nat} {x : Nat × (Nat → Int32)} {P : pd_T} {σ : mm_S} {c : Nat} (h : LK P σ) (hcw : P.2.2 c = true) : ∃ σ', mm_Runs d 13 (0, [some (.ref 13), some (.int (nI c)), none, none, none, none, none, none, none], [], HH x σ) (none, HH x σ') ∧ LZ P σ σ' ∧ bt (σ'.2.1 1302) c = true := by
  obtain ⟨hp, hcol, hrip⟩ := h
  have hn := pc_n42 hp
  have hwf := pc_wf hp
  have hc : c < pd_n P := hwf c hcw
  have hb : ∀ b, bt ((1 : Int64) <<< (Int32.toInt64 (nI c) &&& 63)) b = pd_lay P c 0 b := fun b => by rw [bt_one (by omega), bf_0, hcw, Bool.and_true]
  obtain ⟨R', dp, g1, g2, g3, g4, g5, g6⟩ := spread_h (d := d) (x := x) hp hcol hcw 43 0 (by omega) (by omega) (σ.2.2.2 14) ((1 : Int64) <<< (Int32.toInt64 (nI c) &&& 63)) ((1 : Int64) <<< (Int32.toInt64 (nI c) &&& 63)) hb hb (fun s hs => absurd hs (by omega))
  rw [ub_self] at g1
  refine ⟨_, vc_spread0 g1, ⟨⟨σ.2.1 1302 ||| ((1 : Int64) <<< (Int32.toInt64 (nI c) &&& 63)), upd (σ.2.2.1 15) c (nI dp), R', rfl⟩, ?_, ?_⟩, ?_⟩
  · intro e he
    have he' : bt (σ.2.1 1302 ||| ((1 : Int64) <<< (Int32.toInt64 (nI c) &&& 63))) e = true := he
    rw [bt_or, bt_one (by omega), Bool.or_eq_true, decide_eq_true_eq] at he'
    by_cases q : e = c
    · subst q
      exact ⟨hcw, dp, g3, g4, pk_us, g5, g6⟩
    · rcases he' with he' | he'
      · obtain ⟨r1, dp2, r2, r3, r4, r5, r6⟩ := hrip e he'
        refine ⟨r1, dp2, r2, r3, ?_, ?_, r6⟩
        · show upd (σ.2.2.1 15) c (nI dp) e = nI dp2
          rw [pk_un q]; exact r4
        · intro t ht
          refine ⟨(r5 t ht).1, fun b => ?_⟩
          show bt (R' (42 * e + t)) b = _
          rw [g2 _ (by omega)]
          exact (r5 t ht).2 b
      · exact absurd he' q
  · intro e he
    show bt (σ.2.1 1302 ||| ((1 : Int64) <<< (Int32.toInt64 (nI c) &&& 63))) e = true
    rw [bt_or, he, Bool.true_or]
  · show bt (σ.2.1 1302 ||| ((1 : Int64) <<< (Int32.toInt64 (nI c) &&& 63))) c = true
    rw [bt_or, bt_one (by omega), decide_eq_true rfl, Bool.or_true]
/-- how long a ring of a reach lasts -/
def isL (P : pd_T) (c r L : Nat) : Prop := L ≤ 42 ∧ ∀ t, t < L ↔ (t ≤ r ∧ ∃ b, pd_lay P c t b = true)
theorem isL_uni {P : pd_T} {c r L M : Nat} (h : isL P c r L) (g : isL P c r M) : L = M := by
  rcases Nat.lt_trichotomy L M with q | q | q
  · have := (h.2 L).mpr ((g.2 L).mp q); omega
  · exact q
  · have := (g.2 M).mpr ((h.2 M).mp q); omega
/-- a ready cell's row -/
theorem rip_L {P : pd_T} {σ : mm_S} {c r : Nat} (h : r_rip P σ) (hc : bt (σ.2.1 1302) c = true) (hr : r ≤ 99) : ∃ L, isL P c r L ∧ (if nI r + (1 : Int32) < σ.2.2.1 15 c then nI r + (1 : Int32) else σ.2.2.1 15 c) = nI L ∧ ∀ t, t < L → ∀ b, bt (σ.2.2.2 14 (42 * c + t)) b = pd_lay P c t b := by
  obtain ⟨r1, dp, r2, r3, r4, r5, r6⟩ := h c hc
  have key : ∀ t, t < dp ↔ ∃ b, pd_lay P c t b = true := fun t => ⟨fun z => (r5 t z).1, fun ⟨b, hb⟩ => by
    rcases Nat.lt_or_ge t dp with q | q
    · exact q
    · rw [r6 t q b] at hb; cases hb⟩
  rw [r4, show nI r + (1 : Int32) = nI (r + 1) from nI_1 r]
  by_cases q : r + 1 < dp
  · refine ⟨r + 1, ⟨by omega, fun t => ?_⟩, by rw [if_pos (nI_lt q (by omega))], fun t ht => (r5 t (by omega)).2⟩
    rw [← key]; omega
  · refine ⟨dp, ⟨by omega, fun t => ?_⟩, by rw [if_neg (nI_nlt (by omega) (by omega))], fun t ht => (r5 t ht).2⟩
    rw [← key]; omega
theorem isWater_iff {P : pd_T} {σ : mm_S} (hp : r_pc P σ) {c : Nat} (hc : c < pd_n P) : p_isWater σ (nI c) ↔ P.2.2 c = true := by
  have hn := pc_n42 hp
  unfold p_isWater
  rw [hp.2.2.1]
  have e := bt_test (w := σ.2.1 1307) (k := c) (by omega)
  rw [hp.2.2.2.2.2] at e
  constructor
  · intro z
    have z2 : ¬ P.2.2 c = false := fun y => z.2.2 (e.mpr y)
    cases hh : P.2.2 c
    · exact absurd hh z2
    · rfl
  · intro z
    exact ⟨nI_pos (by omega), nI_ge hc (by omega), fun y => by rw [e.mp y] at z; cases z⟩
theorem isWater_of {P : pd_T} {σ : mm_S} (hp : r_pc P σ) {c : Nat} (hcw : P.2.2 c = true) : p_isWater σ (nI c) := (isWater_iff hp (pc_wf hp c hcw)).mpr hcw
theorem c_lasts {d : Nat} {x : Nat × (Nat → Int32)} {P : pd_T} {σ : mm_S} {c r : Nat} (hd : 1 ≤ d) (h : LK P σ) (hcw : P.2.2 c = true) (hr : r ≤ 99) : ∃ (L : Nat) (σ' : mm_S), mm_Runs d 11 (0, [some (.ref 13), some (.int (nI c)), some (.int (nI r))], [], HH x σ) (some (.int (nI L)), HH x σ') ∧ LZ P σ σ' ∧ isL P c r L ∧ ∀ t, t < L → ∀ b, bt (σ'.2.2.2 14 (42 * c + t)) b = pd_lay P c t b := by
  have hw := isWater_of h.1 hcw
  have hn := pc_n42 h.1
  have hc := pc_wf h.1 c hcw
  have cc : (nI c).toNatClampNeg = c := nI_clamp (by omega)
  have g : ¬ (nI c < 0 ∨ 42 ≤ (nI c).toNatClampNeg) := nI_in (by omega) (by omega)
  by_cases q : bt (σ.2.1 1302) c = true
  · have z : ¬ (((Int64.toUInt64 (σ.2.1 1302) >>> ((Int32.toInt64 (nI c)).toUInt64 &&& Int64.toUInt64 63)).toInt64) &&& (1 : Int64)) = (0 : Int64) := fun y => by rw [bt_test (by omega), q] at y; cases y
    obtain ⟨L, l1, l2, l3⟩ := rip_L h.2.2 q hr
    refine ⟨L, σ, ?_, LZ_refl h.2.2, l1, l3⟩
    exact vc_lasts (σ1 := σ) hd (fun _ _ => g) (fun _ _ => by rw [cc, l2]) (fun _ y => absurd y z) (fun _ y => absurd y z) (fun _ y => absurd y z) (fun y => absurd hw y)
  · have z : (((Int64.toUInt64 (σ.2.1 1302) >>> ((Int32.toInt64 (nI c)).toUInt64 &&& Int64.toUInt64 63)).toInt64) &&& (1 : Int64)) = (0 : Int64) := by
      rw [bt_test (by omega)]
      cases hh : bt (σ.2.1 1302) c with
      | false => rfl
      | true => exact absurd hh q
    obtain ⟨σ', s1, s2, s3⟩ := c_spread (d := d - 1) (x := x) h hcw
    obtain ⟨L, l1, l2, l3⟩ := rip_L s2.2.1 s3 hr
    refine ⟨L, σ', ?_, s2, l1, l3⟩
    exact vc_lasts (σ1 := σ') hd (fun _ y => absurd z y) (fun _ y => absurd z y) (fun _ _ => s1) (fun _ _ => g) (fun _ _ => by rw [cc, l2]) (fun y => absurd hw y)
theorem steps_h {d : Nat} {x : Nat × (Nat → Int32)} {P : pd_T} {σ : mm_S} {a b L : Nat} (hn : pd_n P ≤ 42) (hwf : pd_wf P) (ha : a < 42) (hb : b < 42) (hL : isL P a 42 L) (hl : ∀ t, t < L → ∀ b, bt (σ.2.2.2 14 (42 * a + t)) b = pd_lay P a t b) : ∀ (k t : Nat), t + k = L → (∀ s, s < t → pd_lay P a s b = false) → mm_Runs d 10 (30, [some (.ref 13), some (.int (nI a)), some (.int (nI b)), some (.int (nI L)), some (.int (nI t))], [], HH x σ) (some (.int (pd_way P a b)), HH x σ)
  | 0, t, h, hf => by
    have e : t = L := by omega
    subst e
    have hL1 := hL.1
    have hle : nI t ≤ nI t := nI_le (Nat.le_refl _) (by omega)
    refine vc_stepsh (fun _ => ?_) (fun z => absurd hle z) (fun z => absurd hle z) (fun z => absurd hle z)
    rw [show pd_way P a b = -9 from (wy_none hwf hn).mpr (fun s => by
      rcases Nat.lt_or_ge s t with q | q
      · exact hf s q
      · cases hh : pd_lay P a s b with
        | false => rfl
        | true =>
          have h9 := lay_lt hwf hh
          have := (hL.2 s).mpr ⟨by omega, b, hh⟩
          omega)]
  | k + 1, t, h, hf => by
    have hL1 := hL.1
    have hlt : ¬ nI L ≤ nI t := nI_ge (by omega) (by omega)
    have e1 := hl t (by omega) b
    have tst := bt_test (w := σ.2.2.2 14 (42 * a + t)) (k := b) (by omega)
    rw [e1] at tst
    cases hh : pd_lay P a t b with
    | true =>
      rw [hh] at tst
      refine vc_stepsh (fun z => absurd z hlt) (fun _ => by rw [c42]; exact nI_in (by omega) (by omega)) (fun _ z => ?_) (fun _ _ => ?_)
      · rw [c42, nI_clamp (show 42 * a + t < 2 ^ 31 by omega), tst] at z
        cases z
      · rw [((wy_lay hwf hn).mp hh).2]
    | false =>
      rw [hh] at tst
      refine vc_stepsh (fun z => absurd z hlt) (fun _ => by rw [c42]; exact nI_in (by omega) (by omega)) (fun _ _ => ?_) (fun _ z => ?_)
      · rw [show nI t + (1 : Int32) = nI (t + 1) from nI_1 t]
        exact steps_h hn hwf ha hb hL hl k (t + 1) (by omega) (fun s hs => by
          rcases Nat.lt_or_ge s t with q | q
          · exact hf s q
          · have e : s = t := by omega
            subst e; exact hh)
      · rw [c42, nI_clamp (show 42 * a + t < 2 ^ 31 by omega), tst] at z
        exact absurd rfl z
theorem c_steps {d : Nat} {x : Nat × (Nat → Int32)} {P : pd_T} {σ : mm_S} {a b : Nat} (hd : 2 ≤ d) (h : LK P σ) (ha : a < pd_n P) (hb : b < pd_n P) : ∃ σ', mm_Runs d 10 (0, [some (.ref 13), some (.int (nI a)), some (.int (nI b)), none, none], [], HH x σ) (some (.int (pd_way P a b)), HH x σ') ∧ LZ P σ σ' := by
  have hn := pc_n42 h.1
  have hwf := pc_wf h.1
  by_cases qa : P.2.2 a = true
  · by_cases qb : P.2.2 b = true
    · obtain ⟨L, σ', l1, l2, l3, l4⟩ := c_lasts (d := d - 1) (x := x) (r := 42) (by omega) h qa (by omega)
      refine ⟨σ', ?_, l2⟩
      exact vc_steps0 (v1 := nI L) (σ1 := σ') (by omega) (fun z => absurd (isWater_of h.1 qa) z) (fun _ _ => l1) (fun _ _ => steps_h hn hwf (by omega) (by omega) l3 l4 L 0 (by omega) (fun s hs => absurd hs (by omega))) (fun _ z => absurd (isWater_of h.1 qb) z)
    · refine ⟨σ, ?_, LZ_refl h.2.2⟩
      have e : pd_way P a b = -9 := (wy_none hwf hn).mpr (fun t => by
        cases hh : pd_lay P a t b with
        | false => rfl
        | true => exact absurd (bf_lw hh) qb)
      rw [e]
      exact vc_steps0 (v1 := 0) (σ1 := σ) (by omega) (fun _ => rfl) (fun _ z => absurd ((isWater_iff h.1 hb).mp z) qb) (fun _ z => absurd ((isWater_iff h.1 hb).mp z) qb) (fun _ _ => rfl)
  · refine ⟨σ, ?_, LZ_refl h.2.2⟩
    have e0 : ∀ t b, pd_lay P a t b = false := fun t b => bf_end (t := 0) (fun b => by
      rw [bf_0]
      cases hh : P.2.2 a with
      | false => rw [Bool.and_false]
      | true => exact absurd hh qa) (Nat.zero_le t) b
    rw [(wy_none hwf hn).mpr (fun t => e0 t b)]
    exact vc_steps0 (v1 := 0) (σ1 := σ) (by omega) (fun _ => rfl) (fun z => absurd ((isWater_iff h.1 ha).mp z) qa) (fun z => absurd ((isWater_iff h.1 ha).mp z) qa) (fun z => absurd ((isWater_iff h.1 ha).mp z) qa)

