/-! dig (written by wip/whole/t59.py) -/
set_option maxRecDepth 100000 in
theorem vx_md {d : Nat} {x : Nat × (Nat → Int32)} {σ : mm_S} {c : Int32}  {v1 : Int32} {σ1 : mm_S} {r : Option Value × mm_H} (hd : 1 ≤ d) (k1 : mm_Runs (d - 1) 79 (0, [some (.ref 2), none, none], [], HH x (g_turnTo σ ((σ.2.1 1307) ||| ((1 : Int64) <<< (Int32.toInt64 c &&& 63))))) (some (.int v1), HH x σ1)) (k2 : (some (.int (bc32 v1)), HH x (g_turnTo σ1 (σ.2.1 1307))) = r) : mm_Runs d 78 (0, [some (.ref 2), some (.int c), none, none, none], [], HH x σ) r := by
  refine mm_go 11 (F' := (17, [some (.ref 2), some (.int c), some (.long (σ.2.1 1307)), none, none], [.long ((σ.2.1 1307) ||| ((1 : Int64) <<< (Int32.toInt64 c &&& 63))), .ref 13], HH x σ)) rfl ?_
  refine mm_kl (z := 7) (as := [.ref 13, .long ((σ.2.1 1307) ||| ((1 : Int64) <<< (Int32.toInt64 c &&& 63)))]) (S' := []) (L2 := [some (.ref 13), some (.long ((σ.2.1 1307) ||| ((1 : Int64) <<< (Int32.toInt64 c &&& 63)))), none]) (v := none) (h1 := HH x (g_turnTo σ ((σ.2.1 1307) ||| ((1 : Int64) <<< (Int32.toInt64 c &&& 63))))) rfl rfl rfl rfl rfl (by omega) (r_turnTo (by omega)) ?_
  show mm_Runs d 78 (20, [some (.ref 2), some (.int c), some (.long (σ.2.1 1307)), none, none], [], HH x (g_turnTo σ ((σ.2.1 1307) ||| ((1 : Int64) <<< (Int32.toInt64 c &&& 63))))) r
  refine mm_go 1 (F' := (21, [some (.ref 2), some (.int c), some (.long (σ.2.1 1307)), none, none], [.ref 2], HH x (g_turnTo σ ((σ.2.1 1307) ||| ((1 : Int64) <<< (Int32.toInt64 c &&& 63)))))) rfl ?_
  refine mm_kl (z := 79) (as := [.ref 2]) (S' := []) (L2 := [some (.ref 2), none, none]) (v := some (.int v1)) (h1 := HH x σ1) rfl rfl rfl rfl rfl (by omega) k1 ?_
  show mm_Runs d 78 (24, [some (.ref 2), some (.int c), some (.long (σ.2.1 1307)), none, none], [.int v1], HH x σ1) r
  refine mm_kl (z := 154) (as := [.int v1]) (S' := []) (L2 := [some (.int v1)]) (v := some (.int (bc32 v1))) (h1 := HH x σ1) rfl rfl rfl rfl rfl (by omega) (r_bc32 (by omega)) ?_
  show mm_Runs d 78 (27, [some (.ref 2), some (.int c), some (.long (σ.2.1 1307)), none, none], [.int (bc32 v1)], HH x σ1) r
  refine mm_go 4 (F' := (34, [some (.ref 2), some (.int c), some (.long (σ.2.1 1307)), none, some (.int (bc32 v1))], [.long (σ.2.1 1307), .ref 13], HH x σ1)) rfl ?_
  refine mm_kl (z := 7) (as := [.ref 13, .long (σ.2.1 1307)]) (S' := []) (L2 := [some (.ref 13), some (.long (σ.2.1 1307)), none]) (v := none) (h1 := HH x (g_turnTo σ1 (σ.2.1 1307))) rfl rfl rfl rfl rfl (by omega) (r_turnTo (by omega)) ?_
  show mm_Runs d 78 (37, [some (.ref 2), some (.int c), some (.long (σ.2.1 1307)), none, some (.int (bc32 v1))], [], HH x (g_turnTo σ1 (σ.2.1 1307))) r
  refine mm_go 1 (F' := (39, [some (.ref 2), some (.int c), some (.long (σ.2.1 1307)), none, some (.int (bc32 v1))], [.int (bc32 v1)], HH x (g_turnTo σ1 (σ.2.1 1307)))) rfl ?_
  exact mm_rt rfl rfl k2
theorem vx_md_p0 {d : Nat} {x : Nat × (Nat → Int32)} {σ : mm_S} {c : Int32}  {v1 : Int32} {σ1 : mm_S} (hd : 1 ≤ d) (g1 : mm_Runs (d - 1) 79 (0, [some (.ref 2), none, none], [], HH x (g_turnTo σ ((σ.2.1 1307) ||| ((1 : Int64) <<< (Int32.toInt64 c &&& 63))))) (some (.int v1), HH x σ1)) : mm_Runs d 78 (0, [some (.ref 2), some (.int c), none, none, none], [], HH x σ) (some (.int (bc32 v1)), HH x (g_turnTo σ1 (σ.2.1 1307))) := vx_md (v1 := v1) (σ1 := σ1) hd g1 rfl
set_option maxRecDepth 100000 in
theorem vx_dig0 {d : Nat} {x : Nat × (Nat → Int32)} {σ : mm_S} {w : Int32}  {v1 : Int32} {σ1 : mm_S} {r : Option Value × mm_H} (hd : 1 ≤ d) (k1 : w < 0 → (some (.int (-2 : Int32)), HH x σ) = r) (k2 : ¬ w < 0 → w ≤ (1 : Int32) → mm_Runs (d - 1) 79 (0, [some (.ref 2), none, none], [], HH x σ) (some (.int v1), HH x σ1)) (k3 : ¬ w < 0 → w ≤ (1 : Int32) → mm_Runs d 58 (26, [some (.ref 2), some (.int w), some (.int (bc32 v1)), some (.int (-9 : Int32)), some (.int (0 : Int32)), none], [], HH x σ1) r) (k4 : ¬ w < 0 → ¬ w ≤ (1 : Int32) → (some (.int (-2 : Int32)), HH x σ) = r) : mm_Runs d 58 (0, [some (.ref 2), some (.int w), none, none, none, none], [], HH x σ) r := by
  refine mm_go 2 (F' := (bif mm_cond .lt w 0 then 9 else 4, [some (.ref 2), some (.int w), none, none, none, none], [], HH x σ)) rfl ?_
  refine mb_lt (fun h1 => ?_) (fun h1 => ?_)
  · refine mm_go 1 (F' := (11, [some (.ref 2), some (.int w), none, none, none, none], [.int (-2 : Int32)], HH x σ)) rfl ?_
    exact mm_rt rfl rfl (k1 h1)
  · refine mm_go 3 (F' := (bif mm_cond .le w (1 : Int32) then 12 else 9, [some (.ref 2), some (.int w), none, none, none, none], [], HH x σ)) rfl ?_
    refine mb_le (fun h2 => ?_) (fun h2 => ?_)
    · refine mm_go 1 (F' := (13, [some (.ref 2), some (.int w), none, none, none, none], [.ref 2], HH x σ)) rfl ?_
      refine mm_kl (z := 79) (as := [.ref 2]) (S' := []) (L2 := [some (.ref 2), none, none]) (v := some (.int v1)) (h1 := HH x σ1) rfl rfl rfl rfl rfl (by omega) (k2 h1 h2) ?_
      show mm_Runs d 58 (16, [some (.ref 2), some (.int w), none, none, none, none], [.int v1], HH x σ1) r
      refine mm_kl (z := 154) (as := [.int v1]) (S' := []) (L2 := [some (.int v1)]) (v := some (.int (bc32 v1))) (h1 := HH x σ1) rfl rfl rfl rfl rfl (by omega) (r_bc32 (by omega)) ?_
      show mm_Runs d 58 (19, [some (.ref 2), some (.int w), none, none, none, none], [.int (bc32 v1)], HH x σ1) r
      refine mm_go 5 (F' := (26, [some (.ref 2), some (.int w), some (.int (bc32 v1)), some (.int (-9 : Int32)), some (.int (0 : Int32)), none], [], HH x σ1)) rfl ?_
      exact mm_wk (by exact (And.intro rfl (And.intro rfl (And.intro rfl (And.intro rfl (And.intro rfl True.intro)))))) (k3 h1 h2)
    · refine mm_go 1 (F' := (11, [some (.ref 2), some (.int w), none, none, none, none], [.int (-2 : Int32)], HH x σ)) rfl ?_
      exact mm_rt rfl rfl (k4 h1 h2)
theorem vx_dig0_p0 {d : Nat} {x : Nat × (Nat → Int32)} {σ : mm_S} {w : Int32}  {v1 : Int32} {σ1 : mm_S} (hd : 1 ≤ d) (h1 : w < 0) : mm_Runs d 58 (0, [some (.ref 2), some (.int w), none, none, none, none], [], HH x σ) (some (.int (-2 : Int32)), HH x σ) := vx_dig0 (v1 := v1) (σ1 := σ1) hd (fun _ => rfl) (fun  z _ => absurd h1 z) (fun  z _ => absurd h1 z) (fun  z _ => absurd h1 z)
theorem vx_dig0_p1 {d : Nat} {x : Nat × (Nat → Int32)} {σ : mm_S} {w : Int32}  {v1 : Int32} {σ1 : mm_S} {r : Option Value × mm_H} (hd : 1 ≤ d) (h1 : ¬ w < 0) (h2 : w ≤ (1 : Int32)) (g1 : mm_Runs (d - 1) 79 (0, [some (.ref 2), none, none], [], HH x σ) (some (.int v1), HH x σ1)) (kk : mm_Runs d 58 (26, [some (.ref 2), some (.int w), some (.int (bc32 v1)), some (.int (-9 : Int32)), some (.int (0 : Int32)), none], [], HH x σ1) r) : mm_Runs d 58 (0, [some (.ref 2), some (.int w), none, none, none, none], [], HH x σ) r := vx_dig0 (v1 := v1) (σ1 := σ1) hd (fun  z => absurd z h1) (fun _ _ => g1) (fun _ _ => kk) (fun _ z => absurd h2 z)
theorem vx_dig0_p2 {d : Nat} {x : Nat × (Nat → Int32)} {σ : mm_S} {w : Int32}  {v1 : Int32} {σ1 : mm_S} (hd : 1 ≤ d) (h1 : ¬ w < 0) (h2 : ¬ w ≤ (1 : Int32)) : mm_Runs d 58 (0, [some (.ref 2), some (.int w), none, none, none, none], [], HH x σ) (some (.int (-2 : Int32)), HH x σ) := vx_dig0 (v1 := v1) (σ1 := σ1) hd (fun  z => absurd z h1) (fun _ z => absurd z h2) (fun _ z => absurd z h2) (fun _ _ => rfl)
set_option maxRecDepth 100000 in
theorem vx_digh {d : Nat} {x : Nat × (Nat → Int32)} {σ : mm_S} {w m p c : Int32}  {v1 : Int32} {σ1 : mm_S} {r : Option Value × mm_H} (hd : 1 ≤ d) (k1 : (σ.1 1305) ≤ c → ¬ w = 0 → (some (.int m), HH x σ) = r) (k2 : (σ.1 1305) ≤ c → w = 0 → (some (.int p), HH x σ) = r) (k3 : ¬ (σ.1 1305) ≤ c → (σ.1 2003) ≤ m → ¬ w = 0 → (some (.int m), HH x σ) = r) (k4 : ¬ (σ.1 1305) ≤ c → (σ.1 2003) ≤ m → w = 0 → (some (.int p), HH x σ) = r) (k5 : ¬ (σ.1 1305) ≤ c → ¬ (σ.1 2003) ≤ m → (p_isWater σ c) → mm_Runs d 58 (26, [some (.ref 2), some (.int w), some (.int m), some (.int p), some (.int (c + (1 : Int32))), none], [], HH x σ) r) (k6 : ¬ (σ.1 1305) ≤ c → ¬ (σ.1 2003) ≤ m → ¬ (p_isWater σ c) → mm_Runs (d - 1) 78 (0, [some (.ref 2), some (.int c), none, none, none], [], HH x σ) (some (.int v1), HH x σ1)) (k7 : ¬ (σ.1 1305) ≤ c → ¬ (σ.1 2003) ≤ m → ¬ (p_isWater σ c) → v1 ≤ m → mm_Runs d 58 (26, [some (.ref 2), some (.int w), some (.int m), some (.int p), some (.int (c + (1 : Int32))), none], [], HH x σ1) r) (k8 : ¬ (σ.1 1305) ≤ c → ¬ (σ.1 2003) ≤ m → ¬ (p_isWater σ c) → ¬ v1 ≤ m → mm_Runs d 58 (26, [some (.ref 2), some (.int w), some (.int v1), some (.int c), some (.int (c + (1 : Int32))), none], [], HH x σ1) r) : mm_Runs d 58 (26, [some (.ref 2), some (.int w), some (.int m), some (.int p), some (.int c), none], [], HH x σ) r := by
  refine mm_go 5 (F' := (bif mm_cond .ge c (σ.1 1305) then 87 else 38, [some (.ref 2), some (.int w), some (.int m), some (.int p), some (.int c), none], [], HH x σ)) rfl ?_
  refine mb_ge (fun h1 => ?_) (fun h1 => ?_)
  · refine mm_go 2 (F' := (bif mm_cond .ne w 0 then 95 else 91, [some (.ref 2), some (.int w), some (.int m), some (.int p), some (.int c), none], [], HH x σ)) rfl ?_
    refine mb_ne (fun h2 => ?_) (fun h2 => ?_)
    · refine mm_go 1 (F' := (96, [some (.ref 2), some (.int w), some (.int m), some (.int p), some (.int c), none], [.int m], HH x σ)) rfl ?_
      exact mm_rt rfl rfl (k1 h1 h2)
    · refine mm_go 2 (F' := (96, [some (.ref 2), some (.int w), some (.int m), some (.int p), some (.int c), none], [.int p], HH x σ)) rfl ?_
      exact mm_rt rfl rfl (k2 h1 h2)
  · refine mm_go 5 (F' := (bif mm_cond .ge m (σ.1 2003) then 87 else 49, [some (.ref 2), some (.int w), some (.int m), some (.int p), some (.int c), none], [], HH x σ)) rfl ?_
    refine mb_ge (fun h3 => ?_) (fun h3 => ?_)
    · refine mm_go 2 (F' := (bif mm_cond .ne w 0 then 95 else 91, [some (.ref 2), some (.int w), some (.int m), some (.int p), some (.int c), none], [], HH x σ)) rfl ?_
      refine mb_ne (fun h4 => ?_) (fun h4 => ?_)
      · refine mm_go 1 (F' := (96, [some (.ref 2), some (.int w), some (.int m), some (.int p), some (.int c), none], [.int m], HH x σ)) rfl ?_
        exact mm_rt rfl rfl (k3 h1 h3 h4)
      · refine mm_go 2 (F' := (96, [some (.ref 2), some (.int w), some (.int m), some (.int p), some (.int c), none], [.int p], HH x σ)) rfl ?_
        exact mm_rt rfl rfl (k4 h1 h3 h4)
    · refine mm_go 3 (F' := (55, [some (.ref 2), some (.int w), some (.int m), some (.int p), some (.int c), none], [.int c, .ref 13], HH x σ)) rfl ?_
      refine mm_kl (z := 9) (as := [.ref 13, .int c]) (S' := []) (L2 := [some (.ref 13), some (.int c)]) (v := some (.int (mm_b (p_isWater σ c)))) (h1 := HH x σ) rfl rfl rfl rfl rfl (by omega) (r_isWater (by omega)) ?_
      show mm_Runs d 58 (58, [some (.ref 2), some (.int w), some (.int m), some (.int p), some (.int c), none], [.int (mm_b (p_isWater σ c))], HH x σ) r
      refine mm_go 1 (F' := (bif mm_cond .ne (mm_b (p_isWater σ c)) 0 then 81 else 61, [some (.ref 2), some (.int w), some (.int m), some (.int p), some (.int c), none], [], HH x σ)) rfl ?_
      refine mb_bne (fun h5 => ?_) (fun h5 => ?_)
      · refine mm_go 2 (F' := (26, [some (.ref 2), some (.int w), some (.int m), some (.int p), some (.int (c + (1 : Int32))), none], [], HH x σ)) rfl ?_
        exact mm_wk (by exact (And.intro rfl (And.intro rfl (And.intro rfl (And.intro rfl (And.intro rfl True.intro)))))) (k5 h1 h3 h5)
      · refine mm_go 2 (F' := (64, [some (.ref 2), some (.int w), some (.int m), some (.int p), some (.int c), none], [.int c, .ref 2], HH x σ)) rfl ?_
        refine mm_kl (z := 78) (as := [.ref 2, .int c]) (S' := []) (L2 := [some (.ref 2), some (.int c), none, none, none]) (v := some (.int v1)) (h1 := HH x σ1) rfl rfl rfl rfl rfl (by omega) (k6 h1 h3 h5) ?_
        show mm_Runs d 58 (67, [some (.ref 2), some (.int w), some (.int m), some (.int p), some (.int c), none], [.int v1], HH x σ1) r
        refine mm_go 4 (F' := (bif mm_cond .le v1 m then 81 else 75, [some (.ref 2), some (.int w), some (.int m), some (.int p), some (.int c), some (.int v1)], [], HH x σ1)) rfl ?_
        refine mb_le (fun h6 => ?_) (fun h6 => ?_)
        · refine mm_go 2 (F' := (26, [some (.ref 2), some (.int w), some (.int m), some (.int p), some (.int (c + (1 : Int32))), some (.int v1)], [], HH x σ1)) rfl ?_
          exact mm_wk (by exact (And.intro rfl (And.intro rfl (And.intro rfl (And.intro rfl (And.intro rfl True.intro)))))) (k7 h1 h3 h5 h6)
        · refine mm_go 6 (F' := (26, [some (.ref 2), some (.int w), some (.int v1), some (.int c), some (.int (c + (1 : Int32))), some (.int v1)], [], HH x σ1)) rfl ?_
          exact mm_wk (by exact (And.intro rfl (And.intro rfl (And.intro rfl (And.intro rfl (And.intro rfl True.intro)))))) (k8 h1 h3 h5 h6)
theorem vx_digh_p0 {d : Nat} {x : Nat × (Nat → Int32)} {σ : mm_S} {w m p c : Int32}  {v1 : Int32} {σ1 : mm_S} (hd : 1 ≤ d) (h1 : (σ.1 1305) ≤ c) (h2 : ¬ w = 0) : mm_Runs d 58 (26, [some (.ref 2), some (.int w), some (.int m), some (.int p), some (.int c), none], [], HH x σ) (some (.int m), HH x σ) := vx_digh (v1 := v1) (σ1 := σ1) hd (fun _ _ => rfl) (fun _ z => absurd z h2) (fun  z _ _ => absurd h1 z) (fun  z _ _ => absurd h1 z) (fun  z _ _ => absurd h1 z) (fun  z _ _ => absurd h1 z) (fun  z _ _ _ => absurd h1 z) (fun  z _ _ _ => absurd h1 z)
theorem vx_digh_p1 {d : Nat} {x : Nat × (Nat → Int32)} {σ : mm_S} {w m p c : Int32}  {v1 : Int32} {σ1 : mm_S} (hd : 1 ≤ d) (h1 : (σ.1 1305) ≤ c) (h2 : w = 0) : mm_Runs d 58 (26, [some (.ref 2), some (.int w), some (.int m), some (.int p), some (.int c), none], [], HH x σ) (some (.int p), HH x σ) := vx_digh (v1 := v1) (σ1 := σ1) hd (fun _ z => absurd h2 z) (fun _ _ => rfl) (fun  z _ _ => absurd h1 z) (fun  z _ _ => absurd h1 z) (fun  z _ _ => absurd h1 z) (fun  z _ _ => absurd h1 z) (fun  z _ _ _ => absurd h1 z) (fun  z _ _ _ => absurd h1 z)
theorem vx_digh_p2 {d : Nat} {x : Nat × (Nat → Int32)} {σ : mm_S} {w m p c : Int32}  {v1 : Int32} {σ1 : mm_S} (hd : 1 ≤ d) (h1 : ¬ (σ.1 1305) ≤ c) (h2 : (σ.1 2003) ≤ m) (h3 : ¬ w = 0) : mm_Runs d 58 (26, [some (.ref 2), some (.int w), some (.int m), some (.int p), some (.int c), none], [], HH x σ) (some (.int m), HH x σ) := vx_digh (v1 := v1) (σ1 := σ1) hd (fun  z _ => absurd z h1) (fun  z _ => absurd z h1) (fun _ _ _ => rfl) (fun _ _ z => absurd z h3) (fun _ z _ => absurd h2 z) (fun _ z _ => absurd h2 z) (fun _ z _ _ => absurd h2 z) (fun _ z _ _ => absurd h2 z)
theorem vx_digh_p3 {d : Nat} {x : Nat × (Nat → Int32)} {σ : mm_S} {w m p c : Int32}  {v1 : Int32} {σ1 : mm_S} (hd : 1 ≤ d) (h1 : ¬ (σ.1 1305) ≤ c) (h2 : (σ.1 2003) ≤ m) (h3 : w = 0) : mm_Runs d 58 (26, [some (.ref 2), some (.int w), some (.int m), some (.int p), some (.int c), none], [], HH x σ) (some (.int p), HH x σ) := vx_digh (v1 := v1) (σ1 := σ1) hd (fun  z _ => absurd z h1) (fun  z _ => absurd z h1) (fun _ _ z => absurd h3 z) (fun _ _ _ => rfl) (fun _ z _ => absurd h2 z) (fun _ z _ => absurd h2 z) (fun _ z _ _ => absurd h2 z) (fun _ z _ _ => absurd h2 z)
theorem vx_digh_p4 {d : Nat} {x : Nat × (Nat → Int32)} {σ : mm_S} {w m p c : Int32}  {v1 : Int32} {σ1 : mm_S} {r : Option Value × mm_H} (hd : 1 ≤ d) (h1 : ¬ (σ.1 1305) ≤ c) (h2 : ¬ (σ.1 2003) ≤ m) (h3 : (p_isWater σ c)) (kk : mm_Runs d 58 (26, [some (.ref 2), some (.int w), some (.int m), some (.int p), some (.int (c + (1 : Int32))), none], [], HH x σ) r) : mm_Runs d 58 (26, [some (.ref 2), some (.int w), some (.int m), some (.int p), some (.int c), none], [], HH x σ) r := vx_digh (v1 := v1) (σ1 := σ1) hd (fun  z _ => absurd z h1) (fun  z _ => absurd z h1) (fun _ z _ => absurd z h2) (fun _ z _ => absurd z h2) (fun _ _ _ => kk) (fun _ _ z => absurd h3 z) (fun _ _ z _ => absurd h3 z) (fun _ _ z _ => absurd h3 z)
theorem vx_digh_p5 {d : Nat} {x : Nat × (Nat → Int32)} {σ : mm_S} {w m p c : Int32}  {v1 : Int32} {σ1 : mm_S} {r : Option Value × mm_H} (hd : 1 ≤ d) (h1 : ¬ (σ.1 1305) ≤ c) (h2 : ¬ (σ.1 2003) ≤ m) (h3 : ¬ (p_isWater σ c)) (h4 : v1 ≤ m) (g1 : mm_Runs (d - 1) 78 (0, [some (.ref 2), some (.int c), none, none, none], [], HH x σ) (some (.int v1), HH x σ1)) (kk : mm_Runs d 58 (26, [some (.ref 2), some (.int w), some (.int m), some (.int p), some (.int (c + (1 : Int32))), none], [], HH x σ1) r) : mm_Runs d 58 (26, [some (.ref 2), some (.int w), some (.int m), some (.int p), some (.int c), none], [], HH x σ) r := vx_digh (v1 := v1) (σ1 := σ1) hd (fun  z _ => absurd z h1) (fun  z _ => absurd z h1) (fun _ z _ => absurd z h2) (fun _ z _ => absurd z h2) (fun _ _ z => absurd z h3) (fun _ _ _ => g1) (fun _ _ _ _ => kk) (fun _ _ _ z => absurd h4 z)
theorem vx_digh_p6 {d : Nat} {x : Nat × (Nat → Int32)} {σ : mm_S} {w m p c : Int32}  {v1 : Int32} {σ1 : mm_S} {r : Option Value × mm_H} (hd : 1 ≤ d) (h1 : ¬ (σ.1 1305) ≤ c) (h2 : ¬ (σ.1 2003) ≤ m) (h3 : ¬ (p_isWater σ c)) (h4 : ¬ v1 ≤ m) (g1 : mm_Runs (d - 1) 78 (0, [some (.ref 2), some (.int c), none, none, none], [], HH x σ) (some (.int v1), HH x σ1)) (kk : mm_Runs d 58 (26, [some (.ref 2), some (.int w), some (.int v1), some (.int c), some (.int (c + (1 : Int32))), none], [], HH x σ1) r) : mm_Runs d 58 (26, [some (.ref 2), some (.int w), some (.int m), some (.int p), some (.int c), none], [], HH x σ) r := vx_digh (v1 := v1) (σ1 := σ1) hd (fun  z _ => absurd z h1) (fun  z _ => absurd z h1) (fun _ z _ => absurd z h2) (fun _ z _ => absurd z h2) (fun _ _ z => absurd z h3) (fun _ _ _ => g1) (fun _ _ _ z => absurd z h4) (fun _ _ _ _ => kk)
set_option maxRecDepth 100000 in
theorem vx_m_dig0 {d : Nat} {x : Nat × (Nat → Int32)} {σ : mm_S} {w : Int32}  {v1 v2 : Int32} {σ1 : mm_S} {r : Option Value × mm_H} (hd : 1 ≤ d) (k1 : (p_m_within σ w (0 : Int32) (1 : Int32)) → mm_Runs (d - 1) 129 (0, [some (.ref 37), none, none], [], HH x σ) (some (.int v1), HH x σ1)) (k2 : (p_m_within σ w (0 : Int32) (1 : Int32)) → mm_Runs (d - 1) 127 (0, [some (.int v1), none, none], [], HH x σ1) (some (.int v2), HH x σ1)) (k3 : (p_m_within σ w (0 : Int32) (1 : Int32)) → mm_Runs d 141 (26, [some (.ref 37), some (.int w), some (.int (-9 : Int32)), some (.int v2), some (.int (0 : Int32)), none], [], HH x σ1) r) (k4 : ¬ (p_m_within σ w (0 : Int32) (1 : Int32)) → (some (.int (-2 : Int32)), HH x σ) = r) : mm_Runs d 141 (0, [some (.ref 37), some (.int w), none, none, none, none], [], HH x σ) r := by
  refine mm_go 3 (F' := (3, [some (.ref 37), some (.int w), none, none, none, none], [.int (1 : Int32), .int (0 : Int32), .int w], HH x σ)) rfl ?_
  refine mm_kl (z := 90) (as := [.int w, .int (0 : Int32), .int (1 : Int32)]) (S' := []) (L2 := [some (.int w), some (.int (0 : Int32)), some (.int (1 : Int32))]) (v := some (.int (mm_b (p_m_within σ w (0 : Int32) (1 : Int32))))) (h1 := HH x σ) rfl rfl rfl rfl rfl (by omega) (r_m_within (by omega)) ?_
  show mm_Runs d 141 (6, [some (.ref 37), some (.int w), none, none, none, none], [.int (mm_b (p_m_within σ w (0 : Int32) (1 : Int32)))], HH x σ) r
  refine mm_go 1 (F' := (bif mm_cond .ne (mm_b (p_m_within σ w (0 : Int32) (1 : Int32))) 0 then 12 else 9, [some (.ref 37), some (.int w), none, none, none, none], [], HH x σ)) rfl ?_
  refine mb_bne (fun h1 => ?_) (fun h1 => ?_)
  · refine mm_go 3 (F' := (16, [some (.ref 37), some (.int w), some (.int (-9 : Int32)), none, none, none], [.ref 37], HH x σ)) rfl ?_
    refine mm_kl (z := 129) (as := [.ref 37]) (S' := []) (L2 := [some (.ref 37), none, none]) (v := some (.int v1)) (h1 := HH x σ1) rfl rfl rfl rfl rfl (by omega) (k1 h1) ?_
    show mm_Runs d 141 (19, [some (.ref 37), some (.int w), some (.int (-9 : Int32)), none, none, none], [.int v1], HH x σ1) r
    refine mm_kl (z := 127) (as := [.int v1]) (S' := []) (L2 := [some (.int v1), none, none]) (v := some (.int v2)) (h1 := HH x σ1) rfl rfl rfl rfl rfl (by omega) (k2 h1) ?_
    show mm_Runs d 141 (22, [some (.ref 37), some (.int w), some (.int (-9 : Int32)), none, none, none], [.int v2], HH x σ1) r
    refine mm_go 3 (F' := (26, [some (.ref 37), some (.int w), some (.int (-9 : Int32)), some (.int v2), some (.int (0 : Int32)), none], [], HH x σ1)) rfl ?_
    exact mm_wk (by exact (And.intro rfl (And.intro rfl (And.intro rfl (And.intro rfl (And.intro rfl True.intro)))))) (k3 h1)
  · refine mm_go 1 (F' := (11, [some (.ref 37), some (.int w), none, none, none, none], [.int (-2 : Int32)], HH x σ)) rfl ?_
    exact mm_rt rfl rfl (k4 h1)
theorem vx_m_dig0_p0 {d : Nat} {x : Nat × (Nat → Int32)} {σ : mm_S} {w : Int32}  {v1 v2 : Int32} {σ1 : mm_S} {r : Option Value × mm_H} (hd : 1 ≤ d) (h1 : (p_m_within σ w (0 : Int32) (1 : Int32))) (g1 : mm_Runs (d - 1) 129 (0, [some (.ref 37), none, none], [], HH x σ) (some (.int v1), HH x σ1)) (g2 : mm_Runs (d - 1) 127 (0, [some (.int v1), none, none], [], HH x σ1) (some (.int v2), HH x σ1)) (kk : mm_Runs d 141 (26, [some (.ref 37), some (.int w), some (.int (-9 : Int32)), some (.int v2), some (.int (0 : Int32)), none], [], HH x σ1) r) : mm_Runs d 141 (0, [some (.ref 37), some (.int w), none, none, none, none], [], HH x σ) r := vx_m_dig0 (v1 := v1) (v2 := v2) (σ1 := σ1) hd (fun _ => g1) (fun _ => g2) (fun _ => kk) (fun  z => absurd h1 z)
theorem vx_m_dig0_p1 {d : Nat} {x : Nat × (Nat → Int32)} {σ : mm_S} {w : Int32}  {v1 v2 : Int32} {σ1 : mm_S} (hd : 1 ≤ d) (h1 : ¬ (p_m_within σ w (0 : Int32) (1 : Int32))) : mm_Runs d 141 (0, [some (.ref 37), some (.int w), none, none, none, none], [], HH x σ) (some (.int (-2 : Int32)), HH x σ) := vx_m_dig0 (v1 := v1) (v2 := v2) (σ1 := σ1) hd (fun  z => absurd z h1) (fun  z => absurd z h1) (fun  z => absurd z h1) (fun _ => rfl)
set_option maxRecDepth 100000 in
theorem vx_m_digh {d : Nat} {x : Nat × (Nat → Int32)} {σ : mm_S} {w b m c : Int32}  {v3 v4 : Int32} {σ1 σ2 σ3 : mm_S} {r : Option Value × mm_H} (hd : 1 ≤ d) (k1 : (f_m_all σ) ≤ c → mm_Runs (d - 1) 101 (0, [some (.ref 37), none, none], [], HH x σ) (none, HH x σ1)) (k2 : (f_m_all σ) ≤ c → ¬ w = 0 → (some (.int m), HH x σ1) = r) (k3 : (f_m_all σ) ≤ c → w = 0 → (some (.int b), HH x σ1) = r) (k4 : ¬ (f_m_all σ) ≤ c → ¬ (c < 0 ∨ 42 ≤ c.toNatClampNeg)) (k5 : ¬ (f_m_all σ) ≤ c → ¬ ((σ.2.2.1 41) c.toNatClampNeg) = 0 → mm_Runs d 141 (26, [some (.ref 37), some (.int w), some (.int b), some (.int m), some (.int (c + (1 : Int32))), none], [], HH x σ) r) (k6 : ¬ (f_m_all σ) ≤ c → ((σ.2.2.1 41) c.toNatClampNeg) = 0 → ¬ (c < 0 ∨ 42 ≤ c.toNatClampNeg)) (k7 : ¬ (f_m_all σ) ≤ c → ((σ.2.2.1 41) c.toNatClampNeg) = 0 → mm_Runs (d - 1) 101 (0, [some (.ref 37), none, none], [], HH x (ua σ 41 (upd (σ.2.2.1 41) c.toNatClampNeg (1 : Int32)))) (none, HH x σ2)) (k8 : ¬ (f_m_all σ) ≤ c → ((σ.2.2.1 41) c.toNatClampNeg) = 0 → mm_Runs (d - 1) 129 (0, [some (.ref 37), none, none], [], HH x σ2) (some (.int v3), HH x σ3)) (k9 : ¬ (f_m_all σ) ≤ c → ((σ.2.2.1 41) c.toNatClampNeg) = 0 → mm_Runs (d - 1) 127 (0, [some (.int v3), none, none], [], HH x σ3) (some (.int v4), HH x σ3)) (k10 : ¬ (f_m_all σ) ≤ c → ((σ.2.2.1 41) c.toNatClampNeg) = 0 → ¬ (c < 0 ∨ 42 ≤ c.toNatClampNeg)) (k11 : ¬ (f_m_all σ) ≤ c → ((σ.2.2.1 41) c.toNatClampNeg) = 0 → v4 ≤ m → mm_Runs d 141 (26, [some (.ref 37), some (.int w), some (.int b), some (.int m), some (.int (c + (1 : Int32))), none], [], HH x (ua σ3 41 (upd (σ3.2.2.1 41) c.toNatClampNeg (0 : Int32)))) r) (k12 : ¬ (f_m_all σ) ≤ c → ((σ.2.2.1 41) c.toNatClampNeg) = 0 → ¬ v4 ≤ m → mm_Runs d 141 (26, [some (.ref 37), some (.int w), some (.int c), some (.int v4), some (.int (c + (1 : Int32))), none], [], HH x (ua σ3 41 (upd (σ3.2.2.1 41) c.toNatClampNeg (0 : Int32)))) r) : mm_Runs d 141 (26, [some (.ref 37), some (.int w), some (.int b), some (.int m), some (.int c), none], [], HH x σ) r := by
  refine mm_go 2 (F' := (29, [some (.ref 37), some (.int w), some (.int b), some (.int m), some (.int c), none], [.ref 37, .int c], HH x σ)) rfl ?_
  refine mm_kl (z := 94) (as := [.ref 37]) (S' := [.int c]) (L2 := [some (.ref 37)]) (v := some (.int (f_m_all σ))) (h1 := HH x σ) rfl rfl rfl rfl rfl (by omega) (r_m_all (by omega)) ?_
  show mm_Runs d 141 (32, [some (.ref 37), some (.int w), some (.int b), some (.int m), some (.int c), none], [.int (f_m_all σ), .int c], HH x σ) r
  refine mm_go 1 (F' := (bif mm_cond .ge c (f_m_all σ) then 92 else 35, [some (.ref 37), some (.int w), some (.int b), some (.int m), some (.int c), none], [], HH x σ)) rfl ?_
  refine mb_ge (fun h1 => ?_) (fun h1 => ?_)
  · refine mm_go 1 (F' := (93, [some (.ref 37), some (.int w), some (.int b), some (.int m), some (.int c), none], [.ref 37], HH x σ)) rfl ?_
    refine mm_kl (z := 101) (as := [.ref 37]) (S' := []) (L2 := [some (.ref 37), none, none]) (v := none) (h1 := HH x σ1) rfl rfl rfl rfl rfl (by omega) (k1 h1) ?_
    show mm_Runs d 141 (96, [some (.ref 37), some (.int w), some (.int b), some (.int m), some (.int c), none], [], HH x σ1) r
    refine mm_go 2 (F' := (bif mm_cond .ne w 0 then 104 else 100, [some (.ref 37), some (.int w), some (.int b), some (.int m), some (.int c), none], [], HH x σ1)) rfl ?_
    refine mb_ne (fun h2 => ?_) (fun h2 => ?_)
    · refine mm_go 1 (F' := (105, [some (.ref 37), some (.int w), some (.int b), some (.int m), some (.int c), none], [.int m], HH x σ1)) rfl ?_
      exact mm_rt rfl rfl (k2 h1 h2)
    · refine mm_go 2 (F' := (105, [some (.ref 37), some (.int w), some (.int b), some (.int m), some (.int c), none], [.int b], HH x σ1)) rfl ?_
      exact mm_rt rfl rfl (k3 h1 h2)
  · refine mm_go 3 (F' := (41, [some (.ref 37), some (.int w), some (.int b), some (.int m), some (.int c), none], [.int c, .ref 41], HH x σ)) rfl ?_
    refine mm_gd (F' := (42, [some (.ref 37), some (.int w), some (.int b), some (.int m), some (.int c), none], [.int ((σ.2.2.1 41) c.toNatClampNeg)], HH x σ)) rfl (k4 h1) ?_
    refine mm_go 1 (F' := (bif mm_cond .ne ((σ.2.2.1 41) c.toNatClampNeg) 0 then 86 else 45, [some (.ref 37), some (.int w), some (.int b), some (.int m), some (.int c), none], [], HH x σ)) rfl ?_
    refine mb_ne (fun h3 => ?_) (fun h3 => ?_)
    · refine mm_go 2 (F' := (26, [some (.ref 37), some (.int w), some (.int b), some (.int m), some (.int (c + (1 : Int32))), none], [], HH x σ)) rfl ?_
      exact mm_wk (by exact (And.intro rfl (And.intro rfl (And.intro rfl (And.intro rfl (And.intro rfl True.intro)))))) (k5 h1 h3)
    · refine mm_go 4 (F' := (52, [some (.ref 37), some (.int w), some (.int b), some (.int m), some (.int c), none], [.int (1 : Int32), .int c, .ref 41], HH x σ)) rfl ?_
      refine mm_gdt (b := (1 : Int32) = 0 ∨ (1 : Int32) = 1) (F' := (53, [some (.ref 37), some (.int w), some (.int b), some (.int m), some (.int c), none], [], HH x (ua σ 41 (upd (σ.2.2.1 41) c.toNatClampNeg (1 : Int32))))) rfl (k6 h1 h3) (Or.inr rfl) ?_
      refine mm_go 1 (F' := (54, [some (.ref 37), some (.int w), some (.int b), some (.int m), some (.int c), none], [.ref 37], HH x (ua σ 41 (upd (σ.2.2.1 41) c.toNatClampNeg (1 : Int32))))) rfl ?_
      refine mm_kl (z := 101) (as := [.ref 37]) (S' := []) (L2 := [some (.ref 37), none, none]) (v := none) (h1 := HH x σ2) rfl rfl rfl rfl rfl (by omega) (k7 h1 h3) ?_
      show mm_Runs d 141 (57, [some (.ref 37), some (.int w), some (.int b), some (.int m), some (.int c), none], [], HH x σ2) r
      refine mm_go 1 (F' := (58, [some (.ref 37), some (.int w), some (.int b), some (.int m), some (.int c), none], [.ref 37], HH x σ2)) rfl ?_
      refine mm_kl (z := 129) (as := [.ref 37]) (S' := []) (L2 := [some (.ref 37), none, none]) (v := some (.int v3)) (h1 := HH x σ3) rfl rfl rfl rfl rfl (by omega) (k8 h1 h3) ?_
      show mm_Runs d 141 (61, [some (.ref 37), some (.int w), some (.int b), some (.int m), some (.int c), none], [.int v3], HH x σ3) r
      refine mm_kl (z := 127) (as := [.int v3]) (S' := []) (L2 := [some (.int v3), none, none]) (v := some (.int v4)) (h1 := HH x σ3) rfl rfl rfl rfl rfl (by omega) (k9 h1 h3) ?_
      show mm_Runs d 141 (64, [some (.ref 37), some (.int w), some (.int b), some (.int m), some (.int c), none], [.int v4], HH x σ3) r
      refine mm_go 5 (F' := (73, [some (.ref 37), some (.int w), some (.int b), some (.int m), some (.int c), some (.int v4)], [.int (0 : Int32), .int c, .ref 41], HH x σ3)) rfl ?_
      refine mm_gdt (b := (0 : Int32) = 0 ∨ (0 : Int32) = 1) (F' := (74, [some (.ref 37), some (.int w), some (.int b), some (.int m), some (.int c), some (.int v4)], [], HH x (ua σ3 41 (upd (σ3.2.2.1 41) c.toNatClampNeg (0 : Int32))))) rfl (k10 h1 h3) (Or.inl rfl) ?_
      refine mm_go 3 (F' := (bif mm_cond .le v4 m then 86 else 80, [some (.ref 37), some (.int w), some (.int b), some (.int m), some (.int c), some (.int v4)], [], HH x (ua σ3 41 (upd (σ3.2.2.1 41) c.toNatClampNeg (0 : Int32))))) rfl ?_
      refine mb_le (fun h4 => ?_) (fun h4 => ?_)
      · refine mm_go 2 (F' := (26, [some (.ref 37), some (.int w), some (.int b), some (.int m), some (.int (c + (1 : Int32))), some (.int v4)], [], HH x (ua σ3 41 (upd (σ3.2.2.1 41) c.toNatClampNeg (0 : Int32))))) rfl ?_
        exact mm_wk (by exact (And.intro rfl (And.intro rfl (And.intro rfl (And.intro rfl (And.intro rfl True.intro)))))) (k11 h1 h3 h4)
      · refine mm_go 6 (F' := (26, [some (.ref 37), some (.int w), some (.int c), some (.int v4), some (.int (c + (1 : Int32))), some (.int v4)], [], HH x (ua σ3 41 (upd (σ3.2.2.1 41) c.toNatClampNeg (0 : Int32))))) rfl ?_
        exact mm_wk (by exact (And.intro rfl (And.intro rfl (And.intro rfl (And.intro rfl (And.intro rfl True.intro)))))) (k12 h1 h3 h4)
theorem vx_m_digh_p0 {d : Nat} {x : Nat × (Nat → Int32)} {σ : mm_S} {w b m c : Int32}  {v3 v4 : Int32} {σ1 σ2 σ3 : mm_S} (hd : 1 ≤ d) (h1 : (f_m_all σ) ≤ c) (h2 : ¬ w = 0) (g1 : mm_Runs (d - 1) 101 (0, [some (.ref 37), none, none], [], HH x σ) (none, HH x σ1)) : mm_Runs d 141 (26, [some (.ref 37), some (.int w), some (.int b), some (.int m), some (.int c), none], [], HH x σ) (some (.int m), HH x σ1) := vx_m_digh (v3 := v3) (v4 := v4) (σ1 := σ1) (σ2 := σ2) (σ3 := σ3) hd (fun _ => g1) (fun _ _ => rfl) (fun _ z => absurd z h2) (fun  z => absurd h1 z) (fun  z _ => absurd h1 z) (fun  z _ => absurd h1 z) (fun  z _ => absurd h1 z) (fun  z _ => absurd h1 z) (fun  z _ => absurd h1 z) (fun  z _ => absurd h1 z) (fun  z _ _ => absurd h1 z) (fun  z _ _ => absurd h1 z)
theorem vx_m_digh_p1 {d : Nat} {x : Nat × (Nat → Int32)} {σ : mm_S} {w b m c : Int32}  {v3 v4 : Int32} {σ1 σ2 σ3 : mm_S} (hd : 1 ≤ d) (h1 : (f_m_all σ) ≤ c) (h2 : w = 0) (g1 : mm_Runs (d - 1) 101 (0, [some (.ref 37), none, none], [], HH x σ) (none, HH x σ1)) : mm_Runs d 141 (26, [some (.ref 37), some (.int w), some (.int b), some (.int m), some (.int c), none], [], HH x σ) (some (.int b), HH x σ1) := vx_m_digh (v3 := v3) (v4 := v4) (σ1 := σ1) (σ2 := σ2) (σ3 := σ3) hd (fun _ => g1) (fun _ z => absurd h2 z) (fun _ _ => rfl) (fun  z => absurd h1 z) (fun  z _ => absurd h1 z) (fun  z _ => absurd h1 z) (fun  z _ => absurd h1 z) (fun  z _ => absurd h1 z) (fun  z _ => absurd h1 z) (fun  z _ => absurd h1 z) (fun  z _ _ => absurd h1 z) (fun  z _ _ => absurd h1 z)
theorem vx_m_digh_p2 {d : Nat} {x : Nat × (Nat → Int32)} {σ : mm_S} {w b m c : Int32}  {v3 v4 : Int32} {σ1 σ2 σ3 : mm_S} {r : Option Value × mm_H} (hd : 1 ≤ d) (h1 : ¬ (f_m_all σ) ≤ c) (h2 : ¬ ((σ.2.2.1 41) c.toNatClampNeg) = 0) (g1 : ¬ (c < 0 ∨ 42 ≤ c.toNatClampNeg)) (kk : mm_Runs d 141 (26, [some (.ref 37), some (.int w), some (.int b), some (.int m), some (.int (c + (1 : Int32))), none], [], HH x σ) r) : mm_Runs d 141 (26, [some (.ref 37), some (.int w), some (.int b), some (.int m), some (.int c), none], [], HH x σ) r := vx_m_digh (v3 := v3) (v4 := v4) (σ1 := σ1) (σ2 := σ2) (σ3 := σ3) hd (fun  z => absurd z h1) (fun  z _ => absurd z h1) (fun  z _ => absurd z h1) (fun _ => g1) (fun _ _ => kk) (fun _ z => absurd z h2) (fun _ z => absurd z h2) (fun _ z => absurd z h2) (fun _ z => absurd z h2) (fun _ z => absurd z h2) (fun _ z _ => absurd z h2) (fun _ z _ => absurd z h2)
theorem vx_m_digh_p3 {d : Nat} {x : Nat × (Nat → Int32)} {σ : mm_S} {w b m c : Int32}  {v3 v4 : Int32} {σ1 σ2 σ3 : mm_S} {r : Option Value × mm_H} (hd : 1 ≤ d) (h1 : ¬ (f_m_all σ) ≤ c) (h2 : ((σ.2.2.1 41) c.toNatClampNeg) = 0) (h3 : v4 ≤ m) (g1 : ¬ (c < 0 ∨ 42 ≤ c.toNatClampNeg)) (g2 : mm_Runs (d - 1) 101 (0, [some (.ref 37), none, none], [], HH x (ua σ 41 (upd (σ.2.2.1 41) c.toNatClampNeg (1 : Int32)))) (none, HH x σ2)) (g3 : mm_Runs (d - 1) 129 (0, [some (.ref 37), none, none], [], HH x σ2) (some (.int v3), HH x σ3)) (g4 : mm_Runs (d - 1) 127 (0, [some (.int v3), none, none], [], HH x σ3) (some (.int v4), HH x σ3)) (kk : mm_Runs d 141 (26, [some (.ref 37), some (.int w), some (.int b), some (.int m), some (.int (c + (1 : Int32))), none], [], HH x (ua σ3 41 (upd (σ3.2.2.1 41) c.toNatClampNeg (0 : Int32)))) r) : mm_Runs d 141 (26, [some (.ref 37), some (.int w), some (.int b), some (.int m), some (.int c), none], [], HH x σ) r := vx_m_digh (v3 := v3) (v4 := v4) (σ1 := σ1) (σ2 := σ2) (σ3 := σ3) hd (fun  z => absurd z h1) (fun  z _ => absurd z h1) (fun  z _ => absurd z h1) (fun _ => g1) (fun _ z => absurd h2 z) (fun _ _ => g1) (fun _ _ => g2) (fun _ _ => g3) (fun _ _ => g4) (fun _ _ => g1) (fun _ _ _ => kk) (fun _ _ z => absurd h3 z)
theorem vx_m_digh_p4 {d : Nat} {x : Nat × (Nat → Int32)} {σ : mm_S} {w b m c : Int32}  {v3 v4 : Int32} {σ1 σ2 σ3 : mm_S} {r : Option Value × mm_H} (hd : 1 ≤ d) (h1 : ¬ (f_m_all σ) ≤ c) (h2 : ((σ.2.2.1 41) c.toNatClampNeg) = 0) (h3 : ¬ v4 ≤ m) (g1 : ¬ (c < 0 ∨ 42 ≤ c.toNatClampNeg)) (g2 : mm_Runs (d - 1) 101 (0, [some (.ref 37), none, none], [], HH x (ua σ 41 (upd (σ.2.2.1 41) c.toNatClampNeg (1 : Int32)))) (none, HH x σ2)) (g3 : mm_Runs (d - 1) 129 (0, [some (.ref 37), none, none], [], HH x σ2) (some (.int v3), HH x σ3)) (g4 : mm_Runs (d - 1) 127 (0, [some (.int v3), none, none], [], HH x σ3) (some (.int v4), HH x σ3)) (kk : mm_Runs d 141 (26, [some (.ref 37), some (.int w), some (.int c), some (.int v4), some (.int (c + (1 : Int32))), none], [], HH x (ua σ3 41 (upd (σ3.2.2.1 41) c.toNatClampNeg (0 : Int32)))) r) : mm_Runs d 141 (26, [some (.ref 37), some (.int w), some (.int b), some (.int m), some (.int c), none], [], HH x σ) r := vx_m_digh (v3 := v3) (v4 := v4) (σ1 := σ1) (σ2 := σ2) (σ3 := σ3) hd (fun  z => absurd z h1) (fun  z _ => absurd z h1) (fun  z _ => absurd z h1) (fun _ => g1) (fun _ z => absurd h2 z) (fun _ _ => g1) (fun _ _ => g2) (fun _ _ => g3) (fun _ _ => g4) (fun _ _ => g1) (fun _ _ z => absurd z h3) (fun _ _ _ => kk)
def dug (P : pd_T) (c : Nat) : pd_T := (P.1, P.2.1, fun b => P.2.2 b || decide (b = c))
theorem dug_n {P : pd_T} {c : Nat} : pd_n (dug P c) = pd_n P := rfl
theorem dug_w {P : pd_T} {c b : Nat} (h : P.2.2 b = true) : (dug P c).2.2 b = true := by
  show (P.2.2 b || decide (b = c)) = true
  rw [h]; rfl
theorem dug_wf {P : pd_T} {c : Nat} (h : pd_wf P) (hc : c < pd_n P) : pd_wf (dug P c) := fun b hb => by
  have hb' : (P.2.2 b || decide (b = c)) = true := hb
  rw [Bool.or_eq_true, decide_eq_true_eq] at hb'
  rcases hb' with z | z
  · exact h b z
  · rw [z]; exact hc
theorem bestS_lt {ok : Nat → Bool} {N : Nat} : ∀ (k s b : Nat), b < N → s + k ≤ N → bestS ok k s b < N
  | 0, s, b, hb, _ => hb
  | k + 1, s, b, hb, h => by
    show bestS ok k (s + 1) (if pc6 b < pc6 s ∧ ok s = true then s else b) < N
    split
    · exact bestS_lt k (s + 1) s (by omega) (by omega)
    · exact bestS_lt k (s + 1) b hb (by omega)
theorem pc6_n : ∀ n, n < 7 → ∀ s, s < 2 ^ n → pc6 s ≤ n := by decide +kernel
theorem mostS_lt {P : pd_T} {kk : Nat → Int32} {cc : Nat → Nat} {n : Nat} : mostS P kk cc n < 2 ^ n := by
  have h1 : 1 ≤ 2 ^ n := Nat.one_le_two_pow
  exact bestS_lt (2 ^ n - 1) 1 0 (by omega) (by omega)
def dgS (P : pd_T) (sz : Nat → Nat) : Nat → Nat → Nat × Int32 → Nat × Int32
  | 0, _, s => s
  | k + 1, c, s => dgS P sz k (c + 1) (if P.2.2 c = false ∧ s.1 < sz c then (sz c, nI c) else s)
theorem dgS_stop {P : pd_T} {sz : Nat → Nat} {n : Nat} (h : ∀ c, sz c ≤ n) : ∀ (k c : Nat) (s : Nat × Int32), n ≤ s.1 → dgS P sz k c s = s
  | 0, _, _, _ => rfl
  | k + 1, c, s, hs => by
    show dgS P sz k (c + 1) (if P.2.2 c = false ∧ s.1 < sz c then (sz c, nI c) else s) = s
    rw [if_neg (fun z => by have := h c; omega)]
    exact dgS_stop h k (c + 1) s hs
def dgw (w : Int32) (s : Nat × Int32) : Int32 := if w = 0 then s.2 else nI s.1
theorem SC_of {P : pd_T} {σ σ' : mm_S} (h : FR [2800, 2801, 3717, 3718, 3719] [1302] [15, 33, 34, 36, 49, 50] [14, 32] σ σ') (z : σ'.2.1 1302 = 0) : SC P σ σ' := ⟨h, fun c hc => by rw [z, bt_0] at hc; cases hc⟩
section DG
variable {d : Nat} {x : Nat × (Nat → Int32)} {P : pd_T} {σ0 : mm_S} {kk : Nat → Int32} {cc : Nat → Nat} {n : Nat} {w : Int32}
theorem c_md {σ : mm_S} {c : Nat} (hd : 7 ≤ d) (h0 : LK P σ) (hw : wcs P σ n kk cc) (hc : c < pd_n P) : ∃ σ', mm_Runs d 78 (0, [some (.ref 2), some (.int (nI c)), none, none, none], [], HH x σ) (some (.int (nI (pc6 (mostS (dug P c) kk cc n)))), HH x σ') ∧ SC P σ σ' := by
  have hn := pc_n42 h0.1
  have h6 := hw.1
  have h64 := p2_64 h6
  have lt : mostS (dug P c) kk cc n < 2 ^ n := mostS_lt
  obtain ⟨σd, hσd⟩ : ∃ σd, σd = g_turnTo σ ((σ.2.1 1307) ||| ((1 : Int64) <<< (Int32.toInt64 (nI c) &&& 63))) := ⟨_, rfl⟩
  have lk : LK (dug P c) σd := by
    refine ⟨⟨h0.1.1, h0.1.2.1, ?_, ?_, dug_wf (pc_wf h0.1) hc, fun b => ?_⟩, ⟨fun p => ?_, fun p => ?_⟩, fun b hb => ?_⟩
    · rw [hσd]; exact h0.1.2.2.1
    · rw [hσd]; exact h0.1.2.2.2.1
    · have e : σd.2.1 1307 = (σ.2.1 1307) ||| ((1 : Int64) <<< (Int32.toInt64 (nI c) &&& 63)) := by rw [hσd]; rfl
      rw [e, bt_or, bt_one (by omega), h0.1.2.2.2.2.2]; rfl
    · have e : σd.2.1 1303 = σ.2.1 1303 := by rw [hσd]; rfl
      rw [e]; exact h0.2.1.1 p
    · have e : σd.2.1 1304 = σ.2.1 1304 := by rw [hσd]; rfl
      rw [e]; exact h0.2.1.2 p
    · have e : σd.2.1 1302 = 0 := by rw [hσd]; rfl
      rw [e, bt_0] at hb; cases hb
  have ws : wcs (dug P c) σd n kk cc := by
    refine ⟨h6, by rw [hσd]; exact hw.2.1, fun i hi => ?_⟩
    obtain ⟨w1, w2, w3, w4, w5⟩ := hw.2.2 i hi
    rw [hσd]
    exact ⟨w1, w2, w3, w4, dug_w w5⟩
  obtain ⟨σ1, r1, r2⟩ := c_most (d := d - 1) (x := x) (by omega) lk ws
  have e := vx_md_p0 (d := d) (x := x) (σ := σ) (c := nI c) (v1 := nI (mostS (dug P c) kk cc n)) (σ1 := σ1) (by omega) (by rw [← hσd]; exact r1)
  rw [bc32_6 _ (by omega)] at e
  refine ⟨_, e, SC_of ⟨fun k z => ?_, fun k z => ?_, fun k z => ?_, fun k z => ?_⟩ rfl⟩
  · show σ1.1 k = σ.1 k
    rw [r2.1.1 k z, hσd]; rfl
  · show mm_up (mm_up σ1.2.1 1307 (σ.2.1 1307)) 1302 0 k = σ.2.1 k
    rw [up_ne (l := [1302]) rfl k z]
    by_cases q : k = 1307
    · subst q; rfl
    · rw [up_ne (l := [1307]) rfl k (by simp [q]), r2.1.2.1 k z, hσd]
      show mm_up (mm_up σ.2.1 1307 _) 1302 0 k = _
      rw [up_ne (l := [1302]) rfl k z, up_ne (l := [1307]) rfl k (by simp [q])]
  · show σ1.2.2.1 k = σ.2.2.1 k
    rw [r2.1.2.2.1 k z, hσd]; rfl
  · show σ1.2.2.2 k = σ.2.2.2 k
    rw [r2.1.2.2.2 k z, hσd]; rfl
theorem c_dg_h (hd : 8 ≤ d) (h0 : LK P σ0) (hw : wcs P σ0 n kk cc) : ∀ (i c : Nat), c + i = pd_n P → ∀ (s : Nat × Int32) (σ : mm_S), s.1 ≤ 6 → SC P σ0 σ → ∃ σ', SC P σ0 σ' ∧ mm_Runs d 58 (26, [some (.ref 2), some (.int w), some (.int (nI s.1)), some (.int s.2), some (.int (nI c)), none], [], HH x σ) (some (.int (dgw w (dgS P (fun c => pc6 (mostS (dug P c) kk cc n)) i c s))), HH x σ')
  | 0, c, h, s, σ, hs6, hs => by
    have h' := LK_SC h0 hs
    have hn := pc_n42 h'.1
    have le : σ.1 1305 ≤ nI c := by rw [h'.1.2.2.1]; exact nI_le (by omega) (by omega)
    refine ⟨σ, hs, ?_⟩
    unfold dgS dgw
    by_cases w0 : w = 0
    · rw [if_pos w0]; exact vx_digh_p1 (v1 := 0) (σ1 := σ) (by omega) le w0
    · rw [if_neg w0]; exact vx_digh_p0 (v1 := 0) (σ1 := σ) (by omega) le w0
  | i + 1, c, h, s, σ, hs6, hs => by
    have h' := LK_SC h0 hs
    have hw' := wcs_SC hw hs
    have h6 := hw.1
    have h64 := p2_64 h6
    have hn := pc_n42 h'.1
    have le : ¬ σ.1 1305 ≤ nI c := by rw [h'.1.2.2.1]; exact nI_ge (by omega) (by omega)
    have szn : ∀ c, pc6 (mostS (dug P c) kk cc n) ≤ n := fun c => pc6_n n (by omega) _ mostS_lt
    rcases Nat.lt_or_ge s.1 n with q | q
    · have nm : ¬ σ.1 2003 ≤ nI s.1 := by rw [hw'.2.1]; exact nI_ge q (by omega)
      have iw := isWater_iff h'.1 (show c < pd_n P by omega)
      show ∃ σ', SC P σ0 σ' ∧ mm_Runs d 58 _ (some (.int (dgw w (dgS P (fun c => pc6 (mostS (dug P c) kk cc n)) i (c + 1) (if P.2.2 c = false ∧ s.1 < pc6 (mostS (dug P c) kk cc n) then (pc6 (mostS (dug P c) kk cc n), nI c) else s)))), HH x σ')
      cases hc : P.2.2 c with
      | true =>
        rw [if_neg (fun z => absurd z.1 (by simp))]
        obtain ⟨σ', r1, r2⟩ := c_dg_h hd h0 hw i (c + 1) (by omega) s σ hs6 hs
        exact ⟨σ', r1, vx_digh_p4 (v1 := 0) (σ1 := σ) (by omega) le nm (iw.mpr hc) (by rw [nI_1]; exact r2)⟩
      | false =>
        have nw : ¬ p_isWater σ (nI c) := fun z => by rw [iw.mp z] at hc; cases hc
        obtain ⟨σ1, r1, r2⟩ := c_md (d := d - 1) (x := x) (by omega) h' hw' (show c < pd_n P by omega)
        have sc := szn c
        rcases Nat.lt_or_ge s.1 (pc6 (mostS (dug P c) kk cc n)) with z | z
        · rw [if_pos ⟨rfl, z⟩]
          obtain ⟨σ', u1, u2⟩ := c_dg_h hd h0 hw i (c + 1) (by omega) (pc6 (mostS (dug P c) kk cc n), nI c) σ1 (show pc6 (mostS (dug P c) kk cc n) ≤ 6 by omega) (SC_trans hs r2)
          exact ⟨σ', u1, vx_digh_p6 (v1 := nI (pc6 (mostS (dug P c) kk cc n))) (σ1 := σ1) (by omega) le nm nw (nI_ge z (by omega)) r1 (by rw [nI_1]; exact u2)⟩
        · rw [if_neg (fun y => absurd y.2 (by omega))]
          obtain ⟨σ', u1, u2⟩ := c_dg_h hd h0 hw i (c + 1) (by omega) s σ1 hs6 (SC_trans hs r2)
          exact ⟨σ', u1, vx_digh_p5 (v1 := nI (pc6 (mostS (dug P c) kk cc n))) (σ1 := σ1) (by omega) le nm nw (nI_le z (by omega)) r1 (by rw [nI_1]; exact u2)⟩
    · rw [dgS_stop (n := n) szn (i + 1) c s q]
      have nm : σ.1 2003 ≤ nI s.1 := by rw [hw'.2.1]; exact nI_le q (by omega)
      refine ⟨σ, hs, ?_⟩
      unfold dgw
      by_cases w0 : w = 0
      · rw [if_pos w0]; exact vx_digh_p3 (v1 := 0) (σ1 := σ) (by omega) le nm w0
      · rw [if_neg w0]; exact vx_digh_p2 (v1 := 0) (σ1 := σ) (by omega) le nm w0
/-- what digging may change in the model, the ways besides -/
def DZ (σ σ' : mm_S) : Prop := FR [] [] [49, 42] [] σ σ'
theorem upd_ud {f : Nat → Int32} {c : Nat} {v : Int32} (h : f c = 0) : upd (upd f c v) c 0 = f := by
  funext y
  by_cases e : y = c
  · subst e; rw [pk_us, h]
  · rw [pk_un e, pk_un e]
theorem pm_DZ {σ σ' : mm_S} (h : r_pm P σ) (g : DZ σ σ') : r_pm P σ' := by
  obtain ⟨f1, f2, f3, f4⟩ := g
  unfold r_pm at h ⊢
  rw [f1 3705 rfl, f1 3706 rfl, f3 41 rfl]; exact h
theorem wms_DZ {σ σ' : mm_S} (h : wms P σ n kk cc) (g : DZ σ σ') : wms P σ' n kk cc := by
  obtain ⟨f1, f2, f3, f4⟩ := g
  unfold wms wsm at h ⊢
  rw [f1 3720 rfl, f3 47 rfl, f3 48 rfl]; exact h
theorem m_dg_h (hd : 7 ≤ d) (h0 : r_pm P σ0) (hm : wms P σ0 n kk cc) (hn6 : n ≤ 6) : ∀ (i c : Nat), c + i = pd_n P → ∀ (s : Nat × Int32) (σ : mm_S), s.1 ≤ 6 → DZ σ0 σ → ∃ σ', DZ σ0 σ' ∧ r_way P σ' ∧ mm_Runs d 141 (26, [some (.ref 37), some (.int w), some (.int s.2), some (.int (nI s.1)), some (.int (nI c)), none], [], HH x σ) (some (.int (dgw w (dgS P (fun c => pc6 (mostS (dug P c) kk cc n)) i c s))), HH x σ')
  | 0, c, h, s, σ, hs6, hs => by
    have hp := pm_DZ h0 hs
    have hn := pm_n42 hp
    have le : f_m_all σ ≤ nI c := by rw [all_eq hp]; exact nI_le (by omega) (by omega)
    obtain ⟨W, r1, r2⟩ := m_layWays (d := d - 1) (x := x) (by omega) hp
    refine ⟨ua σ 42 W, FR_ua rfl hs, r2, ?_⟩
    unfold dgS dgw
    by_cases w0 : w = 0
    · rw [if_pos w0]; exact vx_m_digh_p1 (v3 := 0) (v4 := 0) (σ1 := ua σ 42 W) (σ2 := σ) (σ3 := σ) (by omega) le w0 r1
    · rw [if_neg w0]; exact vx_m_digh_p0 (v3 := 0) (v4 := 0) (σ1 := ua σ 42 W) (σ2 := σ) (σ3 := σ) (by omega) le w0 r1
  | i + 1, c, h, s, σ, hs6, hs => by
    have hp := pm_DZ h0 hs
    have hm' := wms_DZ hm hs
    have hn := pm_n42 hp
    have hc : c < pd_n P := by omega
    have h64 := p2_64 hn6
    have le : ¬ f_m_all σ ≤ nI c := by rw [all_eq hp]; exact nI_ge hc (by omega)
    have cc' : (nI c).toNatClampNeg = c := nI_clamp (by omega)
    have gc := nI_in (c := c) (N := 42) (by omega) (by omega)
    have e41 := hp.2.2.2.2.2 c hc
    show ∃ σ', DZ σ0 σ' ∧ r_way P σ' ∧ mm_Runs d 141 _ (some (.int (dgw w (dgS P (fun c => pc6 (mostS (dug P c) kk cc n)) i (c + 1) (if P.2.2 c = false ∧ s.1 < pc6 (mostS (dug P c) kk cc n) then (pc6 (mostS (dug P c) kk cc n), nI c) else s)))), HH x σ')
    cases hcw : P.2.2 c with
    | true =>
      rw [if_neg (fun z => absurd z.1 (by simp))]
      obtain ⟨σ', r1, r2, r3⟩ := m_dg_h hd h0 hm hn6 i (c + 1) (by omega) s σ hs6 hs
      refine ⟨σ', r1, r2, vx_m_digh_p2 (v3 := 0) (v4 := 0) (σ1 := σ) (σ2 := σ) (σ3 := σ) (by omega) le ?_ gc (by rw [nI_1]; exact r3)⟩
      rw [cc', e41, hcw]; decide
    | false =>
      rw [hcw] at e41
      have e0 : σ.2.2.1 41 c = 0 := e41
      have z0 : σ.2.2.1 41 (nI c).toNatClampNeg = 0 := by rw [cc']; exact e0
      obtain ⟨σa, hσa⟩ : ∃ σa, σa = ua σ 41 (upd (σ.2.2.1 41) c 1) := ⟨_, rfl⟩
      have pa : r_pm (dug P c) σa := by
        rw [hσa]
        refine ⟨hp.1, hp.2.1, hp.2.2.1, hp.2.2.2.1, dug_wf (pm_wf hp) hc, fun b hb => ?_⟩
        show upd (σ.2.2.1 41) c 1 b = if (P.2.2 b || decide (b = c)) = true then 1 else 0
        by_cases e : b = c
        · subst e; rw [pk_us]; simp
        · rw [pk_un e, hp.2.2.2.2.2 b hb]; simp [e]
      obtain ⟨W, r1, r2⟩ := m_layWays (d := d - 1) (x := x) (by omega) pa
      have ma : wms (dug P c) (ua σa 42 W) n kk cc := by
        rw [hσa]
        refine ⟨hm'.1, hm'.2.1, fun j hj => ?_⟩
        obtain ⟨w1, w2, w3, w4, w5⟩ := hm'.2.2 j hj
        exact ⟨w1, w2, w3, w4, dug_w w5⟩
      have pa2 : r_pm (dug P c) (ua σa 42 W) := pa
      obtain ⟨D, r3⟩ := m_most (d := d - 1) (x := x) (by omega) pa2 r2 ma
      have lt : mostS (dug P c) kk cc n < 2 ^ n := mostS_lt
      have sz := m_size (d := d - 1) (x := x) (σ := ua (ua σa 42 W) 49 D) (s := mostS (dug P c) kk cc n) (by omega)
      have sc : pc6 (mostS (dug P c) kk cc n) ≤ n := pc6_n n (by omega) _ mostS_lt
      obtain ⟨σb, hσb⟩ : ∃ σb, σb = ua (ua (ua σa 42 W) 49 D) 41 (upd ((ua (ua σa 42 W) 49 D).2.2.1 41) c 0) := ⟨_, rfl⟩
      have fb : DZ σ0 σb := by
        refine FR_trans hs ⟨fun k _ => by rw [hσb, hσa]; rfl, fun k _ => by rw [hσb, hσa]; rfl, fun k z => ?_, fun k _ => by rw [hσb, hσa]; rfl⟩
        by_cases q : k = 41
        · subst q
          rw [hσb, hσa]
          show upd (upd (σ.2.2.1 41) c 1) c 0 = σ.2.2.1 41
          exact upd_ud e0
        · have z1 : k ≠ 42 ∧ k ≠ 49 := by
            simp only [List.contains_cons, List.contains_nil, Bool.or_false, Bool.or_eq_false_iff, beq_eq_false_iff_ne] at z
            exact ⟨z.2, z.1⟩
          rw [hσb, hσa]
          show mm_up (mm_up (mm_up (mm_up σ.2.2.1 41 _) 42 W) 49 D) 41 _ k = _
          rw [up_ne (l := [41]) rfl k (by simp [q]), up_ne (l := [49]) rfl k (by simp [z1.2]), up_ne (l := [42]) rfl k (by simp [z1.1]), up_ne (l := [41]) rfl k (by simp [q])]
      have r1' : mm_Runs (d - 1) 101 (0, [some (.ref 37), none, none], [], HH x (ua σ 41 (upd (σ.2.2.1 41) (nI c).toNatClampNeg (1 : Int32)))) (none, HH x (ua σa 42 W)) := by
        rw [cc', ← hσa]; exact r1
      rcases Nat.lt_or_ge s.1 (pc6 (mostS (dug P c) kk cc n)) with z | z
      · rw [if_pos ⟨rfl, z⟩]
        obtain ⟨σ', u1, u2, u3⟩ := m_dg_h hd h0 hm hn6 i (c + 1) (by omega) (pc6 (mostS (dug P c) kk cc n), nI c) σb (show pc6 (mostS (dug P c) kk cc n) ≤ 6 by omega) fb
        refine ⟨σ', u1, u2, vx_m_digh_p4 (v3 := nI (mostS (dug P c) kk cc n)) (v4 := nI (pc6 (mostS (dug P c) kk cc n))) (σ1 := σ) (σ2 := ua σa 42 W) (σ3 := ua (ua σa 42 W) 49 D) (by omega) le z0 (nI_ge z (by omega)) gc r1' r3 sz ?_⟩
        rw [nI_1, cc', ← hσb]; exact u3
      · rw [if_neg (fun y => absurd y.2 (by omega))]
        obtain ⟨σ', u1, u2, u3⟩ := m_dg_h hd h0 hm hn6 i (c + 1) (by omega) s σb hs6 fb
        refine ⟨σ', u1, u2, vx_m_digh_p3 (v3 := nI (mostS (dug P c) kk cc n)) (v4 := nI (pc6 (mostS (dug P c) kk cc n))) (σ1 := σ) (σ2 := ua σa 42 W) (σ3 := ua (ua σa 42 W) 49 D) (by omega) le z0 (nI_le z (by omega)) gc r1' r3 sz ?_⟩
        rw [nI_1, cc', ← hσb]; exact u3
end DG
theorem RP_DZ {P : pd_T} {ns nw nr : Nat} {σ σ' : mm_S} (h : RP P ns nw nr σ) (g : DZ σ σ') (hr : r_rip P σ') (hw : r_way P σ') : RP P ns nw nr σ' := by
  obtain ⟨f1, f2, f3, f4⟩ := g
  obtain ⟨h1, h2, h3, h4, h5, h6, h7, h8, h9, h10⟩ := h
  refine ⟨?_, ?_, ?_, ?_, hr, hw, ?_, ?_, ?_, ?_⟩
  · unfold r_misc at h1 ⊢
    rw [f1 210 rfl, f1 3700 rfl, f1 209 rfl, f1 3701 rfl]; exact h1
  · unfold r_she at h2 ⊢
    rw [f1 401 rfl, f1 402 rfl, f1 403 rfl, f1 501 rfl, f1 502 rfl, f1 503 rfl, f1 601 rfl, f1 602 rfl, f1 603 rfl, f1 701 rfl, f1 702 rfl, f1 703 rfl, f3 8 rfl, f3 9 rfl, f3 10 rfl, f3 11 rfl, f3 38 rfl, f3 39 rfl, f3 40 rfl]; exact h2
  · unfold r_pond at h3 ⊢
    rw [f1 1305 rfl, f1 1306 rfl, f1 3705 rfl, f1 3706 rfl, f2 1307 rfl, f3 41 rfl]; exact h3
  · unfold r_col at h4 ⊢
    rw [f2 1303 rfl, f2 1304 rfl]; exact h4
  · unfold r_st at h7 ⊢
    rw [f1 1603 rfl, f1 3713 rfl, f3 17 rfl, f3 18 rfl, f3 19 rfl, f3 44 rfl, f3 45 rfl, f3 46 rfl]; exact h7
  · unfold r_wi at h8 ⊢
    rw [f1 2003 rfl, f1 3720 rfl, f3 21 rfl, f3 22 rfl, f3 47 rfl, f3 48 rfl]; exact h8
  · unfold r_re at h9 ⊢
    rw [f1 2403 rfl, f1 3725 rfl, f3 26 rfl, f3 27 rfl, f3 51 rfl, f3 52 rfl]; exact h9
  · unfold r_ti at h10 ⊢
    rw [f1 2904 rfl, f1 2907 rfl, f3 21 rfl, f3 22 rfl, f3 35 rfl, f4 30 rfl, f4 31 rfl]; exact h10
theorem op_dig : opI Rel i_X6_dig i_X7_dig 1 := by
  intro x σ as h hr
  obtain ⟨w, rfl⟩ := as_1 h
  obtain ⟨P, ns, nw, nr, hr⟩ := rel_RP.mp hr
  have hwf := pond_wf (RP_p hr)
  have hn := pd_n42 (RP_p hr)
  have h6 := (RP_wi hr).1
  have h64 := p2_64 h6
  by_cases w1 : w < 0
  · exact ⟨-2, σ, σ, vx_dig0_p0 (v1 := 0) (σ1 := σ) (by decide) w1, vx_m_dig0_p1 (v1 := 0) (v2 := 0) (σ1 := σ) (by decide) (fun z => z.1 w1), RP_rel hr⟩
  by_cases w2 : w ≤ 1
  · have wc := wi_wcs hwf hn (RP_wi hr)
    have lt : mostS P (kkc σ) (ccc σ) nw < 2 ^ nw := mostS_lt
    have le6 : pc6 (mostS P (kkc σ) (ccc σ) nw) ≤ nw := pc6_n nw (by omega) _ mostS_lt
    obtain ⟨σ1, r1, r2⟩ := c_most (d := 998) (x := x) (by omega) (RP_lk hr) wc
    obtain ⟨σ2, s1, s2⟩ := c_dg_h (d := 999) (x := x) (w := w) (by omega) (RP_lk hr) wc (pd_n P) 0 (by omega) (pc6 (mostS P (kkc σ) (ccc σ) nw), -9) σ1 (show pc6 (mostS P (kkc σ) (ccc σ) nw) ≤ 6 by omega) r2
    have c9 := vx_dig0_p1 (d := 999) (x := x) (σ := σ) (w := w) (v1 := nI (mostS P (kkc σ) (ccc σ) nw)) (σ1 := σ1) (r := (some (.int (dgw w (dgS P (fun c => pc6 (mostS (dug P c) (kkc σ) (ccc σ) nw)) (pd_n P) 0 (pc6 (mostS P (kkc σ) (ccc σ) nw), -9)))), HH x σ2)) (by decide) w1 w2 r1 (by rw [bc32_6 _ (by omega)]; exact s2)
    have hr2 := RP_SC hr s1
    have ek : kkc σ2 = kkc σ := s1.1.2.2.1 21 rfl
    have ec : ccc σ2 = ccc σ := by unfold ccc; rw [s1.1.2.2.1 22 rfl]
    have wm := wi_ms hwf hn (RP_wi hr2)
    rw [ek, ec] at wm
    obtain ⟨D, g1⟩ := m_most (d := 998) (x := x) (by omega) (RP_pm hr2) (RP_wy hr2) wm
    have sz := m_size (d := 998) (x := x) (σ := ua σ2 49 D) (s := mostS P (kkc σ) (ccc σ) nw) (by omega)
    obtain ⟨σ3, t1, t2, t3⟩ := m_dg_h (d := 999) (x := x) (w := w) (σ0 := ua σ2 49 D) (by omega) (RP_pm hr2) (wms_49 wm) h6 (pd_n P) 0 (by omega) (pc6 (mostS P (kkc σ) (ccc σ) nw), -9) (ua σ2 49 D) (show pc6 (mostS P (kkc σ) (ccc σ) nw) ≤ 6 by omega) (FR_refl _ _ _ _ _)
    have m9 := vx_m_dig0_p0 (d := 999) (x := x) (σ := σ2) (w := w) (v1 := nI (mostS P (kkc σ) (ccc σ) nw)) (v2 := nI (pc6 (mostS P (kkc σ) (ccc σ) nw))) (σ1 := ua σ2 49 D) (r := (some (.int (dgw w (dgS P (fun c => pc6 (mostS (dug P c) (kkc σ) (ccc σ) nw)) (pd_n P) 0 (pc6 (mostS P (kkc σ) (ccc σ) nw), -9)))), HH x σ3)) (by decide) ⟨w1, i_nlt.mpr w2⟩ g1 sz t3
    have hr3 := RP_SC hr2 (σ' := ua σ2 49 D) ⟨FR_ua rfl (FR_refl _ _ _ _ _), s1.2⟩
    have rr : r_rip P σ3 := by
      have r0 : r_rip P (ua σ2 49 D) := s1.2
      unfold r_rip at r0 ⊢
      rw [t1.2.1 1302 rfl, t1.2.2.1 15 rfl, t1.2.2.2 14 rfl]; exact r0
    exact ⟨_, σ2, σ3, c9, m9, RP_rel (RP_DZ hr3 t1 rr t2)⟩
  · exact ⟨-2, σ, σ, vx_dig0_p2 (v1 := 0) (σ1 := σ) (by decide) w1 w2, vx_m_dig0_p1 (v1 := 0) (v2 := 0) (σ1 := σ) (by decide) (fun z => w2 (i_nlt.mp z.2)), RP_rel hr⟩

