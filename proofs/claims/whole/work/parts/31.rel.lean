/-! WHAT TIES THE CLASS AND THE MODEL TOGETHER -/
/-- the bits of a long -/
def bt (x : Int64) (i : Nat) : Bool := x.toBitVec.getLsbD i
/-- a pond: high, wide, which cells are water -/
abbrev pd_T : Type := Nat × Nat × (Nat → Bool)
def pd_n (P : pd_T) : Nat := P.1 * P.2.1
/-- two cells beside one another -/
def pd_adj (P : pd_T) (a b : Nat) : Bool := (decide (b = a + 1) && !decide ((a + 1) % P.2.1 = 0)) || (decide (a = b + 1) && !decide ((b + 1) % P.2.1 = 0)) || decide (b = a + P.2.1) || decide (a = b + P.2.1)
/-- the cells that come new in the step t, and all that were come to in it -/
def pd_bfs (P : pd_T) (c : Nat) : Nat → (Nat → Bool) × (Nat → Bool)
  | 0 => (fun b => decide (b = c) && P.2.2 c, fun b => decide (b = c) && P.2.2 c)
  | t + 1 => (fun b => P.2.2 b && !(pd_bfs P c t).2 b && (List.range (pd_n P)).any (fun a => (pd_bfs P c t).1 a && pd_adj P a b),
      fun b => (pd_bfs P c t).2 b || (P.2.2 b && !(pd_bfs P c t).2 b && (List.range (pd_n P)).any (fun a => (pd_bfs P c t).1 a && pd_adj P a b)))
/-- the cells that are t steps from c -/
def pd_lay (P : pd_T) (c t b : Nat) : Bool := (pd_bfs P c t).1 b
/-- FAR, as an answer -/
def pd_way (P : pd_T) (a b : Nat) : Int32 := match (List.range 42).find? (fun t => pd_lay P a t b) with
  | some t => nI t
  | none => -9
def pd_rc (k : Int32) : Nat := if k = 0 then 99 else if k = 1 then 3 else 1
/-- a ring's cells, t minutes after the throw -/
def pd_th (P : pd_T) (k : Int32) (c t b : Nat) : Bool := pd_lay P c t b && decide (t ≤ pd_rc k)
/-- the second, thrown d minutes later, meets the first -/
def pd_mt (P : pd_T) (k1 : Int32) (c1 : Nat) (k2 : Int32) (c2 d : Nat) : Prop :=
  ∃ t a, (pd_th P k1 c1 (t + d) a = true ∧ pd_th P k2 c2 t a = true) ∨ ∃ b, pd_adj P a b = true ∧ pd_th P k1 c1 (t + d) a = true ∧ pd_th P k2 c2 t b = true ∧ pd_th P k1 c1 (t + d + 1) b = true ∧ pd_th P k2 c2 (t + 1) a = true
def kd (k : Int32) : Prop := k = 0 ∨ k = 1 ∨ k = 2
def r_misc (σ : mm_S) : Prop := σ.1 210 = σ.1 3700 ∧ σ.1 209 = σ.1 3701
/-- a sheet: there, its sort, its length, its numbers -/
def r_sh (k : Nat) (th so ln : Int32) (nu : Nat → Int32) (sorts sl cells : Nat → Int32) : Prop :=
  ((th = 0 ∧ sorts k = -9) ∨ (th = 1 ∧ sorts k = so ∧ kd so)) ∧ ln = sl k ∧ (∃ n : Nat, n ≤ 60 ∧ ln = nI n) ∧ ∀ i, i < 60 → nu i = cells (60 * k + i)
def r_she (σ : mm_S) : Prop := r_sh 0 (σ.1 401) (σ.1 402) (σ.1 403) (σ.2.2.1 8) (σ.2.2.1 38) (σ.2.2.1 39) (σ.2.2.1 40) ∧ r_sh 1 (σ.1 501) (σ.1 502) (σ.1 503) (σ.2.2.1 9) (σ.2.2.1 38) (σ.2.2.1 39) (σ.2.2.1 40) ∧
  r_sh 2 (σ.1 601) (σ.1 602) (σ.1 603) (σ.2.2.1 10) (σ.2.2.1 38) (σ.2.2.1 39) (σ.2.2.1 40) ∧ r_sh 3 (σ.1 701) (σ.1 702) (σ.1 703) (σ.2.2.1 11) (σ.2.2.1 38) (σ.2.2.1 39) (σ.2.2.1 40)
/-- the pond -/
def r_pond (P : pd_T) (σ : mm_S) : Prop := P.1 ≤ 6 ∧ P.2.1 ≤ 7 ∧ σ.1 1305 = nI (pd_n P) ∧ σ.1 1306 = nI P.2.1 ∧ σ.1 3705 = nI P.1 ∧ σ.1 3706 = nI P.2.1 ∧ (∀ c, P.2.2 c = true → c < pd_n P) ∧ (∀ c, bt (σ.2.1 1307) c = P.2.2 c) ∧ ∀ c, c < pd_n P → σ.2.2.1 41 c = if P.2.2 c = true then 1 else 0
def r_col (P : pd_T) (σ : mm_S) : Prop := (∀ p, bt (σ.2.1 1303) p = decide (p < pd_n P ∧ p % P.2.1 = 0)) ∧ ∀ p, bt (σ.2.1 1304) p = decide (p < pd_n P ∧ (p + 1) % P.2.1 = 0)
def r_rip (P : pd_T) (σ : mm_S) : Prop := ∀ c, bt (σ.2.1 1302) c = true → P.2.2 c = true ∧ ∃ dp : Nat, 1 ≤ dp ∧ dp ≤ 42 ∧ σ.2.2.1 15 c = nI dp ∧ (∀ t, t < dp → (∃ b, pd_lay P c t b = true) ∧ ∀ b, bt (σ.2.2.2 14 (42 * c + t)) b = pd_lay P c t b) ∧ ∀ t, dp ≤ t → ∀ b, pd_lay P c t b = false
def r_way (P : pd_T) (σ : mm_S) : Prop := ∀ a b, a < pd_n P → b < pd_n P → σ.2.2.1 42 (42 * a + b) = pd_way P a b
def r_st (P : pd_T) (n : Nat) (σ : mm_S) : Prop := n ≤ 8 ∧ σ.1 1603 = nI n ∧ σ.1 3713 = nI n ∧ ∀ i, i < n → (σ.2.2.1 17 i = σ.2.2.1 44 i ∧ σ.2.2.1 18 i = σ.2.2.1 45 i ∧ σ.2.2.1 19 i = σ.2.2.1 46 i) ∧ kd (σ.2.2.1 17 i) ∧ (∃ c, σ.2.2.1 18 i = nI c ∧ P.2.2 c = true) ∧ ∃ m : Nat, m ≤ 99 ∧ σ.2.2.1 19 i = nI m
def r_wi (P : pd_T) (n : Nat) (σ : mm_S) : Prop := n ≤ 6 ∧ σ.1 2003 = nI n ∧ σ.1 3720 = nI n ∧ ∀ i, i < n → (σ.2.2.1 21 i = σ.2.2.1 47 i ∧ σ.2.2.1 22 i = σ.2.2.1 48 i) ∧ kd (σ.2.2.1 21 i) ∧ ∃ c, σ.2.2.1 22 i = nI c ∧ P.2.2 c = true
def r_re (P : pd_T) (n : Nat) (σ : mm_S) : Prop := n ≤ 6 ∧ σ.1 2403 = nI n ∧ σ.1 3725 = nI n ∧ ∀ i, i < n → (σ.2.2.1 26 i = σ.2.2.1 51 i ∧ σ.2.2.1 27 i = σ.2.2.1 52 i) ∧ (∃ c, σ.2.2.1 26 i = nI c ∧ P.2.2 c = true) ∧ ∃ m : Nat, m ≤ 99 ∧ σ.2.2.1 27 i = nI m
/-- two wishes, out of their kinds and cells -/
def ws_mt (P : pd_T) (kn ce : Nat → Int32) (i j d : Nat) : Prop := pd_mt P (kn i) (ce i).toNatClampNeg (kn j) (ce j).toNatClampNeg d
/-- minutes at which no two of n wishes meet -/
def pl_ok (P : pd_T) (kn ce : Nat → Int32) (n T : Nat) (p : Nat → Nat) : Prop := (∀ i, i < n → p i ≤ T) ∧ ∀ i j, i < n → j < n → i ≠ j → p i ≤ p j → ¬ ws_mt P kn ce i j (p j - p i)
/-- the plan: the last as soon as can be, the first of such rows -/
def pl_is (P : pd_T) (kn ce : Nat → Int32) (n T : Nat) (p : Nat → Nat) : Prop := pl_ok P kn ce n T p ∧ (∀ T' p', pl_ok P kn ce n T' p' → T ≤ T') ∧ ∀ p', pl_ok P kn ce n T p' → ∀ i, i < n → (∀ j, j < i → p' j = p j) → p i ≤ p' i
def r_ti (P : pd_T) (n : Nat) (σ : mm_S) : Prop := (∀ i j, i < n → j < n → i ≠ j → ∀ d, d < 64 → (bt (σ.2.2.2 30 (6 * i + j)) d = true ↔ ws_mt P (σ.2.2.1 21) (σ.2.2.1 22) i j d) ∧ (bt (σ.2.2.2 31 (6 * j + i)) (63 - d) = true ↔ ws_mt P (σ.2.2.1 21) (σ.2.2.1 22) i j d)) ∧
  (σ.1 2904 = 0 ∨ (σ.1 2904 = 1 ∧ ∃ (T : Nat) (p : Nat → Nat), T ≤ 63 ∧ σ.1 2907 = nI T ∧ (∀ i, i < n → σ.2.2.1 35 i = nI (p i)) ∧ pl_is P (σ.2.2.1 21) (σ.2.2.1 22) n T p))
def Rel (σ : mm_S) : Prop := r_misc σ ∧ r_she σ ∧ ∃ (P : pd_T) (ns nw nr : Nat), r_pond P σ ∧ r_col P σ ∧ r_rip P σ ∧ r_way P σ ∧ r_st P ns σ ∧ r_wi P nw σ ∧ r_re P nr σ ∧ r_ti P nw σ
theorem bt_0 (i : Nat) : bt 0 i = false := by
  show (0 : BitVec 64).getLsbD i = false
  simp
theorem rel_0 : Rel s0 := by
  have sh : ∀ k, k < 4 → r_sh k 0 0 0 (fun _ => 0) (s0.2.2.1 38) (fun _ => 0) (fun _ => 0) := by
    intro k hk
    refine ⟨Or.inl ⟨rfl, ?_⟩, rfl, ⟨0, by omega, rfl⟩, fun i _ => rfl⟩
    match k, hk with
    | 0, _ => rfl
    | 1, _ => rfl
    | 2, _ => rfl
    | 3, _ => rfl
    | k + 4, h => omega
  refine ⟨⟨rfl, rfl⟩, ⟨sh 0 (by decide), sh 1 (by decide), sh 2 (by decide), sh 3 (by decide)⟩, (0, 0, fun _ => false), 0, 0, 0, ?_, ?_, ?_, ?_, ?_, ?_, ?_, ?_⟩
  · exact ⟨by decide, by decide, rfl, rfl, rfl, rfl, fun c h => by simp at h, fun c => bt_0 c, fun c h => absurd h (by simp [pd_n])⟩
  · refine ⟨fun p => ?_, fun p => ?_⟩ <;> (show bt 0 p = _; rw [bt_0]; simp [pd_n])
  · intro c h
    rw [show bt (s0.2.1 1302) c = bt 0 c from rfl, bt_0] at h
    cases h
  · intro a b ha
    exact absurd ha (by simp [pd_n])
  · exact ⟨by omega, rfl, rfl, fun i h => absurd h (by omega)⟩
  · exact ⟨by omega, rfl, rfl, fun i h => absurd h (by omega)⟩
  · exact ⟨by omega, rfl, rfl, fun i h => absurd h (by omega)⟩
  · exact ⟨fun i j h => absurd h (by omega), Or.inl rfl⟩
