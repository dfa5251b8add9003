/-! pond: the call (written by wip/whole/t49b.py) -/
theorem ua_2 (σ : mm_S) (q : Nat) (f g : Nat → Int32) : ua (ua σ q f) q g = ua σ q g := by
  unfold ua
  simp only [mm_up_up]
theorem m_pond_h {d : Nat} {x : Nat × (Nat → Int32)} {τ : mm_S} {H W : Nat} {wa : Nat → Bool} (hd : 3 ≤ d) (hH : H ≤ 6) (hW : W ≤ 7) (e1 : τ.1 3705 = nI H) (e2 : τ.1 3706 = nI W) (hwf : ∀ c, wa c = true → c < H * W) (hv : ∀ c, c < H * W → τ.2.2.1 43 c = if wa c = true then 1 else 0) :
    ∀ (m c : Nat), c + m = H * W → ∀ A, (∀ e, e < c → A e = if wa e = true then 1 else 0) → ∃ A' Wy, mm_Runs d 97 (103, [some (.ref 37), none, none, none, none, none, none, some (.int (nI c))], [], HH x (ua τ 41 A)) (some (.int (nI (H * W))), HH x (ui (ui (ui (ua (ua τ 41 A') 42 Wy) 3713 0) 3720 0) 3725 0)) ∧ (∀ e, e < H * W → A' e = if wa e = true then 1 else 0) ∧ r_way (H, W, wa) (ua (ua τ 41 A') 42 Wy)
  | 0, c, h, A, hA => by
    have hn : H * W ≤ 42 := Nat.le_trans (Nat.mul_le_mul hH hW) (by decide)
    have e : c = H * W := by omega
    subst e
    have hp : r_pm (H, W, wa) (ua τ 41 A) := ⟨hH, hW, e1, e2, hwf, hA⟩
    obtain ⟨Wy, l1, l2⟩ := m_layWays (d := d - 1) (x := x) (by omega) hp
    have ea : f_m_all (ua τ 41 A) = nI (H * W) := all_eq hp
    have hle : f_m_all (ua τ 41 A) ≤ nI (H * W) := by rw [ea]; exact nI_le (Nat.le_refl _) (by omega)
    refine ⟨A, Wy, vc_m_pondh (by omega) (fun _ => l1) (fun _ => ?_) (fun z => absurd hle z) (fun z => absurd hle z) (fun z => absurd hle z) (fun z => absurd hle z), hA, l2⟩
    show (some (Value.int (τ.1 3705 * τ.1 3706)), _) = _
    rw [e1, e2, pk_mul]
  | m + 1, c, h, A, hA => by
    have hn : H * W ≤ 42 := Nat.le_trans (Nat.mul_le_mul hH hW) (by decide)
    have ea : f_m_all (ua τ 41 A) = nI (H * W) := by
      show τ.1 3705 * τ.1 3706 = _
      rw [e1, e2, pk_mul]
    have hlt : ¬ f_m_all (ua τ 41 A) ≤ nI c := by rw [ea]; exact nI_ge (by omega) (by omega)
    have g : ¬ (nI c < 0 ∨ 42 ≤ (nI c).toNatClampNeg) := nI_in (by omega) (by omega)
    have cc : (nI c).toNatClampNeg = c := nI_clamp (by omega)
    obtain ⟨A', Wy, l1, l2, l3⟩ := m_pond_h (d := d) (x := x) hd hH hW e1 e2 hwf hv m (c + 1) (by omega) (upd A c (τ.2.2.1 43 c)) (fun e he => by
      rw [upd_at]
      by_cases q : e = c
      · rw [if_pos q, q]; exact hv c (by omega)
      · rw [if_neg q]; exact hA e (by omega))
    refine ⟨A', Wy, vc_m_pondh (σ1 := τ) (by omega) (fun z => absurd z hlt) (fun z => absurd z hlt) (fun _ => g) (fun _ => g) (fun _ => ?_) (fun _ => ?_), l2, l3⟩
    · show τ.2.2.1 43 (nI c).toNatClampNeg = 0 ∨ τ.2.2.1 43 (nI c).toNatClampNeg = 1
      rw [cc, hv c (by omega)]
      by_cases q : wa c = true
      · rw [if_pos q]; exact Or.inr rfl
      · rw [if_neg q]; exact Or.inl rfl
    · show mm_Runs d 97 (103, [some (.ref 37), none, none, none, none, none, none, some (.int (nI c + 1))], [], HH x (ua (ua τ 41 A) 41 (upd A (nI c).toNatClampNeg (τ.2.2.1 43 (nI c).toNatClampNeg)))) _
      rw [ua_2, cc, show nI c + (1 : Int32) = nI (c + 1) from nI_1 c]
      exact l1
theorem rd_wf (s : Nat → Int32) (m : Nat) : ∀ c, rd_w s m c = true → c < rd_H s * rd_W s := by
  intro c h
  unfold rd_w at h
  rw [Bool.and_eq_true, decide_eq_true_eq] at h
  exact h.1
theorem rd_le {s : Nat → Int32} {n f : Nat} (h : rd_f s n f) : f ≤ n := by
  rcases h.1 with ⟨z, -⟩ | ⟨z, -⟩ <;> omega
theorem pond_0 {x : Nat × (Nat → Int32)} {σ : mm_S} {i n t : Int32} (hr : Rel σ) (qt : p_isSort (ui σ 210 0) t) : ∃ (v : Int32) (σ1 σ2 : mm_S), mm_Runs 999 i_X6_pond (0, [some (.ref 2), some (.int 0), some (.int t), some (.int i), some (.int n), none, none], [], HH x σ) (some (.int v), HH x σ1) ∧ mm_Runs 999 i_X7_pond (0, [some (.ref 37), some (.int 0), some (.int t), some (.int i), some (.int n), none, none, none], [], HH x σ1) (some (.int v), HH x σ2) ∧ Rel σ2 := by
  obtain ⟨h1, h2, P, ns, nw, nr, hp, hc, hri, hwy, hs, hw, hre, hti⟩ := id hr
  have sh := h2.1
  obtain ⟨L, hL, eL⟩ := sh.2.2.1
  have el : σ.2.2.1 39 0 = nI L := sh.2.1.symm.trans eL
  have q : p_isSheet (ui σ 210 0) 0 := by unfold p_isSheet; decide
  have qs := fun τ : mm_S => (sheet_iff (ui τ 3700 0) (ui σ 210 0) 0).mpr q
  have qu := fun τ : mm_S => (sort_iff (ui τ 3700 0) (ui σ 210 0) t).mpr qt
  have kc : (0 : Int32).toNatClampNeg = 0 := rfl
  have bad : ∀ f : Int32, ¬ f = 0 → mm_Runs 999 i_X6_pond (0, [some (.ref 2), some (.int 0), some (.int t), some (.int i), some (.int n), none, none], [], HH x σ) (some (.int (-10 - f)), HH x (ui (ui σ 210 0) 210 f)) → f_m_against σ 0 t i n = f → ∃ (v : Int32) (σ1 σ2 : mm_S), mm_Runs 999 i_X6_pond (0, [some (.ref 2), some (.int 0), some (.int t), some (.int i), some (.int n), none, none], [], HH x σ) (some (.int v), HH x σ1) ∧ mm_Runs 999 i_X7_pond (0, [some (.ref 37), some (.int 0), some (.int t), some (.int i), some (.int n), none, none, none], [], HH x σ1) (some (.int v), HH x σ2) ∧ Rel σ2 := by
    intro f hf c ea0
    have ea : f_m_against (ui (ui (ui σ 210 0) 210 f) 3700 0) 0 t i n = f := ea0
    have na : ¬ f_m_against (ui (ui (ui σ 210 0) 210 f) 3700 0) 0 t i n = 0 := by rw [ea]; exact hf
    have m := vc_m_pond (d := 999) (x := x) (σ := ui (ui σ 210 0) 210 f) (k := 0) (t := t) (i := i) (n := n) (v1 := 0) (σ1 := σ) (r := (some (.int (-10 - f)), HH x (ui (ui (ui (ui σ 210 0) 210 f) 3700 0) 3700 f))) (by omega) (fun _ _ => by decide) (fun _ _ _ => by decide) (fun _ _ _ => by decide) (fun _ _ _ _ => by decide) (fun _ _ _ _ _ _ => by decide) (fun _ _ _ _ _ _ _ => by decide) (fun _ _ z3 => absurd z3 na) (fun _ _ z3 _ => absurd z3 na) (fun _ _ z3 _ => absurd z3 na) (fun _ _ _ => by rw [ea]; rfl) (fun _ z2 => absurd (qu _) z2) (fun z1 => absurd (qs _) z1)
    exact ⟨_, _, _, c, m, ⟨⟨rfl, h1.2⟩, h2, P, ns, nw, nr, hp, hc, hri, hwy, hs, hw, hre, hti⟩⟩
  rcases sh.1 with ⟨a1, b1⟩ | ⟨a1, b1, b2⟩
  · have na : ¬ p_isOfAnother_4 (ui σ 210 0) t := fun z => z.1 a1
    exact bad 1 (by decide) (vc_pond (d := 999) (x := x) (σ := σ) (k := 0) (t := t) (i := i) (n := n) (v1 := 0) (v3 := 0) (v5 := 0) (v7 := 0) (σ1 := σ) (σ2 := σ) (σ3 := σ) (σ4 := σ) (σ5 := σ) (σ6 := σ) (σ7 := σ) (σ8 := σ) (r := (some (.int (-10 - 1)), HH x (ui (ui σ 210 0) 210 1))) (by omega) (fun _ _ => by decide) (fun _ _ _ _ z5 _ _ => absurd a1 z5) (fun _ _ _ _ z5 _ _ _ => absurd a1 z5) (fun _ _ _ _ z5 _ _ _ => absurd a1 z5) (fun _ _ _ _ z5 _ _ _ => absurd a1 z5) (fun _ _ _ _ z5 _ _ => absurd a1 z5) (fun _ _ _ _ z5 _ => absurd a1 z5) (fun _ _ _ _ _ => rfl) (fun _ _ _ z4 => absurd z4 na) (fun _ _ z3 _ _ _ _ => absurd z3 (by decide)) (fun _ _ z3 _ _ _ _ _ => absurd z3 (by decide)) (fun _ _ z3 _ _ _ _ _ => absurd z3 (by decide)) (fun _ _ z3 _ _ _ _ _ => absurd z3 (by decide)) (fun _ _ z3 _ _ _ _ => absurd z3 (by decide)) (fun _ _ z3 _ _ _ => absurd z3 (by decide)) (fun _ _ z3 _ _ => absurd z3 (by decide)) (fun _ _ z3 _ => absurd z3 (by decide)) (fun _ _ z3 _ _ _ _ => absurd z3 (by decide)) (fun _ _ z3 _ _ _ _ _ => absurd z3 (by decide)) (fun _ _ z3 _ _ _ _ _ => absurd z3 (by decide)) (fun _ _ z3 _ _ _ _ _ => absurd z3 (by decide)) (fun _ _ z3 _ _ _ _ => absurd z3 (by decide)) (fun _ _ z3 _ _ _ => absurd z3 (by decide)) (fun _ _ z3 _ _ => absurd z3 (by decide)) (fun _ _ z3 _ => absurd z3 (by decide)) (fun _ _ z3 _ _ _ _ => absurd z3 (by decide)) (fun _ _ z3 _ _ _ _ _ => absurd z3 (by decide)) (fun _ _ z3 _ _ _ _ _ => absurd z3 (by decide)) (fun _ _ z3 _ _ _ _ _ => absurd z3 (by decide)) (fun _ _ z3 _ _ _ _ => absurd z3 (by decide)) (fun _ _ z3 _ _ _ => absurd z3 (by decide)) (fun _ _ z3 _ _ => absurd z3 (by decide)) (fun _ _ z3 _ => absurd z3 (by decide)) (fun _ z2 => absurd qt z2) (fun z1 => absurd q z1)) (by unfold f_m_against; rw [kc, if_pos b1])
  have a2 : ¬ σ.1 401 = 0 := by rw [a1]; decide
  have b3 : ¬ σ.2.2.1 38 0 = -9 := fun z => kd_n9 b2 (b1.symm.trans z)
  by_cases w : σ.1 402 = t
  · have na : ¬ p_isOfAnother_4 (ui σ 210 0) t := fun z => z.2 w
    have b4 : σ.2.2.1 38 0 = t := b1.trans w
    by_cases hn0 : 0 ≤ n
    · by_cases hcs : p_hasCells_4 (ui σ 210 0) i n
      · have hcs2 := hcs
        unfold p_hasCells_4 at hcs2
        rw [show (ui σ 210 0).1 403 = nI L from eL] at hcs2
        obtain ⟨a, m, rfl, rfl, ham⟩ := (hcN hL i n).mp hcs2
        obtain ⟨v, h, wd, qq, r1, r2⟩ := c_read0 (d := 998) (x := x) (σ := ui σ 210 0) (s := fun j => σ.2.2.1 8 (a + j)) (i := a) (n := m) (by omega) (by omega) (fun _ _ => rfl)
        have a0 : f_m_against σ 0 t (nI a) (nI m) = 0 := by
          unfold f_m_against
          rw [kc, el, if_neg b3, if_pos b4, if_pos hn0, if_neg hcs2.1, if_neg hcs2.2.2.1, if_pos (i_nlt.mp hcs2.2.2.2)]
        have eB : (60 : Int32) * 0 + nI a = nI (0 + a) := nI_add 0 a
        have eBn : (60 : Int32) * 0 + nI a + nI m = nI (0 + a + m) := by rw [eB, nI_add]
        have hcell : ∀ τ : mm_S, τ.2.2.1 40 = σ.2.2.1 40 → ∀ j, j < m → τ.2.2.1 40 (0 + a + j) = σ.2.2.1 8 (a + j) := by
          intro τ eτ j hj
          rw [eτ, sh.2.2.2 (a + j) (by omega)]
          exact congrArg (σ.2.2.1 40) (by omega)
        rcases r2 with ⟨rfl, t1, rfl, rfl, t2⟩ | ⟨f, rfl, t1⟩
        · obtain ⟨⟨g1, g2, g3⟩, g4, g5, g6⟩ := rd_hw (t1.2.2 1 (by have := t1.1; omega)) (t1.2.2 2 (by have := t1.1; omega))
          generalize hsd : (fun j => σ.2.2.1 8 (a + j)) = s at *
          obtain ⟨bf, bg, p1, p2, p3⟩ := c_begin (d := 998) (x := x) (H := rd_H s) (W := rd_W s) (q := qq) (σ := tx (ui σ 210 0) (nI (rd_H s)) (nI (rd_W s)) qq) (by omega) g2 g4 g5
          have c := vc_pond (d := 999) (x := x) (σ := σ) (k := 0) (t := t) (i := nI a) (n := nI m) (v3 := 0) (v5 := 0) (v7 := 0) (σ3 := σ) (σ4 := σ) (σ5 := σ) (σ6 := σ) (σ7 := σ) (σ8 := σ) (v1 := -1) (σ1 := tx (ui σ 210 0) (nI (rd_H s)) (nI (rd_W s)) qq) (σ2 := _) (r := _) (by omega) (fun _ _ => by decide) (fun _ _ _ _ _ _ _ => r1) (fun _ _ _ _ _ _ _ _ => p1) (fun _ _ _ _ _ _ _ _ => rfl) (fun _ _ _ _ _ _ _ z8 => absurd rfl z8) (fun _ _ _ _ _ _ z7 => absurd hcs z7) (fun _ _ _ _ _ z6 => absurd hn0 z6) (fun _ _ _ _ z5 => absurd z5 a2) (fun _ _ _ z4 => absurd z4 na) (fun _ _ z3 _ _ _ _ => absurd z3 (by decide)) (fun _ _ z3 _ _ _ _ _ => absurd z3 (by decide)) (fun _ _ z3 _ _ _ _ _ => absurd z3 (by decide)) (fun _ _ z3 _ _ _ _ _ => absurd z3 (by decide)) (fun _ _ z3 _ _ _ _ => absurd z3 (by decide)) (fun _ _ z3 _ _ _ => absurd z3 (by decide)) (fun _ _ z3 _ _ => absurd z3 (by decide)) (fun _ _ z3 _ => absurd z3 (by decide)) (fun _ _ z3 _ _ _ _ => absurd z3 (by decide)) (fun _ _ z3 _ _ _ _ _ => absurd z3 (by decide)) (fun _ _ z3 _ _ _ _ _ => absurd z3 (by decide)) (fun _ _ z3 _ _ _ _ _ => absurd z3 (by decide)) (fun _ _ z3 _ _ _ _ => absurd z3 (by decide)) (fun _ _ z3 _ _ _ => absurd z3 (by decide)) (fun _ _ z3 _ _ => absurd z3 (by decide)) (fun _ _ z3 _ => absurd z3 (by decide)) (fun _ _ z3 _ _ _ _ => absurd z3 (by decide)) (fun _ _ z3 _ _ _ _ _ => absurd z3 (by decide)) (fun _ _ z3 _ _ _ _ _ => absurd z3 (by decide)) (fun _ _ z3 _ _ _ _ _ => absurd z3 (by decide)) (fun _ _ z3 _ _ _ _ => absurd z3 (by decide)) (fun _ _ z3 _ _ _ => absurd z3 (by decide)) (fun _ _ z3 _ _ => absurd z3 (by decide)) (fun _ _ z3 _ => absurd z3 (by decide)) (fun _ z2 => absurd qt z2) (fun z1 => absurd q z1)
          generalize hτ : g_forgetPlan (ui (ui (ui (ul (ul (ul (ul (ui (ui (tx (ui σ 210 0) (nI (rd_H s)) (nI (rd_W s)) qq) 1306 (nI (rd_W s))) 1305 (nI (rd_H s * rd_W s))) 1303 bf) 1304 bg) 1307 qq) 1302 0) 1603 0) 2003 0) 2403 0) = τ at c
          obtain ⟨v2, a', h', w', W', m1, m2⟩ := m_readPond (d := 998) (x := x) (σ := ui τ 3700 0) (s := s) (B := 0 + a) (n := m) (by omega) (by omega) (fun j hj => (hcell (ui τ 3700 0) (by rw [← hτ]; rfl) j hj).trans (congrFun hsd j))
          rcases m2 with ⟨rfl, -, rfl, rfl, u2⟩ | ⟨rfl, f', u1, -⟩
          · obtain ⟨A', Wy, l1, l2, l3⟩ := m_pond_h (d := 999) (x := x) (τ := ui (ui (rx (ui τ 3700 0) a' (nI (rd_H s)) (nI (rd_W s)) W') 3705 (nI (rd_H s))) 3706 (nI (rd_W s))) (H := rd_H s) (W := rd_W s) (wa := rd_w s m) (by omega) g2 g5 rfl rfl (rd_wf s m) u2 (rd_H s * rd_W s) 0 (by omega) ((ui (ui (rx (ui τ 3700 0) a' (nI (rd_H s)) (nI (rd_W s)) W') 3705 (nI (rd_H s))) 3706 (nI (rd_W s))).2.2.1 41) (fun e he => by omega)
            rw [ua_self] at l1
            have a00 : f_m_against (ui τ 3700 0) 0 t (nI a) (nI m) = 0 := by rw [← hτ]; exact a0
            have mq := vc_m_pond (d := 999) (x := x) (σ := τ) (k := 0) (t := t) (i := nI a) (n := nI m) (v1 := 1) (σ1 := rx (ui τ 3700 0) a' (nI (rd_H s)) (nI (rd_W s)) W') (r := _) (by omega) (fun _ _ => by decide) (fun _ _ _ => by decide) (fun _ _ _ => by decide) (fun _ _ _ _ => by decide) (fun _ _ _ _ _ _ => by decide) (fun _ _ _ _ _ _ _ => by decide) (fun _ _ _ => (by rw [eBn, eB]; exact m1)) (fun _ _ _ _ => l1) (fun _ _ _ z4 => absurd z4 (by decide)) (fun _ _ z3 => absurd a00 z3) (fun _ z2 => absurd (qu _) z2) (fun z1 => absurd (qs _) z1)
            have ev : τ.1 1305 = nI (rd_H s * rd_W s) := by rw [← hτ]; rfl
            rw [ev] at c
            have l4 : ∀ a b, a < rd_H s * rd_W s → b < rd_H s * rd_W s → Wy (42 * a + b) = pd_way (rd_H s, rd_W s, rd_w s m) a b := l3
            refine ⟨_, _, _, c, mq, ?_⟩
            subst hτ
            exact ⟨⟨rfl, h1.2⟩, h2, (rd_H s, rd_W s, rd_w s m), 0, 0, 0, ⟨g2, g5, rfl, rfl, rfl, rfl, rd_wf s m, t2, l2⟩, ⟨p2, p3⟩, (fun c z => by
              have z2 : bt 0 c = true := z
              rw [bt_0] at z2
              cases z2), (fun a b ha hb => l4 a b ha hb), ⟨by omega, rfl, rfl, fun i h => absurd h (by omega)⟩, ⟨by omega, rfl, rfl, fun i h => absurd h (by omega)⟩, ⟨by omega, rfl, rfl, fun i h => absurd h (by omega)⟩, ⟨fun i j h => absurd h (by omega), Or.inl rfl⟩⟩
          · exact absurd t1 (fun z => rd_ft u1 z)
        · have hf := rd_le t1
          have nf : ¬ nI f = -1 := fun z => by
            have := congrArg Int32.toInt z
            rw [nI_toInt (by omega), show (-1 : Int32).toInt = -1 from rfl] at this
            omega
          have c := vc_pond (d := 999) (x := x) (σ := σ) (k := 0) (t := t) (i := nI a) (n := nI m) (v3 := 0) (v5 := 0) (v7 := 0) (σ3 := σ) (σ4 := σ) (σ5 := σ) (σ6 := σ) (σ7 := σ) (σ8 := σ) (v1 := nI f) (σ1 := tx (ui σ 210 0) h wd qq) (σ2 := σ) (r := _) (by omega) (fun _ _ => by decide) (fun _ _ _ _ _ _ _ => r1) (fun _ _ _ _ _ _ _ z8 => absurd z8 nf) (fun _ _ _ _ _ _ _ z8 => absurd z8 nf) (fun _ _ _ _ _ _ _ _ => rfl) (fun _ _ _ _ _ _ z7 => absurd hcs z7) (fun _ _ _ _ _ z6 => absurd hn0 z6) (fun _ _ _ _ z5 => absurd z5 a2) (fun _ _ _ z4 => absurd z4 na) (fun _ _ z3 _ _ _ _ => absurd z3 (by decide)) (fun _ _ z3 _ _ _ _ _ => absurd z3 (by decide)) (fun _ _ z3 _ _ _ _ _ => absurd z3 (by decide)) (fun _ _ z3 _ _ _ _ _ => absurd z3 (by decide)) (fun _ _ z3 _ _ _ _ => absurd z3 (by decide)) (fun _ _ z3 _ _ _ => absurd z3 (by decide)) (fun _ _ z3 _ _ => absurd z3 (by decide)) (fun _ _ z3 _ => absurd z3 (by decide)) (fun _ _ z3 _ _ _ _ => absurd z3 (by decide)) (fun _ _ z3 _ _ _ _ _ => absurd z3 (by decide)) (fun _ _ z3 _ _ _ _ _ => absurd z3 (by decide)) (fun _ _ z3 _ _ _ _ _ => absurd z3 (by decide)) (fun _ _ z3 _ _ _ _ => absurd z3 (by decide)) (fun _ _ z3 _ _ _ => absurd z3 (by decide)) (fun _ _ z3 _ _ => absurd z3 (by decide)) (fun _ _ z3 _ => absurd z3 (by decide)) (fun _ _ z3 _ _ _ _ => absurd z3 (by decide)) (fun _ _ z3 _ _ _ _ _ => absurd z3 (by decide)) (fun _ _ z3 _ _ _ _ _ => absurd z3 (by decide)) (fun _ _ z3 _ _ _ _ _ => absurd z3 (by decide)) (fun _ _ z3 _ _ _ _ => absurd z3 (by decide)) (fun _ _ z3 _ _ _ => absurd z3 (by decide)) (fun _ _ z3 _ _ => absurd z3 (by decide)) (fun _ _ z3 _ => absurd z3 (by decide)) (fun _ z2 => absurd qt z2) (fun z1 => absurd q z1)
          obtain ⟨v2, a', h', w', W', m1, m2⟩ := m_readPond (d := 998) (x := x) (σ := ui (tx (ui σ 210 0) h wd qq) 3700 0) (s := fun j => σ.2.2.1 8 (a + j)) (B := 0 + a) (n := m) (by omega) (by omega) (hcell (ui (tx (ui σ 210 0) h wd qq) 3700 0) rfl)
          rcases m2 with ⟨-, u1, -⟩ | ⟨rfl, f', u1, rfl⟩
          · exact absurd u1 (fun z => rd_ft t1 z)
          · have e := rd_uni t1 u1
            subst e
            have m := vc_m_pond (d := 999) (x := x) (σ := tx (ui σ 210 0) h wd qq) (k := 0) (t := t) (i := nI a) (n := nI m) (v1 := 0) (σ1 := rx (ui (tx (ui σ 210 0) h wd qq) 3700 0) (nI (0 + a + f)) h' w' W') (r := (some (.int (-100 - nI f)), HH x (rx (ui (tx (ui σ 210 0) h wd qq) 3700 0) (nI (0 + a + f)) h' w' W'))) (by omega) (fun _ _ => by decide) (fun _ _ _ => by decide) (fun _ _ _ => by decide) (fun _ _ _ _ => by decide) (fun _ _ _ _ _ _ => by decide) (fun _ _ _ _ _ _ _ => by decide) (fun _ _ _ => (by rw [eBn, eB]; exact m1)) (fun _ _ _ z4 => absurd rfl z4) (fun _ _ _ _ => ?_) (fun _ _ z3 => absurd a0 z3) (fun _ z2 => absurd (qu _) z2) (fun z1 => absurd (qs _) z1)
            · exact ⟨_, _, _, c, m, ⟨⟨rfl, h1.2⟩, h2, P, ns, nw, nr, hp, hc, hri, hwy, hs, hw, hre, hti⟩⟩
            · show (some (Value.int (-100 - (nI (0 + a + f) - ((60 : Int32) * 0 + nI a)))), _) = _
              rw [eB, show nI (0 + a + f) - nI (0 + a) = nI f by
                rw [pk_sub (by omega)]
                exact congrArg nI (by omega)]
      · refine bad 3 (by decide) (vc_pond (d := 999) (x := x) (σ := σ) (k := 0) (t := t) (i := i) (n := n) (v1 := 0) (v3 := 0) (v5 := 0) (v7 := 0) (σ1 := σ) (σ2 := σ) (σ3 := σ) (σ4 := σ) (σ5 := σ) (σ6 := σ) (σ7 := σ) (σ8 := σ) (r := (some (.int (-10 - 3)), HH x (ui (ui σ 210 0) 210 3))) (by omega) (fun _ _ => by decide) (fun _ _ _ _ _ _ z7 => absurd z7 hcs) (fun _ _ _ _ _ _ z7 _ => absurd z7 hcs) (fun _ _ _ _ _ _ z7 _ => absurd z7 hcs) (fun _ _ _ _ _ _ z7 _ => absurd z7 hcs) (fun _ _ _ _ _ _ _ => rfl) (fun _ _ _ _ _ z6 => absurd hn0 z6) (fun _ _ _ _ z5 => absurd z5 a2) (fun _ _ _ z4 => absurd z4 na) (fun _ _ z3 _ _ _ _ => absurd z3 (by decide)) (fun _ _ z3 _ _ _ _ _ => absurd z3 (by decide)) (fun _ _ z3 _ _ _ _ _ => absurd z3 (by decide)) (fun _ _ z3 _ _ _ _ _ => absurd z3 (by decide)) (fun _ _ z3 _ _ _ _ => absurd z3 (by decide)) (fun _ _ z3 _ _ _ => absurd z3 (by decide)) (fun _ _ z3 _ _ => absurd z3 (by decide)) (fun _ _ z3 _ => absurd z3 (by decide)) (fun _ _ z3 _ _ _ _ => absurd z3 (by decide)) (fun _ _ z3 _ _ _ _ _ => absurd z3 (by decide)) (fun _ _ z3 _ _ _ _ _ => absurd z3 (by decide)) (fun _ _ z3 _ _ _ _ _ => absurd z3 (by decide)) (fun _ _ z3 _ _ _ _ => absurd z3 (by decide)) (fun _ _ z3 _ _ _ => absurd z3 (by decide)) (fun _ _ z3 _ _ => absurd z3 (by decide)) (fun _ _ z3 _ => absurd z3 (by decide)) (fun _ _ z3 _ _ _ _ => absurd z3 (by decide)) (fun _ _ z3 _ _ _ _ _ => absurd z3 (by decide)) (fun _ _ z3 _ _ _ _ _ => absurd z3 (by decide)) (fun _ _ z3 _ _ _ _ _ => absurd z3 (by decide)) (fun _ _ z3 _ _ _ _ => absurd z3 (by decide)) (fun _ _ z3 _ _ _ => absurd z3 (by decide)) (fun _ _ z3 _ _ => absurd z3 (by decide)) (fun _ _ z3 _ => absurd z3 (by decide)) (fun _ z2 => absurd qt z2) (fun z1 => absurd q z1)) ?_
        have hcs2 := hcs
        unfold p_hasCells_4 at hcs2
        rw [show (ui σ 210 0).1 403 = nI L from eL] at hcs2
        unfold f_m_against
        rw [kc, el, if_neg b3, if_pos b4, if_pos hn0]
        by_cases z1 : i < 0
        · rw [if_pos z1]
        · rw [if_neg z1]
          by_cases z2 : nI L < i
          · rw [if_pos z2]
          · rw [if_neg z2, if_neg (fun z3 => hcs2 ⟨z1, i_nlt.mpr hn0, z2, i_nlt.mpr z3⟩)]
    · exact bad 4 (by decide) (vc_pond (d := 999) (x := x) (σ := σ) (k := 0) (t := t) (i := i) (n := n) (v1 := 0) (v3 := 0) (v5 := 0) (v7 := 0) (σ1 := σ) (σ2 := σ) (σ3 := σ) (σ4 := σ) (σ5 := σ) (σ6 := σ) (σ7 := σ) (σ8 := σ) (r := (some (.int (-10 - 4)), HH x (ui (ui σ 210 0) 210 4))) (by omega) (fun _ _ => by decide) (fun _ _ _ _ _ z6 _ => absurd z6 hn0) (fun _ _ _ _ _ z6 _ _ => absurd z6 hn0) (fun _ _ _ _ _ z6 _ _ => absurd z6 hn0) (fun _ _ _ _ _ z6 _ _ => absurd z6 hn0) (fun _ _ _ _ _ z6 _ => absurd z6 hn0) (fun _ _ _ _ _ _ => rfl) (fun _ _ _ _ z5 => absurd z5 a2) (fun _ _ _ z4 => absurd z4 na) (fun _ _ z3 _ _ _ _ => absurd z3 (by decide)) (fun _ _ z3 _ _ _ _ _ => absurd z3 (by decide)) (fun _ _ z3 _ _ _ _ _ => absurd z3 (by decide)) (fun _ _ z3 _ _ _ _ _ => absurd z3 (by decide)) (fun _ _ z3 _ _ _ _ => absurd z3 (by decide)) (fun _ _ z3 _ _ _ => absurd z3 (by decide)) (fun _ _ z3 _ _ => absurd z3 (by decide)) (fun _ _ z3 _ => absurd z3 (by decide)) (fun _ _ z3 _ _ _ _ => absurd z3 (by decide)) (fun _ _ z3 _ _ _ _ _ => absurd z3 (by decide)) (fun _ _ z3 _ _ _ _ _ => absurd z3 (by decide)) (fun _ _ z3 _ _ _ _ _ => absurd z3 (by decide)) (fun _ _ z3 _ _ _ _ => absurd z3 (by decide)) (fun _ _ z3 _ _ _ => absurd z3 (by decide)) (fun _ _ z3 _ _ => absurd z3 (by decide)) (fun _ _ z3 _ => absurd z3 (by decide)) (fun _ _ z3 _ _ _ _ => absurd z3 (by decide)) (fun _ _ z3 _ _ _ _ _ => absurd z3 (by decide)) (fun _ _ z3 _ _ _ _ _ => absurd z3 (by decide)) (fun _ _ z3 _ _ _ _ _ => absurd z3 (by decide)) (fun _ _ z3 _ _ _ _ => absurd z3 (by decide)) (fun _ _ z3 _ _ _ => absurd z3 (by decide)) (fun _ _ z3 _ _ => absurd z3 (by decide)) (fun _ _ z3 _ => absurd z3 (by decide)) (fun _ z2 => absurd qt z2) (fun z1 => absurd q z1)) (by unfold f_m_against; rw [kc, if_neg b3, if_pos b4, if_neg hn0])
  · have na : p_isOfAnother_4 (ui σ 210 0) t := ⟨a2, w⟩
    exact bad 2 (by decide) (vc_pond (d := 999) (x := x) (σ := σ) (k := 0) (t := t) (i := i) (n := n) (v1 := 0) (v3 := 0) (v5 := 0) (v7 := 0) (σ1 := σ) (σ2 := σ) (σ3 := σ) (σ4 := σ) (σ5 := σ) (σ6 := σ) (σ7 := σ) (σ8 := σ) (r := (some (.int (-10 - 2)), HH x (ui (ui σ 210 0) 210 2))) (by omega) (fun _ _ => by decide) (fun _ _ _ z4 _ _ _ => absurd na z4) (fun _ _ _ z4 _ _ _ _ => absurd na z4) (fun _ _ _ z4 _ _ _ _ => absurd na z4) (fun _ _ _ z4 _ _ _ _ => absurd na z4) (fun _ _ _ z4 _ _ _ => absurd na z4) (fun _ _ _ z4 _ _ => absurd na z4) (fun _ _ _ z4 _ => absurd na z4) (fun _ _ _ _ => rfl) (fun _ _ z3 _ _ _ _ => absurd z3 (by decide)) (fun _ _ z3 _ _ _ _ _ => absurd z3 (by decide)) (fun _ _ z3 _ _ _ _ _ => absurd z3 (by decide)) (fun _ _ z3 _ _ _ _ _ => absurd z3 (by decide)) (fun _ _ z3 _ _ _ _ => absurd z3 (by decide)) (fun _ _ z3 _ _ _ => absurd z3 (by decide)) (fun _ _ z3 _ _ => absurd z3 (by decide)) (fun _ _ z3 _ => absurd z3 (by decide)) (fun _ _ z3 _ _ _ _ => absurd z3 (by decide)) (fun _ _ z3 _ _ _ _ _ => absurd z3 (by decide)) (fun _ _ z3 _ _ _ _ _ => absurd z3 (by decide)) (fun _ _ z3 _ _ _ _ _ => absurd z3 (by decide)) (fun _ _ z3 _ _ _ _ => absurd z3 (by decide)) (fun _ _ z3 _ _ _ => absurd z3 (by decide)) (fun _ _ z3 _ _ => absurd z3 (by decide)) (fun _ _ z3 _ => absurd z3 (by decide)) (fun _ _ z3 _ _ _ _ => absurd z3 (by decide)) (fun _ _ z3 _ _ _ _ _ => absurd z3 (by decide)) (fun _ _ z3 _ _ _ _ _ => absurd z3 (by decide)) (fun _ _ z3 _ _ _ _ _ => absurd z3 (by decide)) (fun _ _ z3 _ _ _ _ => absurd z3 (by decide)) (fun _ _ z3 _ _ _ => absurd z3 (by decide)) (fun _ _ z3 _ _ => absurd z3 (by decide)) (fun _ _ z3 _ => absurd z3 (by decide)) (fun _ z2 => absurd qt z2) (fun z1 => absurd q z1)) (by unfold f_m_against; rw [kc, if_neg b3, if_neg (fun y => w (b1.symm.trans y))])
theorem pond_1 {x : Nat × (Nat → Int32)} {σ : mm_S} {i n t : Int32} (hr : Rel σ) (qt : p_isSort (ui σ 210 0) t) : ∃ (v : Int32) (σ1 σ2 : mm_S), mm_Runs 999 i_X6_pond (0, [some (.ref 2), some (.int 1), some (.int t), some (.int i), some (.int n), none, none], [], HH x σ) (some (.int v), HH x σ1) ∧ mm_Runs 999 i_X7_pond (0, [some (.ref 37), some (.int 1), some (.int t), some (.int i), some (.int n), none, none, none], [], HH x σ1) (some (.int v), HH x σ2) ∧ Rel σ2 := by
  obtain ⟨h1, h2, P, ns, nw, nr, hp, hc, hri, hwy, hs, hw, hre, hti⟩ := id hr
  have sh := h2.2.1
  obtain ⟨L, hL, eL⟩ := sh.2.2.1
  have el : σ.2.2.1 39 1 = nI L := sh.2.1.symm.trans eL
  have q : p_isSheet (ui σ 210 0) 1 := by unfold p_isSheet; decide
  have qs := fun τ : mm_S => (sheet_iff (ui τ 3700 0) (ui σ 210 0) 1).mpr q
  have qu := fun τ : mm_S => (sort_iff (ui τ 3700 0) (ui σ 210 0) t).mpr qt
  have kc : (1 : Int32).toNatClampNeg = 1 := rfl
  have bad : ∀ f : Int32, ¬ f = 0 → mm_Runs 999 i_X6_pond (0, [some (.ref 2), some (.int 1), some (.int t), some (.int i), some (.int n), none, none], [], HH x σ) (some (.int (-10 - f)), HH x (ui (ui σ 210 0) 210 f)) → f_m_against σ 1 t i n = f → ∃ (v : Int32) (σ1 σ2 : mm_S), mm_Runs 999 i_X6_pond (0, [some (.ref 2), some (.int 1), some (.int t), some (.int i), some (.int n), none, none], [], HH x σ) (some (.int v), HH x σ1) ∧ mm_Runs 999 i_X7_pond (0, [some (.ref 37), some (.int 1), some (.int t), some (.int i), some (.int n), none, none, none], [], HH x σ1) (some (.int v), HH x σ2) ∧ Rel σ2 := by
    intro f hf c ea0
    have ea : f_m_against (ui (ui (ui σ 210 0) 210 f) 3700 0) 1 t i n = f := ea0
    have na : ¬ f_m_against (ui (ui (ui σ 210 0) 210 f) 3700 0) 1 t i n = 0 := by rw [ea]; exact hf
    have m := vc_m_pond (d := 999) (x := x) (σ := ui (ui σ 210 0) 210 f) (k := 1) (t := t) (i := i) (n := n) (v1 := 0) (σ1 := σ) (r := (some (.int (-10 - f)), HH x (ui (ui (ui (ui σ 210 0) 210 f) 3700 0) 3700 f))) (by omega) (fun _ _ => by decide) (fun _ _ _ => by decide) (fun _ _ _ => by decide) (fun _ _ _ _ => by decide) (fun _ _ _ _ _ _ => by decide) (fun _ _ _ _ _ _ _ => by decide) (fun _ _ z3 => absurd z3 na) (fun _ _ z3 _ => absurd z3 na) (fun _ _ z3 _ => absurd z3 na) (fun _ _ _ => by rw [ea]; rfl) (fun _ z2 => absurd (qu _) z2) (fun z1 => absurd (qs _) z1)
    exact ⟨_, _, _, c, m, ⟨⟨rfl, h1.2⟩, h2, P, ns, nw, nr, hp, hc, hri, hwy, hs, hw, hre, hti⟩⟩
  rcases sh.1 with ⟨a1, b1⟩ | ⟨a1, b1, b2⟩
  · have na : ¬ p_isOfAnother_5 (ui σ 210 0) t := fun z => z.1 a1
    exact bad 1 (by decide) (vc_pond (d := 999) (x := x) (σ := σ) (k := 1) (t := t) (i := i) (n := n) (v1 := 0) (v3 := 0) (v5 := 0) (v7 := 0) (σ1 := σ) (σ2 := σ) (σ3 := σ) (σ4 := σ) (σ5 := σ) (σ6 := σ) (σ7 := σ) (σ8 := σ) (r := (some (.int (-10 - 1)), HH x (ui (ui σ 210 0) 210 1))) (by omega) (fun _ _ => by decide) (fun _ _ z3 _ _ _ _ => absurd z3 (by decide)) (fun _ _ z3 _ _ _ _ _ => absurd z3 (by decide)) (fun _ _ z3 _ _ _ _ _ => absurd z3 (by decide)) (fun _ _ z3 _ _ _ _ _ => absurd z3 (by decide)) (fun _ _ z3 _ _ _ _ => absurd z3 (by decide)) (fun _ _ z3 _ _ _ => absurd z3 (by decide)) (fun _ _ z3 _ _ => absurd z3 (by decide)) (fun _ _ z3 _ => absurd z3 (by decide)) (fun _ _ _ _ z5 _ _ => absurd a1 z5) (fun _ _ _ _ z5 _ _ _ => absurd a1 z5) (fun _ _ _ _ z5 _ _ _ => absurd a1 z5) (fun _ _ _ _ z5 _ _ _ => absurd a1 z5) (fun _ _ _ _ z5 _ _ => absurd a1 z5) (fun _ _ _ _ z5 _ => absurd a1 z5) (fun _ _ _ _ _ => rfl) (fun _ _ _ z4 => absurd z4 na) (fun _ _ z3 _ _ _ _ => absurd z3 (by decide)) (fun _ _ z3 _ _ _ _ _ => absurd z3 (by decide)) (fun _ _ z3 _ _ _ _ _ => absurd z3 (by decide)) (fun _ _ z3 _ _ _ _ _ => absurd z3 (by decide)) (fun _ _ z3 _ _ _ _ => absurd z3 (by decide)) (fun _ _ z3 _ _ _ => absurd z3 (by decide)) (fun _ _ z3 _ _ => absurd z3 (by decide)) (fun _ _ z3 _ => absurd z3 (by decide)) (fun _ _ z3 _ _ _ _ => absurd z3 (by decide)) (fun _ _ z3 _ _ _ _ _ => absurd z3 (by decide)) (fun _ _ z3 _ _ _ _ _ => absurd z3 (by decide)) (fun _ _ z3 _ _ _ _ _ => absurd z3 (by decide)) (fun _ _ z3 _ _ _ _ => absurd z3 (by decide)) (fun _ _ z3 _ _ _ => absurd z3 (by decide)) (fun _ _ z3 _ _ => absurd z3 (by decide)) (fun _ _ z3 _ => absurd z3 (by decide)) (fun _ z2 => absurd qt z2) (fun z1 => absurd q z1)) (by unfold f_m_against; rw [kc, if_pos b1])
  have a2 : ¬ σ.1 501 = 0 := by rw [a1]; decide
  have b3 : ¬ σ.2.2.1 38 1 = -9 := fun z => kd_n9 b2 (b1.symm.trans z)
  by_cases w : σ.1 502 = t
  · have na : ¬ p_isOfAnother_5 (ui σ 210 0) t := fun z => z.2 w
    have b4 : σ.2.2.1 38 1 = t := b1.trans w
    by_cases hn0 : 0 ≤ n
    · by_cases hcs : p_hasCells_5 (ui σ 210 0) i n
      · have hcs2 := hcs
        unfold p_hasCells_5 at hcs2
        rw [show (ui σ 210 0).1 503 = nI L from eL] at hcs2
        obtain ⟨a, m, rfl, rfl, ham⟩ := (hcN hL i n).mp hcs2
        obtain ⟨v, h, wd, qq, r1, r2⟩ := c_read1 (d := 998) (x := x) (σ := ui σ 210 0) (s := fun j => σ.2.2.1 9 (a + j)) (i := a) (n := m) (by omega) (by omega) (fun _ _ => rfl)
        have a0 : f_m_against σ 1 t (nI a) (nI m) = 0 := by
          unfold f_m_against
          rw [kc, el, if_neg b3, if_pos b4, if_pos hn0, if_neg hcs2.1, if_neg hcs2.2.2.1, if_pos (i_nlt.mp hcs2.2.2.2)]
        have eB : (60 : Int32) * 1 + nI a = nI (60 + a) := nI_add 60 a
        have eBn : (60 : Int32) * 1 + nI a + nI m = nI (60 + a + m) := by rw [eB, nI_add]
        have hcell : ∀ τ : mm_S, τ.2.2.1 40 = σ.2.2.1 40 → ∀ j, j < m → τ.2.2.1 40 (60 + a + j) = σ.2.2.1 9 (a + j) := by
          intro τ eτ j hj
          rw [eτ, sh.2.2.2 (a + j) (by omega)]
          exact congrArg (σ.2.2.1 40) (by omega)
        rcases r2 with ⟨rfl, t1, rfl, rfl, t2⟩ | ⟨f, rfl, t1⟩
        · obtain ⟨⟨g1, g2, g3⟩, g4, g5, g6⟩ := rd_hw (t1.2.2 1 (by have := t1.1; omega)) (t1.2.2 2 (by have := t1.1; omega))
          generalize hsd : (fun j => σ.2.2.1 9 (a + j)) = s at *
          obtain ⟨bf, bg, p1, p2, p3⟩ := c_begin (d := 998) (x := x) (H := rd_H s) (W := rd_W s) (q := qq) (σ := tx (ui σ 210 0) (nI (rd_H s)) (nI (rd_W s)) qq) (by omega) g2 g4 g5
          have c := vc_pond (d := 999) (x := x) (σ := σ) (k := 1) (t := t) (i := nI a) (n := nI m) (v1 := 0) (v5 := 0) (v7 := 0) (σ1 := σ) (σ2 := σ) (σ5 := σ) (σ6 := σ) (σ7 := σ) (σ8 := σ) (v3 := -1) (σ3 := tx (ui σ 210 0) (nI (rd_H s)) (nI (rd_W s)) qq) (σ4 := _) (r := _) (by omega) (fun _ _ => by decide) (fun _ _ z3 _ _ _ _ => absurd z3 (by decide)) (fun _ _ z3 _ _ _ _ _ => absurd z3 (by decide)) (fun _ _ z3 _ _ _ _ _ => absurd z3 (by decide)) (fun _ _ z3 _ _ _ _ _ => absurd z3 (by decide)) (fun _ _ z3 _ _ _ _ => absurd z3 (by decide)) (fun _ _ z3 _ _ _ => absurd z3 (by decide)) (fun _ _ z3 _ _ => absurd z3 (by decide)) (fun _ _ z3 _ => absurd z3 (by decide)) (fun _ _ _ _ _ _ _ => r1) (fun _ _ _ _ _ _ _ _ => p1) (fun _ _ _ _ _ _ _ _ => rfl) (fun _ _ _ _ _ _ _ z8 => absurd rfl z8) (fun _ _ _ _ _ _ z7 => absurd hcs z7) (fun _ _ _ _ _ z6 => absurd hn0 z6) (fun _ _ _ _ z5 => absurd z5 a2) (fun _ _ _ z4 => absurd z4 na) (fun _ _ z3 _ _ _ _ => absurd z3 (by decide)) (fun _ _ z3 _ _ _ _ _ => absurd z3 (by decide)) (fun _ _ z3 _ _ _ _ _ => absurd z3 (by decide)) (fun _ _ z3 _ _ _ _ _ => absurd z3 (by decide)) (fun _ _ z3 _ _ _ _ => absurd z3 (by decide)) (fun _ _ z3 _ _ _ => absurd z3 (by decide)) (fun _ _ z3 _ _ => absurd z3 (by decide)) (fun _ _ z3 _ => absurd z3 (by decide)) (fun _ _ z3 _ _ _ _ => absurd z3 (by decide)) (fun _ _ z3 _ _ _ _ _ => absurd z3 (by decide)) (fun _ _ z3 _ _ _ _ _ => absurd z3 (by decide)) (fun _ _ z3 _ _ _ _ _ => absurd z3 (by decide)) (fun _ _ z3 _ _ _ _ => absurd z3 (by decide)) (fun _ _ z3 _ _ _ => absurd z3 (by decide)) (fun _ _ z3 _ _ => absurd z3 (by decide)) (fun _ _ z3 _ => absurd z3 (by decide)) (fun _ z2 => absurd qt z2) (fun z1 => absurd q z1)
          generalize hτ : g_forgetPlan (ui (ui (ui (ul (ul (ul (ul (ui (ui (tx (ui σ 210 0) (nI (rd_H s)) (nI (rd_W s)) qq) 1306 (nI (rd_W s))) 1305 (nI (rd_H s * rd_W s))) 1303 bf) 1304 bg) 1307 qq) 1302 0) 1603 0) 2003 0) 2403 0) = τ at c
          obtain ⟨v2, a', h', w', W', m1, m2⟩ := m_readPond (d := 998) (x := x) (σ := ui τ 3700 0) (s := s) (B := 60 + a) (n := m) (by omega) (by omega) (fun j hj => (hcell (ui τ 3700 0) (by rw [← hτ]; rfl) j hj).trans (congrFun hsd j))
          rcases m2 with ⟨rfl, -, rfl, rfl, u2⟩ | ⟨rfl, f', u1, -⟩
          · obtain ⟨A', Wy, l1, l2, l3⟩ := m_pond_h (d := 999) (x := x) (τ := ui (ui (rx (ui τ 3700 0) a' (nI (rd_H s)) (nI (rd_W s)) W') 3705 (nI (rd_H s))) 3706 (nI (rd_W s))) (H := rd_H s) (W := rd_W s) (wa := rd_w s m) (by omega) g2 g5 rfl rfl (rd_wf s m) u2 (rd_H s * rd_W s) 0 (by omega) ((ui (ui (rx (ui τ 3700 0) a' (nI (rd_H s)) (nI (rd_W s)) W') 3705 (nI (rd_H s))) 3706 (nI (rd_W s))).2.2.1 41) (fun e he => by omega)
            rw [ua_self] at l1
            have a00 : f_m_against (ui τ 3700 0) 1 t (nI a) (nI m) = 0 := by rw [← hτ]; exact a0
            have mq := vc_m_pond (d := 999) (x := x) (σ := τ) (k := 1) (t := t) (i := nI a) (n := nI m) (v1 := 1) (σ1 := rx (ui τ 3700 0) a' (nI (rd_H s)) (nI (rd_W s)) W') (r := _) (by omega) (fun _ _ => by decide) (fun _ _ _ => by decide) (fun _ _ _ => by decide) (fun _ _ _ _ => by decide) (fun _ _ _ _ _ _ => by decide) (fun _ _ _ _ _ _ _ => by decide) (fun _ _ _ => (by rw [eBn, eB]; exact m1)) (fun _ _ _ _ => l1) (fun _ _ _ z4 => absurd z4 (by decide)) (fun _ _ z3 => absurd a00 z3) (fun _ z2 => absurd (qu _) z2) (fun z1 => absurd (qs _) z1)
            have ev : τ.1 1305 = nI (rd_H s * rd_W s) := by rw [← hτ]; rfl
            rw [ev] at c
            have l4 : ∀ a b, a < rd_H s * rd_W s → b < rd_H s * rd_W s → Wy (42 * a + b) = pd_way (rd_H s, rd_W s, rd_w s m) a b := l3
            refine ⟨_, _, _, c, mq, ?_⟩
            subst hτ
            exact ⟨⟨rfl, h1.2⟩, h2, (rd_H s, rd_W s, rd_w s m), 0, 0, 0, ⟨g2, g5, rfl, rfl, rfl, rfl, rd_wf s m, t2, l2⟩, ⟨p2, p3⟩, (fun c z => by
              have z2 : bt 0 c = true := z
              rw [bt_0] at z2
              cases z2), (fun a b ha hb => l4 a b ha hb), ⟨by omega, rfl, rfl, fun i h => absurd h (by omega)⟩, ⟨by omega, rfl, rfl, fun i h => absurd h (by omega)⟩, ⟨by omega, rfl, rfl, fun i h => absurd h (by omega)⟩, ⟨fun i j h => absurd h (by omega), Or.inl rfl⟩⟩
          · exact absurd t1 (fun z => rd_ft u1 z)
        · have hf := rd_le t1
          have nf : ¬ nI f = -1 := fun z => by
            have := congrArg Int32.toInt z
            rw [nI_toInt (by omega), show (-1 : Int32).toInt = -1 from rfl] at this
            omega
          have c := vc_pond (d := 999) (x := x) (σ := σ) (k := 1) (t := t) (i := nI a) (n := nI m) (v1 := 0) (v5 := 0) (v7 := 0) (σ1 := σ) (σ2 := σ) (σ5 := σ) (σ6 := σ) (σ7 := σ) (σ8 := σ) (v3 := nI f) (σ3 := tx (ui σ 210 0) h wd qq) (σ4 := σ) (r := _) (by omega) (fun _ _ => by decide) (fun _ _ z3 _ _ _ _ => absurd z3 (by decide)) (fun _ _ z3 _ _ _ _ _ => absurd z3 (by decide)) (fun _ _ z3 _ _ _ _ _ => absurd z3 (by decide)) (fun _ _ z3 _ _ _ _ _ => absurd z3 (by decide)) (fun _ _ z3 _ _ _ _ => absurd z3 (by decide)) (fun _ _ z3 _ _ _ => absurd z3 (by decide)) (fun _ _ z3 _ _ => absurd z3 (by decide)) (fun _ _ z3 _ => absurd z3 (by decide)) (fun _ _ _ _ _ _ _ => r1) (fun _ _ _ _ _ _ _ z8 => absurd z8 nf) (fun _ _ _ _ _ _ _ z8 => absurd z8 nf) (fun _ _ _ _ _ _ _ _ => rfl) (fun _ _ _ _ _ _ z7 => absurd hcs z7) (fun _ _ _ _ _ z6 => absurd hn0 z6) (fun _ _ _ _ z5 => absurd z5 a2) (fun _ _ _ z4 => absurd z4 na) (fun _ _ z3 _ _ _ _ => absurd z3 (by decide)) (fun _ _ z3 _ _ _ _ _ => absurd z3 (by decide)) (fun _ _ z3 _ _ _ _ _ => absurd z3 (by decide)) (fun _ _ z3 _ _ _ _ _ => absurd z3 (by decide)) (fun _ _ z3 _ _ _ _ => absurd z3 (by decide)) (fun _ _ z3 _ _ _ => absurd z3 (by decide)) (fun _ _ z3 _ _ => absurd z3 (by decide)) (fun _ _ z3 _ => absurd z3 (by decide)) (fun _ _ z3 _ _ _ _ => absurd z3 (by decide)) (fun _ _ z3 _ _ _ _ _ => absurd z3 (by decide)) (fun _ _ z3 _ _ _ _ _ => absurd z3 (by decide)) (fun _ _ z3 _ _ _ _ _ => absurd z3 (by decide)) (fun _ _ z3 _ _ _ _ => absurd z3 (by decide)) (fun _ _ z3 _ _ _ => absurd z3 (by decide)) (fun _ _ z3 _ _ => absurd z3 (by decide)) (fun _ _ z3 _ => absurd z3 (by decide)) (fun _ z2 => absurd qt z2) (fun z1 => absurd q z1)
          obtain ⟨v2, a', h', w', W', m1, m2⟩ := m_readPond (d := 998) (x := x) (σ := ui (tx (ui σ 210 0) h wd qq) 3700 0) (s := fun j => σ.2.2.1 9 (a + j)) (B := 60 + a) (n := m) (by omega) (by omega) (hcell (ui (tx (ui σ 210 0) h wd qq) 3700 0) rfl)
          rcases m2 with ⟨-, u1, -⟩ | ⟨rfl, f', u1, rfl⟩
          · exact absurd u1 (fun z => rd_ft t1 z)
          · have e := rd_uni t1 u1
            subst e
            have m := vc_m_pond (d := 999) (x := x) (σ := tx (ui σ 210 0) h wd qq) (k := 1) (t := t) (i := nI a) (n := nI m) (v1 := 0) (σ1 := rx (ui (tx (ui σ 210 0) h wd qq) 3700 0) (nI (60 + a + f)) h' w' W') (r := (some (.int (-100 - nI f)), HH x (rx (ui (tx (ui σ 210 0) h wd qq) 3700 0) (nI (60 + a + f)) h' w' W'))) (by omega) (fun _ _ => by decide) (fun _ _ _ => by decide) (fun _ _ _ => by decide) (fun _ _ _ _ => by decide) (fun _ _ _ _ _ _ => by decide) (fun _ _ _ _ _ _ _ => by decide) (fun _ _ _ => (by rw [eBn, eB]; exact m1)) (fun _ _ _ z4 => absurd rfl z4) (fun _ _ _ _ => ?_) (fun _ _ z3 => absurd a0 z3) (fun _ z2 => absurd (qu _) z2) (fun z1 => absurd (qs _) z1)
            · exact ⟨_, _, _, c, m, ⟨⟨rfl, h1.2⟩, h2, P, ns, nw, nr, hp, hc, hri, hwy, hs, hw, hre, hti⟩⟩
            · show (some (Value.int (-100 - (nI (60 + a + f) - ((60 : Int32) * 1 + nI a)))), _) = _
              rw [eB, show nI (60 + a + f) - nI (60 + a) = nI f by
                rw [pk_sub (by omega)]
                exact congrArg nI (by omega)]
      · refine bad 3 (by decide) (vc_pond (d := 999) (x := x) (σ := σ) (k := 1) (t := t) (i := i) (n := n) (v1 := 0) (v3 := 0) (v5 := 0) (v7 := 0) (σ1 := σ) (σ2 := σ) (σ3 := σ) (σ4 := σ) (σ5 := σ) (σ6 := σ) (σ7 := σ) (σ8 := σ) (r := (some (.int (-10 - 3)), HH x (ui (ui σ 210 0) 210 3))) (by omega) (fun _ _ => by decide) (fun _ _ z3 _ _ _ _ => absurd z3 (by decide)) (fun _ _ z3 _ _ _ _ _ => absurd z3 (by decide)) (fun _ _ z3 _ _ _ _ _ => absurd z3 (by decide)) (fun _ _ z3 _ _ _ _ _ => absurd z3 (by decide)) (fun _ _ z3 _ _ _ _ => absurd z3 (by decide)) (fun _ _ z3 _ _ _ => absurd z3 (by decide)) (fun _ _ z3 _ _ => absurd z3 (by decide)) (fun _ _ z3 _ => absurd z3 (by decide)) (fun _ _ _ _ _ _ z7 => absurd z7 hcs) (fun _ _ _ _ _ _ z7 _ => absurd z7 hcs) (fun _ _ _ _ _ _ z7 _ => absurd z7 hcs) (fun _ _ _ _ _ _ z7 _ => absurd z7 hcs) (fun _ _ _ _ _ _ _ => rfl) (fun _ _ _ _ _ z6 => absurd hn0 z6) (fun _ _ _ _ z5 => absurd z5 a2) (fun _ _ _ z4 => absurd z4 na) (fun _ _ z3 _ _ _ _ => absurd z3 (by decide)) (fun _ _ z3 _ _ _ _ _ => absurd z3 (by decide)) (fun _ _ z3 _ _ _ _ _ => absurd z3 (by decide)) (fun _ _ z3 _ _ _ _ _ => absurd z3 (by decide)) (fun _ _ z3 _ _ _ _ => absurd z3 (by decide)) (fun _ _ z3 _ _ _ => absurd z3 (by decide)) (fun _ _ z3 _ _ => absurd z3 (by decide)) (fun _ _ z3 _ => absurd z3 (by decide)) (fun _ _ z3 _ _ _ _ => absurd z3 (by decide)) (fun _ _ z3 _ _ _ _ _ => absurd z3 (by decide)) (fun _ _ z3 _ _ _ _ _ => absurd z3 (by decide)) (fun _ _ z3 _ _ _ _ _ => absurd z3 (by decide)) (fun _ _ z3 _ _ _ _ => absurd z3 (by decide)) (fun _ _ z3 _ _ _ => absurd z3 (by decide)) (fun _ _ z3 _ _ => absurd z3 (by decide)) (fun _ _ z3 _ => absurd z3 (by decide)) (fun _ z2 => absurd qt z2) (fun z1 => absurd q z1)) ?_
        have hcs2 := hcs
        unfold p_hasCells_5 at hcs2
        rw [show (ui σ 210 0).1 503 = nI L from eL] at hcs2
        unfold f_m_against
        rw [kc, el, if_neg b3, if_pos b4, if_pos hn0]
        by_cases z1 : i < 0
        · rw [if_pos z1]
        · rw [if_neg z1]
          by_cases z2 : nI L < i
          · rw [if_pos z2]
          · rw [if_neg z2, if_neg (fun z3 => hcs2 ⟨z1, i_nlt.mpr hn0, z2, i_nlt.mpr z3⟩)]
    · exact bad 4 (by decide) (vc_pond (d := 999) (x := x) (σ := σ) (k := 1) (t := t) (i := i) (n := n) (v1 := 0) (v3 := 0) (v5 := 0) (v7 := 0) (σ1 := σ) (σ2 := σ) (σ3 := σ) (σ4 := σ) (σ5 := σ) (σ6 := σ) (σ7 := σ) (σ8 := σ) (r := (some (.int (-10 - 4)), HH x (ui (ui σ 210 0) 210 4))) (by omega) (fun _ _ => by decide) (fun _ _ z3 _ _ _ _ => absurd z3 (by decide)) (fun _ _ z3 _ _ _ _ _ => absurd z3 (by decide)) (fun _ _ z3 _ _ _ _ _ => absurd z3 (by decide)) (fun _ _ z3 _ _ _ _ _ => absurd z3 (by decide)) (fun _ _ z3 _ _ _ _ => absurd z3 (by decide)) (fun _ _ z3 _ _ _ => absurd z3 (by decide)) (fun _ _ z3 _ _ => absurd z3 (by decide)) (fun _ _ z3 _ => absurd z3 (by decide)) (fun _ _ _ _ _ z6 _ => absurd z6 hn0) (fun _ _ _ _ _ z6 _ _ => absurd z6 hn0) (fun _ _ _ _ _ z6 _ _ => absurd z6 hn0) (fun _ _ _ _ _ z6 _ _ => absurd z6 hn0) (fun _ _ _ _ _ z6 _ => absurd z6 hn0) (fun _ _ _ _ _ _ => rfl) (fun _ _ _ _ z5 => absurd z5 a2) (fun _ _ _ z4 => absurd z4 na) (fun _ _ z3 _ _ _ _ => absurd z3 (by decide)) (fun _ _ z3 _ _ _ _ _ => absurd z3 (by decide)) (fun _ _ z3 _ _ _ _ _ => absurd z3 (by decide)) (fun _ _ z3 _ _ _ _ _ => absurd z3 (by decide)) (fun _ _ z3 _ _ _ _ => absurd z3 (by decide)) (fun _ _ z3 _ _ _ => absurd z3 (by decide)) (fun _ _ z3 _ _ => absurd z3 (by decide)) (fun _ _ z3 _ => absurd z3 (by decide)) (fun _ _ z3 _ _ _ _ => absurd z3 (by decide)) (fun _ _ z3 _ _ _ _ _ => absurd z3 (by decide)) (fun _ _ z3 _ _ _ _ _ => absurd z3 (by decide)) (fun _ _ z3 _ _ _ _ _ => absurd z3 (by decide)) (fun _ _ z3 _ _ _ _ => absurd z3 (by decide)) (fun _ _ z3 _ _ _ => absurd z3 (by decide)) (fun _ _ z3 _ _ => absurd z3 (by decide)) (fun _ _ z3 _ => absurd z3 (by decide)) (fun _ z2 => absurd qt z2) (fun z1 => absurd q z1)) (by unfold f_m_against; rw [kc, if_neg b3, if_pos b4, if_neg hn0])
  · have na : p_isOfAnother_5 (ui σ 210 0) t := ⟨a2, w⟩
    exact bad 2 (by decide) (vc_pond (d := 999) (x := x) (σ := σ) (k := 1) (t := t) (i := i) (n := n) (v1 := 0) (v3 := 0) (v5 := 0) (v7 := 0) (σ1 := σ) (σ2 := σ) (σ3 := σ) (σ4 := σ) (σ5 := σ) (σ6 := σ) (σ7 := σ) (σ8 := σ) (r := (some (.int (-10 - 2)), HH x (ui (ui σ 210 0) 210 2))) (by omega) (fun _ _ => by decide) (fun _ _ z3 _ _ _ _ => absurd z3 (by decide)) (fun _ _ z3 _ _ _ _ _ => absurd z3 (by decide)) (fun _ _ z3 _ _ _ _ _ => absurd z3 (by decide)) (fun _ _ z3 _ _ _ _ _ => absurd z3 (by decide)) (fun _ _ z3 _ _ _ _ => absurd z3 (by decide)) (fun _ _ z3 _ _ _ => absurd z3 (by decide)) (fun _ _ z3 _ _ => absurd z3 (by decide)) (fun _ _ z3 _ => absurd z3 (by decide)) (fun _ _ _ z4 _ _ _ => absurd na z4) (fun _ _ _ z4 _ _ _ _ => absurd na z4) (fun _ _ _ z4 _ _ _ _ => absurd na z4) (fun _ _ _ z4 _ _ _ _ => absurd na z4) (fun _ _ _ z4 _ _ _ => absurd na z4) (fun _ _ _ z4 _ _ => absurd na z4) (fun _ _ _ z4 _ => absurd na z4) (fun _ _ _ _ => rfl) (fun _ _ z3 _ _ _ _ => absurd z3 (by decide)) (fun _ _ z3 _ _ _ _ _ => absurd z3 (by decide)) (fun _ _ z3 _ _ _ _ _ => absurd z3 (by decide)) (fun _ _ z3 _ _ _ _ _ => absurd z3 (by decide)) (fun _ _ z3 _ _ _ _ => absurd z3 (by decide)) (fun _ _ z3 _ _ _ => absurd z3 (by decide)) (fun _ _ z3 _ _ => absurd z3 (by decide)) (fun _ _ z3 _ => absurd z3 (by decide)) (fun _ _ z3 _ _ _ _ => absurd z3 (by decide)) (fun _ _ z3 _ _ _ _ _ => absurd z3 (by decide)) (fun _ _ z3 _ _ _ _ _ => absurd z3 (by decide)) (fun _ _ z3 _ _ _ _ _ => absurd z3 (by decide)) (fun _ _ z3 _ _ _ _ => absurd z3 (by decide)) (fun _ _ z3 _ _ _ => absurd z3 (by decide)) (fun _ _ z3 _ _ => absurd z3 (by decide)) (fun _ _ z3 _ => absurd z3 (by decide)) (fun _ z2 => absurd qt z2) (fun z1 => absurd q z1)) (by unfold f_m_against; rw [kc, if_neg b3, if_neg (fun y => w (b1.symm.trans y))])
theorem pond_2 {x : Nat × (Nat → Int32)} {σ : mm_S} {i n t : Int32} (hr : Rel σ) (qt : p_isSort (ui σ 210 0) t) : ∃ (v : Int32) (σ1 σ2 : mm_S), mm_Runs 999 i_X6_pond (0, [some (.ref 2), some (.int 2), some (.int t), some (.int i), some (.int n), none, none], [], HH x σ) (some (.int v), HH x σ1) ∧ mm_Runs 999 i_X7_pond (0, [some (.ref 37), some (.int 2), some (.int t), some (.int i), some (.int n), none, none, none], [], HH x σ1) (some (.int v), HH x σ2) ∧ Rel σ2 := by
  obtain ⟨h1, h2, P, ns, nw, nr, hp, hc, hri, hwy, hs, hw, hre, hti⟩ := id hr
  have sh := h2.2.2.1
  obtain ⟨L, hL, eL⟩ := sh.2.2.1
  have el : σ.2.2.1 39 2 = nI L := sh.2.1.symm.trans eL
  have q : p_isSheet (ui σ 210 0) 2 := by unfold p_isSheet; decide
  have qs := fun τ : mm_S => (sheet_iff (ui τ 3700 0) (ui σ 210 0) 2).mpr q
  have qu := fun τ : mm_S => (sort_iff (ui τ 3700 0) (ui σ 210 0) t).mpr qt
  have kc : (2 : Int32).toNatClampNeg = 2 := rfl
  have bad : ∀ f : Int32, ¬ f = 0 → mm_Runs 999 i_X6_pond (0, [some (.ref 2), some (.int 2), some (.int t), some (.int i), some (.int n), none, none], [], HH x σ) (some (.int (-10 - f)), HH x (ui (ui σ 210 0) 210 f)) → f_m_against σ 2 t i n = f → ∃ (v : Int32) (σ1 σ2 : mm_S), mm_Runs 999 i_X6_pond (0, [some (.ref 2), some (.int 2), some (.int t), some (.int i), some (.int n), none, none], [], HH x σ) (some (.int v), HH x σ1) ∧ mm_Runs 999 i_X7_pond (0, [some (.ref 37), some (.int 2), some (.int t), some (.int i), some (.int n), none, none, none], [], HH x σ1) (some (.int v), HH x σ2) ∧ Rel σ2 := by
    intro f hf c ea0
    have ea : f_m_against (ui (ui (ui σ 210 0) 210 f) 3700 0) 2 t i n = f := ea0
    have na : ¬ f_m_against (ui (ui (ui σ 210 0) 210 f) 3700 0) 2 t i n = 0 := by rw [ea]; exact hf
    have m := vc_m_pond (d := 999) (x := x) (σ := ui (ui σ 210 0) 210 f) (k := 2) (t := t) (i := i) (n := n) (v1 := 0) (σ1 := σ) (r := (some (.int (-10 - f)), HH x (ui (ui (ui (ui σ 210 0) 210 f) 3700 0) 3700 f))) (by omega) (fun _ _ => by decide) (fun _ _ _ => by decide) (fun _ _ _ => by decide) (fun _ _ _ _ => by decide) (fun _ _ _ _ _ _ => by decide) (fun _ _ _ _ _ _ _ => by decide) (fun _ _ z3 => absurd z3 na) (fun _ _ z3 _ => absurd z3 na) (fun _ _ z3 _ => absurd z3 na) (fun _ _ _ => by rw [ea]; rfl) (fun _ z2 => absurd (qu _) z2) (fun z1 => absurd (qs _) z1)
    exact ⟨_, _, _, c, m, ⟨⟨rfl, h1.2⟩, h2, P, ns, nw, nr, hp, hc, hri, hwy, hs, hw, hre, hti⟩⟩
  rcases sh.1 with ⟨a1, b1⟩ | ⟨a1, b1, b2⟩
  · have na : ¬ p_isOfAnother_6 (ui σ 210 0) t := fun z => z.1 a1
    exact bad 1 (by decide) (vc_pond (d := 999) (x := x) (σ := σ) (k := 2) (t := t) (i := i) (n := n) (v1 := 0) (v3 := 0) (v5 := 0) (v7 := 0) (σ1 := σ) (σ2 := σ) (σ3 := σ) (σ4 := σ) (σ5 := σ) (σ6 := σ) (σ7 := σ) (σ8 := σ) (r := (some (.int (-10 - 1)), HH x (ui (ui σ 210 0) 210 1))) (by omega) (fun _ _ => by decide) (fun _ _ z3 _ _ _ _ => absurd z3 (by decide)) (fun _ _ z3 _ _ _ _ _ => absurd z3 (by decide)) (fun _ _ z3 _ _ _ _ _ => absurd z3 (by decide)) (fun _ _ z3 _ _ _ _ _ => absurd z3 (by decide)) (fun _ _ z3 _ _ _ _ => absurd z3 (by decide)) (fun _ _ z3 _ _ _ => absurd z3 (by decide)) (fun _ _ z3 _ _ => absurd z3 (by decide)) (fun _ _ z3 _ => absurd z3 (by decide)) (fun _ _ z3 _ _ _ _ => absurd z3 (by decide)) (fun _ _ z3 _ _ _ _ _ => absurd z3 (by decide)) (fun _ _ z3 _ _ _ _ _ => absurd z3 (by decide)) (fun _ _ z3 _ _ _ _ _ => absurd z3 (by decide)) (fun _ _ z3 _ _ _ _ => absurd z3 (by decide)) (fun _ _ z3 _ _ _ => absurd z3 (by decide)) (fun _ _ z3 _ _ => absurd z3 (by decide)) (fun _ _ z3 _ => absurd z3 (by decide)) (fun _ _ _ _ z5 _ _ => absurd a1 z5) (fun _ _ _ _ z5 _ _ _ => absurd a1 z5) (fun _ _ _ _ z5 _ _ _ => absurd a1 z5) (fun _ _ _ _ z5 _ _ _ => absurd a1 z5) (fun _ _ _ _ z5 _ _ => absurd a1 z5) (fun _ _ _ _ z5 _ => absurd a1 z5) (fun _ _ _ _ _ => rfl) (fun _ _ _ z4 => absurd z4 na) (fun _ _ z3 _ _ _ _ => absurd z3 (by decide)) (fun _ _ z3 _ _ _ _ _ => absurd z3 (by decide)) (fun _ _ z3 _ _ _ _ _ => absurd z3 (by decide)) (fun _ _ z3 _ _ _ _ _ => absurd z3 (by decide)) (fun _ _ z3 _ _ _ _ => absurd z3 (by decide)) (fun _ _ z3 _ _ _ => absurd z3 (by decide)) (fun _ _ z3 _ _ => absurd z3 (by decide)) (fun _ _ z3 _ => absurd z3 (by decide)) (fun _ z2 => absurd qt z2) (fun z1 => absurd q z1)) (by unfold f_m_against; rw [kc, if_pos b1])
  have a2 : ¬ σ.1 601 = 0 := by rw [a1]; decide
  have b3 : ¬ σ.2.2.1 38 2 = -9 := fun z => kd_n9 b2 (b1.symm.trans z)
  by_cases w : σ.1 602 = t
  · have na : ¬ p_isOfAnother_6 (ui σ 210 0) t := fun z => z.2 w
    have b4 : σ.2.2.1 38 2 = t := b1.trans w
    by_cases hn0 : 0 ≤ n
    · by_cases hcs : p_hasCells_6 (ui σ 210 0) i n
      · have hcs2 := hcs
        unfold p_hasCells_6 at hcs2
        rw [show (ui σ 210 0).1 603 = nI L from eL] at hcs2
        obtain ⟨a, m, rfl, rfl, ham⟩ := (hcN hL i n).mp hcs2
        obtain ⟨v, h, wd, qq, r1, r2⟩ := c_read2 (d := 998) (x := x) (σ := ui σ 210 0) (s := fun j => σ.2.2.1 10 (a + j)) (i := a) (n := m) (by omega) (by omega) (fun _ _ => rfl)
        have a0 : f_m_against σ 2 t (nI a) (nI m) = 0 := by
          unfold f_m_against
          rw [kc, el, if_neg b3, if_pos b4, if_pos hn0, if_neg hcs2.1, if_neg hcs2.2.2.1, if_pos (i_nlt.mp hcs2.2.2.2)]
        have eB : (60 : Int32) * 2 + nI a = nI (120 + a) := nI_add 120 a
        have eBn : (60 : Int32) * 2 + nI a + nI m = nI (120 + a + m) := by rw [eB, nI_add]
        have hcell : ∀ τ : mm_S, τ.2.2.1 40 = σ.2.2.1 40 → ∀ j, j < m → τ.2.2.1 40 (120 + a + j) = σ.2.2.1 10 (a + j) := by
          intro τ eτ j hj
          rw [eτ, sh.2.2.2 (a + j) (by omega)]
          exact congrArg (σ.2.2.1 40) (by omega)
        rcases r2 with ⟨rfl, t1, rfl, rfl, t2⟩ | ⟨f, rfl, t1⟩
        · obtain ⟨⟨g1, g2, g3⟩, g4, g5, g6⟩ := rd_hw (t1.2.2 1 (by have := t1.1; omega)) (t1.2.2 2 (by have := t1.1; omega))
          generalize hsd : (fun j => σ.2.2.1 10 (a + j)) = s at *
          obtain ⟨bf, bg, p1, p2, p3⟩ := c_begin (d := 998) (x := x) (H := rd_H s) (W := rd_W s) (q := qq) (σ := tx (ui σ 210 0) (nI (rd_H s)) (nI (rd_W s)) qq) (by omega) g2 g4 g5
          have c := vc_pond (d := 999) (x := x) (σ := σ) (k := 2) (t := t) (i := nI a) (n := nI m) (v1 := 0) (v3 := 0) (v7 := 0) (σ1 := σ) (σ2 := σ) (σ3 := σ) (σ4 := σ) (σ7 := σ) (σ8 := σ) (v5 := -1) (σ5 := tx (ui σ 210 0) (nI (rd_H s)) (nI (rd_W s)) qq) (σ6 := _) (r := _) (by omega) (fun _ _ => by decide) (fun _ _ z3 _ _ _ _ => absurd z3 (by decide)) (fun _ _ z3 _ _ _ _ _ => absurd z3 (by decide)) (fun _ _ z3 _ _ _ _ _ => absurd z3 (by decide)) (fun _ _ z3 _ _ _ _ _ => absurd z3 (by decide)) (fun _ _ z3 _ _ _ _ => absurd z3 (by decide)) (fun _ _ z3 _ _ _ => absurd z3 (by decide)) (fun _ _ z3 _ _ => absurd z3 (by decide)) (fun _ _ z3 _ => absurd z3 (by decide)) (fun _ _ z3 _ _ _ _ => absurd z3 (by decide)) (fun _ _ z3 _ _ _ _ _ => absurd z3 (by decide)) (fun _ _ z3 _ _ _ _ _ => absurd z3 (by decide)) (fun _ _ z3 _ _ _ _ _ => absurd z3 (by decide)) (fun _ _ z3 _ _ _ _ => absurd z3 (by decide)) (fun _ _ z3 _ _ _ => absurd z3 (by decide)) (fun _ _ z3 _ _ => absurd z3 (by decide)) (fun _ _ z3 _ => absurd z3 (by decide)) (fun _ _ _ _ _ _ _ => r1) (fun _ _ _ _ _ _ _ _ => p1) (fun _ _ _ _ _ _ _ _ => rfl) (fun _ _ _ _ _ _ _ z8 => absurd rfl z8) (fun _ _ _ _ _ _ z7 => absurd hcs z7) (fun _ _ _ _ _ z6 => absurd hn0 z6) (fun _ _ _ _ z5 => absurd z5 a2) (fun _ _ _ z4 => absurd z4 na) (fun _ _ z3 _ _ _ _ => absurd z3 (by decide)) (fun _ _ z3 _ _ _ _ _ => absurd z3 (by decide)) (fun _ _ z3 _ _ _ _ _ => absurd z3 (by decide)) (fun _ _ z3 _ _ _ _ _ => absurd z3 (by decide)) (fun _ _ z3 _ _ _ _ => absurd z3 (by decide)) (fun _ _ z3 _ _ _ => absurd z3 (by decide)) (fun _ _ z3 _ _ => absurd z3 (by decide)) (fun _ _ z3 _ => absurd z3 (by decide)) (fun _ z2 => absurd qt z2) (fun z1 => absurd q z1)
          generalize hτ : g_forgetPlan (ui (ui (ui (ul (ul (ul (ul (ui (ui (tx (ui σ 210 0) (nI (rd_H s)) (nI (rd_W s)) qq) 1306 (nI (rd_W s))) 1305 (nI (rd_H s * rd_W s))) 1303 bf) 1304 bg) 1307 qq) 1302 0) 1603 0) 2003 0) 2403 0) = τ at c
          obtain ⟨v2, a', h', w', W', m1, m2⟩ := m_readPond (d := 998) (x := x) (σ := ui τ 3700 0) (s := s) (B := 120 + a) (n := m) (by omega) (by omega) (fun j hj => (hcell (ui τ 3700 0) (by rw [← hτ]; rfl) j hj).trans (congrFun hsd j))
          rcases m2 with ⟨rfl, -, rfl, rfl, u2⟩ | ⟨rfl, f', u1, -⟩
          · obtain ⟨A', Wy, l1, l2, l3⟩ := m_pond_h (d := 999) (x := x) (τ := ui (ui (rx (ui τ 3700 0) a' (nI (rd_H s)) (nI (rd_W s)) W') 3705 (nI (rd_H s))) 3706 (nI (rd_W s))) (H := rd_H s) (W := rd_W s) (wa := rd_w s m) (by omega) g2 g5 rfl rfl (rd_wf s m) u2 (rd_H s * rd_W s) 0 (by omega) ((ui (ui (rx (ui τ 3700 0) a' (nI (rd_H s)) (nI (rd_W s)) W') 3705 (nI (rd_H s))) 3706 (nI (rd_W s))).2.2.1 41) (fun e he => by omega)
            rw [ua_self] at l1
            have a00 : f_m_against (ui τ 3700 0) 2 t (nI a) (nI m) = 0 := by rw [← hτ]; exact a0
            have mq := vc_m_pond (d := 999) (x := x) (σ := τ) (k := 2) (t := t) (i := nI a) (n := nI m) (v1 := 1) (σ1 := rx (ui τ 3700 0) a' (nI (rd_H s)) (nI (rd_W s)) W') (r := _) (by omega) (fun _ _ => by decide) (fun _ _ _ => by decide) (fun _ _ _ => by decide) (fun _ _ _ _ => by decide) (fun _ _ _ _ _ _ => by decide) (fun _ _ _ _ _ _ _ => by decide) (fun _ _ _ => (by rw [eBn, eB]; exact m1)) (fun _ _ _ _ => l1) (fun _ _ _ z4 => absurd z4 (by decide)) (fun _ _ z3 => absurd a00 z3) (fun _ z2 => absurd (qu _) z2) (fun z1 => absurd (qs _) z1)
            have ev : τ.1 1305 = nI (rd_H s * rd_W s) := by rw [← hτ]; rfl
            rw [ev] at c
            have l4 : ∀ a b, a < rd_H s * rd_W s → b < rd_H s * rd_W s → Wy (42 * a + b) = pd_way (rd_H s, rd_W s, rd_w s m) a b := l3
            refine ⟨_, _, _, c, mq, ?_⟩
            subst hτ
            exact ⟨⟨rfl, h1.2⟩, h2, (rd_H s, rd_W s, rd_w s m), 0, 0, 0, ⟨g2, g5, rfl, rfl, rfl, rfl, rd_wf s m, t2, l2⟩, ⟨p2, p3⟩, (fun c z => by
              have z2 : bt 0 c = true := z
              rw [bt_0] at z2
              cases z2), (fun a b ha hb => l4 a b ha hb), ⟨by omega, rfl, rfl, fun i h => absurd h (by omega)⟩, ⟨by omega, rfl, rfl, fun i h => absurd h (by omega)⟩, ⟨by omega, rfl, rfl, fun i h => absurd h (by omega)⟩, ⟨fun i j h => absurd h (by omega), Or.inl rfl⟩⟩
          · exact absurd t1 (fun z => rd_ft u1 z)
        · have hf := rd_le t1
          have nf : ¬ nI f = -1 := fun z => by
            have := congrArg Int32.toInt z
            rw [nI_toInt (by omega), show (-1 : Int32).toInt = -1 from rfl] at this
            omega
          have c := vc_pond (d := 999) (x := x) (σ := σ) (k := 2) (t := t) (i := nI a) (n := nI m) (v1 := 0) (v3 := 0) (v7 := 0) (σ1 := σ) (σ2 := σ) (σ3 := σ) (σ4 := σ) (σ7 := σ) (σ8 := σ) (v5 := nI f) (σ5 := tx (ui σ 210 0) h wd qq) (σ6 := σ) (r := _) (by omega) (fun _ _ => by decide) (fun _ _ z3 _ _ _ _ => absurd z3 (by decide)) (fun _ _ z3 _ _ _ _ _ => absurd z3 (by decide)) (fun _ _ z3 _ _ _ _ _ => absurd z3 (by decide)) (fun _ _ z3 _ _ _ _ _ => absurd z3 (by decide)) (fun _ _ z3 _ _ _ _ => absurd z3 (by decide)) (fun _ _ z3 _ _ _ => absurd z3 (by decide)) (fun _ _ z3 _ _ => absurd z3 (by decide)) (fun _ _ z3 _ => absurd z3 (by decide)) (fun _ _ z3 _ _ _ _ => absurd z3 (by decide)) (fun _ _ z3 _ _ _ _ _ => absurd z3 (by decide)) (fun _ _ z3 _ _ _ _ _ => absurd z3 (by decide)) (fun _ _ z3 _ _ _ _ _ => absurd z3 (by decide)) (fun _ _ z3 _ _ _ _ => absurd z3 (by decide)) (fun _ _ z3 _ _ _ => absurd z3 (by decide)) (fun _ _ z3 _ _ => absurd z3 (by decide)) (fun _ _ z3 _ => absurd z3 (by decide)) (fun _ _ _ _ _ _ _ => r1) (fun _ _ _ _ _ _ _ z8 => absurd z8 nf) (fun _ _ _ _ _ _ _ z8 => absurd z8 nf) (fun _ _ _ _ _ _ _ _ => rfl) (fun _ _ _ _ _ _ z7 => absurd hcs z7) (fun _ _ _ _ _ z6 => absurd hn0 z6) (fun _ _ _ _ z5 => absurd z5 a2) (fun _ _ _ z4 => absurd z4 na) (fun _ _ z3 _ _ _ _ => absurd z3 (by decide)) (fun _ _ z3 _ _ _ _ _ => absurd z3 (by decide)) (fun _ _ z3 _ _ _ _ _ => absurd z3 (by decide)) (fun _ _ z3 _ _ _ _ _ => absurd z3 (by decide)) (fun _ _ z3 _ _ _ _ => absurd z3 (by decide)) (fun _ _ z3 _ _ _ => absurd z3 (by decide)) (fun _ _ z3 _ _ => absurd z3 (by decide)) (fun _ _ z3 _ => absurd z3 (by decide)) (fun _ z2 => absurd qt z2) (fun z1 => absurd q z1)
          obtain ⟨v2, a', h', w', W', m1, m2⟩ := m_readPond (d := 998) (x := x) (σ := ui (tx (ui σ 210 0) h wd qq) 3700 0) (s := fun j => σ.2.2.1 10 (a + j)) (B := 120 + a) (n := m) (by omega) (by omega) (hcell (ui (tx (ui σ 210 0) h wd qq) 3700 0) rfl)
          rcases m2 with ⟨-, u1, -⟩ | ⟨rfl, f', u1, rfl⟩
          · exact absurd u1 (fun z => rd_ft t1 z)
          · have e := rd_uni t1 u1
            subst e
            have m := vc_m_pond (d := 999) (x := x) (σ := tx (ui σ 210 0) h wd qq) (k := 2) (t := t) (i := nI a) (n := nI m) (v1 := 0) (σ1 := rx (ui (tx (ui σ 210 0) h wd qq) 3700 0) (nI (120 + a + f)) h' w' W') (r := (some (.int (-100 - nI f)), HH x (rx (ui (tx (ui σ 210 0) h wd qq) 3700 0) (nI (120 + a + f)) h' w' W'))) (by omega) (fun _ _ => by decide) (fun _ _ _ => by decide) (fun _ _ _ => by decide) (fun _ _ _ _ => by decide) (fun _ _ _ _ _ _ => by decide) (fun _ _ _ _ _ _ _ => by decide) (fun _ _ _ => (by rw [eBn, eB]; exact m1)) (fun _ _ _ z4 => absurd rfl z4) (fun _ _ _ _ => ?_) (fun _ _ z3 => absurd a0 z3) (fun _ z2 => absurd (qu _) z2) (fun z1 => absurd (qs _) z1)
            · exact ⟨_, _, _, c, m, ⟨⟨rfl, h1.2⟩, h2, P, ns, nw, nr, hp, hc, hri, hwy, hs, hw, hre, hti⟩⟩
            · show (some (Value.int (-100 - (nI (120 + a + f) - ((60 : Int32) * 2 + nI a)))), _) = _
              rw [eB, show nI (120 + a + f) - nI (120 + a) = nI f by
                rw [pk_sub (by omega)]
                exact congrArg nI (by omega)]
      · refine bad 3 (by decide) (vc_pond (d := 999) (x := x) (σ := σ) (k := 2) (t := t) (i := i) (n := n) (v1 := 0) (v3 := 0) (v5 := 0) (v7 := 0) (σ1 := σ) (σ2 := σ) (σ3 := σ) (σ4 := σ) (σ5 := σ) (σ6 := σ) (σ7 := σ) (σ8 := σ) (r := (some (.int (-10 - 3)), HH x (ui (ui σ 210 0) 210 3))) (by omega) (fun _ _ => by decide) (fun _ _ z3 _ _ _ _ => absurd z3 (by decide)) (fun _ _ z3 _ _ _ _ _ => absurd z3 (by decide)) (fun _ _ z3 _ _ _ _ _ => absurd z3 (by decide)) (fun _ _ z3 _ _ _ _ _ => absurd z3 (by decide)) (fun _ _ z3 _ _ _ _ => absurd z3 (by decide)) (fun _ _ z3 _ _ _ => absurd z3 (by decide)) (fun _ _ z3 _ _ => absurd z3 (by decide)) (fun _ _ z3 _ => absurd z3 (by decide)) (fun _ _ z3 _ _ _ _ => absurd z3 (by decide)) (fun _ _ z3 _ _ _ _ _ => absurd z3 (by decide)) (fun _ _ z3 _ _ _ _ _ => absurd z3 (by decide)) (fun _ _ z3 _ _ _ _ _ => absurd z3 (by decide)) (fun _ _ z3 _ _ _ _ => absurd z3 (by decide)) (fun _ _ z3 _ _ _ => absurd z3 (by decide)) (fun _ _ z3 _ _ => absurd z3 (by decide)) (fun _ _ z3 _ => absurd z3 (by decide)) (fun _ _ _ _ _ _ z7 => absurd z7 hcs) (fun _ _ _ _ _ _ z7 _ => absurd z7 hcs) (fun _ _ _ _ _ _ z7 _ => absurd z7 hcs) (fun _ _ _ _ _ _ z7 _ => absurd z7 hcs) (fun _ _ _ _ _ _ _ => rfl) (fun _ _ _ _ _ z6 => absurd hn0 z6) (fun _ _ _ _ z5 => absurd z5 a2) (fun _ _ _ z4 => absurd z4 na) (fun _ _ z3 _ _ _ _ => absurd z3 (by decide)) (fun _ _ z3 _ _ _ _ _ => absurd z3 (by decide)) (fun _ _ z3 _ _ _ _ _ => absurd z3 (by decide)) (fun _ _ z3 _ _ _ _ _ => absurd z3 (by decide)) (fun _ _ z3 _ _ _ _ => absurd z3 (by decide)) (fun _ _ z3 _ _ _ => absurd z3 (by decide)) (fun _ _ z3 _ _ => absurd z3 (by decide)) (fun _ _ z3 _ => absurd z3 (by decide)) (fun _ z2 => absurd qt z2) (fun z1 => absurd q z1)) ?_
        have hcs2 := hcs
        unfold p_hasCells_6 at hcs2
        rw [show (ui σ 210 0).1 603 = nI L from eL] at hcs2
        unfold f_m_against
        rw [kc, el, if_neg b3, if_pos b4, if_pos hn0]
        by_cases z1 : i < 0
        · rw [if_pos z1]
        · rw [if_neg z1]
          by_cases z2 : nI L < i
          · rw [if_pos z2]
          · rw [if_neg z2, if_neg (fun z3 => hcs2 ⟨z1, i_nlt.mpr hn0, z2, i_nlt.mpr z3⟩)]
    · exact bad 4 (by decide) (vc_pond (d := 999) (x := x) (σ := σ) (k := 2) (t := t) (i := i) (n := n) (v1 := 0) (v3 := 0) (v5 := 0) (v7 := 0) (σ1 := σ) (σ2 := σ) (σ3 := σ) (σ4 := σ) (σ5 := σ) (σ6 := σ) (σ7 := σ) (σ8 := σ) (r := (some (.int (-10 - 4)), HH x (ui (ui σ 210 0) 210 4))) (by omega) (fun _ _ => by decide) (fun _ _ z3 _ _ _ _ => absurd z3 (by decide)) (fun _ _ z3 _ _ _ _ _ => absurd z3 (by decide)) (fun _ _ z3 _ _ _ _ _ => absurd z3 (by decide)) (fun _ _ z3 _ _ _ _ _ => absurd z3 (by decide)) (fun _ _ z3 _ _ _ _ => absurd z3 (by decide)) (fun _ _ z3 _ _ _ => absurd z3 (by decide)) (fun _ _ z3 _ _ => absurd z3 (by decide)) (fun _ _ z3 _ => absurd z3 (by decide)) (fun _ _ z3 _ _ _ _ => absurd z3 (by decide)) (fun _ _ z3 _ _ _ _ _ => absurd z3 (by decide)) (fun _ _ z3 _ _ _ _ _ => absurd z3 (by decide)) (fun _ _ z3 _ _ _ _ _ => absurd z3 (by decide)) (fun _ _ z3 _ _ _ _ => absurd z3 (by decide)) (fun _ _ z3 _ _ _ => absurd z3 (by decide)) (fun _ _ z3 _ _ => absurd z3 (by decide)) (fun _ _ z3 _ => absurd z3 (by decide)) (fun _ _ _ _ _ z6 _ => absurd z6 hn0) (fun _ _ _ _ _ z6 _ _ => absurd z6 hn0) (fun _ _ _ _ _ z6 _ _ => absurd z6 hn0) (fun _ _ _ _ _ z6 _ _ => absurd z6 hn0) (fun _ _ _ _ _ z6 _ => absurd z6 hn0) (fun _ _ _ _ _ _ => rfl) (fun _ _ _ _ z5 => absurd z5 a2) (fun _ _ _ z4 => absurd z4 na) (fun _ _ z3 _ _ _ _ => absurd z3 (by decide)) (fun _ _ z3 _ _ _ _ _ => absurd z3 (by decide)) (fun _ _ z3 _ _ _ _ _ => absurd z3 (by decide)) (fun _ _ z3 _ _ _ _ _ => absurd z3 (by decide)) (fun _ _ z3 _ _ _ _ => absurd z3 (by decide)) (fun _ _ z3 _ _ _ => absurd z3 (by decide)) (fun _ _ z3 _ _ => absurd z3 (by decide)) (fun _ _ z3 _ => absurd z3 (by decide)) (fun _ z2 => absurd qt z2) (fun z1 => absurd q z1)) (by unfold f_m_against; rw [kc, if_neg b3, if_pos b4, if_neg hn0])
  · have na : p_isOfAnother_6 (ui σ 210 0) t := ⟨a2, w⟩
    exact bad 2 (by decide) (vc_pond (d := 999) (x := x) (σ := σ) (k := 2) (t := t) (i := i) (n := n) (v1 := 0) (v3 := 0) (v5 := 0) (v7 := 0) (σ1 := σ) (σ2 := σ) (σ3 := σ) (σ4 := σ) (σ5 := σ) (σ6 := σ) (σ7 := σ) (σ8 := σ) (r := (some (.int (-10 - 2)), HH x (ui (ui σ 210 0) 210 2))) (by omega) (fun _ _ => by decide) (fun _ _ z3 _ _ _ _ => absurd z3 (by decide)) (fun _ _ z3 _ _ _ _ _ => absurd z3 (by decide)) (fun _ _ z3 _ _ _ _ _ => absurd z3 (by decide)) (fun _ _ z3 _ _ _ _ _ => absurd z3 (by decide)) (fun _ _ z3 _ _ _ _ => absurd z3 (by decide)) (fun _ _ z3 _ _ _ => absurd z3 (by decide)) (fun _ _ z3 _ _ => absurd z3 (by decide)) (fun _ _ z3 _ => absurd z3 (by decide)) (fun _ _ z3 _ _ _ _ => absurd z3 (by decide)) (fun _ _ z3 _ _ _ _ _ => absurd z3 (by decide)) (fun _ _ z3 _ _ _ _ _ => absurd z3 (by decide)) (fun _ _ z3 _ _ _ _ _ => absurd z3 (by decide)) (fun _ _ z3 _ _ _ _ => absurd z3 (by decide)) (fun _ _ z3 _ _ _ => absurd z3 (by decide)) (fun _ _ z3 _ _ => absurd z3 (by decide)) (fun _ _ z3 _ => absurd z3 (by decide)) (fun _ _ _ z4 _ _ _ => absurd na z4) (fun _ _ _ z4 _ _ _ _ => absurd na z4) (fun _ _ _ z4 _ _ _ _ => absurd na z4) (fun _ _ _ z4 _ _ _ _ => absurd na z4) (fun _ _ _ z4 _ _ _ => absurd na z4) (fun _ _ _ z4 _ _ => absurd na z4) (fun _ _ _ z4 _ => absurd na z4) (fun _ _ _ _ => rfl) (fun _ _ z3 _ _ _ _ => absurd z3 (by decide)) (fun _ _ z3 _ _ _ _ _ => absurd z3 (by decide)) (fun _ _ z3 _ _ _ _ _ => absurd z3 (by decide)) (fun _ _ z3 _ _ _ _ _ => absurd z3 (by decide)) (fun _ _ z3 _ _ _ _ => absurd z3 (by decide)) (fun _ _ z3 _ _ _ => absurd z3 (by decide)) (fun _ _ z3 _ _ => absurd z3 (by decide)) (fun _ _ z3 _ => absurd z3 (by decide)) (fun _ z2 => absurd qt z2) (fun z1 => absurd q z1)) (by unfold f_m_against; rw [kc, if_neg b3, if_neg (fun y => w (b1.symm.trans y))])
theorem pond_3 {x : Nat × (Nat → Int32)} {σ : mm_S} {i n t : Int32} (hr : Rel σ) (qt : p_isSort (ui σ 210 0) t) : ∃ (v : Int32) (σ1 σ2 : mm_S), mm_Runs 999 i_X6_pond (0, [some (.ref 2), some (.int 3), some (.int t), some (.int i), some (.int n), none, none], [], HH x σ) (some (.int v), HH x σ1) ∧ mm_Runs 999 i_X7_pond (0, [some (.ref 37), some (.int 3), some (.int t), some (.int i), some (.int n), none, none, none], [], HH x σ1) (some (.int v), HH x σ2) ∧ Rel σ2 := by
  obtain ⟨h1, h2, P, ns, nw, nr, hp, hc, hri, hwy, hs, hw, hre, hti⟩ := id hr
  have sh := h2.2.2.2
  obtain ⟨L, hL, eL⟩ := sh.2.2.1
  have el : σ.2.2.1 39 3 = nI L := sh.2.1.symm.trans eL
  have q : p_isSheet (ui σ 210 0) 3 := by unfold p_isSheet; decide
  have qs := fun τ : mm_S => (sheet_iff (ui τ 3700 0) (ui σ 210 0) 3).mpr q
  have qu := fun τ : mm_S => (sort_iff (ui τ 3700 0) (ui σ 210 0) t).mpr qt
  have kc : (3 : Int32).toNatClampNeg = 3 := rfl
  have bad : ∀ f : Int32, ¬ f = 0 → mm_Runs 999 i_X6_pond (0, [some (.ref 2), some (.int 3), some (.int t), some (.int i), some (.int n), none, none], [], HH x σ) (some (.int (-10 - f)), HH x (ui (ui σ 210 0) 210 f)) → f_m_against σ 3 t i n = f → ∃ (v : Int32) (σ1 σ2 : mm_S), mm_Runs 999 i_X6_pond (0, [some (.ref 2), some (.int 3), some (.int t), some (.int i), some (.int n), none, none], [], HH x σ) (some (.int v), HH x σ1) ∧ mm_Runs 999 i_X7_pond (0, [some (.ref 37), some (.int 3), some (.int t), some (.int i), some (.int n), none, none, none], [], HH x σ1) (some (.int v), HH x σ2) ∧ Rel σ2 := by
    intro f hf c ea0
    have ea : f_m_against (ui (ui (ui σ 210 0) 210 f) 3700 0) 3 t i n = f := ea0
    have na : ¬ f_m_against (ui (ui (ui σ 210 0) 210 f) 3700 0) 3 t i n = 0 := by rw [ea]; exact hf
    have m := vc_m_pond (d := 999) (x := x) (σ := ui (ui σ 210 0) 210 f) (k := 3) (t := t) (i := i) (n := n) (v1 := 0) (σ1 := σ) (r := (some (.int (-10 - f)), HH x (ui (ui (ui (ui σ 210 0) 210 f) 3700 0) 3700 f))) (by omega) (fun _ _ => by decide) (fun _ _ _ => by decide) (fun _ _ _ => by decide) (fun _ _ _ _ => by decide) (fun _ _ _ _ _ _ => by decide) (fun _ _ _ _ _ _ _ => by decide) (fun _ _ z3 => absurd z3 na) (fun _ _ z3 _ => absurd z3 na) (fun _ _ z3 _ => absurd z3 na) (fun _ _ _ => by rw [ea]; rfl) (fun _ z2 => absurd (qu _) z2) (fun z1 => absurd (qs _) z1)
    exact ⟨_, _, _, c, m, ⟨⟨rfl, h1.2⟩, h2, P, ns, nw, nr, hp, hc, hri, hwy, hs, hw, hre, hti⟩⟩
  rcases sh.1 with ⟨a1, b1⟩ | ⟨a1, b1, b2⟩
  · have na : ¬ p_isOfAnother_7 (ui σ 210 0) t := fun z => z.1 a1
    exact bad 1 (by decide) (vc_pond (d := 999) (x := x) (σ := σ) (k := 3) (t := t) (i := i) (n := n) (v1 := 0) (v3 := 0) (v5 := 0) (v7 := 0) (σ1 := σ) (σ2 := σ) (σ3 := σ) (σ4 := σ) (σ5 := σ) (σ6 := σ) (σ7 := σ) (σ8 := σ) (r := (some (.int (-10 - 1)), HH x (ui (ui σ 210 0) 210 1))) (by omega) (fun _ _ => by decide) (fun _ _ z3 _ _ _ _ => absurd z3 (by decide)) (fun _ _ z3 _ _ _ _ _ => absurd z3 (by decide)) (fun _ _ z3 _ _ _ _ _ => absurd z3 (by decide)) (fun _ _ z3 _ _ _ _ _ => absurd z3 (by decide)) (fun _ _ z3 _ _ _ _ => absurd z3 (by decide)) (fun _ _ z3 _ _ _ => absurd z3 (by decide)) (fun _ _ z3 _ _ => absurd z3 (by decide)) (fun _ _ z3 _ => absurd z3 (by decide)) (fun _ _ z3 _ _ _ _ => absurd z3 (by decide)) (fun _ _ z3 _ _ _ _ _ => absurd z3 (by decide)) (fun _ _ z3 _ _ _ _ _ => absurd z3 (by decide)) (fun _ _ z3 _ _ _ _ _ => absurd z3 (by decide)) (fun _ _ z3 _ _ _ _ => absurd z3 (by decide)) (fun _ _ z3 _ _ _ => absurd z3 (by decide)) (fun _ _ z3 _ _ => absurd z3 (by decide)) (fun _ _ z3 _ => absurd z3 (by decide)) (fun _ _ z3 _ _ _ _ => absurd z3 (by decide)) (fun _ _ z3 _ _ _ _ _ => absurd z3 (by decide)) (fun _ _ z3 _ _ _ _ _ => absurd z3 (by decide)) (fun _ _ z3 _ _ _ _ _ => absurd z3 (by decide)) (fun _ _ z3 _ _ _ _ => absurd z3 (by decide)) (fun _ _ z3 _ _ _ => absurd z3 (by decide)) (fun _ _ z3 _ _ => absurd z3 (by decide)) (fun _ _ z3 _ => absurd z3 (by decide)) (fun _ _ _ _ z5 _ _ => absurd a1 z5) (fun _ _ _ _ z5 _ _ _ => absurd a1 z5) (fun _ _ _ _ z5 _ _ _ => absurd a1 z5) (fun _ _ _ _ z5 _ _ _ => absurd a1 z5) (fun _ _ _ _ z5 _ _ => absurd a1 z5) (fun _ _ _ _ z5 _ => absurd a1 z5) (fun _ _ _ _ _ => rfl) (fun _ _ _ z4 => absurd z4 na) (fun _ z2 => absurd qt z2) (fun z1 => absurd q z1)) (by unfold f_m_against; rw [kc, if_pos b1])
  have a2 : ¬ σ.1 701 = 0 := by rw [a1]; decide
  have b3 : ¬ σ.2.2.1 38 3 = -9 := fun z => kd_n9 b2 (b1.symm.trans z)
  by_cases w : σ.1 702 = t
  · have na : ¬ p_isOfAnother_7 (ui σ 210 0) t := fun z => z.2 w
    have b4 : σ.2.2.1 38 3 = t := b1.trans w
    by_cases hn0 : 0 ≤ n
    · by_cases hcs : p_hasCells_7 (ui σ 210 0) i n
      · have hcs2 := hcs
        unfold p_hasCells_7 at hcs2
        rw [show (ui σ 210 0).1 703 = nI L from eL] at hcs2
        obtain ⟨a, m, rfl, rfl, ham⟩ := (hcN hL i n).mp hcs2
        obtain ⟨v, h, wd, qq, r1, r2⟩ := c_read3 (d := 998) (x := x) (σ := ui σ 210 0) (s := fun j => σ.2.2.1 11 (a + j)) (i := a) (n := m) (by omega) (by omega) (fun _ _ => rfl)
        have a0 : f_m_against σ 3 t (nI a) (nI m) = 0 := by
          unfold f_m_against
          rw [kc, el, if_neg b3, if_pos b4, if_pos hn0, if_neg hcs2.1, if_neg hcs2.2.2.1, if_pos (i_nlt.mp hcs2.2.2.2)]
        have eB : (60 : Int32) * 3 + nI a = nI (180 + a) := nI_add 180 a
        have eBn : (60 : Int32) * 3 + nI a + nI m = nI (180 + a + m) := by rw [eB, nI_add]
        have hcell : ∀ τ : mm_S, τ.2.2.1 40 = σ.2.2.1 40 → ∀ j, j < m → τ.2.2.1 40 (180 + a + j) = σ.2.2.1 11 (a + j) := by
          intro τ eτ j hj
          rw [eτ, sh.2.2.2 (a + j) (by omega)]
          exact congrArg (σ.2.2.1 40) (by omega)
        rcases r2 with ⟨rfl, t1, rfl, rfl, t2⟩ | ⟨f, rfl, t1⟩
        · obtain ⟨⟨g1, g2, g3⟩, g4, g5, g6⟩ := rd_hw (t1.2.2 1 (by have := t1.1; omega)) (t1.2.2 2 (by have := t1.1; omega))
          generalize hsd : (fun j => σ.2.2.1 11 (a + j)) = s at *
          obtain ⟨bf, bg, p1, p2, p3⟩ := c_begin (d := 998) (x := x) (H := rd_H s) (W := rd_W s) (q := qq) (σ := tx (ui σ 210 0) (nI (rd_H s)) (nI (rd_W s)) qq) (by omega) g2 g4 g5
          have c := vc_pond (d := 999) (x := x) (σ := σ) (k := 3) (t := t) (i := nI a) (n := nI m) (v1 := 0) (v3 := 0) (v5 := 0) (σ1 := σ) (σ2 := σ) (σ3 := σ) (σ4 := σ) (σ5 := σ) (σ6 := σ) (v7 := -1) (σ7 := tx (ui σ 210 0) (nI (rd_H s)) (nI (rd_W s)) qq) (σ8 := _) (r := _) (by omega) (fun _ _ => by decide) (fun _ _ z3 _ _ _ _ => absurd z3 (by decide)) (fun _ _ z3 _ _ _ _ _ => absurd z3 (by decide)) (fun _ _ z3 _ _ _ _ _ => absurd z3 (by decide)) (fun _ _ z3 _ _ _ _ _ => absurd z3 (by decide)) (fun _ _ z3 _ _ _ _ => absurd z3 (by decide)) (fun _ _ z3 _ _ _ => absurd z3 (by decide)) (fun _ _ z3 _ _ => absurd z3 (by decide)) (fun _ _ z3 _ => absurd z3 (by decide)) (fun _ _ z3 _ _ _ _ => absurd z3 (by decide)) (fun _ _ z3 _ _ _ _ _ => absurd z3 (by decide)) (fun _ _ z3 _ _ _ _ _ => absurd z3 (by decide)) (fun _ _ z3 _ _ _ _ _ => absurd z3 (by decide)) (fun _ _ z3 _ _ _ _ => absurd z3 (by decide)) (fun _ _ z3 _ _ _ => absurd z3 (by decide)) (fun _ _ z3 _ _ => absurd z3 (by decide)) (fun _ _ z3 _ => absurd z3 (by decide)) (fun _ _ z3 _ _ _ _ => absurd z3 (by decide)) (fun _ _ z3 _ _ _ _ _ => absurd z3 (by decide)) (fun _ _ z3 _ _ _ _ _ => absurd z3 (by decide)) (fun _ _ z3 _ _ _ _ _ => absurd z3 (by decide)) (fun _ _ z3 _ _ _ _ => absurd z3 (by decide)) (fun _ _ z3 _ _ _ => absurd z3 (by decide)) (fun _ _ z3 _ _ => absurd z3 (by decide)) (fun _ _ z3 _ => absurd z3 (by decide)) (fun _ _ _ _ _ _ _ => r1) (fun _ _ _ _ _ _ _ _ => p1) (fun _ _ _ _ _ _ _ _ => rfl) (fun _ _ _ _ _ _ _ z8 => absurd rfl z8) (fun _ _ _ _ _ _ z7 => absurd hcs z7) (fun _ _ _ _ _ z6 => absurd hn0 z6) (fun _ _ _ _ z5 => absurd z5 a2) (fun _ _ _ z4 => absurd z4 na) (fun _ z2 => absurd qt z2) (fun z1 => absurd q z1)
          generalize hτ : g_forgetPlan (ui (ui (ui (ul (ul (ul (ul (ui (ui (tx (ui σ 210 0) (nI (rd_H s)) (nI (rd_W s)) qq) 1306 (nI (rd_W s))) 1305 (nI (rd_H s * rd_W s))) 1303 bf) 1304 bg) 1307 qq) 1302 0) 1603 0) 2003 0) 2403 0) = τ at c
          obtain ⟨v2, a', h', w', W', m1, m2⟩ := m_readPond (d := 998) (x := x) (σ := ui τ 3700 0) (s := s) (B := 180 + a) (n := m) (by omega) (by omega) (fun j hj => (hcell (ui τ 3700 0) (by rw [← hτ]; rfl) j hj).trans (congrFun hsd j))
          rcases m2 with ⟨rfl, -, rfl, rfl, u2⟩ | ⟨rfl, f', u1, -⟩
          · obtain ⟨A', Wy, l1, l2, l3⟩ := m_pond_h (d := 999) (x := x) (τ := ui (ui (rx (ui τ 3700 0) a' (nI (rd_H s)) (nI (rd_W s)) W') 3705 (nI (rd_H s))) 3706 (nI (rd_W s))) (H := rd_H s) (W := rd_W s) (wa := rd_w s m) (by omega) g2 g5 rfl rfl (rd_wf s m) u2 (rd_H s * rd_W s) 0 (by omega) ((ui (ui (rx (ui τ 3700 0) a' (nI (rd_H s)) (nI (rd_W s)) W') 3705 (nI (rd_H s))) 3706 (nI (rd_W s))).2.2.1 41) (fun e he => by omega)
            rw [ua_self] at l1
            have a00 : f_m_against (ui τ 3700 0) 3 t (nI a) (nI m) = 0 := by rw [← hτ]; exact a0
            have mq := vc_m_pond (d := 999) (x := x) (σ := τ) (k := 3) (t := t) (i := nI a) (n := nI m) (v1 := 1) (σ1 := rx (ui τ 3700 0) a' (nI (rd_H s)) (nI (rd_W s)) W') (r := _) (by omega) (fun _ _ => by decide) (fun _ _ _ => by decide) (fun _ _ _ => by decide) (fun _ _ _ _ => by decide) (fun _ _ _ _ _ _ => by decide) (fun _ _ _ _ _ _ _ => by decide) (fun _ _ _ => (by rw [eBn, eB]; exact m1)) (fun _ _ _ _ => l1) (fun _ _ _ z4 => absurd z4 (by decide)) (fun _ _ z3 => absurd a00 z3) (fun _ z2 => absurd (qu _) z2) (fun z1 => absurd (qs _) z1)
            have ev : τ.1 1305 = nI (rd_H s * rd_W s) := by rw [← hτ]; rfl
            rw [ev] at c
            have l4 : ∀ a b, a < rd_H s * rd_W s → b < rd_H s * rd_W s → Wy (42 * a + b) = pd_way (rd_H s, rd_W s, rd_w s m) a b := l3
            refine ⟨_, _, _, c, mq, ?_⟩
            subst hτ
            exact ⟨⟨rfl, h1.2⟩, h2, (rd_H s, rd_W s, rd_w s m), 0, 0, 0, ⟨g2, g5, rfl, rfl, rfl, rfl, rd_wf s m, t2, l2⟩, ⟨p2, p3⟩, (fun c z => by
              have z2 : bt 0 c = true := z
              rw [bt_0] at z2
              cases z2), (fun a b ha hb => l4 a b ha hb), ⟨by omega, rfl, rfl, fun i h => absurd h (by omega)⟩, ⟨by omega, rfl, rfl, fun i h => absurd h (by omega)⟩, ⟨by omega, rfl, rfl, fun i h => absurd h (by omega)⟩, ⟨fun i j h => absurd h (by omega), Or.inl rfl⟩⟩
          · exact absurd t1 (fun z => rd_ft u1 z)
        · have hf := rd_le t1
          have nf : ¬ nI f = -1 := fun z => by
            have := congrArg Int32.toInt z
            rw [nI_toInt (by omega), show (-1 : Int32).toInt = -1 from rfl] at this
            omega
          have c := vc_pond (d := 999) (x := x) (σ := σ) (k := 3) (t := t) (i := nI a) (n := nI m) (v1 := 0) (v3 := 0) (v5 := 0) (σ1 := σ) (σ2 := σ) (σ3 := σ) (σ4 := σ) (σ5 := σ) (σ6 := σ) (v7 := nI f) (σ7 := tx (ui σ 210 0) h wd qq) (σ8 := σ) (r := _) (by omega) (fun _ _ => by decide) (fun _ _ z3 _ _ _ _ => absurd z3 (by decide)) (fun _ _ z3 _ _ _ _ _ => absurd z3 (by decide)) (fun _ _ z3 _ _ _ _ _ => absurd z3 (by decide)) (fun _ _ z3 _ _ _ _ _ => absurd z3 (by decide)) (fun _ _ z3 _ _ _ _ => absurd z3 (by decide)) (fun _ _ z3 _ _ _ => absurd z3 (by decide)) (fun _ _ z3 _ _ => absurd z3 (by decide)) (fun _ _ z3 _ => absurd z3 (by decide)) (fun _ _ z3 _ _ _ _ => absurd z3 (by decide)) (fun _ _ z3 _ _ _ _ _ => absurd z3 (by decide)) (fun _ _ z3 _ _ _ _ _ => absurd z3 (by decide)) (fun _ _ z3 _ _ _ _ _ => absurd z3 (by decide)) (fun _ _ z3 _ _ _ _ => absurd z3 (by decide)) (fun _ _ z3 _ _ _ => absurd z3 (by decide)) (fun _ _ z3 _ _ => absurd z3 (by decide)) (fun _ _ z3 _ => absurd z3 (by decide)) (fun _ _ z3 _ _ _ _ => absurd z3 (by decide)) (fun _ _ z3 _ _ _ _ _ => absurd z3 (by decide)) (fun _ _ z3 _ _ _ _ _ => absurd z3 (by decide)) (fun _ _ z3 _ _ _ _ _ => absurd z3 (by decide)) (fun _ _ z3 _ _ _ _ => absurd z3 (by decide)) (fun _ _ z3 _ _ _ => absurd z3 (by decide)) (fun _ _ z3 _ _ => absurd z3 (by decide)) (fun _ _ z3 _ => absurd z3 (by decide)) (fun _ _ _ _ _ _ _ => r1) (fun _ _ _ _ _ _ _ z8 => absurd z8 nf) (fun _ _ _ _ _ _ _ z8 => absurd z8 nf) (fun _ _ _ _ _ _ _ _ => rfl) (fun _ _ _ _ _ _ z7 => absurd hcs z7) (fun _ _ _ _ _ z6 => absurd hn0 z6) (fun _ _ _ _ z5 => absurd z5 a2) (fun _ _ _ z4 => absurd z4 na) (fun _ z2 => absurd qt z2) (fun z1 => absurd q z1)
          obtain ⟨v2, a', h', w', W', m1, m2⟩ := m_readPond (d := 998) (x := x) (σ := ui (tx (ui σ 210 0) h wd qq) 3700 0) (s := fun j => σ.2.2.1 11 (a + j)) (B := 180 + a) (n := m) (by omega) (by omega) (hcell (ui (tx (ui σ 210 0) h wd qq) 3700 0) rfl)
          rcases m2 with ⟨-, u1, -⟩ | ⟨rfl, f', u1, rfl⟩
          · exact absurd u1 (fun z => rd_ft t1 z)
          · have e := rd_uni t1 u1
            subst e
            have m := vc_m_pond (d := 999) (x := x) (σ := tx (ui σ 210 0) h wd qq) (k := 3) (t := t) (i := nI a) (n := nI m) (v1 := 0) (σ1 := rx (ui (tx (ui σ 210 0) h wd qq) 3700 0) (nI (180 + a + f)) h' w' W') (r := (some (.int (-100 - nI f)), HH x (rx (ui (tx (ui σ 210 0) h wd qq) 3700 0) (nI (180 + a + f)) h' w' W'))) (by omega) (fun _ _ => by decide) (fun _ _ _ => by decide) (fun _ _ _ => by decide) (fun _ _ _ _ => by decide) (fun _ _ _ _ _ _ => by decide) (fun _ _ _ _ _ _ _ => by decide) (fun _ _ _ => (by rw [eBn, eB]; exact m1)) (fun _ _ _ z4 => absurd rfl z4) (fun _ _ _ _ => ?_) (fun _ _ z3 => absurd a0 z3) (fun _ z2 => absurd (qu _) z2) (fun z1 => absurd (qs _) z1)
            · exact ⟨_, _, _, c, m, ⟨⟨rfl, h1.2⟩, h2, P, ns, nw, nr, hp, hc, hri, hwy, hs, hw, hre, hti⟩⟩
            · show (some (Value.int (-100 - (nI (180 + a + f) - ((60 : Int32) * 3 + nI a)))), _) = _
              rw [eB, show nI (180 + a + f) - nI (180 + a) = nI f by
                rw [pk_sub (by omega)]
                exact congrArg nI (by omega)]
      · refine bad 3 (by decide) (vc_pond (d := 999) (x := x) (σ := σ) (k := 3) (t := t) (i := i) (n := n) (v1 := 0) (v3 := 0) (v5 := 0) (v7 := 0) (σ1 := σ) (σ2 := σ) (σ3 := σ) (σ4 := σ) (σ5 := σ) (σ6 := σ) (σ7 := σ) (σ8 := σ) (r := (some (.int (-10 - 3)), HH x (ui (ui σ 210 0) 210 3))) (by omega) (fun _ _ => by decide) (fun _ _ z3 _ _ _ _ => absurd z3 (by decide)) (fun _ _ z3 _ _ _ _ _ => absurd z3 (by decide)) (fun _ _ z3 _ _ _ _ _ => absurd z3 (by decide)) (fun _ _ z3 _ _ _ _ _ => absurd z3 (by decide)) (fun _ _ z3 _ _ _ _ => absurd z3 (by decide)) (fun _ _ z3 _ _ _ => absurd z3 (by decide)) (fun _ _ z3 _ _ => absurd z3 (by decide)) (fun _ _ z3 _ => absurd z3 (by decide)) (fun _ _ z3 _ _ _ _ => absurd z3 (by decide)) (fun _ _ z3 _ _ _ _ _ => absurd z3 (by decide)) (fun _ _ z3 _ _ _ _ _ => absurd z3 (by decide)) (fun _ _ z3 _ _ _ _ _ => absurd z3 (by decide)) (fun _ _ z3 _ _ _ _ => absurd z3 (by decide)) (fun _ _ z3 _ _ _ => absurd z3 (by decide)) (fun _ _ z3 _ _ => absurd z3 (by decide)) (fun _ _ z3 _ => absurd z3 (by decide)) (fun _ _ z3 _ _ _ _ => absurd z3 (by decide)) (fun _ _ z3 _ _ _ _ _ => absurd z3 (by decide)) (fun _ _ z3 _ _ _ _ _ => absurd z3 (by decide)) (fun _ _ z3 _ _ _ _ _ => absurd z3 (by decide)) (fun _ _ z3 _ _ _ _ => absurd z3 (by decide)) (fun _ _ z3 _ _ _ => absurd z3 (by decide)) (fun _ _ z3 _ _ => absurd z3 (by decide)) (fun _ _ z3 _ => absurd z3 (by decide)) (fun _ _ _ _ _ _ z7 => absurd z7 hcs) (fun _ _ _ _ _ _ z7 _ => absurd z7 hcs) (fun _ _ _ _ _ _ z7 _ => absurd z7 hcs) (fun _ _ _ _ _ _ z7 _ => absurd z7 hcs) (fun _ _ _ _ _ _ _ => rfl) (fun _ _ _ _ _ z6 => absurd hn0 z6) (fun _ _ _ _ z5 => absurd z5 a2) (fun _ _ _ z4 => absurd z4 na) (fun _ z2 => absurd qt z2) (fun z1 => absurd q z1)) ?_
        have hcs2 := hcs
        unfold p_hasCells_7 at hcs2
        rw [show (ui σ 210 0).1 703 = nI L from eL] at hcs2
        unfold f_m_against
        rw [kc, el, if_neg b3, if_pos b4, if_pos hn0]
        by_cases z1 : i < 0
        · rw [if_pos z1]
        · rw [if_neg z1]
          by_cases z2 : nI L < i
          · rw [if_pos z2]
          · rw [if_neg z2, if_neg (fun z3 => hcs2 ⟨z1, i_nlt.mpr hn0, z2, i_nlt.mpr z3⟩)]
    · exact bad 4 (by decide) (vc_pond (d := 999) (x := x) (σ := σ) (k := 3) (t := t) (i := i) (n := n) (v1 := 0) (v3 := 0) (v5 := 0) (v7 := 0) (σ1 := σ) (σ2 := σ) (σ3 := σ) (σ4 := σ) (σ5 := σ) (σ6 := σ) (σ7 := σ) (σ8 := σ) (r := (some (.int (-10 - 4)), HH x (ui (ui σ 210 0) 210 4))) (by omega) (fun _ _ => by decide) (fun _ _ z3 _ _ _ _ => absurd z3 (by decide)) (fun _ _ z3 _ _ _ _ _ => absurd z3 (by decide)) (fun _ _ z3 _ _ _ _ _ => absurd z3 (by decide)) (fun _ _ z3 _ _ _ _ _ => absurd z3 (by decide)) (fun _ _ z3 _ _ _ _ => absurd z3 (by decide)) (fun _ _ z3 _ _ _ => absurd z3 (by decide)) (fun _ _ z3 _ _ => absurd z3 (by decide)) (fun _ _ z3 _ => absurd z3 (by decide)) (fun _ _ z3 _ _ _ _ => absurd z3 (by decide)) (fun _ _ z3 _ _ _ _ _ => absurd z3 (by decide)) (fun _ _ z3 _ _ _ _ _ => absurd z3 (by decide)) (fun _ _ z3 _ _ _ _ _ => absurd z3 (by decide)) (fun _ _ z3 _ _ _ _ => absurd z3 (by decide)) (fun _ _ z3 _ _ _ => absurd z3 (by decide)) (fun _ _ z3 _ _ => absurd z3 (by decide)) (fun _ _ z3 _ => absurd z3 (by decide)) (fun _ _ z3 _ _ _ _ => absurd z3 (by decide)) (fun _ _ z3 _ _ _ _ _ => absurd z3 (by decide)) (fun _ _ z3 _ _ _ _ _ => absurd z3 (by decide)) (fun _ _ z3 _ _ _ _ _ => absurd z3 (by decide)) (fun _ _ z3 _ _ _ _ => absurd z3 (by decide)) (fun _ _ z3 _ _ _ => absurd z3 (by decide)) (fun _ _ z3 _ _ => absurd z3 (by decide)) (fun _ _ z3 _ => absurd z3 (by decide)) (fun _ _ _ _ _ z6 _ => absurd z6 hn0) (fun _ _ _ _ _ z6 _ _ => absurd z6 hn0) (fun _ _ _ _ _ z6 _ _ => absurd z6 hn0) (fun _ _ _ _ _ z6 _ _ => absurd z6 hn0) (fun _ _ _ _ _ z6 _ => absurd z6 hn0) (fun _ _ _ _ _ _ => rfl) (fun _ _ _ _ z5 => absurd z5 a2) (fun _ _ _ z4 => absurd z4 na) (fun _ z2 => absurd qt z2) (fun z1 => absurd q z1)) (by unfold f_m_against; rw [kc, if_neg b3, if_pos b4, if_neg hn0])
  · have na : p_isOfAnother_7 (ui σ 210 0) t := ⟨a2, w⟩
    exact bad 2 (by decide) (vc_pond (d := 999) (x := x) (σ := σ) (k := 3) (t := t) (i := i) (n := n) (v1 := 0) (v3 := 0) (v5 := 0) (v7 := 0) (σ1 := σ) (σ2 := σ) (σ3 := σ) (σ4 := σ) (σ5 := σ) (σ6 := σ) (σ7 := σ) (σ8 := σ) (r := (some (.int (-10 - 2)), HH x (ui (ui σ 210 0) 210 2))) (by omega) (fun _ _ => by decide) (fun _ _ z3 _ _ _ _ => absurd z3 (by decide)) (fun _ _ z3 _ _ _ _ _ => absurd z3 (by decide)) (fun _ _ z3 _ _ _ _ _ => absurd z3 (by decide)) (fun _ _ z3 _ _ _ _ _ => absurd z3 (by decide)) (fun _ _ z3 _ _ _ _ => absurd z3 (by decide)) (fun _ _ z3 _ _ _ => absurd z3 (by decide)) (fun _ _ z3 _ _ => absurd z3 (by decide)) (fun _ _ z3 _ => absurd z3 (by decide)) (fun _ _ z3 _ _ _ _ => absurd z3 (by decide)) (fun _ _ z3 _ _ _ _ _ => absurd z3 (by decide)) (fun _ _ z3 _ _ _ _ _ => absurd z3 (by decide)) (fun _ _ z3 _ _ _ _ _ => absurd z3 (by decide)) (fun _ _ z3 _ _ _ _ => absurd z3 (by decide)) (fun _ _ z3 _ _ _ => absurd z3 (by decide)) (fun _ _ z3 _ _ => absurd z3 (by decide)) (fun _ _ z3 _ => absurd z3 (by decide)) (fun _ _ z3 _ _ _ _ => absurd z3 (by decide)) (fun _ _ z3 _ _ _ _ _ => absurd z3 (by decide)) (fun _ _ z3 _ _ _ _ _ => absurd z3 (by decide)) (fun _ _ z3 _ _ _ _ _ => absurd z3 (by decide)) (fun _ _ z3 _ _ _ _ => absurd z3 (by decide)) (fun _ _ z3 _ _ _ => absurd z3 (by decide)) (fun _ _ z3 _ _ => absurd z3 (by decide)) (fun _ _ z3 _ => absurd z3 (by decide)) (fun _ _ _ z4 _ _ _ => absurd na z4) (fun _ _ _ z4 _ _ _ _ => absurd na z4) (fun _ _ _ z4 _ _ _ _ => absurd na z4) (fun _ _ _ z4 _ _ _ _ => absurd na z4) (fun _ _ _ z4 _ _ _ => absurd na z4) (fun _ _ _ z4 _ _ => absurd na z4) (fun _ _ _ z4 _ => absurd na z4) (fun _ _ _ _ => rfl) (fun _ z2 => absurd qt z2) (fun z1 => absurd q z1)) (by unfold f_m_against; rw [kc, if_neg b3, if_neg (fun y => w (b1.symm.trans y))])
theorem op_pond : opI Rel i_X6_pond i_X7_pond 4 := by
  intro x σ as h hr
  obtain ⟨k, t, i, n, rfl⟩ := as_4 h
  obtain ⟨h1, h2, P, ns, nw, nr, hp, hc, hri, hwy, hs, hw, hre, hti⟩ := id hr
  by_cases q : p_isSheet (ui σ 210 0) k
  · by_cases qt : p_isSort (ui σ 210 0) t
    · rcases sheet_4 (ui σ 210 0) k with q' | ⟨-, rfl | rfl | rfl | rfl⟩
      · exact absurd q q'
      · exact pond_0 hr qt
      · exact pond_1 hr qt
      · exact pond_2 hr qt
      · exact pond_3 hr qt
    · have c := vc_pond (d := 999) (x := x) (σ := σ) (k := k) (t := t) (i := i) (n := n) (v1 := 0) (v3 := 0) (v5 := 0) (v7 := 0) (σ1 := σ) (σ2 := σ) (σ3 := σ) (σ4 := σ) (σ5 := σ) (σ6 := σ) (σ7 := σ) (σ8 := σ) (r := (some (.int (-2)), HH x (ui σ 210 0))) (by omega) (fun _ z2 => absurd z2 qt) (fun _ z2 _ _ _ _ _ => absurd z2 qt) (fun _ z2 _ _ _ _ _ _ => absurd z2 qt) (fun _ z2 _ _ _ _ _ _ => absurd z2 qt) (fun _ z2 _ _ _ _ _ _ => absurd z2 qt) (fun _ z2 _ _ _ _ _ => absurd z2 qt) (fun _ z2 _ _ _ _ => absurd z2 qt) (fun _ z2 _ _ _ => absurd z2 qt) (fun _ z2 _ _ => absurd z2 qt) (fun _ z2 _ _ _ _ _ => absurd z2 qt) (fun _ z2 _ _ _ _ _ _ => absurd z2 qt) (fun _ z2 _ _ _ _ _ _ => absurd z2 qt) (fun _ z2 _ _ _ _ _ _ => absurd z2 qt) (fun _ z2 _ _ _ _ _ => absurd z2 qt) (fun _ z2 _ _ _ _ => absurd z2 qt) (fun _ z2 _ _ _ => absurd z2 qt) (fun _ z2 _ _ => absurd z2 qt) (fun _ z2 _ _ _ _ _ => absurd z2 qt) (fun _ z2 _ _ _ _ _ _ => absurd z2 qt) (fun _ z2 _ _ _ _ _ _ => absurd z2 qt) (fun _ z2 _ _ _ _ _ _ => absurd z2 qt) (fun _ z2 _ _ _ _ _ => absurd z2 qt) (fun _ z2 _ _ _ _ => absurd z2 qt) (fun _ z2 _ _ _ => absurd z2 qt) (fun _ z2 _ _ => absurd z2 qt) (fun _ z2 _ _ _ _ _ => absurd z2 qt) (fun _ z2 _ _ _ _ _ _ => absurd z2 qt) (fun _ z2 _ _ _ _ _ _ => absurd z2 qt) (fun _ z2 _ _ _ _ _ _ => absurd z2 qt) (fun _ z2 _ _ _ _ _ => absurd z2 qt) (fun _ z2 _ _ _ _ => absurd z2 qt) (fun _ z2 _ _ _ => absurd z2 qt) (fun _ z2 _ _ => absurd z2 qt) (fun _ _ => rfl) (fun z1 => absurd q z1)
      have q2 : p_m_isSheet (ui (ui σ 210 0) 3700 0) k := (sheet_iff (ui (ui σ 210 0) 3700 0) (ui σ 210 0) k).mpr q
      have q3 : ¬ p_m_isSort (ui (ui σ 210 0) 3700 0) t := fun z => qt ((sort_iff (ui (ui σ 210 0) 3700 0) (ui σ 210 0) t).mp z)
      have m := vc_m_pond (d := 999) (x := x) (σ := ui σ 210 0) (k := k) (t := t) (i := i) (n := n) (v1 := 0) (σ1 := σ) (r := (some (.int (-2)), HH x (ui (ui σ 210 0) 3700 0))) (by omega) (fun _ z2 => absurd z2 q3) (fun _ z2 _ => absurd z2 q3) (fun _ z2 _ => absurd z2 q3) (fun _ z2 _ _ => absurd z2 q3) (fun _ z2 _ _ _ _ => absurd z2 q3) (fun _ z2 _ _ _ _ _ => absurd z2 q3) (fun _ z2 _ => absurd z2 q3) (fun _ z2 _ _ => absurd z2 q3) (fun _ z2 _ _ => absurd z2 q3) (fun _ z2 _ => absurd z2 q3) (fun _ _ => rfl) (fun z1 => absurd q2 z1)
      exact ⟨_, _, _, c, m, ⟨⟨rfl, h1.2⟩, h2, P, ns, nw, nr, hp, hc, hri, hwy, hs, hw, hre, hti⟩⟩
  · have c := vc_pond (d := 999) (x := x) (σ := σ) (k := k) (t := t) (i := i) (n := n) (v1 := 0) (v3 := 0) (v5 := 0) (v7 := 0) (σ1 := σ) (σ2 := σ) (σ3 := σ) (σ4 := σ) (σ5 := σ) (σ6 := σ) (σ7 := σ) (σ8 := σ) (r := (some (.int (-1)), HH x (ui σ 210 0))) (by omega) (fun z1 _ => absurd z1 q) (fun z1 _ _ _ _ _ _ => absurd z1 q) (fun z1 _ _ _ _ _ _ _ => absurd z1 q) (fun z1 _ _ _ _ _ _ _ => absurd z1 q) (fun z1 _ _ _ _ _ _ _ => absurd z1 q) (fun z1 _ _ _ _ _ _ => absurd z1 q) (fun z1 _ _ _ _ _ => absurd z1 q) (fun z1 _ _ _ _ => absurd z1 q) (fun z1 _ _ _ => absurd z1 q) (fun z1 _ _ _ _ _ _ => absurd z1 q) (fun z1 _ _ _ _ _ _ _ => absurd z1 q) (fun z1 _ _ _ _ _ _ _ => absurd z1 q) (fun z1 _ _ _ _ _ _ _ => absurd z1 q) (fun z1 _ _ _ _ _ _ => absurd z1 q) (fun z1 _ _ _ _ _ => absurd z1 q) (fun z1 _ _ _ _ => absurd z1 q) (fun z1 _ _ _ => absurd z1 q) (fun z1 _ _ _ _ _ _ => absurd z1 q) (fun z1 _ _ _ _ _ _ _ => absurd z1 q) (fun z1 _ _ _ _ _ _ _ => absurd z1 q) (fun z1 _ _ _ _ _ _ _ => absurd z1 q) (fun z1 _ _ _ _ _ _ => absurd z1 q) (fun z1 _ _ _ _ _ => absurd z1 q) (fun z1 _ _ _ _ => absurd z1 q) (fun z1 _ _ _ => absurd z1 q) (fun z1 _ _ _ _ _ _ => absurd z1 q) (fun z1 _ _ _ _ _ _ _ => absurd z1 q) (fun z1 _ _ _ _ _ _ _ => absurd z1 q) (fun z1 _ _ _ _ _ _ _ => absurd z1 q) (fun z1 _ _ _ _ _ _ => absurd z1 q) (fun z1 _ _ _ _ _ => absurd z1 q) (fun z1 _ _ _ _ => absurd z1 q) (fun z1 _ _ _ => absurd z1 q) (fun z1 _ => absurd z1 q) (fun _ => rfl)
    have q2 : ¬ p_m_isSheet (ui (ui σ 210 0) 3700 0) k := fun z => q ((sheet_iff (ui (ui σ 210 0) 3700 0) (ui σ 210 0) k).mp z)
    have m := vc_m_pond (d := 999) (x := x) (σ := ui σ 210 0) (k := k) (t := t) (i := i) (n := n) (v1 := 0) (σ1 := σ) (r := (some (.int (-1)), HH x (ui (ui σ 210 0) 3700 0))) (by omega) (fun z1 _ => absurd z1 q2) (fun z1 _ _ => absurd z1 q2) (fun z1 _ _ => absurd z1 q2) (fun z1 _ _ _ => absurd z1 q2) (fun z1 _ _ _ _ _ => absurd z1 q2) (fun z1 _ _ _ _ _ _ => absurd z1 q2) (fun z1 _ _ => absurd z1 q2) (fun z1 _ _ _ => absurd z1 q2) (fun z1 _ _ _ => absurd z1 q2) (fun z1 _ _ => absurd z1 q2) (fun z1 _ => absurd z1 q2) (fun _ => rfl)
    exact ⟨_, _, _, c, m, ⟨⟨rfl, h1.2⟩, h2, P, ns, nw, nr, hp, hc, hri, hwy, hs, hw, hre, hti⟩⟩
