/-! sunset (written by wip/whole/t65.py) -/
def isB (ok : Nat → Bool) (N b : Nat) : Prop := (b = 0 ∧ ∀ s, 1 ≤ s → s < N → ok s = false) ∨ (1 ≤ b ∧ b < N ∧ ok b = true ∧ ∀ s, 1 ≤ s → s < N → ok s = true → pc6 s < pc6 b ∨ (pc6 s = pc6 b ∧ b ≤ s))
theorem isB_uni {ok : Nat → Bool} {N a b : Nat} (h : isB ok N a) (g : isB ok N b) : a = b := by
  rcases h with ⟨h1, h2⟩ | ⟨h1, h2, h3, h4⟩
  · rcases g with ⟨g1, g2⟩ | ⟨g1, g2, g3, g4⟩
    · rw [h1, g1]
    · rw [h2 b g1 g2] at g3; cases g3
  · rcases g with ⟨g1, g2⟩ | ⟨g1, g2, g3, g4⟩
    · rw [g2 a h1 h2] at h3; cases h3
    · have := h4 b g1 g2 g3
      have := g4 a h1 h2 h3
      omega
theorem pc6_p : ∀ s, s < 64 → 1 ≤ s → 1 ≤ pc6 s := by decide +kernel
theorem bestS_isB {ok : Nat → Bool} : ∀ (k s b : Nat), s + k ≤ 64 → 1 ≤ s → isB ok s b → isB ok (s + k) (bestS ok k s b)
  | 0, s, b, _, _, h => h
  | k + 1, s, b, hk, hs, h => by
    show isB ok (s + (k + 1)) (bestS ok k (s + 1) (if pc6 b < pc6 s ∧ ok s = true then s else b))
    rw [show s + (k + 1) = s + 1 + k by omega]
    refine bestS_isB k (s + 1) _ (by omega) (by omega) ?_
    have ps := pc6_p s (by omega) hs
    by_cases z : pc6 b < pc6 s ∧ ok s = true
    · rw [if_pos z]
      refine Or.inr ⟨hs, by omega, z.2, fun s' h1 h2 h3 => ?_⟩
      rcases Nat.lt_or_ge s' s with q | q
      · rcases h with ⟨-, h⟩ | ⟨-, -, -, h⟩
        · rw [h s' h1 q] at h3; cases h3
        · have := h s' h1 q h3
          omega
      · have e : s' = s := by omega
        subst e
        exact Or.inr ⟨rfl, Nat.le_refl _⟩
    · rw [if_neg z]
      rcases h with ⟨h1, h2⟩ | ⟨h1, h2, h3, h4⟩
      · refine Or.inl ⟨h1, fun s' a1 a2 => ?_⟩
        rcases Nat.lt_or_ge s' s with q | q
        · exact h2 s' a1 q
        · have e : s' = s := by omega
          subst e
          cases hv : ok s' with
          | false => rfl
          | true =>
            exfalso
            apply z
            have e0 : pc6 0 = 0 := rfl
            rw [h1, e0]
            exact ⟨by omega, hv⟩
      · refine Or.inr ⟨h1, by omega, h3, fun s' a1 a2 a3 => ?_⟩
        rcases Nat.lt_or_ge s' s with q | q
        · exact h4 s' a1 q a3
        · have e : s' = s := by omega
          subst e
          rcases Nat.lt_or_ge (pc6 b) (pc6 s') with y | y
          · exact absurd ⟨y, a3⟩ z
          · rcases Nat.lt_or_ge (pc6 s') (pc6 b) with y2 | y2
            · exact Or.inl y2
            · exact Or.inr ⟨by omega, by omega⟩
noncomputable def okT (P : pd_T) (kk : Nat → Int32) (cc : Nat → Nat) (n T : Nat) (s : Nat) : Bool := dcd (∃ p, pok P kk cc n s T p)
section SU
variable {d : Nat} {x : Nat × (Nat → Int32)} {P : pd_T} {σ0 : mm_S} {n : Nat}
theorem c_mb_s {T z : Nat} (hd : 12 ≤ d) (ht : tiX P σ0 n) (h6 : n ≤ 6) (hT : T ≤ 63) (hz : z ≤ 6) : ∀ (i s : Nat), s + i = 2 ^ n → ∀ σ, SC P σ0 σ → (∀ s', 1 ≤ s' → s' < s → pc6 s' = z → okT P (kkc σ0) (ccc σ0) n T s' = false) →
    (∃ (r : Nat) (σ' : mm_S), SC P σ0 σ' ∧ s ≤ r ∧ r < 2 ^ n ∧ pc6 r = z ∧ okT P (kkc σ0) (ccc σ0) n T r = true ∧ (∀ s', 1 ≤ s' → s' < r → pc6 s' = z → okT P (kkc σ0) (ccc σ0) n T s' = false) ∧ mm_Runs d 32 (9, [some (.ref 29), some (.int (nI T)), some (.int (nI n)), some (.int (nI z)), some (.int (nI s))], [], HH x σ) (some (.int (nI r)), HH x σ')) ∨
    (∃ σ', SC P σ0 σ' ∧ (∀ s', 1 ≤ s' → s' < 2 ^ n → pc6 s' = z → okT P (kkc σ0) (ccc σ0) n T s' = false) ∧ ∀ r, mm_Runs d 32 (2, [some (.ref 29), some (.int (nI T)), some (.int (nI n)), some (.int (nI z + (-1))), none], [], HH x σ') r → mm_Runs d 32 (9, [some (.ref 29), some (.int (nI T)), some (.int (nI n)), some (.int (nI z)), some (.int (nI s))], [], HH x σ) r)
  | 0, s, h, σ, hs, hb => by
    have h64 := p2_64 h6
    refine Or.inr ⟨σ, hs, fun s' a1 a2 => hb s' a1 (by omega), fun r k => vx_mbs_p0 (v1 := 0) (σ1 := σ) (by omega) ?_ k⟩
    rw [pw2 n (by omega)]; exact nI_le (by omega) (by omega)
  | i + 1, s, h, σ, hs, hb => by
    have h64 := p2_64 h6
    have p6 := pc6_6 s (by omega)
    have ns : ¬ ((1 : Int32) <<< (nI n &&& 31)) ≤ nI s := by rw [pw2 n (by omega)]; exact nI_ge (by omega) (by omega)
    have ek : kkc σ = kkc σ0 := hs.1.2.2.1 21 rfl
    have ec : ccc σ = ccc σ0 := by unfold ccc; rw [hs.1.2.2.1 22 rfl]
    by_cases q : pc6 s = z
    · obtain ⟨v, W, L, r1, -, r2⟩ := c_canThrow (d := d - 1) (x := x) (σ := σ) (s := s) (T := T) (by omega) (tiA_SC ht hs) h6 (by omega) hT
      rw [ek, ec] at r2
      have hs1 : SC P σ0 (ub (ua σ 33 W) 32 L) := ⟨FR_ub rfl (FR_ua rfl hs.1), hs.2⟩
      have eb : bc32 (nI s) = nI z := by rw [bc32_6 s (by omega), q]
      rcases r2 with ⟨rfl, r2⟩ | ⟨rfl, r2⟩
      · exact Or.inl ⟨s, _, hs1, Nat.le_refl _, by omega, q, dcd_t r2, hb, vx_mbs_p3 (v1 := 1) (σ1 := ub (ua σ 33 W) 32 L) (by omega) ns eb (by decide) r1⟩
      · rcases c_mb_s hd ht h6 hT hz i (s + 1) (by omega) _ hs1 (fun s' a1 a2 a3 => by
          rcases Nat.lt_or_ge s' s with y | y
          · exact hb s' a1 y a3
          · rw [show s' = s by omega]; exact dcd_f (fun ⟨p, y⟩ => r2 p y)) with ⟨r, σ', b1, b2, b3⟩ | ⟨σ', b1, b2, b3⟩
        · obtain ⟨b3, b4, b5, b6, b7⟩ := b3
          exact Or.inl ⟨r, σ', b1, by omega, b3, b4, b5, b6, vx_mbs_p2 (v1 := 0) (σ1 := ub (ua σ 33 W) 32 L) (by omega) ns eb rfl r1 (by rw [nI_1]; exact b7)⟩
        · exact Or.inr ⟨σ', b1, b2, fun r k => vx_mbs_p2 (v1 := 0) (σ1 := ub (ua σ 33 W) 32 L) (by omega) ns eb rfl r1 (by rw [nI_1]; exact b3 r k)⟩
    · have eb : ¬ bc32 (nI s) = nI z := by rw [bc32_6 s (by omega), nI_eq (by omega) (by omega)]; exact q
      rcases c_mb_s hd ht h6 hT hz i (s + 1) (by omega) σ hs (fun s' a1 a2 a3 => by
        rcases Nat.lt_or_ge s' s with y | y
        · exact hb s' a1 y a3
        · rw [show s' = s by omega] at a3; exact absurd a3 q) with ⟨r, σ', b1, b2, b3, b4, b5, b6, b7⟩ | ⟨σ', b1, b2, b3⟩
      · exact Or.inl ⟨r, σ', b1, by omega, b3, b4, b5, b6, vx_mbs_p1 (v1 := 0) (σ1 := σ) (by omega) ns eb (by rw [nI_1]; exact b7)⟩
      · exact Or.inr ⟨σ', b1, b2, fun r k => vx_mbs_p1 (v1 := 0) (σ1 := σ) (by omega) ns eb (by rw [nI_1]; exact b3 r k)⟩
theorem c_mb_z {T : Nat} (hd : 12 ≤ d) (ht : tiX P σ0 n) (h6 : n ≤ 6) (hT : T ≤ 63) : ∀ (z : Nat), z ≤ n → ∀ σ, SC P σ0 σ → (∀ s', 1 ≤ s' → s' < 2 ^ n → z < pc6 s' → okT P (kkc σ0) (ccc σ0) n T s' = false) → ∃ (r : Nat) (σ' : mm_S), SC P σ0 σ' ∧ isB (okT P (kkc σ0) (ccc σ0) n T) (2 ^ n) r ∧ mm_Runs d 32 (2, [some (.ref 29), some (.int (nI T)), some (.int (nI n)), some (.int (nI z)), none], [], HH x σ) (some (.int (nI r)), HH x σ')
  | 0, hz, σ, hs, hb => by
    have h64 := p2_64 h6
    exact ⟨0, σ, hs, Or.inl ⟨rfl, fun s a1 a2 => hb s a1 a2 (pc6_p s (by omega) a1)⟩, vx_mbz_p0 (by decide)⟩
  | z + 1, hz, σ, hs, hb => by
    have h64 := p2_64 h6
    have h1 : 1 ≤ 2 ^ n := Nat.one_le_two_pow
    have nz : ¬ nI (z + 1) ≤ 0 := nI_nle (by omega) (by omega)
    rcases c_mb_s (d := d) (x := x) (z := z + 1) hd ht h6 hT (by omega) (2 ^ n - 1) 1 (by omega) σ hs (fun s' a1 a2 => absurd a2 (by omega)) with ⟨r, σ', b1, b2, b3, b4, b5, b6, b7⟩ | ⟨σ', b1, b2, b3⟩
    · refine ⟨r, σ', b1, Or.inr ⟨b2, b3, b5, fun s a1 a2 a3 => ?_⟩, vx_mbz_p1 nz b7⟩
      rcases Nat.lt_trichotomy (pc6 s) (z + 1) with q | q | q
      · exact Or.inl (by omega)
      · refine Or.inr ⟨by omega, ?_⟩
        rcases Nat.lt_or_ge s r with y | y
        · rw [b6 s a1 y q] at a3; cases a3
        · exact y
      · rw [hb s a1 a2 q] at a3; cases a3
    · rw [pk_m1] at b3
      obtain ⟨r, σ2, c1, c2, c3⟩ := c_mb_z hd ht h6 hT z (by omega) σ' b1 (fun s' a1 a2 a3 => by
        rcases Nat.lt_or_ge (z + 1) (pc6 s') with q | q
        · exact hb s' a1 a2 q
        · exact b2 s' a1 a2 (by omega))
      exact ⟨r, σ2, c1, c2, vx_mbz_p1 nz (b3 _ c3)⟩
theorem m_su_h {σ : mm_S} {kk : Nat → Int32} {cc : Nat → Nat} {T : Nat} (hd : 5 ≤ d) (hwf : pd_wf P) (hn : pd_n P ≤ 42) (hm : wms P σ n kk cc) (hD : dm_ok P kk cc n (σ.2.2.1 49)) (hT : T ≤ 63) : ∀ (k s b : Nat), s + k = 2 ^ n → b < 64 → ∀ M, ∃ M', mm_Runs d 136 (21, [some (.ref 37), some (.int (nI T)), some (.int (nI b)), some (.int (nI s))], [], HH x (ua σ 50 M)) (some (.int (nI (bestS (okT P kk cc n T) k s b))), HH x (ua σ 50 M'))
  | 0, s, b, h, hb, M => by
    have h6 := hm.1
    have h64 := p2_64 h6
    refine ⟨M, vx_m_sunh_p0 (v1 := 0) (v2 := 0) (v3 := 0) (σ3 := σ) (by omega) ?_⟩
    show ((1 : Int32) <<< (σ.1 3720 &&& 31)) ≤ nI s
    rw [hm.2.1, pw2 n (by omega)]
    exact nI_le (by omega) (by omega)
  | k + 1, s, b, h, hb, M => by
    have h6 := hm.1
    have h64 := p2_64 h6
    have ns : ¬ ((1 : Int32) <<< ((ua σ 50 M).1 3720 &&& 31)) ≤ nI s := by
      show ¬ ((1 : Int32) <<< (σ.1 3720 &&& 31)) ≤ nI s
      rw [hm.2.1, pw2 n (by omega)]
      exact nI_ge (by omega) (by omega)
    have t1 := m_size (d := d - 1) (x := x) (σ := ua σ 50 M) (s := s) (by omega)
    have t2 := m_size (d := d - 1) (x := x) (σ := ua σ 50 M) (s := b) hb
    have q1 := pc6_6 s (by omega)
    have q2 := pc6_6 b hb
    have hm' : wms P (ua σ 50 M) n kk cc := hm
    show ∃ M', mm_Runs d 136 _ (some (.int (nI (bestS (okT P kk cc n T) k (s + 1) (if pc6 b < pc6 s ∧ okT P kk cc n T s = true then s else b)))), HH x (ua σ 50 M'))
    rcases Nat.lt_or_ge (pc6 b) (pc6 s) with z | z
    · have nl : ¬ nI (pc6 s) ≤ nI (pc6 b) := nI_ge z (by omega)
      obtain ⟨v, M1, r1, r2⟩ := m_find (d := d - 1) (x := x) (σ := ua σ 50 M) (kk := kk) (cc := cc) (n := n) (s := s) (T := T) (by omega) hwf hn hm' hD (by omega) (by omega)
      rw [ua_2] at r1
      rcases r2 with ⟨rfl, p, r2, -⟩ | ⟨rfl, r2⟩
      · have e : okT P kk cc n T s = true := dcd_t ⟨p, r2⟩
        rw [if_pos ⟨z, e⟩]
        obtain ⟨M', g⟩ := m_su_h hd hwf hn hm hD hT k (s + 1) s (by omega) (by omega) M1
        exact ⟨M', vx_m_sunh_p3 (v1 := nI (pc6 s)) (v2 := nI (pc6 b)) (v3 := 1) (σ3 := ua σ 50 M1) (by omega) ns nl (by decide) t1 t2 r1 (by rw [nI_1]; exact g)⟩
      · have e : okT P kk cc n T s = false := dcd_f (fun ⟨p, y⟩ => r2 p y)
        rw [if_neg (fun y => by rw [e] at y; exact absurd y.2 (by decide))]
        obtain ⟨M', g⟩ := m_su_h hd hwf hn hm hD hT k (s + 1) b (by omega) hb M1
        exact ⟨M', vx_m_sunh_p2 (v1 := nI (pc6 s)) (v2 := nI (pc6 b)) (v3 := 0) (σ3 := ua σ 50 M1) (by omega) ns nl rfl t1 t2 r1 (by rw [nI_1]; exact g)⟩
    · rw [if_neg (fun y => absurd y.1 (by omega))]
      obtain ⟨M', g⟩ := m_su_h hd hwf hn hm hD hT k (s + 1) b (by omega) hb M
      exact ⟨M', vx_m_sunh_p1 (v1 := nI (pc6 s)) (v2 := nI (pc6 b)) (v3 := 0) (σ3 := σ) (by omega) ns (nI_le z (by omega)) t1 t2 (by rw [nI_1]; exact g)⟩
end SU
theorem op_sunset : opI Rel i_X6_sunset i_X7_sunset 1 := by
  intro x σ as h hr
  obtain ⟨t, rfl⟩ := as_1 h
  obtain ⟨P, ns, nw, nr, hr⟩ := rel_RP.mp hr
  have hwf := pond_wf (RP_p hr)
  have hn := pd_n42 (RP_p hr)
  have hwi := RP_wi hr
  have h6 := hwi.1
  have h64 := p2_64 h6
  have h1 : 1 ≤ 2 ^ nw := Nat.one_le_two_pow
  by_cases w1 : t < 0
  · exact ⟨-2, σ, σ, vx_sun_p0 (v1 := 0) (σ1 := σ) (by decide) w1, vx_m_sun0_p1 (σ1 := σ) (by decide) (fun z => z.1 w1), RP_rel hr⟩
  by_cases w2 : t ≤ 20
  · obtain ⟨T, hT, rfl⟩ := nI_of2 (M := 20) (n := 20) rfl w1 w2
    obtain ⟨r, σ1, a1, a2, a3⟩ := c_mb_z (d := 998) (x := x) (T := T) (by omega) (RP_tiA hr) h6 (by omega) nw (Nat.le_refl _) σ (SC_refl (RP_lk hr).2.2) (fun s' b1 b2 b3 => by have := pc6_n nw (by omega) s' b2; omega)
    have hr1 := RP_SC hr a1
    have ek : kkc σ1 = kkc σ := a1.1.2.2.1 21 rfl
    have ec : ccc σ1 = ccc σ := by unfold ccc; rw [a1.1.2.2.1 22 rfl]
    have wm := wi_ms hwf hn (RP_wi hr1)
    rw [ek, ec] at wm
    obtain ⟨D, r1, r2⟩ := m_layMeets (d := 998) (x := x) (by omega) (RP_pm hr1) (RP_wy hr1) wm
    obtain ⟨M', g⟩ := m_su_h (d := 999) (x := x) (σ := ua σ1 49 D) (T := T) (by omega) hwf hn (wms_49 wm) r2 (by omega) (2 ^ nw - 1) 1 0 (by omega) (by omega) (σ1.2.2.1 50)
    rw [← ua_mid] at g
    have eb := isB_uni a2 (by
      have := bestS_isB (ok := okT P (kkc σ) (ccc σ) nw T) (2 ^ nw - 1) 1 0 (by omega) (by omega) (Or.inl ⟨rfl, fun s b1 b2 => absurd b2 (by omega)⟩)
      rw [show 1 + (2 ^ nw - 1) = 2 ^ nw by omega] at this
      exact this)
    rw [← eb] at g
    have c9 : mm_Runs 998 32 (0, [some (.ref 29), some (.int (nI T)), some (.int (σ.1 2003)), none, none], [], HH x σ) (some (.int (nI r)), HH x σ1) := by
      rw [hwi.2.1]; exact vx_mb0_p0 a3
    exact ⟨nI r, σ1, _, vx_sun_p1 (v1 := nI r) (σ1 := σ1) (by decide) w1 w2 c9, vx_m_sun0_p0 (σ1 := ua σ1 49 D) (by decide) ⟨w1, i_nlt.mpr w2⟩ r1 g, RP_rel (RP_SC hr1 ⟨FR_ua rfl (FR_ua rfl (FR_refl _ _ _ _ _)), (RP_lk hr1).2.2⟩)⟩
  · exact ⟨-2, σ, σ, vx_sun_p2 (v1 := 0) (σ1 := σ) (by decide) w1 w2, vx_m_sun0_p1 (σ1 := σ) (by decide) (fun z => w2 (i_nlt.mp z.2)), RP_rel hr⟩

