/-! soonest: the call (written by wip/whole/t68.py) -/
section SO2
variable {d : Nat} {x : Nat × (Nat → Int32)} {P : pd_T} {σ : mm_S} {n : Nat}
theorem RP_SP {ns nw nr : Nat} {σ' : mm_S} (h : RP P ns nw nr σ) (g : SP σ σ') (e : σ'.2.1 1302 = σ.2.1 1302 ∧ σ'.2.2.1 15 = σ.2.2.1 15 ∧ σ'.2.2.2 14 = σ.2.2.2 14) (ht : r_ti P nw σ') : RP P ns nw nr σ' := by
  obtain ⟨f1, f2, f3, f4⟩ := g
  obtain ⟨h1, h2, h3, h4, h5, h6, h7, h8, h9, h10⟩ := h
  refine ⟨?_, ?_, ?_, ?_, ?_, ?_, ?_, ?_, ?_, ht⟩
  · unfold r_misc at h1 ⊢
    rw [f1 210 rfl, f1 3700 rfl, f1 209 rfl, f1 3701 rfl]; exact h1
  · unfold r_she at h2 ⊢
    rw [f1 401 rfl, f1 402 rfl, f1 403 rfl, f1 501 rfl, f1 502 rfl, f1 503 rfl, f1 601 rfl, f1 602 rfl, f1 603 rfl, f1 701 rfl, f1 702 rfl, f1 703 rfl, f3 8 rfl, f3 9 rfl, f3 10 rfl, f3 11 rfl, f3 38 rfl, f3 39 rfl, f3 40 rfl]; exact h2
  · unfold r_pond at h3 ⊢
    rw [f1 1305 rfl, f1 1306 rfl, f1 3705 rfl, f1 3706 rfl, f2 1307 rfl, f3 41 rfl]; exact h3
  · unfold r_col at h4 ⊢
    rw [f2 1303 rfl, f2 1304 rfl]; exact h4
  · unfold r_rip at h5 ⊢
    rw [e.1, e.2.1, e.2.2]; exact h5
  · unfold r_way at h6 ⊢
    rw [f3 42 rfl]; exact h6
  · unfold r_st at h7 ⊢
    rw [f1 1603 rfl, f1 3713 rfl, f3 17 rfl, f3 18 rfl, f3 19 rfl, f3 44 rfl, f3 45 rfl, f3 46 rfl]; exact h7
  · unfold r_wi at h8 ⊢
    rw [f1 2003 rfl, f1 3720 rfl, f3 21 rfl, f3 22 rfl, f3 47 rfl, f3 48 rfl]; exact h8
  · unfold r_re at h9 ⊢
    rw [f1 2403 rfl, f1 3725 rfl, f3 26 rfl, f3 27 rfl, f3 51 rfl, f3 52 rfl]; exact h9
/-- the plan, whichever call made it -/
def PLN (P : pd_T) (kk : Nat → Int32) (cc : Nat → Nat) (n T : Nat) (p : Nat → Nat) : Prop := pok P kk cc n (2 ^ n - 1) T p ∧ (∀ T' p', pok P kk cc n (2 ^ n - 1) T' p' → T ≤ T') ∧ ∀ p2, pok P kk cc n (2 ^ n - 1) T p2 → ∀ i, i < n → (∀ j, j < i → p2 j = p j) → p i ≤ p2 i
theorem PLN_uni {kk : Nat → Int32} {cc : Nat → Nat} {T T' : Nat} {p p' : Nat → Nat} (h : PLN P kk cc n T p) (g : PLN P kk cc n T' p') : T = T' ∧ ∀ i, i < n → p i = p' i := by
  have e : T = T' := Nat.le_antisymm (h.2.1 T' p' g.1) (g.2.1 T p h.1)
  subst e
  refine ⟨rfl, fun i => ?_⟩
  induction i using Nat.strongRecOn with
  | ind i ih =>
    intro hi
    have e : ∀ j, j < i → p j = p' j := fun j hj => ih j hj (by omega)
    exact Nat.le_antisymm (h.2.2 p' g.1 i hi (fun j hj => (e j hj).symm)) (g.2.2 p h.1 i hi e)
theorem pl_PLN {T : Nat} {p : Nat → Nat} (h6 : n ≤ 6) : pl_is P (σ.2.2.1 21) (σ.2.2.1 22) n T p ↔ PLN P (kkc σ) (ccc σ) n T p := by
  unfold pl_is PLN
  constructor
  · rintro ⟨a, b, c⟩
    exact ⟨(pl_pok h6 p).mp a, fun T' p' z => b T' p' ((pl_pok h6 p').mpr z), fun p2 z => c p2 ((pl_pok h6 p2).mpr z)⟩
  · rintro ⟨a, b, c⟩
    exact ⟨(pl_pok h6 p).mpr a, fun T' p' z => b T' p' ((pl_pok h6 p').mp z), fun p2 z => c p2 ((pl_pok h6 p2).mp z)⟩
theorem c_makePlan {ns nw nr : Nat} (hd : 13 ≤ d) (hr : RP P ns nw nr σ) : ∃ (T : Nat) (p : Nat → Nat) (σ' : mm_S), mm_Runs d 29 (0, [some (.ref 29), some (.int (nI nw)), none, none, none], [], HH x σ) (none, HH x σ') ∧ RP P ns nw nr σ' ∧ kkc σ' = kkc σ ∧ ccc σ' = ccc σ ∧ T ≤ 63 ∧ PLN P (kkc σ) (ccc σ) nw T p ∧ σ'.1 2907 = nI T ∧ ∀ a, a < nw → σ'.2.2.1 35 a = nI (p a) := by
  have hwf := pond_wf (RP_p hr)
  have hn := pd_n42 (RP_p hr)
  have hwi := RP_wi hr
  have h6 := hwi.1
  by_cases z : σ.1 2904 = 0
  · have h63 : ∃ p, pok P (kkc σ) (ccc σ) nw (2 ^ nw - 1) 63 p := plan63 (RP_p hr).1 (RP_p hr).2.1 hwf h6 (fun i hi => (wi_cs hwf hn hwi i hi).2.2.2.2)
    obtain ⟨l, a1, a2, a3⟩ := c_wp_i (d := d - 1) (x := x) (by omega) hwf hn (RP_tiA hr) h6 nw 0 (by omega) 0 (by omega) (fun _ _ _ => Nat.zero_le _)
    obtain ⟨T, p, σ', b0, b1, b2, b3, b4, b5, b6, b7, b8, b9⟩ := c_mp_l (d := d) (x := x) (by omega) (RP_tiA hr) h6 h63 (63 - l) l (by omega) a2 (σ.2.2.1 33) (σ.2.2.2 32)
    rw [ua_self, ub_self] at b1
    have ek : kkc σ' = kkc σ := b2.2.2.1 21 rfl
    have ec : ccc σ' = ccc σ := by unfold ccc; rw [b2.2.2.1 22 rfl]
    have pl : PLN P (kkc σ) (ccc σ) nw T p := ⟨b7, b8, b9⟩
    refine ⟨T, p, σ', vx_mp0_p0 (v1 := nI l) (by omega) z (vx_wp0_p0 a3) (by rw [all_sh nw (by omega)]; exact b1), RP_SP hr b2 b3 ⟨?_, Or.inr ⟨b4, T, p, b0, b5, b6, ?_⟩⟩, ek, ec, b0, pl, b5, b6⟩
    · have h := (RP_ti hr).1
      rw [b2.2.2.2 30 rfl, b2.2.2.2 31 rfl, b2.2.2.1 21 rfl, b2.2.2.1 22 rfl]
      exact h
    · rw [pl_PLN h6, ek, ec]; exact pl
  · rcases (RP_ti hr).2 with y | ⟨y1, T, p, y2, y3, y4, y5⟩
    · exact absurd y z
    · exact ⟨T, p, σ, vx_mp0_p1 (v1 := 0) (by omega) z, hr, rfl, rfl, y2, (pl_PLN h6).mp y5, y3, y4⟩
theorem m_so_h {kk : Nat → Int32} {cc : Nat → Nat} {T : Nat} {w : Int32} (hd : 5 ≤ d) (hwf : pd_wf P) (hn : pd_n P ≤ 42) (hm : wms P σ n kk cc) (hD : dm_ok P kk cc n (σ.2.2.1 49)) (hw : ¬ w = -1 → ∃ u, u < n ∧ w = nI u) (hT : T ≤ 63) {p : Nat → Nat} (hp : PLN P kk cc n T p) : ∀ (k l : Nat), l + k = T → ∀ M, ∃ M', mm_Runs d 134 (31, [some (.ref 37), some (.int w), some (.int (nI l))], [], HH x (ua σ 50 M)) (some (.int (if w = -1 then nI T else nI (p w.toNatClampNeg))), HH x (ua σ 50 M'))
  | k, l, h, M => by
    have h6 := hm.1
    have h64 := p2_64 h6
    have h1 : 1 ≤ 2 ^ n := Nat.one_le_two_pow
    have hm' : wms P (ua σ 50 M) n kk cc := hm
    obtain ⟨v, M1, r1, r2⟩ := m_find (d := d - 1) (x := x) (σ := ua σ 50 M) (kk := kk) (cc := cc) (n := n) (s := 2 ^ n - 1) (T := l) (by omega) hwf hn hm' hD (by omega) (by omega)
    rw [ua_2] at r1
    have r1' : mm_Runs (d - 1) 133 (0, [some (.ref 37), some (.int (((1 : Int32) <<< ((ua σ 50 M).1 3720 &&& 31)) - (1 : Int32))), some (.int (nI l)), none, none], [], HH x (ua σ 50 M)) (some (.int v), HH x (ua σ 50 M1)) := by
      rw [show (ua σ 50 M).1 3720 = nI n from hm.2.1, all_sh n (by omega)]
      exact r1
    rcases r2 with ⟨rfl, p2, a1, a2, a3⟩ | ⟨rfl, a1⟩
    · have el : l = T := by
        have := hp.2.1 l p2 a1
        omega
      subst el
      have pl2 : PLN P kk cc n l p2 := ⟨a1, hp.2.1, fun p3 z i hi hj => a2 p3 z (fun a ha => absurd ha (by omega)) i hi (all_tb h6 hi) (fun j hj2 _ => hj j hj2)⟩
      have eq := (PLN_uni hp pl2).2
      refine ⟨M1, ?_⟩
      by_cases z : w = -1
      · rw [if_pos z]
        exact vx_m_soh_p1 (v1 := 1) (σ1 := ua σ 50 M1) (by omega) (by decide) z r1'
      · rw [if_neg z]
        obtain ⟨u, u1, rfl⟩ := hw z
        have cu : (nI u).toNatClampNeg = u := nI_clamp (by omega)
        have e3 := vx_m_soh_p0 (d := d) (x := x) (σ := ua σ 50 M) (w := nI u) (l := nI l) (v1 := 1) (σ1 := ua σ 50 M1) (by omega) (by decide) z r1' (nI_in (by omega) (by omega))
        rw [cu] at e3 ⊢
        have e4 : (ua σ 50 M1).2.2.1 50 u = nI (p u) := by
          show M1 u = nI (p u)
          rw [a3 u u1 (all_tb h6 u1), eq u u1]
        rw [e4] at e3
        exact e3
    · match k, h with
      | 0, h =>
        have el : l = T := by omega
        subst el
        exact absurd hp.1 (a1 p)
      | k + 1, h =>
        obtain ⟨M', g⟩ := m_so_h hd hwf hn hm hD hw hT hp k (l + 1) (by omega) M1
        exact ⟨M', vx_m_soh_p2 (v1 := 0) (σ1 := ua σ 50 M1) (by omega) rfl r1' (by rw [nI_1]; exact g)⟩
end SO2
theorem op_soonest : opI Rel i_X6_soonest i_X7_soonest 1 := by
  intro x σ as h hr
  obtain ⟨w, rfl⟩ := as_1 h
  obtain ⟨P, ns, nw, nr, hr⟩ := rel_RP.mp hr
  have hwf := pond_wf (RP_p hr)
  have hn := pd_n42 (RP_p hr)
  have hwi := RP_wi hr
  have h6 := hwi.1
  have ixw : ∀ τ : mm_S, r_wi P nw τ → (∃ u, u < nw ∧ w = nI u) → p_has_20 τ w ∧ p_m_isWish τ w ∧ ¬ (w < 0 ∨ 6 ≤ w.toNatClampNeg) := fun τ ht z => by
    obtain ⟨u, u1, rfl⟩ := z
    rcases wi_ix ht (nI u) with ⟨y1, y2⟩ | ⟨s, s1, s2, s3, s4⟩
    · exfalso
      refine y1 ⟨nI_pos (by omega), ?_⟩
      rw [ht.2.1]; exact nI_ge u1 (by omega)
    · exact ⟨s3, s4, nI_in (by omega) (by omega)⟩
  have good : (w = -1 ∨ ∃ u, u < nw ∧ w = nI u) → ∃ (v : Int32) (σ1 σ2 : mm_S), mm_Runs 999 i_X6_soonest (0, [some (.ref 2), some (.int w)], [], HH x σ) (some (.int v), HH x σ1) ∧ mm_Runs 999 i_X7_soonest (0, [some (.ref 37), some (.int w), none], [], HH x σ1) (some (.int v), HH x σ2) ∧ Rel σ2 := by
    intro hw
    have hwv : ¬ w = -1 → ∃ u, u < nw ∧ w = nI u := fun z => hw.elim (fun y => absurd y z) id
    by_cases n0 : nw = 0
    · have e0 : σ.1 2003 = 0 := by rw [hwi.2.1, n0]; rfl
      have e1 : σ.1 3720 = 0 := by rw [hwi.2.2.1, n0]; rfl
      have z : w = -1 := hw.elim id (fun ⟨u, u1, _⟩ => absurd u1 (by omega))
      exact ⟨-9, σ, σ, vx_soon_p1 (σ1 := σ) (σ2 := σ) (by decide) z e0, vx_m_so0_p1 (σ1 := σ) (σ2 := σ) (by decide) z e1, RP_rel hr⟩
    · have e0 : ¬ σ.1 2003 = 0 := by rw [hwi.2.1]; exact nI_ne0 (by omega) (by omega)
      obtain ⟨T, p, σ1, a1, a2, a3, a4, a5, a6, a7, a8⟩ := c_makePlan (d := 998) (x := x) (by omega) hr
      have hwi1 := RP_wi a2
      have e1 : ¬ σ1.1 3720 = 0 := by rw [hwi1.2.2.1]; exact nI_ne0 (by omega) (by omega)
      have wm := wi_ms hwf hn hwi1
      rw [a3, a4] at wm
      obtain ⟨D, r1, r2⟩ := m_layMeets (d := 998) (x := x) (by omega) (RP_pm a2) (RP_wy a2) wm
      obtain ⟨M', g⟩ := m_so_h (d := 999) (x := x) (σ := ua σ1 49 D) (w := w) (by omega) hwf hn (wms_49 wm) r2 hwv a5 a6 T 0 (by omega) (σ1.2.2.1 50)
      rw [← ua_mid] at g
      have fin : Rel (ua (ua σ1 49 D) 50 M') := RP_rel (RP_SC a2 ⟨FR_ua rfl (FR_ua rfl (FR_refl _ _ _ _ _)), (RP_lk a2).2.2⟩)
      have a1' : mm_Runs 998 29 (0, [some (.ref 29), some (.int (σ.1 2003)), none, none, none], [], HH x σ) (none, HH x σ1) := by rw [hwi.2.1]; exact a1
      by_cases z : w = -1
      · rw [if_pos z] at g
        have c9 := vx_soon_p0 (d := 999) (x := x) (σ := σ) (w := w) (σ1 := σ1) (σ2 := σ) (by decide) z e0 a1'
        rw [a7] at c9
        exact ⟨nI T, σ1, _, c9, vx_m_so0_p0 (σ1 := ua σ1 49 D) (σ2 := σ1) (by decide) z e1 r1 g, fin⟩
      · rw [if_neg z] at g
        have ix := ixw σ hwi (hwv z)
        have ix1 := ixw σ1 hwi1 (hwv z)
        have c9 := vx_soon_p2 (d := 999) (x := x) (σ := σ) (w := w) (σ1 := σ) (σ2 := σ1) (by decide) z ix.1 e0 a1' ix.2.2
        obtain ⟨u, u1, ue⟩ := hwv z
        have cu : w.toNatClampNeg = u := by rw [ue]; exact nI_clamp (by omega)
        rw [cu, a8 u u1] at c9
        rw [cu] at g
        exact ⟨nI (p u), σ1, _, c9, vx_m_so0_p2 (σ1 := σ1) (σ2 := ua σ1 49 D) (by decide) z ix1.2.1 e1 r1 g, fin⟩
  by_cases z : w = -1
  · exact good (Or.inl z)
  · rcases wi_ix hwi w with ⟨q1, q2⟩ | ⟨u, hu, e, q1, q2⟩
    · exact ⟨-1, σ, σ, vx_soon_p4 (σ1 := σ) (σ2 := σ) (by decide) z q1, vx_m_so0_p4 (σ1 := σ) (σ2 := σ) (by decide) z q2, RP_rel hr⟩
    · exact good (Or.inr ⟨u, hu, e⟩)

