/-! first (written by wip/whole/t54.py) -/
noncomputable def mtv (P : pd_T) (A B : Nat → Nat → Bool) : Int32 := Classical.epsilon (fun m => ∃ c, MV P A B m c)
theorem mtv_is {P : pd_T} {A B : Nat → Nat → Bool} {m c : Int32} (h : MV P A B m c) : m = mtv P A B := by
  obtain ⟨c', h'⟩ := Classical.epsilon_spec (p := fun m => ∃ c, MV P A B m c) ⟨m, c, h⟩
  exact (MV_uni h h').1
def stA (P : pd_T) (σ : mm_S) (s : Nat) : Nat → Nat → Bool := sa P (σ.2.2.1 17 s) (σ.2.2.1 18 s).toNatClampNeg (σ.2.2.1 19 s).toNatClampNeg
theorem st_of2 {P : pd_T} {n s : Nat} {σ : mm_S} (hw : pd_wf P) (hn : pd_n P ≤ 42) (h : r_st P n σ) (hs : s < n) : ∃ k c m, stc P σ s k c m ∧ stm P σ s k c m ∧ stA P σ s = sa P k c m := by
  obtain ⟨k, c, m, h1, h2⟩ := st_of h hs
  have hc := hw c h1.2.2.2.2.2.1
  have hm := h1.2.2.2.2.2.2
  refine ⟨k, c, m, h1, h2, ?_⟩
  unfold stA
  rw [h1.2.2.1, h1.2.2.2.1, h1.2.2.2.2.1, nI_clamp (by omega), nI_clamp (by omega)]
theorem stA_SC {P : pd_T} {σ σ' : mm_S} {s : Nat} (g : SC P σ σ') : stA P σ' s = stA P σ s := by
  obtain ⟨⟨f1, f2, f3, f4⟩, hr⟩ := g
  unfold stA
  rw [f3 17 rfl, f3 18 rfl, f3 19 rfl]
def fis (mt : Nat → Nat → Int32) (a b : Nat) (s : Int32 × Int32 × Int32) : Int32 × Int32 × Int32 := if mt a b = -9 then s else if s.2.2 = -9 ∨ ¬ s.2.2 ≤ mt a b then (nI a, nI b, mt a b) else s
def fiB (mt : Nat → Nat → Int32) (a : Nat) : Nat → Nat → Int32 × Int32 × Int32 → Int32 × Int32 × Int32
  | 0, _, s => s
  | k + 1, b, s => fiB mt a k (b + 1) (fis mt a b s)
def fiA (mt : Nat → Nat → Int32) (n : Nat) : Nat → Nat → Int32 × Int32 × Int32 → Int32 × Int32 × Int32
  | 0, _, s => s
  | k + 1, a, s => fiA mt n k (a + 1) (fiB mt a (n - (a + 1)) (a + 1) s)
def fiw (w : Int32) (s : Int32 × Int32 × Int32) : Int32 := if w = 0 then s.1 else if w = 1 then s.2.1 else s.2.2
section FI
variable {d : Nat} {x : Nat × (Nat → Int32)} {P : pd_T} {σ0 : mm_S} {ns nw nr : Nat} {w : Int32}
theorem c_fib {a : Nat} (hd : 5 ≤ d) (h0 : RP P ns nw nr σ0) (ha : a < ns) : ∀ (k b : Nat), b + k = ns → ∀ (s : Int32 × Int32 × Int32) (σ : mm_S), SC P σ0 σ → ∃ σ', SC P σ0 σ' ∧ ∀ r, mm_Runs d 46 (25, [some (.ref 2), some (.int w), some (.int (fiB (fun a b => mtv P (stA P σ0 a) (stA P σ0 b)) a k b s).1), some (.int (fiB (fun a b => mtv P (stA P σ0 a) (stA P σ0 b)) a k b s).2.1), some (.int (fiB (fun a b => mtv P (stA P σ0 a) (stA P σ0 b)) a k b s).2.2), some (.int (nI (a + 1))), none], [], HH x σ') r →
    mm_Runs d 46 (43, [some (.ref 2), some (.int w), some (.int s.1), some (.int s.2.1), some (.int s.2.2), some (.int (nI a)), some (.int (nI b))], [], HH x σ) r
  | 0, b, hb, s, σ, hs => by
    have hr := RP_SC h0 hs
    have h8 := (RP_st hr).1
    refine ⟨σ, hs, fun r k => vx_fib_p0 (v1 := 0) (σ1 := σ) (by omega) (by rw [(RP_st hr).2.1]; exact nI_le (by omega) (by omega)) ?_⟩
    rw [nI_1]; exact k
  | k + 1, b, hb, s, σ, hs => by
    have hr := RP_SC h0 hs
    have h8 := (RP_st hr).1
    have nb : ¬ (σ.1 1603) ≤ (nI b) := by rw [(RP_st hr).2.1]; exact nI_ge (by omega) (by omega)
    obtain ⟨k1, c1, m1, s1, s2, s3⟩ := st_of2 (pond_wf (RP_p hr)) (pd_n42 (RP_p hr)) (RP_st hr) ha
    obtain ⟨k2, c2, m2, t1, t2, t3⟩ := st_of2 (pond_wf (RP_p hr)) (pd_n42 (RP_p hr)) (RP_st hr) (show b < ns by omega)
    obtain ⟨v, σ1, r1, r2, r3⟩ := c_ofSt (d := d - 1) (x := x) (by omega) (RP_lk hr) s1 t1
    rw [← s3, ← t3, stA_SC hs, stA_SC hs] at r3
    have hs1 := SC_trans hs r2
    obtain ⟨σ', h1, go⟩ := c_fib hd h0 ha k (b + 1) (by omega) (fis (fun a b => mtv P (stA P σ0 a) (stA P σ0 b)) a b s) σ1 hs1
    refine ⟨σ', h1, fun r kk => ?_⟩
    have g := go r kk
    unfold fis at g
    simp only at g
    rcases r3 with ⟨rfl, r3⟩ | ⟨rfl, r3, r4⟩
    · rw [if_pos (mtv_is r3).symm] at g
      exact vx_fib_p1 (v1 := 0) (σ1 := σ1) (by omega) nb rfl r1 (by rw [nI_1]; exact g)
    · have e := mtv_is r4
      rw [← e, if_neg r3] at g
      by_cases q1 : s.2.2 = -9
      · rw [if_pos (Or.inl q1)] at g
        exact vx_fib_p2 (v1 := 1) (σ1 := σ1) (by omega) nb (by decide) q1 r1 (by rw [nI_1]; exact g)
      · by_cases q2 : s.2.2 ≤ σ1.1 2800
        · rw [if_neg (fun z => z.elim q1 (fun y => y q2))] at g
          exact vx_fib_p3 (v1 := 1) (σ1 := σ1) (by omega) nb (by decide) q1 q2 r1 (by rw [nI_1]; exact g)
        · rw [if_pos (Or.inr q2)] at g
          exact vx_fib_p4 (v1 := 1) (σ1 := σ1) (by omega) nb (by decide) q1 q2 r1 (by rw [nI_1]; exact g)
theorem c_fia (hd : 5 ≤ d) (h0 : RP P ns nw nr σ0) : ∀ (k a : Nat), a + k = ns → ∀ (s : Int32 × Int32 × Int32) (σ : mm_S), SC P σ0 σ → ∃ σ', SC P σ0 σ' ∧ mm_Runs d 46 (25, [some (.ref 2), some (.int w), some (.int s.1), some (.int s.2.1), some (.int s.2.2), some (.int (nI a)), none], [], HH x σ) (some (.int (fiw w (fiA (fun a b => mtv P (stA P σ0 a) (stA P σ0 b)) ns k a s))), HH x σ')
  | 0, a, ha, s, σ, hs => by
    have hr := RP_SC h0 hs
    have h8 := (RP_st hr).1
    have le : (σ.1 1603) ≤ (nI a) := by rw [(RP_st hr).2.1]; exact nI_le (by omega) (by omega)
    refine ⟨σ, hs, ?_⟩
    unfold fiA fiw
    by_cases w0 : w = 0
    · rw [if_pos w0]; exact vx_fia_p2 le w0
    · rw [if_neg w0]
      by_cases w1 : w = 1
      · rw [if_pos w1]; exact vx_fia_p1 le w0 w1
      · rw [if_neg w1]; exact vx_fia_p0 le w0 w1
  | k + 1, a, ha, s, σ, hs => by
    have hr := RP_SC h0 hs
    have h8 := (RP_st hr).1
    obtain ⟨σ1, h1, go⟩ := c_fib (x := x) (w := w) hd h0 (show a < ns by omega) (ns - (a + 1)) (a + 1) (by omega) s σ hs
    obtain ⟨σ', h2, r2⟩ := c_fia hd h0 k (a + 1) (by omega) _ σ1 h1
    exact ⟨σ', h2, vx_fia_p3 (by rw [(RP_st hr).2.1]; exact nI_ge (by omega) (by omega)) (by rw [nI_1]; exact go _ r2)⟩
theorem m_fib {a : Nat} (hd : 5 ≤ d) (h0 : RP P ns nw nr σ0) (ha : a < ns) : ∀ (k b : Nat), b + k = ns → ∀ (s : Int32 × Int32 × Int32) (σ : mm_S), SC P σ0 σ → ∃ σ', SC P σ0 σ' ∧ ∀ r, mm_Runs d 117 (25, [some (.ref 37), some (.int w), some (.int (fiB (fun a b => mtv P (stA P σ0 a) (stA P σ0 b)) a k b s).1), some (.int (fiB (fun a b => mtv P (stA P σ0 a) (stA P σ0 b)) a k b s).2.1), some (.int (fiB (fun a b => mtv P (stA P σ0 a) (stA P σ0 b)) a k b s).2.2), some (.int (nI (a + 1))), none], [], HH x σ') r →
    mm_Runs d 117 (40, [some (.ref 37), some (.int w), some (.int s.1), some (.int s.2.1), some (.int s.2.2), some (.int (nI a)), some (.int (nI b))], [], HH x σ) r
  | 0, b, hb, s, σ, hs => by
    have hr := RP_SC h0 hs
    have h8 := (RP_st hr).1
    refine ⟨σ, hs, fun r k => vx_m_fib_p0 (σ1 := σ) (by omega) (by rw [(RP_st hr).2.2.1]; exact nI_le (by omega) (by omega)) ?_⟩
    rw [nI_1]; exact k
  | k + 1, b, hb, s, σ, hs => by
    have hr := RP_SC h0 hs
    have h8 := (RP_st hr).1
    have nb : ¬ (σ.1 3713) ≤ (nI b) := by rw [(RP_st hr).2.2.1]; exact nI_ge (by omega) (by omega)
    obtain ⟨k1, c1, m1, s1, s2, s3⟩ := st_of2 (pond_wf (RP_p hr)) (pd_n42 (RP_p hr)) (RP_st hr) ha
    obtain ⟨k2, c2, m2, t1, t2, t3⟩ := st_of2 (pond_wf (RP_p hr)) (pd_n42 (RP_p hr)) (RP_st hr) (show b < ns by omega)
    obtain ⟨σ1, r1, r2, r3⟩ := m_findMeet (d := d - 1) (x := x) (by omega) hs.2 (RP_pm hr) (RP_wy hr) s2 t2
    rw [← s3, ← t3, stA_SC hs, stA_SC hs] at r3
    have hs1 := SC_trans hs r2
    obtain ⟨σ', h1, go⟩ := m_fib hd h0 ha k (b + 1) (by omega) (fis (fun a b => mtv P (stA P σ0 a) (stA P σ0 b)) a b s) σ1 hs1
    refine ⟨σ', h1, fun r kk => ?_⟩
    have g := go r kk
    unfold fis at g
    simp only at g
    have e := mtv_is r3
    rw [← e] at g
    by_cases q0 : σ1.1 3717 = -9
    · rw [if_pos q0] at g
      exact vx_m_fib_p1 (σ1 := σ1) (by omega) nb q0 r1 (by rw [nI_1]; exact g)
    · rw [if_neg q0] at g
      by_cases q1 : s.2.2 = -9
      · rw [if_pos (Or.inl q1)] at g
        exact vx_m_fib_p2 (σ1 := σ1) (by omega) nb q0 q1 r1 (by rw [nI_1]; exact g)
      · by_cases q2 : s.2.2 ≤ σ1.1 3717
        · rw [if_neg (fun z => z.elim q1 (fun y => y q2))] at g
          exact vx_m_fib_p3 (σ1 := σ1) (by omega) nb q0 q1 q2 r1 (by rw [nI_1]; exact g)
        · rw [if_pos (Or.inr q2)] at g
          exact vx_m_fib_p4 (σ1 := σ1) (by omega) nb q0 q1 q2 r1 (by rw [nI_1]; exact g)
theorem m_fia (hd : 5 ≤ d) (h0 : RP P ns nw nr σ0) : ∀ (k a : Nat), a + k = ns → ∀ (s : Int32 × Int32 × Int32) (σ : mm_S), SC P σ0 σ → ∃ σ', SC P σ0 σ' ∧ mm_Runs d 117 (25, [some (.ref 37), some (.int w), some (.int s.1), some (.int s.2.1), some (.int s.2.2), some (.int (nI a)), none], [], HH x σ) (some (.int (fiw w (fiA (fun a b => mtv P (stA P σ0 a) (stA P σ0 b)) ns k a s))), HH x σ')
  | 0, a, ha, s, σ, hs => by
    have hr := RP_SC h0 hs
    have h8 := (RP_st hr).1
    have le : (σ.1 3713) ≤ (nI a) := by rw [(RP_st hr).2.2.1]; exact nI_le (by omega) (by omega)
    refine ⟨σ, hs, ?_⟩
    unfold fiA fiw
    by_cases w0 : w = 0
    · rw [if_pos w0]; exact vx_m_fia_p2 le w0
    · rw [if_neg w0]
      by_cases w1 : w = 1
      · rw [if_pos w1]; exact vx_m_fia_p1 le w0 w1
      · rw [if_neg w1]; exact vx_m_fia_p0 le w0 w1
  | k + 1, a, ha, s, σ, hs => by
    have hr := RP_SC h0 hs
    have h8 := (RP_st hr).1
    obtain ⟨σ1, h1, go⟩ := m_fib (x := x) (w := w) hd h0 (show a < ns by omega) (ns - (a + 1)) (a + 1) (by omega) s σ hs
    obtain ⟨σ', h2, r2⟩ := m_fia hd h0 k (a + 1) (by omega) _ σ1 h1
    exact ⟨σ', h2, vx_m_fia_p3 (by rw [(RP_st hr).2.2.1]; exact nI_ge (by omega) (by omega)) (by rw [nI_1]; exact go _ r2)⟩
end FI
theorem op_first : opI Rel i_X6_first i_X7_first 1 := by
  intro x σ as h hr
  obtain ⟨w, rfl⟩ := as_1 h
  obtain ⟨P, ns, nw, nr, hr⟩ := rel_RP.mp hr
  by_cases w1 : w < 0
  · exact ⟨-2, σ, σ, vx_fi0_p0 w1, vx_m_fi0_p1 (by decide) (fun z => z.1 w1), RP_rel hr⟩
  by_cases w2 : w ≤ 2
  · obtain ⟨σ1, s1, r1⟩ := c_fia (d := 999) (x := x) (w := w) (by omega) hr ns 0 (by omega) (-9, -9, -9) σ (SC_refl (RP_lk hr).2.2)
    obtain ⟨σ2, s2, r2⟩ := m_fia (d := 999) (x := x) (w := w) (by omega) hr ns 0 (by omega) (-9, -9, -9) σ1 s1
    exact ⟨_, σ1, σ2, vx_fi0_p1 w1 w2 r1, vx_m_fi0_p0 (by decide) ⟨w1, i_nlt.mpr w2⟩ r2, RP_rel (RP_SC hr s2)⟩
  · exact ⟨-2, σ, σ, vx_fi0_p2 w1 w2, vx_m_fi0_p1 (by decide) (fun z => w2 (i_nlt.mp z.2)), RP_rel hr⟩

