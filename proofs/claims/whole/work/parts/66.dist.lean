/-! walks; what is far never meets (written by wip/whole/t66.py) -/
def wk (P : pd_T) (a : Nat) : Nat → Nat → Prop
  | 0, b => b = a ∧ P.2.2 a = true
  | k + 1, b => ∃ c, wk P a k c ∧ pd_adj P c b = true ∧ P.2.2 b = true
section WK
variable {P : pd_T}
theorem wk_w2 {a b : Nat} : ∀ {k : Nat}, wk P a k b → P.2.2 b = true
  | 0, h => by rw [h.1]; exact h.2
  | k + 1, h => by obtain ⟨c, -, -, h⟩ := h; exact h
theorem wk_w1 {a b : Nat} : ∀ {k : Nat}, wk P a k b → P.2.2 a = true
  | 0, h => h.2
  | k + 1, h => by
    obtain ⟨c, h, -, -⟩ := h
    exact wk_w1 h
theorem wk_tr {a b c s : Nat} (h : wk P a s b) : ∀ {t : Nat}, wk P b t c → wk P a (s + t) c := by
  intro t
  induction t generalizing c with
  | zero => intro g; rw [g.1]; exact h
  | succ t ih =>
    rintro ⟨e, g1, g2, g3⟩
    exact ⟨e, ih g1, g2, g3⟩
theorem wk_1 {a b : Nat} (h : pd_adj P a b = true) (ha : P.2.2 a = true) (hb : P.2.2 b = true) : wk P a 1 b := ⟨a, ⟨rfl, ha⟩, h, hb⟩
theorem wk_sy {a : Nat} : ∀ {k b : Nat}, wk P a k b → wk P b k a
  | 0, b, h => by
    have e := h.1
    subst e
    exact h
  | k + 1, b, h => by
    obtain ⟨c, g1, g2, g3⟩ := h
    have := wk_tr (wk_1 (adj_sym g2) g3 (wk_w2 g1)) (wk_sy g1)
    rw [Nat.add_comm] at this
    exact this
theorem lay_wk {a : Nat} : ∀ {t b : Nat}, pd_lay P a t b = true → wk P a t b
  | 0, b, h => by
    rw [bf_0, Bool.and_eq_true, decide_eq_true_eq] at h
    exact h
  | t + 1, b, h => by
    obtain ⟨c, -, h1, h2⟩ := bf_pre h
    exact ⟨c, lay_wk h1, h2, bf_lw h⟩
theorem wk_lay (hw : pd_wf P) {a : Nat} : ∀ {k b : Nat}, wk P a k b → ∃ s, s ≤ k ∧ pd_lay P a s b = true
  | 0, b, h => ⟨0, Nat.le_refl _, by rw [bf_0, Bool.and_eq_true, decide_eq_true_eq]; exact h⟩
  | k + 1, b, h => by
    obtain ⟨c, g1, g2, g3⟩ := h
    obtain ⟨s, s1, s2⟩ := wk_lay hw g1
    obtain ⟨s', t1, t2⟩ := bf_see (bf_nxt hw s2 g2 g3)
    exact ⟨s', by omega, t2⟩
theorem mt_wk (hw : pd_wf P) {k1 k2 : Int32} {c1 c2 d : Nat} (h : pd_mt P k1 c1 k2 c2 d) : (∃ k, wk P c1 k c2) ∧ ∀ k, wk P c1 k c2 → d ≤ k := by
  obtain ⟨t, a, h | ⟨b, -, h1, h2, h3, h4⟩⟩ := h
  · have l1 := (th_lay h.1).1
    have l2 := (th_lay h.2).1
    refine ⟨⟨_, wk_tr (lay_wk l1) (wk_sy (lay_wk l2))⟩, fun k hk => ?_⟩
    obtain ⟨s, s1, s2⟩ := wk_lay hw (wk_tr hk (lay_wk l2))
    have := bf_uni l1 s2
    omega
  · have l1 := (th_lay h3).1
    have l2 := (th_lay h2).1
    refine ⟨⟨_, wk_tr (lay_wk l1) (wk_sy (lay_wk l2))⟩, fun k hk => ?_⟩
    obtain ⟨s, s1, s2⟩ := wk_lay hw (wk_tr hk (lay_wk l2))
    have := bf_uni l1 s2
    omega
/-! places on a circle -/
def CIR (P : pd_T) (S : Nat → Bool) (pos : Nat → Nat) (M : Nat) : Prop := ∀ s s', S s = true → S s' = true → pos s ≤ pos s' → pos s' ≤ M ∧ (0 < M → pos s' < M) ∧ (∃ j, j ≤ pos s' - pos s ∧ wk P s j s') ∧ (∃ j, j ≤ M - (pos s' - pos s) ∧ wk P s j s')
def sadd (S : Nat → Bool) (c : Nat) : Nat → Bool := fun e => S e || decide (e = c)
theorem sadd_iff {S : Nat → Bool} {c e : Nat} : sadd S c e = true ↔ (S e = true ∨ e = c) := by
  unfold sadd
  rw [Bool.or_eq_true, decide_eq_true_eq]
def pin (pos : Nat → Nat) (x c : Nat) : Nat → Nat := fun s => if s = c then x + 1 else if x < pos s then pos s + 2 else pos s
theorem CIR_add {S : Nat → Bool} {pos : Nat → Nat} {M u c : Nat} (h : CIR P S pos M) (hu : S u = true) (ha : pd_adj P u c = true) (hc : P.2.2 c = true) (hn : S c = false) : CIR P (sadd S c) (pin pos (pos u) c) (M + 2) := by
  obtain ⟨um, um0, ⟨j0, j1, j2⟩, -⟩ := h u u hu hu (Nat.le_refl _)
  have hwu := wk_w1 j2
  have uc := wk_1 ha hwu hc
  have cu := wk_sy uc
  have ne : ∀ s, S s = true → s ≠ c := fun s z y => by rw [y, hn] at z; cases z
  have pc : pin pos (pos u) c c = pos u + 1 := if_pos rfl
  have po : ∀ s, S s = true → pin pos (pos u) c s = if pos u < pos s then pos s + 2 else pos s := fun s z => if_neg (ne s z)
  intro s s' hs hs' hle
  rw [sadd_iff] at hs hs'
  rcases hs with hs | rfl
  · rcases hs' with hs' | rfl
    · rw [po s hs, po s' hs'] at hle ⊢
      have hle2 : pos s ≤ pos s' := by split at hle <;> split at hle <;> omega
      obtain ⟨a1, a2, ⟨j, b1, b2⟩, i, c1, c2⟩ := h s s' hs hs' hle2
      have hz : M = 0 → pos u = 0 := fun z => by omega
      refine ⟨?_, fun _ => ?_, ⟨j, ?_, b2⟩, ⟨i, ?_, c2⟩⟩
      · split <;> omega
      · split <;> omega
      · split <;> split <;> omega
      · split <;> split <;> omega
    · rw [po s hs, pc] at hle ⊢
      have hle2 : pos s ≤ pos u := by split at hle <;> omega
      rw [if_neg (by omega)]
      obtain ⟨a1, a2, ⟨j, b1, b2⟩, i, c1, c2⟩ := h s u hs hu hle2
      exact ⟨by omega, fun _ => by omega, ⟨j + 1, by omega, wk_tr b2 uc⟩, ⟨i + 1, by omega, wk_tr c2 uc⟩⟩
  · rcases hs' with hs' | rfl
    · rw [po s' hs', pc] at hle ⊢
      have hle2 : pos u < pos s' := by split at hle <;> omega
      rw [if_pos hle2]
      obtain ⟨a1, a2, ⟨j, b1, b2⟩, i, c1, c2⟩ := h u s' hu hs' (by omega)
      have := a2 (by omega)
      exact ⟨by omega, fun _ => by omega, ⟨1 + j, by omega, wk_tr cu b2⟩, ⟨1 + i, by omega, wk_tr cu c2⟩⟩
    · rw [pc]
      exact ⟨by omega, fun _ => by omega, ⟨0, by omega, rfl, hc⟩, ⟨0, by omega, rfl, hc⟩⟩
/-! how far from a set -/
def ls (P : pd_T) (S : Nat → Bool) (k c : Nat) : Prop := (∃ s, S s = true ∧ wk P s k c) ∧ ∀ j, j < k → ¬ ∃ s, S s = true ∧ wk P s j c
theorem ls_uni {S : Nat → Bool} {k j c : Nat} (h : ls P S k c) (g : ls P S j c) : k = j := by
  rcases Nat.lt_trichotomy k j with q | q | q
  · exact absurd h.1 (g.2 k q)
  · exact q
  · exact absurd g.1 (h.2 j q)
theorem ls_0 {S : Nat → Bool} {c : Nat} (h : ls P S 0 c) : S c = true := by
  obtain ⟨⟨s, s1, s2⟩, -⟩ := h
  rw [s2.1]; exact s1
theorem ls_in {S : Nat → Bool} {c : Nat} (h : S c = true) (hw : P.2.2 c = true) : ls P S 0 c := ⟨⟨c, h, rfl, hw⟩, fun j hj => absurd hj (by omega)⟩
theorem ls_ex {S : Nat → Bool} {c : Nat} : ∀ {k : Nat}, (∃ s, S s = true ∧ wk P s k c) → ∃ j, ls P S j c := by
  intro k
  induction k using Nat.strongRecOn with
  | ind k ih =>
    intro h
    by_cases z : ∃ j, j < k ∧ ∃ s, S s = true ∧ wk P s j c
    · obtain ⟨j, j1, j2⟩ := z
      exact ih j j1 j2
    · exact ⟨k, h, fun j hj y => z ⟨j, hj, y⟩⟩
theorem ls_adj {S : Nat → Bool} {k j c e : Nat} (h : ls P S k c) (g : ls P S j e) (ha : pd_adj P c e = true) : j ≤ k + 1 ∧ k ≤ j + 1 := by
  obtain ⟨⟨s, s1, s2⟩, s3⟩ := h
  obtain ⟨⟨t, t1, t2⟩, t3⟩ := g
  refine ⟨?_, ?_⟩
  · rcases Nat.lt_or_ge (k + 1) j with q | q
    · exact absurd ⟨s, s1, c, s2, ha, wk_w2 t2⟩ (t3 (k + 1) q)
    · exact q
  · rcases Nat.lt_or_ge (j + 1) k with q | q
    · exact absurd ⟨t, t1, e, t2, adj_sym ha, wk_w2 s2⟩ (s3 (j + 1) q)
    · exact q
theorem ls_pre {S : Nat → Bool} {k c : Nat} (h : ls P S (k + 1) c) : ∃ e, ls P S k e ∧ pd_adj P e c = true ∧ P.2.2 c = true := by
  obtain ⟨⟨s, s1, e, s2, s3, s4⟩, t⟩ := h
  exact ⟨e, ⟨⟨s, s1, s2⟩, fun j hj ⟨s', y1, y2⟩ => t (j + 1) (by omega) ⟨s', y1, e, y2, s3, s4⟩⟩, s3, s4⟩
theorem cnt_add {S : Nat → Bool} {c N : Nat} (h : S c = false) (hc : c < N) : cnt (sadd S c) N = cnt S N + 1 := by
  refine (cnt_clear (f := sadd S c) (g := S) (i := c) ?_ h (fun k hk => ?_) hc).symm
  · rw [sadd_iff]; exact Or.inr rfl
  · unfold sadd; simp [hk]
/-- a way from a set to a cell is laid -/
theorem add_path {S : Nat → Bool} {pos : Nat → Nat} {M N : Nat} (hN : ∀ c, P.2.2 c = true → c < N) (hw : ∀ e, S e = true → P.2.2 e = true) (hC : CIR P S pos M) : ∀ (k c : Nat), ls P S k c → ∃ (S' : Nat → Bool) (pos' : Nat → Nat), CIR P S' pos' (M + 2 * k) ∧ cnt S' N = cnt S N + k ∧ (∀ e, S e = true → S' e = true) ∧ S' c = true ∧ (∀ e, S' e = true → ∃ j, j ≤ k ∧ ls P S j e) ∧ ∀ e e' j, S' e = true → S' e' = true → ls P S j e → ls P S j e' → 1 ≤ j → e = e'
  | 0, c, h => ⟨S, pos, hC, rfl, fun _ z => z, ls_0 h, fun e z => ⟨0, Nat.le_refl _, ls_in z (hw e z)⟩, fun e e' j h1 h2 h3 h4 h5 => by
      have := ls_uni h3 (ls_in h1 (hw e h1))
      omega⟩
  | k + 1, c, h => by
    obtain ⟨e0, g1, g2, g3⟩ := ls_pre h
    obtain ⟨S1, pos1, a1, a2, a3, a4, a5, a6⟩ := add_path hN hw hC k e0 g1
    have nc : S1 c = false := by
      cases hv : S1 c with
      | false => rfl
      | true =>
        obtain ⟨j, j1, j2⟩ := a5 c hv
        have := ls_uni h j2
        omega
    refine ⟨sadd S1 c, pin pos1 (pos1 e0) c, CIR_add a1 a4 g2 g3 nc, ?_, fun e z => sadd_iff.mpr (Or.inl (a3 e z)), sadd_iff.mpr (Or.inr rfl), fun e z => ?_, fun e e' j h1 h2 h3 h4 h5 => ?_⟩
    · rw [cnt_add nc (hN c g3), a2]; omega
    · rcases sadd_iff.mp z with z | rfl
      · obtain ⟨j, j1, j2⟩ := a5 e z
        exact ⟨j, by omega, j2⟩
      · exact ⟨k + 1, Nat.le_refl _, h⟩
    · rcases sadd_iff.mp h1 with z1 | rfl
      · rcases sadd_iff.mp h2 with z2 | rfl
        · exact a6 e e' j z1 z2 h3 h4 h5
        · exfalso
          obtain ⟨i, i1, i2⟩ := a5 e z1
          have := ls_uni h4 h
          have := ls_uni h3 i2
          omega
      · rcases sadd_iff.mp h2 with z2 | rfl
        · exfalso
          obtain ⟨i, i1, i2⟩ := a5 e' z2
          have := ls_uni h3 h
          have := ls_uni h4 i2
          omega
        · rfl
/-! windows of two rows -/
def wj (j : Nat) : Nat := 14 * (j / 6) + j % 6
def fw4 (S : Nat → Bool) (j : Nat) : Bool := S (wj j) && S (wj j + 1) && S (wj j + 7) && S (wj j + 8)
theorem fw4_iff {S : Nat → Bool} {j : Nat} : fw4 S j = true ↔ (S (wj j) = true ∧ S (wj j + 1) = true ∧ S (wj j + 7) = true ∧ S (wj j + 8) = true) := by
  unfold fw4
  simp only [Bool.and_eq_true]
  exact ⟨fun z => ⟨z.1.1.1, z.1.1.2, z.1.2, z.2⟩, fun z => ⟨⟨⟨z.1, z.2.1⟩, z.2.2.1⟩, z.2.2.2⟩⟩
theorem wj_m : ∀ j, j < 18 → (wj j + 1) % 7 ≠ 0 ∧ (wj j + 8) % 7 ≠ 0 := by decide +kernel
theorem adj_r {a : Nat} (h7 : P.2.1 = 7) (hm : (a + 1) % 7 ≠ 0) : pd_adj P a (a + 1) = true := by
  unfold pd_adj
  rw [h7]
  simp [hm]
theorem adj_d {a : Nat} (h7 : P.2.1 = 7) : pd_adj P a (a + 7) = true := by
  unfold pd_adj
  rw [h7]
  simp
theorem wj_adj (h7 : P.2.1 = 7) {j : Nat} (hj : j < 18) : pd_adj P (wj j) (wj j + 1) = true ∧ pd_adj P (wj j) (wj j + 7) = true ∧ pd_adj P (wj j + 1) (wj j + 8) = true ∧ pd_adj P (wj j + 7) (wj j + 8) = true := by
  obtain ⟨m1, m2⟩ := wj_m j hj
  exact ⟨adj_r h7 m1, adj_d h7, adj_d (a := wj j + 1) h7, adj_r (a := wj j + 7) h7 m2⟩
def inw (q j : Nat) : Bool := decide (q = wj j) || decide (q = wj j + 1) || decide (q = wj j + 7) || decide (q = wj j + 8)
theorem inw_2 : ∀ q, q < 42 → cnt (inw q) 18 ≤ 2 := by decide +kernel
theorem inw_3 : ∀ j, j < 18 → ∀ i, i < 18 → ∀ q, q < 42 → (!(decide (j < i) && inw q j && inw q i) || (decide (wj i = wj j + 1) && (decide (q = wj j + 1) || decide (q = wj j + 8)))) = true := by decide +kernel
theorem inw_2' {j i q : Nat} (hj : j < 18) (hi : i < 18) (hji : j < i) (hq : q < 42) (h1 : inw q j = true) (h2 : inw q i = true) : wj i = wj j + 1 ∧ (q = wj j + 1 ∨ q = wj j + 8) := by
  have := inw_3 j hj i hi q hq
  rw [h1, h2] at this
  simpa [hji] using this
theorem wj_42 : ∀ j, j < 18 → wj j + 8 < 42 := by decide +kernel
theorem cnt_or {f g h : Nat → Bool} : ∀ {n : Nat}, (∀ k, k < n → f k = true → g k = true ∨ h k = true) → cnt f n ≤ cnt g n + cnt h n
  | 0, _ => Nat.le_refl _
  | n + 1, z => by
    have ih := cnt_or (n := n) (fun k hk => z k (by omega))
    show cnt f n + (if f n = true then 1 else 0) ≤ cnt g n + (if g n = true then 1 else 0) + (cnt h n + (if h n = true then 1 else 0))
    by_cases y : f n = true
    · rw [if_pos y]
      rcases z n (by omega) y with w | w
      · rw [if_pos w]; omega
      · rw [if_pos w]; omega
    · rw [if_neg y]; omega
theorem cnt_1 {f : Nat → Bool} : ∀ {n : Nat}, (∀ i j, i < j → j < n → f i = true → f j = true → False) → cnt f n ≤ 1
  | 0, _ => Nat.zero_le _
  | n + 1, z => by
    show cnt f n + (if f n = true then 1 else 0) ≤ 1
    by_cases y : f n = true
    · rw [if_pos y, cnt_0 (fun k hk => by
        cases hv : f k with
        | false => rfl
        | true => exact absurd (z k n hk (by omega) hv y) (by simp))]
      omega
    · rw [if_neg y]
      have := cnt_1 (n := n) (f := f) (fun i j hij hj => z i j hij (by omega))
      omega
theorem quad0 {l1 l2 l3 l4 : Nat} (n12 : l2 ≤ l1 + 1 ∧ l1 ≤ l2 + 1) (n13 : l3 ≤ l1 + 1 ∧ l1 ≤ l3 + 1) (n24 : l4 ≤ l2 + 1 ∧ l2 ≤ l4 + 1) (n34 : l4 ≤ l3 + 1 ∧ l3 ≤ l4 + 1) (d12 : l1 ≠ l2) (d13 : l1 ≠ l3) (d14 : l1 ≠ l4) (d23 : l2 ≠ l3) : False := by
  rcases Nat.lt_or_gt_of_ne d12 with z | z <;> rcases Nat.lt_or_gt_of_ne d13 with y | y <;> omega
theorem quad {l1 l2 l3 l4 : Nat} (n12 : l2 ≤ l1 + 1 ∧ l1 ≤ l2 + 1) (n13 : l3 ≤ l1 + 1 ∧ l1 ≤ l3 + 1) (n24 : l4 ≤ l2 + 1 ∧ l2 ≤ l4 + 1) (n34 : l4 ≤ l3 + 1 ∧ l3 ≤ l4 + 1) (d12 : l1 = l2 → l1 = 0) (d13 : l1 = l3 → l1 = 0) (d14 : l1 = l4 → l1 = 0) (d23 : l2 = l3 → l2 = 0) (d24 : l2 = l4 → l2 = 0) (d34 : l3 = l4 → l3 = 0) (nz : ¬ (l1 = 0 ∧ l2 = 0 ∧ l3 = 0 ∧ l4 = 0)) : (l1 = 1 ∧ l2 = 0 ∧ l3 = 0 ∧ l4 = 0) ∨ (l1 = 0 ∧ l2 = 1 ∧ l3 = 0 ∧ l4 = 0) ∨ (l1 = 0 ∧ l2 = 0 ∧ l3 = 1 ∧ l4 = 0) ∨ (l1 = 0 ∧ l2 = 0 ∧ l3 = 0 ∧ l4 = 1) := by
  rcases Nat.eq_zero_or_pos l1 with z1 | z1
  · rcases Nat.eq_zero_or_pos l2 with z2 | z2
    · rcases Nat.eq_zero_or_pos l3 with z3 | z3
      · subst z1; subst z2; subst z3
        exact Or.inr (Or.inr (Or.inr ⟨rfl, rfl, rfl, by omega⟩))
      · subst z1; subst z2
        clear d12 d23 d14 d24 nz
        have e3 : l3 = 1 := by omega
        subst e3
        have : l4 ≠ 1 := fun y => absurd (d34 y.symm) (by decide)
        exact Or.inr (Or.inr (Or.inl ⟨rfl, rfl, rfl, by omega⟩))
    · subst z1
      have e2 : l2 = 1 := by omega
      subst e2
      have h4 : l4 ≠ 1 := fun y => absurd (d24 y.symm) (by decide)
      have h3 : l3 ≠ 1 := fun y => absurd (d23 y.symm) (by decide)
      exact Or.inr (Or.inl ⟨rfl, rfl, by omega, by omega⟩)
  · have h2 : l1 ≠ l2 := fun y => by have := d12 y; omega
    have h3 : l1 ≠ l3 := fun y => by have := d13 y; omega
    have h4 : l1 ≠ l4 := fun y => by have := d14 y; omega
    rcases Nat.eq_zero_or_pos l2 with z2 | z2
    · have e1 : l1 = 1 := by omega
      subst e1; subst z2
      rcases Nat.eq_zero_or_pos l3 with z3 | z3
      · subst z3
        exact Or.inl ⟨rfl, rfl, rfl, by omega⟩
      · exfalso; omega
    · rcases Nat.eq_zero_or_pos l3 with z3 | z3
      · exfalso
        have e1 : l1 = 1 := by omega
        subst e1; subst z3
        clear d12 d13 d14 d23 d34 nz
        omega
      · exfalso
        have h5 : l2 ≠ l3 := fun y => by have := d23 y; omega
        exact quad0 n12 n13 n24 n34 h2 h3 h4 h5
/-- a window that is new has the way's first cell, the others are old -/
theorem new_win {S S' : Nat → Bool} {k j : Nat} (h7 : P.2.1 = 7) (hj : j < 18) (hw : ∀ e, S e = true → P.2.2 e = true) (h5 : ∀ e, S' e = true → ∃ j, j ≤ k ∧ ls P S j e) (h6 : ∀ e e' j, S' e = true → S' e' = true → ls P S j e → ls P S j e' → 1 ≤ j → e = e') (hf : fw4 S' j = true) (hn : fw4 S j = false) : ∃ q, inw q j = true ∧ S' q = true ∧ ls P S 1 q ∧ ∀ e, inw e j = true → e ≠ q → S e = true := by
  obtain ⟨f1, f2, f3, f4⟩ := fw4_iff.mp hf
  obtain ⟨a1, a2, a3, a4⟩ := wj_adj h7 hj
  obtain ⟨l1, -, e1⟩ := h5 _ f1
  obtain ⟨l2, -, e2⟩ := h5 _ f2
  obtain ⟨l3, -, e3⟩ := h5 _ f3
  obtain ⟨l4, -, e4⟩ := h5 _ f4
  have n12 := ls_adj e1 e2 a1
  have n13 := ls_adj e1 e3 a2
  have n24 := ls_adj e2 e4 a3
  have n34 := ls_adj e3 e4 a4
  have d12 : l1 = l2 → l1 = 0 := fun z => Classical.byContradiction fun y => by have := h6 _ _ l1 f1 f2 e1 (z ▸ e2) (by omega); omega
  have d13 : l1 = l3 → l1 = 0 := fun z => Classical.byContradiction fun y => by have := h6 _ _ l1 f1 f3 e1 (z ▸ e3) (by omega); omega
  have d14 : l1 = l4 → l1 = 0 := fun z => Classical.byContradiction fun y => by have := h6 _ _ l1 f1 f4 e1 (z ▸ e4) (by omega); omega
  have d23 : l2 = l3 → l2 = 0 := fun z => Classical.byContradiction fun y => by have := h6 _ _ l2 f2 f3 e2 (z ▸ e3) (by omega); omega
  have d24 : l2 = l4 → l2 = 0 := fun z => Classical.byContradiction fun y => by have := h6 _ _ l2 f2 f4 e2 (z ▸ e4) (by omega); omega
  have d34 : l3 = l4 → l3 = 0 := fun z => Classical.byContradiction fun y => by have := h6 _ _ l3 f3 f4 e3 (z ▸ e4) (by omega); omega
  have nz : ¬ (l1 = 0 ∧ l2 = 0 ∧ l3 = 0 ∧ l4 = 0) := fun ⟨z1, z2, z3, z4⟩ => by
    subst z1; subst z2; subst z3; subst z4
    rw [fw4_iff.mpr ⟨ls_0 e1, ls_0 e2, ls_0 e3, ls_0 e4⟩] at hn
    cases hn
  have key : (l1 = 1 ∧ l2 = 0 ∧ l3 = 0 ∧ l4 = 0) ∨ (l1 = 0 ∧ l2 = 1 ∧ l3 = 0 ∧ l4 = 0) ∨ (l1 = 0 ∧ l2 = 0 ∧ l3 = 1 ∧ l4 = 0) ∨ (l1 = 0 ∧ l2 = 0 ∧ l3 = 0 ∧ l4 = 1) := by
    exact quad n12 n13 n24 n34 d12 d13 d14 d23 d24 d34 nz
  have cs : ∀ e, inw e j = true → e = wj j ∨ e = wj j + 1 ∨ e = wj j + 7 ∨ e = wj j + 8 := fun e z => by
    unfold inw at z
    simp only [Bool.or_eq_true, decide_eq_true_eq] at z
    omega
  have ci : ∀ e, (e = wj j ∨ e = wj j + 1 ∨ e = wj j + 7 ∨ e = wj j + 8) → inw e j = true := fun e z => by
    unfold inw
    simp only [Bool.or_eq_true, decide_eq_true_eq]
    omega
  rcases key with ⟨rfl, rfl, rfl, rfl⟩ | ⟨rfl, rfl, rfl, rfl⟩ | ⟨rfl, rfl, rfl, rfl⟩ | ⟨rfl, rfl, rfl, rfl⟩
  · exact ⟨_, ci _ (Or.inl rfl), f1, e1, fun e z y => by
      rcases cs e z with rfl | rfl | rfl | rfl
      · exact absurd rfl y
      · exact ls_0 e2
      · exact ls_0 e3
      · exact ls_0 e4⟩
  · exact ⟨_, ci _ (Or.inr (Or.inl rfl)), f2, e2, fun e z y => by
      rcases cs e z with rfl | rfl | rfl | rfl
      · exact ls_0 e1
      · exact absurd rfl y
      · exact ls_0 e3
      · exact ls_0 e4⟩
  · exact ⟨_, ci _ (Or.inr (Or.inr (Or.inl rfl))), f3, e3, fun e z y => by
      rcases cs e z with rfl | rfl | rfl | rfl
      · exact ls_0 e1
      · exact ls_0 e2
      · exact absurd rfl y
      · exact ls_0 e4⟩
  · exact ⟨_, ci _ (Or.inr (Or.inr (Or.inr rfl))), f4, e4, fun e z y => by
      rcases cs e z with rfl | rfl | rfl | rfl
      · exact ls_0 e1
      · exact ls_0 e2
      · exact ls_0 e3
      · exact absurd rfl y⟩
theorem win_2 {S S' : Nat → Bool} {k : Nat} (h7 : P.2.1 = 7) (hw : ∀ e, S e = true → P.2.2 e = true) (h5 : ∀ e, S' e = true → ∃ j, j ≤ k ∧ ls P S j e) (h6 : ∀ e e' j, S' e = true → S' e' = true → ls P S j e → ls P S j e' → 1 ≤ j → e = e') : cnt (fw4 S') 18 ≤ cnt (fw4 S) 18 + 2 := by
  by_cases z : ∃ j, j < 18 ∧ fw4 S' j = true ∧ fw4 S j = false
  · obtain ⟨j, j1, j2, j3⟩ := z
    obtain ⟨q, q1, q2, q3, q4⟩ := new_win h7 j1 hw h5 h6 j2 j3
    have hq : q < 42 := by
      have := wj_42 j j1
      unfold inw at q1
      simp only [Bool.or_eq_true, decide_eq_true_eq] at q1
      omega
    have := inw_2 q hq
    have h2 : cnt (fw4 S') 18 ≤ cnt (fw4 S) 18 + cnt (inw q) 18 := cnt_or (fun i hi y => by
      cases hv : fw4 S i with
      | true => exact Or.inl rfl
      | false =>
        obtain ⟨q', y1, y2, y3, y4⟩ := new_win h7 hi hw h5 h6 y hv
        have e : q' = q := h6 q' q 1 y2 q2 y3 q3 (Nat.le_refl _)
        subst e
        exact Or.inr y1)
    omega
  · have h2 : cnt (fw4 S') 18 ≤ cnt (fw4 S) 18 + cnt (fun _ => false) 18 := cnt_or (fun i hi y => by
      cases hv : fw4 S i with
      | true => exact Or.inl rfl
      | false => exact absurd ⟨i, hi, y, hv⟩ z)
    rw [cnt_0 (f := fun _ => false) (fun _ _ => rfl)] at h2
    omega
/-- cells of which no two are equally far from the root -/
def PL (P : pd_T) (R S : Nat → Bool) : Prop := (∀ e, S e = true → ∃ j, ls P R j e) ∧ ∀ e e' j, S e = true → S e' = true → ls P R j e → ls P R j e' → e = e'
theorem PL_0 {R S : Nat → Bool} (h7 : P.2.1 = 7) (h : PL P R S) : cnt (fw4 S) 18 = 0 := by
  refine cnt_0 (fun j hj => ?_)
  cases hv : fw4 S j with
  | false => rfl
  | true =>
    exfalso
    obtain ⟨f1, f2, f3, f4⟩ := fw4_iff.mp hv
    obtain ⟨a1, a2, a3, a4⟩ := wj_adj h7 hj
    obtain ⟨l1, e1⟩ := h.1 _ f1
    obtain ⟨l2, e2⟩ := h.1 _ f2
    obtain ⟨l3, e3⟩ := h.1 _ f3
    obtain ⟨l4, e4⟩ := h.1 _ f4
    have n12 := ls_adj e1 e2 a1
    have n13 := ls_adj e1 e3 a2
    have n24 := ls_adj e2 e4 a3
    have n34 := ls_adj e3 e4 a4
    have d12 : l1 ≠ l2 := fun z => by have := h.2 _ _ l1 f1 f2 e1 (z ▸ e2); omega
    have d13 : l1 ≠ l3 := fun z => by have := h.2 _ _ l1 f1 f3 e1 (z ▸ e3); omega
    have d14 : l1 ≠ l4 := fun z => by have := h.2 _ _ l1 f1 f4 e1 (z ▸ e4); omega
    have d23 : l2 ≠ l3 := fun z => by have := h.2 _ _ l2 f2 f3 e2 (z ▸ e3); omega
    exact quad0 n12 n13 n24 n34 d12 d13 d14 d23
theorem five {lA lB lC lD lE lq : Nat} (h1 : lB ≤ lA + 1 ∧ lA ≤ lB + 1) (h2 : lC ≤ lB + 1 ∧ lB ≤ lC + 1) (h3 : lD ≤ lC + 1 ∧ lC ≤ lD + 1) (h4 : lE ≤ lD + 1 ∧ lD ≤ lE + 1) (h5 : lq ≤ lA + 1 ∧ lA ≤ lq + 1) (h6 : lq ≤ lE + 1 ∧ lE ≤ lq + 1) (n1 : lA ≠ lB) (n2 : lB ≠ lC) (n3 : lC ≠ lD) (n4 : lD ≠ lE) (n5 : lA ≠ lC) (n6 : lB ≠ lD) (n7 : lC ≠ lE) : False := by
  rcases Nat.lt_or_gt_of_ne n1 with z | z <;> rcases Nat.lt_or_gt_of_ne n2 with y | y <;> rcases Nat.lt_or_gt_of_ne n3 with w | w <;> rcases Nat.lt_or_gt_of_ne n4 with v | v <;> omega
theorem PL_win {R S S' : Nat → Bool} {k : Nat} (h7 : P.2.1 = 7) (h : PL P R S) (hw : ∀ e, S e = true → P.2.2 e = true) (h5 : ∀ e, S' e = true → ∃ j, j ≤ k ∧ ls P S j e) (h6 : ∀ e e' j, S' e = true → S' e' = true → ls P S j e → ls P S j e' → 1 ≤ j → e = e') : cnt (fw4 S') 18 ≤ 1 := by
  refine cnt_1 (fun i j hij hj hi1 hj1 => ?_)
  have z0 := PL_0 h7 h
  have old : ∀ m, m < 18 → fw4 S m = false := fun m hm => by
    cases hv : fw4 S m with
    | false => rfl
    | true =>
      exfalso
      have key : ∀ n, m < n → 1 ≤ cnt (fw4 S) n := fun n hn => by
        induction n with
        | zero => omega
        | succ n ih =>
          show 1 ≤ cnt (fw4 S) n + (if fw4 S n = true then 1 else 0)
          rcases Nat.lt_or_ge m n with q | q
          · have := ih q; omega
          · rw [show n = m by omega, if_pos hv]; omega
      have := key 18 hm
      omega
  obtain ⟨q, q1, q2, q3, q4⟩ := new_win h7 (show i < 18 by omega) hw h5 h6 hi1 (old i (by omega))
  obtain ⟨q', y1, y2, y3, y4⟩ := new_win h7 hj hw h5 h6 hj1 (old j hj)
  have e : q' = q := h6 q' q 1 y2 q2 y3 q3 (Nat.le_refl _)
  subst e
  have hq : q' < 42 := by
    have := wj_42 j hj
    unfold inw at y1
    simp only [Bool.or_eq_true, decide_eq_true_eq] at y1
    omega
  obtain ⟨w1, w2⟩ := inw_2' (show i < 18 by omega) hj hij hq q1 y1
  obtain ⟨a1, a2, a3, a4⟩ := wj_adj h7 (show i < 18 by omega)
  obtain ⟨b1, b2, b3, b4⟩ := wj_adj h7 hj
  rw [w1] at b1 b2 b3 b4
  have ii : ∀ e, (e = wj i ∨ e = wj i + 1 ∨ e = wj i + 7 ∨ e = wj i + 8) → inw e i = true := fun e z => by
    unfold inw
    simp only [Bool.or_eq_true, decide_eq_true_eq]
    omega
  have ij : ∀ e, (e = wj i + 1 ∨ e = wj i + 2 ∨ e = wj i + 8 ∨ e = wj i + 9) → inw e j = true := fun e z => by
    unfold inw
    simp only [Bool.or_eq_true, decide_eq_true_eq]
    omega
  have qlv : ∃ l, ls P R l q' := by
    obtain ⟨⟨s, s1, s2⟩, -⟩ := q3
    obtain ⟨l, l1⟩ := h.1 s s1
    obtain ⟨⟨r, r1, r2⟩, -⟩ := l1
    exact ls_ex ⟨r, r1, wk_tr r2 s2⟩
  obtain ⟨lq, eq⟩ := qlv
  rcases w2 with rfl | rfl
  · have sA := q4 (wj i) (ii _ (by omega)) (by omega)
    have sB := q4 (wj i + 7) (ii _ (by omega)) (by omega)
    have sC := q4 (wj i + 8) (ii _ (by omega)) (by omega)
    have sD := y4 (wj i + 9) (ij _ (by omega)) (by omega)
    have sE := y4 (wj i + 2) (ij _ (by omega)) (by omega)
    obtain ⟨lA, eA⟩ := h.1 _ sA
    obtain ⟨lB, eB⟩ := h.1 _ sB
    obtain ⟨lC, eC⟩ := h.1 _ sC
    obtain ⟨lD, eD⟩ := h.1 _ sD
    obtain ⟨lE, eE⟩ := h.1 _ sE
    have ne : ∀ {u v lu lv : Nat}, S u = true → S v = true → ls P R lu u → ls P R lv v → u ≠ v → lu ≠ lv := fun su sv eu ev huv z => huv (h.2 _ _ _ su sv eu (z ▸ ev))
    exact five (ls_adj eA eB a2) (ls_adj eB eC a4) (ls_adj eC eD b4) (ls_adj eD eE (adj_sym b3)) (ls_adj eA eq a1) (ls_adj eE eq (adj_sym b1)) (ne sA sB eA eB (by omega)) (ne sB sC eB eC (by omega)) (ne sC sD eC eD (by omega)) (ne sD sE eD eE (by omega)) (ne sA sC eA eC (by omega)) (ne sB sD eB eD (by omega)) (ne sC sE eC eE (by omega))
  · have sA := q4 (wj i + 7) (ii _ (by omega)) (by omega)
    have sB := q4 (wj i) (ii _ (by omega)) (by omega)
    have sC := q4 (wj i + 1) (ii _ (by omega)) (by omega)
    have sD := y4 (wj i + 2) (ij _ (by omega)) (by omega)
    have sE := y4 (wj i + 9) (ij _ (by omega)) (by omega)
    obtain ⟨lA, eA⟩ := h.1 _ sA
    obtain ⟨lB, eB⟩ := h.1 _ sB
    obtain ⟨lC, eC⟩ := h.1 _ sC
    obtain ⟨lD, eD⟩ := h.1 _ sD
    obtain ⟨lE, eE⟩ := h.1 _ sE
    have ne : ∀ {u v lu lv : Nat}, S u = true → S v = true → ls P R lu u → ls P R lv v → u ≠ v → lu ≠ lv := fun su sv eu ev huv z => huv (h.2 _ _ _ su sv eu (z ▸ ev))
    exact five (ls_adj eA eB (adj_sym a2)) (ls_adj eB eC a1) (ls_adj eC eD b1) (ls_adj eD eE b3) (ls_adj eA eq a4) (ls_adj eE eq (adj_sym b4)) (ne sA sB eA eB (by omega)) (ne sB sC eB eC (by omega)) (ne sC sD eC eD (by omega)) (ne sD sE eD eE (by omega)) (ne sA sC eA eC (by omega)) (ne sB sD eB eD (by omega)) (ne sC sE eC eE (by omega))
end WK

