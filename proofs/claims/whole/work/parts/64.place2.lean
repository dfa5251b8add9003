/-! placing wishes, in the class; sunset (written by wip/whole/t64.py) -/
theorem ub_2 (σ : mm_S) (q : Nat) (f g : Nat → Int64) : ub (ub σ q f) q g = ub σ q g := by
  unfold ub
  simp only [mm_up_up]
theorem tb_n : ∀ n, n < 7 → ∀ s, s < 2 ^ n → ∀ a, a < 6 → tb s a = true → a < n := by decide +kernel
def low6 (s : Nat) : Nat := if s % 2 = 1 then 0 else if s / 2 % 2 = 1 then 1 else if s / 4 % 2 = 1 then 2 else if s / 8 % 2 = 1 then 3 else if s / 16 % 2 = 1 then 4 else 5
theorem low6_ok : ∀ s, s < 64 → ¬ s = 0 → lowb (nI s).toInt64 = nI (low6 s) ∧ low6 s < 6 ∧ tb s (low6 s) = true := by decide +kernel
theorem del_ok : ∀ s, s < 64 → ∀ w, w < 6 → tb s w = true → (nI s &&& (((1 : Int32) <<< (nI w &&& 31)) ^^^ (-1 : Int32))) = nI (s - 2 ^ w) ∧ pc6 (s - 2 ^ w) + 1 = pc6 s := by decide +kernel
theorem del_tb : ∀ s, s < 64 → ∀ w, w < 6 → tb s w = true → ∀ e, e < 6 → tb (s - 2 ^ w) e = (tb s e && !decide (e = w)) := by decide +kernel
theorem pc6_0 : ∀ s, s < 64 → pc6 s = 0 → s = 0 := by decide +kernel
theorem pc6_6 : ∀ s, s < 64 → pc6 s ≤ 6 := by decide +kernel
section CP
variable {d : Nat} {x : Nat × (Nat → Int32)} {P : pd_T} {σ : mm_S} {n : Nat}
/-- what the class knows of each two -/
def tiX (P : pd_T) (σ : mm_S) (n : Nat) : Prop := ∀ i j, i < n → j < n → i ≠ j → tiA P (kkc σ) (σ.2.2.1 22) (σ.2.2.2 30) (σ.2.2.2 31) i j
def tkn (A B : Int64) (m : Int32) : Int64 := (A <<< (Int32.toInt64 m &&& 63)) ||| ((Int64.toUInt64 B >>> ((Int32.toInt64 ((63 : Int32) - m)).toUInt64 &&& Int64.toUInt64 63)).toInt64)
theorem tkn_bt {w e m : Nat} (ht : tiX P σ n) (hw : w < n) (he : e < n) (hwe : w ≠ e) (hm : m < 64) (m' : Nat) (hm' : m' < 64) : bt (tkn (σ.2.2.2 30 (6 * w + e)) (σ.2.2.2 31 (6 * w + e)) (nI m)) m' = true ↔ CF P (kkc σ) (ccc σ) w e m m' := by
  unfold tkn
  rw [show (63 : Int32) - nI m = nI (63 - m) from pk_sub (a := 63) (by omega), bt_or, bt_shl _ hm hm', bt_ushr _ (by omega), Bool.or_eq_true, Bool.and_eq_true, decide_eq_true_eq]
  have h1 := fun k (hk : k < 64) => (ht w e hw he hwe k hk).1
  have h2 := fun k (hk : k < 64) => (ht e w he hw (Ne.symm hwe) k hk).2
  unfold CF
  rcases Nat.lt_trichotomy m m' with q | q | q
  · rw [bt_big (show 64 ≤ 63 - m + m' by omega)]
    constructor
    · rintro (z | z)
      · exact Or.inl ⟨by omega, (h1 _ (by omega)).mp z.2⟩
      · cases z
    · rintro (z | z)
      · exact Or.inl ⟨by omega, (h1 _ (by omega)).mpr z.2⟩
      · omega
  · subst q
    constructor
    · rintro (z | z)
      · exact Or.inl ⟨by omega, (h1 _ (by omega)).mp z.2⟩
      · have := (h2 0 (by omega)).mp (by rw [show 63 - 0 = 63 - m + m by omega]; exact z)
        refine Or.inl ⟨Nat.le_refl _, ?_⟩
        rw [Nat.sub_self]; exact mt_0.mp this
    · rintro (z | z)
      · exact Or.inl ⟨by omega, (h1 _ (by omega)).mpr z.2⟩
      · omega
  · constructor
    · rintro (z | z)
      · omega
      · refine Or.inr ⟨q, (h2 (m - m') (by omega)).mp ?_⟩
        rw [show 63 - (m - m') = 63 - m + m' by omega]; exact z
    · rintro (z | z)
      · omega
      · have := (h2 (m - m') (by omega)).mpr z.2
        rw [show 63 - (m - m') = 63 - m + m' by omega] at this
        exact Or.inr this
theorem rest_bt {w e m : Nat} (ht : tiX P σ n) (hw : w < n) (he : e < n) (hwe : w ≠ e) (hm : m < 64) (X : Int64) (m' : Nat) : bt (X &&& (tkn (σ.2.2.2 30 (6 * w + e)) (σ.2.2.2 31 (6 * w + e)) (nI m) ^^^ (-1 : Int64))) m' = true ↔ (bt X m' = true ∧ ¬ CF P (kkc σ) (ccc σ) w e m m') := by
  rcases Nat.lt_or_ge m' 64 with q | q
  · rw [bt_andn, Bool.and_eq_true, ← tkn_bt ht hw he hwe hm m' q]
    cases bt (tkn (σ.2.2.2 30 (6 * w + e)) (σ.2.2.2 31 (6 * w + e)) (nI m)) m' <;> simp
  · rw [bt_big q, bt_big q]; simp
theorem c_lr_h {r s w m : Nat} {L : Nat → Int64} (ht : tiX P σ n) (h6 : n ≤ 6) (hs : s < 2 ^ n) (hw : w < n) (hws : tb s w = false) (hm : m < 64) (hr : r ≤ 4 ∨ s = 0) : ∀ (i e : Nat), e + i = 6 → ∀ (L1 : Nat → Int64), (∀ y, y < 6 * (r + 1) → L1 y = L y) → (∀ e', e' < e → tb s e' = true → ∀ m', bt (L1 (6 * (r + 1) + e')) m' = true ↔ (bt (L (6 * r + e')) m' = true ∧ ¬ CF P (kkc σ) (ccc σ) w e' m m')) →
    ∃ (v : Int32) (L2 : Nat → Int64), mm_Runs d 37 (3, [some (.ref 29), some (.int (nI r)), some (.int (nI s)), some (.int (nI w)), some (.int (nI m)), some (.int (nI e)), none, none, none, none, none], [], HH x (ub σ 32 L1)) (some (.int v), HH x (ub σ 32 L2)) ∧ (∀ y, y < 6 * (r + 1) → L2 y = L y) ∧ ((v = 1 ∧ ∀ e', e' < 6 → tb s e' = true → ∀ m', bt (L2 (6 * (r + 1) + e')) m' = true ↔ (bt (L (6 * r + e')) m' = true ∧ ¬ CF P (kkc σ) (ccc σ) w e' m m')) ∨ (v = 0 ∧ ∃ e', e' < 6 ∧ tb s e' = true ∧ ∀ m', ¬ (bt (L (6 * r + e')) m' = true ∧ ¬ CF P (kkc σ) (ccc σ) w e' m m')))
  | 0, e, h, L1, h1, h2 => by
    have e6 : e = 6 := by omega
    subst e6
    exact ⟨1, L1, vx_lrh_p0 (by decide), h1, Or.inl ⟨rfl, h2⟩⟩
  | i + 1, e, h, L1, h1, h2 => by
    have h64 := p2_64 h6
    have ne6 : ¬ (6 : Int32) ≤ nI e := nI_ge (b := 6) (by omega) (by omega)
    cases hv : tb s e with
    | false =>
      obtain ⟨v, L2, r1, r2⟩ := c_lr_h (L := L) ht h6 hs hw hws hm hr i (e + 1) (by omega) L1 h1 (fun e' he' hb => by
        rcases Nat.lt_or_ge e' e with q | q
        · exact h2 e' q hb
        · rw [show e' = e by omega, hv] at hb; cases hb)
      exact ⟨v, L2, vx_lrh_p1 ne6 ((tb_0 (by omega) (by omega)).mpr hv) (by rw [nI_1]; exact r1), r2⟩
    | true =>
      have hen : e < n := tb_n n (by omega) s hs e (by omega) hv
      have hr4 : r ≤ 4 := hr.elim id (fun z => by rw [z, tb_00 e (by omega)] at hv; cases hv)
      have hwe : w ≠ e := fun z => by rw [z, hv] at hws; cases hws
      have nb : ¬ ((nI s >>> (nI e &&& 31)) &&& 1) = (0 : Int32) := fun z => by rw [(tb_0 (by omega) (by omega)).mp z] at hv; cases hv
      have gw : ¬ (((nI w * (6 : Int32)) + nI e) < 0 ∨ 36 ≤ ((nI w * (6 : Int32)) + nI e).toNatClampNeg) := by rw [w6]; exact nI_in (by omega) (by omega)
      have gr : ¬ (((nI r * (6 : Int32)) + nI e) < 0 ∨ 42 ≤ ((nI r * (6 : Int32)) + nI e).toNatClampNeg) := by rw [w6]; exact nI_in (by omega) (by omega)
      have gr1 : ¬ ((((nI r + (1 : Int32)) * (6 : Int32)) + nI e) < 0 ∨ 42 ≤ (((nI r + (1 : Int32)) * (6 : Int32)) + nI e).toNatClampNeg) := by rw [nI_1, w6]; exact nI_in (by omega) (by omega)
      have er : (L1 ((nI r * (6 : Int32)) + nI e).toNatClampNeg) = L (6 * r + e) := by rw [w6, nI_clamp (by omega)]; exact h1 _ (by omega)
      have ew : ((nI w * (6 : Int32)) + nI e).toNatClampNeg = 6 * w + e := by rw [w6, nI_clamp (by omega)]
      have er1 : (((nI r + (1 : Int32)) * (6 : Int32)) + nI e).toNatClampNeg = 6 * (r + 1) + e := by rw [nI_1, w6, nI_clamp (by omega)]
      have rb := rest_bt ht hw hen hwe hm (L (6 * r + e))
      have eX : (((ub σ 32 L1).2.2.2 32) ((nI r * (6 : Int32)) + nI e).toNatClampNeg) &&& (((((ub σ 32 L1).2.2.2 30) ((nI w * (6 : Int32)) + nI e).toNatClampNeg <<< (Int32.toInt64 (nI m) &&& 63)) ||| ((Int64.toUInt64 (((ub σ 32 L1).2.2.2 31) ((nI w * (6 : Int32)) + nI e).toNatClampNeg) >>> ((Int32.toInt64 ((63 : Int32) - nI m)).toUInt64 &&& Int64.toUInt64 63)).toInt64)) ^^^ (-1 : Int64)) = L (6 * r + e) &&& (tkn (σ.2.2.2 30 (6 * w + e)) (σ.2.2.2 31 (6 * w + e)) (nI m) ^^^ (-1 : Int64)) := by
        rw [ew]
        show (L1 ((nI r * (6 : Int32)) + nI e).toNatClampNeg) &&& _ = _
        rw [er]; rfl
      by_cases z : L (6 * r + e) &&& (tkn (σ.2.2.2 30 (6 * w + e)) (σ.2.2.2 31 (6 * w + e)) (nI m) ^^^ (-1 : Int64)) = 0
      · refine ⟨0, L1, vx_lrh_p3 ne6 nb (eX.trans z) gw gr, h1, Or.inr ⟨rfl, e, by omega, hv, fun m' y => ?_⟩⟩
        have := (rb m').mpr y
        rw [z, bt_0] at this; cases this
      · obtain ⟨v, L2, r1, r2⟩ := c_lr_h (L := L) ht h6 hs hw hws hm hr i (e + 1) (by omega) (vp_updL L1 (6 * (r + 1) + e) (L (6 * r + e) &&& (tkn (σ.2.2.2 30 (6 * w + e)) (σ.2.2.2 31 (6 * w + e)) (nI m) ^^^ (-1 : Int64)))) (fun y hy => by rw [pk_uLn (by omega)]; exact h1 y hy) (fun e' he' hb m' => by
          rcases Nat.lt_or_ge e' e with q | q
          · rw [pk_uLn (by omega)]; exact h2 e' q hb m'
          · have ee : e' = e := by omega
            subst ee
            rw [pk_uLs]; exact rb m')
        refine ⟨v, L2, vx_lrh_p2 ne6 nb (fun y => z (eX.symm.trans y)) gw gr gr1 ?_, r2⟩
        rw [eX, er1, nI_1]
        have e2 := ub_2 σ 32 L1 (vp_updL L1 (6 * (r + 1) + e) (L (6 * r + e) &&& (tkn (σ.2.2.2 30 (6 * w + e)) (σ.2.2.2 31 (6 * w + e)) (nI m) ^^^ (-1 : Int64))))
        rw [← e2] at r1
        exact r1
/-- minutes for those that wait, out of those that a row leaves -/
def CPX (P : pd_T) (σ : mm_S) (n r s : Nat) (L : Nat → Int64) (p : Nat → Nat) : Prop := (∀ e, e < n → tb s e = true → bt (L (6 * r + e)) (p e) = true) ∧ ∀ i j, i < n → j < n → i ≠ j → tb s i = true → tb s j = true → ¬ CF P (kkc σ) (ccc σ) i j (p i) (p j)
theorem c_ti {r s : Nat} (hs : s < 64) (hr : r ≤ 5) : ∀ (i w : Nat), w + i = 6 → ∀ (b : Nat) (f : Int32), b < 6 → tb s b = true → ∃ w', w' < 6 ∧ tb s w' = true ∧ mm_Runs (d + 1) 36 (27, [some (.ref 29), some (.int (nI r)), some (.int (nI s)), some (.int (nI b)), some (.int f), some (.int (nI w)), none], [], HH x σ) (some (.int (nI w')), HH x σ)
  | 0, w, h, b, f, hb, hb2 => ⟨b, hb, hb2, vx_tih_p0 (by omega) (by rw [show w = 6 by omega]; decide)⟩
  | i + 1, w, h, b, f, hb, hb2 => by
    have nw : ¬ (6 : Int32) ≤ nI w := nI_ge (b := 6) (by omega) (by omega)
    have g : ¬ (((nI r * (6 : Int32)) + nI w) < 0 ∨ 42 ≤ ((nI r * (6 : Int32)) + nI w).toNatClampNeg) := by rw [w6]; exact nI_in (by omega) (by omega)
    cases hv : tb s w with
    | false =>
      obtain ⟨w', a1, a2, a3⟩ := c_ti hs hr i (w + 1) (by omega) b f hb hb2
      exact ⟨w', a1, a2, vx_tih_p1 (by omega) nw ((tb_0 hs (by omega)).mpr hv) (by rw [nI_1]; exact a3)⟩
    | true =>
      have nb : ¬ ((nI s >>> (nI w &&& 31)) &&& 1) = (0 : Int32) := fun z => by rw [(tb_0 hs (by omega)).mp z] at hv; cases hv
      obtain ⟨w1, a1, a2, a3⟩ := c_ti hs hr i (w + 1) (by omega) b f hb hb2
      obtain ⟨w2, b1, b2, b3⟩ := c_ti hs hr i (w + 1) (by omega) w (bc64 ((σ.2.2.2 32) ((nI r * (6 : Int32)) + nI w).toNatClampNeg)) (by omega) hv
      by_cases z1 : (bc64 ((σ.2.2.2 32) ((nI r * (6 : Int32)) + nI w).toNatClampNeg)) < f
      · exact ⟨w2, b1, b2, vx_tih_p2 (by omega) nw nb z1 g (by rw [nI_1]; exact b3)⟩
      · by_cases z2 : (bc64 ((σ.2.2.2 32) ((nI r * (6 : Int32)) + nI w).toNatClampNeg)) = f
        · by_cases z3 : ((σ.2.2.1 33) (nI w).toNatClampNeg) ≤ ((σ.2.2.1 33) (nI b).toNatClampNeg)
          · exact ⟨w1, a1, a2, vx_tih_p4 (by omega) nw nb z1 z2 z3 g (nI_in (by omega) (by omega)) (nI_in hb (by omega)) (by rw [nI_1]; exact a3)⟩
          · exact ⟨w2, b1, b2, vx_tih_p5 (by omega) nw nb z1 z2 z3 g (nI_in (by omega) (by omega)) (nI_in hb (by omega)) (by rw [nI_1]; exact b3)⟩
        · exact ⟨w1, a1, a2, vx_tih_p3 (by omega) nw nb z1 z2 g (by rw [nI_1]; exact a3)⟩
theorem c_tight {r s : Nat} (hs : s < 64) (hs0 : ¬ s = 0) (hr : r ≤ 5) (hd : 2 ≤ d) : ∃ w, w < 6 ∧ tb s w = true ∧ mm_Runs d 36 (0, [some (.ref 29), some (.int (nI r)), some (.int (nI s)), none, none, none, none], [], HH x σ) (some (.int (nI w)), HH x σ) := by
  obtain ⟨l1, l2, l3⟩ := low6_ok s hs hs0
  obtain ⟨d', rfl⟩ : ∃ d', d = d' + 1 := ⟨d - 1, by omega⟩
  obtain ⟨w, a1, a2, a3⟩ := c_ti (d := d') (x := x) (σ := σ) hs hr (6 - (low6 s + 1)) (low6 s + 1) (by omega) (low6 s) (bc64 ((σ.2.2.2 32) ((nI r * (6 : Int32)) + nI (low6 s)).toNatClampNeg)) l2 l3
  refine ⟨w, a1, a2, vx_ti0_p0 hd ?_ ?_⟩
  · rw [l1, w6]; exact nI_in (by omega) (by omega)
  · rw [l1, nI_1]; exact a3
def CPD (d : Nat) (x : Nat × (Nat → Int32)) (P : pd_T) (σ : mm_S) (n k : Nat) : Prop := ∀ (r s : Nat) (L : Nat → Int64), pc6 s = k → r + k ≤ 6 → s < 2 ^ n → ∃ (v : Int32) (L' : Nat → Int64), mm_Runs d 35 (0, [some (.ref 29), some (.int (nI r)), some (.int (nI s)), none, none, none, none, none, none], [], HH x (ub σ 32 L)) (some (.int v), HH x (ub σ 32 L')) ∧ (∀ y, y < 6 * (r + 1) → L' y = L y) ∧ ((v = 1 ∧ ∃ p, CPX P σ n r s L p) ∨ (v = 0 ∧ ∀ p, ¬ CPX P σ n r s L p))
theorem c_cp_h {k r s w : Nat} {L : Nat → Int64} (hd : 3 ≤ d) (ht : tiX P σ n) (h6 : n ≤ 6) (ih : CPD (d - 1) x P σ n k) (hk : pc6 s = k + 1) (hrk : r + (k + 1) ≤ 6) (hs : s < 2 ^ n) (hw : w < n) (hws : tb s w = true) : ∀ (t : Nat) (q : Int64) (L1 : Nat → Int64), ct64 q = t → (∀ m, bt q m = true → bt (L (6 * r + w)) m = true) → (∀ y, y < 6 * (r + 1) → L1 y = L y) → (∀ p, CPX P σ n r s L p → bt q (p w) = true) →
    ∃ (v : Int32) (L' : Nat → Int64), mm_Runs d 35 (48, [some (.ref 29), some (.int (nI r)), none, some (.int (nI w)), some (.int (nI (s - 2 ^ w))), some (.long q), none, some (.int (nI t)), none], [], HH x (ub σ 32 L1)) (some (.int v), HH x (ub σ 32 L')) ∧ (∀ y, y < 6 * (r + 1) → L' y = L y) ∧ ((v = 1 ∧ ∃ p, CPX P σ n r s L p) ∨ (v = 0 ∧ ∀ p, ¬ CPX P σ n r s L p))
  | 0, q, L1, hq, h1, h2, h3 => by
    have z := ct_z hq
    subst z
    refine ⟨0, L1, vx_cph_p0 (v1 := 0) (v2 := 0) (σ1 := σ) (σ2 := σ) (by omega) (by decide), h2, Or.inr ⟨rfl, fun p y => ?_⟩⟩
    have := h3 p y
    rw [bt_0] at this; cases this
  | t + 1, q, L1, hq, h1, h2, h3 => by
    have h64 := p2_64 h6
    have hq0 : ¬ q = 0 := fun z => by rw [z, ct_00] at hq; omega
    obtain ⟨m, m1, m2, m3, m4⟩ := low_ex hq0
    obtain ⟨d1, d2⟩ := del_ok s (by omega) w (by omega) hws
    have d3 := del_tb s (by omega) w (by omega) hws
    have ht1 : t + 1 ≤ 64 := by rw [← hq]; exact ct_64 q
    have nt : ¬ nI (t + 1) ≤ 0 := nI_nle (by omega) (by omega)
    have hs' : s - 2 ^ w < 2 ^ n := Nat.lt_of_le_of_lt (Nat.sub_le _ _) hs
    have tbw : tb (s - 2 ^ w) w = false := by rw [d3 w (by omega)]; simp
    have tbe : ∀ e, e < n → tb (s - 2 ^ w) e = true → tb s e = true ∧ e ≠ w := fun e he z => by
      rw [d3 e (by omega), Bool.and_eq_true] at z
      exact ⟨z.1, by simpa using z.2⟩
    have tbi : ∀ e, e < n → tb s e = true → e ≠ w → tb (s - 2 ^ w) e = true := fun e he z y => by
      rw [d3 e (by omega), z]; simp [y]
    have hr4 : r ≤ 4 ∨ s - 2 ^ w = 0 := by
      rcases Nat.lt_or_ge r 5 with z | z
      · exact Or.inl (by omega)
      · exact Or.inr (pc6_0 _ (by omega) (by omega))
    obtain ⟨v1, L2, r1, r2, r3⟩ := c_lr_h (d := d - 1) (x := x) (L := L) (m := m) ht h6 hs' hw tbw m1 hr4 6 0 (by omega) L1 h2 (fun e' z => absurd z (by omega))
    have r1' := vx_lr0_p0 r1
    have next : ∀ (L3 : Nat → Int64), (∀ y, y < 6 * (r + 1) → L3 y = L y) → (∀ p, CPX P σ n r s L p → p w ≠ m) → ∃ (v : Int32) (L' : Nat → Int64), mm_Runs d 35 (48, [some (.ref 29), some (.int (nI r)), none, some (.int (nI w)), some (.int (nI (s - 2 ^ w))), some (.long (q &&& (q - 1))), none, some (.int (nI (t + 1) + (-1))), none], [], HH x (ub σ 32 L3)) (some (.int v), HH x (ub σ 32 L')) ∧ (∀ y, y < 6 * (r + 1) → L' y = L y) ∧ ((v = 1 ∧ ∃ p, CPX P σ n r s L p) ∨ (v = 0 ∧ ∀ p, ¬ CPX P σ n r s L p)) := fun L3 k1 k2 => by
      rw [pk_m1]
      have e1 := ct_clear m3 m4
      refine c_cp_h hd ht h6 ih hk hrk hs hw hws t (q &&& (q - 1)) L3 (by omega) (fun m' z => ?_) k1 (fun p z => ?_)
      · rw [bt_clear m3 m4, Bool.and_eq_true] at z
        exact h1 m' z.1
      · rw [bt_clear m3 m4, h3 p z]
        have := k2 p z
        simp [this]
    rcases r3 with ⟨rfl, r3⟩ | ⟨rfl, e, e1, e2, e3⟩
    · obtain ⟨v2, L3, g1, g2, g3⟩ := ih (r + 1) (s - 2 ^ w) L2 (by omega) (by omega) hs'
      have g4 : ∀ y, y < 6 * (r + 1) → L3 y = L y := fun y hy => by rw [g2 y (by omega)]; exact r2 y hy
      rw [← nI_1] at g1
      rcases g3 with ⟨rfl, p, g5, g6⟩ | ⟨rfl, g5⟩
      · refine ⟨1, L3, vx_cph_p3 (v1 := 1) (v2 := 1) (σ1 := ub σ 32 L2) (σ2 := ub σ 32 L3) (by omega) nt (by decide) (by decide) (by rw [m2]; exact r1') g1, g4, Or.inl ⟨rfl, gset p w m, fun e he z => ?_, fun i j hi hj hij z1 z2 => ?_⟩⟩
        · by_cases ew : e = w
          · subst ew; rw [gset_s]; exact h1 m m3
          · rw [gset_n ew]
            exact ((r3 e (by omega) (tbi e he z ew) (p e)).mp (g5 e he (tbi e he z ew))).1
        · by_cases iw : i = w
          · subst iw
            have jw : j ≠ i := fun y => hij y.symm
            rw [gset_s, gset_n jw]
            exact ((r3 j (by omega) (tbi j hj z2 jw) (p j)).mp (g5 j hj (tbi j hj z2 jw))).2
          · by_cases jw : j = w
            · subst jw
              rw [gset_s, gset_n iw, CF_sym]
              exact ((r3 i (by omega) (tbi i hi z1 iw) (p i)).mp (g5 i hi (tbi i hi z1 iw))).2
            · rw [gset_n iw, gset_n jw]
              exact g6 i j hi hj hij (tbi i hi z1 iw) (tbi j hj z2 jw)
      · obtain ⟨v, L', n1, n2, n3⟩ := next L3 g4 (fun p z y => g5 p ⟨fun e he q1 => by
          obtain ⟨q2, q3⟩ := tbe e he q1
          refine (r3 e (by omega) q1 (p e)).mpr ⟨z.1 e he q2, ?_⟩
          rw [← y]
          exact z.2 w e hw he (Ne.symm q3) hws q2, fun i j hi hj hij q1 q2 => z.2 i j hi hj hij (tbe i hi q1).1 (tbe j hj q2).1⟩)
        exact ⟨v, L', vx_cph_p2 (v1 := 1) (v2 := 0) (σ1 := ub σ 32 L2) (σ2 := ub σ 32 L3) (by omega) nt (by decide) rfl (by rw [m2]; exact r1') g1 n1, n2, n3⟩
    · have en : e < n := tb_n n (by omega) _ hs' e e1 e2
      obtain ⟨q2, q3⟩ := tbe e en e2
      obtain ⟨v, L', n1, n2, n3⟩ := next L2 r2 (fun p z y => e3 (p e) ⟨z.1 e en q2, by
        rw [← y]
        exact z.2 w e hw en (Ne.symm q3) hws q2⟩)
      exact ⟨v, L', vx_cph_p1 (v1 := 0) (v2 := 0) (σ1 := ub σ 32 L2) (σ2 := σ) (by omega) nt rfl (by rw [m2]; exact r1') n1, n2, n3⟩
theorem c_cp (ht : tiX P σ n) (h6 : n ≤ 6) : ∀ (k d : Nat), k + 4 ≤ d → CPD d x P σ n k
  | 0, d, hd => fun r s L hk hrk hs => by
    have h64 := p2_64 h6
    have z := pc6_0 s (by omega) hk
    subst z
    exact ⟨1, L, vx_cp0_p0 (v1 := 0) (by omega) rfl, fun _ _ => rfl, Or.inl ⟨rfl, fun _ => 0, fun e he y => absurd y (by rw [tb_00 e (by omega)]; decide), fun i j hi hj _ y => absurd y (by rw [tb_00 i (by omega)]; decide)⟩⟩
  | k + 1, d, hd => fun r s L hk hrk hs => by
    have h64 := p2_64 h6
    have hs0 : ¬ s = 0 := fun z => by
      rw [z] at hk
      have : pc6 0 = 0 := rfl
      omega
    obtain ⟨w, w1, w2, w3⟩ := c_tight (d := d - 1) (x := x) (σ := ub σ 32 L) (r := r) (s := s) (by omega) hs0 (by omega) (by omega)
    have hwn := tb_n n (by omega) s hs w w1 w2
    obtain ⟨d1, d2⟩ := del_ok s (by omega) w w1 w2
    have ei : ((nI r * (6 : Int32)) + nI w).toNatClampNeg = 6 * r + w := by rw [w6, nI_clamp (by omega)]
    have n0 : ¬ nI s = 0 := fun z => hs0 ((nI_eq (b := 0) (by omega) (by omega)).mp z)
    obtain ⟨v, L', a1, a2, a3⟩ := c_cp_h (d := d) (x := x) (L := L) (by omega) ht h6 (c_cp ht h6 k (d - 1) (by omega)) hk hrk hs hwn w2 (ct64 (L (6 * r + w))) (L (6 * r + w)) L rfl (fun _ z => z) (fun _ _ => rfl) (fun p z => z.1 w hwn w2)
    refine ⟨v, L', vx_cp0_p1 (v1 := nI w) (by omega) n0 (nI_lt (b := 6) (by omega) (by omega)) w3 (by rw [w6]; exact nI_in (by omega) (by omega)) ?_, a2, a3⟩
    rw [ei, d1]
    show mm_Runs d 35 (48, [some (.ref 29), some (.int (nI r)), none, some (.int (nI w)), some (.int (nI (s - 2 ^ w))), some (.long (L (6 * r + w))), none, some (.int (bc64 (L (6 * r + w)))), none], [], HH x (ub σ 32 L)) _
    rw [bc64_ct]
    exact a1
theorem c_we {s w : Nat} (hs : s < 64) (hw : w < 6) : ∀ (i e : Nat), e + i = 6 → ∀ (g : Int32), ∃ v, mm_Runs (d + 1) 34 (5, [some (.ref 29), some (.int (nI s)), some (.int (nI w)), some (.int g), some (.int (nI e))], [], HH x σ) (some (.int v), HH x σ)
  | 0, e, h, g => ⟨g, vx_weh_p0 (by omega) (by rw [show e = 6 by omega]; decide)⟩
  | i + 1, e, h, g => by
    have ne6 : ¬ (6 : Int32) ≤ nI e := nI_ge (b := 6) (by omega) (by omega)
    by_cases z : nI e = nI w
    · obtain ⟨v, r⟩ := c_we hs hw i (e + 1) (by omega) g
      exact ⟨v, vx_weh_p1 (by omega) ne6 z (by rw [nI_1]; exact r)⟩
    · by_cases y : ((nI s >>> (nI e &&& 31)) &&& 1) = (0 : Int32)
      · obtain ⟨v, r⟩ := c_we hs hw i (e + 1) (by omega) g
        exact ⟨v, vx_weh_p2 (by omega) ne6 z y (by rw [nI_1]; exact r)⟩
      · obtain ⟨v, r⟩ := c_we hs hw i (e + 1) (by omega) (g + ((bc64 ((σ.2.2.2 30) ((nI w * (6 : Int32)) + nI e).toNatClampNeg)) + (bc64 ((σ.2.2.2 31) ((nI w * (6 : Int32)) + nI e).toNatClampNeg))))
        exact ⟨v, vx_weh_p3 (by omega) ne6 z y (by rw [w6]; exact nI_in (by omega) (by omega)) (by rw [nI_1]; exact r)⟩
theorem c_ct_h {s : Nat} {L : Nat → Int64} (hd : 11 ≤ d) (ht : tiX P σ n) (h6 : n ≤ 6) (hs : s < 2 ^ n) : ∀ (i w : Nat), w + i = 6 → ∀ W, ∃ (v : Int32) (W' : Nat → Int32) (L' : Nat → Int64), mm_Runs d 33 (17, [some (.ref 29), some (.int (nI s)), none, some (.int (nI w))], [], HH x (ub (ua σ 33 W) 32 L)) (some (.int v), HH x (ub (ua σ 33 W') 32 L')) ∧ (∀ y, y < 6 → L' y = L y) ∧ ((v = 1 ∧ ∃ p, CPX P σ n 0 s L p) ∨ (v = 0 ∧ ∀ p, ¬ CPX P σ n 0 s L p))
  | 0, w, h, W => by
    have h64 := p2_64 h6
    have ht' : tiX P (ua σ 33 W) n := ht
    obtain ⟨v, L', r1, r2, r3⟩ := c_cp (x := x) ht' h6 (pc6 s) (d - 1) (by have := pc6_6 s (by omega); omega) 0 s L rfl (by have := pc6_6 s (by omega); omega) hs
    have hv : v = 0 ∨ v = 1 := r3.elim (fun z => Or.inr z.1) (fun z => Or.inl z.1)
    exact ⟨v, W, L', vx_cth_p0 (v1 := v) (v2 := 0) (σ1 := ub (ua σ 33 W) 32 L') (by omega) (by rw [show w = 6 by omega]; decide) r1 hv, fun y hy => r2 y (by omega), r3⟩
  | i + 1, w, h, W => by
    have h64 := p2_64 h6
    obtain ⟨v0, r0⟩ := c_we (d := d - 2) (x := x) (σ := ub (ua σ 33 W) 32 L) (s := s) (w := w) (by omega) (by omega) 6 0 (by omega) 0
    rw [show d - 2 + 1 = d - 1 by omega] at r0
    obtain ⟨v, W', L', r1, r2, r3⟩ := c_ct_h hd ht h6 hs i (w + 1) (by omega) (upd W w v0)
    refine ⟨v, W', L', vx_cth_p1 (v1 := 0) (v2 := v0) (σ1 := σ) (by omega) (nI_ge (b := 6) (by omega) (by omega)) (vx_we0_p0 r0) (nI_in (by omega) (by omega)) ?_, r2, r3⟩
    rw [nI_clamp (by omega), nI_1]
    have e2 : ua (ub (ua σ 33 W) 32 L) 33 (upd ((ub (ua σ 33 W) 32 L).2.2.1 33) w v0) = ub (ua σ 33 (upd W w v0)) 32 L := by
      rw [← ua_2 σ 33 W (upd W w v0)]; rfl
    rw [e2]
    exact r1
theorem msk_bt {T : Nat} (hT : T ≤ 63) (m : Nat) : bt ((Int64.toUInt64 (-1 : Int64) >>> ((Int32.toInt64 ((63 : Int32) - nI T)).toUInt64 &&& Int64.toUInt64 63)).toInt64) m = decide (m ≤ T) := by
  rw [show (63 : Int32) - nI T = nI (63 - T) from pk_sub (a := 63) (by omega), bt_ushr _ (by omega)]
  rcases Nat.lt_or_ge (63 - T + m) 64 with q | q
  · rw [bt_m1 _ q]
    have : m ≤ T := by omega
    simp [this]
  · rw [bt_big q]
    have : ¬ m ≤ T := by omega
    simp [this]
/-- whether a set can be thrown by a minute -/
theorem c_canThrow {s T : Nat} (hd : 11 ≤ d) (ht : tiX P σ n) (h6 : n ≤ 6) (hs : s < 2 ^ n) (hT : T ≤ 63) : ∃ (v : Int32) (W' : Nat → Int32) (L' : Nat → Int64), mm_Runs d 33 (0, [some (.ref 29), some (.int (nI s)), some (.int (nI T)), none], [], HH x σ) (some (.int v), HH x (ub (ua σ 33 W') 32 L')) ∧ (∀ y, y < 6 → ∀ m, bt (L' y) m = decide (m ≤ T)) ∧ ((v = 1 ∧ ∃ p, pok P (kkc σ) (ccc σ) n s T p) ∨ (v = 0 ∧ ∀ p, ¬ pok P (kkc σ) (ccc σ) n s T p)) := by
  obtain ⟨L, hL⟩ : ∃ L, L = fl 42 ((Int64.toUInt64 (-1 : Int64) >>> ((Int32.toInt64 ((63 : Int32) - nI T)).toUInt64 &&& Int64.toUInt64 63)).toInt64) (σ.2.2.2 32) := ⟨_, rfl⟩
  have hLb : ∀ y, y < 6 → ∀ m, bt (L y) m = decide (m ≤ T) := fun y hy m => by
    rw [hL]; unfold fl; rw [if_pos (by omega)]; exact msk_bt hT m
  obtain ⟨v, W', L', r1, r2, r3⟩ := c_ct_h (d := d) (x := x) (L := L) hd ht h6 hs 6 0 (by omega) (σ.2.2.1 33)
  rw [ua_self] at r1
  have eq : ∀ p, CPX P σ n 0 s L p ↔ pok P (kkc σ) (ccc σ) n s T p := fun p => by
    constructor
    · rintro ⟨a, b⟩
      refine ⟨fun i hi z => ?_, fun i j hij hj z1 z2 => b i j (by omega) hj (by omega) z1 z2⟩
      have := a i hi z
      rw [Nat.mul_zero, Nat.zero_add, hLb i (by omega), decide_eq_true_eq] at this
      exact this
    · rintro ⟨a, b⟩
      refine ⟨fun i hi z => ?_, fun i j hi hj hij z1 z2 => ?_⟩
      · rw [Nat.mul_zero, Nat.zero_add, hLb i (by omega), decide_eq_true_eq]; exact a i hi z
      · rcases Nat.lt_or_ge i j with q | q
        · exact b i j q hj z1 z2
        · rw [CF_sym]; exact b j i (by omega) hi z2 z1
  refine ⟨v, W', L', vx_ct0_p0 (by omega) (by rw [← hL]; exact r1), fun y hy m => by rw [r2 y hy]; exact hLb y hy m, ?_⟩
  rcases r3 with ⟨z1, p, z2⟩ | ⟨z1, z2⟩
  · exact Or.inl ⟨z1, p, (eq p).mp z2⟩
  · exact Or.inr ⟨z1, fun p y => z2 p ((eq p).mpr y)⟩
end CP

