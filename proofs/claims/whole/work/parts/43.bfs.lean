/-! RINGS: what is so of layers and ways, apart from any machine -/
def pd_wf (P : pd_T) : Prop := ∀ c, P.2.2 c = true → c < pd_n P
def pd_see (P : pd_T) (c t b : Nat) : Bool := (pd_bfs P c t).2 b
theorem bf_0 (P : pd_T) (c b : Nat) : pd_lay P c 0 b = (decide (b = c) && P.2.2 c) := rfl
theorem bf_00 (P : pd_T) (c b : Nat) : pd_see P c 0 b = (decide (b = c) && P.2.2 c) := rfl
theorem bf_1 (P : pd_T) (c t b : Nat) : pd_lay P c (t + 1) b = (P.2.2 b && !pd_see P c t b && (List.range (pd_n P)).any (fun a => pd_lay P c t a && pd_adj P a b)) := rfl
theorem bf_s (P : pd_T) (c t b : Nat) : pd_see P c (t + 1) b = (pd_see P c t b || pd_lay P c (t + 1) b) := rfl
theorem bf_ls {P : pd_T} {c t b : Nat} (h : pd_lay P c t b = true) : pd_see P c t b = true := by
  cases t with
  | zero => rw [bf_0] at h; rw [bf_00]; exact h
  | succ t => rw [bf_s, h, Bool.or_true]
theorem bf_sw {P : pd_T} {c b : Nat} : ∀ {t : Nat}, pd_see P c t b = true → P.2.2 b = true
  | 0, h => by
    rw [bf_00, Bool.and_eq_true, decide_eq_true_eq] at h
    rw [h.1]; exact h.2
  | t + 1, h => by
    rw [bf_s, Bool.or_eq_true] at h
    rcases h with h | h
    · exact bf_sw h
    · rw [bf_1, Bool.and_eq_true, Bool.and_eq_true] at h
      exact h.1.1
theorem bf_lw {P : pd_T} {c t b : Nat} (h : pd_lay P c t b = true) : P.2.2 b = true := bf_sw (bf_ls h)
theorem bf_mono {P : pd_T} {c b t : Nat} (h : pd_see P c t b = true) : ∀ {s : Nat}, t ≤ s → pd_see P c s b = true
  | 0, hs => by
    have e : t = 0 := by omega
    subst e; exact h
  | s + 1, hs => by
    rcases Nat.lt_or_ge t (s + 1) with q | q
    · rw [bf_s, bf_mono h (s := s) (by omega), Bool.true_or]
    · have e : t = s + 1 := by omega
      subst e; exact h
theorem bf_new {P : pd_T} {c t b : Nat} (h : pd_lay P c (t + 1) b = true) : pd_see P c t b = false := by
  rw [bf_1, Bool.and_eq_true, Bool.and_eq_true] at h
  simpa using h.1.2
theorem bf_lt {P : pd_T} {c s t b : Nat} (h : pd_lay P c t b = true) (h2 : pd_lay P c s b = true) : ¬ s < t := by
  intro z
  cases t with
  | zero => omega
  | succ t =>
    have := bf_mono (bf_ls h2) (s := t) (by omega)
    rw [bf_new h] at this
    cases this
theorem bf_uni {P : pd_T} {c s t b : Nat} (h : pd_lay P c t b = true) (h2 : pd_lay P c s b = true) : s = t := by
  have := bf_lt h h2
  have := bf_lt h2 h
  omega
theorem bf_see {P : pd_T} {c b : Nat} : ∀ {t : Nat}, pd_see P c t b = true → ∃ s, s ≤ t ∧ pd_lay P c s b = true
  | 0, h => ⟨0, Nat.le_refl _, h⟩
  | t + 1, h => by
    rw [bf_s, Bool.or_eq_true] at h
    rcases h with h | h
    · obtain ⟨s, h1, h2⟩ := bf_see h
      exact ⟨s, by omega, h2⟩
    · exact ⟨t + 1, Nat.le_refl _, h⟩
/-- a layer's cell is beside one of the layer ahead -/
theorem bf_pre {P : pd_T} {c t b : Nat} (h : pd_lay P c (t + 1) b = true) : ∃ a, a < pd_n P ∧ pd_lay P c t a = true ∧ pd_adj P a b = true := by
  rw [bf_1, Bool.and_eq_true, List.any_eq_true] at h
  obtain ⟨a, h1, h2⟩ := h.2
  rw [Bool.and_eq_true] at h2
  exact ⟨a, List.mem_range.mp h1, h2⟩
/-- what is beside a layer's cell is in the next at the latest -/
theorem bf_nxt {P : pd_T} {c t a b : Nat} (hw : pd_wf P) (h : pd_lay P c t a = true) (h2 : pd_adj P a b = true) (h3 : P.2.2 b = true) : pd_see P c (t + 1) b = true := by
  rw [bf_s]
  cases hs : pd_see P c t b with
  | true => rfl
  | false =>
    rw [Bool.false_or, bf_1, h3, hs, Bool.not_false, Bool.and_true, Bool.true_and, List.any_eq_true]
    exact ⟨a, List.mem_range.mpr (hw a (bf_lw h)), by rw [h, h2]; rfl⟩
theorem bf_end {P : pd_T} {c t : Nat} (h : ∀ b, pd_lay P c t b = false) : ∀ {s : Nat}, t ≤ s → ∀ b, pd_lay P c s b = false
  | 0, hs, b => by
    have e : t = 0 := by omega
    subst e; exact h b
  | s + 1, hs, b => by
    rcases Nat.lt_or_ge t (s + 1) with q | q
    · cases hl : pd_lay P c (s + 1) b with
      | false => rfl
      | true =>
        obtain ⟨a, -, h1, -⟩ := bf_pre hl
        rw [bf_end h (s := s) (by omega) a] at h1
        cases h1
    · have e : t = s + 1 := by omega
      subst e; exact h b
theorem cP_or {f g : Nat → Bool} : ∀ (l : List Nat), (∀ b, f b = true → g b = false) → (l.countP (fun b => f b || g b)) = l.countP f + l.countP g
  | [], _ => rfl
  | b :: l, h => by
    have ih := cP_or l h
    rw [List.countP_cons, List.countP_cons, List.countP_cons, ih]
    cases hf : f b with
    | true => rw [h b hf]; simp; omega
    | false => cases hg : g b <;> simp <;> omega
/-- there are no more layers than cells -/
theorem bf_cnt {P : pd_T} {c : Nat} (hw : pd_wf P) : ∀ (t : Nat), (∀ s, s ≤ t → ∃ b, pd_lay P c s b = true) → t + 1 ≤ (List.range (pd_n P)).countP (pd_see P c t)
  | 0, h => by
    obtain ⟨b, hb⟩ := h 0 (Nat.le_refl _)
    exact List.countP_pos_iff.mpr ⟨b, List.mem_range.mpr (hw b (bf_lw hb)), bf_ls hb⟩
  | t + 1, h => by
    have ih := bf_cnt hw t (fun s hs => h s (by omega))
    obtain ⟨b, hb⟩ := h (t + 1) (Nat.le_refl _)
    have e : (List.range (pd_n P)).countP (pd_see P c (t + 1)) = (List.range (pd_n P)).countP (pd_see P c t) + (List.range (pd_n P)).countP (pd_lay P c (t + 1)) := by
      rw [← cP_or (List.range (pd_n P)) (f := pd_see P c t) (g := pd_lay P c (t + 1)) (fun b hb => by
        cases hl : pd_lay P c (t + 1) b with
        | false => rfl
        | true => rw [bf_new hl] at hb; cases hb)]
      rfl
    have hp : 0 < (List.range (pd_n P)).countP (pd_lay P c (t + 1)) := List.countP_pos_iff.mpr ⟨b, List.mem_range.mpr (hw b (bf_lw hb)), hb⟩
    omega
theorem bf_42 {P : pd_T} {c : Nat} (hw : pd_wf P) {t : Nat} (ht : pd_n P ≤ t) (b : Nat) : pd_lay P c t b = false := by
  cases hl : pd_lay P c t b with
  | false => rfl
  | true =>
    have h : ∀ s, s ≤ t → ∃ b, pd_lay P c s b = true := by
      intro s hs
      by_cases q : ∃ b, pd_lay P c s b = true
      · exact q
      · have q2 : ∀ b, pd_lay P c s b = false := fun b => by
          cases h9 : pd_lay P c s b with
          | false => rfl
          | true => exact absurd ⟨b, h9⟩ q
        rw [bf_end q2 hs b] at hl
        cases hl
    have h1 := bf_cnt hw t h
    have h2 : (List.range (pd_n P)).countP (pd_see P c t) ≤ (List.range (pd_n P)).length := List.countP_le_length
    rw [List.length_range] at h2
    omega
/-- a way's length is the layer -/
theorem wy_lay {P : pd_T} {a b t : Nat} (hw : pd_wf P) (hn : pd_n P ≤ 42) : pd_lay P a t b = true ↔ (t < 42 ∧ pd_way P a b = nI t) := by
  unfold pd_way
  constructor
  · intro h
    have ht : t < 42 := by
      rcases Nat.lt_or_ge t 42 with q | q
      · exact q
      · rw [bf_42 hw (by omega) b] at h; cases h
    refine ⟨ht, ?_⟩
    cases hf : (List.range 42).find? (fun t => pd_lay P a t b) with
    | none =>
      rw [List.find?_eq_none] at hf
      exact absurd h (hf t (List.mem_range.mpr ht))
    | some s =>
      have h2 := List.find?_some hf
      rw [bf_uni h h2]
  · rintro ⟨ht, h⟩
    cases hf : (List.range 42).find? (fun t => pd_lay P a t b) with
    | none =>
      rw [hf] at h
      exfalso
      have h5 : (-9 : Int32).toInt = (nI t).toInt := congrArg Int32.toInt h
      rw [nI_toInt (by omega)] at h5
      have h6 : (-9 : Int32).toInt = -9 := rfl
      omega
    | some s =>
      rw [hf] at h
      have h2 := List.find?_some hf
      have h3 := List.mem_of_find?_eq_some hf
      rw [List.mem_range] at h3
      have e : s = t := (nI_eq (by omega) (by omega)).mp h
      rw [← e]; exact h2
theorem wy_none {P : pd_T} {a b : Nat} (hw : pd_wf P) (hn : pd_n P ≤ 42) : pd_way P a b = -9 ↔ ∀ t, pd_lay P a t b = false := by
  constructor
  · intro h t
    cases hl : pd_lay P a t b with
    | false => rfl
    | true =>
      obtain ⟨h1, h2⟩ := (wy_lay hw hn).mp hl
      exfalso
      have h5 : (-9 : Int32).toInt = (nI t).toInt := congrArg Int32.toInt (h.symm.trans h2)
      rw [nI_toInt (by omega)] at h5
      have h6 : (-9 : Int32).toInt = -9 := rfl
      omega
  · intro h
    unfold pd_way
    rw [show (List.range 42).find? (fun t => pd_lay P a t b) = none from List.find?_eq_none.mpr (fun t _ => by rw [h t]; decide)]
/-- a way is -9 or a layer's number -/
theorem wy_2 {P : pd_T} (hw : pd_wf P) (hn : pd_n P ≤ 42) (a b : Nat) : (pd_way P a b = -9 ∧ ∀ t, pd_lay P a t b = false) ∨ ∃ t, t < 42 ∧ pd_way P a b = nI t ∧ pd_lay P a t b = true := by
  by_cases h : ∃ t, pd_lay P a t b = true
  · obtain ⟨t, ht⟩ := h
    exact Or.inr ⟨t, ((wy_lay hw hn).mp ht).1, ((wy_lay hw hn).mp ht).2, ht⟩
  · have h2 : ∀ t, pd_lay P a t b = false := fun t => by
      cases hl : pd_lay P a t b with
      | false => rfl
      | true => exact absurd ⟨t, hl⟩ h
    exact Or.inl ⟨(wy_none hw hn).mpr h2, h2⟩
