/-! how the small machine's runs are put together -/
def mm_s1 (y : Nat) (F : mm_F) : Option mm_F := match mm_find (mm_M y).1 F.1 with
  | none => none
  | some i => match mm_ret (mm_M y).2.2.2.2.1 i F.2.2.1 with
    | some _ => none
    | none => match mm_call (mm_M y).2.2.2.2.2.2 i F.2.2.1 F.2.2.2 with
      | some _ => none
      | none => mm_x (mm_M y).2.2.2.2.2.2 i F.1 F.2.1 F.2.2.1 F.2.2.2
def mm_sN : Nat → Nat → mm_F → Option mm_F
  | 0, _, F => some F
  | k + 1, y, F => match mm_s1 y F with
    | none => none
    | some F' => mm_sN k y F'
theorem mm_go1 {d y : Nat} {F F' : mm_F} {r : Option Value × mm_H} (h : mm_s1 y F = some F') (k : mm_Runs d y F' r) : mm_Runs d y F r := by
  obtain ⟨n, hn⟩ := k
  obtain ⟨pc, L, S, hh⟩ := F
  refine ⟨n + 1, ?_⟩
  unfold mm_s1 at h
  simp only at h
  unfold mm_run
  split at h
  · cases h
  · rename_i i hi
    rw [hi]
    simp only
    split at h
    · cases h
    · rename_i hr
      rw [hr]
      simp only
      split at h
      · cases h
      · rename_i hc
        rw [hc]
        simp only
        rw [h]
        exact hn
theorem mm_go : ∀ (k : Nat) {d y : Nat} {F F' : mm_F} {r : Option Value × mm_H}, mm_sN k y F = some F' → mm_Runs d y F' r → mm_Runs d y F r
  | 0, _, _, _, _, _, h, k => by cases h; exact k
  | n + 1, d, y, F, F', r, h, k => by
    unfold mm_sN at h
    split at h
    · cases h
    · rename_i F2 h2
      exact mm_go1 h2 (mm_go n h k)
/-- behind a test (an index, a divisor) -/
theorem mm_gd {d y : Nat} {F F' : mm_F} {r : Option Value × mm_H} {c : Prop} {dc : Decidable c} (h : mm_s1 y F = if c then none else some F') (hc : ¬ c) (k : mm_Runs d y F' r) : mm_Runs d y F r := mm_go1 (by rw [h, if_neg hc]) k
theorem mm_gt {d y : Nat} {F F' : mm_F} {r : Option Value × mm_H} {c : Prop} {dc : Decidable c} (h : mm_s1 y F = if c then some F' else none) (hc : c) (k : mm_Runs d y F' r) : mm_Runs d y F r := mm_go1 (by rw [h, if_pos hc]) k
theorem mm_gdt {d y : Nat} {F F' : mm_F} {r : Option Value × mm_H} {c b : Prop} {dc : Decidable c} {db : Decidable b} (h : mm_s1 y F = if c then none else if b then some F' else none) (hc : ¬ c) (hb : b) (k : mm_Runs d y F' r) : mm_Runs d y F r := mm_go1 (by rw [h, if_neg hc, if_pos hb]) k
section MB
variable {d y : Nat} {x z : Int32} {t f : Nat} {L : mm_L} {S : List Value} {h : mm_H} {r : Option Value × mm_H}
theorem mb_eq (kt : x = z → mm_Runs d y (t, L, S, h) r) (kf : ¬ x = z → mm_Runs d y (f, L, S, h) r) : mm_Runs d y (bif mm_cond .eq x z then t else f, L, S, h) r := by
  by_cases q : x = z
  · rw [show mm_cond .eq x z = true by simp [mm_cond, q]]; exact kt q
  · rw [show mm_cond .eq x z = false by simp [mm_cond, q]]; exact kf q
theorem mb_ne (kt : ¬ x = z → mm_Runs d y (t, L, S, h) r) (kf : x = z → mm_Runs d y (f, L, S, h) r) : mm_Runs d y (bif mm_cond .ne x z then t else f, L, S, h) r := by
  by_cases q : x = z
  · rw [show mm_cond .ne x z = false by simp [mm_cond, q]]; exact kf q
  · rw [show mm_cond .ne x z = true by simp [mm_cond, q]]; exact kt q
theorem mb_lt (kt : x < z → mm_Runs d y (t, L, S, h) r) (kf : ¬ x < z → mm_Runs d y (f, L, S, h) r) : mm_Runs d y (bif mm_cond .lt x z then t else f, L, S, h) r := by
  by_cases q : x < z
  · rw [show mm_cond .lt x z = true by simp [mm_cond, q]]; exact kt q
  · rw [show mm_cond .lt x z = false by simp [mm_cond, q]]; exact kf q
theorem mb_ge (kt : z ≤ x → mm_Runs d y (t, L, S, h) r) (kf : ¬ z ≤ x → mm_Runs d y (f, L, S, h) r) : mm_Runs d y (bif mm_cond .ge x z then t else f, L, S, h) r := by
  by_cases q : z ≤ x
  · rw [show mm_cond .ge x z = true by simp [mm_cond, q]]; exact kt q
  · rw [show mm_cond .ge x z = false by simp [mm_cond, q]]; exact kf q
theorem mb_gt (kt : z < x → mm_Runs d y (t, L, S, h) r) (kf : ¬ z < x → mm_Runs d y (f, L, S, h) r) : mm_Runs d y (bif mm_cond .gt x z then t else f, L, S, h) r := by
  by_cases q : z < x
  · rw [show mm_cond .gt x z = true by simp [mm_cond, q]]; exact kt q
  · rw [show mm_cond .gt x z = false by simp [mm_cond, q]]; exact kf q
theorem mb_le (kt : x ≤ z → mm_Runs d y (t, L, S, h) r) (kf : ¬ x ≤ z → mm_Runs d y (f, L, S, h) r) : mm_Runs d y (bif mm_cond .le x z then t else f, L, S, h) r := by
  by_cases q : x ≤ z
  · rw [show mm_cond .le x z = true by simp [mm_cond, q]]; exact kt q
  · rw [show mm_cond .le x z = false by simp [mm_cond, q]]; exact kf q
end MB
/-- the end of a method -/
theorem mm_rt {d y pc : Nat} {L : mm_L} {S : List Value} {h : mm_H} {i : Instr} {v : Option Value} {r : Option Value × mm_H} (hi : mm_find (mm_M y).1 pc = some i) (hr : mm_ret (mm_M y).2.2.2.2.1 i S = some v) (e : (v, h) = r) : mm_Runs d y (pc, L, S, h) r := by
  subst e
  refine ⟨1, ?_⟩
  unfold mm_run
  rw [hi]
  simp only
  rw [hr]
/-- the same, of a boolean -/
theorem mm_rtz {d y pc : Nat} {L : mm_L} {h : mm_H} {v : Int32} {r : Option Value × mm_H} (hi : mm_find (mm_M y).1 pc = some .ireturn) (hr : (mm_M y).2.2.2.2.1 = some .boolean) (hv : v = 0 ∨ v = 1) (e : (some (.int v), h) = r) : mm_Runs d y (pc, L, [.int v], h) r := by
  refine mm_rt hi (v := some (.int v)) ?_ e
  rw [hr]
  show (if v = 0 ∨ v = 1 then some (some (Value.int v)) else none) = _
  rw [if_pos hv]
theorem mm_run_le : ∀ (n : Nat) {d y : Nat} {F : mm_F} {r : Option Value × mm_H}, mm_run n d y F = some r → mm_run (n + 1) d y F = some r
  | 0, _, _, _, _, h => by cases h
  | n + 1, d, y, (pc, L, S, hh), r, h => by
    unfold mm_run at h
    unfold mm_run
    cases hi : mm_find (mm_M y).1 pc with
    | none => rw [hi] at h; cases h
    | some i =>
      rw [hi] at h
      simp only at h ⊢
      cases hr : mm_ret (mm_M y).2.2.2.2.1 i S with
      | some r0 => rw [hr] at h; exact h
      | none =>
        rw [hr] at h
        simp only at h ⊢
        cases hc : mm_call (mm_M y).2.2.2.2.2.2 i S hh with
        | some q =>
          obtain ⟨z, as, S'⟩ := q
          rw [hc] at h
          simp only at h ⊢
          cases d with
          | zero => cases h
          | succ d' =>
            simp only at h ⊢
            cases hb : Nat.ble (mm_lay as).length (mm_M z).2.2.2.1 with
            | false => rw [hb] at h; cases h
            | true =>
              rw [hb] at h
              simp only [cond_true] at h ⊢
              cases h1 : mm_run n d' z (0, mm_ent (mm_M z).2.2.2.1 as, [], hh) with
              | none => rw [h1] at h; cases h
              | some q1 =>
                rw [h1] at h
                rw [mm_run_le n h1]
                exact mm_run_le n h
        | none =>
          rw [hc] at h
          simp only at h ⊢
          cases hF : mm_x (mm_M y).2.2.2.2.2.2 i pc L S hh with
          | none => rw [hF] at h; cases h
          | some F2 =>
            rw [hF] at h
            exact mm_run_le n h
theorem mm_run_mono {n k d y : Nat} {F : mm_F} {r : Option Value × mm_H} (h : mm_run n d y F = some r) : mm_run (n + k) d y F = some r := by
  induction k with
  | zero => exact h
  | succ k ih => exact mm_run_le (n + k) ih
/-- a call -/
theorem mm_kl {d y pc z : Nat} {L L2 : mm_L} {S as S' : List Value} {h h1 : mm_H} {i : Instr} {v : Option Value} {r : Option Value × mm_H} (hi : mm_find (mm_M y).1 pc = some i) (hr : mm_ret (mm_M y).2.2.2.2.1 i S = none) (hc : mm_call (mm_M y).2.2.2.2.2.2 i S h = some (z, as, S')) (hb : Nat.ble (mm_lay as).length (mm_M z).2.2.2.1 = true) (hL : mm_ent (mm_M z).2.2.2.1 as = L2) (hd : 1 ≤ d)
    (hz : mm_Runs (d - 1) z (0, L2, [], h) (v, h1)) (k : mm_Runs d y (pc + 3, L, v.toList ++ S', h1) r) : mm_Runs d y (pc, L, S, h) r := by
  obtain ⟨n1, hn1⟩ := hz
  obtain ⟨n2, hn2⟩ := k
  refine ⟨n1 + n2 + 1, ?_⟩
  unfold mm_run
  rw [hi]
  simp only
  rw [hr]
  simp only
  rw [hc]
  simp only
  obtain ⟨d', rfl⟩ : ∃ d', d = d' + 1 := ⟨d - 1, by omega⟩
  simp only
  rw [hb]
  simp only [cond_true]
  rw [hL]
  have e1 := mm_run_mono (k := n2) hn1
  rw [show d' + 1 - 1 = d' by omega] at e1
  rw [e1]
  have e2 := mm_run_mono (k := n1) hn2
  rw [show n2 + n1 = n1 + n2 by omega] at e2
  exact e2
/-! locals that are no more needed may be forgotten -/
def mm_sub (L L' : mm_L) : Prop := L.length = L'.length ∧ ∀ (i : Nat) (u : Value), L[i]? = some (some u) → L'[i]? = some (some u)
theorem mm_sub_st1 {L L' : mm_L} {i : Nat} {v : Value} (h : mm_sub L L') : mm_sub (mm_st1 L i v) (mm_st1 L' i v) := by
  refine ⟨by rw [mm_st1_len, mm_st1_len]; exact h.1, fun j u e => ?_⟩
  have hlt : j < L.length := by
    have := (List.getElem?_eq_some_iff.mp e).1
    rwa [mm_st1_len] at this
  rcases mm_st1_get e with ⟨rfl, rfl⟩ | ⟨h1, h2, h3⟩
  · unfold mm_st1
    rw [List.getElem?_set_self]
    have := mm_st1_len L' j u
    unfold mm_st1 at this
    rw [List.length_set] at this
    rw [this, ← h.1]
    exact hlt
  · have h4 := h.2 j u h2
    unfold mm_st1
    rw [List.getElem?_set_ne (Ne.symm h1)]
    cases i with
    | zero => exact h4
    | succ i =>
      simp only
      cases hL : L'[i]? with
      | none => exact h4
      | some z =>
        cases z with
        | none => exact h4
        | some w =>
          simp only
          cases hb : Nat.beq w.category 2 with
          | false => exact h4
          | true =>
            simp only [cond_true]
            by_cases hj : j = i
            · subst hj
              rw [h4] at hL
              cases hL
              exact absurd ⟨rfl, Nat.eq_of_beq_eq_true hb⟩ h3
            · rw [List.getElem?_set_ne (Ne.symm hj)]
              exact h4
theorem mm_sub_set {L L' : mm_L} {i : Nat} (h : mm_sub L L') : mm_sub (L.set i none) (L'.set i none) := by
  refine ⟨by rw [List.length_set, List.length_set]; exact h.1, fun j u e => ?_⟩
  by_cases hj : j = i
  · subst hj
    rw [List.getElem?_set] at e
    simp only [if_true] at e
    split at e <;> cases e
  · rw [List.getElem?_set_ne (Ne.symm hj)] at e ⊢
    exact h.2 j u e
theorem mm_sub_st2 {L L' : mm_L} {i : Nat} {v : Value} (h : mm_sub L L') : mm_sub (mm_st2 L i v) (mm_st2 L' i v) := mm_sub_set (mm_sub_st1 h)
theorem mm_x_par {o : Nat} {i : Instr} {pc : Nat} {L L' : mm_L} {S : List Value} {h : mm_H} {F : mm_F} (hs : mm_sub L L') (key : ∀ L1 : mm_L, mm_x o i pc L1 S h = (mm_x o i pc L S h).map (fun G => (G.1, L1, G.2.2))) (e : mm_x o i pc L S h = some F) : ∃ L2, mm_x o i pc L' S h = some (F.1, L2, F.2.2.1, F.2.2.2) ∧ mm_sub F.2.1 L2 := by
  have h1 := key L
  rw [e] at h1
  have h2 : F = (F.1, L, F.2.2) := Option.some.inj h1
  have h3 : F.2.1 = L := by rw [h2]
  refine ⟨L', ?_, by rw [h3]; exact hs⟩
  rw [key L', e]
  rfl
theorem mm_x_sub {o : Nat} {i : Instr} {pc : Nat} {L L' : mm_L} {S : List Value} {h : mm_H} {F : mm_F} (hs : mm_sub L L') (e : mm_x o i pc L S h = some F) : ∃ L2, mm_x o i pc L' S h = some (F.1, L2, F.2.2.1, F.2.2.2) ∧ mm_sub F.2.1 L2 := by
  have ldi : ∀ {k : Nat} {f f2 : Int32 → Option mm_F}, mx_ldi L k f = some F → (∀ x, f x = some F → ∃ L2, f2 x = some (F.1, L2, F.2.2.1, F.2.2.2) ∧ mm_sub F.2.1 L2) → ∃ L2, mx_ldi L' k f2 = some (F.1, L2, F.2.2.1, F.2.2.2) ∧ mm_sub F.2.1 L2 := by
    intro k f f2 e1 e2
    obtain ⟨x, hx, hf⟩ := me_ldi e1
    obtain ⟨L2, h1, h2⟩ := e2 x hf
    exact ⟨L2, by unfold mx_ldi; rw [hs.2 k _ hx]; exact h1, h2⟩
  have ldl : ∀ {k : Nat} {f f2 : Int64 → Option mm_F}, mx_ldl L k f = some F → (∀ x, f x = some F → ∃ L2, f2 x = some (F.1, L2, F.2.2.1, F.2.2.2) ∧ mm_sub F.2.1 L2) → ∃ L2, mx_ldl L' k f2 = some (F.1, L2, F.2.2.1, F.2.2.2) ∧ mm_sub F.2.1 L2 := by
    intro k f f2 e1 e2
    obtain ⟨x, hx, hf⟩ := me_ldl e1
    obtain ⟨L2, h1, h2⟩ := e2 x hf
    exact ⟨L2, by unfold mx_ldl; rw [hs.2 k _ hx]; exact h1, h2⟩
  have lda : ∀ {k : Nat} {f f2 : Nat → Option mm_F}, mx_lda L k f = some F → (∀ x, f x = some F → ∃ L2, f2 x = some (F.1, L2, F.2.2.1, F.2.2.2) ∧ mm_sub F.2.1 L2) → ∃ L2, mx_lda L' k f2 = some (F.1, L2, F.2.2.1, F.2.2.2) ∧ mm_sub F.2.1 L2 := by
    intro k f f2 e1 e2
    obtain ⟨x, hx, hf⟩ := me_lda e1
    obtain ⟨L2, h1, h2⟩ := e2 x hf
    exact ⟨L2, by unfold mx_lda; rw [hs.2 k _ hx]; exact h1, h2⟩
  cases i with
  | iload_n k => exact ldi e (fun x q => by cases q; exact ⟨L', rfl, hs⟩)
  | iload k => exact ldi e (fun x q => by cases q; exact ⟨L', rfl, hs⟩)
  | lload_n k => exact ldl e (fun x q => by cases q; exact ⟨L', rfl, hs⟩)
  | lload k => exact ldl e (fun x q => by cases q; exact ⟨L', rfl, hs⟩)
  | aload_n k => exact lda e (fun x q => by cases q; exact ⟨L', rfl, hs⟩)
  | aload k => exact lda e (fun x q => by cases q; exact ⟨L', rfl, hs⟩)
  | iinc k n => exact ldi e (fun x q => by
      obtain ⟨hlt, q⟩ := me_bif q
      cases q
      exact ⟨_, by rw [← hs.1, hlt]; rfl, mm_sub_st1 hs⟩)
  | istore_n k =>
    obtain ⟨x, T, rfl, hf⟩ := me_1i e
    obtain ⟨hlt, hf⟩ := me_bif hf
    cases hf
    exact ⟨_, by show (bif Nat.blt k.val L'.length then _ else none) = _; rw [← hs.1, hlt]; rfl, mm_sub_st1 hs⟩
  | istore k =>
    obtain ⟨x, T, rfl, hf⟩ := me_1i e
    obtain ⟨hlt, hf⟩ := me_bif hf
    cases hf
    exact ⟨_, by show (bif Nat.blt k L'.length then _ else none) = _; rw [← hs.1, hlt]; rfl, mm_sub_st1 hs⟩
  | lstore_n k =>
    obtain ⟨x, T, rfl, hf⟩ := me_1l e
    obtain ⟨hlt, hf⟩ := me_bif hf
    cases hf
    exact ⟨_, by show (bif Nat.blt (k.val + 1) L'.length then _ else none) = _; rw [← hs.1, hlt]; rfl, mm_sub_st2 hs⟩
  | lstore k =>
    obtain ⟨x, T, rfl, hf⟩ := me_1l e
    obtain ⟨hlt, hf⟩ := me_bif hf
    cases hf
    exact ⟨_, by show (bif Nat.blt (k + 1) L'.length then _ else none) = _; rw [← hs.1, hlt]; rfl, mm_sub_st2 hs⟩
  | astore_n k =>
    obtain ⟨x, T, rfl, hf⟩ := me_1r e
    obtain ⟨hlt, hf⟩ := me_bif hf
    cases hf
    exact ⟨_, by show (bif Nat.blt k.val L'.length then _ else none) = _; rw [← hs.1, hlt]; rfl, mm_sub_st1 hs⟩
  | astore k =>
    obtain ⟨x, T, rfl, hf⟩ := me_1r e
    obtain ⟨hlt, hf⟩ := me_bif hf
    cases hf
    exact ⟨_, by show (bif Nat.blt k L'.length then _ else none) = _; rw [← hs.1, hlt]; rfl, mm_sub_st1 hs⟩
  | _ =>
    refine mm_x_par hs (fun L1 => ?_) e
    simp only [mm_x, mx_1i, mx_2i, mx_1l, mx_2l, mx_il, mx_1r, mx_ri, mx_rii, mx_ril, mx_to, mx_ai, mx_al, mx_ab, mx_ar, mx_an, mx_ob, Bool.cond_eq_ite]
    repeat' split
    all_goals first | rfl | simp_all
theorem mm_weakN : ∀ (n : Nat) {d y pc : Nat} {L L' : mm_L} {S : List Value} {h : mm_H} {r : Option Value × mm_H}, mm_sub L L' → mm_run n d y (pc, L, S, h) = some r → mm_run n d y (pc, L', S, h) = some r
  | 0, _, _, _, _, _, _, _, _, _, e => by cases e
  | n + 1, d, y, pc, L, L', S, hh, r, hs, h => by
    unfold mm_run at h
    unfold mm_run
    cases hi : mm_find (mm_M y).1 pc with
    | none => rw [hi] at h; cases h
    | some i =>
      rw [hi] at h
      simp only at h ⊢
      cases hr : mm_ret (mm_M y).2.2.2.2.1 i S with
      | some r0 => rw [hr] at h; exact h
      | none =>
        rw [hr] at h
        simp only at h ⊢
        cases hc : mm_call (mm_M y).2.2.2.2.2.2 i S hh with
        | some q =>
          obtain ⟨z, as, S'⟩ := q
          rw [hc] at h
          simp only at h ⊢
          cases d with
          | zero => cases h
          | succ d' =>
            simp only at h ⊢
            cases hb : Nat.ble (mm_lay as).length (mm_M z).2.2.2.1 with
            | false => rw [hb] at h; cases h
            | true =>
              rw [hb] at h
              simp only [cond_true] at h ⊢
              cases h1 : mm_run n d' z (0, mm_ent (mm_M z).2.2.2.1 as, [], hh) with
              | none => rw [h1] at h; cases h
              | some q1 =>
                rw [h1] at h
                exact mm_weakN n hs h
        | none =>
          rw [hc] at h
          simp only at h ⊢
          cases hF : mm_x (mm_M y).2.2.2.2.2.2 i pc L S hh with
          | none => rw [hF] at h; cases h
          | some F2 =>
            rw [hF] at h
            obtain ⟨L2, h1, h2⟩ := mm_x_sub hs hF
            rw [h1]
            exact mm_weakN n h2 h
def mm_subb : mm_L → mm_L → Prop
  | [], [] => True
  | none :: t, _ :: t' => mm_subb t t'
  | some v :: t, some w :: t' => v = w ∧ mm_subb t t'
  | _, _ => False
theorem mm_subb_ok : ∀ {L L' : mm_L}, mm_subb L L' → mm_sub L L'
  | [], [], _ => ⟨rfl, fun i u e => e⟩
  | [], _ :: _, h => by cases h
  | none :: t, [], h => by cases h
  | some _ :: t, [], h => by cases h
  | some v :: t, none :: t', h => by cases h
  | none :: t, x :: t', h => by
    obtain ⟨h1, h2⟩ := mm_subb_ok (L := t) (L' := t') (by cases x <;> exact h)
    refine ⟨by simp only [List.length_cons, h1], fun i u e => ?_⟩
    cases i with
    | zero => cases e
    | succ i => exact h2 i u e
  | some v :: t, some w :: t', h => by
    obtain ⟨rfl, h⟩ := h
    obtain ⟨h1, h2⟩ := mm_subb_ok h
    refine ⟨by simp only [List.length_cons, h1], fun i u e => ?_⟩
    cases i with
    | zero => exact e
    | succ i => exact h2 i u e
/-- locals that are no more needed are forgotten -/
theorem mm_wk {d y pc : Nat} {L L' : mm_L} {S : List Value} {h : mm_H} {r : Option Value × mm_H} (hs : mm_subb L L') (k : mm_Runs d y (pc, L, S, h) r) : mm_Runs d y (pc, L', S, h) r := by
  obtain ⟨n, hn⟩ := k
  exact ⟨n, mm_weakN n (mm_subb_ok hs) hn⟩
