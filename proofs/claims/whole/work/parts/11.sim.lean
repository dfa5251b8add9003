/-! THE SMALL MACHINE'S RUNS ARE THE LARGE ONE'S: the main row -/
theorem mm_lay_len (ad : Nat → Nat) : ∀ as : List Value, (lg_sl (as.map (mm_v ad))).length = (mm_lay as).length
  | [] => rfl
  | v :: t => by
    have h := mm_lay_len ad t
    unfold lg_sl at h ⊢
    rw [List.map_cons, List.flatMap_cons, List.length_append, h, mm_v_cat]
    rw [show mm_lay (v :: t) = (bif Nat.beq v.category 2 then some v :: none :: mm_lay t else some v :: mm_lay t) from rfl]
    cases hb : Nat.beq v.category 2 with
    | true => rw [if_pos (Nat.eq_of_beq_eq_true hb)]; simp only [cond_true, List.length_cons, List.length_nil]; omega
    | false =>
      rw [if_neg (fun q => by rw [q] at hb; cases hb)]
      simp only [cond_false, List.length_cons, List.length_nil]
      omega
theorem mm_lay_args (ad : Nat → Nat) : ∀ (as : List Value) (k j : Nat) (u : Value), (mm_lay as)[j]? = some (some u) → (k + j, mm_v ad u) ∈ lv_args k (as.map (mm_v ad))
  | [], k, j, u, h => by simp [mm_lay] at h
  | v :: t, k, j, u, h => by
    unfold mm_lay at h
    show (k + j, mm_v ad u) ∈ (k, mm_v ad v) :: lv_args (if (mm_v ad v).category = 2 then k + 2 else k + 1) (t.map (mm_v ad))
    rw [mm_v_cat]
    cases hb : Nat.beq v.category 2 with
    | true =>
      rw [hb] at h
      simp only [cond_true] at h
      rw [if_pos (Nat.eq_of_beq_eq_true hb)]
      match j, h with
      | 0, h => cases h; exact List.mem_cons_self
      | 1, h => cases h
      | j + 2, h =>
        have h2 := mm_lay_args ad t (k + 2) j u h
        rw [show k + (j + 2) = k + 2 + j by omega]
        exact List.mem_cons_of_mem _ h2
    | false =>
      rw [hb] at h
      simp only [cond_false] at h
      rw [if_neg (fun q => by rw [q] at hb; cases hb)]
      match j, h with
      | 0, h => cases h; exact List.mem_cons_self
      | j + 1, h =>
        have h2 := mm_lay_args ad t (k + 1) j u h
        rw [show k + (j + 1) = k + 1 + j by omega]
        exact List.mem_cons_of_mem _ h2
theorem mm_ent_len {n : Nat} {as : List Value} (h : (mm_lay as).length ≤ n) : (mm_ent n as).length = n := by
  unfold mm_ent
  rw [List.length_append, List.length_replicate]
  omega
theorem mm_ent_has {ad : Nat → Nat} {n : Nat} {as : List Value} {ls : Array Slot} (h : lv_has ls n (lv_args 0 (as.map (mm_v ad)))) : lv_has ls n (mm_lp ad (mm_ent n as)) := by
  refine mm_lp_sub h ?_
  rintro ⟨j, x⟩ hq
  obtain ⟨u, h1, h2⟩ := mm_lp_mem.mp hq
  simp only at h1 h2
  subst h2
  unfold mm_ent at h1
  rcases Nat.lt_or_ge j (mm_lay as).length with q | q
  · rw [List.getElem?_append_left q] at h1
    have h3 := mm_lay_args ad as 0 j u h1
    rw [Nat.zero_add] at h3
    exact h3
  · rw [List.getElem?_append_right q, List.getElem?_replicate] at h1
    split at h1 <;> cases h1
theorem mm_call_cal {o z : Nat} {i : Instr} {S as S' : List Value} {h : mm_H} (hf : mm_call o i S h = some (z, as, S')) : mm_cal z := by
  unfold mm_call at hf
  split at hf
  · split at hf
    · rename_i z9 hz9
      split at hf
      · split at hf
        · cases hc : Nat.beq _ (mm_M z9).2.2.2.2.2.2 && Nat.ble (mm_sz _) 8 with
          | false => rw [hc] at hf; cases hf
          | true => rw [hc] at hf; cases hf; exact (mm_vlk hz9).2.1
        · cases hf
      · cases hf
    · cases hf
  · rename_i k
    cases hne : mm_nest o k with
    | true =>
      rw [hne] at hf
      simp only [cond_true] at hf
      split at hf
      · cases hc : Nat.ble (mm_sz _) 8 with
        | false => rw [hc] at hf; cases hf
        | true => rw [hc] at hf; cases hf; exact mc_75
      · cases hf
    | false =>
      rw [hne] at hf
      simp only [cond_false] at hf
      split at hf
      · rename_i z9 hz9
        cases hc : Nat.blt z9 1000 && (Nat.ble (mm_M z9).2.2.2.2.2.1 S.length && Nat.ble (mm_sz (S.drop (mm_M z9).2.2.2.2.2.1)) 8) with
        | false => rw [hc] at hf; cases hf
        | true =>
          rw [hc] at hf
          cases hf
          rw [Bool.and_eq_true] at hc
          exact ((mm_slk hz9).1 (me_blt hc.1)).2.1
      · cases hf
  · cases hf
theorem mm_ret_of {rt : Option FieldType} {i : Instr} {S : List Value} {r : Option Value} (h : mm_ret rt i S = some r) :
    (i = .ireturn ∧ ∃ v : Int32, S = [.int v] ∧ r = some (.int v) ∧ (rt = some .int ∨ (rt = some .boolean ∧ (v = 0 ∨ v = 1)))) ∨ (i = .lreturn ∧ ∃ v : Int64, S = [.long v] ∧ r = some (.long v) ∧ rt = some .long) ∨ (i = .return_ ∧ S = [] ∧ r = none ∧ rt = none) := by
  unfold mm_ret at h
  split at h
  · split at h
    · cases h; exact Or.inl ⟨rfl, _, rfl, rfl, Or.inl rfl⟩
    · split at h
      · rename_i hv
        cases h
        exact Or.inl ⟨rfl, _, rfl, rfl, Or.inr ⟨rfl, hv⟩⟩
      · cases h
    · cases h
  · split at h
    · cases h; exact Or.inr (Or.inl ⟨rfl, _, rfl, rfl, rfl⟩)
    · cases h
  · split at h
    · cases h; exact Or.inr (Or.inr ⟨rfl, rfl, rfl, rfl⟩)
    · cases h
  · cases h
/-- a frame's run -/
def mm_Sim (l : Launch) (g : mm_G) (n : Nat) : Prop := ∀ (d y : Nat) (F : mm_F) (r : Option Value × mm_H), mm_run n d y F = some r → ∀ {p : Program} {e : Env} {R : Room} {s : State} {m : MethodId} {args : Array Value} {below : List Frame} {meth : Method} {c : Code} {cells slots : Nat} {Q : State → Prop},
  mm_Cx p R s m args c cells slots g (mm_M y).2.2.2.2.2.2 (mm_M y).2.2.1 → (d + 1 ≤ R.frames ∧ 64 * (d + 1) ≤ R.locals) →
  (∀ (H : Heap) (locs : List Loc) (ls : Array Slot) (pc : Nat) (i : Instr) (S : List Value), mm_I g r.2 H → va_S g.2.2.2.2.1 s.heap H locs → decode (mm_M y).2.2.1 pc = .ok (i, 1) → mm_ret (mm_M y).2.2.2.2.1 i S = some r.1 → W p l e R s m args below meth c H locs cells slots Q (F0 m pc ls (S.map (mm_v g.2.1)))) →
  mm_J p l e R s m args below meth c cells slots Q g F
theorem mm_met {l : Launch} {g : mm_G} {n d z : Nat} {as : List Value} {h : mm_H} {r : Option Value × mm_H} (ih : mm_Sim l g n) (hcal : mm_cal z) (hlen : (mm_lay as).length ≤ (mm_M z).2.2.2.1) (hrun : mm_run n d z (0, mm_ent (mm_M z).2.2.2.1 as, [], h) = some r) : mm_MetZ l g z d as h r := by
  refine Met.ofW (cc := (mm_M z).2.2.1) (maxL := (mm_M z).2.2.2.1) (ret := (mm_M z).2.2.2.2.1) hcal.2.2.1 rfl ?_
  intro p e s m args below meth c s₁ B hml hv
  obtain ⟨rfl, hI, hZ⟩ := hv
  have hx := B.exec
  have hb := B.bytes
  have hr := B.returns
  have hts := atoms_spec (ws := mm_ws z) B.pre
  have hown : s.vm.findClass (mm_M z).2.1.cls = some m.cls := findClass_of_methodNamed B.named
  have hlocks := B.notSynchronized
  rw [lg_entry_eq]
  have hl := lv_entry (as.map (mm_v g.2.1)) (n := (mm_M z).2.2.2.1) (by rw [mm_lay_len]; exact hlen)
  generalize (lg_sl (as.map (mm_v g.2.1)) ++ List.replicate ((mm_M z).2.2.2.1 - (lg_sl (as.map (mm_v g.2.1))).length) Slot.unset).toArray = ls at hl ⊢
  have hR1 : d + 1 ≤ (headSpec (mm_ws z) (mm_rm d)).room.frames ∧ 64 * (d + 1) ≤ (headSpec (mm_ws z) (mm_rm d)).room.locals := ⟨Nat.le_refl _, Nat.le_refl _⟩
  have hJ := ih d z _ r hrun (p := p) (e := e) (R := (headSpec (mm_ws z) (mm_rm d)).room) (s := s) (m := m) (args := (as.map (mm_v g.2.1)).toArray) (below := below) (meth := meth) (c := c) (cells := 0) (slots := 0) (Q := MQ below (mm_Qc g r.1 r.2) (as.map (mm_v g.2.1)).toArray s 0 0 g.2.2.2.2.1)
    ⟨hx, hb, by rw [hcal.2.2.2.2.2]; exact hown, fun w hw => hts w (List.mem_cons_of_mem _ hw), hZ, ⟨Nat.le_trans (Nat.le_add_left 1 d) hR1.1, Nat.le_trans (by omega) hR1.2⟩, ⟨Nat.zero_le _, Nat.zero_le _⟩⟩ hR1 (by
      intro H locs ls2 pc i S hI2 hS2 hd2 hret
      rcases mm_ret_of hret with ⟨rfl, v, rfl, e2, h3⟩ | ⟨rfl, v, rfl, e2, h3⟩ | ⟨rfl, rfl, e2, h3⟩
      · rcases h3 with h3 | ⟨h3, h4⟩
        · exact W.iret (v := v) hx hb (hr.trans h3) (fun t ht hW => ⟨by rw [e2]; rfl, by rw [ht]; exact hI2, hS2.F ht⟩) hS2.2.2 hd2
        · exact W.zret (v := v) (ty := .boolean) hx hb (hr.trans h3) (mm_nb h4).1 (fun t ht hW => ⟨by rw [e2]; rfl, by rw [ht]; exact hI2, hS2.F ht⟩) hS2.2.2 hd2
      · exact W.lret (v := v) hx hb (hr.trans h3) (fun t ht hW => ⟨by rw [e2]; rfl, by rw [ht]; exact hI2, hS2.F ht⟩) hS2.2.2 hd2
      · exact W.vret hx hb (hr.trans h3) (fun t ht hW => ⟨by rw [e2]; rfl, by rw [ht]; exact hI2, hS2.F ht⟩) hS2.2.2 hd2)
  exact hJ s.heap [] ls hI va_S.rf (by rw [hml]; exact mm_ent_len hlen) (by rw [hml]; exact mm_ent_has hl)
theorem mm_sim (l : Launch) (g : mm_G) : ∀ n : Nat, mm_Sim l g n
  | 0 => by
    intro d y F r hrun
    cases hrun
  | n + 1 => by
    intro d y F r hrun p e R s m args below meth c cells slots Q X hR hend
    obtain ⟨pc, L, S, h⟩ := F
    have ih := mm_sim l g n
    unfold mm_run at hrun
    split at hrun
    · cases hrun
    · rename_i i hfind
      obtain ⟨len, hd, hlen⟩ := mm_dec hfind
      split at hrun
      · rename_i r0 hr0
        cases hrun
        intro H locs ls hI hS hl hv
        have hlen1 : len = 1 := by
          rcases mm_ret_of hr0 with ⟨rfl, -⟩ | ⟨rfl, -⟩ | ⟨rfl, -⟩ <;> exact Nat.eq_of_beq_eq_true hlen
        subst hlen1
        exact hend H locs ls pc i S hI hS hd hr0
      · split at hrun
        · rename_i z as S' hcall
          split at hrun
          · cases hrun
          · rename_i d'
            cases hb : Nat.ble (mm_lay as).length (mm_M z).2.2.2.1 with
            | false => rw [hb] at hrun; cases hrun
            | true =>
              rw [hb] at hrun
              simp only [cond_true] at hrun
              split at hrun
              · cases hrun
              · rename_i r1 h1 hrun1
                have hM := mm_met (r := (r1, h1)) ih (mm_call_cal hcall) (Nat.le_of_ble_eq_true hb) hrun1
                exact sx_call X hd hlen ⟨hR.1, hR.2⟩ hcall hM (ih (d' + 1) y _ r hrun X hR hend)
        · split at hrun
          · cases hrun
          · rename_i F2 hF2
            exact mm_step X hd hlen hF2 (ih d y F2 r hrun X hR hend)
