/-! THE SMALL MACHINE'S RUNS ARE THE LARGE ONE'S (written by wip/whole/gen10.py) -/
theorem mm_key {α : Type} {e : α} {a b : Nat} (x y : List α) (hh : e ∈ (bif Nat.blt a b then x else y)) : (a < b ∧ e ∈ x) ∨ (b ≤ a ∧ e ∈ y) := by
  cases hb : Nat.blt a b with
  | true => rw [hb] at hh; exact Or.inl ⟨Nat.le_of_ble_eq_true hb, hh⟩
  | false =>
    rw [hb] at hh
    refine Or.inr ⟨?_, hh⟩
    rcases Nat.lt_or_ge a b with q | q
    · exact absurd ((Nat.ble_eq_true_of_le q).symm.trans hb) (by decide)
    · exact q
theorem mm_vlk {o k z : Nat} (h : mm_find2 (mm_vT o) k = some z) : mm_Pv o (k, z) := by
  have h1 := mm_find2_mem h
  unfold mm_vT at h1
  rcases mm_key _ _ h1 with ⟨q6, h1⟩ | ⟨q6, h1⟩
  · rcases mm_key _ _ h1 with ⟨q3, h1⟩ | ⟨q3, h1⟩
    · rcases mm_key _ _ h1 with ⟨q1, h1⟩ | ⟨q1, h1⟩
      · have e7 : o = 0 := by omega
        subst e7
        exact mv_0 _ h1
      · rcases mm_key _ _ h1 with ⟨q2, h1⟩ | ⟨q2, h1⟩
        · have e7 : o = 1 := by omega
          subst e7
          exact mv_1 _ h1
        · have e7 : o = 2 := by omega
          subst e7
          exact mv_2 _ h1
    · rcases mm_key _ _ h1 with ⟨q4, h1⟩ | ⟨q4, h1⟩
      · have e7 : o = 3 := by omega
        subst e7
        exact mv_3 _ h1
      · rcases mm_key _ _ h1 with ⟨q5, h1⟩ | ⟨q5, h1⟩
        · have e7 : o = 4 := by omega
          subst e7
          exact mv_4 _ h1
        · have e7 : o = 5 := by omega
          subst e7
          exact mv_5 _ h1
  · rcases mm_key _ _ h1 with ⟨q9, h1⟩ | ⟨q9, h1⟩
    · rcases mm_key _ _ h1 with ⟨q7, h1⟩ | ⟨q7, h1⟩
      · have e7 : o = 6 := by omega
        subst e7
        exact mv_6 _ h1
      · rcases mm_key _ _ h1 with ⟨q8, h1⟩ | ⟨q8, h1⟩
        · have e7 : o = 7 := by omega
          subst e7
          exact mv_7 _ h1
        · have e7 : o = 8 := by omega
          subst e7
          exact mv_8 _ h1
    · rcases mm_key _ _ h1 with ⟨q10, h1⟩ | ⟨q10, h1⟩
      · have e7 : o = 9 := by omega
        subst e7
        exact mv_9 _ h1
      · rcases mm_key _ _ h1 with ⟨q11, h1⟩ | ⟨q11, h1⟩
        · have e7 : o = 10 := by omega
          subst e7
          exact mv_10 _ h1
        · exact absurd h1 (by unfold mm_vT_11; exact List.not_mem_nil)
theorem mm_slk {o k z : Nat} (h : mm_find2 (mm_sT o) k = some z) : mm_Ps o (k, z) := by
  have h1 := mm_find2_mem h
  unfold mm_sT at h1
  rcases mm_key _ _ h1 with ⟨q6, h1⟩ | ⟨q6, h1⟩
  · rcases mm_key _ _ h1 with ⟨q3, h1⟩ | ⟨q3, h1⟩
    · rcases mm_key _ _ h1 with ⟨q1, h1⟩ | ⟨q1, h1⟩
      · have e7 : o = 0 := by omega
        subst e7
        exact ms_0 _ h1
      · rcases mm_key _ _ h1 with ⟨q2, h1⟩ | ⟨q2, h1⟩
        · have e7 : o = 1 := by omega
          subst e7
          exact ms_1 _ h1
        · have e7 : o = 2 := by omega
          subst e7
          exact ms_2 _ h1
    · rcases mm_key _ _ h1 with ⟨q4, h1⟩ | ⟨q4, h1⟩
      · have e7 : o = 3 := by omega
        subst e7
        exact ms_3 _ h1
      · rcases mm_key _ _ h1 with ⟨q5, h1⟩ | ⟨q5, h1⟩
        · have e7 : o = 4 := by omega
          subst e7
          exact ms_4 _ h1
        · have e7 : o = 5 := by omega
          subst e7
          exact ms_5 _ h1
  · rcases mm_key _ _ h1 with ⟨q9, h1⟩ | ⟨q9, h1⟩
    · rcases mm_key _ _ h1 with ⟨q7, h1⟩ | ⟨q7, h1⟩
      · have e7 : o = 6 := by omega
        subst e7
        exact ms_6 _ h1
      · rcases mm_key _ _ h1 with ⟨q8, h1⟩ | ⟨q8, h1⟩
        · have e7 : o = 7 := by omega
          subst e7
          exact ms_7 _ h1
        · have e7 : o = 8 := by omega
          subst e7
          exact ms_8 _ h1
    · rcases mm_key _ _ h1 with ⟨q10, h1⟩ | ⟨q10, h1⟩
      · have e7 : o = 9 := by omega
        subst e7
        exact ms_9 _ h1
      · rcases mm_key _ _ h1 with ⟨q11, h1⟩ | ⟨q11, h1⟩
        · have e7 : o = 10 := by omega
          subst e7
          exact ms_10 _ h1
        · exact absurd h1 (by unfold mm_sT_11; exact List.not_mem_nil)
section SY
variable {p : Program} {l : Launch} {e : Env} {R : Room} {s : State} {m : MethodId} {args : Array Value} {below : List Frame} {meth : Method} {c : Code} {cells slots : Nat} {Q : State → Prop} {g : mm_G} {o : Nat} {cc : ByteArray} {pc n : Nat} {L : mm_L} {S : List Value} {h : mm_H} {F : mm_F}
theorem mm_room8 {T : List Value} {r : Nat} (hz : Nat.ble (mm_sz T) 8 = true) (hr : 64 ≤ r) : ((T.map (mm_v g.2.1)).map fun v => v.category).sum + 13 ≤ r := by
  rw [mm_sz_v]
  have := Nat.le_of_ble_eq_true hz
  omega
theorem sx_invokestatic {z : Nat} (X : mm_Cx p R s m args c cells slots g o cc) (hd : decode cc pc = .ok (.invokestatic z, n)) (hn : mm_len (.invokestatic z) n = true) (hf : mm_x o (.invokestatic z) pc L S h = some F) (k : mm_J p l e R s m args below meth c cells slots Q g F) : mm_J p l e R s m args below meth c cells slots Q g (pc, L, S, h) := by
  have e9 : n = 3 := Nat.eq_of_beq_eq_true hn
  subst e9
  obtain ⟨hx, hb, hown, hts, hZ, hR, hcs⟩ := X
  unfold mm_x at hf
  simp only at hf
  split at hf
  · rename_i z9 hz9
    have hP := mm_slk hz9
    cases h1 : Nat.beq z9 1000 with
    | true =>
      rw [h1] at hf
      simp only [cond_true] at hf
      have e1 := Nat.eq_of_beq_eq_true h1
      obtain ⟨x, y, T, rfl, hg⟩ := me_2i hf
      obtain ⟨hz, hg⟩ := me_bif hg
      cases hg
      intro H locs ls hI hS hl hv
      exact va_mmax hx hb hv.1.symm hown (hts _ (hP.2.1 e1)) (hts _ mj_max.1) (hts _ mj_math) (hts _ mj_max.2) hR.1 (mm_room8 hz hR.2) hcs.1 hcs.2 hd (k H locs ls hI hS hl hv)
    | false =>
      rw [h1] at hf
      simp only [cond_false] at hf
      cases h2 : Nat.beq z9 1001 with
      | true =>
        rw [h2] at hf
        simp only [cond_true] at hf
        have e1 := Nat.eq_of_beq_eq_true h2
        obtain ⟨x, y, T, rfl, hg⟩ := me_2i hf
        obtain ⟨hz, hg⟩ := me_bif hg
        cases hg
        intro H locs ls hI hS hl hv
        exact va_mmin hx hb hv.1.symm hown (hts _ (hP.2.2.1 e1)) (hts _ mj_min.1) (hts _ mj_math) (hts _ mj_min.2) hR.1 (mm_room8 hz hR.2) hcs.1 hcs.2 hd (k H locs ls hI hS hl hv)
      | false =>
        rw [h2] at hf
        simp only [cond_false] at hf
        cases h3 : Nat.beq z9 1002 with
        | true =>
          rw [h3] at hf
          simp only [cond_true] at hf
          have e1 := Nat.eq_of_beq_eq_true h3
          obtain ⟨x, T, rfl, hg⟩ := me_1i hf
          obtain ⟨hz, hg⟩ := me_bif hg
          cases hg
          intro H locs ls hI hS hl hv
          exact va_mabs hx hb hv.1.symm hown (hts _ (hP.2.2.2.1 e1)) (hts _ mj_abs.1) (hts _ mj_math) (hts _ mj_abs.2) hR.1 (mm_room8 hz hR.2) hcs.1 hcs.2 hd (k H locs ls hI hS hl hv)
        | false =>
          rw [h3] at hf
          simp only [cond_false] at hf
          obtain ⟨h4, hf⟩ := me_bif hf
          have e1 := Nat.eq_of_beq_eq_true h4
          split at hf
          · rename_i n9 dp q1 sp q0 T _
            obtain ⟨n0, f0, hq0, hf⟩ := me_ai hf
            obtain ⟨n1, f1, hq1, hf⟩ := me_ai hf
            obtain ⟨hin, hf⟩ := me_if hf
            obtain ⟨hz, hf⟩ := me_bif hf
            cases hf
            rw [Bool.and_eq_true, Bool.and_eq_true] at hz
            have hz0 := me_blt hz.2.1
            have hz1 := me_blt hz.2.2
            intro H locs ls hI hS hl hv
            obtain ⟨t0, ht0⟩ := hI.2.2.1 q0 0 _ hz0 hq0
            obtain ⟨t1, ht1⟩ := hI.2.2.1 q1 0 _ hz1 hq1
            have hroom := mm_room8 (g := g) (r := R.locals) hz.1 hR.2
            refine va_copyi (D := g.1) (ty := .int) hx hb hv.1.symm hown (hts _ (hP.2.2.2.2 e1)) (hts _ mj_copy.1) (hts _ mj_copy.2) (hts _ mj_sys) hZ.1 hI.1 hI.2.1 hS (q0 - 2) (q1 - 2) t0 t1 (mm_w_get hz0 hq0) (mm_w_get hz1 hq1) ht0 ht1 rfl
              (fun q => hin (Or.inl q)) (fun q => hin (Or.inr (Or.inl q))) (fun q => hin (Or.inr (Or.inr (Or.inl q)))) (Nat.le_of_not_lt fun q => hin (Or.inr (Or.inr (Or.inr (Or.inl q))))) (Nat.le_of_not_lt fun q => hin (Or.inr (Or.inr (Or.inr (Or.inr q))))) (fun _ _ => rfl) hR.1 ?_ hd (fun H1 locs1 hP1 hD1 hS1 => ?_)
            · have hsz : ((T.map (mm_v g.2.1)).map fun v => v.category).sum ≤ 8 := by rw [mm_sz_v]; exact Nat.le_of_ble_eq_true hz.1
              have e5 : nativeFrameWords "java/lang/System" "arraycopy" 5 = 7 := by decide +kernel
              rw [e5]
              have := hR.2
              omega
            · exact k H1 locs1 ls ⟨by rw [← mm_w_set hz1]; exact hP1, by rw [← mm_w_set hz1]; exact hD1, hI.2.2.1.set hq1, hI.2.2.2.set hz1⟩ hS1 hl hv
          · cases hf
  · cases hf
theorem mm_step {i : Instr} (X : mm_Cx p R s m args c cells slots g o cc) (hd : decode cc pc = .ok (i, n)) (hn : mm_len i n = true) (hf : mm_x o i pc L S h = some F) (k : mm_J p l e R s m args below meth c cells slots Q g F) : mm_J p l e R s m args below meth c cells slots Q g (pc, L, S, h) := by
  cases i with
  | iconst a => exact sx_iconst X hd hn hf k
  | bipush a => exact sx_bipush X hd hn hf k
  | sipush a => exact sx_sipush X hd hn hf k
  | lconst a => exact sx_lconst X hd hn hf k
  | ldc_w a => exact sx_ldc_w X hd hn hf k
  | ldc2_w a => exact sx_ldc2_w X hd hn hf k
  | iload_n a => exact sx_iload_n X hd hn hf k
  | iload a => exact sx_iload X hd hn hf k
  | lload_n a => exact sx_lload_n X hd hn hf k
  | lload a => exact sx_lload X hd hn hf k
  | aload_n a => exact sx_aload_n X hd hn hf k
  | aload a => exact sx_aload X hd hn hf k
  | istore_n a => exact sx_istore_n X hd hn hf k
  | istore a => exact sx_istore X hd hn hf k
  | lstore_n a => exact sx_lstore_n X hd hn hf k
  | lstore a => exact sx_lstore X hd hn hf k
  | astore_n a => exact sx_astore_n X hd hn hf k
  | astore a => exact sx_astore X hd hn hf k
  | iadd => exact sx_iadd X hd hn hf k
  | isub => exact sx_isub X hd hn hf k
  | imul => exact sx_imul X hd hn hf k
  | iand => exact sx_iand X hd hn hf k
  | ior => exact sx_ior X hd hn hf k
  | ixor => exact sx_ixor X hd hn hf k
  | ishl => exact sx_ishl X hd hn hf k
  | ishr => exact sx_ishr X hd hn hf k
  | iushr => exact sx_iushr X hd hn hf k
  | idiv => exact sx_idiv X hd hn hf k
  | irem => exact sx_irem X hd hn hf k
  | ineg => exact sx_ineg X hd hn hf k
  | ladd => exact sx_ladd X hd hn hf k
  | lsub => exact sx_lsub X hd hn hf k
  | land => exact sx_land X hd hn hf k
  | lor => exact sx_lor X hd hn hf k
  | lxor => exact sx_lxor X hd hn hf k
  | lneg => exact sx_lneg X hd hn hf k
  | lshl => exact sx_lshl X hd hn hf k
  | lushr => exact sx_lushr X hd hn hf k
  | lcmp => exact sx_lcmp X hd hn hf k
  | i2l => exact sx_i2l X hd hn hf k
  | l2i => exact sx_l2i X hd hn hf k
  | i2b => exact sx_i2b X hd hn hf k
  | i2s => exact sx_i2s X hd hn hf k
  | dup => exact sx_dup X hd hn hf k
  | dup2 => exact sx_dup2 X hd hn hf k
  | goto a => exact sx_goto X hd hn hf k
  | getfield a => exact sx_getfield X hd hn hf k
  | putfield a => exact sx_putfield X hd hn hf k
  | getstatic a => exact sx_getstatic X hd hn hf k
  | iaload => exact sx_iaload X hd hn hf k
  | laload => exact sx_laload X hd hn hf k
  | baload => exact sx_baload X hd hn hf k
  | aaload => exact sx_aaload X hd hn hf k
  | iastore => exact sx_iastore X hd hn hf k
  | lastore => exact sx_lastore X hd hn hf k
  | bastore => exact sx_bastore X hd hn hf k
  | arraylength => exact sx_arraylength X hd hn hf k
  | invokestatic a => exact sx_invokestatic X hd hn hf k
  | lookupswitch a b => exact sx_lookupswitch X hd hn hf k
  | tableswitch a b c d => exact sx_tableswitch X hd hn hf k
  | iinc a b => exact sx_iinc X hd hn hf k
  | ifCond c d =>
    cases c with
    | eq => exact sx_ifCond_eq X hd hn hf k
    | ne => exact sx_ifCond_ne X hd hn hf k
    | lt => exact sx_ifCond_lt X hd hn hf k
    | ge => exact sx_ifCond_ge X hd hn hf k
    | gt => exact sx_ifCond_gt X hd hn hf k
    | le => exact sx_ifCond_le X hd hn hf k
  | if_icmp c d =>
    cases c with
    | eq => exact sx_if_icmp_eq X hd hn hf k
    | ne => exact sx_if_icmp_ne X hd hn hf k
    | lt => exact sx_if_icmp_lt X hd hn hf k
    | ge => exact sx_if_icmp_ge X hd hn hf k
    | gt => exact sx_if_icmp_gt X hd hn hf k
    | le => exact sx_if_icmp_le X hd hn hf k
  | _ => cases hf
/-- what a method's end says -/
def mm_Qc (g : mm_G) (r : Option Value) (h : mm_H) : Array Value → State → Outcome → State → Prop := fun _ st oc t => oc = .returned (r.map (mm_v g.2.1)) ∧ mm_I g h t.heap ∧ va_F g.2.2.2.2.1 st t
theorem mm_callW {H : Heap} {locs : List Loc} {ls : Array Slot} {st0 rest : List Value} {r : Option Value} {h2 : mm_H} {a : Array Value} (hr : va_Run p l e R s m args below meth c H locs cells slots 0 0 (F0 m pc ls st0) rest (mm_Qc g r h2 a) g.2.2.2.2.1) (hS : va_S g.2.2.2.2.1 s.heap H locs)
    (kk : ∀ (H1 : Heap) (locs1 : List Loc), mm_I g h2 H1 → va_S g.2.2.2.2.1 s.heap H1 locs1 → W p l e R s m args below meth c H1 locs1 cells slots Q (F0 m (pc + 3) ls ((r.map (mm_v g.2.1)).toList ++ rest))) : W p l e R s m args below meth c H locs cells slots Q (F0 m pc ls st0) := by
  intro T hT X
  obtain ⟨v, st₀, t, T', L, h0, X', hL, e1, e2, ⟨hv, hI, hz, hk⟩, st⟩ := hr T hT X
  cases hv
  rw [h0] at hz hk
  obtain ⟨t2, a1, b1⟩ := kk T'.heap (locs ++ L) (by rw [e1]; exact hI)
    ⟨Nat.le_trans hS.1 (by rw [e1]; exact hz), fun q h1 h2 => by rw [e1, hk q (Nat.lt_of_lt_of_le h1 hS.1) h2]; exact hS.2.1 q h1 h2, fun q hq => by
      rcases List.mem_append.mp hq with h | h
      · exact hS.2.2 q h
      · exact hL q h⟩ T' rfl X'
  exact ⟨t2, st t2 a1, b1⟩
def mm_ws (z : Nat) : List Cond := Cond.code (mm_M z).2.1 (mm_M z).2.2.1 (mm_M z).2.2.2.1 (mm_M z).2.2.2.2.1 :: mm_TB
def mm_rm (d : Nat) : Room := { frames := d + 1, cells := 0, slots := 0, locals := 64 * (d + 1) }
def mm_Pre (g : mm_G) (as : List Value) (h : mm_H) : Array Value → State → Prop := va_Pc (as.map (mm_v g.2.1)) (fun U => mm_I g h U.heap ∧ mm_Z g U U.heap)
def mm_MetZ (l : Launch) (g : mm_G) (z d : Nat) (as : List Value) (h : mm_H) (r : Option Value × mm_H) : Prop := Met l (mm_M z).2.1 (mm_ws z) (mm_rm d) (mm_Pre g as h) (mm_Qc g r.1 r.2) 0 0 g.2.2.2.2.1
theorem mm_blind {as : List Value} : FrameBlind (mm_Pre g as h) := fun a U _ _ q => by
  obtain ⟨q0, qI, qZ⟩ := q
  exact ⟨q0, qI, mm_Z.at qZ rfl⟩
theorem mm_good {w : Cond} (hw : w ∈ mm_TB) : w ∈ mm_TB ∧ ((w.onTables && w.keeps) = true ∨ ∃ ty, w = .arrayClass ty) := ⟨hw, (mm_TB_good hw).2⟩
theorem mm_goodW {z : Nat} (hc : mm_cal z) : GoodIn mm_TB (mm_ws z) := by
  intro w hw
  rcases List.mem_cons.mp hw with rfl | hw
  · exact mm_good hc.2.1
  · exact mm_good hw
theorem mm_rm_ok {d z : Nat} (hc : mm_cal z) (hR : d + 2 ≤ R.frames ∧ 64 * (d + 2) ≤ R.locals) : (mm_rm d).frames + 1 ≤ R.frames ∧ 8 + ((mm_M z).2.2.2.1 + 11) + (mm_rm d).locals ≤ R.locals := by
  have h1 := hc.2.2.2.2.1
  refine ⟨hR.1, ?_⟩
  show 8 + ((mm_M z).2.2.2.1 + 11) + 64 * (d + 1) ≤ R.locals
  omega
theorem sx_virtual {z k d : Nat} {S' : List Value} {as : List Value} {r : Option Value × mm_H} (X : mm_Cx p R s m args c cells slots g o cc) (hd : decode cc pc = .ok (.invokevirtual k, n)) (hn : mm_len (.invokevirtual k) n = true) (hR : d + 2 ≤ R.frames ∧ 64 * (d + 2) ≤ R.locals) (hf : mm_call o (.invokevirtual k) S h = some (z, as, S')) (hM : mm_MetZ l g z d as h r) (kk : mm_J p l e R s m args below meth c cells slots Q g (pc + 3, L, r.1.toList ++ S', r.2)) : mm_J p l e R s m args below meth c cells slots Q g (pc, L, S, h) := by
  have e9 : n = 3 := Nat.eq_of_beq_eq_true hn
  subst e9
  obtain ⟨hx, hb, hown, hts, hZ, -, hcs⟩ := X
  unfold mm_call at hf
  simp only at hf
  split at hf
  · rename_i z9 hz9
    split at hf
    · rename_i q T hdr
      split at hf
      · rename_i ci fs hq
        cases hc : Nat.beq ci (mm_M z9).2.2.2.2.2.2 && Nat.ble (mm_sz T) 8 with
        | false => rw [hc] at hf; cases hf
        | true =>
          rw [hc] at hf
          cases hf
          rw [Bool.and_eq_true] at hc
          have eci := Nat.eq_of_beq_eq_true hc.1
          obtain ⟨hl1, hcal, hi1, hi2, hi3⟩ := mm_vlk hz9
          intro H locs ls hI hS hl hv
          have hq1 := hI.2.2.2.ob hq
          obtain ⟨⟨C9, T9, N9⟩, hK9, hC9⟩ : ∃ q9 : vw_C, mm_K[ci]? = some q9 ∧ q9.1 = (mm_M z).2.1.cls := by
            rw [eci]
            cases hh : mm_K[(mm_M z).2.2.2.2.2.2]? with
            | none => rw [hh] at hi3; cases hi3
            | some q9 => rw [hh] at hi3; exact ⟨q9, rfl, Option.some.inj hi3⟩
          have hrec := va_recv hZ.1 hI.1 hK9 (mm_w_get (ad := g.2.1) (ca := g.2.2.1) hq1 hq)
          have hlen : (mm_M z).2.2.2.2.2.1 < S.length := by
            rcases Nat.lt_or_ge (mm_M z).2.2.2.2.2.1 S.length with q9 | q9
            · exact q9
            · rw [List.drop_eq_nil_of_le q9] at hdr; cases hdr
          have hst : S.map (mm_v g.2.1) = (((S.take (mm_M z).2.2.2.2.2.1).reverse).map (mm_v g.2.1)).reverse ++ .ref (g.2.1 q) :: S'.map (mm_v g.2.1) := by
            rw [List.map_reverse, List.reverse_reverse]
            have e1 : S = S.take (mm_M z).2.2.2.2.2.1 ++ (.ref q :: S') := by rw [← hdr, List.take_append_drop]
            conv => lhs; rw [e1]
            rw [List.map_append]
            rfl
          have hrun := va_runV (p := p) (l := l) (e := e) (R := R) (s := s) (m := m) (args := args) (below := below) (meth := meth) (c := c) (H := H) (locs := locs) (cells := cells) (slots := slots) (Ts := mm_TB) (own := mm_nm o) (C := (mm_M z).2.1.cls) (b := g.2.1 q) (As := ((S.take (mm_M z).2.2.2.2.2.1).reverse).map (mm_v g.2.1)) (rest := S'.map (mm_v g.2.1)) (g := F0 m pc ls (S.map (mm_v g.2.1))) ⟨hx, hb, rfl, hown, hts⟩ hM
            (cwV (mm_M z).2.2.2.2.2.1 hts (fun w hw => by
              rcases List.mem_append.mp hw with hw | hw
              · simp only [List.mem_cons, List.not_mem_nil, or_false] at hw
                rcases hw with rfl | rfl | rfl | rfl
                · exact mm_good hl1
                · exact mm_good hi1
                · exact mm_good hi2
                · exact mm_good hcal.1
              · exact mm_goodW hcal w hw) rfl rfl rfl ⟨rfl, hcal.2.2.2.1.1, hcal.2.2.2.1.2.1, hcal.2.2.2.1.2.2⟩ (mm_rm_ok hcal hR))
            ⟨mm_blind, by rw [← hC9]; exact hrec, fun U hU hW => ⟨rfl, by rw [hU]; exact hI, hZ.go hW hU hS⟩⟩ rfl (by rw [List.length_map, List.length_reverse, List.length_take]; omega) hv.1 hst (by
              show 2 * 0 + _ ≤ 8
              rw [mm_sz_v]
              have := Nat.le_of_ble_eq_true hc.2
              omega) hd ⟨hcs.1, hcs.2⟩
          refine mm_callW hrun hS (fun H1 locs1 hI1 hS1 => ?_)
          have k2 := kk H1 locs1 ls hI1 hS1 hl hv
          have e2 : ((r.1.toList ++ S').map (mm_v g.2.1)) = (r.1.map (mm_v g.2.1)).toList ++ S'.map (mm_v g.2.1) := by
            rw [List.map_append]
            cases r.1 <;> rfl
          rw [← e2]
          exact k2
      · cases hf
    · cases hf
  · cases hf
theorem sx_static {z k d : Nat} {S' : List Value} {as : List Value} {r : Option Value × mm_H} (X : mm_Cx p R s m args c cells slots g o cc) (hd : decode cc pc = .ok (.invokestatic k, n)) (hn : mm_len (.invokestatic k) n = true) (hR : d + 2 ≤ R.frames ∧ 64 * (d + 2) ≤ R.locals) (hf : mm_call o (.invokestatic k) S h = some (z, as, S')) (hM : mm_MetZ l g z d as h r) (kk : mm_J p l e R s m args below meth c cells slots Q g (pc + 3, L, r.1.toList ++ S', r.2)) : mm_J p l e R s m args below meth c cells slots Q g (pc, L, S, h) := by
  have e9 : n = 3 := Nat.eq_of_beq_eq_true hn
  subst e9
  obtain ⟨hx, hb, hown, hts, hZ, -, hcs⟩ := X
  have e2 : ((r.1.toList ++ S').map (mm_v g.2.1)) = (r.1.map (mm_v g.2.1)).toList ++ S'.map (mm_v g.2.1) := by
    rw [List.map_append]
    cases r.1 <;> rfl
  unfold mm_call at hf
  simp only at hf
  cases hne : mm_nest o k with
  | true =>
    rw [hne] at hf
    simp only [cond_true] at hf
    split at hf
    · rename_i x T
      cases hc : Nat.ble (mm_sz T) 8 with
      | false => rw [hc] at hf; cases hf
      | true =>
        rw [hc] at hf
        cases hf
        intro H locs ls hI hS hl hv
        have hnw : va_Nw (.methodLinkNest (mm_nm o) k yX6_lowestBit "PondRings") s := by
          unfold mm_nest at hne
          rw [Bool.or_eq_true, Bool.and_eq_true, Bool.and_eq_true] at hne
          rcases hne with ⟨h1, h2⟩ | ⟨h1, h2⟩
          · rw [Nat.eq_of_beq_eq_true h1, Nat.eq_of_beq_eq_true h2]; exact hZ.2.2.2.2.2.1
          · rw [Nat.eq_of_beq_eq_true h1, Nat.eq_of_beq_eq_true h2]; exact hZ.2.2.2.2.2.2.1
        have hcal : mm_cal i_X6_lowestBit := mc_75
        have hrun := va_runSN (p := p) (l := l) (e := e) (R := R) (s := s) (m := m) (args := args) (below := below) (meth := meth) (c := c) (H := H) (locs := locs) (cells := cells) (slots := slots) (Ts := mm_TB) (own := mm_nm o) (host := "PondRings") (As := [Value.long x]) (rest := S'.map (mm_v g.2.1)) (g := F0 m pc ls (Value.long x :: S'.map (mm_v g.2.1))) ⟨hx, hb, rfl, hown, hts⟩ hM
          ⟨va_cnB 1 hts (mm_goodW hcal) rfl rfl rfl hnw (hts _ hcal.1) ⟨hcal.2.2.2.1.1, hcal.2.2.2.1.2.1, hcal.2.2.2.1.2.2⟩ (mm_rm_ok hcal hR), hts _ mst_75, trivial⟩
          ⟨mm_blind, fun U hU hW => ⟨rfl, by rw [hU]; exact hI, hZ.go hW hU hS⟩⟩ rfl rfl hv.1 rfl (by
              show 2 * 0 + _ ≤ 8
              rw [mm_sz_v]
              have := Nat.le_of_ble_eq_true hc
              omega) hd ⟨hcs.1, hcs.2⟩
        refine mm_callW hrun hS (fun H1 locs1 hI1 hS1 => ?_)
        have k2 := kk H1 locs1 ls hI1 hS1 hl hv
        rw [← e2]
        exact k2
    · cases hf
  | false =>
    rw [hne] at hf
    simp only [cond_false] at hf
    split at hf
    · rename_i z9 hz9
      cases hc : Nat.blt z9 1000 && (Nat.ble (mm_M z9).2.2.2.2.2.1 S.length && Nat.ble (mm_sz (S.drop (mm_M z9).2.2.2.2.2.1)) 8) with
      | false => rw [hc] at hf; cases hf
      | true =>
        rw [hc] at hf
        cases hf
        rw [Bool.and_eq_true, Bool.and_eq_true] at hc
        obtain ⟨hl1, hcal, hst1⟩ := (mm_slk hz9).1 (me_blt hc.1)
        have hlen := Nat.le_of_ble_eq_true hc.2.1
        intro H locs ls hI hS hl hv
        have hst : S.map (mm_v g.2.1) = (((S.take (mm_M z).2.2.2.2.2.1).reverse).map (mm_v g.2.1)).reverse ++ (S.drop (mm_M z).2.2.2.2.2.1).map (mm_v g.2.1) := by
          rw [List.map_reverse, List.reverse_reverse, ← List.map_append, List.take_append_drop]
        have hrun := va_runS (p := p) (l := l) (e := e) (R := R) (s := s) (m := m) (args := args) (below := below) (meth := meth) (c := c) (H := H) (locs := locs) (cells := cells) (slots := slots) (Ts := mm_TB) (own := mm_nm o) (As := ((S.take (mm_M z).2.2.2.2.2.1).reverse).map (mm_v g.2.1)) (rest := (S.drop (mm_M z).2.2.2.2.2.1).map (mm_v g.2.1)) (g := F0 m pc ls (S.map (mm_v g.2.1))) ⟨hx, hb, rfl, hown, hts⟩ hM
          (va_cwS (mm_M z).2.2.2.2.2.1 hts (fun w hw => by
              rcases List.mem_append.mp hw with hw | hw
              · simp only [List.mem_cons, List.not_mem_nil, or_false] at hw
                rcases hw with rfl | rfl | rfl
                · exact mm_good hl1
                · exact mm_good hst1
                · exact mm_good hcal.1
              · exact mm_goodW hcal w hw) rfl rfl rfl ⟨hcal.2.2.2.1.1, hcal.2.2.2.1.2.1, hcal.2.2.2.1.2.2⟩ (mm_rm_ok hcal hR))
          ⟨mm_blind, fun U hU hW => ⟨rfl, by rw [hU]; exact hI, hZ.go hW hU hS⟩⟩ rfl (by rw [List.length_map, List.length_reverse, List.length_take]; omega) hv.1 hst (by
              show 2 * 0 + _ ≤ 8
              rw [mm_sz_v]
              have := Nat.le_of_ble_eq_true hc.2.2
              omega) hd ⟨hcs.1, hcs.2⟩
        refine mm_callW hrun hS (fun H1 locs1 hI1 hS1 => ?_)
        have k2 := kk H1 locs1 ls hI1 hS1 hl hv
        rw [← e2]
        exact k2
    · cases hf
theorem sx_call {i : Instr} {z d : Nat} {S' : List Value} {as : List Value} {r : Option Value × mm_H} (X : mm_Cx p R s m args c cells slots g o cc) (hd : decode cc pc = .ok (i, n)) (hn : mm_len i n = true) (hR : d + 2 ≤ R.frames ∧ 64 * (d + 2) ≤ R.locals) (hf : mm_call o i S h = some (z, as, S')) (hM : mm_MetZ l g z d as h r) (kk : mm_J p l e R s m args below meth c cells slots Q g (pc + 3, L, r.1.toList ++ S', r.2)) : mm_J p l e R s m args below meth c cells slots Q g (pc, L, S, h) := by
  cases i with
  | invokevirtual k => exact sx_virtual X hd hn hR hf hM kk
  | invokestatic k => exact sx_static X hd hn hR hf hM kk
  | _ => cases hf
end SY
