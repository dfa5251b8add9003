-- ===== end of PART A; then your names; then what follows =====
/-! THE CLAIM OUT OF ONE WALK OF THE LAW'S BODY. Your part is whole_start (and what it stands on); all else here is the same for every law, but numbers. -/
def R_law : String := "PondRingsLaw"
def lw_P (b : Addr) (xs : List Int32) (args : Array Value) (s : State) : Prop := args = #[.ref b] ∧ s.IntsAt b xs ∧ xs.length ≤ 3072 ∧ (Jvm.Cond.and given_1 narrow_1).before args s = true
def lw_Q (_ : Array Value) (s : State) (o : Outcome) (t : State) : Prop := o = .returned (some (.int 1)) ∧ Framed s o t [] 600000 7302250
def lw_Z (below : List Frame) (a : Array Value) (s : State) : State → Prop := fun t => ∃ o, t.status = .running ∧ Ended t below o ∧ lw_Q a s o t
/-- the law's own end, with 1 on the stack, nothing written that was there before, its room as the claim has it -/
theorem lw_ret {p : Program} {l : Launch} {e : Env} {s : State} {m : MethodId} {below : List Frame} {meth : Method} {c : Code} {b : Nat} (hx : p.tables.exec = Jvm.exec) (hb : c.code = code) (hr : meth.sig.returnType = ret) (hlocks : meth.locks = false) {pc : Nat} {H : Heap} {ls : Array Slot} (hdg : decode code pc = .ok (.ireturn, 1)) : W p l e room_1 s m #[Value.ref b] below meth c H [] 600000 7302250 (lw_Z below #[Value.ref b] s) (F0 m pc ls [.int 1]) := by
  intro T hT X
  obtain ⟨fs, hret, hrun, hended, hW, hframe⟩ := X.leave (v := some (.int 1)) (hlocks := hlocks) (fun h => by rw [hr] at h; cases h)
  have hmeth' : T.vm.method? m = some meth := X.method'
  refine ⟨T.setFrames fs, ?_, .returned (some (.int 1)), hrun, hended, rfl, ⟨_, rfl⟩, hW, hframe⟩
  jvm_step X.here [X.here.top, hx, hb, hdg, hmeth', hr, ret, narrow_b1]
  (try refine ⟨rfl, ?_⟩); (try refine ⟨rfl, ?_⟩)
  first | (intro acts; rw [hret _ acts rfl rfl rfl]) | rw [hret _ _ rfl rfl rfl]
  exact Steps.refl _
/-- what holds at the law's entry: the machine, the code, the tables' words (any of lw_tbl by 'hts w (by decide +kernel)'), the script of L ints xs at the cell b, what the Statement gives of the start (any of its parts by flat_of_before) -/
def lw_At (p : Program) (s : State) (m : MethodId) (meth : Method) (c : Code) (b L : Nat) (xs : Nat → Int32) : Prop :=
  p.tables.exec = Jvm.exec ∧ c.code = code ∧ meth.sig.returnType = ret ∧ c.maxLocals = 4 ∧ s.vm.findClass R_law = some m.cls ∧ (∀ w ∈ lw_tbl, w.before #[Value.ref b] s = true) ∧ va_X b L xs s s.heap ∧ b < s.heap.size ∧ meth.locks = false ∧ (Jvm.Cond.and given_1 narrow_1).before #[Value.ref b] s = true

theorem ln_1 : Cond.methodLinkNest RX6 17 yX4_init "PondRings" ∈ lw_tbl := (List.mem_append_right _ (List.mem_append_left _ (List.mem_of_getElem? (i := 25) (by decide +kernel))))
theorem ln_2 : Cond.methodLinkNest RX6 20 yX3_init "PondRings" ∈ lw_tbl := (List.mem_append_right _ (List.mem_append_left _ (List.mem_of_getElem? (i := 49) (by decide +kernel))))
theorem ln_3 : Cond.methodLinkNest RX6 27 yX2_init "PondRings" ∈ lw_tbl := (List.mem_append_right _ (List.mem_append_left _ (List.mem_of_getElem? (i := 68) (by decide +kernel))))
theorem ln_4 : Cond.methodLinkNest RX6 49 yX1_init "PondRings" ∈ lw_tbl := (List.mem_append_right _ (List.mem_append_left _ (List.mem_of_getElem? (i := 129) (by decide +kernel))))
theorem ln_5 : Cond.methodLinkNest RX6 56 yX5_init "PondRings" ∈ lw_tbl := (List.mem_append_right _ (List.mem_append_left _ (List.mem_of_getElem? (i := 144) (by decide +kernel))))
theorem ln_6 : Cond.arrayOver (.object "PondRings$Sheet") ∈ lw_tbl := (List.mem_append_right _ (List.mem_append_left _ (List.mem_of_getElem? (i := 23) (by decide +kernel))))
theorem ln_7 : Cond.methodLinkNest RX1 49 yX6_lowestBit "PondRings" ∈ lw_tbl := (List.mem_append_right _ (List.mem_append_right _ (List.mem_append_left _ (List.mem_of_getElem? (i := 119) (by decide +kernel)))))
theorem ln_8 : Cond.methodLinkNest RX5 65 yX6_lowestBit "PondRings" ∈ lw_tbl := (List.mem_append_right _ (List.mem_append_right _ (List.mem_append_left _ (List.mem_of_getElem? (i := 166) (by decide +kernel)))))
theorem ln_9 : Cond.fieldLinkNest RX0 25 "PondRings" "REACH" "[I" "PondRings" ∈ lw_tbl := (List.mem_append_right _ (List.mem_append_right _ (List.mem_append_left _ (List.mem_of_getElem? (i := 79) (by decide +kernel)))))
theorem ln_10 : Cond.laysStatic "PondRings" "REACH" "[I" ∈ lw_tbl := (List.mem_append_right _ (List.mem_append_right _ (List.mem_append_left _ (List.mem_of_getElem? (i := 80) (by decide +kernel)))))
theorem mm_TB_in {w : Cond} (h : w ∈ mm_TB) : w ∈ lw_tbl := (List.mem_filter.mp h).1
theorem ll_7 : Cond.classLink R_law 7 RX6 ∈ mm_TB := (mm_t1 (w := .classLink R_law 7 RX6) 14 (by decide +kernel) (by decide +kernel))
theorem ll_10 : Cond.classLink R_law 10 RX7 ∈ mm_TB := (mm_t3 (w := .classLink R_law 10 RX7) 132 (by decide +kernel) (by decide +kernel))
theorem lm_9 : Cond.methodLink R_law 9 yX6_init ∈ mm_TB := (mm_t1 (w := .methodLink R_law 9 yX6_init) 16 (by decide +kernel) (by decide +kernel))
theorem lm_12 : Cond.methodLink R_law 12 yX7_init ∈ mm_TB := (mm_t3 (w := .methodLink R_law 12 yX7_init) 134 (by decide +kernel) (by decide +kernel))
theorem dl_0 : decode code 0 = .ok (.new 7, 3) := by decide +kernel
theorem dl_3 : decode code 3 = .ok (.dup, 1) := by decide +kernel
theorem dl_4 : decode code 4 = .ok (.invokespecial 9, 3) := by decide +kernel
theorem dl_7 : decode code 7 = .ok (.astore_n 1, 1) := by decide +kernel
theorem dl_8 : decode code 8 = .ok (.new 10, 3) := by decide +kernel
theorem dl_11 : decode code 11 = .ok (.dup, 1) := by decide +kernel
theorem dl_12 : decode code 12 = .ok (.invokespecial 12, 3) := by decide +kernel
theorem dl_15 : decode code 15 = .ok (.astore_n 2, 1) := by decide +kernel
theorem dl_16 : decode code 16 = .ok (.iconst 0, 1) := by decide +kernel
theorem dl_17 : decode code 17 = .ok (.istore_n 3, 1) := by decide +kernel
theorem mc_N.warm {s U : State} (hW : s.WarmedH U.vm) (h : mc_N s) : mc_N U := ⟨h.1.warmM hW, h.2.1.warmM hW, h.2.2.1.warmM hW, h.2.2.2.1.warmM hW, h.2.2.2.2.1.warmM hW, va_AO.moved hW.alike h.2.2.2.2.2⟩
theorem mc_N.same {u U : State} (hvm : u.vm = U.vm) (h : mc_N u) : mc_N U := ⟨h.1.same rfl hvm, h.2.1.same rfl hvm, h.2.2.1.same rfl hvm, h.2.2.2.1.same rfl hvm, h.2.2.2.2.1.same rfl hvm, va_AO.moved (by rw [hvm]; exact Vm.Alike.refl U.vm) h.2.2.2.2.2⟩
/-- the numbers behind the constructors: all 0, but for the model's sorts -/
def s0 : mm_S := (fun _ => 0, fun _ => 0, fun q => bif Nat.beq q 38 then (upd (upd (upd (upd (fun _ => 0) 0 (-9 : Int32)) 1 (-9 : Int32)) 2 (-9 : Int32)) 3 (-9 : Int32)) else fun _ => 0, fun _ _ => 0)
/-- THE LAW'S LOOP IN THE SMALL MACHINE: what is left to be shown -/
def law_runs : Prop := ∀ (L : Nat) (xs : Nat → Int32), L ≤ 3072 → ∃ (n : Nat) (h : mm_H), mm_run n 1000 i_L_law (18, [some (.ref 1), some (.ref 2), some (.ref 37), some (.int 0)], [], HH (L, xs) s0) = some (some (.int 1), h)
theorem whole_loop (hruns : law_runs) {p : Program} {l : Launch} {e : Env} {s : State} {m : MethodId} {below : List Frame} {meth : Method} {c : Code} {b L cells slots : Nat} {xs : Nat → Int32} (hL : L ≤ 3072) (C0 : lw_At p s m meth c b L xs) (g : mm_G) (hg1 : g.2.2.2.2.1 = fun q : Nat => s.heap.size ≤ q) (hg2 : g.2.2.2.2.2.1 = L) (hg3 : g.2.2.2.2.2.2 = xs) (hx : p.tables.exec = Jvm.exec) (hb : c.code = code) (hr : meth.sig.returnType = ret) (hml : c.maxLocals = 4) (hown : s.vm.findClass R_law = some m.cls) (htb : ∀ w ∈ mm_TB, w.before #[Value.ref b] s = true) (hlocks : meth.locks = false)
    (hZ : mm_Z g s s.heap) {H : Heap} {locs : List Loc} {ls : Array Slot} (hI : mm_I g (HH (L, xs) s0) H) (hS : va_S g.2.2.2.2.1 s.heap H locs) (hl : lv_has ls 4 [(3, .int 0), (2, .ref (g.2.1 37)), (1, .ref (g.2.1 2)), (0, .ref (g.2.1 1))]) (hc : cells ≤ 600000) (hs : slots ≤ 7302250) : W p l e room_1 s m #[Value.ref b] below meth c H locs cells slots (lw_Z below #[Value.ref b] s) (F0 m 18 ls []) := by
  obtain ⟨n, h2, hrun⟩ := hruns L xs hL
  refine mm_sim l g n 1000 i_L_law _ _ hrun (p := p) (e := e) (R := room_1) (s := s) (m := m) (args := #[Value.ref b]) (below := below) (meth := meth) (c := c) (cells := cells) (slots := slots) (Q := lw_Z below #[Value.ref b] s)
    ⟨hx, hb, hown, htb, hZ, ⟨Nat.le_of_ble_eq_true rfl, Nat.le_of_ble_eq_true rfl⟩, ⟨hc, hs⟩⟩ ⟨Nat.le_of_ble_eq_true rfl, Nat.le_of_ble_eq_true rfl⟩ ?_ H locs ls hI hS hml.symm ?_
  · intro H2 locs2 ls2 pc i S hI2 hS2 hd2 hret
    rcases mm_ret_of hret with ⟨rfl, v, rfl, e2, h3⟩ | ⟨rfl, v, rfl, e2, h3⟩ | ⟨rfl, rfl, e2, h3⟩
    · cases e2
      refine va_forget (fun q hq => by have := hS2.2.2 q hq; rw [hg1] at this; exact this) ?_
      refine W.widen (k := 600000) (n := 7302250) hc hs ?_
      exact lw_ret hx hb hr hlocks hd2
    · cases e2
    · cases e2
  · rw [hml]
    refine mm_lp_sub hl ?_
    rintro ⟨j, y⟩ hq
    obtain ⟨u, h5, h6⟩ := mm_lp_mem.mp hq
    simp only at h5 h6
    subst h6
    match j, h5 with
    | 0, h5 => cases h5; simp [mm_v]
    | 1, h5 => cases h5; simp [mm_v]
    | 2, h5 => cases h5; simp [mm_v]
    | 3, h5 => cases h5; simp [mm_v]
    | j + 4, h5 => cases h5
def mm_wl (ad : Nat → Nat) (ca : Nat → ClassId) : Nat → mm_H → va_W
  | _, [] => []
  | k, c :: t => (ad k, mm_e ad ca k c) :: mm_wl ad ca (k + 1) t
theorem mm_wl_eq (ad : Nat → Nat) (ca : Nat → ClassId) : ∀ (h : mm_H) (k : Nat), (h.mapIdx fun i c => (ad (i + k), mm_e ad ca (i + k) c)) = mm_wl ad ca k h
  | [], _ => rfl
  | c :: t, k => by
    rw [List.mapIdx_cons, mm_wl, ← mm_wl_eq ad ca t (k + 1)]
    simp only [Nat.zero_add]
    congr 1
    have e : (fun (i : Nat) (c : mm_C) => (ad (i + 1 + k), mm_e ad ca (i + 1 + k) c)) = (fun (i : Nat) (c : mm_C) => (ad (i + (k + 1)), mm_e ad ca (i + (k + 1)) c)) := by
      funext i c
      rw [show i + 1 + k = i + (k + 1) by omega]
    rw [e]
theorem mm_w_s0 (ad : Nat → Nat) (ca : Nat → ClassId) (L : Nat) (xs : Nat → Int32) : mm_w ad ca (HH (L, xs) s0) = [(ad 2, .inr (6, [.ref (ad 3), .ref (ad 12), .ref (ad 13), .ref (ad 16), .ref (ad 20), .ref (ad 24), .ref (ad 28), .ref (ad 29), .ref (ad 36), .int (0 : Int32), .int (0 : Int32)])), (ad 3, .inl (ca 3, 4, .inr (.inr (.inr (.inr (fun j : Nat => (mm_she j).map ad)))))), (ad 4, .inr (4, [.ref (ad 8), .int 0, .int 0, .int 0])), (ad 5, .inr (4, [.ref (ad 9), .int 0, .int 0, .int 0])), (ad 6, .inr (4, [.ref (ad 10), .int 0, .int 0, .int 0])), (ad 7, .inr (4, [.ref (ad 11), .int 0, .int 0, .int 0])), (ad 8, .inl (ca 8, 60, .inl (fun _ => 0))), (ad 9, .inl (ca 9, 60, .inl (fun _ => 0))), (ad 10, .inl (ca 10, 60, .inl (fun _ => 0))), (ad 11, .inl (ca 11, 60, .inl (fun _ => 0))), (ad 12, .inr (3, [.int 0, .int 0, .long 0])), (ad 13, .inr (2, [.ref (ad 14), .ref (ad 15), .long 0, .long 0, .long 0, .int 0, .int 0, .long 0])), (ad 14, .inl (ca 14, 1764, .inr (.inl (fun _ => 0)))), (ad 15, .inl (ca 15, 42, .inl (fun _ => 0))), (ad 16, .inr (0, [.ref (ad 17), .ref (ad 18), .ref (ad 19), .int 0])), (ad 17, .inl (ca 17, 8, .inl (fun _ => 0))), (ad 18, .inl (ca 18, 8, .inl (fun _ => 0))), (ad 19, .inl (ca 19, 8, .inl (fun _ => 0))), (ad 20, .inr (0, [.ref (ad 21), .ref (ad 22), .ref (ad 23), .int 0])), (ad 21, .inl (ca 21, 6, .inl (fun _ => 0))), (ad 22, .inl (ca 22, 6, .inl (fun _ => 0))), (ad 23, .inl (ca 23, 6, .inl (fun _ => 0))), (ad 24, .inr (0, [.ref (ad 25), .ref (ad 26), .ref (ad 27), .int 0])), (ad 25, .inl (ca 25, 6, .inl (fun _ => 0))), (ad 26, .inl (ca 26, 6, .inl (fun _ => 0))), (ad 27, .inl (ca 27, 6, .inl (fun _ => 0))), (ad 28, .inr (1, [.int 0, .int 0])), (ad 29, .inr (5, [.ref (ad 30), .ref (ad 31), .ref (ad 32), .ref (ad 33), .int 0, .ref (ad 34), .ref (ad 35), .int 0])), (ad 30, .inl (ca 30, 36, .inr (.inl (fun _ => 0)))), (ad 31, .inl (ca 31, 36, .inr (.inl (fun _ => 0)))), (ad 32, .inl (ca 32, 42, .inr (.inl (fun _ => 0)))), (ad 33, .inl (ca 33, 6, .inl (fun _ => 0))), (ad 34, .inl (ca 34, 6, .inl (fun _ => 0))), (ad 35, .inl (ca 35, 6, .inl (fun _ => 0))), (ad 36, .inl (ca 36, 6, .inl (fun _ => 0))), (ad 37, .inr (7, [.int 0, .int 0, .ref (ad 38), .ref (ad 39), .ref (ad 40), .int 0, .int 0, .ref (ad 41), .ref (ad 42), .int 0, .int 0, .int 0, .ref (ad 43), .int 0, .ref (ad 44), .ref (ad 45), .ref (ad 46), .int 0, .int 0, .int 0, .int 0, .ref (ad 47), .ref (ad 48), .ref (ad 49), .ref (ad 50), .int 0, .ref (ad 51), .ref (ad 52)])), (ad 38, .inl (ca 38, 4, .inl (upd (upd (upd (upd (fun _ => 0) 0 (-9 : Int32)) 1 (-9 : Int32)) 2 (-9 : Int32)) 3 (-9 : Int32)))), (ad 39, .inl (ca 39, 4, .inl (fun _ => 0))), (ad 40, .inl (ca 40, 240, .inl (fun _ => 0))), (ad 41, .inl (ca 41, 42, .inl (fun _ => 0))), (ad 42, .inl (ca 42, 1764, .inl (fun _ => 0))), (ad 43, .inl (ca 43, 42, .inl (fun _ => 0))), (ad 44, .inl (ca 44, 8, .inl (fun _ => 0))), (ad 45, .inl (ca 45, 8, .inl (fun _ => 0))), (ad 46, .inl (ca 46, 8, .inl (fun _ => 0))), (ad 47, .inl (ca 47, 6, .inl (fun _ => 0))), (ad 48, .inl (ca 48, 6, .inl (fun _ => 0))), (ad 49, .inl (ca 49, 3636, .inl (fun _ => 0))), (ad 50, .inl (ca 50, 6, .inl (fun _ => 0))), (ad 51, .inl (ca 51, 6, .inl (fun _ => 0))), (ad 52, .inl (ca 52, 6, .inl (fun _ => 0)))] := by
  unfold mm_w
  rw [mm_wl_eq]
  rfl
