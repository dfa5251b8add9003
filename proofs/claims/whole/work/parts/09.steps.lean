/-! each instruction of the small machine is one of the large (written by wip/whole/gen09.py) -/
section SX
variable {p : Program} {l : Launch} {e : Env} {R : Room} {s : State} {m : MethodId} {args : Array Value} {below : List Frame} {meth : Method} {c : Code} {cells slots : Nat} {Q : State → Prop} {g : mm_G} {o : Nat} {cc : ByteArray} {pc n : Nat} {L : mm_L} {S : List Value} {h : mm_H} {F : mm_F}
def mm_J (p : Program) (l : Launch) (e : Env) (R : Room) (s : State) (m : MethodId) (args : Array Value) (below : List Frame) (meth : Method) (c : Code) (cells slots : Nat) (Q : State → Prop) (g : mm_G) (F : mm_F) : Prop :=
  ∀ (H : Heap) (locs : List Loc) (ls : Array Slot), mm_I g F.2.2.2 H → va_S g.2.2.2.2.1 s.heap H locs → F.2.1.length = c.maxLocals → lv_has ls c.maxLocals (mm_lp g.2.1 F.2.1) →
    W p l e R s m args below meth c H locs cells slots Q (F0 m F.1 ls (F.2.2.1.map (mm_v g.2.1)))
def mm_Cx (p : Program) (R : Room) (s : State) (m : MethodId) (args : Array Value) (c : Code) (cells slots : Nat) (g : mm_G) (o : Nat) (cc : ByteArray) : Prop :=
  p.tables.exec = Jvm.exec ∧ c.code = cc ∧ s.vm.findClass (mm_nm o) = some m.cls ∧ (∀ w ∈ mm_TB, w.before args s = true) ∧ mm_Z g s s.heap ∧ (1 ≤ R.frames ∧ 64 ≤ R.locals) ∧ (cells ≤ R.cells ∧ slots ≤ R.slots)
theorem sx_iconst {z : Int} (X : mm_Cx p R s m args c cells slots g o cc) (hd : decode cc pc = .ok (.iconst z, n)) (hn : mm_len (.iconst z) n = true) (hf : mm_x o (.iconst z) pc L S h = some F) (k : mm_J p l e R s m args below meth c cells slots Q g F) : mm_J p l e R s m args below meth c cells slots Q g (pc, L, S, h) := by
  have e9 : n = 1 := Nat.eq_of_beq_eq_true hn
  subst e9
  obtain ⟨hx, hb, hown, hts, hZ, hR, hcs⟩ := X
  cases hf
  intro H locs ls hI hS hl hv
  exact lv_iconst hx hb hd rfl (k H locs ls hI hS hl hv)
theorem sx_bipush {z : Int} (X : mm_Cx p R s m args c cells slots g o cc) (hd : decode cc pc = .ok (.bipush z, n)) (hn : mm_len (.bipush z) n = true) (hf : mm_x o (.bipush z) pc L S h = some F) (k : mm_J p l e R s m args below meth c cells slots Q g F) : mm_J p l e R s m args below meth c cells slots Q g (pc, L, S, h) := by
  have e9 : n = 2 := Nat.eq_of_beq_eq_true hn
  subst e9
  obtain ⟨hx, hb, hown, hts, hZ, hR, hcs⟩ := X
  cases hf
  intro H locs ls hI hS hl hv
  exact lv_bipush hx hb hd rfl (k H locs ls hI hS hl hv)
theorem sx_sipush {z : Int} (X : mm_Cx p R s m args c cells slots g o cc) (hd : decode cc pc = .ok (.sipush z, n)) (hn : mm_len (.sipush z) n = true) (hf : mm_x o (.sipush z) pc L S h = some F) (k : mm_J p l e R s m args below meth c cells slots Q g F) : mm_J p l e R s m args below meth c cells slots Q g (pc, L, S, h) := by
  have e9 : n = 3 := Nat.eq_of_beq_eq_true hn
  subst e9
  obtain ⟨hx, hb, hown, hts, hZ, hR, hcs⟩ := X
  cases hf
  intro H locs ls hI hS hl hv
  exact lv_sipush hx hb hd rfl (k H locs ls hI hS hl hv)
theorem sx_lconst {z : Fin 2} (X : mm_Cx p R s m args c cells slots g o cc) (hd : decode cc pc = .ok (.lconst z, n)) (hn : mm_len (.lconst z) n = true) (hf : mm_x o (.lconst z) pc L S h = some F) (k : mm_J p l e R s m args below meth c cells slots Q g F) : mm_J p l e R s m args below meth c cells slots Q g (pc, L, S, h) := by
  have e9 : n = 1 := Nat.eq_of_beq_eq_true hn
  subst e9
  obtain ⟨hx, hb, hown, hts, hZ, hR, hcs⟩ := X
  cases hf
  intro H locs ls hI hS hl hv
  exact lv_lconst hx hb hd rfl (k H locs ls hI hS hl hv)
theorem sx_iload_n {z : Fin 4} (X : mm_Cx p R s m args c cells slots g o cc) (hd : decode cc pc = .ok (.iload_n z, n)) (hn : mm_len (.iload_n z) n = true) (hf : mm_x o (.iload_n z) pc L S h = some F) (k : mm_J p l e R s m args below meth c cells slots Q g F) : mm_J p l e R s m args below meth c cells slots Q g (pc, L, S, h) := by
  have e9 : n = 1 := Nat.eq_of_beq_eq_true hn
  subst e9
  obtain ⟨hx, hb, hown, hts, hZ, hR, hcs⟩ := X
  obtain ⟨x, hL, hf⟩ := me_ldi hf
  cases hf
  intro H locs ls hI hS hl hv
  exact lv_iload_n hx hb hd rfl (mm_lp_at hv hL) (k H locs ls hI hS hl hv)
theorem sx_iload {z : Nat} (X : mm_Cx p R s m args c cells slots g o cc) (hd : decode cc pc = .ok (.iload z, n)) (hn : mm_len (.iload z) n = true) (hf : mm_x o (.iload z) pc L S h = some F) (k : mm_J p l e R s m args below meth c cells slots Q g F) : mm_J p l e R s m args below meth c cells slots Q g (pc, L, S, h) := by
  have e9 : n = 2 := Nat.eq_of_beq_eq_true hn
  subst e9
  obtain ⟨hx, hb, hown, hts, hZ, hR, hcs⟩ := X
  obtain ⟨x, hL, hf⟩ := me_ldi hf
  cases hf
  intro H locs ls hI hS hl hv
  exact lv_iload hx hb hd (mm_lp_at hv hL) (k H locs ls hI hS hl hv)
theorem sx_lload_n {z : Fin 4} (X : mm_Cx p R s m args c cells slots g o cc) (hd : decode cc pc = .ok (.lload_n z, n)) (hn : mm_len (.lload_n z) n = true) (hf : mm_x o (.lload_n z) pc L S h = some F) (k : mm_J p l e R s m args below meth c cells slots Q g F) : mm_J p l e R s m args below meth c cells slots Q g (pc, L, S, h) := by
  have e9 : n = 1 := Nat.eq_of_beq_eq_true hn
  subst e9
  obtain ⟨hx, hb, hown, hts, hZ, hR, hcs⟩ := X
  obtain ⟨x, hL, hf⟩ := me_ldl hf
  cases hf
  intro H locs ls hI hS hl hv
  exact lv_lload_n hx hb hd rfl (mm_lp_at hv hL) (k H locs ls hI hS hl hv)
theorem sx_lload {z : Nat} (X : mm_Cx p R s m args c cells slots g o cc) (hd : decode cc pc = .ok (.lload z, n)) (hn : mm_len (.lload z) n = true) (hf : mm_x o (.lload z) pc L S h = some F) (k : mm_J p l e R s m args below meth c cells slots Q g F) : mm_J p l e R s m args below meth c cells slots Q g (pc, L, S, h) := by
  have e9 : n = 2 := Nat.eq_of_beq_eq_true hn
  subst e9
  obtain ⟨hx, hb, hown, hts, hZ, hR, hcs⟩ := X
  obtain ⟨x, hL, hf⟩ := me_ldl hf
  cases hf
  intro H locs ls hI hS hl hv
  exact lv_lload hx hb hd (mm_lp_at hv hL) (k H locs ls hI hS hl hv)
theorem sx_aload_n {z : Fin 4} (X : mm_Cx p R s m args c cells slots g o cc) (hd : decode cc pc = .ok (.aload_n z, n)) (hn : mm_len (.aload_n z) n = true) (hf : mm_x o (.aload_n z) pc L S h = some F) (k : mm_J p l e R s m args below meth c cells slots Q g F) : mm_J p l e R s m args below meth c cells slots Q g (pc, L, S, h) := by
  have e9 : n = 1 := Nat.eq_of_beq_eq_true hn
  subst e9
  obtain ⟨hx, hb, hown, hts, hZ, hR, hcs⟩ := X
  obtain ⟨x, hL, hf⟩ := me_lda hf
  cases hf
  intro H locs ls hI hS hl hv
  exact lv_aload_n hx hb hd rfl (mm_lp_at hv hL) (k H locs ls hI hS hl hv)
theorem sx_aload {z : Nat} (X : mm_Cx p R s m args c cells slots g o cc) (hd : decode cc pc = .ok (.aload z, n)) (hn : mm_len (.aload z) n = true) (hf : mm_x o (.aload z) pc L S h = some F) (k : mm_J p l e R s m args below meth c cells slots Q g F) : mm_J p l e R s m args below meth c cells slots Q g (pc, L, S, h) := by
  have e9 : n = 2 := Nat.eq_of_beq_eq_true hn
  subst e9
  obtain ⟨hx, hb, hown, hts, hZ, hR, hcs⟩ := X
  obtain ⟨x, hL, hf⟩ := me_lda hf
  cases hf
  intro H locs ls hI hS hl hv
  exact lv_aload hx hb hd (mm_lp_at hv hL) (k H locs ls hI hS hl hv)
theorem sx_istore_n {z : Fin 4} (X : mm_Cx p R s m args c cells slots g o cc) (hd : decode cc pc = .ok (.istore_n z, n)) (hn : mm_len (.istore_n z) n = true) (hf : mm_x o (.istore_n z) pc L S h = some F) (k : mm_J p l e R s m args below meth c cells slots Q g F) : mm_J p l e R s m args below meth c cells slots Q g (pc, L, S, h) := by
  have e9 : n = 1 := Nat.eq_of_beq_eq_true hn
  subst e9
  obtain ⟨hx, hb, hown, hts, hZ, hR, hcs⟩ := X
  obtain ⟨x, T, rfl, hf⟩ := me_1i hf
  obtain ⟨hlt, hf⟩ := me_bif hf
  cases hf
  intro H locs ls hI hS hl hv
  exact lv_istore_n hx hb hd rfl hv (by rw [← hl]; exact me_blt hlt) rfl (fun ls2 hv2 => k H locs ls2 hI hS ((mm_st1_len _ _ _).trans hl) (mm_lp_st1 hv2))
theorem sx_istore {z : Nat} (X : mm_Cx p R s m args c cells slots g o cc) (hd : decode cc pc = .ok (.istore z, n)) (hn : mm_len (.istore z) n = true) (hf : mm_x o (.istore z) pc L S h = some F) (k : mm_J p l e R s m args below meth c cells slots Q g F) : mm_J p l e R s m args below meth c cells slots Q g (pc, L, S, h) := by
  have e9 : n = 2 := Nat.eq_of_beq_eq_true hn
  subst e9
  obtain ⟨hx, hb, hown, hts, hZ, hR, hcs⟩ := X
  obtain ⟨x, T, rfl, hf⟩ := me_1i hf
  obtain ⟨hlt, hf⟩ := me_bif hf
  cases hf
  intro H locs ls hI hS hl hv
  exact lv_istore hx hb hd hv (by rw [← hl]; exact me_blt hlt) rfl (fun ls2 hv2 => k H locs ls2 hI hS ((mm_st1_len _ _ _).trans hl) (mm_lp_st1 hv2))
theorem sx_lstore_n {z : Fin 4} (X : mm_Cx p R s m args c cells slots g o cc) (hd : decode cc pc = .ok (.lstore_n z, n)) (hn : mm_len (.lstore_n z) n = true) (hf : mm_x o (.lstore_n z) pc L S h = some F) (k : mm_J p l e R s m args below meth c cells slots Q g F) : mm_J p l e R s m args below meth c cells slots Q g (pc, L, S, h) := by
  have e9 : n = 1 := Nat.eq_of_beq_eq_true hn
  subst e9
  obtain ⟨hx, hb, hown, hts, hZ, hR, hcs⟩ := X
  obtain ⟨x, T, rfl, hf⟩ := me_1l hf
  obtain ⟨hlt, hf⟩ := me_bif hf
  cases hf
  intro H locs ls hI hS hl hv
  exact lv_lstore_n hx hb hd rfl hv (by rw [← hl]; exact me_blt hlt) rfl (fun ls2 hv2 => k H locs ls2 hI hS ((mm_st2_len _ _ _).trans hl) (mm_lp_st2 hv2))
theorem sx_lstore {z : Nat} (X : mm_Cx p R s m args c cells slots g o cc) (hd : decode cc pc = .ok (.lstore z, n)) (hn : mm_len (.lstore z) n = true) (hf : mm_x o (.lstore z) pc L S h = some F) (k : mm_J p l e R s m args below meth c cells slots Q g F) : mm_J p l e R s m args below meth c cells slots Q g (pc, L, S, h) := by
  have e9 : n = 2 := Nat.eq_of_beq_eq_true hn
  subst e9
  obtain ⟨hx, hb, hown, hts, hZ, hR, hcs⟩ := X
  obtain ⟨x, T, rfl, hf⟩ := me_1l hf
  obtain ⟨hlt, hf⟩ := me_bif hf
  cases hf
  intro H locs ls hI hS hl hv
  exact lv_lstore hx hb hd hv (by rw [← hl]; exact me_blt hlt) rfl (fun ls2 hv2 => k H locs ls2 hI hS ((mm_st2_len _ _ _).trans hl) (mm_lp_st2 hv2))
theorem sx_astore_n {z : Fin 4} (X : mm_Cx p R s m args c cells slots g o cc) (hd : decode cc pc = .ok (.astore_n z, n)) (hn : mm_len (.astore_n z) n = true) (hf : mm_x o (.astore_n z) pc L S h = some F) (k : mm_J p l e R s m args below meth c cells slots Q g F) : mm_J p l e R s m args below meth c cells slots Q g (pc, L, S, h) := by
  have e9 : n = 1 := Nat.eq_of_beq_eq_true hn
  subst e9
  obtain ⟨hx, hb, hown, hts, hZ, hR, hcs⟩ := X
  obtain ⟨x, T, rfl, hf⟩ := me_1r hf
  obtain ⟨hlt, hf⟩ := me_bif hf
  cases hf
  intro H locs ls hI hS hl hv
  exact lv_astore_n hx hb hd rfl hv (by rw [← hl]; exact me_blt hlt) rfl (fun ls2 hv2 => k H locs ls2 hI hS ((mm_st1_len _ _ _).trans hl) (mm_lp_st1 hv2))
theorem sx_astore {z : Nat} (X : mm_Cx p R s m args c cells slots g o cc) (hd : decode cc pc = .ok (.astore z, n)) (hn : mm_len (.astore z) n = true) (hf : mm_x o (.astore z) pc L S h = some F) (k : mm_J p l e R s m args below meth c cells slots Q g F) : mm_J p l e R s m args below meth c cells slots Q g (pc, L, S, h) := by
  have e9 : n = 2 := Nat.eq_of_beq_eq_true hn
  subst e9
  obtain ⟨hx, hb, hown, hts, hZ, hR, hcs⟩ := X
  obtain ⟨x, T, rfl, hf⟩ := me_1r hf
  obtain ⟨hlt, hf⟩ := me_bif hf
  cases hf
  intro H locs ls hI hS hl hv
  exact lv_astore hx hb hd hv (by rw [← hl]; exact me_blt hlt) rfl (fun ls2 hv2 => k H locs ls2 hI hS ((mm_st1_len _ _ _).trans hl) (mm_lp_st1 hv2))
theorem sx_iinc {z : Nat} {d : Int} (X : mm_Cx p R s m args c cells slots g o cc) (hd : decode cc pc = .ok (.iinc z d, n)) (hn : mm_len (.iinc z d) n = true) (hf : mm_x o (.iinc z d) pc L S h = some F) (k : mm_J p l e R s m args below meth c cells slots Q g F) : mm_J p l e R s m args below meth c cells slots Q g (pc, L, S, h) := by
  have e9 : n = 3 := Nat.eq_of_beq_eq_true hn
  subst e9
  obtain ⟨hx, hb, hown, hts, hZ, hR, hcs⟩ := X
  obtain ⟨x, hL, hf⟩ := me_ldi hf
  obtain ⟨hlt, hf⟩ := me_bif hf
  cases hf
  intro H locs ls hI hS hl hv
  obtain ⟨j, hj⟩ := List.getElem?_of_mem (mm_lp_mem (ad := g.2.1).mpr ⟨.int x, hL, rfl⟩ : ((z, Value.int x) : Nat × Value) ∈ mm_lp g.2.1 L)
  exact lv_iinc hx hb hd hv hj rfl (by rw [← hl]; exact me_blt hlt) rfl (fun ls2 hv2 => k H locs ls2 hI hS ((mm_st1_len _ _ _).trans hl) (mm_lp_st1 (v := .int (x + Int32.ofInt d)) hv2))
theorem sx_iadd (X : mm_Cx p R s m args c cells slots g o cc) (hd : decode cc pc = .ok (.iadd, n)) (hn : mm_len (.iadd) n = true) (hf : mm_x o (.iadd) pc L S h = some F) (k : mm_J p l e R s m args below meth c cells slots Q g F) : mm_J p l e R s m args below meth c cells slots Q g (pc, L, S, h) := by
  have e9 : n = 1 := Nat.eq_of_beq_eq_true hn
  subst e9
  obtain ⟨hx, hb, hown, hts, hZ, hR, hcs⟩ := X
  obtain ⟨x, y, T, rfl, hf⟩ := me_2i hf
  cases hf
  intro H locs ls hI hS hl hv
  exact lv_iadd hx hb hd (k H locs ls hI hS hl hv)
theorem sx_isub (X : mm_Cx p R s m args c cells slots g o cc) (hd : decode cc pc = .ok (.isub, n)) (hn : mm_len (.isub) n = true) (hf : mm_x o (.isub) pc L S h = some F) (k : mm_J p l e R s m args below meth c cells slots Q g F) : mm_J p l e R s m args below meth c cells slots Q g (pc, L, S, h) := by
  have e9 : n = 1 := Nat.eq_of_beq_eq_true hn
  subst e9
  obtain ⟨hx, hb, hown, hts, hZ, hR, hcs⟩ := X
  obtain ⟨x, y, T, rfl, hf⟩ := me_2i hf
  cases hf
  intro H locs ls hI hS hl hv
  exact lv_isub hx hb hd (k H locs ls hI hS hl hv)
theorem sx_imul (X : mm_Cx p R s m args c cells slots g o cc) (hd : decode cc pc = .ok (.imul, n)) (hn : mm_len (.imul) n = true) (hf : mm_x o (.imul) pc L S h = some F) (k : mm_J p l e R s m args below meth c cells slots Q g F) : mm_J p l e R s m args below meth c cells slots Q g (pc, L, S, h) := by
  have e9 : n = 1 := Nat.eq_of_beq_eq_true hn
  subst e9
  obtain ⟨hx, hb, hown, hts, hZ, hR, hcs⟩ := X
  obtain ⟨x, y, T, rfl, hf⟩ := me_2i hf
  cases hf
  intro H locs ls hI hS hl hv
  exact lv_imul hx hb hd (k H locs ls hI hS hl hv)
theorem sx_iand (X : mm_Cx p R s m args c cells slots g o cc) (hd : decode cc pc = .ok (.iand, n)) (hn : mm_len (.iand) n = true) (hf : mm_x o (.iand) pc L S h = some F) (k : mm_J p l e R s m args below meth c cells slots Q g F) : mm_J p l e R s m args below meth c cells slots Q g (pc, L, S, h) := by
  have e9 : n = 1 := Nat.eq_of_beq_eq_true hn
  subst e9
  obtain ⟨hx, hb, hown, hts, hZ, hR, hcs⟩ := X
  obtain ⟨x, y, T, rfl, hf⟩ := me_2i hf
  cases hf
  intro H locs ls hI hS hl hv
  exact lv_iand hx hb hd (k H locs ls hI hS hl hv)
theorem sx_ior (X : mm_Cx p R s m args c cells slots g o cc) (hd : decode cc pc = .ok (.ior, n)) (hn : mm_len (.ior) n = true) (hf : mm_x o (.ior) pc L S h = some F) (k : mm_J p l e R s m args below meth c cells slots Q g F) : mm_J p l e R s m args below meth c cells slots Q g (pc, L, S, h) := by
  have e9 : n = 1 := Nat.eq_of_beq_eq_true hn
  subst e9
  obtain ⟨hx, hb, hown, hts, hZ, hR, hcs⟩ := X
  obtain ⟨x, y, T, rfl, hf⟩ := me_2i hf
  cases hf
  intro H locs ls hI hS hl hv
  exact lv_ior hx hb hd (k H locs ls hI hS hl hv)
theorem sx_ixor (X : mm_Cx p R s m args c cells slots g o cc) (hd : decode cc pc = .ok (.ixor, n)) (hn : mm_len (.ixor) n = true) (hf : mm_x o (.ixor) pc L S h = some F) (k : mm_J p l e R s m args below meth c cells slots Q g F) : mm_J p l e R s m args below meth c cells slots Q g (pc, L, S, h) := by
  have e9 : n = 1 := Nat.eq_of_beq_eq_true hn
  subst e9
  obtain ⟨hx, hb, hown, hts, hZ, hR, hcs⟩ := X
  obtain ⟨x, y, T, rfl, hf⟩ := me_2i hf
  cases hf
  intro H locs ls hI hS hl hv
  exact lv_ixor hx hb hd (k H locs ls hI hS hl hv)
theorem sx_ishl (X : mm_Cx p R s m args c cells slots g o cc) (hd : decode cc pc = .ok (.ishl, n)) (hn : mm_len (.ishl) n = true) (hf : mm_x o (.ishl) pc L S h = some F) (k : mm_J p l e R s m args below meth c cells slots Q g F) : mm_J p l e R s m args below meth c cells slots Q g (pc, L, S, h) := by
  have e9 : n = 1 := Nat.eq_of_beq_eq_true hn
  subst e9
  obtain ⟨hx, hb, hown, hts, hZ, hR, hcs⟩ := X
  obtain ⟨x, y, T, rfl, hf⟩ := me_2i hf
  cases hf
  intro H locs ls hI hS hl hv
  exact lv_ishl hx hb hd (k H locs ls hI hS hl hv)
theorem sx_ishr (X : mm_Cx p R s m args c cells slots g o cc) (hd : decode cc pc = .ok (.ishr, n)) (hn : mm_len (.ishr) n = true) (hf : mm_x o (.ishr) pc L S h = some F) (k : mm_J p l e R s m args below meth c cells slots Q g F) : mm_J p l e R s m args below meth c cells slots Q g (pc, L, S, h) := by
  have e9 : n = 1 := Nat.eq_of_beq_eq_true hn
  subst e9
  obtain ⟨hx, hb, hown, hts, hZ, hR, hcs⟩ := X
  obtain ⟨x, y, T, rfl, hf⟩ := me_2i hf
  cases hf
  intro H locs ls hI hS hl hv
  exact lv_ishr hx hb hd (k H locs ls hI hS hl hv)
theorem sx_iushr (X : mm_Cx p R s m args c cells slots g o cc) (hd : decode cc pc = .ok (.iushr, n)) (hn : mm_len (.iushr) n = true) (hf : mm_x o (.iushr) pc L S h = some F) (k : mm_J p l e R s m args below meth c cells slots Q g F) : mm_J p l e R s m args below meth c cells slots Q g (pc, L, S, h) := by
  have e9 : n = 1 := Nat.eq_of_beq_eq_true hn
  subst e9
  obtain ⟨hx, hb, hown, hts, hZ, hR, hcs⟩ := X
  obtain ⟨x, y, T, rfl, hf⟩ := me_2i hf
  cases hf
  intro H locs ls hI hS hl hv
  exact lv_iushr hx hb hd rfl (k H locs ls hI hS hl hv)
theorem sx_idiv (X : mm_Cx p R s m args c cells slots g o cc) (hd : decode cc pc = .ok (.idiv, n)) (hn : mm_len (.idiv) n = true) (hf : mm_x o (.idiv) pc L S h = some F) (k : mm_J p l e R s m args below meth c cells slots Q g F) : mm_J p l e R s m args below meth c cells slots Q g (pc, L, S, h) := by
  have e9 : n = 1 := Nat.eq_of_beq_eq_true hn
  subst e9
  obtain ⟨hx, hb, hown, hts, hZ, hR, hcs⟩ := X
  obtain ⟨x, y, T, rfl, hf⟩ := me_2i hf
  obtain ⟨h0, hf⟩ := me_if hf
  cases hf
  intro H locs ls hI hS hl hv
  exact lv_idiv hx hb hd h0 (k H locs ls hI hS hl hv)
theorem sx_irem (X : mm_Cx p R s m args c cells slots g o cc) (hd : decode cc pc = .ok (.irem, n)) (hn : mm_len (.irem) n = true) (hf : mm_x o (.irem) pc L S h = some F) (k : mm_J p l e R s m args below meth c cells slots Q g F) : mm_J p l e R s m args below meth c cells slots Q g (pc, L, S, h) := by
  have e9 : n = 1 := Nat.eq_of_beq_eq_true hn
  subst e9
  obtain ⟨hx, hb, hown, hts, hZ, hR, hcs⟩ := X
  obtain ⟨x, y, T, rfl, hf⟩ := me_2i hf
  obtain ⟨h0, hf⟩ := me_if hf
  cases hf
  intro H locs ls hI hS hl hv
  exact lv_irem hx hb hd h0 (k H locs ls hI hS hl hv)
theorem sx_ineg (X : mm_Cx p R s m args c cells slots g o cc) (hd : decode cc pc = .ok (.ineg, n)) (hn : mm_len (.ineg) n = true) (hf : mm_x o (.ineg) pc L S h = some F) (k : mm_J p l e R s m args below meth c cells slots Q g F) : mm_J p l e R s m args below meth c cells slots Q g (pc, L, S, h) := by
  have e9 : n = 1 := Nat.eq_of_beq_eq_true hn
  subst e9
  obtain ⟨hx, hb, hown, hts, hZ, hR, hcs⟩ := X
  obtain ⟨x, T, rfl, hf⟩ := me_1i hf
  cases hf
  intro H locs ls hI hS hl hv
  exact lv_ineg hx hb hd (k H locs ls hI hS hl hv)
theorem sx_ladd (X : mm_Cx p R s m args c cells slots g o cc) (hd : decode cc pc = .ok (.ladd, n)) (hn : mm_len (.ladd) n = true) (hf : mm_x o (.ladd) pc L S h = some F) (k : mm_J p l e R s m args below meth c cells slots Q g F) : mm_J p l e R s m args below meth c cells slots Q g (pc, L, S, h) := by
  have e9 : n = 1 := Nat.eq_of_beq_eq_true hn
  subst e9
  obtain ⟨hx, hb, hown, hts, hZ, hR, hcs⟩ := X
  obtain ⟨x, y, T, rfl, hf⟩ := me_2l hf
  cases hf
  intro H locs ls hI hS hl hv
  exact lv_ladd hx hb hd (k H locs ls hI hS hl hv)
theorem sx_lsub (X : mm_Cx p R s m args c cells slots g o cc) (hd : decode cc pc = .ok (.lsub, n)) (hn : mm_len (.lsub) n = true) (hf : mm_x o (.lsub) pc L S h = some F) (k : mm_J p l e R s m args below meth c cells slots Q g F) : mm_J p l e R s m args below meth c cells slots Q g (pc, L, S, h) := by
  have e9 : n = 1 := Nat.eq_of_beq_eq_true hn
  subst e9
  obtain ⟨hx, hb, hown, hts, hZ, hR, hcs⟩ := X
  obtain ⟨x, y, T, rfl, hf⟩ := me_2l hf
  cases hf
  intro H locs ls hI hS hl hv
  exact lv_lsub hx hb hd (k H locs ls hI hS hl hv)
theorem sx_land (X : mm_Cx p R s m args c cells slots g o cc) (hd : decode cc pc = .ok (.land, n)) (hn : mm_len (.land) n = true) (hf : mm_x o (.land) pc L S h = some F) (k : mm_J p l e R s m args below meth c cells slots Q g F) : mm_J p l e R s m args below meth c cells slots Q g (pc, L, S, h) := by
  have e9 : n = 1 := Nat.eq_of_beq_eq_true hn
  subst e9
  obtain ⟨hx, hb, hown, hts, hZ, hR, hcs⟩ := X
  obtain ⟨x, y, T, rfl, hf⟩ := me_2l hf
  cases hf
  intro H locs ls hI hS hl hv
  exact lv_land hx hb hd (k H locs ls hI hS hl hv)
theorem sx_lor (X : mm_Cx p R s m args c cells slots g o cc) (hd : decode cc pc = .ok (.lor, n)) (hn : mm_len (.lor) n = true) (hf : mm_x o (.lor) pc L S h = some F) (k : mm_J p l e R s m args below meth c cells slots Q g F) : mm_J p l e R s m args below meth c cells slots Q g (pc, L, S, h) := by
  have e9 : n = 1 := Nat.eq_of_beq_eq_true hn
  subst e9
  obtain ⟨hx, hb, hown, hts, hZ, hR, hcs⟩ := X
  obtain ⟨x, y, T, rfl, hf⟩ := me_2l hf
  cases hf
  intro H locs ls hI hS hl hv
  exact lv_lor hx hb hd (k H locs ls hI hS hl hv)
theorem sx_lxor (X : mm_Cx p R s m args c cells slots g o cc) (hd : decode cc pc = .ok (.lxor, n)) (hn : mm_len (.lxor) n = true) (hf : mm_x o (.lxor) pc L S h = some F) (k : mm_J p l e R s m args below meth c cells slots Q g F) : mm_J p l e R s m args below meth c cells slots Q g (pc, L, S, h) := by
  have e9 : n = 1 := Nat.eq_of_beq_eq_true hn
  subst e9
  obtain ⟨hx, hb, hown, hts, hZ, hR, hcs⟩ := X
  obtain ⟨x, y, T, rfl, hf⟩ := me_2l hf
  cases hf
  intro H locs ls hI hS hl hv
  exact lv_lxor hx hb hd (k H locs ls hI hS hl hv)
theorem sx_lneg (X : mm_Cx p R s m args c cells slots g o cc) (hd : decode cc pc = .ok (.lneg, n)) (hn : mm_len (.lneg) n = true) (hf : mm_x o (.lneg) pc L S h = some F) (k : mm_J p l e R s m args below meth c cells slots Q g F) : mm_J p l e R s m args below meth c cells slots Q g (pc, L, S, h) := by
  have e9 : n = 1 := Nat.eq_of_beq_eq_true hn
  subst e9
  obtain ⟨hx, hb, hown, hts, hZ, hR, hcs⟩ := X
  obtain ⟨x, T, rfl, hf⟩ := me_1l hf
  cases hf
  intro H locs ls hI hS hl hv
  exact lv_lneg hx hb hd (k H locs ls hI hS hl hv)
theorem sx_lshl (X : mm_Cx p R s m args c cells slots g o cc) (hd : decode cc pc = .ok (.lshl, n)) (hn : mm_len (.lshl) n = true) (hf : mm_x o (.lshl) pc L S h = some F) (k : mm_J p l e R s m args below meth c cells slots Q g F) : mm_J p l e R s m args below meth c cells slots Q g (pc, L, S, h) := by
  have e9 : n = 1 := Nat.eq_of_beq_eq_true hn
  subst e9
  obtain ⟨hx, hb, hown, hts, hZ, hR, hcs⟩ := X
  obtain ⟨x, y, T, rfl, hf⟩ := me_il hf
  cases hf
  intro H locs ls hI hS hl hv
  exact lv_lshl hx hb hd rfl (k H locs ls hI hS hl hv)
theorem sx_lushr (X : mm_Cx p R s m args c cells slots g o cc) (hd : decode cc pc = .ok (.lushr, n)) (hn : mm_len (.lushr) n = true) (hf : mm_x o (.lushr) pc L S h = some F) (k : mm_J p l e R s m args below meth c cells slots Q g F) : mm_J p l e R s m args below meth c cells slots Q g (pc, L, S, h) := by
  have e9 : n = 1 := Nat.eq_of_beq_eq_true hn
  subst e9
  obtain ⟨hx, hb, hown, hts, hZ, hR, hcs⟩ := X
  obtain ⟨x, y, T, rfl, hf⟩ := me_il hf
  cases hf
  intro H locs ls hI hS hl hv
  exact lv_lushr hx hb hd rfl (k H locs ls hI hS hl hv)
theorem sx_lcmp (X : mm_Cx p R s m args c cells slots g o cc) (hd : decode cc pc = .ok (.lcmp, n)) (hn : mm_len (.lcmp) n = true) (hf : mm_x o (.lcmp) pc L S h = some F) (k : mm_J p l e R s m args below meth c cells slots Q g F) : mm_J p l e R s m args below meth c cells slots Q g (pc, L, S, h) := by
  have e9 : n = 1 := Nat.eq_of_beq_eq_true hn
  subst e9
  obtain ⟨hx, hb, hown, hts, hZ, hR, hcs⟩ := X
  obtain ⟨x, y, T, rfl, hf⟩ := me_2l hf
  cases hf
  intro H locs ls hI hS hl hv
  exact W.lcmp hx hb hd (k H locs ls hI hS hl hv)
theorem sx_i2l (X : mm_Cx p R s m args c cells slots g o cc) (hd : decode cc pc = .ok (.i2l, n)) (hn : mm_len (.i2l) n = true) (hf : mm_x o (.i2l) pc L S h = some F) (k : mm_J p l e R s m args below meth c cells slots Q g F) : mm_J p l e R s m args below meth c cells slots Q g (pc, L, S, h) := by
  have e9 : n = 1 := Nat.eq_of_beq_eq_true hn
  subst e9
  obtain ⟨hx, hb, hown, hts, hZ, hR, hcs⟩ := X
  obtain ⟨x, T, rfl, hf⟩ := me_1i hf
  cases hf
  intro H locs ls hI hS hl hv
  exact lv_i2l hx hb hd rfl (k H locs ls hI hS hl hv)
theorem sx_l2i (X : mm_Cx p R s m args c cells slots g o cc) (hd : decode cc pc = .ok (.l2i, n)) (hn : mm_len (.l2i) n = true) (hf : mm_x o (.l2i) pc L S h = some F) (k : mm_J p l e R s m args below meth c cells slots Q g F) : mm_J p l e R s m args below meth c cells slots Q g (pc, L, S, h) := by
  have e9 : n = 1 := Nat.eq_of_beq_eq_true hn
  subst e9
  obtain ⟨hx, hb, hown, hts, hZ, hR, hcs⟩ := X
  obtain ⟨x, T, rfl, hf⟩ := me_1l hf
  cases hf
  intro H locs ls hI hS hl hv
  exact lv_l2i hx hb hd rfl (k H locs ls hI hS hl hv)
theorem sx_i2b (X : mm_Cx p R s m args c cells slots g o cc) (hd : decode cc pc = .ok (.i2b, n)) (hn : mm_len (.i2b) n = true) (hf : mm_x o (.i2b) pc L S h = some F) (k : mm_J p l e R s m args below meth c cells slots Q g F) : mm_J p l e R s m args below meth c cells slots Q g (pc, L, S, h) := by
  have e9 : n = 1 := Nat.eq_of_beq_eq_true hn
  subst e9
  obtain ⟨hx, hb, hown, hts, hZ, hR, hcs⟩ := X
  obtain ⟨x, T, rfl, hf⟩ := me_1i hf
  cases hf
  intro H locs ls hI hS hl hv
  exact lv_i2b hx hb hd rfl (k H locs ls hI hS hl hv)
theorem sx_i2s (X : mm_Cx p R s m args c cells slots g o cc) (hd : decode cc pc = .ok (.i2s, n)) (hn : mm_len (.i2s) n = true) (hf : mm_x o (.i2s) pc L S h = some F) (k : mm_J p l e R s m args below meth c cells slots Q g F) : mm_J p l e R s m args below meth c cells slots Q g (pc, L, S, h) := by
  have e9 : n = 1 := Nat.eq_of_beq_eq_true hn
  subst e9
  obtain ⟨hx, hb, hown, hts, hZ, hR, hcs⟩ := X
  obtain ⟨x, T, rfl, hf⟩ := me_1i hf
  cases hf
  intro H locs ls hI hS hl hv
  exact lv_i2s hx hb hd rfl (k H locs ls hI hS hl hv)
theorem sx_dup (X : mm_Cx p R s m args c cells slots g o cc) (hd : decode cc pc = .ok (.dup, n)) (hn : mm_len (.dup) n = true) (hf : mm_x o (.dup) pc L S h = some F) (k : mm_J p l e R s m args below meth c cells slots Q g F) : mm_J p l e R s m args below meth c cells slots Q g (pc, L, S, h) := by
  have e9 : n = 1 := Nat.eq_of_beq_eq_true hn
  subst e9
  obtain ⟨hx, hb, hown, hts, hZ, hR, hcs⟩ := X
  unfold mm_x at hf
  simp only at hf
  split at hf
  · obtain ⟨hc, hf⟩ := me_bif hf
    cases hf
    intro H locs ls hI hS hl hv
    exact lv_dup hx hb hd (by rw [mm_v_cat]; exact Nat.eq_of_beq_eq_true hc) (k H locs ls hI hS hl hv)
  · cases hf
theorem sx_dup2 (X : mm_Cx p R s m args c cells slots g o cc) (hd : decode cc pc = .ok (.dup2, n)) (hn : mm_len (.dup2) n = true) (hf : mm_x o (.dup2) pc L S h = some F) (k : mm_J p l e R s m args below meth c cells slots Q g F) : mm_J p l e R s m args below meth c cells slots Q g (pc, L, S, h) := by
  have e9 : n = 1 := Nat.eq_of_beq_eq_true hn
  subst e9
  obtain ⟨hx, hb, hown, hts, hZ, hR, hcs⟩ := X
  unfold mm_x at hf
  simp only at hf
  split at hf
  · obtain ⟨hc, hf⟩ := me_bif hf
    rw [Bool.and_eq_true] at hc
    cases hf
    intro H locs ls hI hS hl hv
    exact lv_dup2_11 hx hb hd (by rw [mm_v_cat]; exact Nat.eq_of_beq_eq_true hc.1) (by rw [mm_v_cat]; exact Nat.eq_of_beq_eq_true hc.2) (k H locs ls hI hS hl hv)
  · cases hf
theorem sx_goto {d : Int} (X : mm_Cx p R s m args c cells slots g o cc) (hd : decode cc pc = .ok (.goto d, n)) (hn : mm_len (.goto d) n = true) (hf : mm_x o (.goto d) pc L S h = some F) (k : mm_J p l e R s m args below meth c cells slots Q g F) : mm_J p l e R s m args below meth c cells slots Q g (pc, L, S, h) := by
  have e9 : n = 3 := Nat.eq_of_beq_eq_true hn
  subst e9
  obtain ⟨hx, hb, hown, hts, hZ, hR, hcs⟩ := X
  obtain ⟨t, ht, hf⟩ := me_to hf
  cases hf
  intro H locs ls hI hS hl hv
  exact lv_goto hx hb hd ht (k H locs ls hI hS hl hv)
theorem sx_ifCond_eq {d : Int} (X : mm_Cx p R s m args c cells slots g o cc) (hd : decode cc pc = .ok (.ifCond .eq d, n)) (hn : mm_len (.ifCond .eq d) n = true) (hf : mm_x o (.ifCond .eq d) pc L S h = some F) (k : mm_J p l e R s m args below meth c cells slots Q g F) : mm_J p l e R s m args below meth c cells slots Q g (pc, L, S, h) := by
  have e9 : n = 3 := Nat.eq_of_beq_eq_true hn
  subst e9
  obtain ⟨hx, hb, hown, hts, hZ, hR, hcs⟩ := X
  obtain ⟨x, T, rfl, hf⟩ := me_1i hf
  obtain ⟨t, ht, hf⟩ := me_to hf
  cases hf
  intro H locs ls hI hS hl hv
  have kt : mm_cond .eq x 0 = true → W p l e R s m args below meth c H locs cells slots Q (F0 m t ls (T.map (mm_v g.2.1))) := fun q => by have k2 := k H locs ls hI hS hl hv; rw [q] at k2; exact k2
  have kf : mm_cond .eq x 0 = false → W p l e R s m args below meth c H locs cells slots Q (F0 m (pc + 3) ls (T.map (mm_v g.2.1))) := fun q => by have k2 := k H locs ls hI hS hl hv; rw [q] at k2; exact k2
  refine lv_if_eq hx hb hd ht (fun q => kt (by simp [mm_cond, q])) (fun q => kf (by simp [mm_cond, q]))
theorem sx_ifCond_ne {d : Int} (X : mm_Cx p R s m args c cells slots g o cc) (hd : decode cc pc = .ok (.ifCond .ne d, n)) (hn : mm_len (.ifCond .ne d) n = true) (hf : mm_x o (.ifCond .ne d) pc L S h = some F) (k : mm_J p l e R s m args below meth c cells slots Q g F) : mm_J p l e R s m args below meth c cells slots Q g (pc, L, S, h) := by
  have e9 : n = 3 := Nat.eq_of_beq_eq_true hn
  subst e9
  obtain ⟨hx, hb, hown, hts, hZ, hR, hcs⟩ := X
  obtain ⟨x, T, rfl, hf⟩ := me_1i hf
  obtain ⟨t, ht, hf⟩ := me_to hf
  cases hf
  intro H locs ls hI hS hl hv
  have kt : mm_cond .ne x 0 = true → W p l e R s m args below meth c H locs cells slots Q (F0 m t ls (T.map (mm_v g.2.1))) := fun q => by have k2 := k H locs ls hI hS hl hv; rw [q] at k2; exact k2
  have kf : mm_cond .ne x 0 = false → W p l e R s m args below meth c H locs cells slots Q (F0 m (pc + 3) ls (T.map (mm_v g.2.1))) := fun q => by have k2 := k H locs ls hI hS hl hv; rw [q] at k2; exact k2
  refine lv_if_ne hx hb hd ht (fun q => kt (by simp [mm_cond, q])) (fun q => kf (by simp [mm_cond, q]))
theorem sx_ifCond_lt {d : Int} (X : mm_Cx p R s m args c cells slots g o cc) (hd : decode cc pc = .ok (.ifCond .lt d, n)) (hn : mm_len (.ifCond .lt d) n = true) (hf : mm_x o (.ifCond .lt d) pc L S h = some F) (k : mm_J p l e R s m args below meth c cells slots Q g F) : mm_J p l e R s m args below meth c cells slots Q g (pc, L, S, h) := by
  have e9 : n = 3 := Nat.eq_of_beq_eq_true hn
  subst e9
  obtain ⟨hx, hb, hown, hts, hZ, hR, hcs⟩ := X
  obtain ⟨x, T, rfl, hf⟩ := me_1i hf
  obtain ⟨t, ht, hf⟩ := me_to hf
  cases hf
  intro H locs ls hI hS hl hv
  have kt : mm_cond .lt x 0 = true → W p l e R s m args below meth c H locs cells slots Q (F0 m t ls (T.map (mm_v g.2.1))) := fun q => by have k2 := k H locs ls hI hS hl hv; rw [q] at k2; exact k2
  have kf : mm_cond .lt x 0 = false → W p l e R s m args below meth c H locs cells slots Q (F0 m (pc + 3) ls (T.map (mm_v g.2.1))) := fun q => by have k2 := k H locs ls hI hS hl hv; rw [q] at k2; exact k2
  refine lv_if_lt hx hb hd ht (fun q => kt (by simp [mm_cond, q])) (fun q => kf (by simp [mm_cond, q]))
theorem sx_ifCond_ge {d : Int} (X : mm_Cx p R s m args c cells slots g o cc) (hd : decode cc pc = .ok (.ifCond .ge d, n)) (hn : mm_len (.ifCond .ge d) n = true) (hf : mm_x o (.ifCond .ge d) pc L S h = some F) (k : mm_J p l e R s m args below meth c cells slots Q g F) : mm_J p l e R s m args below meth c cells slots Q g (pc, L, S, h) := by
  have e9 : n = 3 := Nat.eq_of_beq_eq_true hn
  subst e9
  obtain ⟨hx, hb, hown, hts, hZ, hR, hcs⟩ := X
  obtain ⟨x, T, rfl, hf⟩ := me_1i hf
  obtain ⟨t, ht, hf⟩ := me_to hf
  cases hf
  intro H locs ls hI hS hl hv
  have kt : mm_cond .ge x 0 = true → W p l e R s m args below meth c H locs cells slots Q (F0 m t ls (T.map (mm_v g.2.1))) := fun q => by have k2 := k H locs ls hI hS hl hv; rw [q] at k2; exact k2
  have kf : mm_cond .ge x 0 = false → W p l e R s m args below meth c H locs cells slots Q (F0 m (pc + 3) ls (T.map (mm_v g.2.1))) := fun q => by have k2 := k H locs ls hI hS hl hv; rw [q] at k2; exact k2
  refine lv_if_ge hx hb hd ht (fun q => kt (by simp [mm_cond, q])) (fun q => kf (by simp [mm_cond, q]))
theorem sx_ifCond_gt {d : Int} (X : mm_Cx p R s m args c cells slots g o cc) (hd : decode cc pc = .ok (.ifCond .gt d, n)) (hn : mm_len (.ifCond .gt d) n = true) (hf : mm_x o (.ifCond .gt d) pc L S h = some F) (k : mm_J p l e R s m args below meth c cells slots Q g F) : mm_J p l e R s m args below meth c cells slots Q g (pc, L, S, h) := by
  have e9 : n = 3 := Nat.eq_of_beq_eq_true hn
  subst e9
  obtain ⟨hx, hb, hown, hts, hZ, hR, hcs⟩ := X
  obtain ⟨x, T, rfl, hf⟩ := me_1i hf
  obtain ⟨t, ht, hf⟩ := me_to hf
  cases hf
  intro H locs ls hI hS hl hv
  have kt : mm_cond .gt x 0 = true → W p l e R s m args below meth c H locs cells slots Q (F0 m t ls (T.map (mm_v g.2.1))) := fun q => by have k2 := k H locs ls hI hS hl hv; rw [q] at k2; exact k2
  have kf : mm_cond .gt x 0 = false → W p l e R s m args below meth c H locs cells slots Q (F0 m (pc + 3) ls (T.map (mm_v g.2.1))) := fun q => by have k2 := k H locs ls hI hS hl hv; rw [q] at k2; exact k2
  refine lv_if_gt hx hb hd ht (fun q => kt (by simp [mm_cond, q])) (fun q => kf (by simp [mm_cond, q]))
theorem sx_ifCond_le {d : Int} (X : mm_Cx p R s m args c cells slots g o cc) (hd : decode cc pc = .ok (.ifCond .le d, n)) (hn : mm_len (.ifCond .le d) n = true) (hf : mm_x o (.ifCond .le d) pc L S h = some F) (k : mm_J p l e R s m args below meth c cells slots Q g F) : mm_J p l e R s m args below meth c cells slots Q g (pc, L, S, h) := by
  have e9 : n = 3 := Nat.eq_of_beq_eq_true hn
  subst e9
  obtain ⟨hx, hb, hown, hts, hZ, hR, hcs⟩ := X
  obtain ⟨x, T, rfl, hf⟩ := me_1i hf
  obtain ⟨t, ht, hf⟩ := me_to hf
  cases hf
  intro H locs ls hI hS hl hv
  have kt : mm_cond .le x 0 = true → W p l e R s m args below meth c H locs cells slots Q (F0 m t ls (T.map (mm_v g.2.1))) := fun q => by have k2 := k H locs ls hI hS hl hv; rw [q] at k2; exact k2
  have kf : mm_cond .le x 0 = false → W p l e R s m args below meth c H locs cells slots Q (F0 m (pc + 3) ls (T.map (mm_v g.2.1))) := fun q => by have k2 := k H locs ls hI hS hl hv; rw [q] at k2; exact k2
  refine lv_if_le hx hb hd ht (fun q => kt (by simp [mm_cond, q])) (fun q => kf (by simp [mm_cond, q]))
theorem sx_if_icmp_eq {d : Int} (X : mm_Cx p R s m args c cells slots g o cc) (hd : decode cc pc = .ok (.if_icmp .eq d, n)) (hn : mm_len (.if_icmp .eq d) n = true) (hf : mm_x o (.if_icmp .eq d) pc L S h = some F) (k : mm_J p l e R s m args below meth c cells slots Q g F) : mm_J p l e R s m args below meth c cells slots Q g (pc, L, S, h) := by
  have e9 : n = 3 := Nat.eq_of_beq_eq_true hn
  subst e9
  obtain ⟨hx, hb, hown, hts, hZ, hR, hcs⟩ := X
  obtain ⟨x, y, T, rfl, hf⟩ := me_2i hf
  obtain ⟨t, ht, hf⟩ := me_to hf
  cases hf
  intro H locs ls hI hS hl hv
  have kt : mm_cond .eq x y = true → W p l e R s m args below meth c H locs cells slots Q (F0 m t ls (T.map (mm_v g.2.1))) := fun q => by have k2 := k H locs ls hI hS hl hv; rw [q] at k2; exact k2
  have kf : mm_cond .eq x y = false → W p l e R s m args below meth c H locs cells slots Q (F0 m (pc + 3) ls (T.map (mm_v g.2.1))) := fun q => by have k2 := k H locs ls hI hS hl hv; rw [q] at k2; exact k2
  refine lv_icmp_eq hx hb hd ht (fun q => kt (by simp [mm_cond, q])) (fun q => kf (by simp [mm_cond, q]))
theorem sx_if_icmp_ne {d : Int} (X : mm_Cx p R s m args c cells slots g o cc) (hd : decode cc pc = .ok (.if_icmp .ne d, n)) (hn : mm_len (.if_icmp .ne d) n = true) (hf : mm_x o (.if_icmp .ne d) pc L S h = some F) (k : mm_J p l e R s m args below meth c cells slots Q g F) : mm_J p l e R s m args below meth c cells slots Q g (pc, L, S, h) := by
  have e9 : n = 3 := Nat.eq_of_beq_eq_true hn
  subst e9
  obtain ⟨hx, hb, hown, hts, hZ, hR, hcs⟩ := X
  obtain ⟨x, y, T, rfl, hf⟩ := me_2i hf
  obtain ⟨t, ht, hf⟩ := me_to hf
  cases hf
  intro H locs ls hI hS hl hv
  have kt : mm_cond .ne x y = true → W p l e R s m args below meth c H locs cells slots Q (F0 m t ls (T.map (mm_v g.2.1))) := fun q => by have k2 := k H locs ls hI hS hl hv; rw [q] at k2; exact k2
  have kf : mm_cond .ne x y = false → W p l e R s m args below meth c H locs cells slots Q (F0 m (pc + 3) ls (T.map (mm_v g.2.1))) := fun q => by have k2 := k H locs ls hI hS hl hv; rw [q] at k2; exact k2
  refine lv_icmp_ne hx hb hd ht (fun q => kt (by simp [mm_cond, q])) (fun q => kf (by simp [mm_cond, q]))
theorem sx_if_icmp_lt {d : Int} (X : mm_Cx p R s m args c cells slots g o cc) (hd : decode cc pc = .ok (.if_icmp .lt d, n)) (hn : mm_len (.if_icmp .lt d) n = true) (hf : mm_x o (.if_icmp .lt d) pc L S h = some F) (k : mm_J p l e R s m args below meth c cells slots Q g F) : mm_J p l e R s m args below meth c cells slots Q g (pc, L, S, h) := by
  have e9 : n = 3 := Nat.eq_of_beq_eq_true hn
  subst e9
  obtain ⟨hx, hb, hown, hts, hZ, hR, hcs⟩ := X
  obtain ⟨x, y, T, rfl, hf⟩ := me_2i hf
  obtain ⟨t, ht, hf⟩ := me_to hf
  cases hf
  intro H locs ls hI hS hl hv
  have kt : mm_cond .lt x y = true → W p l e R s m args below meth c H locs cells slots Q (F0 m t ls (T.map (mm_v g.2.1))) := fun q => by have k2 := k H locs ls hI hS hl hv; rw [q] at k2; exact k2
  have kf : mm_cond .lt x y = false → W p l e R s m args below meth c H locs cells slots Q (F0 m (pc + 3) ls (T.map (mm_v g.2.1))) := fun q => by have k2 := k H locs ls hI hS hl hv; rw [q] at k2; exact k2
  refine lv_icmp_lt hx hb hd ht (fun q => kt (by simp [mm_cond, q])) (fun q => kf (by simp [mm_cond, q]))
theorem sx_if_icmp_ge {d : Int} (X : mm_Cx p R s m args c cells slots g o cc) (hd : decode cc pc = .ok (.if_icmp .ge d, n)) (hn : mm_len (.if_icmp .ge d) n = true) (hf : mm_x o (.if_icmp .ge d) pc L S h = some F) (k : mm_J p l e R s m args below meth c cells slots Q g F) : mm_J p l e R s m args below meth c cells slots Q g (pc, L, S, h) := by
  have e9 : n = 3 := Nat.eq_of_beq_eq_true hn
  subst e9
  obtain ⟨hx, hb, hown, hts, hZ, hR, hcs⟩ := X
  obtain ⟨x, y, T, rfl, hf⟩ := me_2i hf
  obtain ⟨t, ht, hf⟩ := me_to hf
  cases hf
  intro H locs ls hI hS hl hv
  have kt : mm_cond .ge x y = true → W p l e R s m args below meth c H locs cells slots Q (F0 m t ls (T.map (mm_v g.2.1))) := fun q => by have k2 := k H locs ls hI hS hl hv; rw [q] at k2; exact k2
  have kf : mm_cond .ge x y = false → W p l e R s m args below meth c H locs cells slots Q (F0 m (pc + 3) ls (T.map (mm_v g.2.1))) := fun q => by have k2 := k H locs ls hI hS hl hv; rw [q] at k2; exact k2
  refine lv_icmp_ge hx hb hd ht (fun q => kt (by simp [mm_cond, q])) (fun q => kf (by simp [mm_cond, q]))
theorem sx_if_icmp_gt {d : Int} (X : mm_Cx p R s m args c cells slots g o cc) (hd : decode cc pc = .ok (.if_icmp .gt d, n)) (hn : mm_len (.if_icmp .gt d) n = true) (hf : mm_x o (.if_icmp .gt d) pc L S h = some F) (k : mm_J p l e R s m args below meth c cells slots Q g F) : mm_J p l e R s m args below meth c cells slots Q g (pc, L, S, h) := by
  have e9 : n = 3 := Nat.eq_of_beq_eq_true hn
  subst e9
  obtain ⟨hx, hb, hown, hts, hZ, hR, hcs⟩ := X
  obtain ⟨x, y, T, rfl, hf⟩ := me_2i hf
  obtain ⟨t, ht, hf⟩ := me_to hf
  cases hf
  intro H locs ls hI hS hl hv
  have kt : mm_cond .gt x y = true → W p l e R s m args below meth c H locs cells slots Q (F0 m t ls (T.map (mm_v g.2.1))) := fun q => by have k2 := k H locs ls hI hS hl hv; rw [q] at k2; exact k2
  have kf : mm_cond .gt x y = false → W p l e R s m args below meth c H locs cells slots Q (F0 m (pc + 3) ls (T.map (mm_v g.2.1))) := fun q => by have k2 := k H locs ls hI hS hl hv; rw [q] at k2; exact k2
  refine lv_icmp_gt hx hb hd ht (fun q => kt (by simp [mm_cond, q])) (fun q => kf (by simp [mm_cond, q]))
theorem sx_if_icmp_le {d : Int} (X : mm_Cx p R s m args c cells slots g o cc) (hd : decode cc pc = .ok (.if_icmp .le d, n)) (hn : mm_len (.if_icmp .le d) n = true) (hf : mm_x o (.if_icmp .le d) pc L S h = some F) (k : mm_J p l e R s m args below meth c cells slots Q g F) : mm_J p l e R s m args below meth c cells slots Q g (pc, L, S, h) := by
  have e9 : n = 3 := Nat.eq_of_beq_eq_true hn
  subst e9
  obtain ⟨hx, hb, hown, hts, hZ, hR, hcs⟩ := X
  obtain ⟨x, y, T, rfl, hf⟩ := me_2i hf
  obtain ⟨t, ht, hf⟩ := me_to hf
  cases hf
  intro H locs ls hI hS hl hv
  have kt : mm_cond .le x y = true → W p l e R s m args below meth c H locs cells slots Q (F0 m t ls (T.map (mm_v g.2.1))) := fun q => by have k2 := k H locs ls hI hS hl hv; rw [q] at k2; exact k2
  have kf : mm_cond .le x y = false → W p l e R s m args below meth c H locs cells slots Q (F0 m (pc + 3) ls (T.map (mm_v g.2.1))) := fun q => by have k2 := k H locs ls hI hS hl hv; rw [q] at k2; exact k2
  refine lv_icmp_le hx hb hd ht (fun q => kt (by simp [mm_cond, q])) (fun q => kf (by simp [mm_cond, q]))
theorem sx_tableswitch {d lo hi : Int} {offs : Array Int} (X : mm_Cx p R s m args c cells slots g o cc) (hd : decode cc pc = .ok (.tableswitch d lo hi offs, n)) (hn : mm_len (.tableswitch d lo hi offs) n = true) (hf : mm_x o (.tableswitch d lo hi offs) pc L S h = some F) (k : mm_J p l e R s m args below meth c cells slots Q g F) : mm_J p l e R s m args below meth c cells slots Q g (pc, L, S, h) := by
  obtain ⟨hx, hb, hown, hts, hZ, hR, hcs⟩ := X
  obtain ⟨x, T, rfl, hg⟩ := me_1i hf
  clear hf
  have hf := hg
  clear hg
  split at hf
  · rename_i hc
    obtain ⟨t, ht, hf⟩ := me_to hf
    cases hf
    intro H locs ls hI hS hl hv
    exact lv_tableOut hx hb hd hc ht (k H locs ls hI hS hl hv)
  · rename_i hc
    split at hf
    · rename_i off ho
      obtain ⟨t, ht, hf⟩ := me_to hf
      cases hf
      intro H locs ls hI hS hl hv
      exact lv_tableIn hx hb hd (fun q => hc (Or.inl q)) (fun q => hc (Or.inr q)) ho ht (k H locs ls hI hS hl hv)
    · cases hf
theorem sx_lookupswitch {d : Int} {ps : Array (Int × Int)} (X : mm_Cx p R s m args c cells slots g o cc) (hd : decode cc pc = .ok (.lookupswitch d ps, n)) (hn : mm_len (.lookupswitch d ps) n = true) (hf : mm_x o (.lookupswitch d ps) pc L S h = some F) (k : mm_J p l e R s m args below meth c cells slots Q g F) : mm_J p l e R s m args below meth c cells slots Q g (pc, L, S, h) := by
  obtain ⟨hx, hb, hown, hts, hZ, hR, hcs⟩ := X
  obtain ⟨x, T, rfl, hf⟩ := me_1i hf
  obtain ⟨hp, hf⟩ := me_bif hf
  obtain ⟨t, ht, hf⟩ := me_to hf
  cases hf
  intro H locs ls hI hS hl hv
  exact lv_lookup hx hb hd hp rfl ht (k H locs ls hI hS hl hv)
theorem mm_flk {k : Nat} {z : Nat × Nat × Nat} (h : mm_find4 (mm_fT o) k = some z) : mm_Pf o (k, z) := by
  have h1 := mm_find4_mem h
  unfold mm_fT at h1
  have key : ∀ {a b : Nat} (x y : List (Nat × Nat × Nat × Nat)), (k, z) ∈ (bif Nat.blt a b then x else y) → (a < b ∧ (k, z) ∈ x) ∨ (b ≤ a ∧ (k, z) ∈ y) := by
    intro a b x y hh
    cases hb : Nat.blt a b with
    | true => rw [hb] at hh; exact Or.inl ⟨Nat.le_of_ble_eq_true hb, hh⟩
    | false =>
      rw [hb] at hh
      refine Or.inr ⟨?_, hh⟩
      rcases Nat.lt_or_ge a b with q | q
      · exact absurd ((Nat.ble_eq_true_of_le q).symm.trans hb) (by decide)
      · exact q
  rcases key _ _ h1 with ⟨q4, h1⟩ | ⟨q4, h1⟩
  · rcases key _ _ h1 with ⟨q2, h1⟩ | ⟨q2, h1⟩
    · rcases key _ _ h1 with ⟨q1, h1⟩ | ⟨q1, h1⟩
      · have e7 : o = 0 := by omega
        subst e7; exact mf_0 _ h1
      · have e7 : o = 1 := by omega
        subst e7; exact mf_1 _ h1
    · rcases key _ _ h1 with ⟨q3, h1⟩ | ⟨q3, h1⟩
      · have e7 : o = 2 := by omega
        subst e7; exact mf_2 _ h1
      · have e7 : o = 3 := by omega
        subst e7; exact mf_3 _ h1
  · rcases key _ _ h1 with ⟨q6, h1⟩ | ⟨q6, h1⟩
    · rcases key _ _ h1 with ⟨q5, h1⟩ | ⟨q5, h1⟩
      · have e7 : o = 4 := by omega
        subst e7; exact mf_4 _ h1
      · have e7 : o = 5 := by omega
        subst e7; exact mf_5 _ h1
    · rcases key _ _ h1 with ⟨q7, h1⟩ | ⟨q7, h1⟩
      · have e7 : o = 6 := by omega
        subst e7; exact mf_6 _ h1
      · rcases key _ _ h1 with ⟨q8, h1⟩ | ⟨q8, h1⟩
        · have e7 : o = 7 := by omega
          subst e7; exact mf_7 _ h1
        · exact absurd h1 (by unfold mm_fT_8; exact List.not_mem_nil)
theorem mm_clk {ci : Nat} {q : vw_C} (h : mm_K[ci]? = some q) : (∀ w ∈ u_ws q.1 q.2.1 q.2.2, w ∈ mm_TB) ∧ (∃ ty0 : Nat → FieldType, ∀ k, k < q.2.2 → parseFieldDescriptor (q.2.1 k).2.2.1 = some (ty0 k)) ∧ (∀ a, a < q.2.2 → ∀ b, b < q.2.2 → a ≠ b → (q.2.1 a).2.1 ≠ (q.2.1 b).2.1) := by
  match ci, h with
  | 0, h => cases h; exact ⟨mu_0, ⟨tyX0, tyX0_ok⟩, nmX0⟩
  | 1, h => cases h; exact ⟨mu_1, ⟨tyX1, tyX1_ok⟩, nmX1⟩
  | 2, h => cases h; exact ⟨mu_2, ⟨tyX2, tyX2_ok⟩, nmX2⟩
  | 3, h => cases h; exact ⟨mu_3, ⟨tyX3, tyX3_ok⟩, nmX3⟩
  | 4, h => cases h; exact ⟨mu_4, ⟨tyX4, tyX4_ok⟩, nmX4⟩
  | 5, h => cases h; exact ⟨mu_5, ⟨tyX5, tyX5_ok⟩, nmX5⟩
  | 6, h => cases h; exact ⟨mu_6, ⟨tyX6, tyX6_ok⟩, nmX6⟩
  | 7, h => cases h; exact ⟨mu_7, ⟨tyX7, tyX7_ok⟩, nmX7⟩
  | k + 8, h => simp [mm_K] at h
theorem sx_getfield {z : Nat} (X : mm_Cx p R s m args c cells slots g o cc) (hd : decode cc pc = .ok (.getfield z, n)) (hn : mm_len (.getfield z) n = true) (hf : mm_x o (.getfield z) pc L S h = some F) (k : mm_J p l e R s m args below meth c cells slots Q g F) : mm_J p l e R s m args below meth c cells slots Q g (pc, L, S, h) := by
  have e9 : n = 3 := Nat.eq_of_beq_eq_true hn
  subst e9
  obtain ⟨hx, hb, hown, hts, hZ, hR, hcs⟩ := X
  obtain ⟨q, T, rfl, hg⟩ := me_1r hf
  clear hf
  have hf := hg
  clear hg
  split at hf
  · rename_i ci j tt hfl
    obtain ⟨fs, hq, hf⟩ := me_ob hf
    split at hf
    · rename_i v hv9
      cases hf
      intro H locs ls hI hS hl hv
      obtain ⟨⟨C, T9, N⟩, p1, p2, p3, -⟩ := mm_flk hfl
      have hq1 := hI.2.2.2.ob hq
      exact va_get (D := g.1) (ci := ci) hx hb hts (mm_clk p1).1 hown hZ.1 hI.1 (q - 2) (mm_w_get hq1 hq) p1 j p2 (hts _ p3) (fun _ h9 => h9) (v := mm_v g.2.1 v) (by rw [List.getElem?_map, hv9]; rfl) hd (k H locs ls hI hS hl hv)
    · cases hf
  · cases hf
theorem mm_nb {x : Int32} (h : x = 0 ∨ x = 1) : narrow .boolean (.int x) = .int x ∧ fits .boolean (.int x) = true := by
  rcases h with rfl | rfl
  · exact ⟨rfl, rfl⟩
  · exact ⟨rfl, rfl⟩
/-- a field is put -/
theorem sx_put {z ci j tt q : Nat} {v : Value} {T : List Value} {fs : List Value} (X : mm_Cx p R s m args c cells slots g o cc) (hd : decode cc pc = .ok (.putfield z, 3)) (hfl : mm_find4 (mm_fT o) z = some (ci, j, tt)) (hq : h[q]? = some (.inr (ci, fs))) (hj : j < fs.length) (ht : tt ≠ 0) (hr : mm_v g.2.1 v = v) (hnar : narrow (mm_tt tt) v = v) (hfit : fits (mm_tt tt) v = true) (k : mm_J p l e R s m args below meth c cells slots Q g (pc + 3, L, T, h.set q (.inr (ci, fs.set j v)))) : mm_J p l e R s m args below meth c cells slots Q g (pc, L, v :: .ref q :: T, h) := by
  obtain ⟨hx, hb, hown, hts, hZ, hR, hcs⟩ := X
  intro H locs ls hI hS hl hv
  obtain ⟨⟨C, T9, N⟩, p1, p2, p3, p4⟩ := mm_flk hfl
  have hq1 := hI.2.2.2.ob hq
  rcases p4 with p4 | ⟨p4, p5⟩
  · exact absurd p4 ht
  obtain ⟨hu, ⟨ty0, hty⟩, hnm⟩ := mm_clk p1
  have goal : W p l e R s m args below meth c H locs cells slots Q (F0 m pc ls (v :: .ref (g.2.1 q) :: T.map (mm_v g.2.1))) := by
    refine va_put (D := g.1) (ci := ci) (v := v) hx hb hts hu ty0 hty hnm hown hZ.1 hI.1 hI.2.1 hS (q - 2) (mm_w_get hq1 hq) p1 j p2 (hts _ p3) (fun _ h9 => h9) p4 p5 hnar hfit (by rw [List.length_map]; exact hj) hd (fun H1 locs1 hP1 hD1 hS1 => ?_)
    have e1 : (mm_w g.2.1 g.2.2.1 h).set (q - 2) (g.2.1 q, .inr (ci, (fs.map (mm_v g.2.1)).set j v)) = mm_w g.2.1 g.2.2.1 (h.set q (.inr (ci, fs.set j v))) := by
      rw [← mm_w_set hq1]
      show _ = (mm_w g.2.1 g.2.2.1 h).set (q - 2) (g.2.1 q, .inr (ci, (fs.set j v).map (mm_v g.2.1)))
      rw [List.map_set, hr]
    rw [e1] at hP1 hD1
    exact k H1 locs1 ls ⟨hP1, hD1, hI.2.2.1.setO, hI.2.2.2.set hq1⟩ hS1 hl hv
  show W p l e R s m args below meth c H locs cells slots Q (F0 m pc ls (mm_v g.2.1 v :: .ref (g.2.1 q) :: T.map (mm_v g.2.1)))
  rw [hr]
  exact goal
theorem sx_putfield {z : Nat} (X : mm_Cx p R s m args c cells slots g o cc) (hd : decode cc pc = .ok (.putfield z, n)) (hn : mm_len (.putfield z) n = true) (hf : mm_x o (.putfield z) pc L S h = some F) (k : mm_J p l e R s m args below meth c cells slots Q g F) : mm_J p l e R s m args below meth c cells slots Q g (pc, L, S, h) := by
  have e9 : n = 3 := Nat.eq_of_beq_eq_true hn
  subst e9
  obtain ⟨hx, hb, hown, hts, hZ, hR, hcs⟩ := X
  unfold mm_x at hf
  simp only at hf
  split at hf
  · rename_i ci j tt hfl
    split at hf
    · obtain ⟨fs, hq, hf⟩ := me_ob hf
      obtain ⟨hj, hf⟩ := me_bif hf
      cases h1 : Nat.beq tt 1 with
      | true =>
        rw [h1] at hf
        cases hf
        have e1 := Nat.eq_of_beq_eq_true h1
        subst e1
        exact sx_put ⟨hx, hb, hown, hts, hZ, hR, hcs⟩ hd hfl hq (me_blt hj) (by decide) rfl rfl rfl k
      | false =>
        rw [h1] at hf
        simp only [cond_false] at hf
        obtain ⟨h3, hf⟩ := me_bif hf
        obtain ⟨hx01, hf⟩ := me_it hf
        cases hf
        have e1 := Nat.eq_of_beq_eq_true h3
        subst e1
        exact sx_put ⟨hx, hb, hown, hts, hZ, hR, hcs⟩ hd hfl hq (me_blt hj) (by decide) rfl (mm_nb hx01).1 (mm_nb hx01).2 k
    · obtain ⟨fs, hq, hf⟩ := me_ob hf
      obtain ⟨hj, hf⟩ := me_bif hf
      rw [Bool.and_eq_true] at hj
      cases hf
      have e1 := Nat.eq_of_beq_eq_true hj.2
      subst e1
      exact sx_put ⟨hx, hb, hown, hts, hZ, hR, hcs⟩ hd hfl hq (me_blt hj.1) (by decide) rfl rfl rfl k
    · cases hf
  · cases hf
theorem sx_getstatic {z : Nat} (X : mm_Cx p R s m args c cells slots g o cc) (hd : decode cc pc = .ok (.getstatic z, n)) (hn : mm_len (.getstatic z) n = true) (hf : mm_x o (.getstatic z) pc L S h = some F) (k : mm_J p l e R s m args below meth c cells slots Q g F) : mm_J p l e R s m args below meth c cells slots Q g (pc, L, S, h) := by
  have e9 : n = 3 := Nat.eq_of_beq_eq_true hn
  subst e9
  obtain ⟨hx, hb, hown, hts, hZ, hR, hcs⟩ := X
  obtain ⟨hc, hf⟩ := me_bif hf
  cases hf
  intro H locs ls hI hS hl hv
  rw [Bool.or_eq_true, Bool.and_eq_true, Bool.and_eq_true] at hc
  rcases hc with ⟨h1, h2⟩ | ⟨h1, h2⟩
  · have e1 := Nat.eq_of_beq_eq_true h1; have e2 := Nat.eq_of_beq_eq_true h2
    subst e1; subst e2
    exact va_getsN hx hb hZ.2.1 hS hown (hZ.2.2.2.2.2.2.2.use rfl) (fun _ h9 => h9) hd (k H locs ls hI hS hl hv)
  · have e1 := Nat.eq_of_beq_eq_true h1; have e2 := Nat.eq_of_beq_eq_true h2
    subst e1; subst e2
    exact va_gets hx hb hZ.2.1 hS hown (hts _ mk_reach) (fun _ h9 => h9) hd (k H locs ls hI hS hl hv)
theorem sx_iaload (X : mm_Cx p R s m args c cells slots g o cc) (hd : decode cc pc = .ok (.iaload, n)) (hn : mm_len (.iaload) n = true) (hf : mm_x o (.iaload) pc L S h = some F) (k : mm_J p l e R s m args below meth c cells slots Q g F) : mm_J p l e R s m args below meth c cells slots Q g (pc, L, S, h) := by
  have e9 : n = 1 := Nat.eq_of_beq_eq_true hn
  subst e9
  obtain ⟨hx, hb, hown, hts, hZ, hR, hcs⟩ := X
  obtain ⟨q, i, T, rfl, hf⟩ := me_ri hf
  obtain ⟨n9, u, hq, hf⟩ := me_ai hf
  obtain ⟨hin, hf⟩ := me_if hf
  cases hf
  intro H locs ls hI hS hl hv
  rcases Nat.lt_or_ge 1 q with hq1 | hq1
  · obtain ⟨t9, ht9⟩ := hI.2.2.1 q 0 _ hq1 hq
    exact va_iald (D := g.1) hx hb hZ.1 hI.1 (q - 2) t9 (mm_w_get hq1 hq) ht9 hin hd (k H locs ls hI hS hl hv)
  · rcases (show q = 0 ∨ q = 1 by omega) with rfl | rfl
    · have e1 := hI.2.2.2.1.symm.trans hq
      cases e1
      exact va_ti hx hb hZ.2.2.1 hS hin rfl hd (k H locs ls hI hS hl hv)
    · have e1 := hI.2.2.2.2.symm.trans hq
      cases e1
      obtain ⟨scr, e3, e4⟩ := hZ.2.2.2.1
      exact va_sld hx hb ⟨scr, e3, e4⟩ (Array.getElem?_eq_some_iff.mp e3).1 hZ.2.2.2.2.1 hS hin hd (k H locs ls hI hS hl hv)
theorem mm_nz {L : Nat} {xs : Nat → Int32} (k : mm_RS L xs h) {q t : Nat} {a : vp_A} (e : h[q]? = some (.inl (t, a))) (ht : t ≠ 0) : 1 < q := by
  rcases Nat.lt_or_ge 1 q with r | r
  · exact r
  · rcases (show q = 0 ∨ q = 1 by omega) with rfl | rfl
    · rw [k.1] at e; cases e; exact absurd rfl ht
    · rw [k.2] at e; cases e; exact absurd rfl ht
theorem mm_e_arr {ad : Nat → Nat} {ca : Nat → ClassId} {k : Nat} (t : Nat) (a : vp_A) : ∃ b : vp_A, mm_e ad ca k (.inl (t, a)) = .inl (ca k, b) ∧ b.1 = a.1 := by
  obtain ⟨n, a⟩ := a
  rcases a with a | a | a | a | a
  · exact ⟨_, rfl, rfl⟩
  · exact ⟨_, rfl, rfl⟩
  · exact ⟨_, rfl, rfl⟩
  · exact ⟨_, rfl, rfl⟩
  · exact ⟨_, rfl, rfl⟩
theorem sx_laload (X : mm_Cx p R s m args c cells slots g o cc) (hd : decode cc pc = .ok (.laload, n)) (hn : mm_len (.laload) n = true) (hf : mm_x o (.laload) pc L S h = some F) (k : mm_J p l e R s m args below meth c cells slots Q g F) : mm_J p l e R s m args below meth c cells slots Q g (pc, L, S, h) := by
  have e9 : n = 1 := Nat.eq_of_beq_eq_true hn
  subst e9
  obtain ⟨hx, hb, hown, hts, hZ, hR, hcs⟩ := X
  obtain ⟨q, i, T, rfl, hf⟩ := me_ri hf
  obtain ⟨n9, u, hq, hf⟩ := me_al hf
  obtain ⟨hin, hf⟩ := me_if hf
  cases hf
  intro H locs ls hI hS hl hv
  have hq1 : 1 < q := mm_nz hI.2.2.2 hq (by decide)
  obtain ⟨t9, ht9⟩ := hI.2.2.1 q 1 _ hq1 hq
  exact va_lald (D := g.1) hx hb hZ.1 hI.1 (q - 2) t9 (mm_w_get hq1 hq) ht9 hin hd (k H locs ls hI hS hl hv)
theorem sx_baload (X : mm_Cx p R s m args c cells slots g o cc) (hd : decode cc pc = .ok (.baload, n)) (hn : mm_len (.baload) n = true) (hf : mm_x o (.baload) pc L S h = some F) (k : mm_J p l e R s m args below meth c cells slots Q g F) : mm_J p l e R s m args below meth c cells slots Q g (pc, L, S, h) := by
  have e9 : n = 1 := Nat.eq_of_beq_eq_true hn
  subst e9
  obtain ⟨hx, hb, hown, hts, hZ, hR, hcs⟩ := X
  obtain ⟨q, i, T, rfl, hf⟩ := me_ri hf
  obtain ⟨n9, u, hq, hf⟩ := me_ab hf
  obtain ⟨hin, hf⟩ := me_if hf
  cases hf
  intro H locs ls hI hS hl hv
  have hq1 : 1 < q := mm_nz hI.2.2.2 hq (by decide)
  obtain ⟨t9, ht9⟩ := hI.2.2.1 q 2 _ hq1 hq
  exact va_zald (D := g.1) hx hb hZ.1 hI.1 (q - 2) t9 (mm_w_get hq1 hq) ht9 hin hd (k H locs ls hI hS hl hv)
theorem sx_aaload (X : mm_Cx p R s m args c cells slots g o cc) (hd : decode cc pc = .ok (.aaload, n)) (hn : mm_len (.aaload) n = true) (hf : mm_x o (.aaload) pc L S h = some F) (k : mm_J p l e R s m args below meth c cells slots Q g F) : mm_J p l e R s m args below meth c cells slots Q g (pc, L, S, h) := by
  have e9 : n = 1 := Nat.eq_of_beq_eq_true hn
  subst e9
  obtain ⟨hx, hb, hown, hts, hZ, hR, hcs⟩ := X
  obtain ⟨q, i, T, rfl, hf⟩ := me_ri hf
  obtain ⟨n9, u, hq, hf⟩ := me_ar hf
  obtain ⟨hin, hf⟩ := me_if hf
  split at hf
  · rename_i p9 hp9
    cases hf
    intro H locs ls hI hS hl hv
    have hq1 : 1 < q := mm_nz hI.2.2.2 hq (by decide)
    obtain ⟨t9, ht9⟩ := hI.2.2.1 q 3 _ hq1 hq
    refine va_aldq (D := g.1) hx hb hZ.1 hI.1 (q - 2) t9 (mm_w_get hq1 hq) ht9 hin hd ?_
    have e1 : va_rf ((u i.toNatClampNeg).map g.2.1) = .ref (g.2.1 p9) := by rw [hp9]; rfl
    rw [e1]
    exact k H locs ls hI hS hl hv
  · cases hf
theorem sx_iastore (X : mm_Cx p R s m args c cells slots g o cc) (hd : decode cc pc = .ok (.iastore, n)) (hn : mm_len (.iastore) n = true) (hf : mm_x o (.iastore) pc L S h = some F) (k : mm_J p l e R s m args below meth c cells slots Q g F) : mm_J p l e R s m args below meth c cells slots Q g (pc, L, S, h) := by
  have e9 : n = 1 := Nat.eq_of_beq_eq_true hn
  subst e9
  obtain ⟨hx, hb, hown, hts, hZ, hR, hcs⟩ := X
  obtain ⟨q, i, x, T, rfl, hf⟩ := me_rii hf
  obtain ⟨n9, u, hq, hf⟩ := me_ai hf
  obtain ⟨hin, hf⟩ := me_if hf
  obtain ⟨hq1, hf⟩ := me_bif hf
  have hq1 := me_blt hq1
  cases hf
  intro H locs ls hI hS hl hv
  obtain ⟨t9, ht9⟩ := hI.2.2.1 q 0 _ hq1 hq
  refine va_iast (D := g.1) hx hb hZ.1 hI.1 hI.2.1 hS (q - 2) t9 (mm_w_get hq1 hq) ht9 hin hd (fun H1 locs1 hP1 hD1 hS1 => ?_)
  exact k H1 locs1 ls ⟨by rw [← mm_w_set hq1]; exact hP1, by rw [← mm_w_set hq1]; exact hD1, hI.2.2.1.set hq, hI.2.2.2.set hq1⟩ hS1 hl hv
theorem sx_lastore (X : mm_Cx p R s m args c cells slots g o cc) (hd : decode cc pc = .ok (.lastore, n)) (hn : mm_len (.lastore) n = true) (hf : mm_x o (.lastore) pc L S h = some F) (k : mm_J p l e R s m args below meth c cells slots Q g F) : mm_J p l e R s m args below meth c cells slots Q g (pc, L, S, h) := by
  have e9 : n = 1 := Nat.eq_of_beq_eq_true hn
  subst e9
  obtain ⟨hx, hb, hown, hts, hZ, hR, hcs⟩ := X
  obtain ⟨q, i, x, T, rfl, hf⟩ := me_ril hf
  obtain ⟨n9, u, hq, hf⟩ := me_al hf
  obtain ⟨hin, hf⟩ := me_if hf
  obtain ⟨hq1, hf⟩ := me_bif hf
  have hq1 := me_blt hq1
  cases hf
  intro H locs ls hI hS hl hv
  obtain ⟨t9, ht9⟩ := hI.2.2.1 q 1 _ hq1 hq
  refine va_last (D := g.1) hx hb hZ.1 hI.1 hI.2.1 hS (q - 2) t9 (mm_w_get hq1 hq) ht9 hin hd (fun H1 locs1 hP1 hD1 hS1 => ?_)
  exact k H1 locs1 ls ⟨by rw [← mm_w_set hq1]; exact hP1, by rw [← mm_w_set hq1]; exact hD1, hI.2.2.1.set hq, hI.2.2.2.set hq1⟩ hS1 hl hv
theorem sx_bastore (X : mm_Cx p R s m args c cells slots g o cc) (hd : decode cc pc = .ok (.bastore, n)) (hn : mm_len (.bastore) n = true) (hf : mm_x o (.bastore) pc L S h = some F) (k : mm_J p l e R s m args below meth c cells slots Q g F) : mm_J p l e R s m args below meth c cells slots Q g (pc, L, S, h) := by
  have e9 : n = 1 := Nat.eq_of_beq_eq_true hn
  subst e9
  obtain ⟨hx, hb, hown, hts, hZ, hR, hcs⟩ := X
  obtain ⟨q, i, x, T, rfl, hf⟩ := me_rii hf
  obtain ⟨n9, u, hq, hf⟩ := me_ab hf
  obtain ⟨hin, hf⟩ := me_if hf
  obtain ⟨hx01, hf⟩ := me_it hf
  obtain ⟨hq1, hf⟩ := me_bif hf
  have hq1 := me_blt hq1
  cases hf
  intro H locs ls hI hS hl hv
  obtain ⟨t9, ht9⟩ := hI.2.2.1 q 2 _ hq1 hq
  have e1 : vp_nar .boolean x = x := by unfold vp_nar; rw [(mm_nb hx01).1]
  refine va_zast (D := g.1) hx hb hZ.1 hI.1 hI.2.1 hS (q - 2) t9 (mm_w_get hq1 hq) ht9 hin hd (fun H1 locs1 hP1 hD1 hS1 => ?_)
  rw [e1] at hP1 hD1
  exact k H1 locs1 ls ⟨by rw [← mm_w_set hq1]; exact hP1, by rw [← mm_w_set hq1]; exact hD1, hI.2.2.1.set hq, hI.2.2.2.set hq1⟩ hS1 hl hv
theorem sx_arraylength (X : mm_Cx p R s m args c cells slots g o cc) (hd : decode cc pc = .ok (.arraylength, n)) (hn : mm_len (.arraylength) n = true) (hf : mm_x o (.arraylength) pc L S h = some F) (k : mm_J p l e R s m args below meth c cells slots Q g F) : mm_J p l e R s m args below meth c cells slots Q g (pc, L, S, h) := by
  have e9 : n = 1 := Nat.eq_of_beq_eq_true hn
  subst e9
  obtain ⟨hx, hb, hown, hts, hZ, hR, hcs⟩ := X
  obtain ⟨q, T, rfl, hf⟩ := me_1r hf
  obtain ⟨t, a, hq, hf⟩ := me_an hf
  cases hf
  intro H locs ls hI hS hl hv
  rcases Nat.lt_or_ge 1 q with hq1 | hq1
  · obtain ⟨t9, ht9⟩ := hI.2.2.1 q t _ hq1 hq
    obtain ⟨b, hb1, hb2⟩ := mm_e_arr (ad := g.2.1) (ca := g.2.2.1) (k := q) t a
    exact va_alen (D := g.1) hx hb hZ.1 hI.1 (q - 2) t9 (x := b) (by rw [mm_w_get hq1 hq, hb1]) ht9 (by rw [hb2]) hd (k H locs ls hI hS hl hv)
  · rcases (show q = 0 ∨ q = 1 by omega) with rfl | rfl
    · have e1 := hI.2.2.2.1.symm.trans hq
      cases e1
      exact va_tlen hx hb hZ.2.2.1 hS rfl hd (k H locs ls hI hS hl hv)
    · have e1 := hI.2.2.2.2.symm.trans hq
      cases e1
      obtain ⟨scr, e3, e4⟩ := hZ.2.2.2.1
      exact va_slen hx hb ⟨scr, e3, e4⟩ (Array.getElem?_eq_some_iff.mp e3).1 hZ.2.2.2.2.1 hS hd (k H locs ls hI hS hl hv)
theorem mm_cik {k : Nat} {v : Int32} (h : mm_ci k = some v) : Cond.constant (mm_nm 9) k v ∈ mm_TB := by
  unfold mm_ci at h
  cases h1 : Nat.beq k 265 with
  | true => rw [h1] at h; cases h; rw [Nat.eq_of_beq_eq_true h1]; exact mk_9_265
  | false =>
    rw [h1] at h
    cases h2 : Nat.beq k 266 with
    | true => rw [h2] at h; cases h; rw [Nat.eq_of_beq_eq_true h2]; exact mk_9_266
    | false =>
      rw [h2] at h
      cases h3 : Nat.beq k 267 with
      | true => rw [h3] at h; cases h; rw [Nat.eq_of_beq_eq_true h3]; exact mk_9_267
      | false => rw [h3] at h; cases h
theorem mm_clk2 {k : Nat} {v : Int64} (h : mm_cl o k = some v) : Cond.constantLong (mm_nm o) k v ∈ mm_TB := by
  unfold mm_cl at h
  cases h1 : (Nat.beq o 2 || Nat.beq o 5) && Nat.beq k 63 with
  | true =>
    rw [h1] at h
    cases h
    rw [Bool.and_eq_true, Bool.or_eq_true] at h1
    rw [Nat.eq_of_beq_eq_true h1.2]
    rcases h1.1 with h2 | h2
    · rw [Nat.eq_of_beq_eq_true h2]; exact mk_2_63
    · rw [Nat.eq_of_beq_eq_true h2]; exact mk_5_63
  | false =>
    rw [h1] at h
    simp only [cond_false] at h
    cases h2 : Nat.beq o 10 with
    | true =>
      rw [h2] at h
      simp only [cond_true] at h
      rw [Nat.eq_of_beq_eq_true h2]
      cases h3 : Nat.beq k 314 with
      | true => rw [h3] at h; cases h; rw [Nat.eq_of_beq_eq_true h3]; exact mk_10_314
      | false =>
        rw [h3] at h
        cases h4 : Nat.beq k 316 with
        | true => rw [h4] at h; cases h; rw [Nat.eq_of_beq_eq_true h4]; exact mk_10_316
        | false =>
          rw [h4] at h
          cases h5 : Nat.beq k 318 with
          | true => rw [h5] at h; cases h; rw [Nat.eq_of_beq_eq_true h5]; exact mk_10_318
          | false => rw [h5] at h; cases h
    | false =>
      rw [h2] at h
      simp only [cond_false] at h
      cases h3 : (Nat.beq o 6 && Nat.beq k 160) || (Nat.beq o 7 && Nat.beq k 60) with
      | false => rw [h3] at h; cases h
      | true =>
        rw [h3] at h
        cases h
        rw [Bool.or_eq_true, Bool.and_eq_true, Bool.and_eq_true] at h3
        rcases h3 with ⟨h4, h5⟩ | ⟨h4, h5⟩
        · rw [Nat.eq_of_beq_eq_true h4, Nat.eq_of_beq_eq_true h5]; exact mk_6_160
        · rw [Nat.eq_of_beq_eq_true h4, Nat.eq_of_beq_eq_true h5]; exact mk_7_60
theorem sx_ldc_w {z : Nat} (X : mm_Cx p R s m args c cells slots g o cc) (hd : decode cc pc = .ok (.ldc_w z, n)) (hn : mm_len (.ldc_w z) n = true) (hf : mm_x o (.ldc_w z) pc L S h = some F) (k : mm_J p l e R s m args below meth c cells slots Q g F) : mm_J p l e R s m args below meth c cells slots Q g (pc, L, S, h) := by
  have e9 : n = 3 := Nat.eq_of_beq_eq_true hn
  subst e9
  obtain ⟨hx, hb, hown, hts, hZ, hR, hcs⟩ := X
  obtain ⟨ho, hg⟩ := me_bif hf
  clear hf
  have ho := Nat.eq_of_beq_eq_true ho
  subst ho
  have hf := hg
  clear hg
  split at hf
  · rename_i v hv9
    cases hf
    intro H locs ls hI hS hl hv
    exact lv_ldcw hx hb hown (hts _ (mm_cik hv9)) hd (k H locs ls hI hS hl hv)
  · cases hf
theorem sx_ldc2_w {z : Nat} (X : mm_Cx p R s m args c cells slots g o cc) (hd : decode cc pc = .ok (.ldc2_w z, n)) (hn : mm_len (.ldc2_w z) n = true) (hf : mm_x o (.ldc2_w z) pc L S h = some F) (k : mm_J p l e R s m args below meth c cells slots Q g F) : mm_J p l e R s m args below meth c cells slots Q g (pc, L, S, h) := by
  have e9 : n = 3 := Nat.eq_of_beq_eq_true hn
  subst e9
  obtain ⟨hx, hb, hown, hts, hZ, hR, hcs⟩ := X
  unfold mm_x at hf
  simp only at hf
  split at hf
  · rename_i v hv9
    cases hf
    intro H locs ls hI hS hl hv
    exact lv_ldc2 hx hb hown (hts _ (mm_clk2 hv9)) hd (k H locs ls hI hS hl hv)
  · cases hf
end SX
