/-! the small machine against the large one: its instructions (written by wip/whole/gen08.py) -/
def mm_v (ad : Nat → Nat) : Value → Value
  | .ref q => .ref (ad q)
  | v => v
theorem mm_v_cat (ad : Nat → Nat) (v : Value) : (mm_v ad v).category = v.category := by cases v <;> rfl
theorem mm_sz_v (ad : Nat → Nat) : ∀ S : List Value, ((S.map (mm_v ad)).map fun v => v.category).sum = mm_sz S
  | [] => rfl
  | v :: S => by
    have h := mm_sz_v ad S
    simp only [mm_sz, List.map_cons, List.sum_cons, mm_v_cat] at h ⊢
    rw [h]
def mm_e (ad : Nat → Nat) (ca : Nat → ClassId) (k : Nat) : mm_C → va_E
  | .inl (_, n, .inr (.inr (.inr (.inr f)))) => .inl (ca k, n, .inr (.inr (.inr (.inr (fun j => (f j).map ad)))))
  | .inl (_, a) => .inl (ca k, a)
  | .inr (c, fs) => .inr (c, fs.map (mm_v ad))
def mm_w (ad : Nat → Nat) (ca : Nat → ClassId) (h : mm_H) : va_W := (h.drop 2).mapIdx fun k c => (ad (k + 2), mm_e ad ca (k + 2) c)
theorem mm_w_get {ad : Nat → Nat} {ca : Nat → ClassId} {h : mm_H} {q : Nat} {c : mm_C} (hq : 1 < q) (e : h[q]? = some c) : (mm_w ad ca h)[q - 2]? = some (ad q, mm_e ad ca q c) := by
  unfold mm_w
  rw [List.getElem?_mapIdx, List.getElem?_drop]
  have e2 : 2 + (q - 2) = q := by omega
  have e3 : q - 2 + 2 = q := by omega
  rw [e2, e, e3]
  rfl
theorem mm_w_set {ad : Nat → Nat} {ca : Nat → ClassId} {h : mm_H} {q : Nat} {c : mm_C} (hq : 1 < q) : (mm_w ad ca h).set (q - 2) (ad q, mm_e ad ca q c) = mm_w ad ca (h.set q c) := by
  unfold mm_w
  have e3 : q - 2 + 2 = q := by omega
  rw [List.drop_set, if_neg (by omega), List.mapIdx_set, e3]
def mm_ty (t : Nat) : FieldType := bif Nat.beq t 0 then .int else bif Nat.beq t 1 then .long else bif Nat.beq t 2 then .boolean else .object "PondRings$Sheet"
def mm_T (tys : List (ClassId × FieldType)) (ca : Nat → ClassId) (h : mm_H) : Prop := ∀ (q t : Nat) (a : vp_A), 1 < q → h[q]? = some (.inl (t, a)) → ∃ i : Nat, tys[i]? = some (ca q, mm_ty t)
theorem mm_T.set {tys : List (ClassId × FieldType)} {ca : Nat → ClassId} {h : mm_H} (k : mm_T tys ca h) {q t : Nat} {a b : vp_A} (e : h[q]? = some (.inl (t, a))) : mm_T tys ca (h.set q (.inl (t, b))) := by
  intro q' t' a' hq' e'
  by_cases hq : q' = q
  · subst hq
    rw [List.getElem?_set_self (List.getElem?_eq_some_iff.mp e).1] at e'
    cases e'
    exact k q' t a hq' e
  · rw [List.getElem?_set_ne (Ne.symm hq)] at e'
    exact k q' t' a' hq' e'
theorem mm_T.setO {tys : List (ClassId × FieldType)} {ca : Nat → ClassId} {h : mm_H} (k : mm_T tys ca h) {q : Nat} {x : Nat × List Value} : mm_T tys ca (h.set q (.inr x)) := by
  intro q' t' a' hq' e'
  by_cases hq : q' = q
  · subst hq
    rw [List.getElem?_set] at e'
    split at e'
    · split at e' <;> cases e'
    · exact k q' t' a' hq' e'
  · rw [List.getElem?_set_ne (Ne.symm hq)] at e'
    exact k q' t' a' hq' e'
def mm_reach : Nat → Int32 := fun j => if j = 0 then 99 else if j = 1 then 3 else 1
/-- the world's names: where classes and fields are, the cells' addresses, arrays' classes, their types, which addresses are ours, the script -/
abbrev mm_G : Type := va_G × (Nat → Nat) × (Nat → ClassId) × List (ClassId × FieldType) × (Nat → Prop) × Nat × (Nat → Int32)
def mm_RS (L : Nat) (xs : Nat → Int32) (h : mm_H) : Prop := h[0]? = some (.inl (0, 3, .inl mm_reach)) ∧ h[1]? = some (.inl (0, L, .inl xs))
theorem mm_RS.set {L : Nat} {xs : Nat → Int32} {h : mm_H} (k : mm_RS L xs h) {q : Nat} {c : mm_C} (hq : 1 < q) : mm_RS L xs (h.set q c) := ⟨by rw [List.getElem?_set_ne (by omega)]; exact k.1, by rw [List.getElem?_set_ne (by omega)]; exact k.2⟩
theorem mm_RS.ob {L : Nat} {xs : Nat → Int32} {h : mm_H} (k : mm_RS L xs h) {q : Nat} {x : Nat × List Value} (e : h[q]? = some (.inr x)) : 1 < q := by
  rcases Nat.lt_or_ge 1 q with r | r
  · exact r
  · rcases (show q = 0 ∨ q = 1 by omega) with rfl | rfl
    · rw [k.1] at e; cases e
    · rw [k.2] at e; cases e
def mm_I (g : mm_G) (h : mm_H) (H : Heap) : Prop := va_P g.1 mm_K (mm_w g.2.1 g.2.2.1 h) H ∧ va_D g.2.2.2.2.1 (mm_w g.2.1 g.2.2.1 h) ∧ mm_T g.2.2.2.1 g.2.2.1 h ∧ mm_RS g.2.2.2.2.2.1 g.2.2.2.2.2.2 h
def mm_Z (g : mm_G) (U : State) (H : Heap) : Prop := va_K g.1 mm_K g.2.2.2.1 U ∧ va_Z "PondRings" "REACH" "[I" (.ref (g.2.1 0)) g.2.2.2.2.1 U H ∧ va_T .int (g.2.1 0) 3 (fun j => .int (mm_reach j)) g.2.2.2.2.1 U H ∧ va_X (g.2.1 1) g.2.2.2.2.2.1 g.2.2.2.2.2.2 U H ∧ ¬ g.2.2.2.2.1 (g.2.1 1) ∧
  va_Nw (.methodLinkNest RX1 49 yX6_lowestBit "PondRings") U ∧ va_Nw (.methodLinkNest RX5 65 yX6_lowestBit "PondRings") U ∧ va_Nw (.fieldLinkNest RX0 25 "PondRings" "REACH" "[I" "PondRings") U
theorem mm_Z.go {g : mm_G} {s U : State} {H : Heap} {locs : List Loc} (k : mm_Z g s s.heap) (hW : s.WarmedH U.vm) (hU : U.heap = H) (hS : va_S g.2.2.2.2.1 s.heap H locs) : mm_Z g U U.heap := by
  obtain ⟨h1, h2, h3, h4, h5, h6, h7, h8⟩ := k
  subst hU
  refine ⟨va_K.moved hW.alike h1, (h2.moved hW.alike).kept (fun a q r => hS.2.1 a q r), (h3.moved hW.alike).kept (fun a q r => hS.2.1 a q r), ?_, h5, h6.warmM hW, h7.warmM hW, h8.warmF hW⟩
  obtain ⟨scr, e1, e2⟩ := h4
  exact (va_X.moved hW.alike ⟨scr, e1, e2⟩).kept (hS.2.1 _ (Array.getElem?_eq_some_iff.mp e1).1 h5)
theorem mm_Z.at {g : mm_G} {u U : State} {H : Heap} (k : mm_Z g u H) (hvm : u.vm = U.vm) : mm_Z g U H := by
  obtain ⟨h1, h2, h3, h4, h5, h6, h7, h8⟩ := k
  have hA : u.vm.Alike U.vm := by rw [hvm]; exact Vm.Alike.refl U.vm
  exact ⟨va_K.moved hA h1, h2.moved hA, h3.moved hA, va_X.moved hA h4, h5, h6.same rfl hvm, h7.same rfl hvm, h8.same rfl hvm⟩
def mm_lp (ad : Nat → Nat) (L : mm_L) : List (Nat × Value) := L.zipIdx.filterMap fun q => q.1.map fun v => (q.2, mm_v ad v)
theorem mm_lp_mem {ad : Nat → Nat} {L : mm_L} {q : Nat × Value} : q ∈ mm_lp ad L ↔ ∃ u, L[q.1]? = some (some u) ∧ q.2 = mm_v ad u := by
  unfold mm_lp
  rw [List.mem_filterMap]
  constructor
  · rintro ⟨⟨z, j⟩, hm, he⟩
    rw [List.mem_zipIdx_iff_getElem?] at hm
    cases z with
    | none => cases he
    | some u => cases he; exact ⟨u, hm, rfl⟩
  · rintro ⟨u, h1, h2⟩
    exact ⟨(some u, q.1), List.mem_zipIdx_iff_getElem?.mpr h1, by simp [← h2]⟩
theorem mm_lp_at {ad : Nat → Nat} {L : mm_L} {ls : Array Slot} {n i : Nat} {v : Value} (h : lv_has ls n (mm_lp ad L)) (e : L[i]? = some (some v)) : ls[i]? = some (.val (mm_v ad v)) := h.2.2 (i, mm_v ad v) (mm_lp_mem.mpr ⟨v, e, rfl⟩)
theorem mm_lp_sub {ls : Array Slot} {n : Nat} {l l' : List (Nat × Value)} (h : lv_has ls n l) (k : ∀ q ∈ l', q ∈ l) : lv_has ls n l' := ⟨h.1, h.2.1, fun q hq => h.2.2 q (k q hq)⟩
theorem mm_st1_len (L : mm_L) (i : Nat) (v : Value) : (mm_st1 L i v).length = L.length := by
  unfold mm_st1
  rw [List.length_set]
  split
  · rfl
  · split
    · cases Nat.beq _ 2
      · rfl
      · exact List.length_set
    · rfl
theorem mm_st2_len (L : mm_L) (i : Nat) (v : Value) : (mm_st2 L i v).length = L.length := by
  unfold mm_st2
  rw [List.length_set, mm_st1_len]
theorem mm_st1_get {L : mm_L} {i j : Nat} {v u : Value} (e : (mm_st1 L i v)[j]? = some (some u)) : (j = i ∧ u = v) ∨ (j ≠ i ∧ L[j]? = some (some u) ∧ ¬ (j + 1 = i ∧ u.category = 2)) := by
  unfold mm_st1 at e
  by_cases hj : j = i
  · subst hj
    have key : ∀ X : mm_L, (X.set j (some v))[j]? = some (some u) → u = v := by
      intro X e
      rw [List.getElem?_set] at e
      simp only [if_true] at e
      split at e
      · cases e; rfl
      · cases e
    exact Or.inl ⟨rfl, key _ e⟩
  · rw [List.getElem?_set_ne (Ne.symm hj)] at e
    refine Or.inr ⟨hj, ?_⟩
    cases i with
    | zero => exact ⟨e, fun h => by omega⟩
    | succ i =>
      simp only at e
      cases hL : L[i]? with
      | none => rw [hL] at e; exact ⟨e, fun h => by have := h.1; have hh : j = i := by omega
                                                    rw [hh, hL] at e; cases e⟩
      | some z =>
        cases z with
        | none => rw [hL] at e; exact ⟨e, fun h => by have hh : j = i := by omega
                                                      rw [hh, hL] at e; cases e⟩
        | some w =>
          rw [hL] at e
          simp only at e
          cases hb : Nat.beq w.category 2 with
          | true =>
            rw [hb] at e
            simp only [cond_true] at e
            by_cases hh : j = i
            · subst hh
              rw [List.getElem?_set] at e
              simp only [if_true] at e
              split at e <;> cases e
            · rw [List.getElem?_set_ne (Ne.symm hh)] at e
              exact ⟨e, fun h => hh (by omega)⟩
          | false =>
            rw [hb] at e
            simp only [cond_false] at e
            refine ⟨e, fun h => ?_⟩
            have hh : j = i := by omega
            rw [hh, hL] at e
            cases e
            rw [h.2] at hb
            cases hb
theorem mm_lp_st1 {ad : Nat → Nat} {L : mm_L} {ls : Array Slot} {n i : Nat} {v : Value} (h : lv_has ls n ((i, mm_v ad v) :: (mm_lp ad L).filter (fun q => !(q.1 == i) && !(q.1 + 1 == i && q.2.category == 2)))) : lv_has ls n (mm_lp ad (mm_st1 L i v)) := by
  refine mm_lp_sub h ?_
  rintro ⟨j, x⟩ hq
  obtain ⟨u, h1, h2⟩ := mm_lp_mem.mp hq
  simp only at h1 h2
  subst h2
  rcases mm_st1_get h1 with ⟨rfl, rfl⟩ | ⟨h3, h4, h5⟩
  · exact List.mem_cons_self
  · refine List.mem_cons_of_mem _ (List.mem_filter.mpr ⟨mm_lp_mem.mpr ⟨u, h4, rfl⟩, ?_⟩)
    simp only [mm_v_cat]
    by_cases h6 : j + 1 = i
    · have h7 : ¬ u.category = 2 := fun z => h5 ⟨h6, z⟩
      simp [h3, h7]
    · simp [h3, h6]
theorem mm_lp_st2 {ad : Nat → Nat} {L : mm_L} {ls : Array Slot} {n i : Nat} {v : Value} (h : lv_has ls n ((i, mm_v ad v) :: (mm_lp ad L).filter (fun q => !(q.1 == i) && (!(q.1 == i + 1) && !(q.1 + 1 == i && q.2.category == 2))))) : lv_has ls n (mm_lp ad (mm_st2 L i v)) := by
  refine mm_lp_sub h ?_
  rintro ⟨j, x⟩ hq
  obtain ⟨u, h1, h2⟩ := mm_lp_mem.mp hq
  simp only at h1 h2
  subst h2
  unfold mm_st2 at h1
  have h8 : j ≠ i + 1 := by
    intro z
    subst z
    rw [List.getElem?_set] at h1
    simp only [if_true] at h1
    split at h1 <;> cases h1
  rw [List.getElem?_set_ne (Ne.symm h8)] at h1
  rcases mm_st1_get h1 with ⟨rfl, rfl⟩ | ⟨h3, h4, h5⟩
  · exact List.mem_cons_self
  · refine List.mem_cons_of_mem _ (List.mem_filter.mpr ⟨mm_lp_mem.mpr ⟨u, h4, rfl⟩, ?_⟩)
    simp only [mm_v_cat]
    by_cases h6 : j + 1 = i
    · have h7 : ¬ u.category = 2 := fun z => h5 ⟨h6, z⟩
      simp [h3, h7, h8]
    · simp [h3, h6, h8]
theorem me_1i {S : List Value} {f : Int32 → List Value → Option mm_F} {F : mm_F} (h : mx_1i S f = some F) : ∃ (x : Int32) (T : List Value), S = .int x :: T ∧ f x T = some F := by
  unfold mx_1i at h
  split at h
  · exact ⟨_, _, rfl, h⟩
  · cases h
theorem me_2i {S : List Value} {f : Int32 → Int32 → List Value → Option mm_F} {F : mm_F} (h : mx_2i S f = some F) : ∃ (x y : Int32) (T : List Value), S = .int y :: .int x :: T ∧ f x y T = some F := by
  unfold mx_2i at h
  split at h
  · exact ⟨_, _, _, rfl, h⟩
  · cases h
theorem me_1l {S : List Value} {f : Int64 → List Value → Option mm_F} {F : mm_F} (h : mx_1l S f = some F) : ∃ (x : Int64) (T : List Value), S = .long x :: T ∧ f x T = some F := by
  unfold mx_1l at h
  split at h
  · exact ⟨_, _, rfl, h⟩
  · cases h
theorem me_2l {S : List Value} {f : Int64 → Int64 → List Value → Option mm_F} {F : mm_F} (h : mx_2l S f = some F) : ∃ (x y : Int64) (T : List Value), S = .long y :: .long x :: T ∧ f x y T = some F := by
  unfold mx_2l at h
  split at h
  · exact ⟨_, _, _, rfl, h⟩
  · cases h
theorem me_il {S : List Value} {f : Int64 → Int32 → List Value → Option mm_F} {F : mm_F} (h : mx_il S f = some F) : ∃ (x : Int64) (y : Int32) (T : List Value), S = .int y :: .long x :: T ∧ f x y T = some F := by
  unfold mx_il at h
  split at h
  · exact ⟨_, _, _, rfl, h⟩
  · cases h
theorem me_1r {S : List Value} {f : Nat → List Value → Option mm_F} {F : mm_F} (h : mx_1r S f = some F) : ∃ (q : Nat) (T : List Value), S = .ref q :: T ∧ f q T = some F := by
  unfold mx_1r at h
  split at h
  · exact ⟨_, _, rfl, h⟩
  · cases h
theorem me_ri {S : List Value} {f : Nat → Int32 → List Value → Option mm_F} {F : mm_F} (h : mx_ri S f = some F) : ∃ (q : Nat) (i : Int32) (T : List Value), S = .int i :: .ref q :: T ∧ f q i T = some F := by
  unfold mx_ri at h
  split at h
  · exact ⟨_, _, _, rfl, h⟩
  · cases h
theorem me_rii {S : List Value} {f : Nat → Int32 → Int32 → List Value → Option mm_F} {F : mm_F} (h : mx_rii S f = some F) : ∃ (q : Nat) (i x : Int32) (T : List Value), S = .int x :: .int i :: .ref q :: T ∧ f q i x T = some F := by
  unfold mx_rii at h
  split at h
  · exact ⟨_, _, _, _, rfl, h⟩
  · cases h
theorem me_ril {S : List Value} {f : Nat → Int32 → Int64 → List Value → Option mm_F} {F : mm_F} (h : mx_ril S f = some F) : ∃ (q : Nat) (i : Int32) (x : Int64) (T : List Value), S = .long x :: .int i :: .ref q :: T ∧ f q i x T = some F := by
  unfold mx_ril at h
  split at h
  · exact ⟨_, _, _, _, rfl, h⟩
  · cases h
theorem me_ldi {L : mm_L} {i : Nat} {f : Int32 → Option mm_F} {F : mm_F} (h : mx_ldi L i f = some F) : ∃ x : Int32, L[i]? = some (some (.int x)) ∧ f x = some F := by
  unfold mx_ldi at h
  split at h
  · rename_i x e; exact ⟨x, e, h⟩
  · cases h
theorem me_ldl {L : mm_L} {i : Nat} {f : Int64 → Option mm_F} {F : mm_F} (h : mx_ldl L i f = some F) : ∃ x : Int64, L[i]? = some (some (.long x)) ∧ f x = some F := by
  unfold mx_ldl at h
  split at h
  · rename_i x e; exact ⟨x, e, h⟩
  · cases h
theorem me_lda {L : mm_L} {i : Nat} {f : Nat → Option mm_F} {F : mm_F} (h : mx_lda L i f = some F) : ∃ x : Nat, L[i]? = some (some (.ref x)) ∧ f x = some F := by
  unfold mx_lda at h
  split at h
  · rename_i x e; exact ⟨x, e, h⟩
  · cases h
theorem me_to {pc : Nat} {d : Int} {f : Nat → Option mm_F} {F : mm_F} (h : mx_to pc d f = some F) : ∃ t : Nat, (pc : Int) + d = (t : Int) ∧ f t = some F := by
  unfold mx_to at h
  split at h
  · rename_i t e; exact ⟨t, e, h⟩
  · cases h
theorem me_ai {h : mm_H} {q : Nat} {f : Nat → (Nat → Int32) → Option mm_F} {F : mm_F} (e : mx_ai h q f = some F) : ∃ (n : Nat) (u : Nat → Int32), h[q]? = some (.inl (0, n, .inl u)) ∧ f n u = some F := by
  unfold mx_ai at e
  split at e
  · rename_i n u z; exact ⟨n, u, z, e⟩
  · cases e
theorem me_al {h : mm_H} {q : Nat} {f : Nat → (Nat → Int64) → Option mm_F} {F : mm_F} (e : mx_al h q f = some F) : ∃ (n : Nat) (u : Nat → Int64), h[q]? = some (.inl (1, n, .inr (.inl u))) ∧ f n u = some F := by
  unfold mx_al at e
  split at e
  · rename_i n u z; exact ⟨n, u, z, e⟩
  · cases e
theorem me_ab {h : mm_H} {q : Nat} {f : Nat → (Nat → Int32) → Option mm_F} {F : mm_F} (e : mx_ab h q f = some F) : ∃ (n : Nat) (u : Nat → Int32), h[q]? = some (.inl (2, n, .inl u)) ∧ f n u = some F := by
  unfold mx_ab at e
  split at e
  · rename_i n u z; exact ⟨n, u, z, e⟩
  · cases e
theorem me_ar {h : mm_H} {q : Nat} {f : Nat → (Nat → Option Nat) → Option mm_F} {F : mm_F} (e : mx_ar h q f = some F) : ∃ (n : Nat) (u : Nat → Option Nat), h[q]? = some (.inl (3, n, .inr (.inr (.inr (.inr u))))) ∧ f n u = some F := by
  unfold mx_ar at e
  split at e
  · rename_i n u z; exact ⟨n, u, z, e⟩
  · cases e
theorem me_an {h : mm_H} {q : Nat} {f : Nat → Option mm_F} {F : mm_F} (e : mx_an h q f = some F) : ∃ (t : Nat) (a : vp_A), h[q]? = some (.inl (t, a)) ∧ f a.1 = some F := by
  unfold mx_an at e
  split at e
  · rename_i t n u z; exact ⟨t, (n, u), z, e⟩
  · cases e
theorem me_ob {h : mm_H} {q ci : Nat} {f : List Value → Option mm_F} {F : mm_F} (e : mx_ob h q ci f = some F) : ∃ fs : List Value, h[q]? = some (.inr (ci, fs)) ∧ f fs = some F := by
  unfold mx_ob at e
  split at e
  · rename_i c fs z
    cases hb : Nat.beq c ci with
    | true => rw [hb] at e; rw [Nat.eq_of_beq_eq_true hb] at z; exact ⟨fs, z, e⟩
    | false => rw [hb] at e; cases e
  · cases e
theorem me_if {c : Prop} {_ : Decidable c} {a : Option mm_F} {F : mm_F} (h : (if c then none else a) = some F) : ¬ c ∧ a = some F := by
  split at h
  · cases h
  · rename_i n; exact ⟨n, h⟩
theorem me_it {c : Prop} {_ : Decidable c} {a : Option mm_F} {F : mm_F} (h : (if c then a else none) = some F) : c ∧ a = some F := by
  split at h
  · rename_i n; exact ⟨n, h⟩
  · cases h
theorem me_bif {c : Bool} {a : Option mm_F} {F : mm_F} (h : (bif c then a else none) = some F) : c = true ∧ a = some F := by
  cases c
  · cases h
  · exact ⟨rfl, h⟩
theorem me_blt {a b : Nat} (h : Nat.blt a b = true) : a < b := Nat.le_of_ble_eq_true h
