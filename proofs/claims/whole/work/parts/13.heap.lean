/-! the cells, as they lie behind the constructors (written by wip/whole/vc.py) -/
abbrev mm_S : Type := (Nat → Int32) × (Nat → Int64) × (Nat → Nat → Int32) × (Nat → Nat → Int64)
def mm_up {α : Type} (f : Nat → α) (k : Nat) (x : α) : Nat → α := fun j => bif Nat.beq j k then x else f j
def ui (σ : mm_S) (k : Nat) (x : Int32) : mm_S := (mm_up σ.1 k x, σ.2)
def ul (σ : mm_S) (k : Nat) (x : Int64) : mm_S := (σ.1, mm_up σ.2.1 k x, σ.2.2)
def ua (σ : mm_S) (q : Nat) (f : Nat → Int32) : mm_S := (σ.1, σ.2.1, mm_up σ.2.2.1 q f, σ.2.2.2)
def ub (σ : mm_S) (q : Nat) (f : Nat → Int64) : mm_S := (σ.1, σ.2.1, σ.2.2.1, mm_up σ.2.2.2 q f)
/-- the array of the four sheets -/
def mm_she : Nat → Option Nat := va_up (va_up (va_up (va_up (fun _ => none) 0 (some 4)) 1 (some 5)) 2 (some 6)) 3 (some 7)
def HH (x : Nat × (Nat → Int32)) (σ : mm_S) : mm_H := [.inl (0, 3, .inl mm_reach), .inl (0, x.1, .inl x.2), .inr (6, [.ref 3, .ref 12, .ref 13, .ref 16, .ref 20, .ref 24, .ref 28, .ref 29, .ref 36, .int (σ.1 209), .int (σ.1 210)]), .inl (3, 4, .inr (.inr (.inr (.inr mm_she)))), .inr (4, [.ref 8, .int (σ.1 401), .int (σ.1 402), .int (σ.1 403)]), .inr (4, [.ref 9, .int (σ.1 501), .int (σ.1 502), .int (σ.1 503)]), .inr (4, [.ref 10, .int (σ.1 601), .int (σ.1 602), .int (σ.1 603)]), .inr (4, [.ref 11, .int (σ.1 701), .int (σ.1 702), .int (σ.1 703)]), .inl (0, 60, .inl (σ.2.2.1 8)), .inl (0, 60, .inl (σ.2.2.1 9)), .inl (0, 60, .inl (σ.2.2.1 10)), .inl (0, 60, .inl (σ.2.2.1 11)), .inr (3, [.int (σ.1 1200), .int (σ.1 1201), .long (σ.2.1 1202)]), .inr (2, [.ref 14, .ref 15, .long (σ.2.1 1302), .long (σ.2.1 1303), .long (σ.2.1 1304), .int (σ.1 1305), .int (σ.1 1306), .long (σ.2.1 1307)]), .inl (1, 1764, .inr (.inl (σ.2.2.2 14))), .inl (0, 42, .inl (σ.2.2.1 15)), .inr (0, [.ref 17, .ref 18, .ref 19, .int (σ.1 1603)]), .inl (0, 8, .inl (σ.2.2.1 17)), .inl (0, 8, .inl (σ.2.2.1 18)), .inl (0, 8, .inl (σ.2.2.1 19)), .inr (0, [.ref 21, .ref 22, .ref 23, .int (σ.1 2003)]), .inl (0, 6, .inl (σ.2.2.1 21)), .inl (0, 6, .inl (σ.2.2.1 22)), .inl (0, 6, .inl (σ.2.2.1 23)), .inr (0, [.ref 25, .ref 26, .ref 27, .int (σ.1 2403)]), .inl (0, 6, .inl (σ.2.2.1 25)), .inl (0, 6, .inl (σ.2.2.1 26)), .inl (0, 6, .inl (σ.2.2.1 27)), .inr (1, [.int (σ.1 2800), .int (σ.1 2801)]), .inr (5, [.ref 30, .ref 31, .ref 32, .ref 33, .int (σ.1 2904), .ref 34, .ref 35, .int (σ.1 2907)]), .inl (1, 36, .inr (.inl (σ.2.2.2 30))), .inl (1, 36, .inr (.inl (σ.2.2.2 31))), .inl (1, 42, .inr (.inl (σ.2.2.2 32))), .inl (0, 6, .inl (σ.2.2.1 33)), .inl (0, 6, .inl (σ.2.2.1 34)), .inl (0, 6, .inl (σ.2.2.1 35)), .inl (0, 6, .inl (σ.2.2.1 36)), .inr (7, [.int (σ.1 3700), .int (σ.1 3701), .ref 38, .ref 39, .ref 40, .int (σ.1 3705), .int (σ.1 3706), .ref 41, .ref 42, .int (σ.1 3709), .int (σ.1 3710), .int (σ.1 3711), .ref 43, .int (σ.1 3713), .ref 44, .ref 45, .ref 46, .int (σ.1 3717), .int (σ.1 3718), .int (σ.1 3719), .int (σ.1 3720), .ref 47, .ref 48, .ref 49, .ref 50, .int (σ.1 3725), .ref 51, .ref 52]), .inl (0, 4, .inl (σ.2.2.1 38)), .inl (0, 4, .inl (σ.2.2.1 39)), .inl (0, 240, .inl (σ.2.2.1 40)), .inl (2, 42, .inl (σ.2.2.1 41)), .inl (0, 1764, .inl (σ.2.2.1 42)), .inl (2, 42, .inl (σ.2.2.1 43)), .inl (0, 8, .inl (σ.2.2.1 44)), .inl (0, 8, .inl (σ.2.2.1 45)), .inl (0, 8, .inl (σ.2.2.1 46)), .inl (0, 6, .inl (σ.2.2.1 47)), .inl (0, 6, .inl (σ.2.2.1 48)), .inl (2, 3636, .inl (σ.2.2.1 49)), .inl (0, 6, .inl (σ.2.2.1 50)), .inl (0, 6, .inl (σ.2.2.1 51)), .inl (0, 6, .inl (σ.2.2.1 52))]
def mm_b (p : Prop) [Decidable p] : Int32 := if p then 1 else 0
theorem mm_b01 (p : Prop) {d : Decidable p} : @mm_b p d = 0 ∨ @mm_b p d = 1 := by
  unfold mm_b
  split
  · exact Or.inr rfl
  · exact Or.inl rfl
theorem mm_b_pos {p : Prop} {d : Decidable p} (h : p) : @mm_b p d = 1 := if_pos h
theorem mm_b_neg {p : Prop} {d : Decidable p} (h : ¬ p) : @mm_b p d = 0 := if_neg h
theorem mm_b_ne {p : Prop} {d : Decidable p} : ¬ @mm_b p d = 0 ↔ p := by
  by_cases h : p
  · rw [mm_b_pos h]; exact ⟨fun _ => h, fun _ => by decide⟩
  · rw [mm_b_neg h]; exact ⟨fun q => absurd rfl q, fun q => absurd q h⟩
section MB2
variable {d y : Nat} {t f : Nat} {L : mm_L} {S : List Value} {h : mm_H} {r : Option Value × mm_H}
theorem mb_bne {p : Prop} {dp : Decidable p} (kt : p → mm_Runs d y (t, L, S, h) r) (kf : ¬ p → mm_Runs d y (f, L, S, h) r) : mm_Runs d y (bif mm_cond .ne (@mm_b p dp) 0 then t else f, L, S, h) r := mb_ne (fun q => kt (mm_b_ne.mp q)) (fun q => kf (fun z => mm_b_ne.mpr z q))
theorem mb_beq {p : Prop} {dp : Decidable p} (kt : ¬ p → mm_Runs d y (t, L, S, h) r) (kf : p → mm_Runs d y (f, L, S, h) r) : mm_Runs d y (bif mm_cond .eq (@mm_b p dp) 0 then t else f, L, S, h) r := mb_eq (fun q => kt (fun z => mm_b_ne.mpr z q)) (fun q => kf (mm_b_ne.mp q))
theorem lg_cmp_0 {x z : Int64} : lg_cmp x z = 0 ↔ x = z := by
  unfold lg_cmp
  by_cases h1 : x > z
  · rw [if_pos h1]
    exact ⟨fun q => absurd q (by decide), fun q => by subst q; exact absurd h1 (by simp)⟩
  · rw [if_neg h1]
    by_cases h2 : x = z
    · rw [if_pos h2]; exact ⟨fun _ => h2, fun _ => rfl⟩
    · rw [if_neg h2]; exact ⟨fun q => absurd q (by decide), fun q => absurd q h2⟩
theorem mb_lne {x z : Int64} (kt : ¬ x = z → mm_Runs d y (t, L, S, h) r) (kf : x = z → mm_Runs d y (f, L, S, h) r) : mm_Runs d y (bif mm_cond .ne (lg_cmp x z) 0 then t else f, L, S, h) r := mb_ne (fun q => kt (fun e => q (lg_cmp_0.mpr e))) (fun q => kf (lg_cmp_0.mp q))
theorem mb_leq {x z : Int64} (kt : x = z → mm_Runs d y (t, L, S, h) r) (kf : ¬ x = z → mm_Runs d y (f, L, S, h) r) : mm_Runs d y (bif mm_cond .eq (lg_cmp x z) 0 then t else f, L, S, h) r := mb_eq (fun q => kt (lg_cmp_0.mp q)) (fun q => kf (fun e => q (lg_cmp_0.mpr e)))
/-- a switch: one of its cases; none of them -/
theorem mm_tsI {pc : Nat} {x c : Int32} {F' : mm_F} (e : x = c) (hs : mm_s1 y (pc, L, .int c :: S, h) = some F') (k : mm_Runs d y F' r) : mm_Runs d y (pc, L, .int x :: S, h) r := by
  subst e
  exact mm_go1 hs k
theorem mm_ti {F F' : mm_F} {c : Prop} {dc : Decidable c} {E : Option mm_F} (hs : mm_s1 y F = if c then some F' else E) (hc : c) (k : mm_Runs d y F' r) : mm_Runs d y F r := mm_go1 (by rw [hs, if_pos hc]) k
end MB2
