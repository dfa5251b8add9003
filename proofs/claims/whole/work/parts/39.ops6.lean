/-! sheet (written by wip/whole/ops6.py) -/
/-- i numbers from s on become 0 -/
def fz (s i : Nat) (f : Nat → Int32) : Nat → Int32 := fun y => if s ≤ y ∧ y < s + i then 0 else f y
theorem fz_0 (s : Nat) (f : Nat → Int32) : fz s 0 f = f := by
  funext y
  unfold fz
  rw [if_neg (by omega)]
theorem fz_s (s i : Nat) (f : Nat → Int32) : upd (fz s i f) (s + i) 0 = fz s (i + 1) f := by
  funext y
  show (if y = s + i then 0 else (if s ≤ y ∧ y < s + i then 0 else f y)) = if s ≤ y ∧ y < s + (i + 1) then 0 else f y
  by_cases h : y = s + i
  · rw [if_pos h, if_pos (by omega)]
  · rw [if_neg h]
    by_cases h2 : s ≤ y ∧ y < s + i
    · rw [if_pos h2, if_pos (by omega)]
    · rw [if_neg h2, if_neg (by omega)]
theorem le60 {n : Int32} (h1 : n ≤ 60) (h2 : 0 ≤ n) : ∃ m : Nat, m ≤ 60 ∧ n = nI m := nI_of2 (M := 60) (n := 60) rfl (by
  rw [Int32.lt_iff_toInt_lt]
  rw [Int32.le_iff_toInt_le] at h2
  omega) h1
theorem msl_0 {d : Nat} {x : Nat × (Nat → Int32)} (σ : mm_S) : ∀ (k i : Nat), i + k = 60 → mm_Runs d 142 (57, [some (.ref 37), some (.int 0), none, none, some (.int (nI i))], [], HH x (ua σ 40 (fz 0 i (σ.2.2.1 40)))) (some (.int 1), HH x (ua σ 40 (fz 0 60 (σ.2.2.1 40))))
  | 0, i, h => by
    have e : i = 60 := by omega
    subst e
    exact vc_m_sheeth (fun _ => rfl) (fun z => absurd (by decide) z) (fun z => absurd (by decide) z)
  | k + 1, i, h => by
    have hlt : ¬ (60 : Int32) ≤ nI i := nI_ge (a := i) (b := 60) (by omega) (by omega)
    have ei : (60 : Int32) * 0 + nI i = nI (0 + i) := nI_add 0 i
    refine vc_m_sheeth (fun z => absurd z hlt) (fun _ => by rw [ei]; exact nI_in (by omega) (by omega)) (fun _ => ?_)
    have ih := msl_0 (d := d) (x := x) σ k (i + 1) (by omega)
    rw [ei, nI_clamp (show 0 + i < 2 ^ 31 by omega), ua_ua, show (ua σ 40 (fz 0 i (σ.2.2.1 40))).2.2.1 40 = fz 0 i (σ.2.2.1 40) from rfl, fz_s, show nI i + (1 : Int32) = nI (i + 1) from nI_1 i]
    exact ih
theorem sheet_0 {x : Nat × (Nat → Int32)} {σ : mm_S} {t n : Int32} (hr : Rel σ) (qt : p_isSort (ui σ 210 0) t) (q1 : n ≤ 60) (q2 : 0 ≤ n) : ∃ (r : Int32) (σ1 σ2 : mm_S), mm_Runs 999 i_X6_sheet (0, [some (.ref 2), some (.int 0), some (.int t), some (.int n)], [], HH x σ) (some (.int r), HH x σ1) ∧ mm_Runs 999 i_X7_sheet (0, [some (.ref 37), some (.int 0), some (.int t), some (.int n), none], [], HH x σ1) (some (.int r), HH x σ2) ∧ Rel σ2 := by
  obtain ⟨h1, h2, P, ns, nw, nr, hp, hc, hri, hwy, hs, hw, hre, hti⟩ := id hr
  have q : p_isSheet (ui σ 210 0) 0 := by unfold p_isSheet; decide
  have c := r_sheet (d := 999) (x := x) (σ := σ) (k := 0) (t := t) (n := n) (by omega) (fun _ _ _ _ => by decide)
  rw [show f_sheet σ 0 t n = 1 by unfold f_sheet; rw [if_pos q, if_pos qt, if_pos q1, if_pos q2], show g_sheet σ 0 t n = g_renew_4 (ui σ 210 0) t n by unfold g_sheet; rw [if_pos q, if_pos qt, if_pos q1, if_pos q2, if_pos rfl]] at c
  have mf : ∀ τ : mm_S, mm_Runs 999 i_X7_sheet (0, [some (.ref 37), some (.int 0), some (.int t), some (.int n), none], [], HH x τ) (some (.int 1), HH x (ua (ua (ua (ui τ 3700 0) 38 (upd (τ.2.2.1 38) 0 t)) 39 (upd (τ.2.2.1 39) 0 n)) 40 (fz 0 60 (τ.2.2.1 40)))) := by
    intro τ
    have qs := (sheet_iff (ui τ 3700 0) (ui σ 210 0) 0).mpr q
    have qu := (sort_iff (ui τ 3700 0) (ui σ 210 0) t).mpr qt
    refine vc_m_sheet (by omega) (fun _ z => absurd qu z) (fun _ _ _ _ => by decide) (fun _ _ _ _ => by decide) (fun _ _ _ _ => ?_) (fun _ _ _ z => absurd q2 z) (fun _ _ z => absurd q1 z) (fun z => absurd qs z)
    have h := msl_0 (d := 999) (x := x) (ua (ua (ui τ 3700 0) 38 (upd (τ.2.2.1 38) 0 t)) 39 (upd (τ.2.2.1 39) 0 n)) 60 0 (by omega)
    rw [fz_0, ua_self] at h
    exact h
  exact ⟨_, _, _, c, mf _, ⟨⟨rfl, h1.2⟩, ⟨⟨Or.inr ⟨rfl, by show upd (σ.2.2.1 38) 0 t 0 = t; rw [upd_at, if_pos rfl], kind_kd (σ := σ) qt⟩, by show n = upd (σ.2.2.1 39) 0 n 0; rw [upd_at, if_pos rfl], le60 q1 q2, fun y hy => by show fl 60 0 (σ.2.2.1 8) y = fz 0 60 (σ.2.2.1 40) (60 * 0 + y); unfold fl fz; rw [if_pos hy, if_pos (by omega)]⟩, ⟨by show (_ ∧ upd (σ.2.2.1 38) 0 t 1 = -9) ∨ (_ ∧ upd (σ.2.2.1 38) 0 t 1 = _ ∧ _); rw [upd_at, if_neg (by decide)]; exact h2.2.1.1, by show _ = upd (σ.2.2.1 39) 0 n 1; rw [upd_at, if_neg (by decide)]; exact h2.2.1.2.1, h2.2.1.2.2.1, fun y hy => by show σ.2.2.1 9 y = fz 0 60 (σ.2.2.1 40) (60 * 1 + y); unfold fz; rw [if_neg (by omega)]; exact h2.2.1.2.2.2 y hy⟩, ⟨by show (_ ∧ upd (σ.2.2.1 38) 0 t 2 = -9) ∨ (_ ∧ upd (σ.2.2.1 38) 0 t 2 = _ ∧ _); rw [upd_at, if_neg (by decide)]; exact h2.2.2.1.1, by show _ = upd (σ.2.2.1 39) 0 n 2; rw [upd_at, if_neg (by decide)]; exact h2.2.2.1.2.1, h2.2.2.1.2.2.1, fun y hy => by show σ.2.2.1 10 y = fz 0 60 (σ.2.2.1 40) (60 * 2 + y); unfold fz; rw [if_neg (by omega)]; exact h2.2.2.1.2.2.2 y hy⟩, ⟨by show (_ ∧ upd (σ.2.2.1 38) 0 t 3 = -9) ∨ (_ ∧ upd (σ.2.2.1 38) 0 t 3 = _ ∧ _); rw [upd_at, if_neg (by decide)]; exact h2.2.2.2.1, by show _ = upd (σ.2.2.1 39) 0 n 3; rw [upd_at, if_neg (by decide)]; exact h2.2.2.2.2.1, h2.2.2.2.2.2.1, fun y hy => by show σ.2.2.1 11 y = fz 0 60 (σ.2.2.1 40) (60 * 3 + y); unfold fz; rw [if_neg (by omega)]; exact h2.2.2.2.2.2.2 y hy⟩⟩, P, ns, nw, nr, hp, hc, hri, hwy, hs, hw, hre, hti⟩⟩
theorem msl_1 {d : Nat} {x : Nat × (Nat → Int32)} (σ : mm_S) : ∀ (k i : Nat), i + k = 60 → mm_Runs d 142 (57, [some (.ref 37), some (.int 1), none, none, some (.int (nI i))], [], HH x (ua σ 40 (fz 60 i (σ.2.2.1 40)))) (some (.int 1), HH x (ua σ 40 (fz 60 60 (σ.2.2.1 40))))
  | 0, i, h => by
    have e : i = 60 := by omega
    subst e
    exact vc_m_sheeth (fun _ => rfl) (fun z => absurd (by decide) z) (fun z => absurd (by decide) z)
  | k + 1, i, h => by
    have hlt : ¬ (60 : Int32) ≤ nI i := nI_ge (a := i) (b := 60) (by omega) (by omega)
    have ei : (60 : Int32) * 1 + nI i = nI (60 + i) := nI_add 60 i
    refine vc_m_sheeth (fun z => absurd z hlt) (fun _ => by rw [ei]; exact nI_in (by omega) (by omega)) (fun _ => ?_)
    have ih := msl_1 (d := d) (x := x) σ k (i + 1) (by omega)
    rw [ei, nI_clamp (show 60 + i < 2 ^ 31 by omega), ua_ua, show (ua σ 40 (fz 60 i (σ.2.2.1 40))).2.2.1 40 = fz 60 i (σ.2.2.1 40) from rfl, fz_s, show nI i + (1 : Int32) = nI (i + 1) from nI_1 i]
    exact ih
theorem sheet_1 {x : Nat × (Nat → Int32)} {σ : mm_S} {t n : Int32} (hr : Rel σ) (qt : p_isSort (ui σ 210 0) t) (q1 : n ≤ 60) (q2 : 0 ≤ n) : ∃ (r : Int32) (σ1 σ2 : mm_S), mm_Runs 999 i_X6_sheet (0, [some (.ref 2), some (.int 1), some (.int t), some (.int n)], [], HH x σ) (some (.int r), HH x σ1) ∧ mm_Runs 999 i_X7_sheet (0, [some (.ref 37), some (.int 1), some (.int t), some (.int n), none], [], HH x σ1) (some (.int r), HH x σ2) ∧ Rel σ2 := by
  obtain ⟨h1, h2, P, ns, nw, nr, hp, hc, hri, hwy, hs, hw, hre, hti⟩ := id hr
  have q : p_isSheet (ui σ 210 0) 1 := by unfold p_isSheet; decide
  have c := r_sheet (d := 999) (x := x) (σ := σ) (k := 1) (t := t) (n := n) (by omega) (fun _ _ _ _ => by decide)
  rw [show f_sheet σ 1 t n = 1 by unfold f_sheet; rw [if_pos q, if_pos qt, if_pos q1, if_pos q2], show g_sheet σ 1 t n = g_renew_5 (ui σ 210 0) t n by unfold g_sheet; rw [if_pos q, if_pos qt, if_pos q1, if_pos q2, if_neg (by decide), if_pos rfl]] at c
  have mf : ∀ τ : mm_S, mm_Runs 999 i_X7_sheet (0, [some (.ref 37), some (.int 1), some (.int t), some (.int n), none], [], HH x τ) (some (.int 1), HH x (ua (ua (ua (ui τ 3700 0) 38 (upd (τ.2.2.1 38) 1 t)) 39 (upd (τ.2.2.1 39) 1 n)) 40 (fz 60 60 (τ.2.2.1 40)))) := by
    intro τ
    have qs := (sheet_iff (ui τ 3700 0) (ui σ 210 0) 1).mpr q
    have qu := (sort_iff (ui τ 3700 0) (ui σ 210 0) t).mpr qt
    refine vc_m_sheet (by omega) (fun _ z => absurd qu z) (fun _ _ _ _ => by decide) (fun _ _ _ _ => by decide) (fun _ _ _ _ => ?_) (fun _ _ _ z => absurd q2 z) (fun _ _ z => absurd q1 z) (fun z => absurd qs z)
    have h := msl_1 (d := 999) (x := x) (ua (ua (ui τ 3700 0) 38 (upd (τ.2.2.1 38) 1 t)) 39 (upd (τ.2.2.1 39) 1 n)) 60 0 (by omega)
    rw [fz_0, ua_self] at h
    exact h
  exact ⟨_, _, _, c, mf _, ⟨⟨rfl, h1.2⟩, ⟨⟨by show (_ ∧ upd (σ.2.2.1 38) 1 t 0 = -9) ∨ (_ ∧ upd (σ.2.2.1 38) 1 t 0 = _ ∧ _); rw [upd_at, if_neg (by decide)]; exact h2.1.1, by show _ = upd (σ.2.2.1 39) 1 n 0; rw [upd_at, if_neg (by decide)]; exact h2.1.2.1, h2.1.2.2.1, fun y hy => by show σ.2.2.1 8 y = fz 60 60 (σ.2.2.1 40) (60 * 0 + y); unfold fz; rw [if_neg (by omega)]; exact h2.1.2.2.2 y hy⟩, ⟨Or.inr ⟨rfl, by show upd (σ.2.2.1 38) 1 t 1 = t; rw [upd_at, if_pos rfl], kind_kd (σ := σ) qt⟩, by show n = upd (σ.2.2.1 39) 1 n 1; rw [upd_at, if_pos rfl], le60 q1 q2, fun y hy => by show fl 60 0 (σ.2.2.1 9) y = fz 60 60 (σ.2.2.1 40) (60 * 1 + y); unfold fl fz; rw [if_pos hy, if_pos (by omega)]⟩, ⟨by show (_ ∧ upd (σ.2.2.1 38) 1 t 2 = -9) ∨ (_ ∧ upd (σ.2.2.1 38) 1 t 2 = _ ∧ _); rw [upd_at, if_neg (by decide)]; exact h2.2.2.1.1, by show _ = upd (σ.2.2.1 39) 1 n 2; rw [upd_at, if_neg (by decide)]; exact h2.2.2.1.2.1, h2.2.2.1.2.2.1, fun y hy => by show σ.2.2.1 10 y = fz 60 60 (σ.2.2.1 40) (60 * 2 + y); unfold fz; rw [if_neg (by omega)]; exact h2.2.2.1.2.2.2 y hy⟩, ⟨by show (_ ∧ upd (σ.2.2.1 38) 1 t 3 = -9) ∨ (_ ∧ upd (σ.2.2.1 38) 1 t 3 = _ ∧ _); rw [upd_at, if_neg (by decide)]; exact h2.2.2.2.1, by show _ = upd (σ.2.2.1 39) 1 n 3; rw [upd_at, if_neg (by decide)]; exact h2.2.2.2.2.1, h2.2.2.2.2.2.1, fun y hy => by show σ.2.2.1 11 y = fz 60 60 (σ.2.2.1 40) (60 * 3 + y); unfold fz; rw [if_neg (by omega)]; exact h2.2.2.2.2.2.2 y hy⟩⟩, P, ns, nw, nr, hp, hc, hri, hwy, hs, hw, hre, hti⟩⟩
theorem msl_2 {d : Nat} {x : Nat × (Nat → Int32)} (σ : mm_S) : ∀ (k i : Nat), i + k = 60 → mm_Runs d 142 (57, [some (.ref 37), some (.int 2), none, none, some (.int (nI i))], [], HH x (ua σ 40 (fz 120 i (σ.2.2.1 40)))) (some (.int 1), HH x (ua σ 40 (fz 120 60 (σ.2.2.1 40))))
  | 0, i, h => by
    have e : i = 60 := by omega
    subst e
    exact vc_m_sheeth (fun _ => rfl) (fun z => absurd (by decide) z) (fun z => absurd (by decide) z)
  | k + 1, i, h => by
    have hlt : ¬ (60 : Int32) ≤ nI i := nI_ge (a := i) (b := 60) (by omega) (by omega)
    have ei : (60 : Int32) * 2 + nI i = nI (120 + i) := nI_add 120 i
    refine vc_m_sheeth (fun z => absurd z hlt) (fun _ => by rw [ei]; exact nI_in (by omega) (by omega)) (fun _ => ?_)
    have ih := msl_2 (d := d) (x := x) σ k (i + 1) (by omega)
    rw [ei, nI_clamp (show 120 + i < 2 ^ 31 by omega), ua_ua, show (ua σ 40 (fz 120 i (σ.2.2.1 40))).2.2.1 40 = fz 120 i (σ.2.2.1 40) from rfl, fz_s, show nI i + (1 : Int32) = nI (i + 1) from nI_1 i]
    exact ih
theorem sheet_2 {x : Nat × (Nat → Int32)} {σ : mm_S} {t n : Int32} (hr : Rel σ) (qt : p_isSort (ui σ 210 0) t) (q1 : n ≤ 60) (q2 : 0 ≤ n) : ∃ (r : Int32) (σ1 σ2 : mm_S), mm_Runs 999 i_X6_sheet (0, [some (.ref 2), some (.int 2), some (.int t), some (.int n)], [], HH x σ) (some (.int r), HH x σ1) ∧ mm_Runs 999 i_X7_sheet (0, [some (.ref 37), some (.int 2), some (.int t), some (.int n), none], [], HH x σ1) (some (.int r), HH x σ2) ∧ Rel σ2 := by
  obtain ⟨h1, h2, P, ns, nw, nr, hp, hc, hri, hwy, hs, hw, hre, hti⟩ := id hr
  have q : p_isSheet (ui σ 210 0) 2 := by unfold p_isSheet; decide
  have c := r_sheet (d := 999) (x := x) (σ := σ) (k := 2) (t := t) (n := n) (by omega) (fun _ _ _ _ => by decide)
  rw [show f_sheet σ 2 t n = 1 by unfold f_sheet; rw [if_pos q, if_pos qt, if_pos q1, if_pos q2], show g_sheet σ 2 t n = g_renew_6 (ui σ 210 0) t n by unfold g_sheet; rw [if_pos q, if_pos qt, if_pos q1, if_pos q2, if_neg (by decide), if_neg (by decide), if_pos rfl]] at c
  have mf : ∀ τ : mm_S, mm_Runs 999 i_X7_sheet (0, [some (.ref 37), some (.int 2), some (.int t), some (.int n), none], [], HH x τ) (some (.int 1), HH x (ua (ua (ua (ui τ 3700 0) 38 (upd (τ.2.2.1 38) 2 t)) 39 (upd (τ.2.2.1 39) 2 n)) 40 (fz 120 60 (τ.2.2.1 40)))) := by
    intro τ
    have qs := (sheet_iff (ui τ 3700 0) (ui σ 210 0) 2).mpr q
    have qu := (sort_iff (ui τ 3700 0) (ui σ 210 0) t).mpr qt
    refine vc_m_sheet (by omega) (fun _ z => absurd qu z) (fun _ _ _ _ => by decide) (fun _ _ _ _ => by decide) (fun _ _ _ _ => ?_) (fun _ _ _ z => absurd q2 z) (fun _ _ z => absurd q1 z) (fun z => absurd qs z)
    have h := msl_2 (d := 999) (x := x) (ua (ua (ui τ 3700 0) 38 (upd (τ.2.2.1 38) 2 t)) 39 (upd (τ.2.2.1 39) 2 n)) 60 0 (by omega)
    rw [fz_0, ua_self] at h
    exact h
  exact ⟨_, _, _, c, mf _, ⟨⟨rfl, h1.2⟩, ⟨⟨by show (_ ∧ upd (σ.2.2.1 38) 2 t 0 = -9) ∨ (_ ∧ upd (σ.2.2.1 38) 2 t 0 = _ ∧ _); rw [upd_at, if_neg (by decide)]; exact h2.1.1, by show _ = upd (σ.2.2.1 39) 2 n 0; rw [upd_at, if_neg (by decide)]; exact h2.1.2.1, h2.1.2.2.1, fun y hy => by show σ.2.2.1 8 y = fz 120 60 (σ.2.2.1 40) (60 * 0 + y); unfold fz; rw [if_neg (by omega)]; exact h2.1.2.2.2 y hy⟩, ⟨by show (_ ∧ upd (σ.2.2.1 38) 2 t 1 = -9) ∨ (_ ∧ upd (σ.2.2.1 38) 2 t 1 = _ ∧ _); rw [upd_at, if_neg (by decide)]; exact h2.2.1.1, by show _ = upd (σ.2.2.1 39) 2 n 1; rw [upd_at, if_neg (by decide)]; exact h2.2.1.2.1, h2.2.1.2.2.1, fun y hy => by show σ.2.2.1 9 y = fz 120 60 (σ.2.2.1 40) (60 * 1 + y); unfold fz; rw [if_neg (by omega)]; exact h2.2.1.2.2.2 y hy⟩, ⟨Or.inr ⟨rfl, by show upd (σ.2.2.1 38) 2 t 2 = t; rw [upd_at, if_pos rfl], kind_kd (σ := σ) qt⟩, by show n = upd (σ.2.2.1 39) 2 n 2; rw [upd_at, if_pos rfl], le60 q1 q2, fun y hy => by show fl 60 0 (σ.2.2.1 10) y = fz 120 60 (σ.2.2.1 40) (60 * 2 + y); unfold fl fz; rw [if_pos hy, if_pos (by omega)]⟩, ⟨by show (_ ∧ upd (σ.2.2.1 38) 2 t 3 = -9) ∨ (_ ∧ upd (σ.2.2.1 38) 2 t 3 = _ ∧ _); rw [upd_at, if_neg (by decide)]; exact h2.2.2.2.1, by show _ = upd (σ.2.2.1 39) 2 n 3; rw [upd_at, if_neg (by decide)]; exact h2.2.2.2.2.1, h2.2.2.2.2.2.1, fun y hy => by show σ.2.2.1 11 y = fz 120 60 (σ.2.2.1 40) (60 * 3 + y); unfold fz; rw [if_neg (by omega)]; exact h2.2.2.2.2.2.2 y hy⟩⟩, P, ns, nw, nr, hp, hc, hri, hwy, hs, hw, hre, hti⟩⟩
theorem msl_3 {d : Nat} {x : Nat × (Nat → Int32)} (σ : mm_S) : ∀ (k i : Nat), i + k = 60 → mm_Runs d 142 (57, [some (.ref 37), some (.int 3), none, none, some (.int (nI i))], [], HH x (ua σ 40 (fz 180 i (σ.2.2.1 40)))) (some (.int 1), HH x (ua σ 40 (fz 180 60 (σ.2.2.1 40))))
  | 0, i, h => by
    have e : i = 60 := by omega
    subst e
    exact vc_m_sheeth (fun _ => rfl) (fun z => absurd (by decide) z) (fun z => absurd (by decide) z)
  | k + 1, i, h => by
    have hlt : ¬ (60 : Int32) ≤ nI i := nI_ge (a := i) (b := 60) (by omega) (by omega)
    have ei : (60 : Int32) * 3 + nI i = nI (180 + i) := nI_add 180 i
    refine vc_m_sheeth (fun z => absurd z hlt) (fun _ => by rw [ei]; exact nI_in (by omega) (by omega)) (fun _ => ?_)
    have ih := msl_3 (d := d) (x := x) σ k (i + 1) (by omega)
    rw [ei, nI_clamp (show 180 + i < 2 ^ 31 by omega), ua_ua, show (ua σ 40 (fz 180 i (σ.2.2.1 40))).2.2.1 40 = fz 180 i (σ.2.2.1 40) from rfl, fz_s, show nI i + (1 : Int32) = nI (i + 1) from nI_1 i]
    exact ih
theorem sheet_3 {x : Nat × (Nat → Int32)} {σ : mm_S} {t n : Int32} (hr : Rel σ) (qt : p_isSort (ui σ 210 0) t) (q1 : n ≤ 60) (q2 : 0 ≤ n) : ∃ (r : Int32) (σ1 σ2 : mm_S), mm_Runs 999 i_X6_sheet (0, [some (.ref 2), some (.int 3), some (.int t), some (.int n)], [], HH x σ) (some (.int r), HH x σ1) ∧ mm_Runs 999 i_X7_sheet (0, [some (.ref 37), some (.int 3), some (.int t), some (.int n), none], [], HH x σ1) (some (.int r), HH x σ2) ∧ Rel σ2 := by
  obtain ⟨h1, h2, P, ns, nw, nr, hp, hc, hri, hwy, hs, hw, hre, hti⟩ := id hr
  have q : p_isSheet (ui σ 210 0) 3 := by unfold p_isSheet; decide
  have c := r_sheet (d := 999) (x := x) (σ := σ) (k := 3) (t := t) (n := n) (by omega) (fun _ _ _ _ => by decide)
  rw [show f_sheet σ 3 t n = 1 by unfold f_sheet; rw [if_pos q, if_pos qt, if_pos q1, if_pos q2], show g_sheet σ 3 t n = g_renew_7 (ui σ 210 0) t n by unfold g_sheet; rw [if_pos q, if_pos qt, if_pos q1, if_pos q2, if_neg (by decide), if_neg (by decide), if_neg (by decide)]] at c
  have mf : ∀ τ : mm_S, mm_Runs 999 i_X7_sheet (0, [some (.ref 37), some (.int 3), some (.int t), some (.int n), none], [], HH x τ) (some (.int 1), HH x (ua (ua (ua (ui τ 3700 0) 38 (upd (τ.2.2.1 38) 3 t)) 39 (upd (τ.2.2.1 39) 3 n)) 40 (fz 180 60 (τ.2.2.1 40)))) := by
    intro τ
    have qs := (sheet_iff (ui τ 3700 0) (ui σ 210 0) 3).mpr q
    have qu := (sort_iff (ui τ 3700 0) (ui σ 210 0) t).mpr qt
    refine vc_m_sheet (by omega) (fun _ z => absurd qu z) (fun _ _ _ _ => by decide) (fun _ _ _ _ => by decide) (fun _ _ _ _ => ?_) (fun _ _ _ z => absurd q2 z) (fun _ _ z => absurd q1 z) (fun z => absurd qs z)
    have h := msl_3 (d := 999) (x := x) (ua (ua (ui τ 3700 0) 38 (upd (τ.2.2.1 38) 3 t)) 39 (upd (τ.2.2.1 39) 3 n)) 60 0 (by omega)
    rw [fz_0, ua_self] at h
    exact h
  exact ⟨_, _, _, c, mf _, ⟨⟨rfl, h1.2⟩, ⟨⟨by show (_ ∧ upd (σ.2.2.1 38) 3 t 0 = -9) ∨ (_ ∧ upd (σ.2.2.1 38) 3 t 0 = _ ∧ _); rw [upd_at, if_neg (by decide)]; exact h2.1.1, by show _ = upd (σ.2.2.1 39) 3 n 0; rw [upd_at, if_neg (by decide)]; exact h2.1.2.1, h2.1.2.2.1, fun y hy => by show σ.2.2.1 8 y = fz 180 60 (σ.2.2.1 40) (60 * 0 + y); unfold fz; rw [if_neg (by omega)]; exact h2.1.2.2.2 y hy⟩, ⟨by show (_ ∧ upd (σ.2.2.1 38) 3 t 1 = -9) ∨ (_ ∧ upd (σ.2.2.1 38) 3 t 1 = _ ∧ _); rw [upd_at, if_neg (by decide)]; exact h2.2.1.1, by show _ = upd (σ.2.2.1 39) 3 n 1; rw [upd_at, if_neg (by decide)]; exact h2.2.1.2.1, h2.2.1.2.2.1, fun y hy => by show σ.2.2.1 9 y = fz 180 60 (σ.2.2.1 40) (60 * 1 + y); unfold fz; rw [if_neg (by omega)]; exact h2.2.1.2.2.2 y hy⟩, ⟨by show (_ ∧ upd (σ.2.2.1 38) 3 t 2 = -9) ∨ (_ ∧ upd (σ.2.2.1 38) 3 t 2 = _ ∧ _); rw [upd_at, if_neg (by decide)]; exact h2.2.2.1.1, by show _ = upd (σ.2.2.1 39) 3 n 2; rw [upd_at, if_neg (by decide)]; exact h2.2.2.1.2.1, h2.2.2.1.2.2.1, fun y hy => by show σ.2.2.1 10 y = fz 180 60 (σ.2.2.1 40) (60 * 2 + y); unfold fz; rw [if_neg (by omega)]; exact h2.2.2.1.2.2.2 y hy⟩, ⟨Or.inr ⟨rfl, by show upd (σ.2.2.1 38) 3 t 3 = t; rw [upd_at, if_pos rfl], kind_kd (σ := σ) qt⟩, by show n = upd (σ.2.2.1 39) 3 n 3; rw [upd_at, if_pos rfl], le60 q1 q2, fun y hy => by show fl 60 0 (σ.2.2.1 11) y = fz 180 60 (σ.2.2.1 40) (60 * 3 + y); unfold fl fz; rw [if_pos hy, if_pos (by omega)]⟩⟩, P, ns, nw, nr, hp, hc, hri, hwy, hs, hw, hre, hti⟩⟩
theorem op_sheet : opI Rel i_X6_sheet i_X7_sheet 3 := by
  intro x σ as h hr
  obtain ⟨k, t, n, rfl⟩ := as_3 h
  obtain ⟨h1, h2, P, ns, nw, nr, hp, hc, hri, hwy, hs, hw, hre, hti⟩ := id hr
  have c := fun (hk : p_isSheet (ui σ 210 0) k → ¬ (k < 0 ∨ 4 ≤ k.toNatClampNeg)) => r_sheet (d := 999) (x := x) (σ := σ) (k := k) (t := t) (n := n) (by omega) (fun z _ _ _ => hk z)
  have qsi := fun τ : mm_S => sheet_iff (ui τ 3700 0) (ui σ 210 0) k
  have qui := fun τ : mm_S => sort_iff (ui τ 3700 0) (ui σ 210 0) t
  have hk4 : p_isSheet (ui σ 210 0) k → ¬ (k < 0 ∨ 4 ≤ k.toNatClampNeg) := by
    intro z
    rcases sheet_4 (ui σ 210 0) k with q | ⟨-, rfl | rfl | rfl | rfl⟩
    · exact absurd z q
    · decide
    · decide
    · decide
    · decide
  by_cases q : p_isSheet (ui σ 210 0) k
  · by_cases qt : p_isSort (ui σ 210 0) t
    · by_cases q1 : n ≤ 60
      · by_cases q2 : 0 ≤ n
        · rcases sheet_4 (ui σ 210 0) k with q9 | ⟨-, rfl | rfl | rfl | rfl⟩
          · exact absurd q q9
          · exact sheet_0 hr qt q1 q2
          · exact sheet_1 hr qt q1 q2
          · exact sheet_2 hr qt q1 q2
          · exact sheet_3 hr qt q1 q2
        · have c1 := c hk4
          rw [show f_sheet σ k t n = -14 by unfold f_sheet; rw [if_pos q, if_pos qt, if_pos q1, if_neg q2]; rfl, show g_sheet σ k t n = ui (ui σ 210 0) 210 4 by unfold g_sheet; rw [if_pos q, if_pos qt, if_pos q1, if_neg q2]; rfl] at c1
          have mf : ∀ τ : mm_S, mm_Runs 999 i_X7_sheet (0, [some (.ref 37), some (.int k), some (.int t), some (.int n), none], [], HH x τ) (some (.int (-14)), HH x (ui (ui τ 3700 0) 3700 4)) := by
            intro τ
            exact vc_m_sheet (by omega) (fun _ z => absurd ((qui τ).mpr qt) z) (fun _ _ _ z => absurd z q2) (fun _ _ _ z => absurd z q2) (fun _ _ _ z => absurd z q2) (fun _ _ _ _ => rfl) (fun _ _ z => absurd q1 z) (fun z => absurd ((qsi τ).mpr q) z)
          exact ⟨_, _, _, c1, mf _, ⟨⟨rfl, h1.2⟩, h2, P, ns, nw, nr, hp, hc, hri, hwy, hs, hw, hre, hti⟩⟩
      · have c1 := c hk4
        rw [show f_sheet σ k t n = -2 by unfold f_sheet; rw [if_pos q, if_pos qt, if_neg q1], show g_sheet σ k t n = ui σ 210 0 by unfold g_sheet; rw [if_pos q, if_pos qt, if_neg q1]] at c1
        have mf : ∀ τ : mm_S, mm_Runs 999 i_X7_sheet (0, [some (.ref 37), some (.int k), some (.int t), some (.int n), none], [], HH x τ) (some (.int (-2)), HH x (ui τ 3700 0)) := by
          intro τ
          exact vc_m_sheet (by omega) (fun _ z => absurd ((qui τ).mpr qt) z) (fun _ _ z _ => absurd z q1) (fun _ _ z _ => absurd z q1) (fun _ _ z _ => absurd z q1) (fun _ _ z _ => absurd z q1) (fun _ _ _ => rfl) (fun z => absurd ((qsi τ).mpr q) z)
        exact ⟨_, _, _, c1, mf _, ⟨⟨rfl, h1.2⟩, h2, P, ns, nw, nr, hp, hc, hri, hwy, hs, hw, hre, hti⟩⟩
    · have c1 := c hk4
      rw [show f_sheet σ k t n = -2 by unfold f_sheet; rw [if_pos q, if_neg qt], show g_sheet σ k t n = ui σ 210 0 by unfold g_sheet; rw [if_pos q, if_neg qt]] at c1
      have mf : ∀ τ : mm_S, mm_Runs 999 i_X7_sheet (0, [some (.ref 37), some (.int k), some (.int t), some (.int n), none], [], HH x τ) (some (.int (-2)), HH x (ui τ 3700 0)) := by
        intro τ
        have qn : ¬ p_m_isSort (ui τ 3700 0) t := fun z => qt ((qui τ).mp z)
        exact vc_m_sheet (by omega) (fun _ _ => rfl) (fun _ z _ _ => absurd z qn) (fun _ z _ _ => absurd z qn) (fun _ z _ _ => absurd z qn) (fun _ z _ _ => absurd z qn) (fun _ z _ => absurd z qn) (fun z => absurd ((qsi τ).mpr q) z)
      exact ⟨_, _, _, c1, mf _, ⟨⟨rfl, h1.2⟩, h2, P, ns, nw, nr, hp, hc, hri, hwy, hs, hw, hre, hti⟩⟩
  · have c1 := c (fun z => absurd z q)
    rw [show f_sheet σ k t n = -1 by unfold f_sheet; rw [if_neg q], show g_sheet σ k t n = ui σ 210 0 by unfold g_sheet; rw [if_neg q]] at c1
    have mf : ∀ τ : mm_S, mm_Runs 999 i_X7_sheet (0, [some (.ref 37), some (.int k), some (.int t), some (.int n), none], [], HH x τ) (some (.int (-1)), HH x (ui τ 3700 0)) := by
      intro τ
      have qn : ¬ p_m_isSheet (ui τ 3700 0) k := fun z => q ((qsi τ).mp z)
      exact vc_m_sheet (by omega) (fun z _ => absurd z qn) (fun z _ _ _ => absurd z qn) (fun z _ _ _ => absurd z qn) (fun z _ _ _ => absurd z qn) (fun z _ _ _ => absurd z qn) (fun z _ _ => absurd z qn) (fun _ => rfl)
    exact ⟨_, _, _, c1, mf _, ⟨⟨rfl, h1.2⟩, h2, P, ns, nw, nr, hp, hc, hri, hwy, hs, hw, hre, hti⟩⟩
