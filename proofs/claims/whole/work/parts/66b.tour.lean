/-! a tour of the wishes (written by wip/whole/t66b.py) -/
theorem pair_in {b0 b1 b2 b3 b4 b5 b6 b7 b8 b9 b10 b11 b12 b13 f0 f1 f2 f3 f4 f5 : Nat} (h0 : b0 + b1 + b7 + b8 ≤ f0 + 3) (h1 : b1 + b2 + b8 + b9 ≤ f1 + 3) (h2 : b2 + b3 + b9 + b10 ≤ f2 + 3) (h3 : b3 + b4 + b10 + b11 ≤ f3 + 3) (h4 : b4 + b5 + b11 + b12 ≤ f4 + 3) (h5 : b5 + b6 + b12 + b13 ≤ f5 + 3) (k0 : b0 ≤ 1) (k6 : b6 ≤ 1) (k7 : b7 ≤ 1) (k13 : b13 ≤ 1) : 2 * (b0 + b1 + b2 + b3 + b4 + b5 + b6 + b7 + b8 + b9 + b10 + b11 + b12 + b13) ≤ f0 + f1 + f2 + f3 + f4 + f5 + 22 := by omega
def nb (s : Bool) : Nat := if s = true then 1 else 0
theorem bq (S : Nat → Bool) (k : Nat) : nb (S k) ≤ 1 := by unfold nb; split <;> omega
theorem w4 : ∀ s1 s2 s3 s4 : Bool, nb s1 + nb s2 + nb s3 + nb s4 ≤ nb (s1 && s2 && s3 && s4) + 3 := by decide
theorem wq (S : Nat → Bool) (j : Nat) (hj : j < 18) : nb (S (wj j)) + nb (S (wj j + 1)) + nb (S (wj j + 7)) + nb (S (wj j + 8)) ≤ nb (fw4 S j) + 3 := w4 _ _ _ _
theorem win_cnt (S : Nat → Bool) : 2 * cnt S 42 ≤ cnt (fw4 S) 18 + 66 := by
  have p0 : 2 * (nb (S 0) + nb (S 1) + nb (S 2) + nb (S 3) + nb (S 4) + nb (S 5) + nb (S 6) + nb (S 7) + nb (S 8) + nb (S 9) + nb (S 10) + nb (S 11) + nb (S 12) + nb (S 13)) ≤ nb (fw4 S 0) + nb (fw4 S 1) + nb (fw4 S 2) + nb (fw4 S 3) + nb (fw4 S 4) + nb (fw4 S 5) + 22 := pair_in (wq S 0 (by decide)) (wq S 1 (by decide)) (wq S 2 (by decide)) (wq S 3 (by decide)) (wq S 4 (by decide)) (wq S 5 (by decide)) (bq S _) (bq S _) (bq S _) (bq S _)
  have p1 : 2 * (nb (S 14) + nb (S 15) + nb (S 16) + nb (S 17) + nb (S 18) + nb (S 19) + nb (S 20) + nb (S 21) + nb (S 22) + nb (S 23) + nb (S 24) + nb (S 25) + nb (S 26) + nb (S 27)) ≤ nb (fw4 S 6) + nb (fw4 S 7) + nb (fw4 S 8) + nb (fw4 S 9) + nb (fw4 S 10) + nb (fw4 S 11) + 22 := pair_in (wq S 6 (by decide)) (wq S 7 (by decide)) (wq S 8 (by decide)) (wq S 9 (by decide)) (wq S 10 (by decide)) (wq S 11 (by decide)) (bq S _) (bq S _) (bq S _) (bq S _)
  have p2 : 2 * (nb (S 28) + nb (S 29) + nb (S 30) + nb (S 31) + nb (S 32) + nb (S 33) + nb (S 34) + nb (S 35) + nb (S 36) + nb (S 37) + nb (S 38) + nb (S 39) + nb (S 40) + nb (S 41)) ≤ nb (fw4 S 12) + nb (fw4 S 13) + nb (fw4 S 14) + nb (fw4 S 15) + nb (fw4 S 16) + nb (fw4 S 17) + 22 := pair_in (wq S 12 (by decide)) (wq S 13 (by decide)) (wq S 14 (by decide)) (wq S 15 (by decide)) (wq S 16 (by decide)) (wq S 17 (by decide)) (bq S _) (bq S _) (bq S _) (bq S _)
  have e1 : cnt S 42 = (nb (S 0) + nb (S 1) + nb (S 2) + nb (S 3) + nb (S 4) + nb (S 5) + nb (S 6) + nb (S 7) + nb (S 8) + nb (S 9) + nb (S 10) + nb (S 11) + nb (S 12) + nb (S 13)) + (nb (S 14) + nb (S 15) + nb (S 16) + nb (S 17) + nb (S 18) + nb (S 19) + nb (S 20) + nb (S 21) + nb (S 22) + nb (S 23) + nb (S 24) + nb (S 25) + nb (S 26) + nb (S 27)) + (nb (S 28) + nb (S 29) + nb (S 30) + nb (S 31) + nb (S 32) + nb (S 33) + nb (S 34) + nb (S 35) + nb (S 36) + nb (S 37) + nb (S 38) + nb (S 39) + nb (S 40) + nb (S 41)) := by
    simp only [cnt, nb, Nat.zero_add, Nat.add_assoc]
  have e2 : cnt (fw4 S) 18 = (nb (fw4 S 0) + nb (fw4 S 1) + nb (fw4 S 2) + nb (fw4 S 3) + nb (fw4 S 4) + nb (fw4 S 5)) + (nb (fw4 S 6) + nb (fw4 S 7) + nb (fw4 S 8) + nb (fw4 S 9) + nb (fw4 S 10) + nb (fw4 S 11)) + (nb (fw4 S 12) + nb (fw4 S 13) + nb (fw4 S 14) + nb (fw4 S 15) + nb (fw4 S 16) + nb (fw4 S 17)) := by
    simp only [cnt, nb, Nat.zero_add, Nat.add_assoc]
  rw [e1, e2]
  generalize nb (S 0) + nb (S 1) + nb (S 2) + nb (S 3) + nb (S 4) + nb (S 5) + nb (S 6) + nb (S 7) + nb (S 8) + nb (S 9) + nb (S 10) + nb (S 11) + nb (S 12) + nb (S 13) = A0 at *
  generalize nb (S 14) + nb (S 15) + nb (S 16) + nb (S 17) + nb (S 18) + nb (S 19) + nb (S 20) + nb (S 21) + nb (S 22) + nb (S 23) + nb (S 24) + nb (S 25) + nb (S 26) + nb (S 27) = A1 at *
  generalize nb (S 28) + nb (S 29) + nb (S 30) + nb (S 31) + nb (S 32) + nb (S 33) + nb (S 34) + nb (S 35) + nb (S 36) + nb (S 37) + nb (S 38) + nb (S 39) + nb (S 40) + nb (S 41) = A2 at *
  generalize nb (fw4 S 0) + nb (fw4 S 1) + nb (fw4 S 2) + nb (fw4 S 3) + nb (fw4 S 4) + nb (fw4 S 5) = B0 at *
  generalize nb (fw4 S 6) + nb (fw4 S 7) + nb (fw4 S 8) + nb (fw4 S 9) + nb (fw4 S 10) + nb (fw4 S 11) = B1 at *
  generalize nb (fw4 S 12) + nb (fw4 S 13) + nb (fw4 S 14) + nb (fw4 S 15) + nb (fw4 S 16) + nb (fw4 S 17) = B2 at *
  omega
section TR
variable {P : pd_T}
theorem tour {cc : Nat → Nat} {n r : Nat} (hH : P.1 ≤ 6) (hW : P.2.1 ≤ 7) (hwf : pd_wf P) (h6 : n ≤ 6) (hr : r < n) (hc : ∀ i, i < n → P.2.2 (cc i) = true) : ∃ (S : Nat → Bool) (pos : Nat → Nat) (M : Nat), CIR P S pos M ∧ M ≤ 70 ∧ ∀ j, j < n → (∃ k, wk P (cc r) k (cc j)) → S (cc j) = true := by
  obtain ⟨R, hR⟩ : ∃ R : Nat → Bool, R = fun e => decide (e = cc r) := ⟨_, rfl⟩
  have Ri : ∀ e, R e = true ↔ e = cc r := fun e => by rw [hR]; simp
  have hrw := hc r hr
  have loop : ∀ i, i ≤ n → ∃ (S : Nat → Bool) (pos : Nat → Nat) (M st : Nat), CIR P S pos M ∧ M + 2 = 2 * cnt S (pd_n P) ∧ (∀ e, S e = true → P.2.2 e = true ∧ ∃ k, wk P (cc r) k e) ∧ S (cc r) = true ∧ (∀ j, j < i → (∃ k, wk P (cc r) k (cc j)) → S (cc j) = true) ∧ st + (if r < i then 1 else 0) ≤ i ∧ ((st = 0 ∧ S = R) ∨ (st = 1 ∧ PL P R S) ∨ (2 ≤ st ∧ (P.2.1 = 7 → cnt (fw4 S) 18 ≤ 2 * st - 3))) := by
    intro i
    induction i with
    | zero =>
      intro _
      refine ⟨R, fun _ => 0, 0, 0, fun s s' hs hs' _ => ?_, ?_, fun e he => ?_, (Ri _).mpr rfl, fun j hj => absurd hj (by omega), by rw [if_neg (by omega)]; omega, Or.inl ⟨rfl, rfl⟩⟩
      · rw [(Ri s).mp hs, (Ri s').mp hs']
        exact ⟨Nat.le_refl _, fun z => absurd z (by omega), ⟨0, Nat.le_refl _, rfl, hrw⟩, ⟨0, Nat.le_refl _, rfl, hrw⟩⟩
      · have e : cnt R (pd_n P) = 1 := by
          have := cnt_clear (f := R) (g := fun _ => false) (i := cc r) ((Ri _).mpr rfl) rfl (fun k hk => by
            cases hv : R k with
            | false => rfl
            | true => exact absurd ((Ri k).mp hv) hk) (hwf _ hrw)
          rw [cnt_0 (f := fun _ => false) (fun _ _ => rfl)] at this
          omega
        rw [e]
      · rw [(Ri e).mp he]; exact ⟨hrw, 0, rfl, hrw⟩
    | succ i ih =>
      intro hi
      obtain ⟨S, pos, M, st, c1, c2, c3, c4, c5, c6, c7⟩ := ih (by omega)
      have keep : (∀ j, j < i + 1 → (∃ k, wk P (cc r) k (cc j)) → S (cc j) = true) → ∃ (S : Nat → Bool) (pos : Nat → Nat) (M st : Nat), CIR P S pos M ∧ M + 2 = 2 * cnt S (pd_n P) ∧ (∀ e, S e = true → P.2.2 e = true ∧ ∃ k, wk P (cc r) k e) ∧ S (cc r) = true ∧ (∀ j, j < i + 1 → (∃ k, wk P (cc r) k (cc j)) → S (cc j) = true) ∧ st + (if r < i + 1 then 1 else 0) ≤ i + 1 ∧ ((st = 0 ∧ S = R) ∨ (st = 1 ∧ PL P R S) ∨ (2 ≤ st ∧ (P.2.1 = 7 → cnt (fw4 S) 18 ≤ 2 * st - 3))) := fun z => ⟨S, pos, M, st, c1, c2, c3, c4, z, by split at c6 <;> split <;> omega, c7⟩
      by_cases z : ∃ k, wk P (cc r) k (cc i)
      · obtain ⟨k0, hk0⟩ := z
        obtain ⟨k, hk⟩ := ls_ex ⟨cc r, c4, hk0⟩
        rcases Nat.eq_zero_or_pos k with k1 | k1
        · subst k1
          exact keep (fun j hj y => by
            rcases Nat.lt_or_ge j i with q | q
            · exact c5 j q y
            · rw [show j = i by omega]; exact ls_0 hk)
        · have hir : i ≠ r := fun y => by
            have := ls_uni hk (ls_in (S := S) (c := cc i) (by rw [y]; exact c4) (hc i (by omega)))
            omega
          have hw : ∀ e, S e = true → P.2.2 e = true := fun e he => (c3 e he).1
          obtain ⟨S', pos', a1, a2, a3, a4, a5, a6⟩ := add_path (N := pd_n P) hwf hw c1 k (cc i) hk
          refine ⟨S', pos', M + 2 * k, st + 1, a1, by rw [a2]; omega, fun e he => ?_, a3 _ c4, fun j hj y => ?_, by split at c6 <;> split <;> omega, ?_⟩
          · obtain ⟨l, -, ⟨s, s1, s2⟩, -⟩ := a5 e he
            obtain ⟨k2, hk2⟩ := (c3 s s1).2
            exact ⟨wk_w2 s2, _, wk_tr hk2 s2⟩
          · rcases Nat.lt_or_ge j i with q | q
            · exact a3 _ (c5 j q y)
            · rw [show j = i by omega]; exact a4
          · rcases c7 with ⟨e1, e2⟩ | ⟨e1, e2⟩ | ⟨e1, e2⟩
            · subst e2
              refine Or.inr (Or.inl ⟨by omega, fun e he => ?_, fun e e' l h1 h2 h3 h4 => ?_⟩)
              · obtain ⟨l, -, hl⟩ := a5 e he
                exact ⟨l, hl⟩
              · rcases Nat.eq_zero_or_pos l with y | y
                · subst y
                  rw [(Ri e).mp (ls_0 h3), (Ri e').mp (ls_0 h4)]
                · exact a6 e e' l h1 h2 h3 h4 y
            · exact Or.inr (Or.inr ⟨by omega, fun h7 => by
                have := PL_win h7 e2 hw a5 a6
                omega⟩)
            · exact Or.inr (Or.inr ⟨by omega, fun h7 => by
                have h1 := win_2 h7 hw a5 a6
                have h2 := e2 h7
                omega⟩)
      · exact keep (fun j hj y => by
          rcases Nat.lt_or_ge j i with q | q
          · exact c5 j q y
          · rw [show j = i by omega] at y; exact absurd y z)
  obtain ⟨S, pos, M, st, c1, c2, c3, c4, c5, c6, c7⟩ := loop n (Nat.le_refl _)
  rw [if_pos hr] at c6
  have small : cnt S (pd_n P) ≤ 36 := by
    by_cases h7 : P.2.1 = 7
    · by_cases h66 : P.1 = 6
      · have e : pd_n P = 42 := by unfold pd_n; rw [h7, h66]
        rw [e]
        have fb : cnt (fw4 S) 18 ≤ 7 := by
          rcases c7 with ⟨e1, e2⟩ | ⟨e1, e2⟩ | ⟨e1, e2⟩
          · have pl : PL P R S := by
              rw [e2]
              exact ⟨fun e he => ⟨0, ls_in he (by rw [(Ri e).mp he]; exact hrw)⟩, fun e e' j h1 h2 _ _ => by rw [(Ri e).mp h1, (Ri e').mp h2]⟩
            have := PL_0 h7 pl
            omega
          · have := PL_0 h7 e2
            omega
          · have := e2 h7
            omega
        have := win_cnt S
        omega
      · have h1 : pd_n P ≤ 35 := by
          unfold pd_n
          rw [h7]
          omega
        have := cnt_le (f := S) (pd_n P)
        omega
    · have h1 : pd_n P ≤ 36 := by
        unfold pd_n
        exact Nat.le_trans (Nat.mul_le_mul hH (show P.2.1 ≤ 6 by omega)) (by decide)
      have := cnt_le (f := S) (pd_n P)
      omega
  exact ⟨S, pos, M, c1, by omega, c5⟩
def yof (M p x : Nat) : Nat := if p ≤ x then x - p else x + M - p
theorem arc_c : ∀ M, M < 71 → ∀ p, p < M → cnt (fun x => decide (yof M p x < M - 59)) M ≤ M - 59 := by decide +kernel
theorem cnt_un {g : Nat → Nat → Bool} {B M : Nat} : ∀ (n : Nat) (f : Nat → Bool), (∀ j, j < n → cnt (g j) M ≤ B) → (∀ x, x < M → f x = true → ∃ j, j < n ∧ g j x = true) → cnt f M ≤ n * B
  | 0, f, _, h => by
    rw [cnt_0 (fun k hk => by
      cases hv : f k with
      | false => rfl
      | true =>
        obtain ⟨j, j1, -⟩ := h k hk hv
        omega)]
    omega
  | n + 1, f, hB, h => by
    have h1 := cnt_un n (fun x => f x && !g n x) (fun j hj => hB j (by omega)) (fun x hx y => by
      have y' : f x = true ∧ g n x = false := by simpa using y
      obtain ⟨j, j1, j2⟩ := h x hx y'.1
      refine ⟨j, ?_, j2⟩
      rcases Nat.lt_or_ge j n with q | q
      · exact q
      · rw [show j = n by omega, y'.2] at j2; cases j2)
    have h2 := hB n (by omega)
    have h3 : cnt f M ≤ cnt (fun x => f x && !g n x) M + cnt (g n) M := cnt_or (fun k hk y => by
      by_cases hv : g n k = true
      · exact Or.inr hv
      · have hv' : g n k = false := by simpa using hv
        refine Or.inl ?_
        show (f k && !g n k) = true
        rw [y, hv']; rfl)
    rw [Nat.succ_mul]
    omega
theorem cnt_all {M : Nat} : cnt (fun _ => true) M = M := by
  induction M with
  | zero => rfl
  | succ M ih =>
    show cnt (fun _ => true) M + (if true = true then 1 else 0) = M + 1
    rw [ih, if_pos rfl]
/-- the circle is cut where nobody waits -/
theorem cut {M n : Nat} {ps : Nat → Nat} {c : Nat → Bool} (hM : M ≤ 70) (h6 : n ≤ 6) (hp : ∀ j, j < n → c j = true → ps j ≤ M ∧ (0 < M → ps j < M)) : ∃ rot : Nat → Nat, (∀ j, j < n → c j = true → rot j ≤ 58) ∧ ∀ i j, i < n → j < n → c i = true → c j = true → rot i ≤ rot j → (ps i ≤ ps j ∧ rot j - rot i = ps j - ps i) ∨ (ps j < ps i ∧ rot j - rot i = M - (ps i - ps j)) := by
  rcases Nat.lt_or_ge M 60 with q | q
  · refine ⟨ps, fun j hj hc => ?_, fun i j hi hj ci cj h => Or.inl ⟨h, rfl⟩⟩
    have := hp j hj hc
    omega
  · have ex : ∃ x, x < M ∧ ∀ j, j < n → c j = true → M - 59 ≤ yof M (ps j) x := by
      refine Classical.byContradiction fun z => ?_
      have all : ∀ x, x < M → (fun _ => true) x = true → ∃ j, j < n ∧ (fun j x => c j && decide (yof M (ps j) x < M - 59)) j x = true := fun x hx _ => by
        refine Classical.byContradiction fun y => z ⟨x, hx, fun j hj hc => ?_⟩
        rcases Nat.lt_or_ge (yof M (ps j) x) (M - 59) with w | w
        · exact absurd ⟨j, hj, by show (c j && decide (yof M (ps j) x < M - 59)) = true; rw [hc, decide_eq_true w]; rfl⟩ y
        · exact w
      have := cnt_un (g := fun j x => c j && decide (yof M (ps j) x < M - 59)) (B := M - 59) n (fun _ => true) (fun j hj => by
        show cnt (fun x => c j && decide (yof M (ps j) x < M - 59)) M ≤ M - 59
        by_cases hc : c j = true
        · have h1 := arc_c M (by omega) (ps j) ((hp j hj hc).2 (by omega))
          rw [cnt_cong (g := fun x => decide (yof M (ps j) x < M - 59)) (fun k _ => by rw [hc]; rfl)]
          exact h1
        · have hc' : c j = false := by simpa using hc
          rw [cnt_0 (fun k _ => by rw [hc']; rfl)]
          omega) all
      rw [cnt_all] at this
      have h2 : n * (M - 59) ≤ 6 * (M - 59) := Nat.mul_le_mul_right _ h6
      omega
    obtain ⟨x, hx, hx2⟩ := ex
    refine ⟨fun j => M - 1 - yof M (ps j) x, fun j hj hc => ?_, fun i j hi hj ci cj h => ?_⟩
    · have := hx2 j hj hc
      show M - 1 - yof M (ps j) x ≤ 58
      omega
    · have a1 := (hp i hi ci).2 (by omega)
      have a2 := (hp j hj cj).2 (by omega)
      have h' : M - 1 - yof M (ps i) x ≤ M - 1 - yof M (ps j) x := h
      show (ps i ≤ ps j ∧ (M - 1 - yof M (ps j) x) - (M - 1 - yof M (ps i) x) = ps j - ps i) ∨ (ps j < ps i ∧ (M - 1 - yof M (ps j) x) - (M - 1 - yof M (ps i) x) = M - (ps i - ps j))
      unfold yof at h' ⊢
      split at h' <;> split at h' <;> (rename_i u v; simp only [u, v, if_true, if_false]) <;> omega
theorem cnt_lt {f g : Nat → Bool} {i : Nat} : ∀ {n : Nat}, (∀ k, k < n → f k = true → g k = true) → f i = false → g i = true → i < n → cnt f n + 1 ≤ cnt g n
  | 0, _, _, _, h => absurd h (by omega)
  | n + 1, h, hf, hg, hi => by
    show cnt f n + (if f n = true then 1 else 0) + 1 ≤ cnt g n + (if g n = true then 1 else 0)
    rcases Nat.lt_or_ge i n with q | q
    · have ih := cnt_lt (n := n) (fun k hk => h k (by omega)) hf hg q
      by_cases y : f n = true
      · rw [if_pos y, if_pos (h n (by omega) y)]; omega
      · rw [if_neg y]; omega
    · have e : i = n := by omega
      subst e
      rw [hf, hg]
      have : cnt f i ≤ cnt g i + cnt (fun _ => false) i := cnt_or (fun k hk y => Or.inl (h k (by omega) y))
      rw [cnt_0 (f := fun _ => false) (fun _ _ => rfl)] at this
      simp
      omega
theorem comp63 {cc : Nat → Nat} {n r : Nat} (hH : P.1 ≤ 6) (hW : P.2.1 ≤ 7) (hwf : pd_wf P) (h6 : n ≤ 6) (hr : r < n) (hc : ∀ i, i < n → P.2.2 (cc i) = true) : ∃ p : Nat → Nat, (∀ j, j < n → (∃ k, wk P (cc r) k (cc j)) → p j ≤ 63) ∧ ∀ i j, i < n → j < n → i ≠ j → (∃ k, wk P (cc r) k (cc i)) → (∃ k, wk P (cc r) k (cc j)) → p i ≤ p j → ∃ k, wk P (cc i) k (cc j) ∧ k < p j - p i := by
  obtain ⟨S, pos, M, c1, c2, c3⟩ := tour hH hW hwf h6 hr hc
  obtain ⟨c, hcc⟩ : ∃ c : Nat → Bool, ∀ j, c j = true ↔ ∃ k, wk P (cc r) k (cc j) := ⟨fun j => dcd (∃ k, wk P (cc r) k (cc j)), fun j => by
    show dcd (∃ k, wk P (cc r) k (cc j)) = true ↔ _
    by_cases z : ∃ k, wk P (cc r) k (cc j)
    · rw [dcd_t z]; exact ⟨fun _ => z, fun _ => rfl⟩
    · rw [dcd_f z]; exact ⟨fun y => absurd y (by decide), fun y => absurd y z⟩⟩
  obtain ⟨rot, r1, r2⟩ := cut (ps := fun j => pos (cc j)) (c := c) c2 h6 (fun j hj y => by
    have s := c3 j hj ((hcc j).mp y)
    obtain ⟨a1, a2, -⟩ := c1 _ _ s s (Nat.le_refl _)
    exact ⟨a1, a2⟩)
  obtain ⟨bef, hb⟩ : ∃ bef : Nat → Nat → Bool, ∀ k j, bef k j = true ↔ (c k = true ∧ (rot k < rot j ∨ (rot k = rot j ∧ k < j))) := ⟨fun k j => c k && (decide (rot k < rot j) || (decide (rot k = rot j) && decide (k < j))), fun k j => by
    simp only [Bool.and_eq_true, Bool.or_eq_true, decide_eq_true_eq]⟩
  have bself : ∀ j, bef j j = false := fun j => by
    cases hv : bef j j with
    | false => rfl
    | true => have := (hb j j).mp hv; omega
  have rank : ∀ i j, i < n → bef i j = true → cnt (fun k => bef k i) n + 1 ≤ cnt (fun k => bef k j) n := fun i j hi y => cnt_lt (i := i) (fun k _ z => by
    have h1 := (hb k i).mp z
    have h2 := (hb i j).mp y
    exact (hb k j).mpr ⟨h1.1, by omega⟩) (bself i) y hi
  refine ⟨fun j => rot j + cnt (fun k => bef k j) n, fun j hj y => ?_, fun i j hi hj hij ci cj hle => ?_⟩
  · have h1 := r1 j hj ((hcc j).mpr y)
    have h2 := cnt_lt (f := fun k => bef k j) (g := fun _ => true) (i := j) (n := n) (fun _ _ _ => rfl) (bself j) rfl hj
    rw [cnt_all] at h2
    show rot j + cnt (fun k => bef k j) n ≤ 63
    omega
  · have ci' := (hcc i).mpr ci
    have cj' := (hcc j).mpr cj
    have hle' : rot i + cnt (fun k => bef k i) n ≤ rot j + cnt (fun k => bef k j) n := hle
    have bij : bef i j = true := by
      refine (hb i j).mpr ⟨ci', Classical.byContradiction fun z => ?_⟩
      have := rank j i hj ((hb j i).mpr ⟨cj', by omega⟩)
      omega
    have hrk := rank i j hi bij
    have ro : rot i ≤ rot j := by have := (hb i j).mp bij; omega
    have si := c3 i hi ci
    have sj := c3 j hj cj
    show ∃ k, wk P (cc i) k (cc j) ∧ k < (rot j + cnt (fun k => bef k j) n) - (rot i + cnt (fun k => bef k i) n)
    rcases r2 i j hi hj ci' cj' ro with ⟨h1, h2⟩ | ⟨h1, h2⟩
    · obtain ⟨-, -, ⟨k, k1, k2⟩, -⟩ := c1 _ _ si sj h1
      refine ⟨k, k2, ?_⟩
      have h2' : rot j - rot i = pos (cc j) - pos (cc i) := h2
      omega
    · have h1' : pos (cc j) < pos (cc i) := h1
      obtain ⟨-, -, -, ⟨k, k1, k2⟩⟩ := c1 _ _ sj si (by omega)
      refine ⟨k, wk_sy k2, ?_⟩
      have h2' : rot j - rot i = M - (pos (cc i) - pos (cc j)) := h2
      omega
end TR
theorem plan63 {P : pd_T} {kk : Nat → Int32} {cc : Nat → Nat} {n : Nat} (hH : P.1 ≤ 6) (hW : P.2.1 ≤ 7) (hwf : pd_wf P) (h6 : n ≤ 6) (hc : ∀ i, i < n → P.2.2 (cc i) = true) : ∃ p, pok P kk cc n (2 ^ n - 1) 63 p := by
  have key : ∀ r, ∃ p : Nat → Nat, r < n → ((∀ j, j < n → (∃ k, wk P (cc r) k (cc j)) → p j ≤ 63) ∧ ∀ i j, i < n → j < n → i ≠ j → (∃ k, wk P (cc r) k (cc i)) → (∃ k, wk P (cc r) k (cc j)) → p i ≤ p j → ∃ k, wk P (cc i) k (cc j) ∧ k < p j - p i) := fun r => by
    by_cases z : r < n
    · obtain ⟨p, hp⟩ := comp63 hH hW hwf h6 z hc
      exact ⟨p, fun _ => hp⟩
    · exact ⟨fun _ => 0, fun y => absurd y z⟩
  obtain ⟨f, hf⟩ : ∃ f : Nat → Nat → Nat, ∀ r, r < n → ((∀ j, j < n → (∃ k, wk P (cc r) k (cc j)) → f r j ≤ 63) ∧ ∀ i j, i < n → j < n → i ≠ j → (∃ k, wk P (cc r) k (cc i)) → (∃ k, wk P (cc r) k (cc j)) → f r i ≤ f r j → ∃ k, wk P (cc i) k (cc j) ∧ k < f r j - f r i) := ⟨fun r => Classical.choose (key r), fun r => Classical.choose_spec (key r)⟩
  obtain ⟨rep, hrep⟩ : ∃ rep : Nat → Nat, rep = fun i => Classical.epsilon (fun r => r < n ∧ ∃ k, wk P (cc r) k (cc i)) := ⟨_, rfl⟩
  have self : ∀ i, i < n → ∃ k, wk P (cc i) k (cc i) := fun i hi => ⟨0, rfl, hc i hi⟩
  have rs : ∀ i, i < n → rep i < n ∧ ∃ k, wk P (cc (rep i)) k (cc i) := fun i hi => by
    rw [hrep]
    exact Classical.epsilon_spec (p := fun r => r < n ∧ ∃ k, wk P (cc r) k (cc i)) ⟨i, hi, self i hi⟩
  have re : ∀ i j, (∃ k, wk P (cc i) k (cc j)) → rep i = rep j := fun i j ⟨k, hk⟩ => by
    rw [hrep]
    show Classical.epsilon _ = Classical.epsilon _
    congr 1
    funext r
    exact propext ⟨fun ⟨h1, l, h2⟩ => ⟨h1, _, wk_tr h2 hk⟩, fun ⟨h1, l, h2⟩ => ⟨h1, _, wk_tr h2 (wk_sy hk)⟩⟩
  refine ⟨fun i => f (rep i) i, fun i hi _ => (hf _ (rs i hi).1).1 i hi (rs i hi).2, fun i j hij hj _ _ z => ?_⟩
  have hi : i < n := by omega
  rcases z with ⟨z1, z2⟩ | ⟨z1, z2⟩
  · obtain ⟨m1, m2⟩ := mt_wk hwf z2
    have e := re i j m1
    have z1' : f (rep i) i ≤ f (rep j) j := z1
    rw [e] at z1'
    obtain ⟨k, k1, k2⟩ := (hf _ (rs j hj).1).2 i j hi hj (by omega) (by rw [← e]; exact (rs i hi).2) (rs j hj).2 z1'
    have h1 : f (rep j) j - f (rep i) i ≤ k := m2 k k1
    rw [e] at h1
    omega
  · obtain ⟨m1, m2⟩ := mt_wk hwf z2
    have e := re j i m1
    have z1' : f (rep j) j < f (rep i) i := z1
    rw [e] at z1'
    obtain ⟨k, k1, k2⟩ := (hf _ (rs i hi).1).2 j i hj hi (by omega) (by rw [← e]; exact (rs j hj).2) (rs i hi).2 (by omega)
    have h1 : f (rep i) i - f (rep j) j ≤ k := m2 k k1
    rw [e] at h1
    omega

