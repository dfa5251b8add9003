set_option maxHeartbeats 4000000 in
set_option maxRecDepth 100000 in
/-- from the entry, if the small machine's law returns 1 -/
theorem whole_open (hruns : law_runs) {p : Program} {e : Env} {s : State} {m : MethodId} {below : List Frame} {meth : Method} {c : Code} (l : Launch) {b L : Nat} {xs : Nat → Int32} (hL : L ≤ 3072) (C0 : lw_At p s m meth c b L xs) : W p l e room_1 s m #[Value.ref b] below meth c s.heap [] 0 0 (lw_Z below #[Value.ref b] s) (entryFrame m ([Value.ref b] : List Value).toArray 4) := by
  obtain ⟨hx, hb, hr, hml, hown, hts, hX, hbl, hlocks, hgv⟩ := id C0
  have htb : ∀ w ∈ mm_TB, w.before #[Value.ref b] s = true := fun w hw => hts w (mm_TB_in hw)
  have hA : ∀ q : Nat, s.heap.size ≤ q → (fun q : Nat => s.heap.size ≤ q) q := fun _ h => h
  have hbA : ¬ (fun q : Nat => s.heap.size ≤ q) b := Nat.not_le.mpr hbl
  have hNs : mc_N s := ⟨va_Nw.of rfl (hts _ ln_1), va_Nw.of rfl (hts _ ln_2), va_Nw.of rfl (hts _ ln_3), va_Nw.of rfl (hts _ ln_4), va_Nw.of rfl (hts _ ln_5), va_AO.of (hts _ ln_6)⟩
  have hn7 := va_Nw.of rfl (hts _ ln_7)
  have hn8 := va_Nw.of rfl (hts _ ln_8)
  have hn9 := va_Nw.of rfl (hts _ ln_9)
  have hfl := flat_of_before _ hgv
  have hnA : ∀ a : Nat, a < s.heap.size → ¬ (fun q : Nat => s.heap.size ≤ q) a := fun a h => Nat.not_le.mpr h
  obtain ⟨tr, htr, hTr⟩ := va_Tof (args := #[Value.ref b]) (s := s) (tm := .static "PondRings" "REACH" "[I") (ty := .int) (N := 3) (f := fun j => .int (mm_reach j)) (A := fun q : Nat => s.heap.size ≤ q) (by decide) (hfl (.arrayOf (.static "PondRings" "REACH" "[I") .int) (by decide +kernel)) (va_eqt (hfl (.eq (.length (.static "PondRings" "REACH" "[I")) (.int 3)) (by decide +kernel))) (fun j hj => by
    match j, hj with
    | 0, _ => exact va_eqt (hfl (.eq (.elem (.static "PondRings" "REACH" "[I") (.int 0)) (.int 99)) (by decide +kernel))
    | 1, _ => exact va_eqt (hfl (.eq (.elem (.static "PondRings" "REACH" "[I") (.int 1)) (.int 3)) (by decide +kernel))
    | 2, _ => exact va_eqt (hfl (.eq (.elem (.static "PondRings" "REACH" "[I") (.int 2)) (.int 1)) (by decide +kernel))
    | k + 3, hk => exact absurd hk (by omega)) hnA
  have hZr := va_Zref (A := fun q : Nat => s.heap.size ≤ q) (hts _ ln_10) (htb _ wc_ini_6) htr hnA
  obtain ⟨c0, iS0, hKn0⟩ := u_known (C := RX0) (T := TX0) (N := 4) (n := 4) htb mu_0 (htb _ wc_able_0)
  obtain ⟨c1, iS1, hKn1⟩ := u_known (C := RX1) (T := TX1) (N := 2) (n := 2) htb mu_1 (htb _ wc_able_1)
  obtain ⟨c2, iS2, hKn2⟩ := u_known (C := RX2) (T := TX2) (N := 8) (n := 8) htb mu_2 (htb _ wc_able_2)
  obtain ⟨c3, iS3, hKn3⟩ := u_known (C := RX3) (T := TX3) (N := 3) (n := 3) htb mu_3 (htb _ wc_able_3)
  obtain ⟨c4, iS4, hKn4⟩ := u_known (C := RX4) (T := TX4) (N := 4) (n := 4) htb mu_4 (htb _ wc_able_4)
  obtain ⟨c5, iS5, hKn5⟩ := u_known (C := RX5) (T := TX5) (N := 8) (n := 8) htb mu_5 (htb _ wc_able_5)
  obtain ⟨c6, iS6, hKn6⟩ := u_known (C := RX6) (T := TX6) (N := 11) (n := 11) htb mu_6 (htb _ wc_able_6)
  obtain ⟨c7, iS7, hKn7⟩ := u_known (C := RX7) (T := TX7) (N := 28) (n := 28) htb mu_7 (htb _ wc_able_7)
  obtain ⟨D, hKc⟩ : ∃ D : va_G, ∀ (k : Nat) (q : vw_C), mm_K[k]? = some q → u_Kn s q.1 q.2.1 q.2.2 (D.1 k) (D.2 k) := by
    refine ⟨(fun k => match k with | 0 => c0 | 1 => c1 | 2 => c2 | 3 => c3 | 4 => c4 | 5 => c5 | 6 => c6 | _ => c7, fun k => match k with | 0 => iS0 | 1 => iS1 | 2 => iS2 | 3 => iS3 | 4 => iS4 | 5 => iS5 | 6 => iS6 | _ => iS7), ?_⟩
    intro k q hq
    match k, hq with
    | 0, hq => cases hq; exact hKn0
    | 1, hq => cases hq; exact hKn1
    | 2, hq => cases hq; exact hKn2
    | 3, hq => cases hq; exact hKn3
    | 4, hq => cases hq; exact hKn4
    | 5, hq => cases hq; exact hKn5
    | 6, hq => cases hq; exact hKn6
    | 7, hq => cases hq; exact hKn7
    | k + 8, hq => simp [mm_K] at hq
  have hS : va_S (fun q : Nat => s.heap.size ≤ q) s.heap s.heap [] := va_S.rf
  have hK : va_K D mm_K [] s := ⟨hKc, fun k q h => by simp at h⟩
  have hP : va_P D mm_K [] s.heap := fun k q h => by simp at h
  have hD : va_D (fun q : Nat => s.heap.size ≤ q) [] := ⟨fun i j p q h => by simp at h, fun k q h => by simp at h⟩
  have hl := lv_entry ([.ref b]) (n := 4) (Nat.le_of_ble_eq_true rfl)
  rw [lg_entry_eq]
  generalize (lg_sl ([.ref b]) ++ List.replicate (4 - (lg_sl ([.ref b])).length) Slot.unset).toArray = ls at hl ⊢
  have hl : lv_has ls 4 [(0, .ref b)] := hl
  refine va_new (ci := 6) (fs := [.null, .null, .null, .null, .null, .null, .null, .null, .null, .int 0, .int 0]) (C := RX6) (T := TX6) (N := 11) hx hb htb mu_6 tyX6 tyX6_ok hown (htb _ ll_7) (htb _ wc_able_6) (htb _ wc_ini_6) hK hP hD hS hA rfl md_6 (Nat.le_of_ble_eq_true rfl) (Nat.le_of_ble_eq_true rfl) dl_0 (fun qx H hP hD hS => ?_)
  have hP : va_P D mm_K [(qx, .inr (6, [.null, .null, .null, .null, .null, .null, .null, .null, .null, .int 0, .int 0]))] H := hP
  have hD : va_D (fun q : Nat => s.heap.size ≤ q) [(qx, .inr (6, [.null, .null, .null, .null, .null, .null, .null, .null, .null, .int 0, .int 0]))] := hD
  refine lv_dup hx hb dl_3 rfl ?_
  have hPc := hP.sub (ws' := [(qx, .inr (6, [.null, .null, .null, .null, .null, .null, .null, .null, .null, .int 0, .int 0]))]) [0] rfl
  have hDc := hD.sub (ws' := [(qx, .inr (6, [.null, .null, .null, .null, .null, .null, .null, .null, .null, .int 0, .int 0]))]) [0] (by decide) rfl
  have hKc := hK.sub (tys' := []) [] rfl
  have hFc := va_free (wc := [(qx, .inr (6, [.null, .null, .null, .null, .null, .null, .null, .null, .null, .int 0, .int 0]))]) hD hS hA [0] rfl
  refine va_callv (va_runI (As := []) (rest := [.ref qx]) ⟨hx, hb, hml, hown, htb⟩ (c_X6 l D qx H.size) (cwI 0 htb (wg wc_code_6) rfl rfl rfl (htb _ wc_ini_6) (htb _ lm_9) (htb _ wc_inst_6) rfl ⟨by decide +kernel, by decide +kernel, by decide +kernel⟩ ⟨Nat.le_of_ble_eq_true rfl, Nat.le_of_ble_eq_true rfl⟩) ⟨fun a U g mk q => by obtain ⟨q0, q1, qP, qK, qN, qD⟩ := q; exact ⟨q0, q1, qP, va_K.moved (u := U) (U := U.calling g mk a) (Vm.Alike.refl U.vm) qK, mc_N.same rfl qN, qD⟩, fun U hU hW => ⟨rfl, by rw [hU], by rw [hU]; exact hPc, va_K.moved hW.alike hKc, hNs.warm hW, hDc.weaken (fun _ _ _ _ => trivial)⟩⟩ rfl rfl hl.1 rfl (lv_room (Nat.le_of_ble_eq_true rfl)) dl_4 ⟨Nat.le_of_ble_eq_true rfl, Nat.le_of_ble_eq_true rfl⟩) hS (fun q _ h => hFc q h) hFc (fun u t H1 locs ht hvm hw hB hz1 hk1 hS => ?_)
  obtain ⟨xq1, xq3, xq4, xq6, xq7, xq9, xq10, xq12, xq13, xq15, xq16, xq17, xq18, xq21, xq22, xq23, xq24, xq28, xq29, xq30, xq31, xq35, xq36, xq37, xq38, xq42, xq43, xq44, xq45, xq46, xq47, xq48, xq49, xq56, xcA2, xcA5, xcA8, xcA11, xcA14, xcA19, xcA20, xcA25, xcA26, xcA27, xcA32, xcA33, xcA34, xcA39, xcA40, xcA41, xcA50, xcA51, xcA52, xcA53, xcA54, xcA55, xcA57, hP1, hK1, hD1⟩ := hB
  rw [ht] at hP1
  have hK1 := va_K.moved hvm.symm hK1
  obtain ⟨hP, hD⟩ := va_join (wr := []) (w1 := [(qx, .inr (6, [.ref xq1, .ref xq15, .ref xq16, .ref xq21, .ref xq28, .ref xq35, .ref xq42, .ref xq43, .ref xq56, .int (0 : Int32), .int (0 : Int32)])), (xq1, .inl (xcA2, 4, .inr (.inr (.inr (.inr (va_up (va_up (va_up (va_up (fun _ => none) 0 (some xq3)) 1 (some xq6)) 2 (some xq9)) 3 (some xq12))))))), (xq3, .inr (4, [.ref xq4, .int 0, .int 0, .int 0])), (xq4, .inl (xcA5, 60, .inl (fun _ => 0))), (xq6, .inr (4, [.ref xq7, .int 0, .int 0, .int 0])), (xq7, .inl (xcA8, 60, .inl (fun _ => 0))), (xq9, .inr (4, [.ref xq10, .int 0, .int 0, .int 0])), (xq10, .inl (xcA11, 60, .inl (fun _ => 0))), (xq12, .inr (4, [.ref xq13, .int 0, .int 0, .int 0])), (xq13, .inl (xcA14, 60, .inl (fun _ => 0))), (xq15, .inr (3, [.int 0, .int 0, .long 0])), (xq16, .inr (2, [.ref xq17, .ref xq18, .long 0, .long 0, .long 0, .int 0, .int 0, .long 0])), (xq17, .inl (xcA19, 1764, .inr (.inl (fun _ => 0)))), (xq18, .inl (xcA20, 42, .inl (fun _ => 0))), (xq21, .inr (0, [.ref xq22, .ref xq23, .ref xq24, .int 0])), (xq22, .inl (xcA25, 8, .inl (fun _ => 0))), (xq23, .inl (xcA26, 8, .inl (fun _ => 0))), (xq24, .inl (xcA27, 8, .inl (fun _ => 0))), (xq28, .inr (0, [.ref xq29, .ref xq30, .ref xq31, .int 0])), (xq29, .inl (xcA32, 6, .inl (fun _ => 0))), (xq30, .inl (xcA33, 6, .inl (fun _ => 0))), (xq31, .inl (xcA34, 6, .inl (fun _ => 0))), (xq35, .inr (0, [.ref xq36, .ref xq37, .ref xq38, .int 0])), (xq36, .inl (xcA39, 6, .inl (fun _ => 0))), (xq37, .inl (xcA40, 6, .inl (fun _ => 0))), (xq38, .inl (xcA41, 6, .inl (fun _ => 0))), (xq42, .inr (1, [.int 0, .int 0])), (xq43, .inr (5, [.ref xq44, .ref xq45, .ref xq46, .ref xq47, .int 0, .ref xq48, .ref xq49, .int 0])), (xq44, .inl (xcA50, 36, .inr (.inl (fun _ => 0)))), (xq45, .inl (xcA51, 36, .inr (.inl (fun _ => 0)))), (xq46, .inl (xcA52, 42, .inr (.inl (fun _ => 0)))), (xq47, .inl (xcA53, 6, .inl (fun _ => 0))), (xq48, .inl (xcA54, 6, .inl (fun _ => 0))), (xq49, .inl (xcA55, 6, .inl (fun _ => 0))), (xq56, .inl (xcA57, 6, .inl (fun _ => 0)))]) hP hD [0] [] rfl rfl (by decide) (by decide) hk1 hFc hP1 hD1
  have hK := (hK.sub (tys' := []) [] rfl).app hK1
  generalize H1 = H at hP hS ⊢
  have hP : va_P D mm_K [(qx, .inr (6, [.ref xq1, .ref xq15, .ref xq16, .ref xq21, .ref xq28, .ref xq35, .ref xq42, .ref xq43, .ref xq56, .int (0 : Int32), .int (0 : Int32)])), (xq1, .inl (xcA2, 4, .inr (.inr (.inr (.inr (va_up (va_up (va_up (va_up (fun _ => none) 0 (some xq3)) 1 (some xq6)) 2 (some xq9)) 3 (some xq12))))))), (xq3, .inr (4, [.ref xq4, .int 0, .int 0, .int 0])), (xq4, .inl (xcA5, 60, .inl (fun _ => 0))), (xq6, .inr (4, [.ref xq7, .int 0, .int 0, .int 0])), (xq7, .inl (xcA8, 60, .inl (fun _ => 0))), (xq9, .inr (4, [.ref xq10, .int 0, .int 0, .int 0])), (xq10, .inl (xcA11, 60, .inl (fun _ => 0))), (xq12, .inr (4, [.ref xq13, .int 0, .int 0, .int 0])), (xq13, .inl (xcA14, 60, .inl (fun _ => 0))), (xq15, .inr (3, [.int 0, .int 0, .long 0])), (xq16, .inr (2, [.ref xq17, .ref xq18, .long 0, .long 0, .long 0, .int 0, .int 0, .long 0])), (xq17, .inl (xcA19, 1764, .inr (.inl (fun _ => 0)))), (xq18, .inl (xcA20, 42, .inl (fun _ => 0))), (xq21, .inr (0, [.ref xq22, .ref xq23, .ref xq24, .int 0])), (xq22, .inl (xcA25, 8, .inl (fun _ => 0))), (xq23, .inl (xcA26, 8, .inl (fun _ => 0))), (xq24, .inl (xcA27, 8, .inl (fun _ => 0))), (xq28, .inr (0, [.ref xq29, .ref xq30, .ref xq31, .int 0])), (xq29, .inl (xcA32, 6, .inl (fun _ => 0))), (xq30, .inl (xcA33, 6, .inl (fun _ => 0))), (xq31, .inl (xcA34, 6, .inl (fun _ => 0))), (xq35, .inr (0, [.ref xq36, .ref xq37, .ref xq38, .int 0])), (xq36, .inl (xcA39, 6, .inl (fun _ => 0))), (xq37, .inl (xcA40, 6, .inl (fun _ => 0))), (xq38, .inl (xcA41, 6, .inl (fun _ => 0))), (xq42, .inr (1, [.int 0, .int 0])), (xq43, .inr (5, [.ref xq44, .ref xq45, .ref xq46, .ref xq47, .int 0, .ref xq48, .ref xq49, .int 0])), (xq44, .inl (xcA50, 36, .inr (.inl (fun _ => 0)))), (xq45, .inl (xcA51, 36, .inr (.inl (fun _ => 0)))), (xq46, .inl (xcA52, 42, .inr (.inl (fun _ => 0)))), (xq47, .inl (xcA53, 6, .inl (fun _ => 0))), (xq48, .inl (xcA54, 6, .inl (fun _ => 0))), (xq49, .inl (xcA55, 6, .inl (fun _ => 0))), (xq56, .inl (xcA57, 6, .inl (fun _ => 0)))] H := hP
  have hD : va_D (fun q : Nat => s.heap.size ≤ q) [(qx, .inr (6, [.ref xq1, .ref xq15, .ref xq16, .ref xq21, .ref xq28, .ref xq35, .ref xq42, .ref xq43, .ref xq56, .int (0 : Int32), .int (0 : Int32)])), (xq1, .inl (xcA2, 4, .inr (.inr (.inr (.inr (va_up (va_up (va_up (va_up (fun _ => none) 0 (some xq3)) 1 (some xq6)) 2 (some xq9)) 3 (some xq12))))))), (xq3, .inr (4, [.ref xq4, .int 0, .int 0, .int 0])), (xq4, .inl (xcA5, 60, .inl (fun _ => 0))), (xq6, .inr (4, [.ref xq7, .int 0, .int 0, .int 0])), (xq7, .inl (xcA8, 60, .inl (fun _ => 0))), (xq9, .inr (4, [.ref xq10, .int 0, .int 0, .int 0])), (xq10, .inl (xcA11, 60, .inl (fun _ => 0))), (xq12, .inr (4, [.ref xq13, .int 0, .int 0, .int 0])), (xq13, .inl (xcA14, 60, .inl (fun _ => 0))), (xq15, .inr (3, [.int 0, .int 0, .long 0])), (xq16, .inr (2, [.ref xq17, .ref xq18, .long 0, .long 0, .long 0, .int 0, .int 0, .long 0])), (xq17, .inl (xcA19, 1764, .inr (.inl (fun _ => 0)))), (xq18, .inl (xcA20, 42, .inl (fun _ => 0))), (xq21, .inr (0, [.ref xq22, .ref xq23, .ref xq24, .int 0])), (xq22, .inl (xcA25, 8, .inl (fun _ => 0))), (xq23, .inl (xcA26, 8, .inl (fun _ => 0))), (xq24, .inl (xcA27, 8, .inl (fun _ => 0))), (xq28, .inr (0, [.ref xq29, .ref xq30, .ref xq31, .int 0])), (xq29, .inl (xcA32, 6, .inl (fun _ => 0))), (xq30, .inl (xcA33, 6, .inl (fun _ => 0))), (xq31, .inl (xcA34, 6, .inl (fun _ => 0))), (xq35, .inr (0, [.ref xq36, .ref xq37, .ref xq38, .int 0])), (xq36, .inl (xcA39, 6, .inl (fun _ => 0))), (xq37, .inl (xcA40, 6, .inl (fun _ => 0))), (xq38, .inl (xcA41, 6, .inl (fun _ => 0))), (xq42, .inr (1, [.int 0, .int 0])), (xq43, .inr (5, [.ref xq44, .ref xq45, .ref xq46, .ref xq47, .int 0, .ref xq48, .ref xq49, .int 0])), (xq44, .inl (xcA50, 36, .inr (.inl (fun _ => 0)))), (xq45, .inl (xcA51, 36, .inr (.inl (fun _ => 0)))), (xq46, .inl (xcA52, 42, .inr (.inl (fun _ => 0)))), (xq47, .inl (xcA53, 6, .inl (fun _ => 0))), (xq48, .inl (xcA54, 6, .inl (fun _ => 0))), (xq49, .inl (xcA55, 6, .inl (fun _ => 0))), (xq56, .inl (xcA57, 6, .inl (fun _ => 0)))] := hD
  have hK : va_K D mm_K [(xcA2, .object "PondRings$Sheet"), (xcA5, .int), (xcA8, .int), (xcA11, .int), (xcA14, .int), (xcA19, .long), (xcA20, .int), (xcA25, .int), (xcA26, .int), (xcA27, .int), (xcA32, .int), (xcA33, .int), (xcA34, .int), (xcA39, .int), (xcA40, .int), (xcA41, .int), (xcA50, .long), (xcA51, .long), (xcA52, .long), (xcA53, .int), (xcA54, .int), (xcA55, .int), (xcA57, .int)] s := hK
  refine lv_astore_n (lv' := [(1, .ref qx), (0, .ref b)]) hx hb dl_7 rfl hl (by decide) rfl (fun ls hl => ?_)
  refine va_new (ci := 7) (fs := [.int 0, .int 0, .null, .null, .null, .int 0, .int 0, .null, .null, .int 0, .int 0, .int 0, .null, .int 0, .null, .null, .null, .int 0, .int 0, .int 0, .int 0, .null, .null, .null, .null, .int 0, .null, .null]) (C := RX7) (T := TX7) (N := 28) hx hb htb mu_7 tyX7 tyX7_ok hown (htb _ ll_10) (htb _ wc_able_7) (htb _ wc_ini_7) hK hP hD hS hA rfl md_7 (Nat.le_of_ble_eq_true rfl) (Nat.le_of_ble_eq_true rfl) dl_8 (fun qm H hP hD hS => ?_)
  have hP : va_P D mm_K [(qx, .inr (6, [.ref xq1, .ref xq15, .ref xq16, .ref xq21, .ref xq28, .ref xq35, .ref xq42, .ref xq43, .ref xq56, .int (0 : Int32), .int (0 : Int32)])), (xq1, .inl (xcA2, 4, .inr (.inr (.inr (.inr (va_up (va_up (va_up (va_up (fun _ => none) 0 (some xq3)) 1 (some xq6)) 2 (some xq9)) 3 (some xq12))))))), (xq3, .inr (4, [.ref xq4, .int 0, .int 0, .int 0])), (xq4, .inl (xcA5, 60, .inl (fun _ => 0))), (xq6, .inr (4, [.ref xq7, .int 0, .int 0, .int 0])), (xq7, .inl (xcA8, 60, .inl (fun _ => 0))), (xq9, .inr (4, [.ref xq10, .int 0, .int 0, .int 0])), (xq10, .inl (xcA11, 60, .inl (fun _ => 0))), (xq12, .inr (4, [.ref xq13, .int 0, .int 0, .int 0])), (xq13, .inl (xcA14, 60, .inl (fun _ => 0))), (xq15, .inr (3, [.int 0, .int 0, .long 0])), (xq16, .inr (2, [.ref xq17, .ref xq18, .long 0, .long 0, .long 0, .int 0, .int 0, .long 0])), (xq17, .inl (xcA19, 1764, .inr (.inl (fun _ => 0)))), (xq18, .inl (xcA20, 42, .inl (fun _ => 0))), (xq21, .inr (0, [.ref xq22, .ref xq23, .ref xq24, .int 0])), (xq22, .inl (xcA25, 8, .inl (fun _ => 0))), (xq23, .inl (xcA26, 8, .inl (fun _ => 0))), (xq24, .inl (xcA27, 8, .inl (fun _ => 0))), (xq28, .inr (0, [.ref xq29, .ref xq30, .ref xq31, .int 0])), (xq29, .inl (xcA32, 6, .inl (fun _ => 0))), (xq30, .inl (xcA33, 6, .inl (fun _ => 0))), (xq31, .inl (xcA34, 6, .inl (fun _ => 0))), (xq35, .inr (0, [.ref xq36, .ref xq37, .ref xq38, .int 0])), (xq36, .inl (xcA39, 6, .inl (fun _ => 0))), (xq37, .inl (xcA40, 6, .inl (fun _ => 0))), (xq38, .inl (xcA41, 6, .inl (fun _ => 0))), (xq42, .inr (1, [.int 0, .int 0])), (xq43, .inr (5, [.ref xq44, .ref xq45, .ref xq46, .ref xq47, .int 0, .ref xq48, .ref xq49, .int 0])), (xq44, .inl (xcA50, 36, .inr (.inl (fun _ => 0)))), (xq45, .inl (xcA51, 36, .inr (.inl (fun _ => 0)))), (xq46, .inl (xcA52, 42, .inr (.inl (fun _ => 0)))), (xq47, .inl (xcA53, 6, .inl (fun _ => 0))), (xq48, .inl (xcA54, 6, .inl (fun _ => 0))), (xq49, .inl (xcA55, 6, .inl (fun _ => 0))), (xq56, .inl (xcA57, 6, .inl (fun _ => 0))), (qm, .inr (7, [.int 0, .int 0, .null, .null, .null, .int 0, .int 0, .null, .null, .int 0, .int 0, .int 0, .null, .int 0, .null, .null, .null, .int 0, .int 0, .int 0, .int 0, .null, .null, .null, .null, .int 0, .null, .null]))] H := hP
  have hD : va_D (fun q : Nat => s.heap.size ≤ q) [(qx, .inr (6, [.ref xq1, .ref xq15, .ref xq16, .ref xq21, .ref xq28, .ref xq35, .ref xq42, .ref xq43, .ref xq56, .int (0 : Int32), .int (0 : Int32)])), (xq1, .inl (xcA2, 4, .inr (.inr (.inr (.inr (va_up (va_up (va_up (va_up (fun _ => none) 0 (some xq3)) 1 (some xq6)) 2 (some xq9)) 3 (some xq12))))))), (xq3, .inr (4, [.ref xq4, .int 0, .int 0, .int 0])), (xq4, .inl (xcA5, 60, .inl (fun _ => 0))), (xq6, .inr (4, [.ref xq7, .int 0, .int 0, .int 0])), (xq7, .inl (xcA8, 60, .inl (fun _ => 0))), (xq9, .inr (4, [.ref xq10, .int 0, .int 0, .int 0])), (xq10, .inl (xcA11, 60, .inl (fun _ => 0))), (xq12, .inr (4, [.ref xq13, .int 0, .int 0, .int 0])), (xq13, .inl (xcA14, 60, .inl (fun _ => 0))), (xq15, .inr (3, [.int 0, .int 0, .long 0])), (xq16, .inr (2, [.ref xq17, .ref xq18, .long 0, .long 0, .long 0, .int 0, .int 0, .long 0])), (xq17, .inl (xcA19, 1764, .inr (.inl (fun _ => 0)))), (xq18, .inl (xcA20, 42, .inl (fun _ => 0))), (xq21, .inr (0, [.ref xq22, .ref xq23, .ref xq24, .int 0])), (xq22, .inl (xcA25, 8, .inl (fun _ => 0))), (xq23, .inl (xcA26, 8, .inl (fun _ => 0))), (xq24, .inl (xcA27, 8, .inl (fun _ => 0))), (xq28, .inr (0, [.ref xq29, .ref xq30, .ref xq31, .int 0])), (xq29, .inl (xcA32, 6, .inl (fun _ => 0))), (xq30, .inl (xcA33, 6, .inl (fun _ => 0))), (xq31, .inl (xcA34, 6, .inl (fun _ => 0))), (xq35, .inr (0, [.ref xq36, .ref xq37, .ref xq38, .int 0])), (xq36, .inl (xcA39, 6, .inl (fun _ => 0))), (xq37, .inl (xcA40, 6, .inl (fun _ => 0))), (xq38, .inl (xcA41, 6, .inl (fun _ => 0))), (xq42, .inr (1, [.int 0, .int 0])), (xq43, .inr (5, [.ref xq44, .ref xq45, .ref xq46, .ref xq47, .int 0, .ref xq48, .ref xq49, .int 0])), (xq44, .inl (xcA50, 36, .inr (.inl (fun _ => 0)))), (xq45, .inl (xcA51, 36, .inr (.inl (fun _ => 0)))), (xq46, .inl (xcA52, 42, .inr (.inl (fun _ => 0)))), (xq47, .inl (xcA53, 6, .inl (fun _ => 0))), (xq48, .inl (xcA54, 6, .inl (fun _ => 0))), (xq49, .inl (xcA55, 6, .inl (fun _ => 0))), (xq56, .inl (xcA57, 6, .inl (fun _ => 0))), (qm, .inr (7, [.int 0, .int 0, .null, .null, .null, .int 0, .int 0, .null, .null, .int 0, .int 0, .int 0, .null, .int 0, .null, .null, .null, .int 0, .int 0, .int 0, .int 0, .null, .null, .null, .null, .int 0, .null, .null]))] := hD
  refine lv_dup hx hb dl_11 rfl ?_
  have hPc := hP.sub (ws' := [(qm, .inr (7, [.int 0, .int 0, .null, .null, .null, .int 0, .int 0, .null, .null, .int 0, .int 0, .int 0, .null, .int 0, .null, .null, .null, .int 0, .int 0, .int 0, .int 0, .null, .null, .null, .null, .int 0, .null, .null]))]) [35] rfl
  have hDc := hD.sub (ws' := [(qm, .inr (7, [.int 0, .int 0, .null, .null, .null, .int 0, .int 0, .null, .null, .int 0, .int 0, .int 0, .null, .int 0, .null, .null, .null, .int 0, .int 0, .int 0, .int 0, .null, .null, .null, .null, .int 0, .null, .null]))]) [35] (by decide) rfl
  have hKc := hK.sub (tys' := []) [] rfl
  have hFc := va_free (wc := [(qm, .inr (7, [.int 0, .int 0, .null, .null, .null, .int 0, .int 0, .null, .null, .int 0, .int 0, .int 0, .null, .int 0, .null, .null, .null, .int 0, .int 0, .int 0, .int 0, .null, .null, .null, .null, .int 0, .null, .null]))]) hD hS hA [35] rfl
  refine va_callv (va_runI (As := []) (rest := [.ref qm]) ⟨hx, hb, hml, hown, htb⟩ (c_X7 l D qm H.size) (cwI 0 htb (wg wc_code_7) rfl rfl rfl (htb _ wc_ini_7) (htb _ lm_12) (htb _ wc_inst_7) rfl ⟨by decide +kernel, by decide +kernel, by decide +kernel⟩ ⟨Nat.le_of_ble_eq_true rfl, Nat.le_of_ble_eq_true rfl⟩) ⟨fun a U g mk q => by obtain ⟨q0, q1, qP, qK, qD⟩ := q; exact ⟨q0, q1, qP, va_K.moved (u := U) (U := U.calling g mk a) (Vm.Alike.refl U.vm) qK, qD⟩, fun U hU hW => ⟨rfl, by rw [hU], by rw [hU]; exact hPc, va_K.moved hW.alike hKc, hDc.weaken (fun _ _ _ _ => trivial)⟩⟩ rfl rfl hl.1 rfl (lv_room (Nat.le_of_ble_eq_true rfl)) dl_12 ⟨Nat.le_of_ble_eq_true rfl, Nat.le_of_ble_eq_true rfl⟩) hS (fun q _ h => hFc q h) hFc (fun u t H1 locs ht hvm hw hB hz1 hk1 hS => ?_)
  obtain ⟨mq1, mq3, mq5, mq7, mq9, mq11, mq13, mq15, mq17, mq19, mq21, mq23, mq25, mq27, mq29, mcA2, mcA4, mcA6, mcA8, mcA10, mcA12, mcA14, mcA16, mcA18, mcA20, mcA22, mcA24, mcA26, mcA28, mcA30, hP1, hK1, hD1⟩ := hB
  rw [ht] at hP1
  have hK1 := va_K.moved hvm.symm hK1
  obtain ⟨hP, hD⟩ := va_join (wr := [(qx, .inr (6, [.ref xq1, .ref xq15, .ref xq16, .ref xq21, .ref xq28, .ref xq35, .ref xq42, .ref xq43, .ref xq56, .int (0 : Int32), .int (0 : Int32)])), (xq1, .inl (xcA2, 4, .inr (.inr (.inr (.inr (va_up (va_up (va_up (va_up (fun _ => none) 0 (some xq3)) 1 (some xq6)) 2 (some xq9)) 3 (some xq12))))))), (xq3, .inr (4, [.ref xq4, .int 0, .int 0, .int 0])), (xq4, .inl (xcA5, 60, .inl (fun _ => 0))), (xq6, .inr (4, [.ref xq7, .int 0, .int 0, .int 0])), (xq7, .inl (xcA8, 60, .inl (fun _ => 0))), (xq9, .inr (4, [.ref xq10, .int 0, .int 0, .int 0])), (xq10, .inl (xcA11, 60, .inl (fun _ => 0))), (xq12, .inr (4, [.ref xq13, .int 0, .int 0, .int 0])), (xq13, .inl (xcA14, 60, .inl (fun _ => 0))), (xq15, .inr (3, [.int 0, .int 0, .long 0])), (xq16, .inr (2, [.ref xq17, .ref xq18, .long 0, .long 0, .long 0, .int 0, .int 0, .long 0])), (xq17, .inl (xcA19, 1764, .inr (.inl (fun _ => 0)))), (xq18, .inl (xcA20, 42, .inl (fun _ => 0))), (xq21, .inr (0, [.ref xq22, .ref xq23, .ref xq24, .int 0])), (xq22, .inl (xcA25, 8, .inl (fun _ => 0))), (xq23, .inl (xcA26, 8, .inl (fun _ => 0))), (xq24, .inl (xcA27, 8, .inl (fun _ => 0))), (xq28, .inr (0, [.ref xq29, .ref xq30, .ref xq31, .int 0])), (xq29, .inl (xcA32, 6, .inl (fun _ => 0))), (xq30, .inl (xcA33, 6, .inl (fun _ => 0))), (xq31, .inl (xcA34, 6, .inl (fun _ => 0))), (xq35, .inr (0, [.ref xq36, .ref xq37, .ref xq38, .int 0])), (xq36, .inl (xcA39, 6, .inl (fun _ => 0))), (xq37, .inl (xcA40, 6, .inl (fun _ => 0))), (xq38, .inl (xcA41, 6, .inl (fun _ => 0))), (xq42, .inr (1, [.int 0, .int 0])), (xq43, .inr (5, [.ref xq44, .ref xq45, .ref xq46, .ref xq47, .int 0, .ref xq48, .ref xq49, .int 0])), (xq44, .inl (xcA50, 36, .inr (.inl (fun _ => 0)))), (xq45, .inl (xcA51, 36, .inr (.inl (fun _ => 0)))), (xq46, .inl (xcA52, 42, .inr (.inl (fun _ => 0)))), (xq47, .inl (xcA53, 6, .inl (fun _ => 0))), (xq48, .inl (xcA54, 6, .inl (fun _ => 0))), (xq49, .inl (xcA55, 6, .inl (fun _ => 0))), (xq56, .inl (xcA57, 6, .inl (fun _ => 0)))]) (w1 := [(qm, .inr (7, [.int 0, .int 0, .ref mq1, .ref mq3, .ref mq5, .int 0, .int 0, .ref mq7, .ref mq9, .int 0, .int 0, .int 0, .ref mq11, .int 0, .ref mq13, .ref mq15, .ref mq17, .int 0, .int 0, .int 0, .int 0, .ref mq19, .ref mq21, .ref mq23, .ref mq25, .int 0, .ref mq27, .ref mq29])), (mq1, .inl (mcA2, 4, .inl (upd (upd (upd (upd (fun _ => 0) 0 (-9 : Int32)) 1 (-9 : Int32)) 2 (-9 : Int32)) 3 (-9 : Int32)))), (mq3, .inl (mcA4, 4, .inl (fun _ => 0))), (mq5, .inl (mcA6, 240, .inl (fun _ => 0))), (mq7, .inl (mcA8, 42, .inl (fun _ => 0))), (mq9, .inl (mcA10, 1764, .inl (fun _ => 0))), (mq11, .inl (mcA12, 42, .inl (fun _ => 0))), (mq13, .inl (mcA14, 8, .inl (fun _ => 0))), (mq15, .inl (mcA16, 8, .inl (fun _ => 0))), (mq17, .inl (mcA18, 8, .inl (fun _ => 0))), (mq19, .inl (mcA20, 6, .inl (fun _ => 0))), (mq21, .inl (mcA22, 6, .inl (fun _ => 0))), (mq23, .inl (mcA24, 3636, .inl (fun _ => 0))), (mq25, .inl (mcA26, 6, .inl (fun _ => 0))), (mq27, .inl (mcA28, 6, .inl (fun _ => 0))), (mq29, .inl (mcA30, 6, .inl (fun _ => 0)))]) hP hD [35] [0, 1, 2, 3, 4, 5, 6, 7, 8, 9, 10, 11, 12, 13, 14, 15, 16, 17, 18, 19, 20, 21, 22, 23, 24, 25, 26, 27, 28, 29, 30, 31, 32, 33, 34] rfl rfl (by decide) (by decide) hk1 hFc hP1 hD1
  have hK := (hK.sub (tys' := [(xcA2, .object "PondRings$Sheet"), (xcA5, .int), (xcA8, .int), (xcA11, .int), (xcA14, .int), (xcA19, .long), (xcA20, .int), (xcA25, .int), (xcA26, .int), (xcA27, .int), (xcA32, .int), (xcA33, .int), (xcA34, .int), (xcA39, .int), (xcA40, .int), (xcA41, .int), (xcA50, .long), (xcA51, .long), (xcA52, .long), (xcA53, .int), (xcA54, .int), (xcA55, .int), (xcA57, .int)]) [0, 1, 2, 3, 4, 5, 6, 7, 8, 9, 10, 11, 12, 13, 14, 15, 16, 17, 18, 19, 20, 21, 22] rfl).app hK1
  generalize H1 = H at hP hS ⊢
  have hP : va_P D mm_K [(qx, .inr (6, [.ref xq1, .ref xq15, .ref xq16, .ref xq21, .ref xq28, .ref xq35, .ref xq42, .ref xq43, .ref xq56, .int (0 : Int32), .int (0 : Int32)])), (xq1, .inl (xcA2, 4, .inr (.inr (.inr (.inr (va_up (va_up (va_up (va_up (fun _ => none) 0 (some xq3)) 1 (some xq6)) 2 (some xq9)) 3 (some xq12))))))), (xq3, .inr (4, [.ref xq4, .int 0, .int 0, .int 0])), (xq4, .inl (xcA5, 60, .inl (fun _ => 0))), (xq6, .inr (4, [.ref xq7, .int 0, .int 0, .int 0])), (xq7, .inl (xcA8, 60, .inl (fun _ => 0))), (xq9, .inr (4, [.ref xq10, .int 0, .int 0, .int 0])), (xq10, .inl (xcA11, 60, .inl (fun _ => 0))), (xq12, .inr (4, [.ref xq13, .int 0, .int 0, .int 0])), (xq13, .inl (xcA14, 60, .inl (fun _ => 0))), (xq15, .inr (3, [.int 0, .int 0, .long 0])), (xq16, .inr (2, [.ref xq17, .ref xq18, .long 0, .long 0, .long 0, .int 0, .int 0, .long 0])), (xq17, .inl (xcA19, 1764, .inr (.inl (fun _ => 0)))), (xq18, .inl (xcA20, 42, .inl (fun _ => 0))), (xq21, .inr (0, [.ref xq22, .ref xq23, .ref xq24, .int 0])), (xq22, .inl (xcA25, 8, .inl (fun _ => 0))), (xq23, .inl (xcA26, 8, .inl (fun _ => 0))), (xq24, .inl (xcA27, 8, .inl (fun _ => 0))), (xq28, .inr (0, [.ref xq29, .ref xq30, .ref xq31, .int 0])), (xq29, .inl (xcA32, 6, .inl (fun _ => 0))), (xq30, .inl (xcA33, 6, .inl (fun _ => 0))), (xq31, .inl (xcA34, 6, .inl (fun _ => 0))), (xq35, .inr (0, [.ref xq36, .ref xq37, .ref xq38, .int 0])), (xq36, .inl (xcA39, 6, .inl (fun _ => 0))), (xq37, .inl (xcA40, 6, .inl (fun _ => 0))), (xq38, .inl (xcA41, 6, .inl (fun _ => 0))), (xq42, .inr (1, [.int 0, .int 0])), (xq43, .inr (5, [.ref xq44, .ref xq45, .ref xq46, .ref xq47, .int 0, .ref xq48, .ref xq49, .int 0])), (xq44, .inl (xcA50, 36, .inr (.inl (fun _ => 0)))), (xq45, .inl (xcA51, 36, .inr (.inl (fun _ => 0)))), (xq46, .inl (xcA52, 42, .inr (.inl (fun _ => 0)))), (xq47, .inl (xcA53, 6, .inl (fun _ => 0))), (xq48, .inl (xcA54, 6, .inl (fun _ => 0))), (xq49, .inl (xcA55, 6, .inl (fun _ => 0))), (xq56, .inl (xcA57, 6, .inl (fun _ => 0))), (qm, .inr (7, [.int 0, .int 0, .ref mq1, .ref mq3, .ref mq5, .int 0, .int 0, .ref mq7, .ref mq9, .int 0, .int 0, .int 0, .ref mq11, .int 0, .ref mq13, .ref mq15, .ref mq17, .int 0, .int 0, .int 0, .int 0, .ref mq19, .ref mq21, .ref mq23, .ref mq25, .int 0, .ref mq27, .ref mq29])), (mq1, .inl (mcA2, 4, .inl (upd (upd (upd (upd (fun _ => 0) 0 (-9 : Int32)) 1 (-9 : Int32)) 2 (-9 : Int32)) 3 (-9 : Int32)))), (mq3, .inl (mcA4, 4, .inl (fun _ => 0))), (mq5, .inl (mcA6, 240, .inl (fun _ => 0))), (mq7, .inl (mcA8, 42, .inl (fun _ => 0))), (mq9, .inl (mcA10, 1764, .inl (fun _ => 0))), (mq11, .inl (mcA12, 42, .inl (fun _ => 0))), (mq13, .inl (mcA14, 8, .inl (fun _ => 0))), (mq15, .inl (mcA16, 8, .inl (fun _ => 0))), (mq17, .inl (mcA18, 8, .inl (fun _ => 0))), (mq19, .inl (mcA20, 6, .inl (fun _ => 0))), (mq21, .inl (mcA22, 6, .inl (fun _ => 0))), (mq23, .inl (mcA24, 3636, .inl (fun _ => 0))), (mq25, .inl (mcA26, 6, .inl (fun _ => 0))), (mq27, .inl (mcA28, 6, .inl (fun _ => 0))), (mq29, .inl (mcA30, 6, .inl (fun _ => 0)))] H := hP
  have hD : va_D (fun q : Nat => s.heap.size ≤ q) [(qx, .inr (6, [.ref xq1, .ref xq15, .ref xq16, .ref xq21, .ref xq28, .ref xq35, .ref xq42, .ref xq43, .ref xq56, .int (0 : Int32), .int (0 : Int32)])), (xq1, .inl (xcA2, 4, .inr (.inr (.inr (.inr (va_up (va_up (va_up (va_up (fun _ => none) 0 (some xq3)) 1 (some xq6)) 2 (some xq9)) 3 (some xq12))))))), (xq3, .inr (4, [.ref xq4, .int 0, .int 0, .int 0])), (xq4, .inl (xcA5, 60, .inl (fun _ => 0))), (xq6, .inr (4, [.ref xq7, .int 0, .int 0, .int 0])), (xq7, .inl (xcA8, 60, .inl (fun _ => 0))), (xq9, .inr (4, [.ref xq10, .int 0, .int 0, .int 0])), (xq10, .inl (xcA11, 60, .inl (fun _ => 0))), (xq12, .inr (4, [.ref xq13, .int 0, .int 0, .int 0])), (xq13, .inl (xcA14, 60, .inl (fun _ => 0))), (xq15, .inr (3, [.int 0, .int 0, .long 0])), (xq16, .inr (2, [.ref xq17, .ref xq18, .long 0, .long 0, .long 0, .int 0, .int 0, .long 0])), (xq17, .inl (xcA19, 1764, .inr (.inl (fun _ => 0)))), (xq18, .inl (xcA20, 42, .inl (fun _ => 0))), (xq21, .inr (0, [.ref xq22, .ref xq23, .ref xq24, .int 0])), (xq22, .inl (xcA25, 8, .inl (fun _ => 0))), (xq23, .inl (xcA26, 8, .inl (fun _ => 0))), (xq24, .inl (xcA27, 8, .inl (fun _ => 0))), (xq28, .inr (0, [.ref xq29, .ref xq30, .ref xq31, .int 0])), (xq29, .inl (xcA32, 6, .inl (fun _ => 0))), (xq30, .inl (xcA33, 6, .inl (fun _ => 0))), (xq31, .inl (xcA34, 6, .inl (fun _ => 0))), (xq35, .inr (0, [.ref xq36, .ref xq37, .ref xq38, .int 0])), (xq36, .inl (xcA39, 6, .inl (fun _ => 0))), (xq37, .inl (xcA40, 6, .inl (fun _ => 0))), (xq38, .inl (xcA41, 6, .inl (fun _ => 0))), (xq42, .inr (1, [.int 0, .int 0])), (xq43, .inr (5, [.ref xq44, .ref xq45, .ref xq46, .ref xq47, .int 0, .ref xq48, .ref xq49, .int 0])), (xq44, .inl (xcA50, 36, .inr (.inl (fun _ => 0)))), (xq45, .inl (xcA51, 36, .inr (.inl (fun _ => 0)))), (xq46, .inl (xcA52, 42, .inr (.inl (fun _ => 0)))), (xq47, .inl (xcA53, 6, .inl (fun _ => 0))), (xq48, .inl (xcA54, 6, .inl (fun _ => 0))), (xq49, .inl (xcA55, 6, .inl (fun _ => 0))), (xq56, .inl (xcA57, 6, .inl (fun _ => 0))), (qm, .inr (7, [.int 0, .int 0, .ref mq1, .ref mq3, .ref mq5, .int 0, .int 0, .ref mq7, .ref mq9, .int 0, .int 0, .int 0, .ref mq11, .int 0, .ref mq13, .ref mq15, .ref mq17, .int 0, .int 0, .int 0, .int 0, .ref mq19, .ref mq21, .ref mq23, .ref mq25, .int 0, .ref mq27, .ref mq29])), (mq1, .inl (mcA2, 4, .inl (upd (upd (upd (upd (fun _ => 0) 0 (-9 : Int32)) 1 (-9 : Int32)) 2 (-9 : Int32)) 3 (-9 : Int32)))), (mq3, .inl (mcA4, 4, .inl (fun _ => 0))), (mq5, .inl (mcA6, 240, .inl (fun _ => 0))), (mq7, .inl (mcA8, 42, .inl (fun _ => 0))), (mq9, .inl (mcA10, 1764, .inl (fun _ => 0))), (mq11, .inl (mcA12, 42, .inl (fun _ => 0))), (mq13, .inl (mcA14, 8, .inl (fun _ => 0))), (mq15, .inl (mcA16, 8, .inl (fun _ => 0))), (mq17, .inl (mcA18, 8, .inl (fun _ => 0))), (mq19, .inl (mcA20, 6, .inl (fun _ => 0))), (mq21, .inl (mcA22, 6, .inl (fun _ => 0))), (mq23, .inl (mcA24, 3636, .inl (fun _ => 0))), (mq25, .inl (mcA26, 6, .inl (fun _ => 0))), (mq27, .inl (mcA28, 6, .inl (fun _ => 0))), (mq29, .inl (mcA30, 6, .inl (fun _ => 0)))] := hD
  have hK : va_K D mm_K [(xcA2, .object "PondRings$Sheet"), (xcA5, .int), (xcA8, .int), (xcA11, .int), (xcA14, .int), (xcA19, .long), (xcA20, .int), (xcA25, .int), (xcA26, .int), (xcA27, .int), (xcA32, .int), (xcA33, .int), (xcA34, .int), (xcA39, .int), (xcA40, .int), (xcA41, .int), (xcA50, .long), (xcA51, .long), (xcA52, .long), (xcA53, .int), (xcA54, .int), (xcA55, .int), (xcA57, .int), (mcA2, .int), (mcA4, .int), (mcA6, .int), (mcA8, .boolean), (mcA10, .int), (mcA12, .boolean), (mcA14, .int), (mcA16, .int), (mcA18, .int), (mcA20, .int), (mcA22, .int), (mcA24, .boolean), (mcA26, .int), (mcA28, .int), (mcA30, .int)] s := hK
  refine lv_astore_n (lv' := [(2, .ref qm), (1, .ref qx), (0, .ref b)]) hx hb dl_15 rfl hl (by decide) rfl (fun ls hl => ?_)
  refine lv_iconst (v := 0) hx hb dl_16 (by decide) ?_
  refine lv_istore_n (lv' := [(3, .int 0), (2, .ref qm), (1, .ref qx), (0, .ref b)]) hx hb dl_17 rfl hl (by decide) rfl (fun ls hl => ?_)
  have hP := hP.sub (ws' := [(qx, .inr (6, [.ref xq1, .ref xq15, .ref xq16, .ref xq21, .ref xq28, .ref xq35, .ref xq42, .ref xq43, .ref xq56, .int (0 : Int32), .int (0 : Int32)])), (xq1, .inl (xcA2, 4, .inr (.inr (.inr (.inr (va_up (va_up (va_up (va_up (fun _ => none) 0 (some xq3)) 1 (some xq6)) 2 (some xq9)) 3 (some xq12))))))), (xq3, .inr (4, [.ref xq4, .int 0, .int 0, .int 0])), (xq6, .inr (4, [.ref xq7, .int 0, .int 0, .int 0])), (xq9, .inr (4, [.ref xq10, .int 0, .int 0, .int 0])), (xq12, .inr (4, [.ref xq13, .int 0, .int 0, .int 0])), (xq4, .inl (xcA5, 60, .inl (fun _ => 0))), (xq7, .inl (xcA8, 60, .inl (fun _ => 0))), (xq10, .inl (xcA11, 60, .inl (fun _ => 0))), (xq13, .inl (xcA14, 60, .inl (fun _ => 0))), (xq15, .inr (3, [.int 0, .int 0, .long 0])), (xq16, .inr (2, [.ref xq17, .ref xq18, .long 0, .long 0, .long 0, .int 0, .int 0, .long 0])), (xq17, .inl (xcA19, 1764, .inr (.inl (fun _ => 0)))), (xq18, .inl (xcA20, 42, .inl (fun _ => 0))), (xq21, .inr (0, [.ref xq22, .ref xq23, .ref xq24, .int 0])), (xq22, .inl (xcA25, 8, .inl (fun _ => 0))), (xq23, .inl (xcA26, 8, .inl (fun _ => 0))), (xq24, .inl (xcA27, 8, .inl (fun _ => 0))), (xq28, .inr (0, [.ref xq29, .ref xq30, .ref xq31, .int 0])), (xq29, .inl (xcA32, 6, .inl (fun _ => 0))), (xq30, .inl (xcA33, 6, .inl (fun _ => 0))), (xq31, .inl (xcA34, 6, .inl (fun _ => 0))), (xq35, .inr (0, [.ref xq36, .ref xq37, .ref xq38, .int 0])), (xq36, .inl (xcA39, 6, .inl (fun _ => 0))), (xq37, .inl (xcA40, 6, .inl (fun _ => 0))), (xq38, .inl (xcA41, 6, .inl (fun _ => 0))), (xq42, .inr (1, [.int 0, .int 0])), (xq43, .inr (5, [.ref xq44, .ref xq45, .ref xq46, .ref xq47, .int 0, .ref xq48, .ref xq49, .int 0])), (xq44, .inl (xcA50, 36, .inr (.inl (fun _ => 0)))), (xq45, .inl (xcA51, 36, .inr (.inl (fun _ => 0)))), (xq46, .inl (xcA52, 42, .inr (.inl (fun _ => 0)))), (xq47, .inl (xcA53, 6, .inl (fun _ => 0))), (xq48, .inl (xcA54, 6, .inl (fun _ => 0))), (xq49, .inl (xcA55, 6, .inl (fun _ => 0))), (xq56, .inl (xcA57, 6, .inl (fun _ => 0))), (qm, .inr (7, [.int 0, .int 0, .ref mq1, .ref mq3, .ref mq5, .int 0, .int 0, .ref mq7, .ref mq9, .int 0, .int 0, .int 0, .ref mq11, .int 0, .ref mq13, .ref mq15, .ref mq17, .int 0, .int 0, .int 0, .int 0, .ref mq19, .ref mq21, .ref mq23, .ref mq25, .int 0, .ref mq27, .ref mq29])), (mq1, .inl (mcA2, 4, .inl (upd (upd (upd (upd (fun _ => 0) 0 (-9 : Int32)) 1 (-9 : Int32)) 2 (-9 : Int32)) 3 (-9 : Int32)))), (mq3, .inl (mcA4, 4, .inl (fun _ => 0))), (mq5, .inl (mcA6, 240, .inl (fun _ => 0))), (mq7, .inl (mcA8, 42, .inl (fun _ => 0))), (mq9, .inl (mcA10, 1764, .inl (fun _ => 0))), (mq11, .inl (mcA12, 42, .inl (fun _ => 0))), (mq13, .inl (mcA14, 8, .inl (fun _ => 0))), (mq15, .inl (mcA16, 8, .inl (fun _ => 0))), (mq17, .inl (mcA18, 8, .inl (fun _ => 0))), (mq19, .inl (mcA20, 6, .inl (fun _ => 0))), (mq21, .inl (mcA22, 6, .inl (fun _ => 0))), (mq23, .inl (mcA24, 3636, .inl (fun _ => 0))), (mq25, .inl (mcA26, 6, .inl (fun _ => 0))), (mq27, .inl (mcA28, 6, .inl (fun _ => 0))), (mq29, .inl (mcA30, 6, .inl (fun _ => 0)))]) [0, 1, 2, 4, 6, 8, 3, 5, 7, 9, 10, 11, 12, 13, 14, 15, 16, 17, 18, 19, 20, 21, 22, 23, 24, 25, 26, 27, 28, 29, 30, 31, 32, 33, 34, 35, 36, 37, 38, 39, 40, 41, 42, 43, 44, 45, 46, 47, 48, 49, 50] rfl
  have hD := hD.sub (ws' := [(qx, .inr (6, [.ref xq1, .ref xq15, .ref xq16, .ref xq21, .ref xq28, .ref xq35, .ref xq42, .ref xq43, .ref xq56, .int (0 : Int32), .int (0 : Int32)])), (xq1, .inl (xcA2, 4, .inr (.inr (.inr (.inr (va_up (va_up (va_up (va_up (fun _ => none) 0 (some xq3)) 1 (some xq6)) 2 (some xq9)) 3 (some xq12))))))), (xq3, .inr (4, [.ref xq4, .int 0, .int 0, .int 0])), (xq6, .inr (4, [.ref xq7, .int 0, .int 0, .int 0])), (xq9, .inr (4, [.ref xq10, .int 0, .int 0, .int 0])), (xq12, .inr (4, [.ref xq13, .int 0, .int 0, .int 0])), (xq4, .inl (xcA5, 60, .inl (fun _ => 0))), (xq7, .inl (xcA8, 60, .inl (fun _ => 0))), (xq10, .inl (xcA11, 60, .inl (fun _ => 0))), (xq13, .inl (xcA14, 60, .inl (fun _ => 0))), (xq15, .inr (3, [.int 0, .int 0, .long 0])), (xq16, .inr (2, [.ref xq17, .ref xq18, .long 0, .long 0, .long 0, .int 0, .int 0, .long 0])), (xq17, .inl (xcA19, 1764, .inr (.inl (fun _ => 0)))), (xq18, .inl (xcA20, 42, .inl (fun _ => 0))), (xq21, .inr (0, [.ref xq22, .ref xq23, .ref xq24, .int 0])), (xq22, .inl (xcA25, 8, .inl (fun _ => 0))), (xq23, .inl (xcA26, 8, .inl (fun _ => 0))), (xq24, .inl (xcA27, 8, .inl (fun _ => 0))), (xq28, .inr (0, [.ref xq29, .ref xq30, .ref xq31, .int 0])), (xq29, .inl (xcA32, 6, .inl (fun _ => 0))), (xq30, .inl (xcA33, 6, .inl (fun _ => 0))), (xq31, .inl (xcA34, 6, .inl (fun _ => 0))), (xq35, .inr (0, [.ref xq36, .ref xq37, .ref xq38, .int 0])), (xq36, .inl (xcA39, 6, .inl (fun _ => 0))), (xq37, .inl (xcA40, 6, .inl (fun _ => 0))), (xq38, .inl (xcA41, 6, .inl (fun _ => 0))), (xq42, .inr (1, [.int 0, .int 0])), (xq43, .inr (5, [.ref xq44, .ref xq45, .ref xq46, .ref xq47, .int 0, .ref xq48, .ref xq49, .int 0])), (xq44, .inl (xcA50, 36, .inr (.inl (fun _ => 0)))), (xq45, .inl (xcA51, 36, .inr (.inl (fun _ => 0)))), (xq46, .inl (xcA52, 42, .inr (.inl (fun _ => 0)))), (xq47, .inl (xcA53, 6, .inl (fun _ => 0))), (xq48, .inl (xcA54, 6, .inl (fun _ => 0))), (xq49, .inl (xcA55, 6, .inl (fun _ => 0))), (xq56, .inl (xcA57, 6, .inl (fun _ => 0))), (qm, .inr (7, [.int 0, .int 0, .ref mq1, .ref mq3, .ref mq5, .int 0, .int 0, .ref mq7, .ref mq9, .int 0, .int 0, .int 0, .ref mq11, .int 0, .ref mq13, .ref mq15, .ref mq17, .int 0, .int 0, .int 0, .int 0, .ref mq19, .ref mq21, .ref mq23, .ref mq25, .int 0, .ref mq27, .ref mq29])), (mq1, .inl (mcA2, 4, .inl (upd (upd (upd (upd (fun _ => 0) 0 (-9 : Int32)) 1 (-9 : Int32)) 2 (-9 : Int32)) 3 (-9 : Int32)))), (mq3, .inl (mcA4, 4, .inl (fun _ => 0))), (mq5, .inl (mcA6, 240, .inl (fun _ => 0))), (mq7, .inl (mcA8, 42, .inl (fun _ => 0))), (mq9, .inl (mcA10, 1764, .inl (fun _ => 0))), (mq11, .inl (mcA12, 42, .inl (fun _ => 0))), (mq13, .inl (mcA14, 8, .inl (fun _ => 0))), (mq15, .inl (mcA16, 8, .inl (fun _ => 0))), (mq17, .inl (mcA18, 8, .inl (fun _ => 0))), (mq19, .inl (mcA20, 6, .inl (fun _ => 0))), (mq21, .inl (mcA22, 6, .inl (fun _ => 0))), (mq23, .inl (mcA24, 3636, .inl (fun _ => 0))), (mq25, .inl (mcA26, 6, .inl (fun _ => 0))), (mq27, .inl (mcA28, 6, .inl (fun _ => 0))), (mq29, .inl (mcA30, 6, .inl (fun _ => 0)))]) [0, 1, 2, 4, 6, 8, 3, 5, 7, 9, 10, 11, 12, 13, 14, 15, 16, 17, 18, 19, 20, 21, 22, 23, 24, 25, 26, 27, 28, 29, 30, 31, 32, 33, 34, 35, 36, 37, 38, 39, 40, 41, 42, 43, 44, 45, 46, 47, 48, 49, 50] (by decide) rfl
  obtain ⟨ad, had⟩ : ∃ ad : Nat → Nat, ad = fun k => match k with | 0 => tr | 1 => b | 2 => qx | 3 => xq1 | 4 => xq3 | 5 => xq6 | 6 => xq9 | 7 => xq12 | 8 => xq4 | 9 => xq7 | 10 => xq10 | 11 => xq13 | 12 => xq15 | 13 => xq16 | 14 => xq17 | 15 => xq18 | 16 => xq21 | 17 => xq22 | 18 => xq23 | 19 => xq24 | 20 => xq28 | 21 => xq29 | 22 => xq30 | 23 => xq31 | 24 => xq35 | 25 => xq36 | 26 => xq37 | 27 => xq38 | 28 => xq42 | 29 => xq43 | 30 => xq44 | 31 => xq45 | 32 => xq46 | 33 => xq47 | 34 => xq48 | 35 => xq49 | 36 => xq56 | 37 => qm | 38 => mq1 | 39 => mq3 | 40 => mq5 | 41 => mq7 | 42 => mq9 | 43 => mq11 | 44 => mq13 | 45 => mq15 | 46 => mq17 | 47 => mq19 | 48 => mq21 | 49 => mq23 | 50 => mq25 | 51 => mq27 | 52 => mq29 | _ => 0 := ⟨_, rfl⟩
  obtain ⟨ca, hca⟩ : ∃ ca : Nat → ClassId, ca = fun k => match k with | 3 => xcA2 | 8 => xcA5 | 9 => xcA8 | 10 => xcA11 | 11 => xcA14 | 14 => xcA19 | 15 => xcA20 | 17 => xcA25 | 18 => xcA26 | 19 => xcA27 | 21 => xcA32 | 22 => xcA33 | 23 => xcA34 | 25 => xcA39 | 26 => xcA40 | 27 => xcA41 | 30 => xcA50 | 31 => xcA51 | 32 => xcA52 | 33 => xcA53 | 34 => xcA54 | 35 => xcA55 | 36 => xcA57 | 38 => mcA2 | 39 => mcA4 | 40 => mcA6 | 41 => mcA8 | 42 => mcA10 | 43 => mcA12 | 44 => mcA14 | 45 => mcA16 | 46 => mcA18 | 47 => mcA20 | 48 => mcA22 | 49 => mcA24 | 50 => mcA26 | 51 => mcA28 | 52 => mcA30 | _ => xcA2 := ⟨_, rfl⟩
  have hsh : (fun j : Nat => (mm_she j).map ad) = (va_up (va_up (va_up (va_up (fun _ => none) 0 (some xq3)) 1 (some xq6)) 2 (some xq9)) 3 (some xq12)) := by
    funext j
    subst had
    unfold mm_she va_up
    (repeat' split) <;> rfl
  have a0 : ad 0 = tr := by subst had; rfl
  have a1 : ad 1 = b := by subst had; rfl
  have a2 : ad 2 = qx := by subst had; rfl
  have a3 : ad 3 = xq1 := by subst had; rfl
  have a4 : ad 4 = xq3 := by subst had; rfl
  have a5 : ad 5 = xq6 := by subst had; rfl
  have a6 : ad 6 = xq9 := by subst had; rfl
  have a7 : ad 7 = xq12 := by subst had; rfl
  have a8 : ad 8 = xq4 := by subst had; rfl
  have a9 : ad 9 = xq7 := by subst had; rfl
  have a10 : ad 10 = xq10 := by subst had; rfl
  have a11 : ad 11 = xq13 := by subst had; rfl
  have a12 : ad 12 = xq15 := by subst had; rfl
  have a13 : ad 13 = xq16 := by subst had; rfl
  have a14 : ad 14 = xq17 := by subst had; rfl
  have a15 : ad 15 = xq18 := by subst had; rfl
  have a16 : ad 16 = xq21 := by subst had; rfl
  have a17 : ad 17 = xq22 := by subst had; rfl
  have a18 : ad 18 = xq23 := by subst had; rfl
  have a19 : ad 19 = xq24 := by subst had; rfl
  have a20 : ad 20 = xq28 := by subst had; rfl
  have a21 : ad 21 = xq29 := by subst had; rfl
  have a22 : ad 22 = xq30 := by subst had; rfl
  have a23 : ad 23 = xq31 := by subst had; rfl
  have a24 : ad 24 = xq35 := by subst had; rfl
  have a25 : ad 25 = xq36 := by subst had; rfl
  have a26 : ad 26 = xq37 := by subst had; rfl
  have a27 : ad 27 = xq38 := by subst had; rfl
  have a28 : ad 28 = xq42 := by subst had; rfl
  have a29 : ad 29 = xq43 := by subst had; rfl
  have a30 : ad 30 = xq44 := by subst had; rfl
  have a31 : ad 31 = xq45 := by subst had; rfl
  have a32 : ad 32 = xq46 := by subst had; rfl
  have a33 : ad 33 = xq47 := by subst had; rfl
  have a34 : ad 34 = xq48 := by subst had; rfl
  have a35 : ad 35 = xq49 := by subst had; rfl
  have a36 : ad 36 = xq56 := by subst had; rfl
  have a37 : ad 37 = qm := by subst had; rfl
  have a38 : ad 38 = mq1 := by subst had; rfl
  have a39 : ad 39 = mq3 := by subst had; rfl
  have a40 : ad 40 = mq5 := by subst had; rfl
  have a41 : ad 41 = mq7 := by subst had; rfl
  have a42 : ad 42 = mq9 := by subst had; rfl
  have a43 : ad 43 = mq11 := by subst had; rfl
  have a44 : ad 44 = mq13 := by subst had; rfl
  have a45 : ad 45 = mq15 := by subst had; rfl
  have a46 : ad 46 = mq17 := by subst had; rfl
  have a47 : ad 47 = mq19 := by subst had; rfl
  have a48 : ad 48 = mq21 := by subst had; rfl
  have a49 : ad 49 = mq23 := by subst had; rfl
  have a50 : ad 50 = mq25 := by subst had; rfl
  have a51 : ad 51 = mq27 := by subst had; rfl
  have a52 : ad 52 = mq29 := by subst had; rfl
  have b3 : ca 3 = xcA2 := by subst hca; rfl
  have b8 : ca 8 = xcA5 := by subst hca; rfl
  have b9 : ca 9 = xcA8 := by subst hca; rfl
  have b10 : ca 10 = xcA11 := by subst hca; rfl
  have b11 : ca 11 = xcA14 := by subst hca; rfl
  have b14 : ca 14 = xcA19 := by subst hca; rfl
  have b15 : ca 15 = xcA20 := by subst hca; rfl
  have b17 : ca 17 = xcA25 := by subst hca; rfl
  have b18 : ca 18 = xcA26 := by subst hca; rfl
  have b19 : ca 19 = xcA27 := by subst hca; rfl
  have b21 : ca 21 = xcA32 := by subst hca; rfl
  have b22 : ca 22 = xcA33 := by subst hca; rfl
  have b23 : ca 23 = xcA34 := by subst hca; rfl
  have b25 : ca 25 = xcA39 := by subst hca; rfl
  have b26 : ca 26 = xcA40 := by subst hca; rfl
  have b27 : ca 27 = xcA41 := by subst hca; rfl
  have b30 : ca 30 = xcA50 := by subst hca; rfl
  have b31 : ca 31 = xcA51 := by subst hca; rfl
  have b32 : ca 32 = xcA52 := by subst hca; rfl
  have b33 : ca 33 = xcA53 := by subst hca; rfl
  have b34 : ca 34 = xcA54 := by subst hca; rfl
  have b35 : ca 35 = xcA55 := by subst hca; rfl
  have b36 : ca 36 = xcA57 := by subst hca; rfl
  have b38 : ca 38 = mcA2 := by subst hca; rfl
  have b39 : ca 39 = mcA4 := by subst hca; rfl
  have b40 : ca 40 = mcA6 := by subst hca; rfl
  have b41 : ca 41 = mcA8 := by subst hca; rfl
  have b42 : ca 42 = mcA10 := by subst hca; rfl
  have b43 : ca 43 = mcA12 := by subst hca; rfl
  have b44 : ca 44 = mcA14 := by subst hca; rfl
  have b45 : ca 45 = mcA16 := by subst hca; rfl
  have b46 : ca 46 = mcA18 := by subst hca; rfl
  have b47 : ca 47 = mcA20 := by subst hca; rfl
  have b48 : ca 48 = mcA22 := by subst hca; rfl
  have b49 : ca 49 = mcA24 := by subst hca; rfl
  have b50 : ca 50 = mcA26 := by subst hca; rfl
  have b51 : ca 51 = mcA28 := by subst hca; rfl
  have b52 : ca 52 = mcA30 := by subst hca; rfl
  have hw : mm_w ad ca (HH (L, xs) s0) = [(qx, .inr (6, [.ref xq1, .ref xq15, .ref xq16, .ref xq21, .ref xq28, .ref xq35, .ref xq42, .ref xq43, .ref xq56, .int (0 : Int32), .int (0 : Int32)])), (xq1, .inl (xcA2, 4, .inr (.inr (.inr (.inr (va_up (va_up (va_up (va_up (fun _ => none) 0 (some xq3)) 1 (some xq6)) 2 (some xq9)) 3 (some xq12))))))), (xq3, .inr (4, [.ref xq4, .int 0, .int 0, .int 0])), (xq6, .inr (4, [.ref xq7, .int 0, .int 0, .int 0])), (xq9, .inr (4, [.ref xq10, .int 0, .int 0, .int 0])), (xq12, .inr (4, [.ref xq13, .int 0, .int 0, .int 0])), (xq4, .inl (xcA5, 60, .inl (fun _ => 0))), (xq7, .inl (xcA8, 60, .inl (fun _ => 0))), (xq10, .inl (xcA11, 60, .inl (fun _ => 0))), (xq13, .inl (xcA14, 60, .inl (fun _ => 0))), (xq15, .inr (3, [.int 0, .int 0, .long 0])), (xq16, .inr (2, [.ref xq17, .ref xq18, .long 0, .long 0, .long 0, .int 0, .int 0, .long 0])), (xq17, .inl (xcA19, 1764, .inr (.inl (fun _ => 0)))), (xq18, .inl (xcA20, 42, .inl (fun _ => 0))), (xq21, .inr (0, [.ref xq22, .ref xq23, .ref xq24, .int 0])), (xq22, .inl (xcA25, 8, .inl (fun _ => 0))), (xq23, .inl (xcA26, 8, .inl (fun _ => 0))), (xq24, .inl (xcA27, 8, .inl (fun _ => 0))), (xq28, .inr (0, [.ref xq29, .ref xq30, .ref xq31, .int 0])), (xq29, .inl (xcA32, 6, .inl (fun _ => 0))), (xq30, .inl (xcA33, 6, .inl (fun _ => 0))), (xq31, .inl (xcA34, 6, .inl (fun _ => 0))), (xq35, .inr (0, [.ref xq36, .ref xq37, .ref xq38, .int 0])), (xq36, .inl (xcA39, 6, .inl (fun _ => 0))), (xq37, .inl (xcA40, 6, .inl (fun _ => 0))), (xq38, .inl (xcA41, 6, .inl (fun _ => 0))), (xq42, .inr (1, [.int 0, .int 0])), (xq43, .inr (5, [.ref xq44, .ref xq45, .ref xq46, .ref xq47, .int 0, .ref xq48, .ref xq49, .int 0])), (xq44, .inl (xcA50, 36, .inr (.inl (fun _ => 0)))), (xq45, .inl (xcA51, 36, .inr (.inl (fun _ => 0)))), (xq46, .inl (xcA52, 42, .inr (.inl (fun _ => 0)))), (xq47, .inl (xcA53, 6, .inl (fun _ => 0))), (xq48, .inl (xcA54, 6, .inl (fun _ => 0))), (xq49, .inl (xcA55, 6, .inl (fun _ => 0))), (xq56, .inl (xcA57, 6, .inl (fun _ => 0))), (qm, .inr (7, [.int 0, .int 0, .ref mq1, .ref mq3, .ref mq5, .int 0, .int 0, .ref mq7, .ref mq9, .int 0, .int 0, .int 0, .ref mq11, .int 0, .ref mq13, .ref mq15, .ref mq17, .int 0, .int 0, .int 0, .int 0, .ref mq19, .ref mq21, .ref mq23, .ref mq25, .int 0, .ref mq27, .ref mq29])), (mq1, .inl (mcA2, 4, .inl (upd (upd (upd (upd (fun _ => 0) 0 (-9 : Int32)) 1 (-9 : Int32)) 2 (-9 : Int32)) 3 (-9 : Int32)))), (mq3, .inl (mcA4, 4, .inl (fun _ => 0))), (mq5, .inl (mcA6, 240, .inl (fun _ => 0))), (mq7, .inl (mcA8, 42, .inl (fun _ => 0))), (mq9, .inl (mcA10, 1764, .inl (fun _ => 0))), (mq11, .inl (mcA12, 42, .inl (fun _ => 0))), (mq13, .inl (mcA14, 8, .inl (fun _ => 0))), (mq15, .inl (mcA16, 8, .inl (fun _ => 0))), (mq17, .inl (mcA18, 8, .inl (fun _ => 0))), (mq19, .inl (mcA20, 6, .inl (fun _ => 0))), (mq21, .inl (mcA22, 6, .inl (fun _ => 0))), (mq23, .inl (mcA24, 3636, .inl (fun _ => 0))), (mq25, .inl (mcA26, 6, .inl (fun _ => 0))), (mq27, .inl (mcA28, 6, .inl (fun _ => 0))), (mq29, .inl (mcA30, 6, .inl (fun _ => 0)))] := by
    rw [mm_w_s0, hsh, a2, a3, a4, a5, a6, a7, a8, a9, a10, a11, a12, a13, a14, a15, a16, a17, a18, a19, a20, a21, a22, a23, a24, a25, a26, a27, a28, a29, a30, a31, a32, a33, a34, a35, a36, a37, a38, a39, a40, a41, a42, a43, a44, a45, a46, a47, a48, a49, a50, a51, a52, b3, b8, b9, b10, b11, b14, b15, b17, b18, b19, b21, b22, b23, b25, b26, b27, b30, b31, b32, b33, b34, b35, b36, b38, b39, b40, b41, b42, b43, b44, b45, b46, b47, b48, b49, b50, b51, b52]
  rw [← hw] at hP hD
  have hT : mm_T [(xcA2, .object "PondRings$Sheet"), (xcA5, .int), (xcA8, .int), (xcA11, .int), (xcA14, .int), (xcA19, .long), (xcA20, .int), (xcA25, .int), (xcA26, .int), (xcA27, .int), (xcA32, .int), (xcA33, .int), (xcA34, .int), (xcA39, .int), (xcA40, .int), (xcA41, .int), (xcA50, .long), (xcA51, .long), (xcA52, .long), (xcA53, .int), (xcA54, .int), (xcA55, .int), (xcA57, .int), (mcA2, .int), (mcA4, .int), (mcA6, .int), (mcA8, .boolean), (mcA10, .int), (mcA12, .boolean), (mcA14, .int), (mcA16, .int), (mcA18, .int), (mcA20, .int), (mcA22, .int), (mcA24, .boolean), (mcA26, .int), (mcA28, .int), (mcA30, .int)] ca (HH (L, xs) s0) := by
    intro q t a hq e9
    subst hca
    match q, hq, e9 with
    | 2, _, e9 => cases e9
    | 3, _, e9 => cases e9; exact ⟨0, rfl⟩
    | 4, _, e9 => cases e9
    | 5, _, e9 => cases e9
    | 6, _, e9 => cases e9
    | 7, _, e9 => cases e9
    | 8, _, e9 => cases e9; exact ⟨1, rfl⟩
    | 9, _, e9 => cases e9; exact ⟨2, rfl⟩
    | 10, _, e9 => cases e9; exact ⟨3, rfl⟩
    | 11, _, e9 => cases e9; exact ⟨4, rfl⟩
    | 12, _, e9 => cases e9
    | 13, _, e9 => cases e9
    | 14, _, e9 => cases e9; exact ⟨5, rfl⟩
    | 15, _, e9 => cases e9; exact ⟨6, rfl⟩
    | 16, _, e9 => cases e9
    | 17, _, e9 => cases e9; exact ⟨7, rfl⟩
    | 18, _, e9 => cases e9; exact ⟨8, rfl⟩
    | 19, _, e9 => cases e9; exact ⟨9, rfl⟩
    | 20, _, e9 => cases e9
    | 21, _, e9 => cases e9; exact ⟨10, rfl⟩
    | 22, _, e9 => cases e9; exact ⟨11, rfl⟩
    | 23, _, e9 => cases e9; exact ⟨12, rfl⟩
    | 24, _, e9 => cases e9
    | 25, _, e9 => cases e9; exact ⟨13, rfl⟩
    | 26, _, e9 => cases e9; exact ⟨14, rfl⟩
    | 27, _, e9 => cases e9; exact ⟨15, rfl⟩
    | 28, _, e9 => cases e9
    | 29, _, e9 => cases e9
    | 30, _, e9 => cases e9; exact ⟨16, rfl⟩
    | 31, _, e9 => cases e9; exact ⟨17, rfl⟩
    | 32, _, e9 => cases e9; exact ⟨18, rfl⟩
    | 33, _, e9 => cases e9; exact ⟨19, rfl⟩
    | 34, _, e9 => cases e9; exact ⟨20, rfl⟩
    | 35, _, e9 => cases e9; exact ⟨21, rfl⟩
    | 36, _, e9 => cases e9; exact ⟨22, rfl⟩
    | 37, _, e9 => cases e9
    | 38, _, e9 => cases e9; exact ⟨23, rfl⟩
    | 39, _, e9 => cases e9; exact ⟨24, rfl⟩
    | 40, _, e9 => cases e9; exact ⟨25, rfl⟩
    | 41, _, e9 => cases e9; exact ⟨26, rfl⟩
    | 42, _, e9 => cases e9; exact ⟨27, rfl⟩
    | 43, _, e9 => cases e9; exact ⟨28, rfl⟩
    | 44, _, e9 => cases e9; exact ⟨29, rfl⟩
    | 45, _, e9 => cases e9; exact ⟨30, rfl⟩
    | 46, _, e9 => cases e9; exact ⟨31, rfl⟩
    | 47, _, e9 => cases e9; exact ⟨32, rfl⟩
    | 48, _, e9 => cases e9; exact ⟨33, rfl⟩
    | 49, _, e9 => cases e9; exact ⟨34, rfl⟩
    | 50, _, e9 => cases e9; exact ⟨35, rfl⟩
    | 51, _, e9 => cases e9; exact ⟨36, rfl⟩
    | 52, _, e9 => cases e9; exact ⟨37, rfl⟩
    | 0, hq, _ => omega
    | 1, hq, _ => omega
    | q + 53, _, e9 => cases e9
  have hZr2 : va_Z "PondRings" "REACH" "[I" (.ref (ad 0)) (fun q : Nat => s.heap.size ≤ q) s s.heap := by rw [a0]; exact hZr
  have hTr2 : va_T .int (ad 0) 3 (fun j => .int (mm_reach j)) (fun q : Nat => s.heap.size ≤ q) s s.heap := by rw [a0]; exact hTr
  have hX2 : va_X (ad 1) L xs s s.heap := by rw [a1]; exact hX
  have hbA2 : ¬ (fun q : Nat => s.heap.size ≤ q) (ad 1) := by rw [a1]; exact hbA
  have hl2 : lv_has ls 4 [(3, .int 0), (2, .ref (ad 37)), (1, .ref (ad 2)), (0, .ref (ad 1))] := by rw [a37, a2, a1]; exact hl
  exact whole_loop hruns hL C0 (D, ad, ca, [(xcA2, .object "PondRings$Sheet"), (xcA5, .int), (xcA8, .int), (xcA11, .int), (xcA14, .int), (xcA19, .long), (xcA20, .int), (xcA25, .int), (xcA26, .int), (xcA27, .int), (xcA32, .int), (xcA33, .int), (xcA34, .int), (xcA39, .int), (xcA40, .int), (xcA41, .int), (xcA50, .long), (xcA51, .long), (xcA52, .long), (xcA53, .int), (xcA54, .int), (xcA55, .int), (xcA57, .int), (mcA2, .int), (mcA4, .int), (mcA6, .int), (mcA8, .boolean), (mcA10, .int), (mcA12, .boolean), (mcA14, .int), (mcA16, .int), (mcA18, .int), (mcA20, .int), (mcA22, .int), (mcA24, .boolean), (mcA26, .int), (mcA28, .int), (mcA30, .int)], (fun q : Nat => s.heap.size ≤ q), L, xs) rfl rfl rfl hx hb hr hml hown htb hlocks ⟨hK, hZr2, hTr2, hX2, hbA2, hn7, hn8, hn9⟩ ⟨hP, hD, hT, ⟨rfl, rfl⟩⟩ hS hl2 (Nat.le_of_ble_eq_true rfl) (Nat.le_of_ble_eq_true rfl)
