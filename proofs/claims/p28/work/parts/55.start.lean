theorem strs_in : ∀ q ∈ strs, Cond.stringRef RX0 q.1 q.2 ∈ lw_tbl := by decide +kernel
abbrev lA (s : State) : Nat → Prop := fun q9 => s.heap.size ≤ q9
set_option maxHeartbeats 16000000 in
set_option maxRecDepth 100000 in
/-- the law from its entry -/
theorem whole_start {p : Program} {e : Env} {s : State} {m : MethodId} {below : List Frame} {meth : Method} {c : Code} (l : Launch) (hflags : l.flags = flags0) {b L : Nat} {xs : Nat → Int32} (hL : L ≤ 260) (C0 : lw_At p s m meth c b L xs) : W p l e room_1 s m #[Value.ref b] below meth c s.heap [] 0 0 (lw_Z below #[Value.ref b] s) (entryFrame m ([Value.ref b] : List Value).toArray 14) := by
  obtain ⟨hx, hb, hr, hml, hown, hts0, hX, hbl, hlocks, hgv⟩ := id C0
  have hts : ∀ w ∈ wsL_law, w.before #[Value.ref b] s = true := fun w h => hts0 w (wsL_law_in w h)
  have hst : l.stackTraces = false := by
    unfold Launch.stackTraces
    rw [hflags]
    decide +kernel
  have hgs := flat_of_before _ hgv
  have hA : ∀ q9 : Nat, s.heap.size ≤ q9 → lA s q9 := fun _ h => h
  have hbA : ¬ lA s b := Nat.not_le.mpr hbl
  have hnA : ∀ a : Nat, a < s.heap.size → ¬ lA s a := fun a h => Nat.not_le.mpr h
  obtain ⟨c0, iS0, hKn0⟩ := u_known (C := RX0) (T := TX0) (N := 18) (n := 18) hts0 wsX00_in (hts0 (.instantiable RX0 18) (by decide +kernel))
  obtain ⟨D, hKc⟩ : ∃ D : va_G, ∀ (k : Nat) (q : vw_C), vwCl[k]? = some q → u_Kn s q.1 q.2.1 q.2.2 (D.1 k) (D.2 k) := by
    refine ⟨(fun k => c0, fun k => iS0), ?_⟩
    intro k q hq
    match k, hq with
    | 0, hq => cases hq; exact hKn0
    | k + 1, hq => simp [vwCl] at hq
  obtain ⟨cI, hI1, hI2⟩ := arr_word (ty := .int) (hts0 (.arrayClass .int) (by decide +kernel)) (Or.inl rfl)
  obtain ⟨cZ, hZ1, hZ2⟩ := arr_word (ty := .boolean) (hts0 (.arrayClass .boolean) (by decide +kernel)) (Or.inr (Or.inl rfl))
  obtain ⟨cJ, hJ1, hJ2⟩ := arr_word (ty := .long) (hts0 (.arrayClass .long) (by decide +kernel)) (Or.inr (Or.inr rfl))
  have hK : va_K D vwCl (ty3 cI cZ cJ) s := ⟨hKc, fun k q h => by
    match k, h with
    | 0, h => cases h; exact ⟨hI1, hI2⟩
    | 1, h => cases h; exact ⟨hZ1, hZ2⟩
    | 2, h => cases h; exact ⟨hJ1, hJ2⟩
    | k + 3, h => simp [ty3] at h⟩
  have hZ : zz (lA s) s s.heap := ⟨vx_Zqof (hts0 (.laysStatic Bundle.tN "UNASSIGNED_STACK" Bundle.steD) (by decide +kernel)) (hts0 (.initialized Bundle.tN) (by decide +kernel)) (hgs (.isRef (.static Bundle.tN "UNASSIGNED_STACK" Bundle.steD)) (by decide +kernel)) hnA, vx_Zqof (hts0 (.laysStatic Bundle.tN "SUPPRESSED_SENTINEL" Bundle.listD) (by decide +kernel)) (hts0 (.initialized Bundle.tN) (by decide +kernel)) (hgs (.isRef (.static Bundle.tN "SUPPRESSED_SENTINEL" Bundle.listD)) (by decide +kernel)) hnA⟩
  have hsx : ∀ q ∈ strs, (Cond.exactly (.string RX0 q.1) "java/lang/String").before #[Value.ref b] s = true := by
    intro q hq
    refine hgs _ ?_
    revert q
    decide +kernel
  have tb : ∀ w : Cond, w.onTables = true → w ∈ lw_tbl → va_Nw w s := fun w h1 h2 => va_tabs (A := #[Value.ref b]) (u := s) h1 rfl (hts0 w h2)
  have hg : gg s := ⟨fun q hq => by
    obtain ⟨a, -, -, -, ha, -⟩ := Cond.exactly_spec (hsx q hq)
    exact ⟨a, vk_R.of (A := #[Value.ref b]) (hts0 _ (strs_in q hq)) ha⟩, tb _ rfl (by decide +kernel), tb _ rfl (by decide +kernel), tb _ rfl (by decide +kernel), tb _ rfl (by decide +kernel), tb _ rfl (by decide +kernel), tb _ rfl (by decide +kernel), trivial⟩
  have hS : va_S (lA s) s.heap s.heap [] := va_S.rf
  have hP : va_P D vwCl [] s.heap := fun k q h => by simp at h
  have hD : va_D (lA s) [] := ⟨fun i j p q h => by simp at h, fun k q h => by simp at h⟩
  have hl := lv_entry ([.ref b]) (n := 14) (Nat.le_of_ble_eq_true rfl)
  rw [lg_entry_eq]
  generalize (lg_sl ([.ref b]) ++ List.replicate (14 - (lg_sl ([.ref b])).length) Slot.unset).toArray = ls at hl ⊢
  have hl : lv_has ls 14 [(0, .ref b)] := hl
  refine va_new (ci := 0) (fs := [.int 0, .null, .null, .null, .null, .null, .null, .int 0, .null, .null, .int 0, .int 0, .null, .int 0, .int 0, .null, .null, .null]) (C := RX0) (T := TX0) (N := 18) hx hb hts0 wsX00_in tyX0 tyX0_ok hown (hts (.classLink RL 20 RX0) (by decide +kernel)) (hts0 (.instantiable RX0 18) (by decide +kernel)) (hts (.initialized RX0) (by decide +kernel)) hK hP hD hS hA rfl (fun j hj => by rcases (show j = 0 ∨ j = 1 ∨ j = 2 ∨ j = 3 ∨ j = 4 ∨ j = 5 ∨ j = 6 ∨ j = 7 ∨ j = 8 ∨ j = 9 ∨ j = 10 ∨ j = 11 ∨ j = 12 ∨ j = 13 ∨ j = 14 ∨ j = 15 ∨ j = 16 ∨ j = 17 by omega) with rfl | rfl | rfl | rfl | rfl | rfl | rfl | rfl | rfl | rfl | rfl | rfl | rfl | rfl | rfl | rfl | rfl | rfl <;> rfl) (Nat.le_of_ble_eq_true rfl) (Nat.le_of_ble_eq_true rfl) dL_law_0 (fun h0 H hP hD hS => ?_)
  have hP : va_P D vwCl [(h0, .inr (0, [.int 0, .null, .null, .null, .null, .null, .null, .int 0, .null, .null, .int 0, .int 0, .null, .int 0, .int 0, .null, .null, .null]))] H := hP
  have hD : va_D (lA s) [(h0, .inr (0, [.int 0, .null, .null, .null, .null, .null, .null, .int 0, .null, .null, .int 0, .int 0, .null, .int 0, .int 0, .null, .null, .null]))] := hD
  refine lv_dup hx hb dL_law_3 rfl ?_
  refine k_v (mc := 12) (ms := 2099) (va_runI (As := []) (rest := [.ref h0]) ⟨hx, hb, hml, hown, hts⟩ (c_X0_init l D h0 cI cZ cJ H.size) (cwI 0 hts gL_law_X0_init rfl rfl rfl (hts (.initialized RX0) (by decide +kernel)) (hts (.methodLink RL 42 yX0_init) (by decide +kernel)) (hts (.instanceMethod yX0_init) (by decide +kernel)) rfl (by decide +kernel) ⟨(Nat.le_of_ble_eq_true rfl), (Nat.le_of_ble_eq_true rfl)⟩) (pre_S (As := [.ref h0]) hP hK hD hS hA hZ hg) rfl rfl hl.1 rfl (lv_room (Nat.le_of_ble_eq_true rfl)) dL_law_4 ⟨(Nat.le_of_ble_eq_true rfl), (Nat.le_of_ble_eq_true rfl)⟩) hD hS hA (fun q H locs hu hP1 hD1 hS1 => ?_)
  subst hu
  refine W_absQ (fun Q hQ => ?_)
  have hP : va_P D vwCl (wX q cI cZ cJ 0 (fun _ => 0) (fun _ => 0) (fun _ => 0) (fun _ => 0) (fun _ => 0) (fun _ => 0) 0 (fun _ => 0) (fun _ => 0) 1000 0 (fun _ => 0) 4294967295 0 (rL (fun _ => 0)) (fun _ => 0) (fun _ => 0)) H := hP1
  have hD : va_D (lA s) (wX q cI cZ cJ 0 (fun _ => 0) (fun _ => 0) (fun _ => 0) (fun _ => 0) (fun _ => 0) (fun _ => 0) 0 (fun _ => 0) (fun _ => 0) 1000 0 (fun _ => 0) 4294967295 0 (rL (fun _ => 0)) (fun _ => 0) (fun _ => 0)) := hD1
  have hS := hS1
  refine lv_astore_n (lv' := [(1, .ref (q 0)), (0, .ref b)]) hx hb dL_law_7 rfl hl (by decide) rfl (fun ls hl => ?_)
  refine lv_bipush (v := nI 8) hx hb dL_law_8 (by decide) ?_
  refine n_newI (N := 8) hx hb (hts (.arrayClass .int) (by decide +kernel)) hK hP hD hS hA (by decide) (by decide) (by first | exact Nat.le_of_ble_eq_true rfl | (show _ ≤ (_ : Nat); dsimp only [room_1]; omega)) (by first | exact Nat.le_of_ble_eq_true rfl | (show _ ≤ (_ : Nat); dsimp only [room_1]; omega)) dL_law_10 (fun a5 H hP hD hS => ?_)
  have hP : va_P D vwCl ((wX q cI cZ cJ 0 (fun _ => 0) (fun _ => 0) (fun _ => 0) (fun _ => 0) (fun _ => 0) (fun _ => 0) 0 (fun _ => 0) (fun _ => 0) 1000 0 (fun _ => 0) 4294967295 0 (rL (fun _ => 0)) (fun _ => 0) (fun _ => 0)) ++ [(a5, .inl (cI, 8, .inl (rI (fun _ => 0))))]) H := hP
  have hD : va_D (lA s) ((wX q cI cZ cJ 0 (fun _ => 0) (fun _ => 0) (fun _ => 0) (fun _ => 0) (fun _ => 0) (fun _ => 0) 0 (fun _ => 0) (fun _ => 0) 1000 0 (fun _ => 0) 4294967295 0 (rL (fun _ => 0)) (fun _ => 0) (fun _ => 0)) ++ [(a5, .inl (cI, 8, .inl (rI (fun _ => 0))))]) := hD
  refine lv_astore_n (lv' := [(2, .ref a5), (1, .ref (q 0)), (0, .ref b)]) hx hb dL_law_12 rfl hl (by decide) rfl (fun ls hl => ?_)
  refine lv_bipush (v := nI 8) hx hb dL_law_13 (by decide) ?_
  refine n_newI (N := 8) hx hb (hts (.arrayClass .int) (by decide +kernel)) hK hP hD hS hA (by decide) (by decide) (by first | exact Nat.le_of_ble_eq_true rfl | (show _ ≤ (_ : Nat); dsimp only [room_1]; omega)) (by first | exact Nat.le_of_ble_eq_true rfl | (show _ ≤ (_ : Nat); dsimp only [room_1]; omega)) dL_law_15 (fun a6 H hP hD hS => ?_)
  have hP : va_P D vwCl ((wX q cI cZ cJ 0 (fun _ => 0) (fun _ => 0) (fun _ => 0) (fun _ => 0) (fun _ => 0) (fun _ => 0) 0 (fun _ => 0) (fun _ => 0) 1000 0 (fun _ => 0) 4294967295 0 (rL (fun _ => 0)) (fun _ => 0) (fun _ => 0)) ++ [(a5, .inl (cI, 8, .inl (rI (fun _ => 0)))), (a6, .inl (cI, 8, .inl (rI (fun _ => 0))))]) H := hP
  have hD : va_D (lA s) ((wX q cI cZ cJ 0 (fun _ => 0) (fun _ => 0) (fun _ => 0) (fun _ => 0) (fun _ => 0) (fun _ => 0) 0 (fun _ => 0) (fun _ => 0) 1000 0 (fun _ => 0) 4294967295 0 (rL (fun _ => 0)) (fun _ => 0) (fun _ => 0)) ++ [(a5, .inl (cI, 8, .inl (rI (fun _ => 0)))), (a6, .inl (cI, 8, .inl (rI (fun _ => 0))))]) := hD
  refine lv_astore_n (lv' := [(3, .ref a6), (2, .ref a5), (1, .ref (q 0)), (0, .ref b)]) hx hb dL_law_17 rfl hl (by decide) rfl (fun ls hl => ?_)
  refine lv_aload_n hx hb dL_law_18 rfl (lv_at hl 2 rfl) ?_
  refine lv_aload_n hx hb dL_law_19 rfl (lv_at hl 3 rfl) ?_
  refine lv_iconst (v := nI 0) hx hb dL_law_20 (ic_0) ?_
  refine lv_bipush (v := nI 6) hx hb dL_law_21 (by decide) ?_
  refine lv_bipush (v := nI 9) hx hb dL_law_23 (by decide) ?_
  refine lv_aload_n hx hb dL_law_25 rfl (lv_at hl 1 rfl) ?_
  refine lv_aload_n hx hb dL_law_26 rfl (lv_at hl 0 rfl) ?_
  refine lv_bipush (v := nI 8) hx hb dL_law_27 (by decide) ?_
  refine n_newI (N := 8) hx hb (hts (.arrayClass .int) (by decide +kernel)) hK hP hD hS hA (by decide) (by decide) (by first | exact Nat.le_of_ble_eq_true rfl | (show _ ≤ (_ : Nat); dsimp only [room_1]; omega)) (by first | exact Nat.le_of_ble_eq_true rfl | (show _ ≤ (_ : Nat); dsimp only [room_1]; omega)) dL_law_29 (fun a7 H hP hD hS => ?_)
  have hP : va_P D vwCl ((wX q cI cZ cJ 0 (fun _ => 0) (fun _ => 0) (fun _ => 0) (fun _ => 0) (fun _ => 0) (fun _ => 0) 0 (fun _ => 0) (fun _ => 0) 1000 0 (fun _ => 0) 4294967295 0 (rL (fun _ => 0)) (fun _ => 0) (fun _ => 0)) ++ [(a5, .inl (cI, 8, .inl (rI (fun _ => 0)))), (a6, .inl (cI, 8, .inl (rI (fun _ => 0)))), (a7, .inl (cI, 8, .inl (rI (fun _ => 0))))]) H := hP
  have hD : va_D (lA s) ((wX q cI cZ cJ 0 (fun _ => 0) (fun _ => 0) (fun _ => 0) (fun _ => 0) (fun _ => 0) (fun _ => 0) 0 (fun _ => 0) (fun _ => 0) 1000 0 (fun _ => 0) 4294967295 0 (rL (fun _ => 0)) (fun _ => 0) (fun _ => 0)) ++ [(a5, .inl (cI, 8, .inl (rI (fun _ => 0)))), (a6, .inl (cI, 8, .inl (rI (fun _ => 0)))), (a7, .inl (cI, 8, .inl (rI (fun _ => 0))))]) := hD
  have hP : va_P D vwCl ([] ++ (((wX q cI cZ cJ 0 (fun _ => 0) (fun _ => 0) (fun _ => 0) (fun _ => 0) (fun _ => 0) (fun _ => 0) 0 (fun _ => 0) (fun _ => 0) 1000 0 (fun _ => 0) 4294967295 0 (rL (fun _ => 0)) (fun _ => 0) (fun _ => 0)) ++ [(a5, .inl (cI, 8, .inl (rI (fun _ => 0)))), (a6, .inl (cI, 8, .inl (rI (fun _ => 0)))), (a7, .inl (cI, 8, .inl (rI (fun _ => 0))))]) ++ [])) H := by rw [List.append_nil]; exact hP
  have hD : va_D (lA s) ([] ++ (((wX q cI cZ cJ 0 (fun _ => 0) (fun _ => 0) (fun _ => 0) (fun _ => 0) (fun _ => 0) (fun _ => 0) 0 (fun _ => 0) (fun _ => 0) 1000 0 (fun _ => 0) 4294967295 0 (rL (fun _ => 0)) (fun _ => 0) (fun _ => 0)) ++ [(a5, .inl (cI, 8, .inl (rI (fun _ => 0)))), (a6, .inl (cI, 8, .inl (rI (fun _ => 0)))), (a7, .inl (cI, 8, .inl (rI (fun _ => 0))))]) ++ [])) := by rw [List.append_nil]; exact hD
  refine k3_i (mc := 19) (ms := 124) (wa := []) (wc := ((wX q cI cZ cJ 0 (fun _ => 0) (fun _ => 0) (fun _ => 0) (fun _ => 0) (fun _ => 0) (fun _ => 0) 0 (fun _ => 0) (fun _ => 0) 1000 0 (fun _ => 0) 4294967295 0 (rL (fun _ => 0)) (fun _ => 0) (fun _ => 0)) ++ [(a5, .inl (cI, 8, .inl (rI (fun _ => 0)))), (a6, .inl (cI, 8, .inl (rI (fun _ => 0)))), (a7, .inl (cI, 8, .inl (rI (fun _ => 0))))])) (wb := []) (va_runS (As := [.ref (q 0), .ref b, .int (nI 0), .int (nI 6), .int (nI 9), .ref a5, .ref a6, .ref a7]) (rest := []) ⟨hx, hb, hml, hown, hts⟩ (c_L_build l hst D q cI cZ cJ 0 (fun _ => 0) (fun _ => 0) (fun _ => 0) (fun _ => 0) (fun _ => 0) (fun _ => 0) 0 (fun _ => 0) (fun _ => 0) 1000 0 (fun _ => 0) 4294967295 0 (rL (fun _ => 0)) (fun _ => 0) (fun _ => 0) H.size b L xs a5 a6 a7 (fun _ => 0) (rL (fun _ => 0)) hL (fun _ => rfl) (fun _ _ => rfl)) (va_cwS 8 hts gL_law_L_build rfl rfl rfl hd_L_build.2 ⟨(by first | exact Nat.le_of_ble_eq_true rfl | (show _ ≤ (_ : Nat); dsimp only [room_1]; omega)), (by first | exact Nat.le_of_ble_eq_true rfl | (show _ ≤ (_ : Nat); dsimp only [room_1]; omega))⟩) (pre_SS (wa := []) (wc := ((wX q cI cZ cJ 0 (fun _ => 0) (fun _ => 0) (fun _ => 0) (fun _ => 0) (fun _ => 0) (fun _ => 0) 0 (fun _ => 0) (fun _ => 0) 1000 0 (fun _ => 0) 4294967295 0 (rL (fun _ => 0)) (fun _ => 0) (fun _ => 0)) ++ [(a5, .inl (cI, 8, .inl (rI (fun _ => 0)))), (a6, .inl (cI, 8, .inl (rI (fun _ => 0)))), (a7, .inl (cI, 8, .inl (rI (fun _ => 0))))])) (wb := []) hP hK hD hS hA hZ hg hX hbl hbA) rfl rfl hl.1 rfl (lv_room (Nat.le_of_ble_eq_true rfl)) dL_law_31 ⟨(by first | exact Nat.le_of_ble_eq_true rfl | (show _ ≤ (_ : Nat); dsimp only [room_1]; omega)), (by first | exact Nat.le_of_ble_eq_true rfl | (show _ ≤ (_ : Nat); dsimp only [room_1]; omega))⟩) hP hD hS hA (fun r_2 u_1 H locs hp_3 hP hD hS => ?_)
  obtain ⟨k, V, C, T, A, CT, TT⟩ := u_1
  have hp_3a : r_2 = nI k ∧ (1 ≤ k ∧ k ≤ 6) ∧ (∀ i, i < k → 1 ≤ V i ∧ V i ≤ 500) ∧ (∀ i, i < k → C i ≤ 60 ∧ T i ≤ C i) ∧ (∀ i j, i < k → j < k → V i = V j → i = j) ∧ (∀ i, i < k → A i = 1) ∧ (∀ j, j ≠ 4 → CT j = (rL (fun _ => 0)) j) := hp_3
  clear hp_3
  obtain ⟨hp_3_r, hp_3⟩ := hp_3a
  subst hp_3_r
  have hP : va_P D vwCl ((wX q cI cZ cJ k V C T (fun _ => 0) (fun _ => 0) A 0 (fun _ => 0) (fun _ => 0) 1000 0 (fun _ => 0) 4294967295 0 CT (fun _ => 0) (fun _ => 0)) ++ [(a5, .inl (cI, 8, .inl (rI V))), (a6, .inl (cI, 8, .inl (rI C))), (a7, .inl (cI, 8, .inl (rI TT)))]) H := hP
  have hD : va_D (lA s) ((wX q cI cZ cJ k V C T (fun _ => 0) (fun _ => 0) A 0 (fun _ => 0) (fun _ => 0) 1000 0 (fun _ => 0) 4294967295 0 CT (fun _ => 0) (fun _ => 0)) ++ [(a5, .inl (cI, 8, .inl (rI V))), (a6, .inl (cI, 8, .inl (rI C))), (a7, .inl (cI, 8, .inl (rI TT)))]) := hD
  obtain ⟨⟨hk1, hk6⟩, hV, hC, hVd, hAe, hCT0⟩ := hp_3
  have hCT : ∀ j, j ≠ 4 → CT j = lZ 0 := hCT0
  have hk8 : k ≤ 8 := by omega
  refine lv_istore (lv' := [(4, .int (nI k)), (3, .ref a6), (2, .ref a5), (1, .ref (q 0)), (0, .ref b)]) hx hb dL_law_34 hl (by decide) rfl (fun ls hl => ?_)
  refine lv_iload hx hb dL_law_36 (lv_at hl 0 rfl) ?_
  refine n_if_ge (tgt := 43) hx hb (by omega) dL_law_38 (by decide) ?_
  refine lv_iconst (v := nI 0) hx hb dL_law_43 (ic_0) ?_
  refine lv_istore (lv' := [(5, .int (nI 0)), (4, .int (nI k)), (3, .ref a6), (2, .ref a5), (1, .ref (q 0)), (0, .ref b)]) hx hb dL_law_44 hl (by decide) rfl (fun ls hl => ?_)
  have lp_46 : ∀ (fu_46 : Nat) (tm : Nat) (T : Nat → Nat) (CT : Nat → Int64) (SC : Nat → Int), 6 - tm < fu_46 → (tm ≤ 6) → (∀ i, i < k → C i ≤ 60 ∧ T i ≤ C i) → (∀ j, j ≠ 4 → CT j = lZ 0) → ∀ (H : Heap) (locs : List Loc), va_P D vwCl ((wX q cI cZ cJ k V C T (fun _ => 0) (fun _ => 0) A 0 (fun _ => 0) (fun _ => 0) 1000 0 (fun _ => 0) 4294967295 0 CT SC (fun _ => 0)) ++ [(a5, .inl (cI, 8, .inl (rI V))), (a6, .inl (cI, 8, .inl (rI C))), (a7, .inl (cI, 8, .inl (rI TT)))]) H → va_D (lA s) ((wX q cI cZ cJ k V C T (fun _ => 0) (fun _ => 0) A 0 (fun _ => 0) (fun _ => 0) 1000 0 (fun _ => 0) 4294967295 0 CT SC (fun _ => 0)) ++ [(a5, .inl (cI, 8, .inl (rI V))), (a6, .inl (cI, 8, .inl (rI C))), (a7, .inl (cI, 8, .inl (rI TT)))]) → va_S (lA s) s.heap H locs → ∀ ls : Array Slot, lv_has ls 14 [(5, .int (nI tm)), (4, .int (nI k)), (3, .ref a6), (2, .ref a5), (1, .ref (q 0)), (0, .ref b)] → W p l e room_1 s m #[Value.ref b] below meth c H locs (40 + 80 * tm) (3000 + 500 * tm) Q (F0 m 46 ls []) := by
    intro fu_46
    induction fu_46 with
    | zero =>
      intro tm T CT SC hfu_46
      exact absurd hfu_46 (Nat.not_lt_zero _)
    | succ fu_46 ih_46 =>
      intro tm T CT SC hfu_46 htm hC hCT H locs hP hD hS ls hl
      refine lv_iload hx hb dL_law_46 (lv_at hl 0 rfl) ?_
      refine lv_bipush (v := nI 6) hx hb dL_law_48 (by decide) ?_
      refine n_icmp_ge (tgt := 371) hx hb (by omega) (by omega) dL_law_50 (by decide) (fun c50 => ?_) (fun c50 => ?_)
      · refine lv_iconst (v := nI 1) hx hb dL_law_371 (ic_1) ?_
        refine lv_aload_n hx hb dL_law_372 rfl (lv_at hl 5 rfl) ?_
        refine lv_bipush (v := nI 11) hx hb dL_law_373 (by decide) ?_
        refine k3_i (mc := 0) (ms := 0) (wa := []) (wc := (wX q cI cZ cJ k V C T (fun _ => 0) (fun _ => 0) A 0 (fun _ => 0) (fun _ => 0) 1000 0 (fun _ => 0) 4294967295 0 CT SC (fun _ => 0))) (wb := [(a5, .inl (cI, 8, .inl (rI V))), (a6, .inl (cI, 8, .inl (rI C))), (a7, .inl (cI, 8, .inl (rI TT)))]) (va_runS (As := [.ref b, .int (nI 11)]) (rest := [.int (nI 1)]) ⟨hx, hb, hml, hown, hts⟩ (c_L_cell l hst D q cI cZ cJ k V C T (fun _ => 0) (fun _ => 0) A 0 (fun _ => 0) (fun _ => 0) 1000 0 (fun _ => 0) 4294967295 0 CT SC (fun _ => 0) H.size b L xs 11 (by omega) hL) (va_cwS 2 hts gL_law_L_cell rfl rfl rfl hd_L_cell.2 ⟨(by first | exact Nat.le_of_ble_eq_true rfl | (show _ ≤ (_ : Nat); dsimp only [room_1]; omega)), (by first | exact Nat.le_of_ble_eq_true rfl | (show _ ≤ (_ : Nat); dsimp only [room_1]; omega))⟩) (pre_SS (wa := []) (wc := (wX q cI cZ cJ k V C T (fun _ => 0) (fun _ => 0) A 0 (fun _ => 0) (fun _ => 0) 1000 0 (fun _ => 0) 4294967295 0 CT SC (fun _ => 0))) (wb := [(a5, .inl (cI, 8, .inl (rI V))), (a6, .inl (cI, 8, .inl (rI C))), (a7, .inl (cI, 8, .inl (rI TT)))]) hP hK hD hS hA hZ hg hX hbl hbA) rfl rfl hl.1 rfl (lv_room (Nat.le_of_ble_eq_true rfl)) dL_law_375 ⟨(by first | exact Nat.le_of_ble_eq_true rfl | (show _ ≤ (_ : Nat); dsimp only [room_1]; omega)), (by first | exact Nat.le_of_ble_eq_true rfl | (show _ ≤ (_ : Nat); dsimp only [room_1]; omega))⟩) hP hD hS hA (fun r_4 x5 H locs hp_5 hP hD hS => ?_)
        have hP : va_P D vwCl ((wX q cI cZ cJ k V C T (fun _ => 0) (fun _ => 0) A 0 (fun _ => 0) (fun _ => 0) 1000 0 (fun _ => 0) 4294967295 0 CT SC (fun _ => 0)) ++ [(a5, .inl (cI, 8, .inl (rI V))), (a6, .inl (cI, 8, .inl (rI C))), (a7, .inl (cI, 8, .inl (rI TT)))]) H := hP
        have hD : va_D (lA s) ((wX q cI cZ cJ k V C T (fun _ => 0) (fun _ => 0) A 0 (fun _ => 0) (fun _ => 0) 1000 0 (fun _ => 0) 4294967295 0 CT SC (fun _ => 0)) ++ [(a5, .inl (cI, 8, .inl (rI V))), (a6, .inl (cI, 8, .inl (rI C))), (a7, .inl (cI, 8, .inl (rI TT)))]) := hD
        have hp_5 := hp_5.symm
        subst hp_5
        refine lv_sipush (v := nI 200) hx hb dL_law_378 (by decide) ?_
        refine k3_i (mc := 0) (ms := 0) (wa := []) (wc := (wX q cI cZ cJ k V C T (fun _ => 0) (fun _ => 0) A 0 (fun _ => 0) (fun _ => 0) 1000 0 (fun _ => 0) 4294967295 0 CT SC (fun _ => 0))) (wb := [(a5, .inl (cI, 8, .inl (rI V))), (a6, .inl (cI, 8, .inl (rI C))), (a7, .inl (cI, 8, .inl (rI TT)))]) (va_runS (As := [.int x5, .int (nI 200)]) (rest := [.int (nI 1)]) ⟨hx, hb, hml, hown, hts⟩ (c_L_below l hst D q cI cZ cJ k V C T (fun _ => 0) (fun _ => 0) A 0 (fun _ => 0) (fun _ => 0) 1000 0 (fun _ => 0) 4294967295 0 CT SC (fun _ => 0) H.size x5 200 (⟨by omega, by omega⟩)) (va_cwS 2 hts gL_law_L_below rfl rfl rfl hd_L_below.2 ⟨(by first | exact Nat.le_of_ble_eq_true rfl | (show _ ≤ (_ : Nat); dsimp only [room_1]; omega)), (by first | exact Nat.le_of_ble_eq_true rfl | (show _ ≤ (_ : Nat); dsimp only [room_1]; omega))⟩) (pre_S (j_pm (wa := []) (wc := (wX q cI cZ cJ k V C T (fun _ => 0) (fun _ => 0) A 0 (fun _ => 0) (fun _ => 0) 1000 0 (fun _ => 0) 4294967295 0 CT SC (fun _ => 0))) (wb := [(a5, .inl (cI, 8, .inl (rI V))), (a6, .inl (cI, 8, .inl (rI C))), (a7, .inl (cI, 8, .inl (rI TT)))]) hP) hK (j_mid (wa := []) (wc := (wX q cI cZ cJ k V C T (fun _ => 0) (fun _ => 0) A 0 (fun _ => 0) (fun _ => 0) 1000 0 (fun _ => 0) 4294967295 0 CT SC (fun _ => 0))) (wb := [(a5, .inl (cI, 8, .inl (rI V))), (a6, .inl (cI, 8, .inl (rI C))), (a7, .inl (cI, 8, .inl (rI TT)))]) hD) hS hA hZ hg) rfl rfl hl.1 rfl (lv_room (Nat.le_of_ble_eq_true rfl)) dL_law_381 ⟨(by first | exact Nat.le_of_ble_eq_true rfl | (show _ ≤ (_ : Nat); dsimp only [room_1]; omega)), (by first | exact Nat.le_of_ble_eq_true rfl | (show _ ≤ (_ : Nat); dsimp only [room_1]; omega))⟩) hP hD hS hA (fun r_6 pr0 H locs hp_7 hP hD hS => ?_)
        have hP : va_P D vwCl ((wX q cI cZ cJ k V C T (fun _ => 0) (fun _ => 0) A 0 (fun _ => 0) (fun _ => 0) 1000 0 (fun _ => 0) 4294967295 0 CT SC (fun _ => 0)) ++ [(a5, .inl (cI, 8, .inl (rI V))), (a6, .inl (cI, 8, .inl (rI C))), (a7, .inl (cI, 8, .inl (rI TT)))]) H := hP
        have hD : va_D (lA s) ((wX q cI cZ cJ k V C T (fun _ => 0) (fun _ => 0) A 0 (fun _ => 0) (fun _ => 0) 1000 0 (fun _ => 0) 4294967295 0 CT SC (fun _ => 0)) ++ [(a5, .inl (cI, 8, .inl (rI V))), (a6, .inl (cI, 8, .inl (rI C))), (a7, .inl (cI, 8, .inl (rI TT)))]) := hD
        obtain ⟨rfl, hp_7⟩ := hp_7
        have hpr0 : pr0 < 200 := hp_7
        obtain ⟨pr, hpr⟩ : ∃ t : Nat, t = 1 + pr0 := ⟨_, rfl⟩
        refine n_iadd hx hb dL_law_384 ?_
        refine n_top (congrArg nI (show 1 + pr0 = pr from hpr.symm)) ?_
        refine lv_istore (lv' := [(5, .int (nI pr)), (4, .int (nI k)), (3, .ref a6), (2, .ref a5), (1, .ref (q 0)), (0, .ref b)]) hx hb dL_law_385 hl (by decide) rfl (fun ls hl => ?_)
        refine lv_aload_n hx hb dL_law_387 rfl (lv_at hl 4 rfl) ?_
        refine lv_iload hx hb dL_law_388 (lv_at hl 0 rfl) ?_
        refine lv_iconst (v := nI 1) hx hb dL_law_390 (ic_1) ?_
        refine kn3_i (mc := 2) (ms := 12) (wa := []) (wc := (wX q cI cZ cJ k V C T (fun _ => 0) (fun _ => 0) A 0 (fun _ => 0) (fun _ => 0) 1000 0 (fun _ => 0) 4294967295 0 CT SC (fun _ => 0))) (wb := [(a5, .inl (cI, 8, .inl (rI V))), (a6, .inl (cI, 8, .inl (rI C))), (a7, .inl (cI, 8, .inl (rI TT)))]) (vx_runV (As := [.int (nI pr), .int (nI 1)]) (rest := []) ⟨hx, hb, hml, hown, hts⟩ (c_X0_addProduct l hst D q cI cZ cJ k V C T (fun _ => 0) (fun _ => 0) A 0 (fun _ => 0) (fun _ => 0) 1000 0 (fun _ => 0) 4294967295 0 CT SC (fun _ => 0) H.size (nI pr) (nI 1) (by omega)) (cwV 2 hts gL_law_X0_addProduct rfl rfl rfl hd_X0_addProduct ⟨(by first | exact Nat.le_of_ble_eq_true rfl | (show _ ≤ (_ : Nat); dsimp only [room_1]; omega)), (by first | exact Nat.le_of_ble_eq_true rfl | (show _ ≤ (_ : Nat); dsimp only [room_1]; omega))⟩) (pre_V3 (wa := []) (wc := (wX q cI cZ cJ k V C T (fun _ => 0) (fun _ => 0) A 0 (fun _ => 0) (fun _ => 0) 1000 0 (fun _ => 0) 4294967295 0 CT SC (fun _ => 0))) (wb := [(a5, .inl (cI, 8, .inl (rI V))), (a6, .inl (cI, 8, .inl (rI C))), (a7, .inl (cI, 8, .inl (rI TT)))]) hP hK hD hS hA hZ hg 0 (ci := 0) rfl rfl) rfl rfl hl.1 rfl (lv_room (Nat.le_of_ble_eq_true rfl)) dL_law_391 ⟨(by first | exact Nat.le_of_ble_eq_true rfl | (show _ ≤ (_ : Nat); dsimp only [room_1]; omega)), (by first | exact Nat.le_of_ble_eq_true rfl | (show _ ≤ (_ : Nat); dsimp only [room_1]; omega))⟩) hP hD hS hA (fun E h => by
                  rcases h with ⟨-, h⟩ | ⟨-, -, h⟩
                  · exact h ⟨⟨pr, by omega, by omega, rfl⟩, ⟨1, by omega, by omega, rfl⟩⟩
                  · omega) (fun r_9 u_8 H locs hp_10 hP hD hS => ?_)
        obtain ⟨c7, c8⟩ := u_8
        have hp_10a : r_9 = nI 0 ∧ 1 ≤ c7 ∧ c7 < 2001 ∧ c8 < 100 ∧ (nI pr) = nI c7 ∧ (nI 1) = nI c8 ∧ 0 < 10 := hp_10
        clear hp_10
        obtain ⟨hp_10_r, hp_10⟩ := hp_10a
        have e_11 : pr = c7 := (nI_eq32 (by omega) (by omega)).mp hp_10.2.2.2.1
        subst e_11
        have e_12 : 1 = c8 := (nI_eq32 (by omega) (by omega)).mp hp_10.2.2.2.2.1
        subst e_12
        subst hp_10_r
        have hP : va_P D vwCl ((wX q cI cZ cJ k V C T (fun _ => 0) (fun _ => 0) A (0 + 1) (un (fun _ => 0) 0 pr) (un (fun _ => 0) 0 1) 1000 0 (fun _ => 0) 4294967295 0 CT SC (fun _ => 0)) ++ [(a5, .inl (cI, 8, .inl (rI V))), (a6, .inl (cI, 8, .inl (rI C))), (a7, .inl (cI, 8, .inl (rI TT)))]) H := hP
        have hD : va_D (lA s) ((wX q cI cZ cJ k V C T (fun _ => 0) (fun _ => 0) A (0 + 1) (un (fun _ => 0) 0 pr) (un (fun _ => 0) 0 1) 1000 0 (fun _ => 0) 4294967295 0 CT SC (fun _ => 0)) ++ [(a5, .inl (cI, 8, .inl (rI V))), (a6, .inl (cI, 8, .inl (rI C))), (a7, .inl (cI, 8, .inl (rI TT)))]) := hD
        have hP : va_P D vwCl ((wX q cI cZ cJ k V C T (fun _ => 0) (fun _ => 0) A 1 (un (fun _ => 0) 0 pr) (un (fun _ => 0) 0 1) 1000 0 (fun _ => 0) 4294967295 0 CT SC (fun _ => 0)) ++ [(a5, .inl (cI, 8, .inl (rI V))), (a6, .inl (cI, 8, .inl (rI C))), (a7, .inl (cI, 8, .inl (rI TT)))]) H := hP
        have hD : va_D (lA s) ((wX q cI cZ cJ k V C T (fun _ => 0) (fun _ => 0) A 1 (un (fun _ => 0) 0 pr) (un (fun _ => 0) 0 1) 1000 0 (fun _ => 0) 4294967295 0 CT SC (fun _ => 0)) ++ [(a5, .inl (cI, 8, .inl (rI V))), (a6, .inl (cI, 8, .inl (rI C))), (a7, .inl (cI, 8, .inl (rI TT)))]) := hD
        have hPR1 : ∀ j, j < 1 → 1 ≤ un (fun _ => 0) 0 pr j ∧ un (fun _ => 0) 0 pr j ≤ 2000 ∧ un (fun _ => 0) 0 1 j ≤ 99 := fun j hj => by
                  have e : j = 0 := by omega
                  rw [e, un_s, un_s]
                  exact ⟨by omega, by omega, by omega⟩
        have hPR2 : ∀ j, j < 1 → 1 ≤ un (fun _ => 0) 0 pr j ∧ un (fun _ => 0) 0 pr j ≤ 2000 ∧ un (un (fun _ => 0) 0 1) 0 (un (fun _ => 0) 0 1 0 - 1) j ≤ 99 := fun j hj => by
                  have e : j = 0 := by omega
                  rw [e, un_s, un_s, un_s]
                  exact ⟨by omega, by omega, by omega⟩
        refine lv_pop hx hb dL_law_394 rfl ?_
        refine lv_iconst (v := nI 0) hx hb dL_law_395 (ic_0) ?_
        refine lv_istore (lv' := [(6, .int (nI 0)), (5, .int (nI pr)), (4, .int (nI k)), (3, .ref a6), (2, .ref a5), (1, .ref (q 0)), (0, .ref b)]) hx hb dL_law_396 hl (by decide) rfl (fun ls hl => ?_)
        refine lv_iconst (v := nI 0) hx hb dL_law_398 (ic_0) ?_
        refine lv_istore (lv' := [(7, .int (nI 0)), (6, .int (nI 0)), (5, .int (nI pr)), (4, .int (nI k)), (3, .ref a6), (2, .ref a5), (1, .ref (q 0)), (0, .ref b)]) hx hb dL_law_399 hl (by decide) rfl (fun ls hl => ?_)
        have lp_401 : ∀ (fu_401 : Nat) (j : Nat) (pd : Nat) (w : Nat) (WK : Nat → Nat) (CT : Nat → Int64), 8 - j < fu_401 → (j ≤ 8) → (w ≤ j) → (∀ i, i < w → WK i < k) → (pd = cr V WK w) → (pd ≤ 1000) → (CT 0 = lZ ((pd : Nat) : Int)) → (CT 2 = lZ 0) → (CT 7 = lZ 0) → ∀ (H : Heap) (locs : List Loc), va_P D vwCl ((wX q cI cZ cJ k V C T (fun _ => 0) (fun _ => 0) A 1 (un (fun _ => 0) 0 pr) (un (fun _ => 0) 0 1) 1000 w WK 4294967295 0 CT SC (fun _ => 0)) ++ [(a5, .inl (cI, 8, .inl (rI V))), (a6, .inl (cI, 8, .inl (rI C))), (a7, .inl (cI, 8, .inl (rI TT)))]) H → va_D (lA s) ((wX q cI cZ cJ k V C T (fun _ => 0) (fun _ => 0) A 1 (un (fun _ => 0) 0 pr) (un (fun _ => 0) 0 1) 1000 w WK 4294967295 0 CT SC (fun _ => 0)) ++ [(a5, .inl (cI, 8, .inl (rI V))), (a6, .inl (cI, 8, .inl (rI C))), (a7, .inl (cI, 8, .inl (rI TT)))]) → va_S (lA s) s.heap H locs → ∀ ls : Array Slot, lv_has ls 14 [(7, .int (nI j)), (6, .int (nI pd)), (5, .int (nI pr)), (4, .int (nI k)), (3, .ref a6), (2, .ref a5), (1, .ref (q 0)), (0, .ref b)] → W p l e room_1 s m #[Value.ref b] below meth c H locs (600 + 10 * j) (7000 + 60 * j) Q (F0 m 401 ls []) := by
          intro fu_401
          induction fu_401 with
          | zero =>
            intro j pd w WK CT hfu_401
            exact absurd hfu_401 (Nat.not_lt_zero _)
          | succ fu_401 ih_401 =>
            intro j pd w WK CT hfu_401 hj hw hWK hpd hpd2 hC0 hC2 hC7 H locs hP hD hS ls hl
            refine lv_iload hx hb dL_law_401 (lv_at hl 0 rfl) ?_
            refine lv_bipush (v := nI 8) hx hb dL_law_403 (by decide) ?_
            refine n_icmp_ge (tgt := 450) hx hb (by omega) (by omega) dL_law_405 (by decide) (fun c405 => ?_) (fun c405 => ?_)
            · refine lv_aload_n hx hb dL_law_450 rfl (lv_at hl 6 rfl) ?_
              refine k3_l (mc := 0) (ms := 0) (wa := []) (wc := (wX q cI cZ cJ k V C T (fun _ => 0) (fun _ => 0) A 1 (un (fun _ => 0) 0 pr) (un (fun _ => 0) 0 1) 1000 w WK 4294967295 0 CT SC (fun _ => 0))) (wb := [(a5, .inl (cI, 8, .inl (rI V))), (a6, .inl (cI, 8, .inl (rI C))), (a7, .inl (cI, 8, .inl (rI TT)))]) (va_runV (As := []) (rest := []) ⟨hx, hb, hml, hown, hts⟩ (c_X0_digest l hst D q cI cZ cJ k V C T (fun _ => 0) (fun _ => 0) A 1 (un (fun _ => 0) 0 pr) (un (fun _ => 0) 0 1) 1000 w WK 4294967295 0 CT SC (fun _ => 0) H.size hk8 (fun i hi => by have h1 := hAe i hi; omega) (by omega) (by omega)) (cwV 0 hts gL_law_X0_digest rfl rfl rfl hd_X0_digest ⟨(by first | exact Nat.le_of_ble_eq_true rfl | (show _ ≤ (_ : Nat); dsimp only [room_1]; omega)), (by first | exact Nat.le_of_ble_eq_true rfl | (show _ ≤ (_ : Nat); dsimp only [room_1]; omega))⟩) (pre_V3 (wa := []) (wc := (wX q cI cZ cJ k V C T (fun _ => 0) (fun _ => 0) A 1 (un (fun _ => 0) 0 pr) (un (fun _ => 0) 0 1) 1000 w WK 4294967295 0 CT SC (fun _ => 0))) (wb := [(a5, .inl (cI, 8, .inl (rI V))), (a6, .inl (cI, 8, .inl (rI C))), (a7, .inl (cI, 8, .inl (rI TT)))]) hP hK hD hS hA hZ hg 0 (ci := 0) rfl rfl) rfl rfl hl.1 rfl (lv_room (Nat.le_of_ble_eq_true rfl)) dL_law_451 ⟨(by first | exact Nat.le_of_ble_eq_true rfl | (show _ ≤ (_ : Nat); dsimp only [room_1]; omega)), (by first | exact Nat.le_of_ble_eq_true rfl | (show _ ≤ (_ : Nat); dsimp only [room_1]; omega))⟩) hP hD hS hA (fun r_14 u_13 H locs hp_15 hP hD hS => ?_)
              have hP : va_P D vwCl ((wX q cI cZ cJ k V C T (fun _ => 0) (fun _ => 0) A 1 (un (fun _ => 0) 0 pr) (un (fun _ => 0) 0 1) 1000 w WK 4294967295 0 CT SC (fun _ => 0)) ++ [(a5, .inl (cI, 8, .inl (rI V))), (a6, .inl (cI, 8, .inl (rI C))), (a7, .inl (cI, 8, .inl (rI TT)))]) H := hP
              have hD : va_D (lA s) ((wX q cI cZ cJ k V C T (fun _ => 0) (fun _ => 0) A 1 (un (fun _ => 0) 0 pr) (un (fun _ => 0) 0 1) 1000 w WK 4294967295 0 CT SC (fun _ => 0)) ++ [(a5, .inl (cI, 8, .inl (rI V))), (a6, .inl (cI, 8, .inl (rI C))), (a7, .inl (cI, 8, .inl (rI TT)))]) := hD
              subst hp_15
              refine lv_lstore (lv' := [(7, .long (dgs k V T (fun _ => 0) (fun _ => 0) A 1 (un (fun _ => 0) 0 pr) (un (fun _ => 0) 0 1) 1000 w WK CT)), (6, .int (nI pd)), (5, .int (nI pr)), (4, .int (nI k)), (3, .ref a6), (2, .ref a5), (1, .ref (q 0)), (0, .ref b)]) hx hb dL_law_454 hl (by decide) rfl (fun ls hl => ?_)
              refine lv_aload_n hx hb dL_law_456 rfl (lv_at hl 6 rfl) ?_
              refine lv_iconst (v := nI 0) hx hb dL_law_457 (ic_0) ?_
              refine kn3_i (mc := 1) (ms := 6) (wa := []) (wc := (wX q cI cZ cJ k V C T (fun _ => 0) (fun _ => 0) A 1 (un (fun _ => 0) 0 pr) (un (fun _ => 0) 0 1) 1000 w WK 4294967295 0 CT SC (fun _ => 0))) (wb := [(a5, .inl (cI, 8, .inl (rI V))), (a6, .inl (cI, 8, .inl (rI C))), (a7, .inl (cI, 8, .inl (rI TT)))]) (vx_runV (As := [.int (nI 0)]) (rest := []) ⟨hx, hb, hml, hown, hts⟩ (c_X0_buy l hst D q cI cZ cJ k V C T (fun _ => 0) (fun _ => 0) A 1 (un (fun _ => 0) 0 pr) (un (fun _ => 0) 0 1) 1000 w WK 4294967295 0 CT SC (fun _ => 0) H.size (nI 0) hk8 hV hC hVd (by omega) hPR1 (by omega) hWK (by omega)) (cwV 1 hts gL_law_X0_buy rfl rfl rfl hd_X0_buy ⟨(by first | exact Nat.le_of_ble_eq_true rfl | (show _ ≤ (_ : Nat); dsimp only [room_1]; omega)), (by first | exact Nat.le_of_ble_eq_true rfl | (show _ ≤ (_ : Nat); dsimp only [room_1]; omega))⟩) (pre_V3 (wa := []) (wc := (wX q cI cZ cJ k V C T (fun _ => 0) (fun _ => 0) A 1 (un (fun _ => 0) 0 pr) (un (fun _ => 0) 0 1) 1000 w WK 4294967295 0 CT SC (fun _ => 0))) (wb := [(a5, .inl (cI, 8, .inl (rI V))), (a6, .inl (cI, 8, .inl (rI C))), (a7, .inl (cI, 8, .inl (rI TT)))]) hP hK hD hS hA hZ hg 0 (ci := 0) rfl rfl) rfl rfl hl.1 rfl (lv_room (Nat.le_of_ble_eq_true rfl)) dL_law_458 ⟨(by first | exact Nat.le_of_ble_eq_true rfl | (show _ ≤ (_ : Nat); dsimp only [room_1]; omega)), (by first | exact Nat.le_of_ble_eq_true rfl | (show _ ≤ (_ : Nat); dsimp only [room_1]; omega))⟩) hP hD hS hA (fun E h => h.2 ⟨0, by omega, by omega, rfl⟩) (fun r_17 u_16 H locs hp_18 hP hD hS => ?_)
              obtain ⟨c10, br, T2, B2, P2, w2, ST2, so2, sp2, CT2, SC9, TA2⟩ := u_16
              have hp_18a : r_17 = nI br ∧ c10 < 1 ∧ (nI 0) = nI c10 ∧ buyP k V C T (fun _ => 0) (fun _ => 0) (un (fun _ => 0) 0 pr) (un (fun _ => 0) 0 1) w WK 4294967295 0 CT c10 br T2 B2 P2 w2 ST2 so2 sp2 CT2 := hp_18
              clear hp_18
              obtain ⟨hp_18_r, hp_18⟩ := hp_18a
              have e_19 : 0 = c10 := (nI_eq32 (by omega) (by omega)).mp hp_18.2.1
              subst e_19
              subst hp_18_r
              have hP : va_P D vwCl ((wX q cI cZ cJ k V C T2 B2 P2 A 1 (un (fun _ => 0) 0 pr) ST2 1000 w2 WK so2 sp2 CT2 SC9 TA2) ++ [(a5, .inl (cI, 8, .inl (rI V))), (a6, .inl (cI, 8, .inl (rI C))), (a7, .inl (cI, 8, .inl (rI TT)))]) H := hP
              have hD : va_D (lA s) ((wX q cI cZ cJ k V C T2 B2 P2 A 1 (un (fun _ => 0) 0 pr) ST2 1000 w2 WK so2 sp2 CT2 SC9 TA2) ++ [(a5, .inl (cI, 8, .inl (rI V))), (a6, .inl (cI, 8, .inl (rI C))), (a7, .inl (cI, 8, .inl (rI TT)))]) := hD
              have hbuy := hp_18.2.2
              rcases hbuy with ⟨⟨e1, e2, e3, e4, e5, e6, e7, e8⟩, ⟨hs, -⟩ | ⟨-, hlt, er⟩ | ⟨-, hge, -, er⟩⟩ | ⟨-, hge, er, z, hz, e1, e2, e3, e4, e5, e6, e7, e8⟩
              · rw [un_s] at hs
                omega
              · rw [e1, e2, e3, e4, e5, e6, e7, e8] at hP hD
                refine n_top (congrArg nI er) ?_
                rw [un_s] at hlt
                refine lv_istore (lv' := [(9, .int (nI 2)), (7, .long (dgs k V T (fun _ => 0) (fun _ => 0) A 1 (un (fun _ => 0) 0 pr) (un (fun _ => 0) 0 1) 1000 w WK CT)), (6, .int (nI pd)), (5, .int (nI pr)), (4, .int (nI k)), (3, .ref a6), (2, .ref a5), (1, .ref (q 0)), (0, .ref b)]) hx hb dL_law_461 hl (by decide) rfl (fun ls hl => ?_)
                refine lv_iload hx hb dL_law_463 (lv_at hl 0 rfl) ?_
                refine lv_iconst (v := nI 1) hx hb dL_law_465 (ic_1) ?_
                refine n_icmp_eq (tgt := 519) hx hb (by omega) (by omega) dL_law_466 (by decide) (fun c466 => ?_) (fun c466 => ?_)
                · exact absurd c466 (by decide)
                · refine lv_iload hx hb dL_law_469 (lv_at hl 0 rfl) ?_
                  refine lv_iconst (v := nI 2) hx hb dL_law_471 (ic_2) ?_
                  refine n_icmp_ne (tgt := 479) hx hb (by omega) (by omega) dL_law_472 (by decide) (fun c472 => ?_) (fun c472 => ?_)
                  · exact absurd rfl c472
                  · refine lv_iconst (v := nI 1) hx hb dL_law_475 (ic_1) ?_
                    refine lv_goto (tgt := 480) hx hb dL_law_476 (by decide) ?_
                    refine lv_iload hx hb dL_law_480 (lv_at hl 2 rfl) ?_
                    refine lv_iload hx hb dL_law_482 (lv_at hl 3 rfl) ?_
                    refine n_icmp_ge (tgt := 491) hx hb (by omega) (by omega) dL_law_484 (by decide) (fun c484 => ?_) (fun c484 => ?_)
                    · exact absurd c484 (by omega)
                    · refine lv_iconst (v := nI 1) hx hb dL_law_487 (ic_1) ?_
                      refine lv_goto (tgt := 492) hx hb dL_law_488 (by decide) ?_
                      refine n_icmp_ne (tgt := 519) hx hb (by omega) (by omega) dL_law_492 (by decide) (fun c492 => ?_) (fun c492 => ?_)
                      · exact absurd rfl c492
                      · refine lv_iload hx hb dL_law_495 (lv_at hl 0 rfl) ?_
                        refine n_if_eq (tgt := 521) hx hb (by decide) dL_law_497 (by decide) (fun c497 => ?_) (fun c497 => ?_)
                        · exact absurd c497 (by decide)
                        · refine lv_aload_n hx hb dL_law_500 rfl (lv_at hl 7 rfl) ?_
                          refine k3_l (mc := 0) (ms := 0) (wa := []) (wc := (wX q cI cZ cJ k V C T (fun _ => 0) (fun _ => 0) A 1 (un (fun _ => 0) 0 pr) (un (fun _ => 0) 0 1) 1000 w WK 4294967295 0 CT SC9 TA2)) (wb := [(a5, .inl (cI, 8, .inl (rI V))), (a6, .inl (cI, 8, .inl (rI C))), (a7, .inl (cI, 8, .inl (rI TT)))]) (va_runV (As := []) (rest := []) ⟨hx, hb, hml, hown, hts⟩ (c_X0_digest l hst D q cI cZ cJ k V C T (fun _ => 0) (fun _ => 0) A 1 (un (fun _ => 0) 0 pr) (un (fun _ => 0) 0 1) 1000 w WK 4294967295 0 CT SC9 TA2 H.size hk8 (fun i hi => by have h1 := hAe i hi; omega) (by omega) (by omega)) (cwV 0 hts gL_law_X0_digest rfl rfl rfl hd_X0_digest ⟨(by first | exact Nat.le_of_ble_eq_true rfl | (show _ ≤ (_ : Nat); dsimp only [room_1]; omega)), (by first | exact Nat.le_of_ble_eq_true rfl | (show _ ≤ (_ : Nat); dsimp only [room_1]; omega))⟩) (pre_V3 (wa := []) (wc := (wX q cI cZ cJ k V C T (fun _ => 0) (fun _ => 0) A 1 (un (fun _ => 0) 0 pr) (un (fun _ => 0) 0 1) 1000 w WK 4294967295 0 CT SC9 TA2)) (wb := [(a5, .inl (cI, 8, .inl (rI V))), (a6, .inl (cI, 8, .inl (rI C))), (a7, .inl (cI, 8, .inl (rI TT)))]) hP hK hD hS hA hZ hg 0 (ci := 0) rfl rfl) rfl rfl hl.1 rfl (lv_room (Nat.le_of_ble_eq_true rfl)) dL_law_501 ⟨(by first | exact Nat.le_of_ble_eq_true rfl | (show _ ≤ (_ : Nat); dsimp only [room_1]; omega)), (by first | exact Nat.le_of_ble_eq_true rfl | (show _ ≤ (_ : Nat); dsimp only [room_1]; omega))⟩) hP hD hS hA (fun r_21 u_20 H locs hp_22 hP hD hS => ?_)
                          have hP : va_P D vwCl ((wX q cI cZ cJ k V C T (fun _ => 0) (fun _ => 0) A 1 (un (fun _ => 0) 0 pr) (un (fun _ => 0) 0 1) 1000 w WK 4294967295 0 CT SC9 TA2) ++ [(a5, .inl (cI, 8, .inl (rI V))), (a6, .inl (cI, 8, .inl (rI C))), (a7, .inl (cI, 8, .inl (rI TT)))]) H := hP
                          have hD : va_D (lA s) ((wX q cI cZ cJ k V C T (fun _ => 0) (fun _ => 0) A 1 (un (fun _ => 0) 0 pr) (un (fun _ => 0) 0 1) 1000 w WK 4294967295 0 CT SC9 TA2) ++ [(a5, .inl (cI, 8, .inl (rI V))), (a6, .inl (cI, 8, .inl (rI C))), (a7, .inl (cI, 8, .inl (rI TT)))]) := hD
                          subst hp_22
                          refine lv_lload hx hb dL_law_504 (lv_at hl 1 rfl) ?_
                          refine n_lcmp_ne (tgt := 519) hx hb dL_law_506 dL_law_507 (by decide) (fun c506 => ?_) (fun c506 => ?_)
                          · exact absurd rfl c506
                          · refine lv_aload_n hx hb dL_law_510 rfl (lv_at hl 7 rfl) ?_
                            refine k3_i (mc := 0) (ms := 0) (wa := []) (wc := (wX q cI cZ cJ k V C T (fun _ => 0) (fun _ => 0) A 1 (un (fun _ => 0) 0 pr) (un (fun _ => 0) 0 1) 1000 w WK 4294967295 0 CT SC9 TA2)) (wb := [(a5, .inl (cI, 8, .inl (rI V))), (a6, .inl (cI, 8, .inl (rI C))), (a7, .inl (cI, 8, .inl (rI TT)))]) (va_runV (As := []) (rest := []) ⟨hx, hb, hml, hown, hts⟩ (c_X0_cancel l hst D q cI cZ cJ k V C T (fun _ => 0) (fun _ => 0) A 1 (un (fun _ => 0) 0 pr) (un (fun _ => 0) 0 1) 1000 w WK 4294967295 0 CT SC9 TA2 H.size (by omega) hk8 hWK hV) (cwV 0 hts gL_law_X0_cancel rfl rfl rfl hd_X0_cancel ⟨(by first | exact Nat.le_of_ble_eq_true rfl | (show _ ≤ (_ : Nat); dsimp only [room_1]; omega)), (by first | exact Nat.le_of_ble_eq_true rfl | (show _ ≤ (_ : Nat); dsimp only [room_1]; omega))⟩) (pre_V3 (wa := []) (wc := (wX q cI cZ cJ k V C T (fun _ => 0) (fun _ => 0) A 1 (un (fun _ => 0) 0 pr) (un (fun _ => 0) 0 1) 1000 w WK 4294967295 0 CT SC9 TA2)) (wb := [(a5, .inl (cI, 8, .inl (rI V))), (a6, .inl (cI, 8, .inl (rI C))), (a7, .inl (cI, 8, .inl (rI TT)))]) hP hK hD hS hA hZ hg 0 (ci := 0) rfl rfl) rfl rfl hl.1 rfl (lv_room (Nat.le_of_ble_eq_true rfl)) dL_law_511 ⟨(by first | exact Nat.le_of_ble_eq_true rfl | (show _ ≤ (_ : Nat); dsimp only [room_1]; omega)), (by first | exact Nat.le_of_ble_eq_true rfl | (show _ ≤ (_ : Nat); dsimp only [room_1]; omega))⟩) hP hD hS hA (fun r_24 u_23 H locs hp_25 hP hD hS => ?_)
                            have hP : va_P D vwCl ((wX q cI cZ cJ k V C T (fun _ => 0) (fun _ => 0) A 1 (un (fun _ => 0) 0 pr) (un (fun _ => 0) 0 1) 1000 0 WK 4294967295 0 (vp_updL CT 1 (CT 1 + lZ ((cr V WK w : Nat) : Int))) SC9 TA2) ++ [(a5, .inl (cI, 8, .inl (rI V))), (a6, .inl (cI, 8, .inl (rI C))), (a7, .inl (cI, 8, .inl (rI TT)))]) H := hP
                            have hD : va_D (lA s) ((wX q cI cZ cJ k V C T (fun _ => 0) (fun _ => 0) A 1 (un (fun _ => 0) 0 pr) (un (fun _ => 0) 0 1) 1000 0 WK 4294967295 0 (vp_updL CT 1 (CT 1 + lZ ((cr V WK w : Nat) : Int))) SC9 TA2) ++ [(a5, .inl (cI, 8, .inl (rI V))), (a6, .inl (cI, 8, .inl (rI C))), (a7, .inl (cI, 8, .inl (rI TT)))]) := hD
                            subst hp_25
                            refine lv_iload hx hb dL_law_514 (lv_at hl 2 rfl) ?_
                            refine n_icmp_eq (tgt := 521) hx hb (by omega) (by omega) dL_law_516 (by decide) (fun c516 => ?_) (fun c516 => ?_)
                            · refine lv_iload hx hb dL_law_521 (lv_at hl 0 rfl) ?_
                              refine n_if_eq (tgt := 528) hx hb (by decide) dL_law_523 (by decide) (fun c523 => ?_) (fun c523 => ?_)
                              · exact absurd c523 (by decide)
                              · refine lv_iconst (v := nI 1) hx hb dL_law_526 (ic_1) ?_
                                refine n_top (show nI 1 = 1 from by decide) ?_
                                subst hQ
                                refine va_forget hS.2.2 ?_
                                refine W.widen (k := 600130) (n := 7301080) (by omega) (by omega) ?_
                                exact lw_ret hx hb hr hlocks dL_law_527
                            · exact absurd hpd.symm c516
              · rw [e1, e2, e3, e4, e5, e6, e7, e8] at hP hD
                refine n_top (congrArg nI er) ?_
                rw [un_s] at hge
                refine lv_istore (lv' := [(9, .int (nI 3)), (7, .long (dgs k V T (fun _ => 0) (fun _ => 0) A 1 (un (fun _ => 0) 0 pr) (un (fun _ => 0) 0 1) 1000 w WK CT)), (6, .int (nI pd)), (5, .int (nI pr)), (4, .int (nI k)), (3, .ref a6), (2, .ref a5), (1, .ref (q 0)), (0, .ref b)]) hx hb dL_law_461 hl (by decide) rfl (fun ls hl => ?_)
                refine lv_iload hx hb dL_law_463 (lv_at hl 0 rfl) ?_
                refine lv_iconst (v := nI 1) hx hb dL_law_465 (ic_1) ?_
                refine n_icmp_eq (tgt := 519) hx hb (by omega) (by omega) dL_law_466 (by decide) (fun c466 => ?_) (fun c466 => ?_)
                · exact absurd c466 (by decide)
                · refine lv_iload hx hb dL_law_469 (lv_at hl 0 rfl) ?_
                  refine lv_iconst (v := nI 2) hx hb dL_law_471 (ic_2) ?_
                  refine n_icmp_ne (tgt := 479) hx hb (by omega) (by omega) dL_law_472 (by decide) (fun c472 => ?_) (fun c472 => ?_)
                  · refine lv_iconst (v := nI 0) hx hb dL_law_479 (ic_0) ?_
                    refine lv_iload hx hb dL_law_480 (lv_at hl 2 rfl) ?_
                    refine lv_iload hx hb dL_law_482 (lv_at hl 3 rfl) ?_
                    refine n_icmp_ge (tgt := 491) hx hb (by omega) (by omega) dL_law_484 (by decide) (fun c484 => ?_) (fun c484 => ?_)
                    · refine lv_iconst (v := nI 0) hx hb dL_law_491 (ic_0) ?_
                      refine n_icmp_ne (tgt := 519) hx hb (by omega) (by omega) dL_law_492 (by decide) (fun c492 => ?_) (fun c492 => ?_)
                      · exact absurd rfl c492
                      · refine lv_iload hx hb dL_law_495 (lv_at hl 0 rfl) ?_
                        refine n_if_eq (tgt := 521) hx hb (by decide) dL_law_497 (by decide) (fun c497 => ?_) (fun c497 => ?_)
                        · exact absurd c497 (by decide)
                        · refine lv_aload_n hx hb dL_law_500 rfl (lv_at hl 7 rfl) ?_
                          refine k3_l (mc := 0) (ms := 0) (wa := []) (wc := (wX q cI cZ cJ k V C T (fun _ => 0) (fun _ => 0) A 1 (un (fun _ => 0) 0 pr) (un (fun _ => 0) 0 1) 1000 w WK 4294967295 0 CT SC9 TA2)) (wb := [(a5, .inl (cI, 8, .inl (rI V))), (a6, .inl (cI, 8, .inl (rI C))), (a7, .inl (cI, 8, .inl (rI TT)))]) (va_runV (As := []) (rest := []) ⟨hx, hb, hml, hown, hts⟩ (c_X0_digest l hst D q cI cZ cJ k V C T (fun _ => 0) (fun _ => 0) A 1 (un (fun _ => 0) 0 pr) (un (fun _ => 0) 0 1) 1000 w WK 4294967295 0 CT SC9 TA2 H.size hk8 (fun i hi => by have h1 := hAe i hi; omega) (by omega) (by omega)) (cwV 0 hts gL_law_X0_digest rfl rfl rfl hd_X0_digest ⟨(by first | exact Nat.le_of_ble_eq_true rfl | (show _ ≤ (_ : Nat); dsimp only [room_1]; omega)), (by first | exact Nat.le_of_ble_eq_true rfl | (show _ ≤ (_ : Nat); dsimp only [room_1]; omega))⟩) (pre_V3 (wa := []) (wc := (wX q cI cZ cJ k V C T (fun _ => 0) (fun _ => 0) A 1 (un (fun _ => 0) 0 pr) (un (fun _ => 0) 0 1) 1000 w WK 4294967295 0 CT SC9 TA2)) (wb := [(a5, .inl (cI, 8, .inl (rI V))), (a6, .inl (cI, 8, .inl (rI C))), (a7, .inl (cI, 8, .inl (rI TT)))]) hP hK hD hS hA hZ hg 0 (ci := 0) rfl rfl) rfl rfl hl.1 rfl (lv_room (Nat.le_of_ble_eq_true rfl)) dL_law_501 ⟨(by first | exact Nat.le_of_ble_eq_true rfl | (show _ ≤ (_ : Nat); dsimp only [room_1]; omega)), (by first | exact Nat.le_of_ble_eq_true rfl | (show _ ≤ (_ : Nat); dsimp only [room_1]; omega))⟩) hP hD hS hA (fun r_27 u_26 H locs hp_28 hP hD hS => ?_)
                          have hP : va_P D vwCl ((wX q cI cZ cJ k V C T (fun _ => 0) (fun _ => 0) A 1 (un (fun _ => 0) 0 pr) (un (fun _ => 0) 0 1) 1000 w WK 4294967295 0 CT SC9 TA2) ++ [(a5, .inl (cI, 8, .inl (rI V))), (a6, .inl (cI, 8, .inl (rI C))), (a7, .inl (cI, 8, .inl (rI TT)))]) H := hP
                          have hD : va_D (lA s) ((wX q cI cZ cJ k V C T (fun _ => 0) (fun _ => 0) A 1 (un (fun _ => 0) 0 pr) (un (fun _ => 0) 0 1) 1000 w WK 4294967295 0 CT SC9 TA2) ++ [(a5, .inl (cI, 8, .inl (rI V))), (a6, .inl (cI, 8, .inl (rI C))), (a7, .inl (cI, 8, .inl (rI TT)))]) := hD
                          subst hp_28
                          refine lv_lload hx hb dL_law_504 (lv_at hl 1 rfl) ?_
                          refine n_lcmp_ne (tgt := 519) hx hb dL_law_506 dL_law_507 (by decide) (fun c506 => ?_) (fun c506 => ?_)
                          · exact absurd rfl c506
                          · refine lv_aload_n hx hb dL_law_510 rfl (lv_at hl 7 rfl) ?_
                            refine k3_i (mc := 0) (ms := 0) (wa := []) (wc := (wX q cI cZ cJ k V C T (fun _ => 0) (fun _ => 0) A 1 (un (fun _ => 0) 0 pr) (un (fun _ => 0) 0 1) 1000 w WK 4294967295 0 CT SC9 TA2)) (wb := [(a5, .inl (cI, 8, .inl (rI V))), (a6, .inl (cI, 8, .inl (rI C))), (a7, .inl (cI, 8, .inl (rI TT)))]) (va_runV (As := []) (rest := []) ⟨hx, hb, hml, hown, hts⟩ (c_X0_cancel l hst D q cI cZ cJ k V C T (fun _ => 0) (fun _ => 0) A 1 (un (fun _ => 0) 0 pr) (un (fun _ => 0) 0 1) 1000 w WK 4294967295 0 CT SC9 TA2 H.size (by omega) hk8 hWK hV) (cwV 0 hts gL_law_X0_cancel rfl rfl rfl hd_X0_cancel ⟨(by first | exact Nat.le_of_ble_eq_true rfl | (show _ ≤ (_ : Nat); dsimp only [room_1]; omega)), (by first | exact Nat.le_of_ble_eq_true rfl | (show _ ≤ (_ : Nat); dsimp only [room_1]; omega))⟩) (pre_V3 (wa := []) (wc := (wX q cI cZ cJ k V C T (fun _ => 0) (fun _ => 0) A 1 (un (fun _ => 0) 0 pr) (un (fun _ => 0) 0 1) 1000 w WK 4294967295 0 CT SC9 TA2)) (wb := [(a5, .inl (cI, 8, .inl (rI V))), (a6, .inl (cI, 8, .inl (rI C))), (a7, .inl (cI, 8, .inl (rI TT)))]) hP hK hD hS hA hZ hg 0 (ci := 0) rfl rfl) rfl rfl hl.1 rfl (lv_room (Nat.le_of_ble_eq_true rfl)) dL_law_511 ⟨(by first | exact Nat.le_of_ble_eq_true rfl | (show _ ≤ (_ : Nat); dsimp only [room_1]; omega)), (by first | exact Nat.le_of_ble_eq_true rfl | (show _ ≤ (_ : Nat); dsimp only [room_1]; omega))⟩) hP hD hS hA (fun r_30 u_29 H locs hp_31 hP hD hS => ?_)
                            have hP : va_P D vwCl ((wX q cI cZ cJ k V C T (fun _ => 0) (fun _ => 0) A 1 (un (fun _ => 0) 0 pr) (un (fun _ => 0) 0 1) 1000 0 WK 4294967295 0 (vp_updL CT 1 (CT 1 + lZ ((cr V WK w : Nat) : Int))) SC9 TA2) ++ [(a5, .inl (cI, 8, .inl (rI V))), (a6, .inl (cI, 8, .inl (rI C))), (a7, .inl (cI, 8, .inl (rI TT)))]) H := hP
                            have hD : va_D (lA s) ((wX q cI cZ cJ k V C T (fun _ => 0) (fun _ => 0) A 1 (un (fun _ => 0) 0 pr) (un (fun _ => 0) 0 1) 1000 0 WK 4294967295 0 (vp_updL CT 1 (CT 1 + lZ ((cr V WK w : Nat) : Int))) SC9 TA2) ++ [(a5, .inl (cI, 8, .inl (rI V))), (a6, .inl (cI, 8, .inl (rI C))), (a7, .inl (cI, 8, .inl (rI TT)))]) := hD
                            subst hp_31
                            refine lv_iload hx hb dL_law_514 (lv_at hl 2 rfl) ?_
                            refine n_icmp_eq (tgt := 521) hx hb (by omega) (by omega) dL_law_516 (by decide) (fun c516 => ?_) (fun c516 => ?_)
                            · refine lv_iload hx hb dL_law_521 (lv_at hl 0 rfl) ?_
                              refine n_if_eq (tgt := 528) hx hb (by decide) dL_law_523 (by decide) (fun c523 => ?_) (fun c523 => ?_)
                              · exact absurd c523 (by decide)
                              · refine lv_iconst (v := nI 1) hx hb dL_law_526 (ic_1) ?_
                                refine n_top (show nI 1 = 1 from by decide) ?_
                                subst hQ
                                refine va_forget hS.2.2 ?_
                                refine W.widen (k := 600130) (n := 7301080) (by omega) (by omega) ?_
                                exact lw_ret hx hb hr hlocks dL_law_527
                            · exact absurd hpd.symm c516
                    · exact absurd c484 (by omega)
                  · exact absurd c472 (by decide)
              · rw [un_s] at hz e7 e8 hge
                rw [e1, e2, e3, e4, e5, e6, e7, e8] at hP hD
                refine n_top (congrArg nI er) ?_
                rw [← hpd] at hz
                have hCd : ∀ i, i < k → dT C T WK w k i ≤ 60 := fun i hi => by have h1 := dT_le (WK := WK) (w := w) hC i hi; have h2 := hC i hi; omega
                have hws := way_sums hk8 hCd hVd hz.1
                have hCs : ∀ i, i < k → C i ≤ 60 ∧ pT (dT C T WK w k) V k z k i ≤ C i := fun i hi => by
                                  have h1 := dT_le (WK := WK) (w := w) hC i hi
                                  have h2 : pT (dT C T WK w k) V k z k i ≤ dT C T WK w k i := by
                                    show (if i < k then dT C T WK w k i - pz z (lc V (V i) k) else dT C T WK w k i) ≤ dT C T WK w k i
                                    rw [if_pos hi]
                                    exact Nat.sub_le _ _
                                  exact ⟨(hC i hi).1, Nat.le_trans h2 h1⟩
                refine lv_istore (lv' := [(9, .int (nI 0)), (7, .long (dgs k V T (fun _ => 0) (fun _ => 0) A 1 (un (fun _ => 0) 0 pr) (un (fun _ => 0) 0 1) 1000 w WK CT)), (6, .int (nI pd)), (5, .int (nI pr)), (4, .int (nI k)), (3, .ref a6), (2, .ref a5), (1, .ref (q 0)), (0, .ref b)]) hx hb dL_law_461 hl (by decide) rfl (fun ls hl => ?_)
                refine lv_iload hx hb dL_law_463 (lv_at hl 0 rfl) ?_
                refine lv_iconst (v := nI 1) hx hb dL_law_465 (ic_1) ?_
                refine n_icmp_eq (tgt := 519) hx hb (by omega) (by omega) dL_law_466 (by decide) (fun c466 => ?_) (fun c466 => ?_)
                · exact absurd c466 (by decide)
                · refine lv_iload hx hb dL_law_469 (lv_at hl 0 rfl) ?_
                  refine lv_iconst (v := nI 2) hx hb dL_law_471 (ic_2) ?_
                  refine n_icmp_ne (tgt := 479) hx hb (by omega) (by omega) dL_law_472 (by decide) (fun c472 => ?_) (fun c472 => ?_)
                  · refine lv_iconst (v := nI 0) hx hb dL_law_479 (ic_0) ?_
                    refine lv_iload hx hb dL_law_480 (lv_at hl 2 rfl) ?_
                    refine lv_iload hx hb dL_law_482 (lv_at hl 3 rfl) ?_
                    refine n_icmp_ge (tgt := 491) hx hb (by omega) (by omega) dL_law_484 (by decide) (fun c484 => ?_) (fun c484 => ?_)
                    · refine lv_iconst (v := nI 0) hx hb dL_law_491 (ic_0) ?_
                      refine n_icmp_ne (tgt := 519) hx hb (by omega) (by omega) dL_law_492 (by decide) (fun c492 => ?_) (fun c492 => ?_)
                      · exact absurd rfl c492
                      · refine lv_iload hx hb dL_law_495 (lv_at hl 0 rfl) ?_
                        refine n_if_eq (tgt := 521) hx hb (by decide) dL_law_497 (by decide) (fun c497 => ?_) (fun c497 => ?_)
                        · refine lv_iload hx hb dL_law_521 (lv_at hl 0 rfl) ?_
                          refine n_if_eq (tgt := 528) hx hb (by decide) dL_law_523 (by decide) (fun c523 => ?_) (fun c523 => ?_)
                          · refine lv_iconst (v := nI 0) hx hb dL_law_528 (ic_0) ?_
                            refine lv_istore (lv' := [(10, .int (nI 0)), (9, .int (nI 0)), (7, .long (dgs k V T (fun _ => 0) (fun _ => 0) A 1 (un (fun _ => 0) 0 pr) (un (fun _ => 0) 0 1) 1000 w WK CT)), (6, .int (nI pd)), (5, .int (nI pr)), (4, .int (nI k)), (3, .ref a6), (2, .ref a5), (1, .ref (q 0)), (0, .ref b)]) hx hb dL_law_529 hl (by decide) rfl (fun ls hl => ?_)
                            refine lv_iconst (v := nI 0) hx hb dL_law_531 (ic_0) ?_
                            refine lv_istore (lv' := [(11, .int (nI 0)), (10, .int (nI 0)), (9, .int (nI 0)), (7, .long (dgs k V T (fun _ => 0) (fun _ => 0) A 1 (un (fun _ => 0) 0 pr) (un (fun _ => 0) 0 1) 1000 w WK CT)), (6, .int (nI pd)), (5, .int (nI pr)), (4, .int (nI k)), (3, .ref a6), (2, .ref a5), (1, .ref (q 0)), (0, .ref b)]) hx hb dL_law_532 hl (by decide) rfl (fun ls hl => ?_)
                            have lp_534 : ∀ (fu_534 : Nat) (j : Nat) (bk : Nat), k - j < fu_534 → (j ≤ k) → (bk = sm (fun i => pz z (lc V (V i) k) * V i) j) → ∀ (H : Heap) (locs : List Loc), va_P D vwCl ((wX q cI cZ cJ k V C (pT (dT C T WK w k) V k z k) (dB C T (fun _ => 0) WK w k) (pP (fun _ => 0) V k z k) A 1 (un (fun _ => 0) 0 pr) (un (un (fun _ => 0) 0 1) 0 (un (fun _ => 0) 0 1 0 - 1)) 1000 0 WK 0 pr (cs CT pr (cr V WK w - pr)) SC9 TA2) ++ [(a5, .inl (cI, 8, .inl (rI V))), (a6, .inl (cI, 8, .inl (rI C))), (a7, .inl (cI, 8, .inl (rI TT)))]) H → va_D (lA s) ((wX q cI cZ cJ k V C (pT (dT C T WK w k) V k z k) (dB C T (fun _ => 0) WK w k) (pP (fun _ => 0) V k z k) A 1 (un (fun _ => 0) 0 pr) (un (un (fun _ => 0) 0 1) 0 (un (fun _ => 0) 0 1 0 - 1)) 1000 0 WK 0 pr (cs CT pr (cr V WK w - pr)) SC9 TA2) ++ [(a5, .inl (cI, 8, .inl (rI V))), (a6, .inl (cI, 8, .inl (rI C))), (a7, .inl (cI, 8, .inl (rI TT)))]) → va_S (lA s) s.heap H locs → ∀ ls : Array Slot, lv_has ls 14 [(11, .int (nI j)), (10, .int (nI bk)), (6, .int (nI pd)), (5, .int (nI pr)), (4, .int (nI k)), (3, .ref a6), (2, .ref a5), (1, .ref (q 0)), (0, .ref b)] → W p l e room_1 s m #[Value.ref b] below meth c H locs (800 + 2 * j) (9000 + 12 * j) Q (F0 m 534 ls []) := by
                              intro fu_534
                              induction fu_534 with
                              | zero =>
                                intro j bk hfu_534
                                exact absurd hfu_534 (Nat.not_lt_zero _)
                              | succ fu_534 ih_534 =>
                                intro j bk hfu_534 hj hbk H locs hP hD hS ls hl
                                refine lv_iload hx hb dL_law_534 (lv_at hl 0 rfl) ?_
                                refine lv_iload hx hb dL_law_536 (lv_at hl 4 rfl) ?_
                                refine n_icmp_ge (tgt := 564) hx hb (by omega) (by omega) dL_law_538 (by decide) (fun c538 => ?_) (fun c538 => ?_)
                                · have hjk : j = k := by omega
                                  have hbk2 : bk = pd - pr := by rw [hbk, hjk]; exact hws.1
                                  refine lv_iload hx hb dL_law_564 (lv_at hl 2 rfl) ?_
                                  refine lv_iload hx hb dL_law_566 (lv_at hl 1 rfl) ?_
                                  refine n_isub hx hb (by omega) dL_law_568 ?_
                                  refine lv_iload hx hb dL_law_569 (lv_at hl 3 rfl) ?_
                                  refine n_icmp_ne (tgt := 615) hx hb (by omega) (by omega) dL_law_571 (by decide) (fun c571 => ?_) (fun c571 => ?_)
                                  · exact absurd (by omega) c571
                                  · refine lv_aload_n hx hb dL_law_574 rfl (lv_at hl 7 rfl) ?_
                                    refine lv_iconst (v := nI 0) hx hb dL_law_575 (ic_0) ?_
                                    refine kn3_i (mc := 1) (ms := 6) (wa := []) (wc := (wX q cI cZ cJ k V C (pT (dT C T WK w k) V k z k) (dB C T (fun _ => 0) WK w k) (pP (fun _ => 0) V k z k) A 1 (un (fun _ => 0) 0 pr) (un (un (fun _ => 0) 0 1) 0 (un (fun _ => 0) 0 1 0 - 1)) 1000 0 WK 0 pr (cs CT pr (cr V WK w - pr)) SC9 TA2)) (wb := [(a5, .inl (cI, 8, .inl (rI V))), (a6, .inl (cI, 8, .inl (rI C))), (a7, .inl (cI, 8, .inl (rI TT)))]) (vx_runV (As := [.int (nI 0)]) (rest := []) ⟨hx, hb, hml, hown, hts⟩ (c_X0_buy l hst D q cI cZ cJ k V C (pT (dT C T WK w k) V k z k) (dB C T (fun _ => 0) WK w k) (pP (fun _ => 0) V k z k) A 1 (un (fun _ => 0) 0 pr) (un (un (fun _ => 0) 0 1) 0 (un (fun _ => 0) 0 1 0 - 1)) 1000 0 WK 0 pr (cs CT pr (cr V WK w - pr)) SC9 TA2 H.size (nI 0) hk8 hV hCs hVd (by omega) hPR2 (by omega) (fun i hi => absurd hi (Nat.not_lt_zero i)) (Nat.zero_le _)) (cwV 1 hts gL_law_X0_buy rfl rfl rfl hd_X0_buy ⟨(by first | exact Nat.le_of_ble_eq_true rfl | (show _ ≤ (_ : Nat); dsimp only [room_1]; omega)), (by first | exact Nat.le_of_ble_eq_true rfl | (show _ ≤ (_ : Nat); dsimp only [room_1]; omega))⟩) (pre_V3 (wa := []) (wc := (wX q cI cZ cJ k V C (pT (dT C T WK w k) V k z k) (dB C T (fun _ => 0) WK w k) (pP (fun _ => 0) V k z k) A 1 (un (fun _ => 0) 0 pr) (un (un (fun _ => 0) 0 1) 0 (un (fun _ => 0) 0 1 0 - 1)) 1000 0 WK 0 pr (cs CT pr (cr V WK w - pr)) SC9 TA2)) (wb := [(a5, .inl (cI, 8, .inl (rI V))), (a6, .inl (cI, 8, .inl (rI C))), (a7, .inl (cI, 8, .inl (rI TT)))]) hP hK hD hS hA hZ hg 0 (ci := 0) rfl rfl) rfl rfl hl.1 rfl (lv_room (Nat.le_of_ble_eq_true rfl)) dL_law_576 ⟨(by first | exact Nat.le_of_ble_eq_true rfl | (show _ ≤ (_ : Nat); dsimp only [room_1]; omega)), (by first | exact Nat.le_of_ble_eq_true rfl | (show _ ≤ (_ : Nat); dsimp only [room_1]; omega))⟩) hP hD hS hA (fun E h => h.2 ⟨0, by omega, by omega, rfl⟩) (fun r_33 u_32 H locs hp_34 hP hD hS => ?_)
                                    obtain ⟨c13, br2, T3, B3, P3, w3, ST3, so3, sp3, CT3, SC10, TA3⟩ := u_32
                                    have hp_34a : r_33 = nI br2 ∧ c13 < 1 ∧ (nI 0) = nI c13 ∧ buyP k V C (pT (dT C T WK w k) V k z k) (dB C T (fun _ => 0) WK w k) (pP (fun _ => 0) V k z k) (un (fun _ => 0) 0 pr) (un (un (fun _ => 0) 0 1) 0 (un (fun _ => 0) 0 1 0 - 1)) 0 WK 0 pr (cs CT pr (cr V WK w - pr)) c13 br2 T3 B3 P3 w3 ST3 so3 sp3 CT3 := hp_34
                                    clear hp_34
                                    obtain ⟨hp_34_r, hp_34⟩ := hp_34a
                                    have e_35 : 0 = c13 := (nI_eq32 (by omega) (by omega)).mp hp_34.2.1
                                    subst e_35
                                    subst hp_34_r
                                    have hP : va_P D vwCl ((wX q cI cZ cJ k V C T3 B3 P3 A 1 (un (fun _ => 0) 0 pr) ST3 1000 w3 WK so3 sp3 CT3 SC10 TA3) ++ [(a5, .inl (cI, 8, .inl (rI V))), (a6, .inl (cI, 8, .inl (rI C))), (a7, .inl (cI, 8, .inl (rI TT)))]) H := hP
                                    have hD : va_D (lA s) ((wX q cI cZ cJ k V C T3 B3 P3 A 1 (un (fun _ => 0) 0 pr) ST3 1000 w3 WK so3 sp3 CT3 SC10 TA3) ++ [(a5, .inl (cI, 8, .inl (rI V))), (a6, .inl (cI, 8, .inl (rI C))), (a7, .inl (cI, 8, .inl (rI TT)))]) := hD
                                    have hbuy2 := hp_34.2.2
                                    rcases hbuy2 with ⟨⟨e1, e2, e3, e4, e5, e6, e7, e8⟩, ⟨-, er⟩ | ⟨hs, -⟩ | ⟨hs, -⟩⟩ | ⟨hs, -⟩
                                    · rw [e1, e2, e3, e4, e5, e6, e7, e8] at hP hD
                                      refine n_top (congrArg nI er) ?_
                                      refine lv_iconst (v := nI 1) hx hb dL_law_579 (ic_1) ?_
                                      refine n_icmp_ne (tgt := 615) hx hb (by omega) (by omega) dL_law_580 (by decide) (fun c580 => ?_) (fun c580 => ?_)
                                      · exact absurd rfl c580
                                      · refine lv_aload_n hx hb dL_law_583 rfl (lv_at hl 7 rfl) ?_
                                        refine k3_i (mc := 0) (ms := 0) (wa := []) (wc := (wX q cI cZ cJ k V C (pT (dT C T WK w k) V k z k) (dB C T (fun _ => 0) WK w k) (pP (fun _ => 0) V k z k) A 1 (un (fun _ => 0) 0 pr) (un (un (fun _ => 0) 0 1) 0 (un (fun _ => 0) 0 1 0 - 1)) 1000 0 WK 0 pr (cs CT pr (cr V WK w - pr)) SC10 TA3)) (wb := [(a5, .inl (cI, 8, .inl (rI V))), (a6, .inl (cI, 8, .inl (rI C))), (a7, .inl (cI, 8, .inl (rI TT)))]) (va_runV (As := []) (rest := []) ⟨hx, hb, hml, hown, hts⟩ (c_X0_cancel l hst D q cI cZ cJ k V C (pT (dT C T WK w k) V k z k) (dB C T (fun _ => 0) WK w k) (pP (fun _ => 0) V k z k) A 1 (un (fun _ => 0) 0 pr) (un (un (fun _ => 0) 0 1) 0 (un (fun _ => 0) 0 1 0 - 1)) 1000 0 WK 0 pr (cs CT pr (cr V WK w - pr)) SC10 TA3 H.size (by omega) hk8 (fun i hi => absurd hi (Nat.not_lt_zero i)) hV) (cwV 0 hts gL_law_X0_cancel rfl rfl rfl hd_X0_cancel ⟨(by first | exact Nat.le_of_ble_eq_true rfl | (show _ ≤ (_ : Nat); dsimp only [room_1]; omega)), (by first | exact Nat.le_of_ble_eq_true rfl | (show _ ≤ (_ : Nat); dsimp only [room_1]; omega))⟩) (pre_V3 (wa := []) (wc := (wX q cI cZ cJ k V C (pT (dT C T WK w k) V k z k) (dB C T (fun _ => 0) WK w k) (pP (fun _ => 0) V k z k) A 1 (un (fun _ => 0) 0 pr) (un (un (fun _ => 0) 0 1) 0 (un (fun _ => 0) 0 1 0 - 1)) 1000 0 WK 0 pr (cs CT pr (cr V WK w - pr)) SC10 TA3)) (wb := [(a5, .inl (cI, 8, .inl (rI V))), (a6, .inl (cI, 8, .inl (rI C))), (a7, .inl (cI, 8, .inl (rI TT)))]) hP hK hD hS hA hZ hg 0 (ci := 0) rfl rfl) rfl rfl hl.1 rfl (lv_room (Nat.le_of_ble_eq_true rfl)) dL_law_584 ⟨(by first | exact Nat.le_of_ble_eq_true rfl | (show _ ≤ (_ : Nat); dsimp only [room_1]; omega)), (by first | exact Nat.le_of_ble_eq_true rfl | (show _ ≤ (_ : Nat); dsimp only [room_1]; omega))⟩) hP hD hS hA (fun r_37 u_36 H locs hp_38 hP hD hS => ?_)
                                        have hP : va_P D vwCl ((wX q cI cZ cJ k V C (pT (dT C T WK w k) V k z k) (dB C T (fun _ => 0) WK w k) (pP (fun _ => 0) V k z k) A 1 (un (fun _ => 0) 0 pr) (un (un (fun _ => 0) 0 1) 0 (un (fun _ => 0) 0 1 0 - 1)) 1000 0 WK 0 pr (vp_updL (cs CT pr (cr V WK w - pr)) 1 ((cs CT pr (cr V WK w - pr)) 1 + lZ ((cr V WK 0 : Nat) : Int))) SC10 TA3) ++ [(a5, .inl (cI, 8, .inl (rI V))), (a6, .inl (cI, 8, .inl (rI C))), (a7, .inl (cI, 8, .inl (rI TT)))]) H := hP
                                        have hD : va_D (lA s) ((wX q cI cZ cJ k V C (pT (dT C T WK w k) V k z k) (dB C T (fun _ => 0) WK w k) (pP (fun _ => 0) V k z k) A 1 (un (fun _ => 0) 0 pr) (un (un (fun _ => 0) 0 1) 0 (un (fun _ => 0) 0 1 0 - 1)) 1000 0 WK 0 pr (vp_updL (cs CT pr (cr V WK w - pr)) 1 ((cs CT pr (cr V WK w - pr)) 1 + lZ ((cr V WK 0 : Nat) : Int))) SC10 TA3) ++ [(a5, .inl (cI, 8, .inl (rI V))), (a6, .inl (cI, 8, .inl (rI C))), (a7, .inl (cI, 8, .inl (rI TT)))]) := hD
                                        subst hp_38
                                        refine n_top (y := nI 0) rfl ?_
                                        refine n_if_ne (tgt := 615) hx hb (by decide) dL_law_587 (by decide) (fun c587 => ?_) (fun c587 => ?_)
                                        · exact absurd c587 (by decide)
                                        · refine lv_aload_n hx hb dL_law_590 rfl (lv_at hl 7 rfl) ?_
                                          refine lv_iconst (v := nI 0) hx hb dL_law_591 (ic_0) ?_
                                          refine kn3_l (mc := 1) (ms := 6) (wa := []) (wc := (wX q cI cZ cJ k V C (pT (dT C T WK w k) V k z k) (dB C T (fun _ => 0) WK w k) (pP (fun _ => 0) V k z k) A 1 (un (fun _ => 0) 0 pr) (un (un (fun _ => 0) 0 1) 0 (un (fun _ => 0) 0 1 0 - 1)) 1000 0 WK 0 pr (vp_updL (cs CT pr (cr V WK w - pr)) 1 ((cs CT pr (cr V WK w - pr)) 1 + lZ ((cr V WK 0 : Nat) : Int))) SC10 TA3)) (wb := [(a5, .inl (cI, 8, .inl (rI V))), (a6, .inl (cI, 8, .inl (rI C))), (a7, .inl (cI, 8, .inl (rI TT)))]) (vx_runV (As := [.int (nI 0)]) (rest := []) ⟨hx, hb, hml, hown, hts⟩ (c_X0_audit l hst D q cI cZ cJ k V C (pT (dT C T WK w k) V k z k) (dB C T (fun _ => 0) WK w k) (pP (fun _ => 0) V k z k) A 1 (un (fun _ => 0) 0 pr) (un (un (fun _ => 0) 0 1) 0 (un (fun _ => 0) 0 1 0 - 1)) 1000 0 WK 0 pr (vp_updL (cs CT pr (cr V WK w - pr)) 1 ((cs CT pr (cr V WK w - pr)) 1 + lZ ((cr V WK 0 : Nat) : Int))) SC10 TA3 H.size (nI 0)) (cwV 1 hts gL_law_X0_audit rfl rfl rfl hd_X0_audit ⟨(by first | exact Nat.le_of_ble_eq_true rfl | (show _ ≤ (_ : Nat); dsimp only [room_1]; omega)), (by first | exact Nat.le_of_ble_eq_true rfl | (show _ ≤ (_ : Nat); dsimp only [room_1]; omega))⟩) (pre_V3 (wa := []) (wc := (wX q cI cZ cJ k V C (pT (dT C T WK w k) V k z k) (dB C T (fun _ => 0) WK w k) (pP (fun _ => 0) V k z k) A 1 (un (fun _ => 0) 0 pr) (un (un (fun _ => 0) 0 1) 0 (un (fun _ => 0) 0 1 0 - 1)) 1000 0 WK 0 pr (vp_updL (cs CT pr (cr V WK w - pr)) 1 ((cs CT pr (cr V WK w - pr)) 1 + lZ ((cr V WK 0 : Nat) : Int))) SC10 TA3)) (wb := [(a5, .inl (cI, 8, .inl (rI V))), (a6, .inl (cI, 8, .inl (rI C))), (a7, .inl (cI, 8, .inl (rI TT)))]) hP hK hD hS hA hZ hg 0 (ci := 0) rfl rfl) rfl rfl hl.1 rfl (lv_room (Nat.le_of_ble_eq_true rfl)) dL_law_592 ⟨(by first | exact Nat.le_of_ble_eq_true rfl | (show _ ≤ (_ : Nat); dsimp only [room_1]; omega)), (by first | exact Nat.le_of_ble_eq_true rfl | (show _ ≤ (_ : Nat); dsimp only [room_1]; omega))⟩) hP hD hS hA (fun E h => h.2 ⟨0, by omega, by omega, rfl⟩) (fun r_40 u_39 H locs hp_41 hP hD hS => ?_)
                                          obtain ⟨n1, hn1_⟩ : ∃ x9 : Nat, x9 = u_39 := ⟨_, rfl⟩
                                          subst hn1_
                                          have hp_41a : r_40 = (vp_updL (cs CT pr (cr V WK w - pr)) 1 ((cs CT pr (cr V WK w - pr)) 1 + lZ ((cr V WK 0 : Nat) : Int))) n1 ∧ n1 < 10 ∧ (nI 0) = nI n1 := hp_41
                                          clear hp_41
                                          obtain ⟨hp_41_r, hp_41⟩ := hp_41a
                                          have e_42 : 0 = n1 := (nI_eq32 (by omega) (by omega)).mp hp_41.2
                                          subst e_42
                                          subst hp_41_r
                                          have hP : va_P D vwCl ((wX q cI cZ cJ k V C (pT (dT C T WK w k) V k z k) (dB C T (fun _ => 0) WK w k) (pP (fun _ => 0) V k z k) A 1 (un (fun _ => 0) 0 pr) (un (un (fun _ => 0) 0 1) 0 (un (fun _ => 0) 0 1 0 - 1)) 1000 0 WK 0 pr (vp_updL (cs CT pr (cr V WK w - pr)) 1 ((cs CT pr (cr V WK w - pr)) 1 + lZ ((cr V WK 0 : Nat) : Int))) SC10 TA3) ++ [(a5, .inl (cI, 8, .inl (rI V))), (a6, .inl (cI, 8, .inl (rI C))), (a7, .inl (cI, 8, .inl (rI TT)))]) H := hP
                                          have hD : va_D (lA s) ((wX q cI cZ cJ k V C (pT (dT C T WK w k) V k z k) (dB C T (fun _ => 0) WK w k) (pP (fun _ => 0) V k z k) A 1 (un (fun _ => 0) 0 pr) (un (un (fun _ => 0) 0 1) 0 (un (fun _ => 0) 0 1 0 - 1)) 1000 0 WK 0 pr (vp_updL (cs CT pr (cr V WK w - pr)) 1 ((cs CT pr (cr V WK w - pr)) 1 + lZ ((cr V WK 0 : Nat) : Int))) SC10 TA3) ++ [(a5, .inl (cI, 8, .inl (rI V))), (a6, .inl (cI, 8, .inl (rI C))), (a7, .inl (cI, 8, .inl (rI TT)))]) := hD
                                          refine n_topl (y := lZ (((pd : Nat) : Int))) (by rw [updL_n (by decide), cs_0]; exact hC0) ?_
                                          refine lv_aload_n hx hb dL_law_595 rfl (lv_at hl 7 rfl) ?_
                                          refine lv_iconst (v := nI 2) hx hb dL_law_596 (ic_2) ?_
                                          refine kn3_l (mc := 1) (ms := 6) (wa := []) (wc := (wX q cI cZ cJ k V C (pT (dT C T WK w k) V k z k) (dB C T (fun _ => 0) WK w k) (pP (fun _ => 0) V k z k) A 1 (un (fun _ => 0) 0 pr) (un (un (fun _ => 0) 0 1) 0 (un (fun _ => 0) 0 1 0 - 1)) 1000 0 WK 0 pr (vp_updL (cs CT pr (cr V WK w - pr)) 1 ((cs CT pr (cr V WK w - pr)) 1 + lZ ((cr V WK 0 : Nat) : Int))) SC10 TA3)) (wb := [(a5, .inl (cI, 8, .inl (rI V))), (a6, .inl (cI, 8, .inl (rI C))), (a7, .inl (cI, 8, .inl (rI TT)))]) (vx_runV (As := [.int (nI 2)]) (rest := [.long (lZ ((pd : Nat) : Int))]) ⟨hx, hb, hml, hown, hts⟩ (c_X0_audit l hst D q cI cZ cJ k V C (pT (dT C T WK w k) V k z k) (dB C T (fun _ => 0) WK w k) (pP (fun _ => 0) V k z k) A 1 (un (fun _ => 0) 0 pr) (un (un (fun _ => 0) 0 1) 0 (un (fun _ => 0) 0 1 0 - 1)) 1000 0 WK 0 pr (vp_updL (cs CT pr (cr V WK w - pr)) 1 ((cs CT pr (cr V WK w - pr)) 1 + lZ ((cr V WK 0 : Nat) : Int))) SC10 TA3 H.size (nI 2)) (cwV 1 hts gL_law_X0_audit rfl rfl rfl hd_X0_audit ⟨(by first | exact Nat.le_of_ble_eq_true rfl | (show _ ≤ (_ : Nat); dsimp only [room_1]; omega)), (by first | exact Nat.le_of_ble_eq_true rfl | (show _ ≤ (_ : Nat); dsimp only [room_1]; omega))⟩) (pre_V3 (wa := []) (wc := (wX q cI cZ cJ k V C (pT (dT C T WK w k) V k z k) (dB C T (fun _ => 0) WK w k) (pP (fun _ => 0) V k z k) A 1 (un (fun _ => 0) 0 pr) (un (un (fun _ => 0) 0 1) 0 (un (fun _ => 0) 0 1 0 - 1)) 1000 0 WK 0 pr (vp_updL (cs CT pr (cr V WK w - pr)) 1 ((cs CT pr (cr V WK w - pr)) 1 + lZ ((cr V WK 0 : Nat) : Int))) SC10 TA3)) (wb := [(a5, .inl (cI, 8, .inl (rI V))), (a6, .inl (cI, 8, .inl (rI C))), (a7, .inl (cI, 8, .inl (rI TT)))]) hP hK hD hS hA hZ hg 0 (ci := 0) rfl rfl) rfl rfl hl.1 rfl (lv_room (Nat.le_of_ble_eq_true rfl)) dL_law_597 ⟨(by first | exact Nat.le_of_ble_eq_true rfl | (show _ ≤ (_ : Nat); dsimp only [room_1]; omega)), (by first | exact Nat.le_of_ble_eq_true rfl | (show _ ≤ (_ : Nat); dsimp only [room_1]; omega))⟩) hP hD hS hA (fun E h => h.2 ⟨2, by omega, by omega, rfl⟩) (fun r_44 u_43 H locs hp_45 hP hD hS => ?_)
                                          obtain ⟨n2, hn2_⟩ : ∃ x9 : Nat, x9 = u_43 := ⟨_, rfl⟩
                                          subst hn2_
                                          have hp_45a : r_44 = (vp_updL (cs CT pr (cr V WK w - pr)) 1 ((cs CT pr (cr V WK w - pr)) 1 + lZ ((cr V WK 0 : Nat) : Int))) n2 ∧ n2 < 10 ∧ (nI 2) = nI n2 := hp_45
                                          clear hp_45
                                          obtain ⟨hp_45_r, hp_45⟩ := hp_45a
                                          have e_46 : 2 = n2 := (nI_eq32 (by omega) (by omega)).mp hp_45.2
                                          subst e_46
                                          subst hp_45_r
                                          have hP : va_P D vwCl ((wX q cI cZ cJ k V C (pT (dT C T WK w k) V k z k) (dB C T (fun _ => 0) WK w k) (pP (fun _ => 0) V k z k) A 1 (un (fun _ => 0) 0 pr) (un (un (fun _ => 0) 0 1) 0 (un (fun _ => 0) 0 1 0 - 1)) 1000 0 WK 0 pr (vp_updL (cs CT pr (cr V WK w - pr)) 1 ((cs CT pr (cr V WK w - pr)) 1 + lZ ((cr V WK 0 : Nat) : Int))) SC10 TA3) ++ [(a5, .inl (cI, 8, .inl (rI V))), (a6, .inl (cI, 8, .inl (rI C))), (a7, .inl (cI, 8, .inl (rI TT)))]) H := hP
                                          have hD : va_D (lA s) ((wX q cI cZ cJ k V C (pT (dT C T WK w k) V k z k) (dB C T (fun _ => 0) WK w k) (pP (fun _ => 0) V k z k) A 1 (un (fun _ => 0) 0 pr) (un (un (fun _ => 0) 0 1) 0 (un (fun _ => 0) 0 1 0 - 1)) 1000 0 WK 0 pr (vp_updL (cs CT pr (cr V WK w - pr)) 1 ((cs CT pr (cr V WK w - pr)) 1 + lZ ((cr V WK 0 : Nat) : Int))) SC10 TA3) ++ [(a5, .inl (cI, 8, .inl (rI V))), (a6, .inl (cI, 8, .inl (rI C))), (a7, .inl (cI, 8, .inl (rI TT)))]) := hD
                                          refine n_topl (y := lZ (((pd - pr : Nat) : Int))) (by rw [updL_n (by decide), cs_2, hC2, lZ_add, ← hpd]; congr 1; omega) ?_
                                          refine lv_lsub hx hb dL_law_600 ?_
                                          refine n_topl (y := lZ (((pr : Nat) : Int))) (by rw [lZ_sub]; congr 1; omega) ?_
                                          refine lv_aload_n hx hb dL_law_601 rfl (lv_at hl 7 rfl) ?_
                                          refine lv_bipush (v := nI 7) hx hb dL_law_602 (by decide) ?_
                                          refine kn3_l (mc := 1) (ms := 6) (wa := []) (wc := (wX q cI cZ cJ k V C (pT (dT C T WK w k) V k z k) (dB C T (fun _ => 0) WK w k) (pP (fun _ => 0) V k z k) A 1 (un (fun _ => 0) 0 pr) (un (un (fun _ => 0) 0 1) 0 (un (fun _ => 0) 0 1 0 - 1)) 1000 0 WK 0 pr (vp_updL (cs CT pr (cr V WK w - pr)) 1 ((cs CT pr (cr V WK w - pr)) 1 + lZ ((cr V WK 0 : Nat) : Int))) SC10 TA3)) (wb := [(a5, .inl (cI, 8, .inl (rI V))), (a6, .inl (cI, 8, .inl (rI C))), (a7, .inl (cI, 8, .inl (rI TT)))]) (vx_runV (As := [.int (nI 7)]) (rest := [.long (lZ ((pr : Nat) : Int))]) ⟨hx, hb, hml, hown, hts⟩ (c_X0_audit l hst D q cI cZ cJ k V C (pT (dT C T WK w k) V k z k) (dB C T (fun _ => 0) WK w k) (pP (fun _ => 0) V k z k) A 1 (un (fun _ => 0) 0 pr) (un (un (fun _ => 0) 0 1) 0 (un (fun _ => 0) 0 1 0 - 1)) 1000 0 WK 0 pr (vp_updL (cs CT pr (cr V WK w - pr)) 1 ((cs CT pr (cr V WK w - pr)) 1 + lZ ((cr V WK 0 : Nat) : Int))) SC10 TA3 H.size (nI 7)) (cwV 1 hts gL_law_X0_audit rfl rfl rfl hd_X0_audit ⟨(by first | exact Nat.le_of_ble_eq_true rfl | (show _ ≤ (_ : Nat); dsimp only [room_1]; omega)), (by first | exact Nat.le_of_ble_eq_true rfl | (show _ ≤ (_ : Nat); dsimp only [room_1]; omega))⟩) (pre_V3 (wa := []) (wc := (wX q cI cZ cJ k V C (pT (dT C T WK w k) V k z k) (dB C T (fun _ => 0) WK w k) (pP (fun _ => 0) V k z k) A 1 (un (fun _ => 0) 0 pr) (un (un (fun _ => 0) 0 1) 0 (un (fun _ => 0) 0 1 0 - 1)) 1000 0 WK 0 pr (vp_updL (cs CT pr (cr V WK w - pr)) 1 ((cs CT pr (cr V WK w - pr)) 1 + lZ ((cr V WK 0 : Nat) : Int))) SC10 TA3)) (wb := [(a5, .inl (cI, 8, .inl (rI V))), (a6, .inl (cI, 8, .inl (rI C))), (a7, .inl (cI, 8, .inl (rI TT)))]) hP hK hD hS hA hZ hg 0 (ci := 0) rfl rfl) rfl rfl hl.1 rfl (lv_room (Nat.le_of_ble_eq_true rfl)) dL_law_604 ⟨(by first | exact Nat.le_of_ble_eq_true rfl | (show _ ≤ (_ : Nat); dsimp only [room_1]; omega)), (by first | exact Nat.le_of_ble_eq_true rfl | (show _ ≤ (_ : Nat); dsimp only [room_1]; omega))⟩) hP hD hS hA (fun E h => h.2 ⟨7, by omega, by omega, rfl⟩) (fun r_48 u_47 H locs hp_49 hP hD hS => ?_)
                                          obtain ⟨n3, hn3_⟩ : ∃ x9 : Nat, x9 = u_47 := ⟨_, rfl⟩
                                          subst hn3_
                                          have hp_49a : r_48 = (vp_updL (cs CT pr (cr V WK w - pr)) 1 ((cs CT pr (cr V WK w - pr)) 1 + lZ ((cr V WK 0 : Nat) : Int))) n3 ∧ n3 < 10 ∧ (nI 7) = nI n3 := hp_49
                                          clear hp_49
                                          obtain ⟨hp_49_r, hp_49⟩ := hp_49a
                                          have e_50 : 7 = n3 := (nI_eq32 (by omega) (by omega)).mp hp_49.2
                                          subst e_50
                                          subst hp_49_r
                                          have hP : va_P D vwCl ((wX q cI cZ cJ k V C (pT (dT C T WK w k) V k z k) (dB C T (fun _ => 0) WK w k) (pP (fun _ => 0) V k z k) A 1 (un (fun _ => 0) 0 pr) (un (un (fun _ => 0) 0 1) 0 (un (fun _ => 0) 0 1 0 - 1)) 1000 0 WK 0 pr (vp_updL (cs CT pr (cr V WK w - pr)) 1 ((cs CT pr (cr V WK w - pr)) 1 + lZ ((cr V WK 0 : Nat) : Int))) SC10 TA3) ++ [(a5, .inl (cI, 8, .inl (rI V))), (a6, .inl (cI, 8, .inl (rI C))), (a7, .inl (cI, 8, .inl (rI TT)))]) H := hP
                                          have hD : va_D (lA s) ((wX q cI cZ cJ k V C (pT (dT C T WK w k) V k z k) (dB C T (fun _ => 0) WK w k) (pP (fun _ => 0) V k z k) A 1 (un (fun _ => 0) 0 pr) (un (un (fun _ => 0) 0 1) 0 (un (fun _ => 0) 0 1 0 - 1)) 1000 0 WK 0 pr (vp_updL (cs CT pr (cr V WK w - pr)) 1 ((cs CT pr (cr V WK w - pr)) 1 + lZ ((cr V WK 0 : Nat) : Int))) SC10 TA3) ++ [(a5, .inl (cI, 8, .inl (rI V))), (a6, .inl (cI, 8, .inl (rI C))), (a7, .inl (cI, 8, .inl (rI TT)))]) := hD
                                          refine n_topl (y := lZ (((pr : Nat) : Int))) (by rw [updL_n (by decide), cs_7, hC7, lZ_add]; congr 1; omega) ?_
                                          refine n_lcmp_ne (tgt := 615) hx hb dL_law_607 dL_law_608 (by decide) (fun c607 => ?_) (fun c607 => ?_)
                                          · exact absurd rfl c607
                                          · refine lv_iconst (v := nI 1) hx hb dL_law_611 (ic_1) ?_
                                            refine lv_goto (tgt := 616) hx hb dL_law_612 (by decide) ?_
                                            refine n_top (show nI 1 = 1 from by decide) ?_
                                            subst hQ
                                            refine va_forget hS.2.2 ?_
                                            refine W.widen (k := 600130) (n := 7301080) (by omega) (by omega) ?_
                                            exact lw_ret hx hb hr hlocks dL_law_616
                                    · exact absurd (show un (un (fun _ => 0) 0 1) 0 (un (fun _ => 0) 0 1 0 - 1) 0 = 0 from rfl) hs
                                    · exact absurd (show un (un (fun _ => 0) 0 1) 0 (un (fun _ => 0) 0 1 0 - 1) 0 = 0 from rfl) hs
                                    · exact absurd (show un (un (fun _ => 0) 0 1) 0 (un (fun _ => 0) 0 1 0 - 1) 0 = 0 from rfl) hs
                                · refine lv_iload hx hb dL_law_541 (lv_at hl 1 rfl) ?_
                                  refine lv_aload_n hx hb dL_law_543 rfl (lv_at hl 7 rfl) ?_
                                  refine lv_iload hx hb dL_law_544 (lv_at hl 0 rfl) ?_
                                  refine lv_iconst (v := nI 3) hx hb dL_law_546 (ic_3) ?_
                                  refine kn3_i (mc := 2) (ms := 12) (wa := []) (wc := (wX q cI cZ cJ k V C (pT (dT C T WK w k) V k z k) (dB C T (fun _ => 0) WK w k) (pP (fun _ => 0) V k z k) A 1 (un (fun _ => 0) 0 pr) (un (un (fun _ => 0) 0 1) 0 (un (fun _ => 0) 0 1 0 - 1)) 1000 0 WK 0 pr (cs CT pr (cr V WK w - pr)) SC9 TA2)) (wb := [(a5, .inl (cI, 8, .inl (rI V))), (a6, .inl (cI, 8, .inl (rI C))), (a7, .inl (cI, 8, .inl (rI TT)))]) (vx_runV (As := [.int (nI j), .int (nI 3)]) (rest := [.int (nI bk)]) ⟨hx, hb, hml, hown, hts⟩ (c_X0_coins l hst D q cI cZ cJ k V C (pT (dT C T WK w k) V k z k) (dB C T (fun _ => 0) WK w k) (pP (fun _ => 0) V k z k) A 1 (un (fun _ => 0) 0 pr) (un (un (fun _ => 0) 0 1) 0 (un (fun _ => 0) 0 1 0 - 1)) 1000 0 WK 0 pr (cs CT pr (cr V WK w - pr)) SC9 TA2 H.size (nI j) (nI 3) hk8) (cwV 2 hts gL_law_X0_coins rfl rfl rfl hd_X0_coins ⟨(by first | exact Nat.le_of_ble_eq_true rfl | (show _ ≤ (_ : Nat); dsimp only [room_1]; omega)), (by first | exact Nat.le_of_ble_eq_true rfl | (show _ ≤ (_ : Nat); dsimp only [room_1]; omega))⟩) (pre_V3 (wa := []) (wc := (wX q cI cZ cJ k V C (pT (dT C T WK w k) V k z k) (dB C T (fun _ => 0) WK w k) (pP (fun _ => 0) V k z k) A 1 (un (fun _ => 0) 0 pr) (un (un (fun _ => 0) 0 1) 0 (un (fun _ => 0) 0 1 0 - 1)) 1000 0 WK 0 pr (cs CT pr (cr V WK w - pr)) SC9 TA2)) (wb := [(a5, .inl (cI, 8, .inl (rI V))), (a6, .inl (cI, 8, .inl (rI C))), (a7, .inl (cI, 8, .inl (rI TT)))]) hP hK hD hS hA hZ hg 0 (ci := 0) rfl rfl) rfl rfl hl.1 rfl (lv_room (Nat.le_of_ble_eq_true rfl)) dL_law_547 ⟨(by first | exact Nat.le_of_ble_eq_true rfl | (show _ ≤ (_ : Nat); dsimp only [room_1]; omega)), (by first | exact Nat.le_of_ble_eq_true rfl | (show _ ≤ (_ : Nat); dsimp only [room_1]; omega))⟩) hP hD hS hA (fun E h => h.2 ⟨⟨j, by omega, by omega, rfl⟩, ⟨3, by omega, by omega, rfl⟩⟩) (fun r_52 u_51 H locs hp_53 hP hD hS => ?_)
                                  obtain ⟨c11, c12⟩ := u_51
                                  have hp_53a : r_52 = nI (tld V (pT (dT C T WK w k) V k z k) (dB C T (fun _ => 0) WK w k) (pP (fun _ => 0) V k z k) c11 c12) ∧ c11 < k ∧ c12 < 4 ∧ (nI j) = nI c11 ∧ (nI 3) = nI c12 := hp_53
                                  clear hp_53
                                  obtain ⟨hp_53_r, hp_53⟩ := hp_53a
                                  have e_54 : j = c11 := (nI_eq32 (by omega) (by omega)).mp hp_53.2.2.1
                                  subst e_54
                                  have e_55 : 3 = c12 := (nI_eq32 (by omega) (by omega)).mp hp_53.2.2.2
                                  subst e_55
                                  subst hp_53_r
                                  have hP : va_P D vwCl ((wX q cI cZ cJ k V C (pT (dT C T WK w k) V k z k) (dB C T (fun _ => 0) WK w k) (pP (fun _ => 0) V k z k) A 1 (un (fun _ => 0) 0 pr) (un (un (fun _ => 0) 0 1) 0 (un (fun _ => 0) 0 1 0 - 1)) 1000 0 WK 0 pr (cs CT pr (cr V WK w - pr)) SC9 TA2) ++ [(a5, .inl (cI, 8, .inl (rI V))), (a6, .inl (cI, 8, .inl (rI C))), (a7, .inl (cI, 8, .inl (rI TT)))]) H := hP
                                  have hD : va_D (lA s) ((wX q cI cZ cJ k V C (pT (dT C T WK w k) V k z k) (dB C T (fun _ => 0) WK w k) (pP (fun _ => 0) V k z k) A 1 (un (fun _ => 0) 0 pr) (un (un (fun _ => 0) 0 1) 0 (un (fun _ => 0) 0 1 0 - 1)) 1000 0 WK 0 pr (cs CT pr (cr V WK w - pr)) SC9 TA2) ++ [(a5, .inl (cI, 8, .inl (rI V))), (a6, .inl (cI, 8, .inl (rI C))), (a7, .inl (cI, 8, .inl (rI TT)))]) := hD
                                  refine n_top (congrArg nI (show tld V (pT (dT C T WK w k) V k z k) (dB C T (fun _ => 0) WK w k) (pP (fun _ => 0) V k z k) j 3 = pz z (lc V (V j) k) from (show pP (fun _ => 0) V k z k j = pz z (lc V (V j) k) from if_pos (show j < k by omega)))) ?_
                                  refine lv_aload_n hx hb dL_law_550 rfl (lv_at hl 6 rfl) ?_
                                  refine lv_iload hx hb dL_law_551 (lv_at hl 0 rfl) ?_
                                  refine n_iald hx hb hK hP 13 0 rfl rfl (by omega) (by decide) dL_law_553 ?_
                                  refine n_imul hx hb dL_law_554 ?_
                                  refine n_iadd hx hb dL_law_555 ?_
                                  refine lv_istore (lv' := [(10, .int (nI (bk + ((pz z (lc V (V j) k)) * (V j))))), (11, .int (nI j)), (6, .int (nI pd)), (5, .int (nI pr)), (4, .int (nI k)), (3, .ref a6), (2, .ref a5), (1, .ref (q 0)), (0, .ref b)]) hx hb dL_law_556 hl (by decide) rfl (fun ls hl => ?_)
                                  refine lv_iinc (v := nI (j + 1)) (lv' := [(11, .int (nI (j + 1))), (10, .int (nI (bk + ((pz z (lc V (V j) k)) * (V j))))), (6, .int (nI pd)), (5, .int (nI pr)), (4, .int (nI k)), (3, .ref a6), (2, .ref a5), (1, .ref (q 0)), (0, .ref b)]) hx hb dL_law_558 hl (k := 1) rfl (ni_inc _ 1) (by decide) rfl (fun ls hl => ?_)
                                  refine lv_goto (tgt := 534) hx hb dL_law_561 (by decide) ?_
                                  refine W.widen (k := 800 + 2 * (j + 1)) (n := 9000 + 12 * (j + 1)) (by omega) (by omega) ?_
                                  exact ih_534 (j + 1) (bk + ((pz z (lc V (V j) k)) * (V j))) (by omega) (by omega) (by rw [hbk]; rfl) _ _ hP hD hS ls (lv_sub hl [0, 1, 2, 3, 4, 5, 6, 7, 8] rfl)
                            refine W.widen (k := 800 + 2 * 0) (n := 9000 + 12 * 0) (by omega) (by omega) ?_
                            exact lp_534 _ 0 0 (Nat.lt_succ_self _) (by omega) rfl _ _ hP hD hS ls (lv_sub hl [0, 1, 4, 5, 6, 7, 8, 9, 10] rfl)
                          · exact absurd c523 (by decide)
                        · exact absurd c497 (by decide)
                    · exact absurd c484 (by omega)
                  · exact absurd c472 (by decide)
            · refine lv_aload_n hx hb dL_law_408 rfl (lv_at hl 7 rfl) ?_
              refine lv_bipush (v := nI 12) hx hb dL_law_409 (by decide) ?_
              refine k3_i (mc := 0) (ms := 0) (wa := []) (wc := (wX q cI cZ cJ k V C T (fun _ => 0) (fun _ => 0) A 1 (un (fun _ => 0) 0 pr) (un (fun _ => 0) 0 1) 1000 w WK 4294967295 0 CT SC (fun _ => 0))) (wb := [(a5, .inl (cI, 8, .inl (rI V))), (a6, .inl (cI, 8, .inl (rI C))), (a7, .inl (cI, 8, .inl (rI TT)))]) (va_runS (As := [.ref b, .int (nI 12)]) (rest := []) ⟨hx, hb, hml, hown, hts⟩ (c_L_cell l hst D q cI cZ cJ k V C T (fun _ => 0) (fun _ => 0) A 1 (un (fun _ => 0) 0 pr) (un (fun _ => 0) 0 1) 1000 w WK 4294967295 0 CT SC (fun _ => 0) H.size b L xs 12 (by omega) hL) (va_cwS 2 hts gL_law_L_cell rfl rfl rfl hd_L_cell.2 ⟨(by first | exact Nat.le_of_ble_eq_true rfl | (show _ ≤ (_ : Nat); dsimp only [room_1]; omega)), (by first | exact Nat.le_of_ble_eq_true rfl | (show _ ≤ (_ : Nat); dsimp only [room_1]; omega))⟩) (pre_SS (wa := []) (wc := (wX q cI cZ cJ k V C T (fun _ => 0) (fun _ => 0) A 1 (un (fun _ => 0) 0 pr) (un (fun _ => 0) 0 1) 1000 w WK 4294967295 0 CT SC (fun _ => 0))) (wb := [(a5, .inl (cI, 8, .inl (rI V))), (a6, .inl (cI, 8, .inl (rI C))), (a7, .inl (cI, 8, .inl (rI TT)))]) hP hK hD hS hA hZ hg hX hbl hbA) rfl rfl hl.1 rfl (lv_room (Nat.le_of_ble_eq_true rfl)) dL_law_411 ⟨(by first | exact Nat.le_of_ble_eq_true rfl | (show _ ≤ (_ : Nat); dsimp only [room_1]; omega)), (by first | exact Nat.le_of_ble_eq_true rfl | (show _ ≤ (_ : Nat); dsimp only [room_1]; omega))⟩) hP hD hS hA (fun r_56 x6 H locs hp_57 hP hD hS => ?_)
              have hP : va_P D vwCl ((wX q cI cZ cJ k V C T (fun _ => 0) (fun _ => 0) A 1 (un (fun _ => 0) 0 pr) (un (fun _ => 0) 0 1) 1000 w WK 4294967295 0 CT SC (fun _ => 0)) ++ [(a5, .inl (cI, 8, .inl (rI V))), (a6, .inl (cI, 8, .inl (rI C))), (a7, .inl (cI, 8, .inl (rI TT)))]) H := hP
              have hD : va_D (lA s) ((wX q cI cZ cJ k V C T (fun _ => 0) (fun _ => 0) A 1 (un (fun _ => 0) 0 pr) (un (fun _ => 0) 0 1) 1000 w WK 4294967295 0 CT SC (fun _ => 0)) ++ [(a5, .inl (cI, 8, .inl (rI V))), (a6, .inl (cI, 8, .inl (rI C))), (a7, .inl (cI, 8, .inl (rI TT)))]) := hD
              have hp_57 := hp_57.symm
              subst hp_57
              refine lv_iconst (v := nI 3) hx hb dL_law_414 (ic_3) ?_
              refine lv_iload hx hb dL_law_415 (lv_at hl 0 rfl) ?_
              refine n_imul hx hb dL_law_417 ?_
              refine lv_ishr hx hb dL_law_418 ?_
              obtain ⟨x7, hx7⟩ : ∃ x9 : Int32, x9 = x6 >>> (nI (3 * j) &&& 31) := ⟨_, rfl⟩
              refine n_top hx7.symm ?_
              refine lv_iload hx hb dL_law_419 (lv_at hl 3 rfl) ?_
              refine k3_i (mc := 0) (ms := 0) (wa := []) (wc := (wX q cI cZ cJ k V C T (fun _ => 0) (fun _ => 0) A 1 (un (fun _ => 0) 0 pr) (un (fun _ => 0) 0 1) 1000 w WK 4294967295 0 CT SC (fun _ => 0))) (wb := [(a5, .inl (cI, 8, .inl (rI V))), (a6, .inl (cI, 8, .inl (rI C))), (a7, .inl (cI, 8, .inl (rI TT)))]) (va_runS (As := [.int x7, .int (nI k)]) (rest := []) ⟨hx, hb, hml, hown, hts⟩ (c_L_below l hst D q cI cZ cJ k V C T (fun _ => 0) (fun _ => 0) A 1 (un (fun _ => 0) 0 pr) (un (fun _ => 0) 0 1) 1000 w WK 4294967295 0 CT SC (fun _ => 0) H.size x7 k (⟨hk1, by omega⟩)) (va_cwS 2 hts gL_law_L_below rfl rfl rfl hd_L_below.2 ⟨(by first | exact Nat.le_of_ble_eq_true rfl | (show _ ≤ (_ : Nat); dsimp only [room_1]; omega)), (by first | exact Nat.le_of_ble_eq_true rfl | (show _ ≤ (_ : Nat); dsimp only [room_1]; omega))⟩) (pre_S (j_pm (wa := []) (wc := (wX q cI cZ cJ k V C T (fun _ => 0) (fun _ => 0) A 1 (un (fun _ => 0) 0 pr) (un (fun _ => 0) 0 1) 1000 w WK 4294967295 0 CT SC (fun _ => 0))) (wb := [(a5, .inl (cI, 8, .inl (rI V))), (a6, .inl (cI, 8, .inl (rI C))), (a7, .inl (cI, 8, .inl (rI TT)))]) hP) hK (j_mid (wa := []) (wc := (wX q cI cZ cJ k V C T (fun _ => 0) (fun _ => 0) A 1 (un (fun _ => 0) 0 pr) (un (fun _ => 0) 0 1) 1000 w WK 4294967295 0 CT SC (fun _ => 0))) (wb := [(a5, .inl (cI, 8, .inl (rI V))), (a6, .inl (cI, 8, .inl (rI C))), (a7, .inl (cI, 8, .inl (rI TT)))]) hD) hS hA hZ hg) rfl rfl hl.1 rfl (lv_room (Nat.le_of_ble_eq_true rfl)) dL_law_421 ⟨(by first | exact Nat.le_of_ble_eq_true rfl | (show _ ≤ (_ : Nat); dsimp only [room_1]; omega)), (by first | exact Nat.le_of_ble_eq_true rfl | (show _ ≤ (_ : Nat); dsimp only [room_1]; omega))⟩) hP hD hS hA (fun r_58 kd2 H locs hp_59 hP hD hS => ?_)
              have hP : va_P D vwCl ((wX q cI cZ cJ k V C T (fun _ => 0) (fun _ => 0) A 1 (un (fun _ => 0) 0 pr) (un (fun _ => 0) 0 1) 1000 w WK 4294967295 0 CT SC (fun _ => 0)) ++ [(a5, .inl (cI, 8, .inl (rI V))), (a6, .inl (cI, 8, .inl (rI C))), (a7, .inl (cI, 8, .inl (rI TT)))]) H := hP
              have hD : va_D (lA s) ((wX q cI cZ cJ k V C T (fun _ => 0) (fun _ => 0) A 1 (un (fun _ => 0) 0 pr) (un (fun _ => 0) 0 1) 1000 w WK 4294967295 0 CT SC (fun _ => 0)) ++ [(a5, .inl (cI, 8, .inl (rI V))), (a6, .inl (cI, 8, .inl (rI C))), (a7, .inl (cI, 8, .inl (rI TT)))]) := hD
              obtain ⟨rfl, hp_59⟩ := hp_59
              have hkd2 : kd2 < k := hp_59
              refine lv_istore (lv' := [(8, .int (nI kd2)), (7, .int (nI j)), (6, .int (nI pd)), (5, .int (nI pr)), (4, .int (nI k)), (3, .ref a6), (2, .ref a5), (1, .ref (q 0)), (0, .ref b)]) hx hb dL_law_424 hl (by decide) rfl (fun ls hl => ?_)
              refine lv_aload_n hx hb dL_law_426 rfl (lv_at hl 7 rfl) ?_
              refine lv_iload hx hb dL_law_427 (lv_at hl 0 rfl) ?_
              refine kn3_i (mc := 1) (ms := 6) (wa := []) (wc := (wX q cI cZ cJ k V C T (fun _ => 0) (fun _ => 0) A 1 (un (fun _ => 0) 0 pr) (un (fun _ => 0) 0 1) 1000 w WK 4294967295 0 CT SC (fun _ => 0))) (wb := [(a5, .inl (cI, 8, .inl (rI V))), (a6, .inl (cI, 8, .inl (rI C))), (a7, .inl (cI, 8, .inl (rI TT)))]) (vx_runV (As := [.int (nI kd2)]) (rest := []) ⟨hx, hb, hml, hown, hts⟩ (c_X0_insert l hst D q cI cZ cJ k V C T (fun _ => 0) (fun _ => 0) A 1 (un (fun _ => 0) 0 pr) (un (fun _ => 0) 0 1) 1000 w WK 4294967295 0 CT SC (fun _ => 0) H.size (nI kd2) hk8 hV (fun i hi => by have h1 := hAe i hi; omega) (by omega) hWK (by omega)) (cwV 1 hts gL_law_X0_insert rfl rfl rfl hd_X0_insert ⟨(by first | exact Nat.le_of_ble_eq_true rfl | (show _ ≤ (_ : Nat); dsimp only [room_1]; omega)), (by first | exact Nat.le_of_ble_eq_true rfl | (show _ ≤ (_ : Nat); dsimp only [room_1]; omega))⟩) (pre_V3 (wa := []) (wc := (wX q cI cZ cJ k V C T (fun _ => 0) (fun _ => 0) A 1 (un (fun _ => 0) 0 pr) (un (fun _ => 0) 0 1) 1000 w WK 4294967295 0 CT SC (fun _ => 0))) (wb := [(a5, .inl (cI, 8, .inl (rI V))), (a6, .inl (cI, 8, .inl (rI C))), (a7, .inl (cI, 8, .inl (rI TT)))]) hP hK hD hS hA hZ hg 0 (ci := 0) rfl rfl) rfl rfl hl.1 rfl (lv_room (Nat.le_of_ble_eq_true rfl)) dL_law_429 ⟨(by first | exact Nat.le_of_ble_eq_true rfl | (show _ ≤ (_ : Nat); dsimp only [room_1]; omega)), (by first | exact Nat.le_of_ble_eq_true rfl | (show _ ≤ (_ : Nat); dsimp only [room_1]; omega))⟩) hP hD hS hA (fun E h => h.2 ⟨kd2, by omega, by omega, rfl⟩) (fun r_61 u_60 H locs hp_62 hP hD hS => ?_)
              obtain ⟨c9, rr, w1, WK1, CT1⟩ := u_60
              have hp_62a : r_61 = nI rr ∧ c9 < k ∧ (nI kd2) = nI c9 ∧ insP k V A 1000 w WK CT c9 w1 WK1 CT1 rr := hp_62
              clear hp_62
              obtain ⟨hp_62_r, hp_62⟩ := hp_62a
              have e_63 : kd2 = c9 := (nI_eq32 (by omega) (by omega)).mp hp_62.2.1
              subst e_63
              subst hp_62_r
              have hP : va_P D vwCl ((wX q cI cZ cJ k V C T (fun _ => 0) (fun _ => 0) A 1 (un (fun _ => 0) 0 pr) (un (fun _ => 0) 0 1) 1000 w1 WK1 4294967295 0 CT1 SC (fun _ => 0)) ++ [(a5, .inl (cI, 8, .inl (rI V))), (a6, .inl (cI, 8, .inl (rI C))), (a7, .inl (cI, 8, .inl (rI TT)))]) H := hP
              have hD : va_D (lA s) ((wX q cI cZ cJ k V C T (fun _ => 0) (fun _ => 0) A 1 (un (fun _ => 0) 0 pr) (un (fun _ => 0) 0 1) 1000 w1 WK1 4294967295 0 CT1 SC (fun _ => 0)) ++ [(a5, .inl (cI, 8, .inl (rI V))), (a6, .inl (cI, 8, .inl (rI C))), (a7, .inl (cI, 8, .inl (rI TT)))]) := hD
              have hins := hp_62.2.2
              rcases hins with ⟨hA0, -⟩ | ⟨-, hw12, -⟩ | ⟨-, -, -, er, ew, eW, eC⟩ | ⟨-, hw12, hle, er, ew, eW, eC⟩
              · have h9 := hAe kd2 (by omega)
                omega
              · omega
              · rw [ew, eW, eC] at hP hD
                refine n_top (congrArg nI er) ?_
                have hwb : w ≤ j + 1 := by omega
                have hWKb := hWK
                have hpdb := hpd
                have hpd2b := hpd2
                have hC0b := hC0
                have hC2b := hC2
                have hC7b := hC7
                refine n_if_ne (tgt := 444) hx hb (by decide) dL_law_432 (by decide) (fun c432 => ?_) (fun c432 => ?_)
                · refine lv_iinc (v := nI (j + 1)) (lv' := [(7, .int (nI (j + 1))), (8, .int (nI kd2)), (6, .int (nI pd)), (5, .int (nI pr)), (4, .int (nI k)), (3, .ref a6), (2, .ref a5), (1, .ref (q 0)), (0, .ref b)]) hx hb dL_law_444 hl (k := 1) rfl (ni_inc _ 1) (by decide) rfl (fun ls hl => ?_)
                  refine lv_goto (tgt := 401) hx hb dL_law_447 (by decide) ?_
                  refine W.widen (k := 600 + 10 * (j + 1)) (n := 7000 + 60 * (j + 1)) (by omega) (by omega) ?_
                  exact ih_401 (j + 1) pd w WK CT (by omega) (by omega) hwb hWKb hpdb hpd2b hC0b hC2b hC7b _ _ hP hD hS ls (lv_sub hl [0, 2, 3, 4, 5, 6, 7, 8] rfl)
                · exact absurd c432 (by decide)
              · rw [ew, eW, eC] at hP hD
                refine n_top (congrArg nI er) ?_
                have hwb : w + 1 ≤ j + 1 := by omega
                have hWKb : ∀ i, i < w + 1 → un WK w kd2 i < k := fun i hi => by
                                  by_cases e : i = w
                                  · rw [e, un_s]; omega
                                  · rw [un_n e]; exact hWK i (by omega)
                have hpdb : pd + V kd2 = cr V (un WK w kd2) (w + 1) := by rw [cr_un, hpd]
                have hpd2b : pd + V kd2 ≤ 1000 := by omega
                have hC0b : vp_updL CT 0 (CT 0 + lZ ((V kd2 : Nat) : Int)) 0 = lZ ((pd + V kd2 : Nat) : Int) := by rw [updL_s, hC0, lZ_add, Int.natCast_add]
                have hC2b : vp_updL CT 0 (CT 0 + lZ ((V kd2 : Nat) : Int)) 2 = lZ 0 := by rw [updL_n (by decide)]; exact hC2
                have hC7b : vp_updL CT 0 (CT 0 + lZ ((V kd2 : Nat) : Int)) 7 = lZ 0 := by rw [updL_n (by decide)]; exact hC7
                refine n_if_ne (tgt := 444) hx hb (by decide) dL_law_432 (by decide) (fun c432 => ?_) (fun c432 => ?_)
                · exact absurd c432 (by decide)
                · refine lv_iload hx hb dL_law_435 (lv_at hl 2 rfl) ?_
                  refine lv_aload_n hx hb dL_law_437 rfl (lv_at hl 6 rfl) ?_
                  refine lv_iload hx hb dL_law_438 (lv_at hl 0 rfl) ?_
                  refine n_iald hx hb hK hP 13 0 rfl rfl (by omega) (by decide) dL_law_440 ?_
                  refine n_iadd hx hb dL_law_441 ?_
                  refine lv_istore (lv' := [(6, .int (nI (pd + (V kd2)))), (8, .int (nI kd2)), (7, .int (nI j)), (5, .int (nI pr)), (4, .int (nI k)), (3, .ref a6), (2, .ref a5), (1, .ref (q 0)), (0, .ref b)]) hx hb dL_law_442 hl (by decide) rfl (fun ls hl => ?_)
                  refine lv_iinc (v := nI (j + 1)) (lv' := [(7, .int (nI (j + 1))), (6, .int (nI (pd + (V kd2)))), (8, .int (nI kd2)), (5, .int (nI pr)), (4, .int (nI k)), (3, .ref a6), (2, .ref a5), (1, .ref (q 0)), (0, .ref b)]) hx hb dL_law_444 hl (k := 2) rfl (ni_inc _ 1) (by decide) rfl (fun ls hl => ?_)
                  refine lv_goto (tgt := 401) hx hb dL_law_447 (by decide) ?_
                  refine W.widen (k := 600 + 10 * (j + 1)) (n := 7000 + 60 * (j + 1)) (by omega) (by omega) ?_
                  exact ih_401 (j + 1) (pd + (V kd2)) (w + 1) (un WK w kd2) (vp_updL CT 0 (CT 0 + lZ ((V kd2 : Nat) : Int))) (by omega) (by omega) hwb hWKb hpdb hpd2b hC0b hC2b hC7b _ _ hP hD hS ls (lv_sub hl [0, 1, 3, 4, 5, 6, 7, 8] rfl)
        refine W.widen (k := 600 + 10 * 0) (n := 7000 + 60 * 0) (by omega) (by omega) ?_
        exact lp_401 _ 0 0 0 (fun _ => 0) CT (Nat.lt_succ_self _) (by omega) (by omega) (fun i hi => absurd hi (Nat.not_lt_zero i)) rfl (by omega) (hCT 0 (by decide)) (hCT 2 (by decide)) (hCT 7 (by decide)) _ _ hP hD hS ls (lv_sub hl [0, 1, 2, 3, 4, 5, 6, 7] rfl)
      · refine lv_aload_n hx hb dL_law_53 rfl (lv_at hl 5 rfl) ?_
        refine lv_iconst (v := nI 5) hx hb dL_law_54 (ic_5) ?_
        refine lv_iload hx hb dL_law_55 (lv_at hl 0 rfl) ?_
        refine n_iadd hx hb dL_law_57 ?_
        refine k3_i (mc := 0) (ms := 0) (wa := []) (wc := (wX q cI cZ cJ k V C T (fun _ => 0) (fun _ => 0) A 0 (fun _ => 0) (fun _ => 0) 1000 0 (fun _ => 0) 4294967295 0 CT SC (fun _ => 0))) (wb := [(a5, .inl (cI, 8, .inl (rI V))), (a6, .inl (cI, 8, .inl (rI C))), (a7, .inl (cI, 8, .inl (rI TT)))]) (va_runS (As := [.ref b, .int (nI (5 + tm))]) (rest := []) ⟨hx, hb, hml, hown, hts⟩ (c_L_cell l hst D q cI cZ cJ k V C T (fun _ => 0) (fun _ => 0) A 0 (fun _ => 0) (fun _ => 0) 1000 0 (fun _ => 0) 4294967295 0 CT SC (fun _ => 0) H.size b L xs (5 + tm) (by omega) hL) (va_cwS 2 hts gL_law_L_cell rfl rfl rfl hd_L_cell.2 ⟨(by first | exact Nat.le_of_ble_eq_true rfl | (show _ ≤ (_ : Nat); dsimp only [room_1]; omega)), (by first | exact Nat.le_of_ble_eq_true rfl | (show _ ≤ (_ : Nat); dsimp only [room_1]; omega))⟩) (pre_SS (wa := []) (wc := (wX q cI cZ cJ k V C T (fun _ => 0) (fun _ => 0) A 0 (fun _ => 0) (fun _ => 0) 1000 0 (fun _ => 0) 4294967295 0 CT SC (fun _ => 0))) (wb := [(a5, .inl (cI, 8, .inl (rI V))), (a6, .inl (cI, 8, .inl (rI C))), (a7, .inl (cI, 8, .inl (rI TT)))]) hP hK hD hS hA hZ hg hX hbl hbA) rfl rfl hl.1 rfl (lv_room (Nat.le_of_ble_eq_true rfl)) dL_law_58 ⟨(by first | exact Nat.le_of_ble_eq_true rfl | (show _ ≤ (_ : Nat); dsimp only [room_1]; omega)), (by first | exact Nat.le_of_ble_eq_true rfl | (show _ ≤ (_ : Nat); dsimp only [room_1]; omega))⟩) hP hD hS hA (fun r_64 x0 H locs hp_65 hP hD hS => ?_)
        have hP : va_P D vwCl ((wX q cI cZ cJ k V C T (fun _ => 0) (fun _ => 0) A 0 (fun _ => 0) (fun _ => 0) 1000 0 (fun _ => 0) 4294967295 0 CT SC (fun _ => 0)) ++ [(a5, .inl (cI, 8, .inl (rI V))), (a6, .inl (cI, 8, .inl (rI C))), (a7, .inl (cI, 8, .inl (rI TT)))]) H := hP
        have hD : va_D (lA s) ((wX q cI cZ cJ k V C T (fun _ => 0) (fun _ => 0) A 0 (fun _ => 0) (fun _ => 0) 1000 0 (fun _ => 0) 4294967295 0 CT SC (fun _ => 0)) ++ [(a5, .inl (cI, 8, .inl (rI V))), (a6, .inl (cI, 8, .inl (rI C))), (a7, .inl (cI, 8, .inl (rI TT)))]) := hD
        have hp_65 := hp_65.symm
        subst hp_65
        have lp_75 : ∀ (bd : Nat), (1 ≤ bd ∧ bd ≤ 900) → ∀ (H : Heap) (locs : List Loc), va_P D vwCl ((wX q cI cZ cJ k V C T (fun _ => 0) (fun _ => 0) A 0 (fun _ => 0) (fun _ => 0) 1000 0 (fun _ => 0) 4294967295 0 CT SC (fun _ => 0)) ++ [(a5, .inl (cI, 8, .inl (rI V))), (a6, .inl (cI, 8, .inl (rI C))), (a7, .inl (cI, 8, .inl (rI TT)))]) H → va_D (lA s) ((wX q cI cZ cJ k V C T (fun _ => 0) (fun _ => 0) A 0 (fun _ => 0) (fun _ => 0) 1000 0 (fun _ => 0) 4294967295 0 CT SC (fun _ => 0)) ++ [(a5, .inl (cI, 8, .inl (rI V))), (a6, .inl (cI, 8, .inl (rI C))), (a7, .inl (cI, 8, .inl (rI TT)))]) → va_S (lA s) s.heap H locs → ∀ ls : Array Slot, lv_has ls 14 [(5, .int (nI tm)), (4, .int (nI k)), (3, .ref a6), (2, .ref a5), (1, .ref (q 0)), (0, .ref b)] → W p l e room_1 s m #[Value.ref b] below meth c H locs (40 + 80 * tm) (3000 + 500 * tm) Q (F0 m 75 ls [.int (nI bd), .int x0]) := by
          intro bd hbd H locs hP hD hS ls hl
          refine k3_i (mc := 0) (ms := 0) (wa := []) (wc := (wX q cI cZ cJ k V C T (fun _ => 0) (fun _ => 0) A 0 (fun _ => 0) (fun _ => 0) 1000 0 (fun _ => 0) 4294967295 0 CT SC (fun _ => 0))) (wb := [(a5, .inl (cI, 8, .inl (rI V))), (a6, .inl (cI, 8, .inl (rI C))), (a7, .inl (cI, 8, .inl (rI TT)))]) (va_runS (As := [.int x0, .int (nI bd)]) (rest := []) ⟨hx, hb, hml, hown, hts⟩ (c_L_below l hst D q cI cZ cJ k V C T (fun _ => 0) (fun _ => 0) A 0 (fun _ => 0) (fun _ => 0) 1000 0 (fun _ => 0) 4294967295 0 CT SC (fun _ => 0) H.size x0 bd (⟨hbd.1, by omega⟩)) (va_cwS 2 hts gL_law_L_below rfl rfl rfl hd_L_below.2 ⟨(by first | exact Nat.le_of_ble_eq_true rfl | (show _ ≤ (_ : Nat); dsimp only [room_1]; omega)), (by first | exact Nat.le_of_ble_eq_true rfl | (show _ ≤ (_ : Nat); dsimp only [room_1]; omega))⟩) (pre_S (j_pm (wa := []) (wc := (wX q cI cZ cJ k V C T (fun _ => 0) (fun _ => 0) A 0 (fun _ => 0) (fun _ => 0) 1000 0 (fun _ => 0) 4294967295 0 CT SC (fun _ => 0))) (wb := [(a5, .inl (cI, 8, .inl (rI V))), (a6, .inl (cI, 8, .inl (rI C))), (a7, .inl (cI, 8, .inl (rI TT)))]) hP) hK (j_mid (wa := []) (wc := (wX q cI cZ cJ k V C T (fun _ => 0) (fun _ => 0) A 0 (fun _ => 0) (fun _ => 0) 1000 0 (fun _ => 0) 4294967295 0 CT SC (fun _ => 0))) (wb := [(a5, .inl (cI, 8, .inl (rI V))), (a6, .inl (cI, 8, .inl (rI C))), (a7, .inl (cI, 8, .inl (rI TT)))]) hD) hS hA hZ hg) rfl rfl hl.1 rfl (lv_room (Nat.le_of_ble_eq_true rfl)) dL_law_75 ⟨(by first | exact Nat.le_of_ble_eq_true rfl | (show _ ≤ (_ : Nat); dsimp only [room_1]; omega)), (by first | exact Nat.le_of_ble_eq_true rfl | (show _ ≤ (_ : Nat); dsimp only [room_1]; omega))⟩) hP hD hS hA (fun r_66 am H locs hp_67 hP hD hS => ?_)
          have hP : va_P D vwCl ((wX q cI cZ cJ k V C T (fun _ => 0) (fun _ => 0) A 0 (fun _ => 0) (fun _ => 0) 1000 0 (fun _ => 0) 4294967295 0 CT SC (fun _ => 0)) ++ [(a5, .inl (cI, 8, .inl (rI V))), (a6, .inl (cI, 8, .inl (rI C))), (a7, .inl (cI, 8, .inl (rI TT)))]) H := hP
          have hD : va_D (lA s) ((wX q cI cZ cJ k V C T (fun _ => 0) (fun _ => 0) A 0 (fun _ => 0) (fun _ => 0) 1000 0 (fun _ => 0) 4294967295 0 CT SC (fun _ => 0)) ++ [(a5, .inl (cI, 8, .inl (rI V))), (a6, .inl (cI, 8, .inl (rI C))), (a7, .inl (cI, 8, .inl (rI TT)))]) := hD
          obtain ⟨rfl, hp_67⟩ := hp_67
          have ham : am < bd := hp_67
          refine lv_istore (lv' := [(6, .int (nI am)), (5, .int (nI tm)), (4, .int (nI k)), (3, .ref a6), (2, .ref a5), (1, .ref (q 0)), (0, .ref b)]) hx hb dL_law_78 hl (by decide) rfl (fun ls hl => ?_)
          have lp_263 : ∀ (fw : Nat) (bl : Nat) (SC : Nat → Int), (fwR T V k am fw) → (blR T V k am bl) → ∀ (H : Heap) (locs : List Loc), va_P D vwCl ((wX q cI cZ cJ k V C T (fun _ => 0) (fun _ => 0) A 0 (fun _ => 0) (fun _ => 0) 1000 0 (fun _ => 0) 4294967295 0 CT SC (fun _ => 0)) ++ [(a5, .inl (cI, 8, .inl (rI V))), (a6, .inl (cI, 8, .inl (rI C))), (a7, .inl (cI, 8, .inl (rI TT)))]) H → va_D (lA s) ((wX q cI cZ cJ k V C T (fun _ => 0) (fun _ => 0) A 0 (fun _ => 0) (fun _ => 0) 1000 0 (fun _ => 0) 4294967295 0 CT SC (fun _ => 0)) ++ [(a5, .inl (cI, 8, .inl (rI V))), (a6, .inl (cI, 8, .inl (rI C))), (a7, .inl (cI, 8, .inl (rI TT)))]) → va_S (lA s) s.heap H locs → ∀ ls : Array Slot, lv_has ls 14 [(8, .int (nI bl)), (7, .int (nI fw)), (6, .int (nI am)), (5, .int (nI tm)), (4, .int (nI k)), (3, .ref a6), (2, .ref a5), (1, .ref (q 0)), (0, .ref b)] → W p l e room_1 s m #[Value.ref b] below meth c H locs (40 + 80 * tm + 50) (3000 + 500 * tm + 300) Q (F0 m 263 ls []) := by
            intro fw bl SC hfw hbw H locs hP hD hS ls hl
            refine lv_aload_n hx hb dL_law_263 rfl (lv_at hl 8 rfl) ?_
            refine lv_iconst (v := nI 5) hx hb dL_law_264 (ic_5) ?_
            refine lv_iload hx hb dL_law_265 (lv_at hl 3 rfl) ?_
            refine n_iadd hx hb dL_law_267 ?_
            refine k3_i (mc := 0) (ms := 0) (wa := []) (wc := (wX q cI cZ cJ k V C T (fun _ => 0) (fun _ => 0) A 0 (fun _ => 0) (fun _ => 0) 1000 0 (fun _ => 0) 4294967295 0 CT SC (fun _ => 0))) (wb := [(a5, .inl (cI, 8, .inl (rI V))), (a6, .inl (cI, 8, .inl (rI C))), (a7, .inl (cI, 8, .inl (rI TT)))]) (va_runS (As := [.ref b, .int (nI (5 + tm))]) (rest := []) ⟨hx, hb, hml, hown, hts⟩ (c_L_cell l hst D q cI cZ cJ k V C T (fun _ => 0) (fun _ => 0) A 0 (fun _ => 0) (fun _ => 0) 1000 0 (fun _ => 0) 4294967295 0 CT SC (fun _ => 0) H.size b L xs (5 + tm) (by omega) hL) (va_cwS 2 hts gL_law_L_cell rfl rfl rfl hd_L_cell.2 ⟨(by first | exact Nat.le_of_ble_eq_true rfl | (show _ ≤ (_ : Nat); dsimp only [room_1]; omega)), (by first | exact Nat.le_of_ble_eq_true rfl | (show _ ≤ (_ : Nat); dsimp only [room_1]; omega))⟩) (pre_SS (wa := []) (wc := (wX q cI cZ cJ k V C T (fun _ => 0) (fun _ => 0) A 0 (fun _ => 0) (fun _ => 0) 1000 0 (fun _ => 0) 4294967295 0 CT SC (fun _ => 0))) (wb := [(a5, .inl (cI, 8, .inl (rI V))), (a6, .inl (cI, 8, .inl (rI C))), (a7, .inl (cI, 8, .inl (rI TT)))]) hP hK hD hS hA hZ hg hX hbl hbA) rfl rfl hl.1 rfl (lv_room (Nat.le_of_ble_eq_true rfl)) dL_law_268 ⟨(by first | exact Nat.le_of_ble_eq_true rfl | (show _ ≤ (_ : Nat); dsimp only [room_1]; omega)), (by first | exact Nat.le_of_ble_eq_true rfl | (show _ ≤ (_ : Nat); dsimp only [room_1]; omega))⟩) hP hD hS hA (fun r_68 x3 H locs hp_69 hP hD hS => ?_)
            have hP : va_P D vwCl ((wX q cI cZ cJ k V C T (fun _ => 0) (fun _ => 0) A 0 (fun _ => 0) (fun _ => 0) 1000 0 (fun _ => 0) 4294967295 0 CT SC (fun _ => 0)) ++ [(a5, .inl (cI, 8, .inl (rI V))), (a6, .inl (cI, 8, .inl (rI C))), (a7, .inl (cI, 8, .inl (rI TT)))]) H := hP
            have hD : va_D (lA s) ((wX q cI cZ cJ k V C T (fun _ => 0) (fun _ => 0) A 0 (fun _ => 0) (fun _ => 0) 1000 0 (fun _ => 0) 4294967295 0 CT SC (fun _ => 0)) ++ [(a5, .inl (cI, 8, .inl (rI V))), (a6, .inl (cI, 8, .inl (rI C))), (a7, .inl (cI, 8, .inl (rI TT)))]) := hD
            have hp_69 := hp_69.symm
            subst hp_69
            refine lv_bipush (v := nI 10) hx hb dL_law_271 (by decide) ?_
            refine lv_ishr hx hb dL_law_273 ?_
            obtain ⟨x4, hx4⟩ : ∃ x9 : Int32, x9 = x3 >>> (nI 10 &&& 31) := ⟨_, rfl⟩
            refine n_top hx4.symm ?_
            refine lv_iload hx hb dL_law_274 (lv_at hl 4 rfl) ?_
            refine k3_i (mc := 0) (ms := 0) (wa := []) (wc := (wX q cI cZ cJ k V C T (fun _ => 0) (fun _ => 0) A 0 (fun _ => 0) (fun _ => 0) 1000 0 (fun _ => 0) 4294967295 0 CT SC (fun _ => 0))) (wb := [(a5, .inl (cI, 8, .inl (rI V))), (a6, .inl (cI, 8, .inl (rI C))), (a7, .inl (cI, 8, .inl (rI TT)))]) (va_runS (As := [.int x4, .int (nI k)]) (rest := []) ⟨hx, hb, hml, hown, hts⟩ (c_L_below l hst D q cI cZ cJ k V C T (fun _ => 0) (fun _ => 0) A 0 (fun _ => 0) (fun _ => 0) 1000 0 (fun _ => 0) 4294967295 0 CT SC (fun _ => 0) H.size x4 k (⟨hk1, by omega⟩)) (va_cwS 2 hts gL_law_L_below rfl rfl rfl hd_L_below.2 ⟨(by first | exact Nat.le_of_ble_eq_true rfl | (show _ ≤ (_ : Nat); dsimp only [room_1]; omega)), (by first | exact Nat.le_of_ble_eq_true rfl | (show _ ≤ (_ : Nat); dsimp only [room_1]; omega))⟩) (pre_S (j_pm (wa := []) (wc := (wX q cI cZ cJ k V C T (fun _ => 0) (fun _ => 0) A 0 (fun _ => 0) (fun _ => 0) 1000 0 (fun _ => 0) 4294967295 0 CT SC (fun _ => 0))) (wb := [(a5, .inl (cI, 8, .inl (rI V))), (a6, .inl (cI, 8, .inl (rI C))), (a7, .inl (cI, 8, .inl (rI TT)))]) hP) hK (j_mid (wa := []) (wc := (wX q cI cZ cJ k V C T (fun _ => 0) (fun _ => 0) A 0 (fun _ => 0) (fun _ => 0) 1000 0 (fun _ => 0) 4294967295 0 CT SC (fun _ => 0))) (wb := [(a5, .inl (cI, 8, .inl (rI V))), (a6, .inl (cI, 8, .inl (rI C))), (a7, .inl (cI, 8, .inl (rI TT)))]) hD) hS hA hZ hg) rfl rfl hl.1 rfl (lv_room (Nat.le_of_ble_eq_true rfl)) dL_law_276 ⟨(by first | exact Nat.le_of_ble_eq_true rfl | (show _ ≤ (_ : Nat); dsimp only [room_1]; omega)), (by first | exact Nat.le_of_ble_eq_true rfl | (show _ ≤ (_ : Nat); dsimp only [room_1]; omega))⟩) hP hD hS hA (fun r_70 kd H locs hp_71 hP hD hS => ?_)
            have hP : va_P D vwCl ((wX q cI cZ cJ k V C T (fun _ => 0) (fun _ => 0) A 0 (fun _ => 0) (fun _ => 0) 1000 0 (fun _ => 0) 4294967295 0 CT SC (fun _ => 0)) ++ [(a5, .inl (cI, 8, .inl (rI V))), (a6, .inl (cI, 8, .inl (rI C))), (a7, .inl (cI, 8, .inl (rI TT)))]) H := hP
            have hD : va_D (lA s) ((wX q cI cZ cJ k V C T (fun _ => 0) (fun _ => 0) A 0 (fun _ => 0) (fun _ => 0) 1000 0 (fun _ => 0) 4294967295 0 CT SC (fun _ => 0)) ++ [(a5, .inl (cI, 8, .inl (rI V))), (a6, .inl (cI, 8, .inl (rI C))), (a7, .inl (cI, 8, .inl (rI TT)))]) := hD
            obtain ⟨rfl, hp_71⟩ := hp_71
            have hkd : kd < k := hp_71
            refine lv_istore (lv' := [(11, .int (nI kd)), (8, .int (nI bl)), (7, .int (nI fw)), (6, .int (nI am)), (5, .int (nI tm)), (4, .int (nI k)), (3, .ref a6), (2, .ref a5), (1, .ref (q 0)), (0, .ref b)]) hx hb dL_law_279 hl (by decide) rfl (fun ls hl => ?_)
            refine lv_aload_n hx hb dL_law_281 rfl (lv_at hl 8 rfl) ?_
            refine lv_iload hx hb dL_law_282 (lv_at hl 3 rfl) ?_
            refine kn3_i (mc := 1) (ms := 6) (wa := []) (wc := (wX q cI cZ cJ k V C T (fun _ => 0) (fun _ => 0) A 0 (fun _ => 0) (fun _ => 0) 1000 0 (fun _ => 0) 4294967295 0 CT SC (fun _ => 0))) (wb := [(a5, .inl (cI, 8, .inl (rI V))), (a6, .inl (cI, 8, .inl (rI C))), (a7, .inl (cI, 8, .inl (rI TT)))]) (vx_runV (As := [.int (nI am)]) (rest := []) ⟨hx, hb, hml, hown, hts⟩ (c_X0_gaps l hst D q cI cZ cJ k V C T (fun _ => 0) (fun _ => 0) A 0 (fun _ => 0) (fun _ => 0) 1000 0 (fun _ => 0) 4294967295 0 CT SC (fun _ => 0) H.size (nI am) hk8 hV hC) (cwV 1 hts gL_law_X0_gaps rfl rfl rfl hd_X0_gaps ⟨(by first | exact Nat.le_of_ble_eq_true rfl | (show _ ≤ (_ : Nat); dsimp only [room_1]; omega)), (by first | exact Nat.le_of_ble_eq_true rfl | (show _ ≤ (_ : Nat); dsimp only [room_1]; omega))⟩) (pre_V3 (wa := []) (wc := (wX q cI cZ cJ k V C T (fun _ => 0) (fun _ => 0) A 0 (fun _ => 0) (fun _ => 0) 1000 0 (fun _ => 0) 4294967295 0 CT SC (fun _ => 0))) (wb := [(a5, .inl (cI, 8, .inl (rI V))), (a6, .inl (cI, 8, .inl (rI C))), (a7, .inl (cI, 8, .inl (rI TT)))]) hP hK hD hS hA hZ hg 0 (ci := 0) rfl rfl) rfl rfl hl.1 rfl (lv_room (Nat.le_of_ble_eq_true rfl)) dL_law_284 ⟨(by first | exact Nat.le_of_ble_eq_true rfl | (show _ ≤ (_ : Nat); dsimp only [room_1]; omega)), (by first | exact Nat.le_of_ble_eq_true rfl | (show _ ≤ (_ : Nat); dsimp only [room_1]; omega))⟩) hP hD hS hA (fun E h => h.2 ⟨am, by omega, by omega, rfl⟩) (fun r_73 u_72 H locs hp_74 hP hD hS => ?_)
            obtain ⟨a8, SC5⟩ := u_72
            have hp_74a : r_73 = nI (gpR T V k a8) ∧ a8 < 2001 ∧ (nI am) = nI a8 := hp_74
            clear hp_74
            obtain ⟨hp_74_r, hp_74⟩ := hp_74a
            have e_75 : am = a8 := (nI_eq32 (by omega) (by omega)).mp hp_74.2
            subst e_75
            subst hp_74_r
            have hP : va_P D vwCl ((wX q cI cZ cJ k V C T (fun _ => 0) (fun _ => 0) A 0 (fun _ => 0) (fun _ => 0) 1000 0 (fun _ => 0) 4294967295 0 CT SC5 (fun _ => 0)) ++ [(a5, .inl (cI, 8, .inl (rI V))), (a6, .inl (cI, 8, .inl (rI C))), (a7, .inl (cI, 8, .inl (rI TT)))]) H := hP
            have hD : va_D (lA s) ((wX q cI cZ cJ k V C T (fun _ => 0) (fun _ => 0) A 0 (fun _ => 0) (fun _ => 0) 1000 0 (fun _ => 0) 4294967295 0 CT SC5 (fun _ => 0)) ++ [(a5, .inl (cI, 8, .inl (rI V))), (a6, .inl (cI, 8, .inl (rI C))), (a7, .inl (cI, 8, .inl (rI TT)))]) := hD
            refine lv_istore (lv' := [(12, .int (nI (gpR T V k am))), (11, .int (nI kd)), (8, .int (nI bl)), (7, .int (nI fw)), (6, .int (nI am)), (5, .int (nI tm)), (4, .int (nI k)), (3, .ref a6), (2, .ref a5), (1, .ref (q 0)), (0, .ref b)]) hx hb dL_law_287 hl (by decide) rfl (fun ls hl => ?_)
            refine lv_aload_n hx hb dL_law_289 rfl (lv_at hl 9 rfl) ?_
            refine lv_iload hx hb dL_law_290 (lv_at hl 1 rfl) ?_
            refine lv_iconst (v := nI 1) hx hb dL_law_292 (ic_1) ?_
            refine kn3_i (mc := 2) (ms := 12) (wa := []) (wc := (wX q cI cZ cJ k V C T (fun _ => 0) (fun _ => 0) A 0 (fun _ => 0) (fun _ => 0) 1000 0 (fun _ => 0) 4294967295 0 CT SC5 (fun _ => 0))) (wb := [(a5, .inl (cI, 8, .inl (rI V))), (a6, .inl (cI, 8, .inl (rI C))), (a7, .inl (cI, 8, .inl (rI TT)))]) (vx_runV (As := [.int (nI kd), .int (nI 1)]) (rest := []) ⟨hx, hb, hml, hown, hts⟩ (c_X0_coins l hst D q cI cZ cJ k V C T (fun _ => 0) (fun _ => 0) A 0 (fun _ => 0) (fun _ => 0) 1000 0 (fun _ => 0) 4294967295 0 CT SC5 (fun _ => 0) H.size (nI kd) (nI 1) hk8) (cwV 2 hts gL_law_X0_coins rfl rfl rfl hd_X0_coins ⟨(by first | exact Nat.le_of_ble_eq_true rfl | (show _ ≤ (_ : Nat); dsimp only [room_1]; omega)), (by first | exact Nat.le_of_ble_eq_true rfl | (show _ ≤ (_ : Nat); dsimp only [room_1]; omega))⟩) (pre_V3 (wa := []) (wc := (wX q cI cZ cJ k V C T (fun _ => 0) (fun _ => 0) A 0 (fun _ => 0) (fun _ => 0) 1000 0 (fun _ => 0) 4294967295 0 CT SC5 (fun _ => 0))) (wb := [(a5, .inl (cI, 8, .inl (rI V))), (a6, .inl (cI, 8, .inl (rI C))), (a7, .inl (cI, 8, .inl (rI TT)))]) hP hK hD hS hA hZ hg 0 (ci := 0) rfl rfl) rfl rfl hl.1 rfl (lv_room (Nat.le_of_ble_eq_true rfl)) dL_law_293 ⟨(by first | exact Nat.le_of_ble_eq_true rfl | (show _ ≤ (_ : Nat); dsimp only [room_1]; omega)), (by first | exact Nat.le_of_ble_eq_true rfl | (show _ ≤ (_ : Nat); dsimp only [room_1]; omega))⟩) hP hD hS hA (fun E h => h.2 ⟨⟨kd, by omega, by omega, rfl⟩, ⟨1, by omega, by omega, rfl⟩⟩) (fun r_77 u_76 H locs hp_78 hP hD hS => ?_)
            obtain ⟨c3, c4⟩ := u_76
            have hp_78a : r_77 = nI (tld V T (fun _ => 0) (fun _ => 0) c3 c4) ∧ c3 < k ∧ c4 < 4 ∧ (nI kd) = nI c3 ∧ (nI 1) = nI c4 := hp_78
            clear hp_78
            obtain ⟨hp_78_r, hp_78⟩ := hp_78a
            have e_79 : kd = c3 := (nI_eq32 (by omega) (by omega)).mp hp_78.2.2.1
            subst e_79
            have e_80 : 1 = c4 := (nI_eq32 (by omega) (by omega)).mp hp_78.2.2.2
            subst e_80
            subst hp_78_r
            have hP : va_P D vwCl ((wX q cI cZ cJ k V C T (fun _ => 0) (fun _ => 0) A 0 (fun _ => 0) (fun _ => 0) 1000 0 (fun _ => 0) 4294967295 0 CT SC5 (fun _ => 0)) ++ [(a5, .inl (cI, 8, .inl (rI V))), (a6, .inl (cI, 8, .inl (rI C))), (a7, .inl (cI, 8, .inl (rI TT)))]) H := hP
            have hD : va_D (lA s) ((wX q cI cZ cJ k V C T (fun _ => 0) (fun _ => 0) A 0 (fun _ => 0) (fun _ => 0) 1000 0 (fun _ => 0) 4294967295 0 CT SC5 (fun _ => 0)) ++ [(a5, .inl (cI, 8, .inl (rI V))), (a6, .inl (cI, 8, .inl (rI C))), (a7, .inl (cI, 8, .inl (rI TT)))]) := hD
            refine n_top (y := nI (T kd)) rfl ?_
            refine lv_aload_n hx hb dL_law_296 rfl (lv_at hl 7 rfl) ?_
            refine lv_iload hx hb dL_law_297 (lv_at hl 1 rfl) ?_
            refine n_iald hx hb hK hP 14 0 rfl rfl (by omega) (by decide) dL_law_299 ?_
            refine n_icmp_eq (tgt := 365) hx hb (by have h9 := hC kd (by omega); omega) (by have h9 := hC kd (by omega); omega) dL_law_300 (by decide) (fun c300 => ?_) (fun c300 => ?_)
            · have hCb := hC
              have hCTb := hCT
              refine lv_iinc (v := nI (tm + 1)) (lv' := [(5, .int (nI (tm + 1))), (12, .int (nI (gpR T V k am))), (11, .int (nI kd)), (8, .int (nI bl)), (7, .int (nI fw)), (6, .int (nI am)), (4, .int (nI k)), (3, .ref a6), (2, .ref a5), (1, .ref (q 0)), (0, .ref b)]) hx hb dL_law_365 hl (k := 5) rfl (ni_inc _ 1) (by decide) rfl (fun ls hl => ?_)
              refine lv_goto (tgt := 46) hx hb dL_law_368 (by decide) ?_
              refine W.widen (k := 40 + 80 * (tm + 1)) (n := 3000 + 500 * (tm + 1)) (by omega) (by omega) ?_
              exact ih_46 (tm + 1) T CT SC5 (by omega) (by omega) hCb hCTb _ _ hP hD hS ls (lv_sub hl [0, 6, 7, 8, 9, 10] rfl)
            · refine lv_aload_n hx hb dL_law_303 rfl (lv_at hl 9 rfl) ?_
              refine lv_iload hx hb dL_law_304 (lv_at hl 1 rfl) ?_
              refine lv_iconst (v := nI 1) hx hb dL_law_306 (ic_1) ?_
              refine kn3_i (mc := 2) (ms := 12) (wa := []) (wc := (wX q cI cZ cJ k V C T (fun _ => 0) (fun _ => 0) A 0 (fun _ => 0) (fun _ => 0) 1000 0 (fun _ => 0) 4294967295 0 CT SC5 (fun _ => 0))) (wb := [(a5, .inl (cI, 8, .inl (rI V))), (a6, .inl (cI, 8, .inl (rI C))), (a7, .inl (cI, 8, .inl (rI TT)))]) (vx_runV (As := [.int (nI kd), .int (nI 1)]) (rest := []) ⟨hx, hb, hml, hown, hts⟩ (c_X0_fill l hst D q cI cZ cJ k V C T (fun _ => 0) (fun _ => 0) A 0 (fun _ => 0) (fun _ => 0) 1000 0 (fun _ => 0) 4294967295 0 CT SC5 (fun _ => 0) H.size (nI kd) (nI 1) hk8 hV hC) (cwV 2 hts gL_law_X0_fill rfl rfl rfl hd_X0_fill ⟨(by first | exact Nat.le_of_ble_eq_true rfl | (show _ ≤ (_ : Nat); dsimp only [room_1]; omega)), (by first | exact Nat.le_of_ble_eq_true rfl | (show _ ≤ (_ : Nat); dsimp only [room_1]; omega))⟩) (pre_V3 (wa := []) (wc := (wX q cI cZ cJ k V C T (fun _ => 0) (fun _ => 0) A 0 (fun _ => 0) (fun _ => 0) 1000 0 (fun _ => 0) 4294967295 0 CT SC5 (fun _ => 0))) (wb := [(a5, .inl (cI, 8, .inl (rI V))), (a6, .inl (cI, 8, .inl (rI C))), (a7, .inl (cI, 8, .inl (rI TT)))]) hP hK hD hS hA hZ hg 0 (ci := 0) rfl rfl) rfl rfl hl.1 rfl (lv_room (Nat.le_of_ble_eq_true rfl)) dL_law_307 ⟨(by first | exact Nat.le_of_ble_eq_true rfl | (show _ ≤ (_ : Nat); dsimp only [room_1]; omega)), (by first | exact Nat.le_of_ble_eq_true rfl | (show _ ≤ (_ : Nat); dsimp only [room_1]; omega))⟩) hP hD hS hA (fun E h => by
                              rcases h with ⟨-, h⟩ | ⟨-, -, h⟩
                              · exact h ⟨kd, by omega, by omega, rfl⟩
                              · exact h ⟨1, by omega, by omega, rfl⟩) (fun r_82 u_81 H locs hp_83 hP hD hS => ?_)
              obtain ⟨c5, c6⟩ := u_81
              have hp_83a : r_82 = nI (c6 - min c6 (C c5 - T c5)) ∧ c5 < k ∧ c6 < 61 ∧ (nI kd) = nI c5 ∧ (nI 1) = nI c6 := hp_83
              clear hp_83
              obtain ⟨hp_83_r, hp_83⟩ := hp_83a
              have e_84 : kd = c5 := (nI_eq32 (by omega) (by omega)).mp hp_83.2.2.1
              subst e_84
              have e_85 : 1 = c6 := (nI_eq32 (by omega) (by omega)).mp hp_83.2.2.2
              subst e_85
              subst hp_83_r
              have hP : va_P D vwCl ((wX q cI cZ cJ k V C (un T kd (T kd + min 1 (C kd - T kd))) (fun _ => 0) (fun _ => 0) A 0 (fun _ => 0) (fun _ => 0) 1000 0 (fun _ => 0) 4294967295 0 (vp_updL CT 4 (CT 4 + lZ ((min 1 (C kd - T kd) * V kd : Nat) : Int))) SC5 (fun _ => 0)) ++ [(a5, .inl (cI, 8, .inl (rI V))), (a6, .inl (cI, 8, .inl (rI C))), (a7, .inl (cI, 8, .inl (rI TT)))]) H := hP
              have hD : va_D (lA s) ((wX q cI cZ cJ k V C (un T kd (T kd + min 1 (C kd - T kd))) (fun _ => 0) (fun _ => 0) A 0 (fun _ => 0) (fun _ => 0) 1000 0 (fun _ => 0) 4294967295 0 (vp_updL CT 4 (CT 4 + lZ ((min 1 (C kd - T kd) * V kd : Nat) : Int))) SC5 (fun _ => 0)) ++ [(a5, .inl (cI, 8, .inl (rI V))), (a6, .inl (cI, 8, .inl (rI C))), (a7, .inl (cI, 8, .inl (rI TT)))]) := hD
              have h9 := hC kd (by omega)
              have hm1 : min 1 (C kd - T kd) = 1 := by omega
              rw [hm1] at hP hD
              rw [hm1]
              refine n_top (y := nI 0) rfl ?_
              have hP : va_P D vwCl ((wX q cI cZ cJ k V C (un T kd (T kd + 1)) (fun _ => 0) (fun _ => 0) A 0 (fun _ => 0) (fun _ => 0) 1000 0 (fun _ => 0) 4294967295 0 (vp_updL CT 4 (CT 4 + lZ ((1 * V kd : Nat) : Int))) SC5 (fun _ => 0)) ++ [(a5, .inl (cI, 8, .inl (rI V))), (a6, .inl (cI, 8, .inl (rI C))), (a7, .inl (cI, 8, .inl (rI TT)))]) H := hP
              have hD : va_D (lA s) ((wX q cI cZ cJ k V C (un T kd (T kd + 1)) (fun _ => 0) (fun _ => 0) A 0 (fun _ => 0) (fun _ => 0) 1000 0 (fun _ => 0) 4294967295 0 (vp_updL CT 4 (CT 4 + lZ ((1 * V kd : Nat) : Int))) SC5 (fun _ => 0)) ++ [(a5, .inl (cI, 8, .inl (rI V))), (a6, .inl (cI, 8, .inl (rI C))), (a7, .inl (cI, 8, .inl (rI TT)))]) := hD
              have hTu : ∀ i, i < k → T i ≤ un T kd (T kd + 1) i := fun i _ => un_up (Nat.le_succ _) i
              have hCb : ∀ i, i < k → C i ≤ 60 ∧ un T kd (T kd + 1) i ≤ C i := fun i hi => by
                              by_cases e : i = kd
                              · rw [e, un_s]; have h9 := hC kd (by omega); exact ⟨h9.1, by omega⟩
                              · rw [un_n e]; exact hC i hi
              have hCTb : ∀ j, j ≠ 4 → vp_updL CT 4 (CT 4 + lZ ((1 * V kd : Nat) : Int)) j = lZ 0 := fun j hj => by rw [updL_n hj]; exact hCT j hj
              refine n_if_eq (tgt := 316) hx hb (by decide) dL_law_310 (by decide) (fun c310 => ?_) (fun c310 => ?_)
              · refine lv_aload_n hx hb dL_law_316 rfl (lv_at hl 9 rfl) ?_
                refine lv_iload hx hb dL_law_317 (lv_at hl 4 rfl) ?_
                refine kn3_i (mc := 1) (ms := 6) (wa := []) (wc := (wX q cI cZ cJ k V C (un T kd (T kd + 1)) (fun _ => 0) (fun _ => 0) A 0 (fun _ => 0) (fun _ => 0) 1000 0 (fun _ => 0) 4294967295 0 (vp_updL CT 4 (CT 4 + lZ ((1 * V kd : Nat) : Int))) SC5 (fun _ => 0))) (wb := [(a5, .inl (cI, 8, .inl (rI V))), (a6, .inl (cI, 8, .inl (rI C))), (a7, .inl (cI, 8, .inl (rI TT)))]) (vx_runV (As := [.int (nI am)]) (rest := []) ⟨hx, hb, hml, hown, hts⟩ (c_X0_fewest l hst D q cI cZ cJ k V C (un T kd (T kd + 1)) (fun _ => 0) (fun _ => 0) A 0 (fun _ => 0) (fun _ => 0) 1000 0 (fun _ => 0) 4294967295 0 (vp_updL CT 4 (CT 4 + lZ ((1 * V kd : Nat) : Int))) SC5 (fun _ => 0) H.size (nI am) hk8 hV hCb) (cwV 1 hts gL_law_X0_fewest rfl rfl rfl hd_X0_fewest ⟨(by first | exact Nat.le_of_ble_eq_true rfl | (show _ ≤ (_ : Nat); dsimp only [room_1]; omega)), (by first | exact Nat.le_of_ble_eq_true rfl | (show _ ≤ (_ : Nat); dsimp only [room_1]; omega))⟩) (pre_V3 (wa := []) (wc := (wX q cI cZ cJ k V C (un T kd (T kd + 1)) (fun _ => 0) (fun _ => 0) A 0 (fun _ => 0) (fun _ => 0) 1000 0 (fun _ => 0) 4294967295 0 (vp_updL CT 4 (CT 4 + lZ ((1 * V kd : Nat) : Int))) SC5 (fun _ => 0))) (wb := [(a5, .inl (cI, 8, .inl (rI V))), (a6, .inl (cI, 8, .inl (rI C))), (a7, .inl (cI, 8, .inl (rI TT)))]) hP hK hD hS hA hZ hg 0 (ci := 0) rfl rfl) rfl rfl hl.1 rfl (lv_room (Nat.le_of_ble_eq_true rfl)) dL_law_319 ⟨(by first | exact Nat.le_of_ble_eq_true rfl | (show _ ≤ (_ : Nat); dsimp only [room_1]; omega)), (by first | exact Nat.le_of_ble_eq_true rfl | (show _ ≤ (_ : Nat); dsimp only [room_1]; omega))⟩) hP hD hS hA (fun E h => h.2 ⟨am, by omega, by omega, rfl⟩) (fun r_87 u_86 H locs hp_88 hP hD hS => ?_)
                obtain ⟨a9, fw3, SC6⟩ := u_86
                have hp_88a : r_87 = nI fw3 ∧ a9 < 2001 ∧ (nI am) = nI a9 ∧ fwR (un T kd (T kd + 1)) V k a9 fw3 := hp_88
                clear hp_88
                obtain ⟨hp_88_r, hp_88⟩ := hp_88a
                have e_89 : am = a9 := (nI_eq32 (by omega) (by omega)).mp hp_88.2.1
                subst e_89
                subst hp_88_r
                have hP : va_P D vwCl ((wX q cI cZ cJ k V C (un T kd (T kd + 1)) (fun _ => 0) (fun _ => 0) A 0 (fun _ => 0) (fun _ => 0) 1000 0 (fun _ => 0) 4294967295 0 (vp_updL CT 4 (CT 4 + lZ ((1 * V kd : Nat) : Int))) SC6 (fun _ => 0)) ++ [(a5, .inl (cI, 8, .inl (rI V))), (a6, .inl (cI, 8, .inl (rI C))), (a7, .inl (cI, 8, .inl (rI TT)))]) H := hP
                have hD : va_D (lA s) ((wX q cI cZ cJ k V C (un T kd (T kd + 1)) (fun _ => 0) (fun _ => 0) A 0 (fun _ => 0) (fun _ => 0) 1000 0 (fun _ => 0) 4294967295 0 (vp_updL CT 4 (CT 4 + lZ ((1 * V kd : Nat) : Int))) SC6 (fun _ => 0)) ++ [(a5, .inl (cI, 8, .inl (rI V))), (a6, .inl (cI, 8, .inl (rI C))), (a7, .inl (cI, 8, .inl (rI TT)))]) := hD
                have hfw3 := hp_88.2.2
                refine lv_istore (lv' := [(13, .int (nI fw3)), (12, .int (nI (gpR T V k am))), (11, .int (nI kd)), (8, .int (nI bl)), (7, .int (nI fw)), (6, .int (nI am)), (5, .int (nI tm)), (4, .int (nI k)), (3, .ref a6), (2, .ref a5), (1, .ref (q 0)), (0, .ref b)]) hx hb dL_law_322 hl (by decide) rfl (fun ls hl => ?_)
                rcases hfw with ⟨hn, rfl⟩ | ⟨z, hz, rfl⟩
                · refine lv_iload hx hb dL_law_324 (lv_at hl 4 rfl) ?_
                  refine lv_if_lt (tgt := 341) hx hb dL_law_326 (by decide) (fun c326 => ?_) (fun c326 => ?_)
                  · refine lv_aload_n hx hb dL_law_341 rfl (lv_at hl 10 rfl) ?_
                    refine lv_iload hx hb dL_law_342 (lv_at hl 5 rfl) ?_
                    refine kn3_i (mc := 1) (ms := 6) (wa := []) (wc := (wX q cI cZ cJ k V C (un T kd (T kd + 1)) (fun _ => 0) (fun _ => 0) A 0 (fun _ => 0) (fun _ => 0) 1000 0 (fun _ => 0) 4294967295 0 (vp_updL CT 4 (CT 4 + lZ ((1 * V kd : Nat) : Int))) SC6 (fun _ => 0))) (wb := [(a5, .inl (cI, 8, .inl (rI V))), (a6, .inl (cI, 8, .inl (rI C))), (a7, .inl (cI, 8, .inl (rI TT)))]) (vx_runV (As := [.int (nI am)]) (rest := []) ⟨hx, hb, hml, hown, hts⟩ (c_X0_gaps l hst D q cI cZ cJ k V C (un T kd (T kd + 1)) (fun _ => 0) (fun _ => 0) A 0 (fun _ => 0) (fun _ => 0) 1000 0 (fun _ => 0) 4294967295 0 (vp_updL CT 4 (CT 4 + lZ ((1 * V kd : Nat) : Int))) SC6 (fun _ => 0) H.size (nI am) hk8 hV hCb) (cwV 1 hts gL_law_X0_gaps rfl rfl rfl hd_X0_gaps ⟨(by first | exact Nat.le_of_ble_eq_true rfl | (show _ ≤ (_ : Nat); dsimp only [room_1]; omega)), (by first | exact Nat.le_of_ble_eq_true rfl | (show _ ≤ (_ : Nat); dsimp only [room_1]; omega))⟩) (pre_V3 (wa := []) (wc := (wX q cI cZ cJ k V C (un T kd (T kd + 1)) (fun _ => 0) (fun _ => 0) A 0 (fun _ => 0) (fun _ => 0) 1000 0 (fun _ => 0) 4294967295 0 (vp_updL CT 4 (CT 4 + lZ ((1 * V kd : Nat) : Int))) SC6 (fun _ => 0))) (wb := [(a5, .inl (cI, 8, .inl (rI V))), (a6, .inl (cI, 8, .inl (rI C))), (a7, .inl (cI, 8, .inl (rI TT)))]) hP hK hD hS hA hZ hg 0 (ci := 0) rfl rfl) rfl rfl hl.1 rfl (lv_room (Nat.le_of_ble_eq_true rfl)) dL_law_344 ⟨(by first | exact Nat.le_of_ble_eq_true rfl | (show _ ≤ (_ : Nat); dsimp only [room_1]; omega)), (by first | exact Nat.le_of_ble_eq_true rfl | (show _ ≤ (_ : Nat); dsimp only [room_1]; omega))⟩) hP hD hS hA (fun E h => h.2 ⟨am, by omega, by omega, rfl⟩) (fun r_91 u_90 H locs hp_92 hP hD hS => ?_)
                    obtain ⟨a10, SC7⟩ := u_90
                    have hp_92a : r_91 = nI (gpR (un T kd (T kd + 1)) V k a10) ∧ a10 < 2001 ∧ (nI am) = nI a10 := hp_92
                    clear hp_92
                    obtain ⟨hp_92_r, hp_92⟩ := hp_92a
                    have e_93 : am = a10 := (nI_eq32 (by omega) (by omega)).mp hp_92.2
                    subst e_93
                    subst hp_92_r
                    have hP : va_P D vwCl ((wX q cI cZ cJ k V C (un T kd (T kd + 1)) (fun _ => 0) (fun _ => 0) A 0 (fun _ => 0) (fun _ => 0) 1000 0 (fun _ => 0) 4294967295 0 (vp_updL CT 4 (CT 4 + lZ ((1 * V kd : Nat) : Int))) SC7 (fun _ => 0)) ++ [(a5, .inl (cI, 8, .inl (rI V))), (a6, .inl (cI, 8, .inl (rI C))), (a7, .inl (cI, 8, .inl (rI TT)))]) H := hP
                    have hD : va_D (lA s) ((wX q cI cZ cJ k V C (un T kd (T kd + 1)) (fun _ => 0) (fun _ => 0) A 0 (fun _ => 0) (fun _ => 0) 1000 0 (fun _ => 0) 4294967295 0 (vp_updL CT 4 (CT 4 + lZ ((1 * V kd : Nat) : Int))) SC7 (fun _ => 0)) ++ [(a5, .inl (cI, 8, .inl (rI V))), (a6, .inl (cI, 8, .inl (rI C))), (a7, .inl (cI, 8, .inl (rI TT)))]) := hD
                    refine lv_iload hx hb dL_law_347 (lv_at hl 1 rfl) ?_
                    refine n_icmp_gt (tgt := 363) hx hb (by have h9 := gpR_le (t := un T kd (T kd + 1)) (V := V) (k := k) am; omega) (by have h9 := gpR_le (t := T) (V := V) (k := k) am; omega) dL_law_349 (by decide) (fun c349 => ?_) (fun c349 => ?_)
                    · exact absurd c349 (Nat.not_lt.mpr (gpR_up hTu am))
                    · refine lv_aload_n hx hb dL_law_352 rfl (lv_at hl 10 rfl) ?_
                      refine lv_iload hx hb dL_law_353 (lv_at hl 5 rfl) ?_
                      refine kn3_i (mc := 1) (ms := 6) (wa := []) (wc := (wX q cI cZ cJ k V C (un T kd (T kd + 1)) (fun _ => 0) (fun _ => 0) A 0 (fun _ => 0) (fun _ => 0) 1000 0 (fun _ => 0) 4294967295 0 (vp_updL CT 4 (CT 4 + lZ ((1 * V kd : Nat) : Int))) SC7 (fun _ => 0))) (wb := [(a5, .inl (cI, 8, .inl (rI V))), (a6, .inl (cI, 8, .inl (rI C))), (a7, .inl (cI, 8, .inl (rI TT)))]) (vx_runV (As := [.int (nI am)]) (rest := []) ⟨hx, hb, hml, hown, hts⟩ (c_X0_below l hst D q cI cZ cJ k V C (un T kd (T kd + 1)) (fun _ => 0) (fun _ => 0) A 0 (fun _ => 0) (fun _ => 0) 1000 0 (fun _ => 0) 4294967295 0 (vp_updL CT 4 (CT 4 + lZ ((1 * V kd : Nat) : Int))) SC7 (fun _ => 0) H.size (nI am) hk8 hV hCb) (cwV 1 hts gL_law_X0_below rfl rfl rfl hd_X0_below ⟨(by first | exact Nat.le_of_ble_eq_true rfl | (show _ ≤ (_ : Nat); dsimp only [room_1]; omega)), (by first | exact Nat.le_of_ble_eq_true rfl | (show _ ≤ (_ : Nat); dsimp only [room_1]; omega))⟩) (pre_V3 (wa := []) (wc := (wX q cI cZ cJ k V C (un T kd (T kd + 1)) (fun _ => 0) (fun _ => 0) A 0 (fun _ => 0) (fun _ => 0) 1000 0 (fun _ => 0) 4294967295 0 (vp_updL CT 4 (CT 4 + lZ ((1 * V kd : Nat) : Int))) SC7 (fun _ => 0))) (wb := [(a5, .inl (cI, 8, .inl (rI V))), (a6, .inl (cI, 8, .inl (rI C))), (a7, .inl (cI, 8, .inl (rI TT)))]) hP hK hD hS hA hZ hg 0 (ci := 0) rfl rfl) rfl rfl hl.1 rfl (lv_room (Nat.le_of_ble_eq_true rfl)) dL_law_355 ⟨(by first | exact Nat.le_of_ble_eq_true rfl | (show _ ≤ (_ : Nat); dsimp only [room_1]; omega)), (by first | exact Nat.le_of_ble_eq_true rfl | (show _ ≤ (_ : Nat); dsimp only [room_1]; omega))⟩) hP hD hS hA (fun E h => h.2 ⟨am, by omega, by omega, rfl⟩) (fun r_95 u_94 H locs hp_96 hP hD hS => ?_)
                      obtain ⟨a11, bl3, SC8⟩ := u_94
                      have hp_96a : r_95 = nI bl3 ∧ a11 < 2001 ∧ (nI am) = nI a11 ∧ blR (un T kd (T kd + 1)) V k a11 bl3 := hp_96
                      clear hp_96
                      obtain ⟨hp_96_r, hp_96⟩ := hp_96a
                      have e_97 : am = a11 := (nI_eq32 (by omega) (by omega)).mp hp_96.2.1
                      subst e_97
                      subst hp_96_r
                      have hP : va_P D vwCl ((wX q cI cZ cJ k V C (un T kd (T kd + 1)) (fun _ => 0) (fun _ => 0) A 0 (fun _ => 0) (fun _ => 0) 1000 0 (fun _ => 0) 4294967295 0 (vp_updL CT 4 (CT 4 + lZ ((1 * V kd : Nat) : Int))) SC8 (fun _ => 0)) ++ [(a5, .inl (cI, 8, .inl (rI V))), (a6, .inl (cI, 8, .inl (rI C))), (a7, .inl (cI, 8, .inl (rI TT)))]) H := hP
                      have hD : va_D (lA s) ((wX q cI cZ cJ k V C (un T kd (T kd + 1)) (fun _ => 0) (fun _ => 0) A 0 (fun _ => 0) (fun _ => 0) 1000 0 (fun _ => 0) 4294967295 0 (vp_updL CT 4 (CT 4 + lZ ((1 * V kd : Nat) : Int))) SC8 (fun _ => 0)) ++ [(a5, .inl (cI, 8, .inl (rI V))), (a6, .inl (cI, 8, .inl (rI C))), (a7, .inl (cI, 8, .inl (rI TT)))]) := hD
                      have hbw3 := hp_96.2.2
                      refine lv_iload hx hb dL_law_358 (lv_at hl 3 rfl) ?_
                      refine n_icmp_ge (tgt := 365) hx hb (by have h9 := hbw3.1; omega) (by have h9 := hbw.1; omega) dL_law_360 (by decide) (fun c360 => ?_) (fun c360 => ?_)
                      · refine lv_iinc (v := nI (tm + 1)) (lv' := [(5, .int (nI (tm + 1))), (13, .int (nI fw3)), (12, .int (nI (gpR T V k am))), (11, .int (nI kd)), (8, .int (nI bl)), (7, .int (nI 4294967295)), (6, .int (nI am)), (4, .int (nI k)), (3, .ref a6), (2, .ref a5), (1, .ref (q 0)), (0, .ref b)]) hx hb dL_law_365 hl (k := 6) rfl (ni_inc _ 1) (by decide) rfl (fun ls hl => ?_)
                        refine lv_goto (tgt := 46) hx hb dL_law_368 (by decide) ?_
                        refine W.widen (k := 40 + 80 * (tm + 1)) (n := 3000 + 500 * (tm + 1)) (by omega) (by omega) ?_
                        exact ih_46 (tm + 1) (un T kd (T kd + 1)) (vp_updL CT 4 (CT 4 + lZ ((1 * V kd : Nat) : Int))) SC8 (by omega) (by omega) hCb hCTb _ _ hP hD hS ls (lv_sub hl [0, 7, 8, 9, 10, 11] rfl)
                      · exact absurd c360 (Nat.not_lt.mpr (blR_up hTu hbw hbw3))
                  · exact absurd m1_neg c326
                · obtain ⟨z3, hz3, ez3, hle3⟩ := fwR_up hTu hz hfw3
                  subst ez3
                  have hws := way_sums hk8 (fun i hi => by have h1 := hC i hi; omega) hVd hz.1
                  refine lv_iload hx hb dL_law_324 (lv_at hl 4 rfl) ?_
                  refine n_if_lt (tgt := 341) hx hb (by omega) dL_law_326 (by decide) ?_
                  refine lv_iload hx hb dL_law_329 (lv_at hl 0 rfl) ?_
                  refine n_if_lt (tgt := 363) hx hb (by omega) dL_law_331 (by decide) ?_
                  refine lv_iload hx hb dL_law_334 (lv_at hl 0 rfl) ?_
                  refine lv_iload hx hb dL_law_336 (lv_at hl 4 rfl) ?_
                  refine n_icmp_gt (tgt := 363) hx hb (by omega) (by omega) dL_law_338 (by decide) (fun c338 => ?_) (fun c338 => ?_)
                  · exact absurd c338 (by omega)
                  · refine lv_aload_n hx hb dL_law_341 rfl (lv_at hl 10 rfl) ?_
                    refine lv_iload hx hb dL_law_342 (lv_at hl 5 rfl) ?_
                    refine kn3_i (mc := 1) (ms := 6) (wa := []) (wc := (wX q cI cZ cJ k V C (un T kd (T kd + 1)) (fun _ => 0) (fun _ => 0) A 0 (fun _ => 0) (fun _ => 0) 1000 0 (fun _ => 0) 4294967295 0 (vp_updL CT 4 (CT 4 + lZ ((1 * V kd : Nat) : Int))) SC6 (fun _ => 0))) (wb := [(a5, .inl (cI, 8, .inl (rI V))), (a6, .inl (cI, 8, .inl (rI C))), (a7, .inl (cI, 8, .inl (rI TT)))]) (vx_runV (As := [.int (nI am)]) (rest := []) ⟨hx, hb, hml, hown, hts⟩ (c_X0_gaps l hst D q cI cZ cJ k V C (un T kd (T kd + 1)) (fun _ => 0) (fun _ => 0) A 0 (fun _ => 0) (fun _ => 0) 1000 0 (fun _ => 0) 4294967295 0 (vp_updL CT 4 (CT 4 + lZ ((1 * V kd : Nat) : Int))) SC6 (fun _ => 0) H.size (nI am) hk8 hV hCb) (cwV 1 hts gL_law_X0_gaps rfl rfl rfl hd_X0_gaps ⟨(by first | exact Nat.le_of_ble_eq_true rfl | (show _ ≤ (_ : Nat); dsimp only [room_1]; omega)), (by first | exact Nat.le_of_ble_eq_true rfl | (show _ ≤ (_ : Nat); dsimp only [room_1]; omega))⟩) (pre_V3 (wa := []) (wc := (wX q cI cZ cJ k V C (un T kd (T kd + 1)) (fun _ => 0) (fun _ => 0) A 0 (fun _ => 0) (fun _ => 0) 1000 0 (fun _ => 0) 4294967295 0 (vp_updL CT 4 (CT 4 + lZ ((1 * V kd : Nat) : Int))) SC6 (fun _ => 0))) (wb := [(a5, .inl (cI, 8, .inl (rI V))), (a6, .inl (cI, 8, .inl (rI C))), (a7, .inl (cI, 8, .inl (rI TT)))]) hP hK hD hS hA hZ hg 0 (ci := 0) rfl rfl) rfl rfl hl.1 rfl (lv_room (Nat.le_of_ble_eq_true rfl)) dL_law_344 ⟨(by first | exact Nat.le_of_ble_eq_true rfl | (show _ ≤ (_ : Nat); dsimp only [room_1]; omega)), (by first | exact Nat.le_of_ble_eq_true rfl | (show _ ≤ (_ : Nat); dsimp only [room_1]; omega))⟩) hP hD hS hA (fun E h => h.2 ⟨am, by omega, by omega, rfl⟩) (fun r_99 u_98 H locs hp_100 hP hD hS => ?_)
                    obtain ⟨a10, SC7⟩ := u_98
                    have hp_100a : r_99 = nI (gpR (un T kd (T kd + 1)) V k a10) ∧ a10 < 2001 ∧ (nI am) = nI a10 := hp_100
                    clear hp_100
                    obtain ⟨hp_100_r, hp_100⟩ := hp_100a
                    have e_101 : am = a10 := (nI_eq32 (by omega) (by omega)).mp hp_100.2
                    subst e_101
                    subst hp_100_r
                    have hP : va_P D vwCl ((wX q cI cZ cJ k V C (un T kd (T kd + 1)) (fun _ => 0) (fun _ => 0) A 0 (fun _ => 0) (fun _ => 0) 1000 0 (fun _ => 0) 4294967295 0 (vp_updL CT 4 (CT 4 + lZ ((1 * V kd : Nat) : Int))) SC7 (fun _ => 0)) ++ [(a5, .inl (cI, 8, .inl (rI V))), (a6, .inl (cI, 8, .inl (rI C))), (a7, .inl (cI, 8, .inl (rI TT)))]) H := hP
                    have hD : va_D (lA s) ((wX q cI cZ cJ k V C (un T kd (T kd + 1)) (fun _ => 0) (fun _ => 0) A 0 (fun _ => 0) (fun _ => 0) 1000 0 (fun _ => 0) 4294967295 0 (vp_updL CT 4 (CT 4 + lZ ((1 * V kd : Nat) : Int))) SC7 (fun _ => 0)) ++ [(a5, .inl (cI, 8, .inl (rI V))), (a6, .inl (cI, 8, .inl (rI C))), (a7, .inl (cI, 8, .inl (rI TT)))]) := hD
                    refine lv_iload hx hb dL_law_347 (lv_at hl 1 rfl) ?_
                    refine n_icmp_gt (tgt := 363) hx hb (by have h9 := gpR_le (t := un T kd (T kd + 1)) (V := V) (k := k) am; omega) (by have h9 := gpR_le (t := T) (V := V) (k := k) am; omega) dL_law_349 (by decide) (fun c349 => ?_) (fun c349 => ?_)
                    · exact absurd c349 (Nat.not_lt.mpr (gpR_up hTu am))
                    · refine lv_aload_n hx hb dL_law_352 rfl (lv_at hl 10 rfl) ?_
                      refine lv_iload hx hb dL_law_353 (lv_at hl 5 rfl) ?_
                      refine kn3_i (mc := 1) (ms := 6) (wa := []) (wc := (wX q cI cZ cJ k V C (un T kd (T kd + 1)) (fun _ => 0) (fun _ => 0) A 0 (fun _ => 0) (fun _ => 0) 1000 0 (fun _ => 0) 4294967295 0 (vp_updL CT 4 (CT 4 + lZ ((1 * V kd : Nat) : Int))) SC7 (fun _ => 0))) (wb := [(a5, .inl (cI, 8, .inl (rI V))), (a6, .inl (cI, 8, .inl (rI C))), (a7, .inl (cI, 8, .inl (rI TT)))]) (vx_runV (As := [.int (nI am)]) (rest := []) ⟨hx, hb, hml, hown, hts⟩ (c_X0_below l hst D q cI cZ cJ k V C (un T kd (T kd + 1)) (fun _ => 0) (fun _ => 0) A 0 (fun _ => 0) (fun _ => 0) 1000 0 (fun _ => 0) 4294967295 0 (vp_updL CT 4 (CT 4 + lZ ((1 * V kd : Nat) : Int))) SC7 (fun _ => 0) H.size (nI am) hk8 hV hCb) (cwV 1 hts gL_law_X0_below rfl rfl rfl hd_X0_below ⟨(by first | exact Nat.le_of_ble_eq_true rfl | (show _ ≤ (_ : Nat); dsimp only [room_1]; omega)), (by first | exact Nat.le_of_ble_eq_true rfl | (show _ ≤ (_ : Nat); dsimp only [room_1]; omega))⟩) (pre_V3 (wa := []) (wc := (wX q cI cZ cJ k V C (un T kd (T kd + 1)) (fun _ => 0) (fun _ => 0) A 0 (fun _ => 0) (fun _ => 0) 1000 0 (fun _ => 0) 4294967295 0 (vp_updL CT 4 (CT 4 + lZ ((1 * V kd : Nat) : Int))) SC7 (fun _ => 0))) (wb := [(a5, .inl (cI, 8, .inl (rI V))), (a6, .inl (cI, 8, .inl (rI C))), (a7, .inl (cI, 8, .inl (rI TT)))]) hP hK hD hS hA hZ hg 0 (ci := 0) rfl rfl) rfl rfl hl.1 rfl (lv_room (Nat.le_of_ble_eq_true rfl)) dL_law_355 ⟨(by first | exact Nat.le_of_ble_eq_true rfl | (show _ ≤ (_ : Nat); dsimp only [room_1]; omega)), (by first | exact Nat.le_of_ble_eq_true rfl | (show _ ≤ (_ : Nat); dsimp only [room_1]; omega))⟩) hP hD hS hA (fun E h => h.2 ⟨am, by omega, by omega, rfl⟩) (fun r_103 u_102 H locs hp_104 hP hD hS => ?_)
                      obtain ⟨a11, bl3, SC8⟩ := u_102
                      have hp_104a : r_103 = nI bl3 ∧ a11 < 2001 ∧ (nI am) = nI a11 ∧ blR (un T kd (T kd + 1)) V k a11 bl3 := hp_104
                      clear hp_104
                      obtain ⟨hp_104_r, hp_104⟩ := hp_104a
                      have e_105 : am = a11 := (nI_eq32 (by omega) (by omega)).mp hp_104.2.1
                      subst e_105
                      subst hp_104_r
                      have hP : va_P D vwCl ((wX q cI cZ cJ k V C (un T kd (T kd + 1)) (fun _ => 0) (fun _ => 0) A 0 (fun _ => 0) (fun _ => 0) 1000 0 (fun _ => 0) 4294967295 0 (vp_updL CT 4 (CT 4 + lZ ((1 * V kd : Nat) : Int))) SC8 (fun _ => 0)) ++ [(a5, .inl (cI, 8, .inl (rI V))), (a6, .inl (cI, 8, .inl (rI C))), (a7, .inl (cI, 8, .inl (rI TT)))]) H := hP
                      have hD : va_D (lA s) ((wX q cI cZ cJ k V C (un T kd (T kd + 1)) (fun _ => 0) (fun _ => 0) A 0 (fun _ => 0) (fun _ => 0) 1000 0 (fun _ => 0) 4294967295 0 (vp_updL CT 4 (CT 4 + lZ ((1 * V kd : Nat) : Int))) SC8 (fun _ => 0)) ++ [(a5, .inl (cI, 8, .inl (rI V))), (a6, .inl (cI, 8, .inl (rI C))), (a7, .inl (cI, 8, .inl (rI TT)))]) := hD
                      have hbw3 := hp_104.2.2
                      refine lv_iload hx hb dL_law_358 (lv_at hl 3 rfl) ?_
                      refine n_icmp_ge (tgt := 365) hx hb (by have h9 := hbw3.1; omega) (by have h9 := hbw.1; omega) dL_law_360 (by decide) (fun c360 => ?_) (fun c360 => ?_)
                      · refine lv_iinc (v := nI (tm + 1)) (lv' := [(5, .int (nI (tm + 1))), (13, .int (nI (cnz z3))), (12, .int (nI (gpR T V k am))), (11, .int (nI kd)), (8, .int (nI bl)), (7, .int (nI (cnz z))), (6, .int (nI am)), (4, .int (nI k)), (3, .ref a6), (2, .ref a5), (1, .ref (q 0)), (0, .ref b)]) hx hb dL_law_365 hl (k := 6) rfl (ni_inc _ 1) (by decide) rfl (fun ls hl => ?_)
                        refine lv_goto (tgt := 46) hx hb dL_law_368 (by decide) ?_
                        refine W.widen (k := 40 + 80 * (tm + 1)) (n := 3000 + 500 * (tm + 1)) (by omega) (by omega) ?_
                        exact ih_46 (tm + 1) (un T kd (T kd + 1)) (vp_updL CT 4 (CT 4 + lZ ((1 * V kd : Nat) : Int))) SC8 (by omega) (by omega) hCb hCTb _ _ hP hD hS ls (lv_sub hl [0, 7, 8, 9, 10, 11] rfl)
                      · exact absurd c360 (Nat.not_lt.mpr (blR_up hTu hbw hbw3))
              · exact absurd c310 (by decide)
          refine lv_aload_n hx hb dL_law_80 rfl (lv_at hl 5 rfl) ?_
          refine lv_iload hx hb dL_law_81 (lv_at hl 0 rfl) ?_
          refine kn3_i (mc := 1) (ms := 6) (wa := []) (wc := (wX q cI cZ cJ k V C T (fun _ => 0) (fun _ => 0) A 0 (fun _ => 0) (fun _ => 0) 1000 0 (fun _ => 0) 4294967295 0 CT SC (fun _ => 0))) (wb := [(a5, .inl (cI, 8, .inl (rI V))), (a6, .inl (cI, 8, .inl (rI C))), (a7, .inl (cI, 8, .inl (rI TT)))]) (vx_runV (As := [.int (nI am)]) (rest := []) ⟨hx, hb, hml, hown, hts⟩ (c_X0_fewest l hst D q cI cZ cJ k V C T (fun _ => 0) (fun _ => 0) A 0 (fun _ => 0) (fun _ => 0) 1000 0 (fun _ => 0) 4294967295 0 CT SC (fun _ => 0) H.size (nI am) hk8 hV hC) (cwV 1 hts gL_law_X0_fewest rfl rfl rfl hd_X0_fewest ⟨(by first | exact Nat.le_of_ble_eq_true rfl | (show _ ≤ (_ : Nat); dsimp only [room_1]; omega)), (by first | exact Nat.le_of_ble_eq_true rfl | (show _ ≤ (_ : Nat); dsimp only [room_1]; omega))⟩) (pre_V3 (wa := []) (wc := (wX q cI cZ cJ k V C T (fun _ => 0) (fun _ => 0) A 0 (fun _ => 0) (fun _ => 0) 1000 0 (fun _ => 0) 4294967295 0 CT SC (fun _ => 0))) (wb := [(a5, .inl (cI, 8, .inl (rI V))), (a6, .inl (cI, 8, .inl (rI C))), (a7, .inl (cI, 8, .inl (rI TT)))]) hP hK hD hS hA hZ hg 0 (ci := 0) rfl rfl) rfl rfl hl.1 rfl (lv_room (Nat.le_of_ble_eq_true rfl)) dL_law_83 ⟨(by first | exact Nat.le_of_ble_eq_true rfl | (show _ ≤ (_ : Nat); dsimp only [room_1]; omega)), (by first | exact Nat.le_of_ble_eq_true rfl | (show _ ≤ (_ : Nat); dsimp only [room_1]; omega))⟩) hP hD hS hA (fun E h => h.2 ⟨am, by omega, by omega, rfl⟩) (fun r_107 u_106 H locs hp_108 hP hD hS => ?_)
          obtain ⟨a1, fw, SC1⟩ := u_106
          have hp_108a : r_107 = nI fw ∧ a1 < 2001 ∧ (nI am) = nI a1 ∧ fwR T V k a1 fw := hp_108
          clear hp_108
          obtain ⟨hp_108_r, hp_108⟩ := hp_108a
          have e_109 : am = a1 := (nI_eq32 (by omega) (by omega)).mp hp_108.2.1
          subst e_109
          subst hp_108_r
          have hP : va_P D vwCl ((wX q cI cZ cJ k V C T (fun _ => 0) (fun _ => 0) A 0 (fun _ => 0) (fun _ => 0) 1000 0 (fun _ => 0) 4294967295 0 CT SC1 (fun _ => 0)) ++ [(a5, .inl (cI, 8, .inl (rI V))), (a6, .inl (cI, 8, .inl (rI C))), (a7, .inl (cI, 8, .inl (rI TT)))]) H := hP
          have hD : va_D (lA s) ((wX q cI cZ cJ k V C T (fun _ => 0) (fun _ => 0) A 0 (fun _ => 0) (fun _ => 0) 1000 0 (fun _ => 0) 4294967295 0 CT SC1 (fun _ => 0)) ++ [(a5, .inl (cI, 8, .inl (rI V))), (a6, .inl (cI, 8, .inl (rI C))), (a7, .inl (cI, 8, .inl (rI TT)))]) := hD
          have hfw := hp_108.2.2
          rcases hfw with ⟨hn, rfl⟩ | ⟨z, hz, rfl⟩
          · have hfw0 : fwR T V k am 4294967295 := Or.inl ⟨hn, rfl⟩
            refine lv_istore (lv' := [(7, .int (nI 4294967295)), (6, .int (nI am)), (5, .int (nI tm)), (4, .int (nI k)), (3, .ref a6), (2, .ref a5), (1, .ref (q 0)), (0, .ref b)]) hx hb dL_law_86 hl (by decide) rfl (fun ls hl => ?_)
            refine lv_aload_n hx hb dL_law_88 rfl (lv_at hl 6 rfl) ?_
            refine lv_iload hx hb dL_law_89 (lv_at hl 1 rfl) ?_
            refine kn3_i (mc := 1) (ms := 6) (wa := []) (wc := (wX q cI cZ cJ k V C T (fun _ => 0) (fun _ => 0) A 0 (fun _ => 0) (fun _ => 0) 1000 0 (fun _ => 0) 4294967295 0 CT SC1 (fun _ => 0))) (wb := [(a5, .inl (cI, 8, .inl (rI V))), (a6, .inl (cI, 8, .inl (rI C))), (a7, .inl (cI, 8, .inl (rI TT)))]) (vx_runV (As := [.int (nI am)]) (rest := []) ⟨hx, hb, hml, hown, hts⟩ (c_X0_below l hst D q cI cZ cJ k V C T (fun _ => 0) (fun _ => 0) A 0 (fun _ => 0) (fun _ => 0) 1000 0 (fun _ => 0) 4294967295 0 CT SC1 (fun _ => 0) H.size (nI am) hk8 hV hC) (cwV 1 hts gL_law_X0_below rfl rfl rfl hd_X0_below ⟨(by first | exact Nat.le_of_ble_eq_true rfl | (show _ ≤ (_ : Nat); dsimp only [room_1]; omega)), (by first | exact Nat.le_of_ble_eq_true rfl | (show _ ≤ (_ : Nat); dsimp only [room_1]; omega))⟩) (pre_V3 (wa := []) (wc := (wX q cI cZ cJ k V C T (fun _ => 0) (fun _ => 0) A 0 (fun _ => 0) (fun _ => 0) 1000 0 (fun _ => 0) 4294967295 0 CT SC1 (fun _ => 0))) (wb := [(a5, .inl (cI, 8, .inl (rI V))), (a6, .inl (cI, 8, .inl (rI C))), (a7, .inl (cI, 8, .inl (rI TT)))]) hP hK hD hS hA hZ hg 0 (ci := 0) rfl rfl) rfl rfl hl.1 rfl (lv_room (Nat.le_of_ble_eq_true rfl)) dL_law_91 ⟨(by first | exact Nat.le_of_ble_eq_true rfl | (show _ ≤ (_ : Nat); dsimp only [room_1]; omega)), (by first | exact Nat.le_of_ble_eq_true rfl | (show _ ≤ (_ : Nat); dsimp only [room_1]; omega))⟩) hP hD hS hA (fun E h => h.2 ⟨am, by omega, by omega, rfl⟩) (fun r_111 u_110 H locs hp_112 hP hD hS => ?_)
            obtain ⟨a2, bl, SC2⟩ := u_110
            have hp_112a : r_111 = nI bl ∧ a2 < 2001 ∧ (nI am) = nI a2 ∧ blR T V k a2 bl := hp_112
            clear hp_112
            obtain ⟨hp_112_r, hp_112⟩ := hp_112a
            have e_113 : am = a2 := (nI_eq32 (by omega) (by omega)).mp hp_112.2.1
            subst e_113
            subst hp_112_r
            have hP : va_P D vwCl ((wX q cI cZ cJ k V C T (fun _ => 0) (fun _ => 0) A 0 (fun _ => 0) (fun _ => 0) 1000 0 (fun _ => 0) 4294967295 0 CT SC2 (fun _ => 0)) ++ [(a5, .inl (cI, 8, .inl (rI V))), (a6, .inl (cI, 8, .inl (rI C))), (a7, .inl (cI, 8, .inl (rI TT)))]) H := hP
            have hD : va_D (lA s) ((wX q cI cZ cJ k V C T (fun _ => 0) (fun _ => 0) A 0 (fun _ => 0) (fun _ => 0) 1000 0 (fun _ => 0) 4294967295 0 CT SC2 (fun _ => 0)) ++ [(a5, .inl (cI, 8, .inl (rI V))), (a6, .inl (cI, 8, .inl (rI C))), (a7, .inl (cI, 8, .inl (rI TT)))]) := hD
            have hbw := hp_112.2.2
            have hlt := blR_n hn hbw
            refine lv_istore (lv' := [(8, .int (nI bl)), (7, .int (nI 4294967295)), (6, .int (nI am)), (5, .int (nI tm)), (4, .int (nI k)), (3, .ref a6), (2, .ref a5), (1, .ref (q 0)), (0, .ref b)]) hx hb dL_law_94 hl (by decide) rfl (fun ls hl => ?_)
            refine lv_iload hx hb dL_law_96 (lv_at hl 1 rfl) ?_
            refine lv_if_lt (tgt := 105) hx hb dL_law_98 (by decide) (fun c98 => ?_) (fun c98 => ?_)
            · refine lv_iconst (v := nI 0) hx hb dL_law_105 (ic_0) ?_
              refine lv_iload hx hb dL_law_106 (lv_at hl 0 rfl) ?_
              refine lv_iload hx hb dL_law_108 (lv_at hl 2 rfl) ?_
              refine n_icmp_ne (tgt := 117) hx hb (by omega) (by omega) dL_law_110 (by decide) (fun c110 => ?_) (fun c110 => ?_)
              · refine lv_iconst (v := nI 0) hx hb dL_law_117 (ic_0) ?_
                refine n_icmp_ne (tgt := 152) hx hb (by omega) (by omega) dL_law_118 (by decide) (fun c118 => ?_) (fun c118 => ?_)
                · exact absurd rfl c118
                · refine lv_iload hx hb dL_law_121 (lv_at hl 0 rfl) ?_
                  refine lv_iload hx hb dL_law_123 (lv_at hl 2 rfl) ?_
                  refine n_icmp_gt (tgt := 152) hx hb (by omega) (by omega) dL_law_125 (by decide) (fun c125 => ?_) (fun c125 => ?_)
                  · exact absurd c125 (by omega)
                  · refine lv_aload_n hx hb dL_law_128 rfl (lv_at hl 7 rfl) ?_
                    refine lv_iload hx hb dL_law_129 (lv_at hl 0 rfl) ?_
                    refine kn3_i (mc := 1) (ms := 6) (wa := []) (wc := (wX q cI cZ cJ k V C T (fun _ => 0) (fun _ => 0) A 0 (fun _ => 0) (fun _ => 0) 1000 0 (fun _ => 0) 4294967295 0 CT SC2 (fun _ => 0))) (wb := [(a5, .inl (cI, 8, .inl (rI V))), (a6, .inl (cI, 8, .inl (rI C))), (a7, .inl (cI, 8, .inl (rI TT)))]) (vx_runV (As := [.int (nI bl)]) (rest := []) ⟨hx, hb, hml, hown, hts⟩ (c_X0_fewest l hst D q cI cZ cJ k V C T (fun _ => 0) (fun _ => 0) A 0 (fun _ => 0) (fun _ => 0) 1000 0 (fun _ => 0) 4294967295 0 CT SC2 (fun _ => 0) H.size (nI bl) hk8 hV hC) (cwV 1 hts gL_law_X0_fewest rfl rfl rfl hd_X0_fewest ⟨(by first | exact Nat.le_of_ble_eq_true rfl | (show _ ≤ (_ : Nat); dsimp only [room_1]; omega)), (by first | exact Nat.le_of_ble_eq_true rfl | (show _ ≤ (_ : Nat); dsimp only [room_1]; omega))⟩) (pre_V3 (wa := []) (wc := (wX q cI cZ cJ k V C T (fun _ => 0) (fun _ => 0) A 0 (fun _ => 0) (fun _ => 0) 1000 0 (fun _ => 0) 4294967295 0 CT SC2 (fun _ => 0))) (wb := [(a5, .inl (cI, 8, .inl (rI V))), (a6, .inl (cI, 8, .inl (rI C))), (a7, .inl (cI, 8, .inl (rI TT)))]) hP hK hD hS hA hZ hg 0 (ci := 0) rfl rfl) rfl rfl hl.1 rfl (lv_room (Nat.le_of_ble_eq_true rfl)) dL_law_131 ⟨(by first | exact Nat.le_of_ble_eq_true rfl | (show _ ≤ (_ : Nat); dsimp only [room_1]; omega)), (by first | exact Nat.le_of_ble_eq_true rfl | (show _ ≤ (_ : Nat); dsimp only [room_1]; omega))⟩) hP hD hS hA (fun E h => h.2 ⟨bl, by omega, by omega, rfl⟩) (fun r_115 u_114 H locs hp_116 hP hD hS => ?_)
                    obtain ⟨a3, fv2, SC3⟩ := u_114
                    have hp_116a : r_115 = nI fv2 ∧ a3 < 2001 ∧ (nI bl) = nI a3 ∧ fwR T V k a3 fv2 := hp_116
                    clear hp_116
                    obtain ⟨hp_116_r, hp_116⟩ := hp_116a
                    have e_117 : bl = a3 := (nI_eq32 (by omega) (by omega)).mp hp_116.2.1
                    subst e_117
                    subst hp_116_r
                    have hP : va_P D vwCl ((wX q cI cZ cJ k V C T (fun _ => 0) (fun _ => 0) A 0 (fun _ => 0) (fun _ => 0) 1000 0 (fun _ => 0) 4294967295 0 CT SC3 (fun _ => 0)) ++ [(a5, .inl (cI, 8, .inl (rI V))), (a6, .inl (cI, 8, .inl (rI C))), (a7, .inl (cI, 8, .inl (rI TT)))]) H := hP
                    have hD : va_D (lA s) ((wX q cI cZ cJ k V C T (fun _ => 0) (fun _ => 0) A 0 (fun _ => 0) (fun _ => 0) 1000 0 (fun _ => 0) 4294967295 0 CT SC3 (fun _ => 0)) ++ [(a5, .inl (cI, 8, .inl (rI V))), (a6, .inl (cI, 8, .inl (rI C))), (a7, .inl (cI, 8, .inl (rI TT)))]) := hD
                    obtain ⟨z2, hz2, ez2⟩ := fwR_s hbw.2.1 hp_116.2.2
                    refine n_top (congrArg nI ez2) ?_
                    have hws2 := way_sums hk8 (fun i hi => by have h1 := hC i hi; omega) hVd hz2.1
                    refine n_if_lt (tgt := 152) hx hb (by omega) dL_law_134 (by decide) ?_
                    refine lv_iload hx hb dL_law_137 (lv_at hl 1 rfl) ?_
                    refine lv_if_lt (tgt := 154) hx hb dL_law_139 (by decide) (fun c139 => ?_) (fun c139 => ?_)
                    · refine lv_iconst (v := nI 0) hx hb dL_law_154 (ic_0) ?_
                      refine lv_istore (lv' := [(9, .int (nI 0)), (8, .int (nI bl)), (7, .int (nI 4294967295)), (6, .int (nI am)), (5, .int (nI tm)), (4, .int (nI k)), (3, .ref a6), (2, .ref a5), (1, .ref (q 0)), (0, .ref b)]) hx hb dL_law_155 hl (by decide) rfl (fun ls hl => ?_)
                      refine lv_iconst (v := nI 0) hx hb dL_law_157 (ic_0) ?_
                      refine lv_istore (lv' := [(10, .int (nI 0)), (9, .int (nI 0)), (8, .int (nI bl)), (7, .int (nI 4294967295)), (6, .int (nI am)), (5, .int (nI tm)), (4, .int (nI k)), (3, .ref a6), (2, .ref a5), (1, .ref (q 0)), (0, .ref b)]) hx hb dL_law_158 hl (by decide) rfl (fun ls hl => ?_)
                      refine lv_iconst (v := nI 0) hx hb dL_law_160 (ic_0) ?_
                      refine lv_istore (lv' := [(11, .int (nI 0)), (10, .int (nI 0)), (9, .int (nI 0)), (8, .int (nI bl)), (7, .int (nI 4294967295)), (6, .int (nI am)), (5, .int (nI tm)), (4, .int (nI k)), (3, .ref a6), (2, .ref a5), (1, .ref (q 0)), (0, .ref b)]) hx hb dL_law_161 hl (by decide) rfl (fun ls hl => ?_)
                      have lp_163 : ∀ (fu_163 : Nat) (j : Nat) (su : Nat) (co : Nat) (SC : Nat → Int), k - j < fu_163 → (j ≤ k) → ∀ (H : Heap) (locs : List Loc), va_P D vwCl ((wX q cI cZ cJ k V C T (fun _ => 0) (fun _ => 0) A 0 (fun _ => 0) (fun _ => 0) 1000 0 (fun _ => 0) 4294967295 0 CT SC (fun _ => 0)) ++ [(a5, .inl (cI, 8, .inl (rI V))), (a6, .inl (cI, 8, .inl (rI C))), (a7, .inl (cI, 8, .inl (rI TT)))]) H → va_D (lA s) ((wX q cI cZ cJ k V C T (fun _ => 0) (fun _ => 0) A 0 (fun _ => 0) (fun _ => 0) 1000 0 (fun _ => 0) 4294967295 0 CT SC (fun _ => 0)) ++ [(a5, .inl (cI, 8, .inl (rI V))), (a6, .inl (cI, 8, .inl (rI C))), (a7, .inl (cI, 8, .inl (rI TT)))]) → va_S (lA s) s.heap H locs → ∀ ls : Array Slot, lv_has ls 14 [(11, .int (nI j)), (10, .int (nI co)), (9, .int (nI su)), (8, .int (nI bl)), (7, .int (nI 4294967295)), (6, .int (nI am)), (5, .int (nI tm)), (4, .int (nI k)), (3, .ref a6), (2, .ref a5), (1, .ref (q 0)), (0, .ref b)] → W p l e room_1 s m #[Value.ref b] below meth c H locs (40 + 80 * tm + 4 + 4 * j) (3000 + 500 * tm + 24 + 24 * j) Q (F0 m 163 ls []) := by
                        intro fu_163
                        induction fu_163 with
                        | zero =>
                          intro j su co SC hfu_163
                          exact absurd hfu_163 (Nat.not_lt_zero _)
                        | succ fu_163 ih_163 =>
                          intro j su co SC hfu_163 hj H locs hP hD hS ls hl
                          refine lv_iload hx hb dL_law_163 (lv_at hl 0 rfl) ?_
                          refine lv_iload hx hb dL_law_165 (lv_at hl 7 rfl) ?_
                          refine n_icmp_ge (tgt := 242) hx hb (by omega) (by omega) dL_law_167 (by decide) (fun c167 => ?_) (fun c167 => ?_)
                          · refine lv_iload hx hb dL_law_242 (lv_at hl 4 rfl) ?_
                            refine lv_if_lt (tgt := 263) hx hb dL_law_244 (by decide) (fun c244 => ?_) (fun c244 => ?_)
                            · refine W.widen (k := 40 + 80 * tm + 50) (n := 3000 + 500 * tm + 300) (by omega) (by omega) ?_
                              exact lp_263 4294967295 bl SC hfw0 hbw _ _ hP hD hS ls (lv_sub hl [3, 4, 5, 6, 7, 8, 9, 10, 11] rfl)
                            · exact absurd m1_neg c244
                          · refine lv_aload_n hx hb dL_law_170 rfl (lv_at hl 10 rfl) ?_
                            refine lv_iload hx hb dL_law_171 (lv_at hl 5 rfl) ?_
                            refine lv_iload hx hb dL_law_173 (lv_at hl 0 rfl) ?_
                            refine kn3_i (mc := 2) (ms := 12) (wa := []) (wc := (wX q cI cZ cJ k V C T (fun _ => 0) (fun _ => 0) A 0 (fun _ => 0) (fun _ => 0) 1000 0 (fun _ => 0) 4294967295 0 CT SC (fun _ => 0))) (wb := [(a5, .inl (cI, 8, .inl (rI V))), (a6, .inl (cI, 8, .inl (rI C))), (a7, .inl (cI, 8, .inl (rI TT)))]) (vx_runV (As := [.int (nI am), .int (nI j)]) (rest := []) ⟨hx, hb, hml, hown, hts⟩ (c_X0_part l hst D q cI cZ cJ k V C T (fun _ => 0) (fun _ => 0) A 0 (fun _ => 0) (fun _ => 0) 1000 0 (fun _ => 0) 4294967295 0 CT SC (fun _ => 0) H.size (nI am) (nI j) hk8 hV hC) (cwV 2 hts gL_law_X0_part rfl rfl rfl hd_X0_part ⟨(by first | exact Nat.le_of_ble_eq_true rfl | (show _ ≤ (_ : Nat); dsimp only [room_1]; omega)), (by first | exact Nat.le_of_ble_eq_true rfl | (show _ ≤ (_ : Nat); dsimp only [room_1]; omega))⟩) (pre_V3 (wa := []) (wc := (wX q cI cZ cJ k V C T (fun _ => 0) (fun _ => 0) A 0 (fun _ => 0) (fun _ => 0) 1000 0 (fun _ => 0) 4294967295 0 CT SC (fun _ => 0))) (wb := [(a5, .inl (cI, 8, .inl (rI V))), (a6, .inl (cI, 8, .inl (rI C))), (a7, .inl (cI, 8, .inl (rI TT)))]) hP hK hD hS hA hZ hg 0 (ci := 0) rfl rfl) rfl rfl hl.1 rfl (lv_room (Nat.le_of_ble_eq_true rfl)) dL_law_175 ⟨(by first | exact Nat.le_of_ble_eq_true rfl | (show _ ≤ (_ : Nat); dsimp only [room_1]; omega)), (by first | exact Nat.le_of_ble_eq_true rfl | (show _ ≤ (_ : Nat); dsimp only [room_1]; omega))⟩) hP hD hS hA (fun E h => by
                                                          rcases h with ⟨-, h⟩ | ⟨-, -, h⟩
                                                          · exact h ⟨am, by omega, by omega, rfl⟩
                                                          · exact h ⟨j, by omega, by omega, rfl⟩) (fun r_119 u_118 H locs hp_120 hP hD hS => ?_)
                            obtain ⟨a4, b4, pt, SC4⟩ := u_118
                            have hp_120a : r_119 = nI pt ∧ a4 < 2001 ∧ b4 < k ∧ (nI am) = nI a4 ∧ (nI j) = nI b4 ∧ ptR T V k a4 b4 pt := hp_120
                            clear hp_120
                            obtain ⟨hp_120_r, hp_120⟩ := hp_120a
                            have e_121 : am = a4 := (nI_eq32 (by omega) (by omega)).mp hp_120.2.2.1
                            subst e_121
                            have e_122 : j = b4 := (nI_eq32 (by omega) (by omega)).mp hp_120.2.2.2.1
                            subst e_122
                            subst hp_120_r
                            have hP : va_P D vwCl ((wX q cI cZ cJ k V C T (fun _ => 0) (fun _ => 0) A 0 (fun _ => 0) (fun _ => 0) 1000 0 (fun _ => 0) 4294967295 0 CT SC4 (fun _ => 0)) ++ [(a5, .inl (cI, 8, .inl (rI V))), (a6, .inl (cI, 8, .inl (rI C))), (a7, .inl (cI, 8, .inl (rI TT)))]) H := hP
                            have hD : va_D (lA s) ((wX q cI cZ cJ k V C T (fun _ => 0) (fun _ => 0) A 0 (fun _ => 0) (fun _ => 0) 1000 0 (fun _ => 0) 4294967295 0 CT SC4 (fun _ => 0)) ++ [(a5, .inl (cI, 8, .inl (rI V))), (a6, .inl (cI, 8, .inl (rI C))), (a7, .inl (cI, 8, .inl (rI TT)))]) := hD
                            have ept := ptR_n hn hp_120.2.2.2.2
                            refine n_top (congrArg nI ept) ?_
                            refine lv_istore (lv' := [(12, .int (nI 4294967295)), (11, .int (nI j)), (10, .int (nI co)), (9, .int (nI su)), (8, .int (nI bl)), (7, .int (nI 4294967295)), (6, .int (nI am)), (5, .int (nI tm)), (4, .int (nI k)), (3, .ref a6), (2, .ref a5), (1, .ref (q 0)), (0, .ref b)]) hx hb dL_law_178 hl (by decide) rfl (fun ls hl => ?_)
                            refine lv_iload hx hb dL_law_180 (lv_at hl 0 rfl) ?_
                            refine lv_if_ge (tgt := 189) hx hb dL_law_182 (by decide) (fun c182 => ?_) (fun c182 => ?_)
                            · exact absurd c182 (by decide)
                            · refine lv_iconst (v := nI 1) hx hb dL_law_185 (ic_1) ?_
                              refine lv_goto (tgt := 190) hx hb dL_law_186 (by decide) ?_
                              refine lv_iload hx hb dL_law_190 (lv_at hl 5 rfl) ?_
                              refine lv_if_ge (tgt := 199) hx hb dL_law_192 (by decide) (fun c192 => ?_) (fun c192 => ?_)
                              · exact absurd c192 (by decide)
                              · refine lv_iconst (v := nI 1) hx hb dL_law_195 (ic_1) ?_
                                refine lv_goto (tgt := 200) hx hb dL_law_196 (by decide) ?_
                                refine n_icmp_ne (tgt := 215) hx hb (by omega) (by omega) dL_law_200 (by decide) (fun c200 => ?_) (fun c200 => ?_)
                                · exact absurd rfl c200
                                · refine lv_iload hx hb dL_law_203 (lv_at hl 0 rfl) ?_
                                  refine lv_aload_n hx hb dL_law_205 rfl (lv_at hl 11 rfl) ?_
                                  refine lv_iload hx hb dL_law_206 (lv_at hl 1 rfl) ?_
                                  refine lv_iconst (v := nI 1) hx hb dL_law_208 (ic_1) ?_
                                  refine kn3_i (mc := 2) (ms := 12) (wa := []) (wc := (wX q cI cZ cJ k V C T (fun _ => 0) (fun _ => 0) A 0 (fun _ => 0) (fun _ => 0) 1000 0 (fun _ => 0) 4294967295 0 CT SC4 (fun _ => 0))) (wb := [(a5, .inl (cI, 8, .inl (rI V))), (a6, .inl (cI, 8, .inl (rI C))), (a7, .inl (cI, 8, .inl (rI TT)))]) (vx_runV (As := [.int (nI j), .int (nI 1)]) (rest := [.int (nI 4294967295)]) ⟨hx, hb, hml, hown, hts⟩ (c_X0_coins l hst D q cI cZ cJ k V C T (fun _ => 0) (fun _ => 0) A 0 (fun _ => 0) (fun _ => 0) 1000 0 (fun _ => 0) 4294967295 0 CT SC4 (fun _ => 0) H.size (nI j) (nI 1) hk8) (cwV 2 hts gL_law_X0_coins rfl rfl rfl hd_X0_coins ⟨(by first | exact Nat.le_of_ble_eq_true rfl | (show _ ≤ (_ : Nat); dsimp only [room_1]; omega)), (by first | exact Nat.le_of_ble_eq_true rfl | (show _ ≤ (_ : Nat); dsimp only [room_1]; omega))⟩) (pre_V3 (wa := []) (wc := (wX q cI cZ cJ k V C T (fun _ => 0) (fun _ => 0) A 0 (fun _ => 0) (fun _ => 0) 1000 0 (fun _ => 0) 4294967295 0 CT SC4 (fun _ => 0))) (wb := [(a5, .inl (cI, 8, .inl (rI V))), (a6, .inl (cI, 8, .inl (rI C))), (a7, .inl (cI, 8, .inl (rI TT)))]) hP hK hD hS hA hZ hg 0 (ci := 0) rfl rfl) rfl rfl hl.1 rfl (lv_room (Nat.le_of_ble_eq_true rfl)) dL_law_209 ⟨(by first | exact Nat.le_of_ble_eq_true rfl | (show _ ≤ (_ : Nat); dsimp only [room_1]; omega)), (by first | exact Nat.le_of_ble_eq_true rfl | (show _ ≤ (_ : Nat); dsimp only [room_1]; omega))⟩) hP hD hS hA (fun E h => h.2 ⟨⟨j, by omega, by omega, rfl⟩, ⟨1, by omega, by omega, rfl⟩⟩) (fun r_124 u_123 H locs hp_125 hP hD hS => ?_)
                                  obtain ⟨c1, c2⟩ := u_123
                                  have hp_125a : r_124 = nI (tld V T (fun _ => 0) (fun _ => 0) c1 c2) ∧ c1 < k ∧ c2 < 4 ∧ (nI j) = nI c1 ∧ (nI 1) = nI c2 := hp_125
                                  clear hp_125
                                  obtain ⟨hp_125_r, hp_125⟩ := hp_125a
                                  have e_126 : j = c1 := (nI_eq32 (by omega) (by omega)).mp hp_125.2.2.1
                                  subst e_126
                                  have e_127 : 1 = c2 := (nI_eq32 (by omega) (by omega)).mp hp_125.2.2.2
                                  subst e_127
                                  subst hp_125_r
                                  have hP : va_P D vwCl ((wX q cI cZ cJ k V C T (fun _ => 0) (fun _ => 0) A 0 (fun _ => 0) (fun _ => 0) 1000 0 (fun _ => 0) 4294967295 0 CT SC4 (fun _ => 0)) ++ [(a5, .inl (cI, 8, .inl (rI V))), (a6, .inl (cI, 8, .inl (rI C))), (a7, .inl (cI, 8, .inl (rI TT)))]) H := hP
                                  have hD : va_D (lA s) ((wX q cI cZ cJ k V C T (fun _ => 0) (fun _ => 0) A 0 (fun _ => 0) (fun _ => 0) 1000 0 (fun _ => 0) 4294967295 0 CT SC4 (fun _ => 0)) ++ [(a5, .inl (cI, 8, .inl (rI V))), (a6, .inl (cI, 8, .inl (rI C))), (a7, .inl (cI, 8, .inl (rI TT)))]) := hD
                                  refine n_top (y := nI (T j)) rfl ?_
                                  refine lv_icmp_le (tgt := 217) hx hb dL_law_212 (by decide) (fun c212 => ?_) (fun c212 => ?_)
                                  · refine lv_iload hx hb dL_law_217 (lv_at hl 3 rfl) ?_
                                    refine lv_iload hx hb dL_law_219 (lv_at hl 0 rfl) ?_
                                    refine lv_aload_n hx hb dL_law_221 rfl (lv_at hl 10 rfl) ?_
                                    refine lv_iload hx hb dL_law_222 (lv_at hl 1 rfl) ?_
                                    refine n_iald hx hb hK hP 13 0 rfl rfl (by omega) (by decide) dL_law_224 ?_
                                    refine n_imul hx hb dL_law_225 ?_
                                    refine n_iadd hx hb dL_law_226 ?_
                                    refine lv_istore (lv' := [(9, .int (nI (su + (4294967295 * (V j))))), (12, .int (nI 4294967295)), (11, .int (nI j)), (10, .int (nI co)), (8, .int (nI bl)), (7, .int (nI 4294967295)), (6, .int (nI am)), (5, .int (nI tm)), (4, .int (nI k)), (3, .ref a6), (2, .ref a5), (1, .ref (q 0)), (0, .ref b)]) hx hb dL_law_227 hl (by decide) rfl (fun ls hl => ?_)
                                    refine lv_iload hx hb dL_law_229 (lv_at hl 3 rfl) ?_
                                    refine lv_iload hx hb dL_law_231 (lv_at hl 1 rfl) ?_
                                    refine n_iadd hx hb dL_law_233 ?_
                                    refine lv_istore (lv' := [(10, .int (nI (co + 4294967295))), (9, .int (nI (su + (4294967295 * (V j))))), (12, .int (nI 4294967295)), (11, .int (nI j)), (8, .int (nI bl)), (7, .int (nI 4294967295)), (6, .int (nI am)), (5, .int (nI tm)), (4, .int (nI k)), (3, .ref a6), (2, .ref a5), (1, .ref (q 0)), (0, .ref b)]) hx hb dL_law_234 hl (by decide) rfl (fun ls hl => ?_)
                                    refine lv_iinc (v := nI (j + 1)) (lv' := [(11, .int (nI (j + 1))), (10, .int (nI (co + 4294967295))), (9, .int (nI (su + (4294967295 * (V j))))), (12, .int (nI 4294967295)), (8, .int (nI bl)), (7, .int (nI 4294967295)), (6, .int (nI am)), (5, .int (nI tm)), (4, .int (nI k)), (3, .ref a6), (2, .ref a5), (1, .ref (q 0)), (0, .ref b)]) hx hb dL_law_236 hl (k := 3) rfl (ni_inc _ 1) (by decide) rfl (fun ls hl => ?_)
                                    refine lv_goto (tgt := 163) hx hb dL_law_239 (by decide) ?_
                                    refine W.widen (k := 40 + 80 * tm + 4 + 4 * (j + 1)) (n := 3000 + 500 * tm + 24 + 24 * (j + 1)) (by omega) (by omega) ?_
                                    exact ih_163 (j + 1) (su + (4294967295 * (V j))) (co + 4294967295) SC4 (by omega) (by omega) _ _ hP hD hS ls (lv_sub hl [0, 1, 2, 4, 5, 6, 7, 8, 9, 10, 11, 12] rfl)
                                  · exact absurd (m1_le (by have h9 := hC j (by omega); omega)) c212
                      refine W.widen (k := 40 + 80 * tm + 4 + 4 * 0) (n := 3000 + 500 * tm + 24 + 24 * 0) (by omega) (by omega) ?_
                      exact lp_163 _ 0 0 0 SC3 (Nat.lt_succ_self _) (by omega) _ _ hP hD hS ls (lv_sub hl [0, 1, 2, 3, 4, 5, 6, 7, 8, 9, 10, 11] rfl)
                    · exact absurd m1_neg c139
              · exact absurd c110 (by omega)
            · exact absurd m1_neg c98
          · have hws := way_sums hk8 (fun i hi => by have h1 := hC i hi; omega) hVd hz.1
            have hfw0 : fwR T V k am (cnz z) := Or.inr ⟨z, hz, rfl⟩
            refine lv_istore (lv' := [(7, .int (nI (cnz z))), (6, .int (nI am)), (5, .int (nI tm)), (4, .int (nI k)), (3, .ref a6), (2, .ref a5), (1, .ref (q 0)), (0, .ref b)]) hx hb dL_law_86 hl (by decide) rfl (fun ls hl => ?_)
            refine lv_aload_n hx hb dL_law_88 rfl (lv_at hl 6 rfl) ?_
            refine lv_iload hx hb dL_law_89 (lv_at hl 1 rfl) ?_
            refine kn3_i (mc := 1) (ms := 6) (wa := []) (wc := (wX q cI cZ cJ k V C T (fun _ => 0) (fun _ => 0) A 0 (fun _ => 0) (fun _ => 0) 1000 0 (fun _ => 0) 4294967295 0 CT SC1 (fun _ => 0))) (wb := [(a5, .inl (cI, 8, .inl (rI V))), (a6, .inl (cI, 8, .inl (rI C))), (a7, .inl (cI, 8, .inl (rI TT)))]) (vx_runV (As := [.int (nI am)]) (rest := []) ⟨hx, hb, hml, hown, hts⟩ (c_X0_below l hst D q cI cZ cJ k V C T (fun _ => 0) (fun _ => 0) A 0 (fun _ => 0) (fun _ => 0) 1000 0 (fun _ => 0) 4294967295 0 CT SC1 (fun _ => 0) H.size (nI am) hk8 hV hC) (cwV 1 hts gL_law_X0_below rfl rfl rfl hd_X0_below ⟨(by first | exact Nat.le_of_ble_eq_true rfl | (show _ ≤ (_ : Nat); dsimp only [room_1]; omega)), (by first | exact Nat.le_of_ble_eq_true rfl | (show _ ≤ (_ : Nat); dsimp only [room_1]; omega))⟩) (pre_V3 (wa := []) (wc := (wX q cI cZ cJ k V C T (fun _ => 0) (fun _ => 0) A 0 (fun _ => 0) (fun _ => 0) 1000 0 (fun _ => 0) 4294967295 0 CT SC1 (fun _ => 0))) (wb := [(a5, .inl (cI, 8, .inl (rI V))), (a6, .inl (cI, 8, .inl (rI C))), (a7, .inl (cI, 8, .inl (rI TT)))]) hP hK hD hS hA hZ hg 0 (ci := 0) rfl rfl) rfl rfl hl.1 rfl (lv_room (Nat.le_of_ble_eq_true rfl)) dL_law_91 ⟨(by first | exact Nat.le_of_ble_eq_true rfl | (show _ ≤ (_ : Nat); dsimp only [room_1]; omega)), (by first | exact Nat.le_of_ble_eq_true rfl | (show _ ≤ (_ : Nat); dsimp only [room_1]; omega))⟩) hP hD hS hA (fun E h => h.2 ⟨am, by omega, by omega, rfl⟩) (fun r_129 u_128 H locs hp_130 hP hD hS => ?_)
            obtain ⟨a2, bl, SC2⟩ := u_128
            have hp_130a : r_129 = nI bl ∧ a2 < 2001 ∧ (nI am) = nI a2 ∧ blR T V k a2 bl := hp_130
            clear hp_130
            obtain ⟨hp_130_r, hp_130⟩ := hp_130a
            have e_131 : am = a2 := (nI_eq32 (by omega) (by omega)).mp hp_130.2.1
            subst e_131
            subst hp_130_r
            have hP : va_P D vwCl ((wX q cI cZ cJ k V C T (fun _ => 0) (fun _ => 0) A 0 (fun _ => 0) (fun _ => 0) 1000 0 (fun _ => 0) 4294967295 0 CT SC2 (fun _ => 0)) ++ [(a5, .inl (cI, 8, .inl (rI V))), (a6, .inl (cI, 8, .inl (rI C))), (a7, .inl (cI, 8, .inl (rI TT)))]) H := hP
            have hD : va_D (lA s) ((wX q cI cZ cJ k V C T (fun _ => 0) (fun _ => 0) A 0 (fun _ => 0) (fun _ => 0) 1000 0 (fun _ => 0) 4294967295 0 CT SC2 (fun _ => 0)) ++ [(a5, .inl (cI, 8, .inl (rI V))), (a6, .inl (cI, 8, .inl (rI C))), (a7, .inl (cI, 8, .inl (rI TT)))]) := hD
            have hbw := hp_130.2.2
            have hbe : am = bl := (blR_y hz hbw).symm
            subst hbe
            refine lv_istore (lv' := [(8, .int (nI am)), (7, .int (nI (cnz z))), (6, .int (nI am)), (5, .int (nI tm)), (4, .int (nI k)), (3, .ref a6), (2, .ref a5), (1, .ref (q 0)), (0, .ref b)]) hx hb dL_law_94 hl (by decide) rfl (fun ls hl => ?_)
            refine lv_iload hx hb dL_law_96 (lv_at hl 1 rfl) ?_
            refine n_if_lt (tgt := 105) hx hb (by omega) dL_law_98 (by decide) ?_
            refine lv_iconst (v := nI 1) hx hb dL_law_101 (ic_1) ?_
            refine lv_goto (tgt := 106) hx hb dL_law_102 (by decide) ?_
            refine lv_iload hx hb dL_law_106 (lv_at hl 0 rfl) ?_
            refine lv_iload hx hb dL_law_108 (lv_at hl 2 rfl) ?_
            refine n_icmp_ne (tgt := 117) hx hb (by omega) (by omega) dL_law_110 (by decide) (fun c110 => ?_) (fun c110 => ?_)
            · exact absurd rfl c110
            · refine lv_iconst (v := nI 1) hx hb dL_law_113 (ic_1) ?_
              refine lv_goto (tgt := 118) hx hb dL_law_114 (by decide) ?_
              refine n_icmp_ne (tgt := 152) hx hb (by omega) (by omega) dL_law_118 (by decide) (fun c118 => ?_) (fun c118 => ?_)
              · exact absurd rfl c118
              · refine lv_iload hx hb dL_law_121 (lv_at hl 0 rfl) ?_
                refine lv_iload hx hb dL_law_123 (lv_at hl 2 rfl) ?_
                refine n_icmp_gt (tgt := 152) hx hb (by omega) (by omega) dL_law_125 (by decide) (fun c125 => ?_) (fun c125 => ?_)
                · exact absurd c125 (by omega)
                · refine lv_aload_n hx hb dL_law_128 rfl (lv_at hl 7 rfl) ?_
                  refine lv_iload hx hb dL_law_129 (lv_at hl 0 rfl) ?_
                  refine kn3_i (mc := 1) (ms := 6) (wa := []) (wc := (wX q cI cZ cJ k V C T (fun _ => 0) (fun _ => 0) A 0 (fun _ => 0) (fun _ => 0) 1000 0 (fun _ => 0) 4294967295 0 CT SC2 (fun _ => 0))) (wb := [(a5, .inl (cI, 8, .inl (rI V))), (a6, .inl (cI, 8, .inl (rI C))), (a7, .inl (cI, 8, .inl (rI TT)))]) (vx_runV (As := [.int (nI am)]) (rest := []) ⟨hx, hb, hml, hown, hts⟩ (c_X0_fewest l hst D q cI cZ cJ k V C T (fun _ => 0) (fun _ => 0) A 0 (fun _ => 0) (fun _ => 0) 1000 0 (fun _ => 0) 4294967295 0 CT SC2 (fun _ => 0) H.size (nI am) hk8 hV hC) (cwV 1 hts gL_law_X0_fewest rfl rfl rfl hd_X0_fewest ⟨(by first | exact Nat.le_of_ble_eq_true rfl | (show _ ≤ (_ : Nat); dsimp only [room_1]; omega)), (by first | exact Nat.le_of_ble_eq_true rfl | (show _ ≤ (_ : Nat); dsimp only [room_1]; omega))⟩) (pre_V3 (wa := []) (wc := (wX q cI cZ cJ k V C T (fun _ => 0) (fun _ => 0) A 0 (fun _ => 0) (fun _ => 0) 1000 0 (fun _ => 0) 4294967295 0 CT SC2 (fun _ => 0))) (wb := [(a5, .inl (cI, 8, .inl (rI V))), (a6, .inl (cI, 8, .inl (rI C))), (a7, .inl (cI, 8, .inl (rI TT)))]) hP hK hD hS hA hZ hg 0 (ci := 0) rfl rfl) rfl rfl hl.1 rfl (lv_room (Nat.le_of_ble_eq_true rfl)) dL_law_131 ⟨(by first | exact Nat.le_of_ble_eq_true rfl | (show _ ≤ (_ : Nat); dsimp only [room_1]; omega)), (by first | exact Nat.le_of_ble_eq_true rfl | (show _ ≤ (_ : Nat); dsimp only [room_1]; omega))⟩) hP hD hS hA (fun E h => h.2 ⟨am, by omega, by omega, rfl⟩) (fun r_133 u_132 H locs hp_134 hP hD hS => ?_)
                  obtain ⟨a3, fv2, SC3⟩ := u_132
                  have hp_134a : r_133 = nI fv2 ∧ a3 < 2001 ∧ (nI am) = nI a3 ∧ fwR T V k a3 fv2 := hp_134
                  clear hp_134
                  obtain ⟨hp_134_r, hp_134⟩ := hp_134a
                  have e_135 : am = a3 := (nI_eq32 (by omega) (by omega)).mp hp_134.2.1
                  subst e_135
                  subst hp_134_r
                  have hP : va_P D vwCl ((wX q cI cZ cJ k V C T (fun _ => 0) (fun _ => 0) A 0 (fun _ => 0) (fun _ => 0) 1000 0 (fun _ => 0) 4294967295 0 CT SC3 (fun _ => 0)) ++ [(a5, .inl (cI, 8, .inl (rI V))), (a6, .inl (cI, 8, .inl (rI C))), (a7, .inl (cI, 8, .inl (rI TT)))]) H := hP
                  have hD : va_D (lA s) ((wX q cI cZ cJ k V C T (fun _ => 0) (fun _ => 0) A 0 (fun _ => 0) (fun _ => 0) 1000 0 (fun _ => 0) 4294967295 0 CT SC3 (fun _ => 0)) ++ [(a5, .inl (cI, 8, .inl (rI V))), (a6, .inl (cI, 8, .inl (rI C))), (a7, .inl (cI, 8, .inl (rI TT)))]) := hD
                  obtain ⟨z2, hz2, ez2⟩ := fwR_s hbw.2.1 hp_134.2.2
                  refine n_top (congrArg nI ez2) ?_
                  have hws2 := way_sums hk8 (fun i hi => by have h1 := hC i hi; omega) hVd hz2.1
                  refine n_if_lt (tgt := 152) hx hb (by omega) dL_law_134 (by decide) ?_
                  refine lv_iload hx hb dL_law_137 (lv_at hl 1 rfl) ?_
                  refine n_if_lt (tgt := 154) hx hb (by omega) dL_law_139 (by decide) ?_
                  refine lv_iload hx hb dL_law_142 (lv_at hl 2 rfl) ?_
                  refine lv_aload_n hx hb dL_law_144 rfl (lv_at hl 7 rfl) ?_
                  refine k3_i (mc := 0) (ms := 0) (wa := []) (wc := (wX q cI cZ cJ k V C T (fun _ => 0) (fun _ => 0) A 0 (fun _ => 0) (fun _ => 0) 1000 0 (fun _ => 0) 4294967295 0 CT SC3 (fun _ => 0))) (wb := [(a5, .inl (cI, 8, .inl (rI V))), (a6, .inl (cI, 8, .inl (rI C))), (a7, .inl (cI, 8, .inl (rI TT)))]) (va_runV (As := []) (rest := [.int (nI am)]) ⟨hx, hb, hml, hown, hts⟩ (c_X0_unit l hst D q cI cZ cJ k V C T (fun _ => 0) (fun _ => 0) A 0 (fun _ => 0) (fun _ => 0) 1000 0 (fun _ => 0) 4294967295 0 CT SC3 (fun _ => 0) H.size hk8 hV) (cwV 0 hts gL_law_X0_unit rfl rfl rfl hd_X0_unit ⟨(by first | exact Nat.le_of_ble_eq_true rfl | (show _ ≤ (_ : Nat); dsimp only [room_1]; omega)), (by first | exact Nat.le_of_ble_eq_true rfl | (show _ ≤ (_ : Nat); dsimp only [room_1]; omega))⟩) (pre_V3 (wa := []) (wc := (wX q cI cZ cJ k V C T (fun _ => 0) (fun _ => 0) A 0 (fun _ => 0) (fun _ => 0) 1000 0 (fun _ => 0) 4294967295 0 CT SC3 (fun _ => 0))) (wb := [(a5, .inl (cI, 8, .inl (rI V))), (a6, .inl (cI, 8, .inl (rI C))), (a7, .inl (cI, 8, .inl (rI TT)))]) hP hK hD hS hA hZ hg 0 (ci := 0) rfl rfl) rfl rfl hl.1 rfl (lv_room (Nat.le_of_ble_eq_true rfl)) dL_law_145 ⟨(by first | exact Nat.le_of_ble_eq_true rfl | (show _ ≤ (_ : Nat); dsimp only [room_1]; omega)), (by first | exact Nat.le_of_ble_eq_true rfl | (show _ ≤ (_ : Nat); dsimp only [room_1]; omega))⟩) hP hD hS hA (fun r_137 u_136 H locs hp_138 hP hD hS => ?_)
                  have hP : va_P D vwCl ((wX q cI cZ cJ k V C T (fun _ => 0) (fun _ => 0) A 0 (fun _ => 0) (fun _ => 0) 1000 0 (fun _ => 0) 4294967295 0 CT SC3 (fun _ => 0)) ++ [(a5, .inl (cI, 8, .inl (rI V))), (a6, .inl (cI, 8, .inl (rI C))), (a7, .inl (cI, 8, .inl (rI TT)))]) H := hP
                  have hD : va_D (lA s) ((wX q cI cZ cJ k V C T (fun _ => 0) (fun _ => 0) A 0 (fun _ => 0) (fun _ => 0) 1000 0 (fun _ => 0) 4294967295 0 CT SC3 (fun _ => 0)) ++ [(a5, .inl (cI, 8, .inl (rI V))), (a6, .inl (cI, 8, .inl (rI C))), (a7, .inl (cI, 8, .inl (rI TT)))]) := hD
                  subst hp_138
                  refine n_irem hx hb (by omega) (gu_pos hk1) (by have h9 := gu_le V k; omega) dL_law_148 ?_
                  refine n_top (congrArg nI (show am % (gu V k) = 0 from unit_div hk1 hz.1)) ?_
                  refine n_if_eq (tgt := 154) hx hb (by decide) dL_law_149 (by decide) (fun c149 => ?_) (fun c149 => ?_)
                  · refine lv_iconst (v := nI 0) hx hb dL_law_154 (ic_0) ?_
                    refine lv_istore (lv' := [(9, .int (nI 0)), (8, .int (nI am)), (7, .int (nI (cnz z))), (6, .int (nI am)), (5, .int (nI tm)), (4, .int (nI k)), (3, .ref a6), (2, .ref a5), (1, .ref (q 0)), (0, .ref b)]) hx hb dL_law_155 hl (by decide) rfl (fun ls hl => ?_)
                    refine lv_iconst (v := nI 0) hx hb dL_law_157 (ic_0) ?_
                    refine lv_istore (lv' := [(10, .int (nI 0)), (9, .int (nI 0)), (8, .int (nI am)), (7, .int (nI (cnz z))), (6, .int (nI am)), (5, .int (nI tm)), (4, .int (nI k)), (3, .ref a6), (2, .ref a5), (1, .ref (q 0)), (0, .ref b)]) hx hb dL_law_158 hl (by decide) rfl (fun ls hl => ?_)
                    refine lv_iconst (v := nI 0) hx hb dL_law_160 (ic_0) ?_
                    refine lv_istore (lv' := [(11, .int (nI 0)), (10, .int (nI 0)), (9, .int (nI 0)), (8, .int (nI am)), (7, .int (nI (cnz z))), (6, .int (nI am)), (5, .int (nI tm)), (4, .int (nI k)), (3, .ref a6), (2, .ref a5), (1, .ref (q 0)), (0, .ref b)]) hx hb dL_law_161 hl (by decide) rfl (fun ls hl => ?_)
                    have lp_163 : ∀ (fu_163 : Nat) (j : Nat) (su : Nat) (co : Nat) (SC : Nat → Int), k - j < fu_163 → (j ≤ k) → (su = sm (fun i => pz z (lc V (V i) k) * V i) j) → (co = sm (fun i => pz z (lc V (V i) k)) j) → ∀ (H : Heap) (locs : List Loc), va_P D vwCl ((wX q cI cZ cJ k V C T (fun _ => 0) (fun _ => 0) A 0 (fun _ => 0) (fun _ => 0) 1000 0 (fun _ => 0) 4294967295 0 CT SC (fun _ => 0)) ++ [(a5, .inl (cI, 8, .inl (rI V))), (a6, .inl (cI, 8, .inl (rI C))), (a7, .inl (cI, 8, .inl (rI TT)))]) H → va_D (lA s) ((wX q cI cZ cJ k V C T (fun _ => 0) (fun _ => 0) A 0 (fun _ => 0) (fun _ => 0) 1000 0 (fun _ => 0) 4294967295 0 CT SC (fun _ => 0)) ++ [(a5, .inl (cI, 8, .inl (rI V))), (a6, .inl (cI, 8, .inl (rI C))), (a7, .inl (cI, 8, .inl (rI TT)))]) → va_S (lA s) s.heap H locs → ∀ ls : Array Slot, lv_has ls 14 [(11, .int (nI j)), (10, .int (nI co)), (9, .int (nI su)), (8, .int (nI am)), (7, .int (nI (cnz z))), (6, .int (nI am)), (5, .int (nI tm)), (4, .int (nI k)), (3, .ref a6), (2, .ref a5), (1, .ref (q 0)), (0, .ref b)] → W p l e room_1 s m #[Value.ref b] below meth c H locs (40 + 80 * tm + 4 + 4 * j) (3000 + 500 * tm + 24 + 24 * j) Q (F0 m 163 ls []) := by
                      intro fu_163
                      induction fu_163 with
                      | zero =>
                        intro j su co SC hfu_163
                        exact absurd hfu_163 (Nat.not_lt_zero _)
                      | succ fu_163 ih_163 =>
                        intro j su co SC hfu_163 hj hsu hco H locs hP hD hS ls hl
                        refine lv_iload hx hb dL_law_163 (lv_at hl 0 rfl) ?_
                        refine lv_iload hx hb dL_law_165 (lv_at hl 7 rfl) ?_
                        refine n_icmp_ge (tgt := 242) hx hb (by omega) (by omega) dL_law_167 (by decide) (fun c167 => ?_) (fun c167 => ?_)
                        · have hjk : j = k := by omega
                          have hsum : su = am := by rw [hsu, hjk]; exact hws.1
                          have hcoin : co = cnz z := by rw [hco, hjk]; exact hws.2.1
                          refine lv_iload hx hb dL_law_242 (lv_at hl 4 rfl) ?_
                          refine n_if_lt (tgt := 263) hx hb (by omega) dL_law_244 (by decide) ?_
                          refine lv_iload hx hb dL_law_247 (lv_at hl 2 rfl) ?_
                          refine lv_iload hx hb dL_law_249 (lv_at hl 5 rfl) ?_
                          refine n_icmp_ne (tgt := 261) hx hb (by omega) (by omega) dL_law_251 (by decide) (fun c251 => ?_) (fun c251 => ?_)
                          · exact absurd hsum c251
                          · refine lv_iload hx hb dL_law_254 (lv_at hl 1 rfl) ?_
                            refine lv_iload hx hb dL_law_256 (lv_at hl 4 rfl) ?_
                            refine n_icmp_eq (tgt := 263) hx hb (by omega) (by omega) dL_law_258 (by decide) (fun c258 => ?_) (fun c258 => ?_)
                            · refine W.widen (k := 40 + 80 * tm + 50) (n := 3000 + 500 * tm + 300) (by omega) (by omega) ?_
                              exact lp_263 (cnz z) am SC hfw0 hbw _ _ hP hD hS ls (lv_sub hl [3, 4, 5, 6, 7, 8, 9, 10, 11] rfl)
                            · exact absurd hcoin c258
                        · refine lv_aload_n hx hb dL_law_170 rfl (lv_at hl 10 rfl) ?_
                          refine lv_iload hx hb dL_law_171 (lv_at hl 5 rfl) ?_
                          refine lv_iload hx hb dL_law_173 (lv_at hl 0 rfl) ?_
                          refine kn3_i (mc := 2) (ms := 12) (wa := []) (wc := (wX q cI cZ cJ k V C T (fun _ => 0) (fun _ => 0) A 0 (fun _ => 0) (fun _ => 0) 1000 0 (fun _ => 0) 4294967295 0 CT SC (fun _ => 0))) (wb := [(a5, .inl (cI, 8, .inl (rI V))), (a6, .inl (cI, 8, .inl (rI C))), (a7, .inl (cI, 8, .inl (rI TT)))]) (vx_runV (As := [.int (nI am), .int (nI j)]) (rest := []) ⟨hx, hb, hml, hown, hts⟩ (c_X0_part l hst D q cI cZ cJ k V C T (fun _ => 0) (fun _ => 0) A 0 (fun _ => 0) (fun _ => 0) 1000 0 (fun _ => 0) 4294967295 0 CT SC (fun _ => 0) H.size (nI am) (nI j) hk8 hV hC) (cwV 2 hts gL_law_X0_part rfl rfl rfl hd_X0_part ⟨(by first | exact Nat.le_of_ble_eq_true rfl | (show _ ≤ (_ : Nat); dsimp only [room_1]; omega)), (by first | exact Nat.le_of_ble_eq_true rfl | (show _ ≤ (_ : Nat); dsimp only [room_1]; omega))⟩) (pre_V3 (wa := []) (wc := (wX q cI cZ cJ k V C T (fun _ => 0) (fun _ => 0) A 0 (fun _ => 0) (fun _ => 0) 1000 0 (fun _ => 0) 4294967295 0 CT SC (fun _ => 0))) (wb := [(a5, .inl (cI, 8, .inl (rI V))), (a6, .inl (cI, 8, .inl (rI C))), (a7, .inl (cI, 8, .inl (rI TT)))]) hP hK hD hS hA hZ hg 0 (ci := 0) rfl rfl) rfl rfl hl.1 rfl (lv_room (Nat.le_of_ble_eq_true rfl)) dL_law_175 ⟨(by first | exact Nat.le_of_ble_eq_true rfl | (show _ ≤ (_ : Nat); dsimp only [room_1]; omega)), (by first | exact Nat.le_of_ble_eq_true rfl | (show _ ≤ (_ : Nat); dsimp only [room_1]; omega))⟩) hP hD hS hA (fun E h => by
                                                      rcases h with ⟨-, h⟩ | ⟨-, -, h⟩
                                                      · exact h ⟨am, by omega, by omega, rfl⟩
                                                      · exact h ⟨j, by omega, by omega, rfl⟩) (fun r_140 u_139 H locs hp_141 hP hD hS => ?_)
                          obtain ⟨a4, b4, pt, SC4⟩ := u_139
                          have hp_141a : r_140 = nI pt ∧ a4 < 2001 ∧ b4 < k ∧ (nI am) = nI a4 ∧ (nI j) = nI b4 ∧ ptR T V k a4 b4 pt := hp_141
                          clear hp_141
                          obtain ⟨hp_141_r, hp_141⟩ := hp_141a
                          have e_142 : am = a4 := (nI_eq32 (by omega) (by omega)).mp hp_141.2.2.1
                          subst e_142
                          have e_143 : j = b4 := (nI_eq32 (by omega) (by omega)).mp hp_141.2.2.2.1
                          subst e_143
                          subst hp_141_r
                          have hP : va_P D vwCl ((wX q cI cZ cJ k V C T (fun _ => 0) (fun _ => 0) A 0 (fun _ => 0) (fun _ => 0) 1000 0 (fun _ => 0) 4294967295 0 CT SC4 (fun _ => 0)) ++ [(a5, .inl (cI, 8, .inl (rI V))), (a6, .inl (cI, 8, .inl (rI C))), (a7, .inl (cI, 8, .inl (rI TT)))]) H := hP
                          have hD : va_D (lA s) ((wX q cI cZ cJ k V C T (fun _ => 0) (fun _ => 0) A 0 (fun _ => 0) (fun _ => 0) 1000 0 (fun _ => 0) 4294967295 0 CT SC4 (fun _ => 0)) ++ [(a5, .inl (cI, 8, .inl (rI V))), (a6, .inl (cI, 8, .inl (rI C))), (a7, .inl (cI, 8, .inl (rI TT)))]) := hD
                          have ept := ptR_y hz hp_141.2.2.2.2
                          refine n_top (congrArg nI ept) ?_
                          have hpl := pz_le hk8 (fun i hi => by have h1 := hC i hi; omega) hVd hz.1 j (by omega)
                          have hCj := hC j (by omega)
                          refine lv_istore (lv' := [(12, .int (nI (pz z (lc V (V j) k)))), (11, .int (nI j)), (10, .int (nI co)), (9, .int (nI su)), (8, .int (nI am)), (7, .int (nI (cnz z))), (6, .int (nI am)), (5, .int (nI tm)), (4, .int (nI k)), (3, .ref a6), (2, .ref a5), (1, .ref (q 0)), (0, .ref b)]) hx hb dL_law_178 hl (by decide) rfl (fun ls hl => ?_)
                          refine lv_iload hx hb dL_law_180 (lv_at hl 0 rfl) ?_
                          refine n_if_ge (tgt := 189) hx hb (by omega) dL_law_182 (by decide) ?_
                          refine lv_iconst (v := nI 0) hx hb dL_law_189 (ic_0) ?_
                          refine lv_iload hx hb dL_law_190 (lv_at hl 5 rfl) ?_
                          refine n_if_ge (tgt := 199) hx hb (by omega) dL_law_192 (by decide) ?_
                          refine lv_iconst (v := nI 0) hx hb dL_law_199 (ic_0) ?_
                          refine n_icmp_ne (tgt := 215) hx hb (by omega) (by omega) dL_law_200 (by decide) (fun c200 => ?_) (fun c200 => ?_)
                          · exact absurd rfl c200
                          · refine lv_iload hx hb dL_law_203 (lv_at hl 0 rfl) ?_
                            refine lv_aload_n hx hb dL_law_205 rfl (lv_at hl 11 rfl) ?_
                            refine lv_iload hx hb dL_law_206 (lv_at hl 1 rfl) ?_
                            refine lv_iconst (v := nI 1) hx hb dL_law_208 (ic_1) ?_
                            refine kn3_i (mc := 2) (ms := 12) (wa := []) (wc := (wX q cI cZ cJ k V C T (fun _ => 0) (fun _ => 0) A 0 (fun _ => 0) (fun _ => 0) 1000 0 (fun _ => 0) 4294967295 0 CT SC4 (fun _ => 0))) (wb := [(a5, .inl (cI, 8, .inl (rI V))), (a6, .inl (cI, 8, .inl (rI C))), (a7, .inl (cI, 8, .inl (rI TT)))]) (vx_runV (As := [.int (nI j), .int (nI 1)]) (rest := [.int (nI (pz z (lc V (V j) k)))]) ⟨hx, hb, hml, hown, hts⟩ (c_X0_coins l hst D q cI cZ cJ k V C T (fun _ => 0) (fun _ => 0) A 0 (fun _ => 0) (fun _ => 0) 1000 0 (fun _ => 0) 4294967295 0 CT SC4 (fun _ => 0) H.size (nI j) (nI 1) hk8) (cwV 2 hts gL_law_X0_coins rfl rfl rfl hd_X0_coins ⟨(by first | exact Nat.le_of_ble_eq_true rfl | (show _ ≤ (_ : Nat); dsimp only [room_1]; omega)), (by first | exact Nat.le_of_ble_eq_true rfl | (show _ ≤ (_ : Nat); dsimp only [room_1]; omega))⟩) (pre_V3 (wa := []) (wc := (wX q cI cZ cJ k V C T (fun _ => 0) (fun _ => 0) A 0 (fun _ => 0) (fun _ => 0) 1000 0 (fun _ => 0) 4294967295 0 CT SC4 (fun _ => 0))) (wb := [(a5, .inl (cI, 8, .inl (rI V))), (a6, .inl (cI, 8, .inl (rI C))), (a7, .inl (cI, 8, .inl (rI TT)))]) hP hK hD hS hA hZ hg 0 (ci := 0) rfl rfl) rfl rfl hl.1 rfl (lv_room (Nat.le_of_ble_eq_true rfl)) dL_law_209 ⟨(by first | exact Nat.le_of_ble_eq_true rfl | (show _ ≤ (_ : Nat); dsimp only [room_1]; omega)), (by first | exact Nat.le_of_ble_eq_true rfl | (show _ ≤ (_ : Nat); dsimp only [room_1]; omega))⟩) hP hD hS hA (fun E h => h.2 ⟨⟨j, by omega, by omega, rfl⟩, ⟨1, by omega, by omega, rfl⟩⟩) (fun r_145 u_144 H locs hp_146 hP hD hS => ?_)
                            obtain ⟨c1, c2⟩ := u_144
                            have hp_146a : r_145 = nI (tld V T (fun _ => 0) (fun _ => 0) c1 c2) ∧ c1 < k ∧ c2 < 4 ∧ (nI j) = nI c1 ∧ (nI 1) = nI c2 := hp_146
                            clear hp_146
                            obtain ⟨hp_146_r, hp_146⟩ := hp_146a
                            have e_147 : j = c1 := (nI_eq32 (by omega) (by omega)).mp hp_146.2.2.1
                            subst e_147
                            have e_148 : 1 = c2 := (nI_eq32 (by omega) (by omega)).mp hp_146.2.2.2
                            subst e_148
                            subst hp_146_r
                            have hP : va_P D vwCl ((wX q cI cZ cJ k V C T (fun _ => 0) (fun _ => 0) A 0 (fun _ => 0) (fun _ => 0) 1000 0 (fun _ => 0) 4294967295 0 CT SC4 (fun _ => 0)) ++ [(a5, .inl (cI, 8, .inl (rI V))), (a6, .inl (cI, 8, .inl (rI C))), (a7, .inl (cI, 8, .inl (rI TT)))]) H := hP
                            have hD : va_D (lA s) ((wX q cI cZ cJ k V C T (fun _ => 0) (fun _ => 0) A 0 (fun _ => 0) (fun _ => 0) 1000 0 (fun _ => 0) 4294967295 0 CT SC4 (fun _ => 0)) ++ [(a5, .inl (cI, 8, .inl (rI V))), (a6, .inl (cI, 8, .inl (rI C))), (a7, .inl (cI, 8, .inl (rI TT)))]) := hD
                            refine n_top (y := nI (T j)) rfl ?_
                            refine n_icmp_le (tgt := 217) hx hb (by omega) (by omega) dL_law_212 (by decide) (fun c212 => ?_) (fun c212 => ?_)
                            · refine lv_iload hx hb dL_law_217 (lv_at hl 3 rfl) ?_
                              refine lv_iload hx hb dL_law_219 (lv_at hl 0 rfl) ?_
                              refine lv_aload_n hx hb dL_law_221 rfl (lv_at hl 10 rfl) ?_
                              refine lv_iload hx hb dL_law_222 (lv_at hl 1 rfl) ?_
                              refine n_iald hx hb hK hP 13 0 rfl rfl (by omega) (by decide) dL_law_224 ?_
                              refine n_imul hx hb dL_law_225 ?_
                              refine n_iadd hx hb dL_law_226 ?_
                              refine lv_istore (lv' := [(9, .int (nI (su + ((pz z (lc V (V j) k)) * (V j))))), (12, .int (nI (pz z (lc V (V j) k)))), (11, .int (nI j)), (10, .int (nI co)), (8, .int (nI am)), (7, .int (nI (cnz z))), (6, .int (nI am)), (5, .int (nI tm)), (4, .int (nI k)), (3, .ref a6), (2, .ref a5), (1, .ref (q 0)), (0, .ref b)]) hx hb dL_law_227 hl (by decide) rfl (fun ls hl => ?_)
                              refine lv_iload hx hb dL_law_229 (lv_at hl 3 rfl) ?_
                              refine lv_iload hx hb dL_law_231 (lv_at hl 1 rfl) ?_
                              refine n_iadd hx hb dL_law_233 ?_
                              refine lv_istore (lv' := [(10, .int (nI (co + (pz z (lc V (V j) k))))), (9, .int (nI (su + ((pz z (lc V (V j) k)) * (V j))))), (12, .int (nI (pz z (lc V (V j) k)))), (11, .int (nI j)), (8, .int (nI am)), (7, .int (nI (cnz z))), (6, .int (nI am)), (5, .int (nI tm)), (4, .int (nI k)), (3, .ref a6), (2, .ref a5), (1, .ref (q 0)), (0, .ref b)]) hx hb dL_law_234 hl (by decide) rfl (fun ls hl => ?_)
                              refine lv_iinc (v := nI (j + 1)) (lv' := [(11, .int (nI (j + 1))), (10, .int (nI (co + (pz z (lc V (V j) k))))), (9, .int (nI (su + ((pz z (lc V (V j) k)) * (V j))))), (12, .int (nI (pz z (lc V (V j) k)))), (8, .int (nI am)), (7, .int (nI (cnz z))), (6, .int (nI am)), (5, .int (nI tm)), (4, .int (nI k)), (3, .ref a6), (2, .ref a5), (1, .ref (q 0)), (0, .ref b)]) hx hb dL_law_236 hl (k := 3) rfl (ni_inc _ 1) (by decide) rfl (fun ls hl => ?_)
                              refine lv_goto (tgt := 163) hx hb dL_law_239 (by decide) ?_
                              refine W.widen (k := 40 + 80 * tm + 4 + 4 * (j + 1)) (n := 3000 + 500 * tm + 24 + 24 * (j + 1)) (by omega) (by omega) ?_
                              exact ih_163 (j + 1) (su + ((pz z (lc V (V j) k)) * (V j))) (co + (pz z (lc V (V j) k))) SC4 (by omega) (by omega) (by rw [hsu]; rfl) (by rw [hco]; rfl) _ _ hP hD hS ls (lv_sub hl [0, 1, 2, 4, 5, 6, 7, 8, 9, 10, 11, 12] rfl)
                            · exact absurd c212 (by omega)
                    refine W.widen (k := 40 + 80 * tm + 4 + 4 * 0) (n := 3000 + 500 * tm + 24 + 24 * 0) (by omega) (by omega) ?_
                    exact lp_163 _ 0 0 0 SC3 (Nat.lt_succ_self _) (by omega) rfl rfl _ _ hP hD hS ls (lv_sub hl [0, 1, 2, 3, 4, 5, 6, 7, 8, 9, 10, 11] rfl)
                  · exact absurd c149 (by decide)
        refine lv_iload hx hb dL_law_61 (lv_at hl 0 rfl) ?_
        refine lv_iconst (v := nI 3) hx hb dL_law_63 (ic_3) ?_
        refine n_icmp_ge (tgt := 72) hx hb (by omega) (by omega) dL_law_64 (by decide) (fun c64 => ?_) (fun c64 => ?_)
        · refine lv_sipush (v := nI 900) hx hb dL_law_72 (by decide) ?_
          refine W.widen (k := 40 + 80 * tm) (n := 3000 + 500 * tm) (by omega) (by omega) ?_
          exact lp_75 900 (by omega) _ _ hP hD hS ls (lv_sub hl [0, 1, 2, 3, 4, 5] rfl)
        · refine lv_bipush (v := nI 60) hx hb dL_law_67 (by decide) ?_
          refine lv_goto (tgt := 75) hx hb dL_law_69 (by decide) ?_
          refine W.widen (k := 40 + 80 * tm) (n := 3000 + 500 * tm) (by omega) (by omega) ?_
          exact lp_75 60 (by omega) _ _ hP hD hS ls (lv_sub hl [0, 1, 2, 3, 4, 5] rfl)
  refine W.widen (k := 40 + 80 * 0) (n := 3000 + 500 * 0) (by omega) (by omega) ?_
  exact lp_46 _ 0 T CT (fun _ => 0) (Nat.lt_succ_self _) (by omega) hC hCT _ _ hP hD hS ls (lv_sub hl [0, 1, 2, 3, 4, 5] rfl)
