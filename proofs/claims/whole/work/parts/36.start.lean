section K3V
variable {p : Program} {l : Launch} {e : Env} {R : Room} {s : State} {m : MethodId} {args : Array Value} {below : List Frame} {meth : Method} {c : Code} {H : Heap} {locs : List Loc} {cells slots : Nat} {Q : State → Prop}
variable {mc ms pc : Nat} {rest st0 : List Value} {ls : Array Slot} {D : va_G} {wa wc wb : va_W} {A : Nat → Prop} {S : Type} {Wf : S → va_W}
theorem k3_v {post : S → Prop} {a : Array Value} (hr : va_Run p l e R s m args below meth c H locs cells slots mc ms (F0 m pc ls st0) rest (va_Qv post (bW D (va_A wc H.size) Wf) (va_A wc H.size) a) (va_A wc H.size)) (hP : va_P D vwCl (wa ++ (wc ++ wb)) H) (hD : va_D A (wa ++ (wc ++ wb))) (hS : va_S A s.heap H locs) (hA : ∀ q, s.heap.size ≤ q → A q) (kk : ∀ (u : S) (H1 : Heap) (locs1 : List Loc), post u → va_P D vwCl (wa ++ (Wf u ++ wb)) H1 → va_D A (wa ++ (Wf u ++ wb)) → va_S A s.heap H1 locs1 → W p l e R s m args below meth c H1 locs1 (cells + mc) (slots + ms) Q (F0 m (pc + 3) ls rest)) : W p l e R s m args below meth c H locs cells slots Q (F0 m pc ls st0) :=
  va_callv hr hS (fun q _ h => free_all (j_mid hD) hS hA q h) (free_all (j_mid hD) hS hA) (fun u t H1 locs1 ht _ hp hB _ hk hS1 => by
    obtain ⟨h1, h2⟩ := j_join hP hD hk (free_all (j_mid hD) hS hA) (ht ▸ hB.1) hB.2
    exact kk u H1 locs1 hp h1 h2 hS1)
end K3V
theorem strs_in : ∀ q ∈ strs, Cond.stringRef RX0 q.1 q.2 ∈ lw_tbl := by decide +kernel
theorem iv_0 : IV 0 (fun _ => 0) (fun _ => 0) (fun _ => 0) (fun _ => 0) (fun _ => 0) 0 (fun _ => 0) (fun _ => 0) 1000 0 (fun _ => 0) 4294967295 0 :=
  IV.mk (by decide) (by decide) (by decide) (fun i h => absurd h (Nat.not_lt_zero _)) (fun i h => absurd h (Nat.not_lt_zero _)) (fun i h => absurd h (Nat.not_lt_zero _)) (fun i h => absurd h (Nat.not_lt_zero _)) (by decide) (fun i h => absurd h (Nat.not_lt_zero _)) (fun i j h => absurd h (Nat.not_lt_zero _)) (Nat.zero_le _) (Or.inl rfl) ⟨fun i h => absurd h (Nat.not_lt_zero _), fun i j _ h => absurd h (Nat.not_lt_zero _)⟩ (fun _ _ => rfl)
set_option maxHeartbeats 8000000 in
set_option maxRecDepth 100000 in
/-- the law from its entry -/
theorem whole_start {p : Program} {e : Env} {s : State} {m : MethodId} {below : List Frame} {meth : Method} {c : Code} (l : Launch) (hflags : l.flags = flags0) {b L : Nat} {xs : Nat → Int32} (hL : L ≤ 2048) (C0 : lw_At p s m meth c b L xs) : W p l e room_1 s m #[Value.ref b] below meth c s.heap [] 0 0 (lw_Z below #[Value.ref b] s) (entryFrame m ([Value.ref b] : List Value).toArray 9) := by
  obtain ⟨hx, hb, hr, hml, hown, hts0, hX, hbl, hlocks, hgv⟩ := id C0
  have hts : ∀ w ∈ wsL_law, w.before #[Value.ref b] s = true := fun w h => hts0 w (wsL_law_in w h)
  have hst : l.stackTraces = false := by
    unfold Launch.stackTraces
    rw [hflags]
    decide +kernel
  have hgs := flat_of_before _ hgv
  have hA : ∀ q9 : Nat, s.heap.size ≤ q9 → lA s q9 := fun _ h => h
  have hnA : ∀ a : Nat, a < s.heap.size → ¬ lA s a := fun a h => Nat.not_le.mpr h
  obtain ⟨c0, iS0, hKn0⟩ := u_known (C := RX0) (T := TX0) (N := 18) (n := 18) hts0 wsX00_in (hts0 (.instantiable RX0 18) (by decide +kernel))
  obtain ⟨c1, iS1, hKn1⟩ := u_known (C := RX1) (T := TX1) (N := 19) (n := 19) hts0 wsX10_in (hts0 (.instantiable RX1 19) (by decide +kernel))
  obtain ⟨D, hKc⟩ : ∃ D : va_G, ∀ (k : Nat) (q : vw_C), vwCl[k]? = some q → u_Kn s q.1 q.2.1 q.2.2 (D.1 k) (D.2 k) := by
    refine ⟨(fun k => if k = 0 then c0 else c1, fun k => if k = 0 then iS0 else iS1), ?_⟩
    intro k q hq
    match k, hq with
    | 0, hq => cases hq; exact hKn0
    | 1, hq => cases hq; exact hKn1
    | k + 2, hq => simp [vwCl] at hq
  obtain ⟨cI, hI1, hI2⟩ := arr_word (ty := .int) (hts0 (.arrayClass .int) (by decide +kernel)) (Or.inl rfl)
  obtain ⟨cZ, hZ1, hZ2⟩ := arr_word (ty := .boolean) (hts0 (.arrayClass .boolean) (by decide +kernel)) (Or.inr (Or.inl rfl))
  obtain ⟨cJ, hJ1, hJ2⟩ := arr_word (ty := .long) (hts0 (.arrayClass .long) (by decide +kernel)) (Or.inr (Or.inr rfl))
  have hK : va_K D vwCl (ty3 cI cZ cJ) s := ⟨hKc, fun k q h => by
    match k, h with
    | 0, h => cases h; exact ⟨hI1, hI2⟩
    | 1, h => cases h; exact ⟨hZ1, hZ2⟩
    | 2, h => cases h; exact ⟨hJ1, hJ2⟩
    | k + 3, h => simp [ty3] at h⟩
  have hZ : zz (lA s) s s.heap := ⟨vx_Zqof (hts0 (.laysStatic Bundle.tN "UNASSIGNED_STACK" Bundle.steD) (by decide +kernel)) (hts0 (.initialized Bundle.tN) (by decide +kernel)) (hgs (.isRef (.static Bundle.tN "UNASSIGNED_STACK" Bundle.steD)) (by decide +kernel)) hnA, vx_Zqof (hts0 (.laysStatic Bundle.tN "SUPPRESSED_SENTINEL" Bundle.listD) (by decide +kernel)) (hts0 (.initialized Bundle.tN) (by decide +kernel)) (hgs (.isRef (.static Bundle.tN "SUPPRESSED_SENTINEL" Bundle.listD)) (by decide +kernel)) hnA⟩
  have hsx : ∀ q ∈ strs, (Cond.exactly (.string RX0 q.1) "java/lang/String").before #[Value.ref b] s = true := by
    intro q hq
    refine hgs _ ?_
    revert q
    decide +kernel
  have tb : ∀ w : Cond, w.onTables = true → w ∈ lw_tbl → va_Nw w s := fun w h1 h2 => va_tabs (A := #[Value.ref b]) (u := s) h1 rfl (hts0 w h2)
  have hg : gg s := ⟨fun q hq => by
    obtain ⟨a, -, -, -, ha, -⟩ := Cond.exactly_spec (hsx q hq)
    exact ⟨a, vk_R.of (A := #[Value.ref b]) (hts0 _ (strs_in q hq)) ha⟩, tb _ rfl (by decide +kernel), tb _ rfl (by decide +kernel), tb _ rfl (by decide +kernel), tb _ rfl (by decide +kernel), tb _ rfl (by decide +kernel), tb _ rfl (by decide +kernel), tb _ rfl (by decide +kernel)⟩
  have hn : nc s := ⟨va_Nc.of (hgs (.not (.castable eIS eIA)) (by decide +kernel)), va_Nc.of (hgs (.not (.castable eIA eIB)) (by decide +kernel)), va_Nc.of (hgs (.not (.castable eIB eIA)) (by decide +kernel))⟩
  have hc : Lc p s m meth c b L xs D cI cZ cJ := ⟨hx, hb, hr, hml, hown, hts, hX, hbl, hlocks, hK, hZ, hg, hn, hL⟩
  have hS : va_S (lA s) s.heap s.heap [] := va_S.rf
  have hP : va_P D vwCl [] s.heap := fun k q h => by simp at h
  have hD : va_D (lA s) [] := ⟨fun i j p q h => by simp at h, fun k q h => by simp at h⟩
  have hl := lv_entry ([.ref b]) (n := 9) (Nat.le_of_ble_eq_true rfl)
  rw [lg_entry_eq]
  generalize (lg_sl ([.ref b]) ++ List.replicate (9 - (lg_sl ([.ref b])).length) Slot.unset).toArray = ls at hl ⊢
  have hl : lv_has ls 9 [(0, .ref b)] := hl
  refine va_new (ci := 0) (fs := [.int 0, .null, .null, .null, .null, .null, .null, .int 0, .null, .null, .int 0, .int 0, .null, .int 0, .int 0, .null, .null, .null]) (C := RX0) (T := TX0) (N := 18) hx hb hts0 wsX00_in tyX0 tyX0_ok hown (hts (.classLink RL 8 RX0) (by decide +kernel)) (hts0 (.instantiable RX0 18) (by decide +kernel)) (hts (.initialized RX0) (by decide +kernel)) hK hP hD hS hA rfl (fun j hj => by rcases (show j = 0 ∨ j = 1 ∨ j = 2 ∨ j = 3 ∨ j = 4 ∨ j = 5 ∨ j = 6 ∨ j = 7 ∨ j = 8 ∨ j = 9 ∨ j = 10 ∨ j = 11 ∨ j = 12 ∨ j = 13 ∨ j = 14 ∨ j = 15 ∨ j = 16 ∨ j = 17 by omega) with rfl | rfl | rfl | rfl | rfl | rfl | rfl | rfl | rfl | rfl | rfl | rfl | rfl | rfl | rfl | rfl | rfl | rfl <;> rfl) (Nat.le_of_ble_eq_true rfl) (Nat.le_of_ble_eq_true rfl) dL_law_0 (fun h0 H hP hD hS => ?_)
  have hP : va_P D vwCl [(h0, .inr (0, [.int 0, .null, .null, .null, .null, .null, .null, .int 0, .null, .null, .int 0, .int 0, .null, .int 0, .int 0, .null, .null, .null]))] H := hP
  have hD : va_D (lA s) [(h0, .inr (0, [.int 0, .null, .null, .null, .null, .null, .null, .int 0, .null, .null, .int 0, .int 0, .null, .int 0, .int 0, .null, .null, .null]))] := hD
  refine lv_dup hx hb dL_law_3 rfl ?_
  refine k_v (mc := 12) (ms := 2099) (va_runI (As := []) (rest := [.ref h0]) ⟨hx, hb, hml, hown, hts⟩ (c_X0_init l D h0 cI cZ cJ H.size) (cwI 0 hts gL_law_X0_init rfl rfl rfl (hts (.initialized RX0) (by decide +kernel)) (hts (.methodLink RL 76 yX0_init) (by decide +kernel)) (hts (.instanceMethod yX0_init) (by decide +kernel)) rfl (by decide +kernel) ⟨(Nat.le_of_ble_eq_true rfl), (Nat.le_of_ble_eq_true rfl)⟩) (pre_S (As := [.ref h0]) hP hK hD hS hA hZ hg) rfl rfl hl.1 rfl (lv_room (Nat.le_of_ble_eq_true rfl)) dL_law_4 ⟨(Nat.le_of_ble_eq_true rfl), (Nat.le_of_ble_eq_true rfl)⟩) hD hS hA (fun q H locs hu hP1 hD1 hS1 => ?_)
  subst hu
  have hP : va_P D vwCl (wX q cI cZ cJ 0 (fun _ => 0) (fun _ => 0) (fun _ => 0) (fun _ => 0) (fun _ => 0) (fun _ => 0) 0 (fun _ => 0) (fun _ => 0) 1000 0 (fun _ => 0) 4294967295 0 (rL (fun _ => 0)) (fun _ => 0) (fun _ => 0)) H := hP1
  have hD : va_D (lA s) (wX q cI cZ cJ 0 (fun _ => 0) (fun _ => 0) (fun _ => 0) (fun _ => 0) (fun _ => 0) (fun _ => 0) 0 (fun _ => 0) (fun _ => 0) 1000 0 (fun _ => 0) 4294967295 0 (rL (fun _ => 0)) (fun _ => 0) (fun _ => 0)) := hD1
  have hS := hS1
  refine lv_astore_n (lv' := [(1, .ref (q 0)), (0, .ref b)]) hx hb dL_law_7 rfl hl (by decide) rfl (fun ls hl => ?_)
  refine va_new (ci := 1) (fs := [.int 0, .int 0, .null, .null, .null, .null, .null, .null, .null, .int 0, .null, .null, .int 0, .int 0, .null, .int 0, .int 0, .null, .null]) (C := RX1) (T := TX1) (N := 19) hx hb hts0 wsX10_in tyX1 tyX1_ok hown (hts (.classLink RL 77 RX1) (by decide +kernel)) (hts0 (.instantiable RX1 19) (by decide +kernel)) (hts (.initialized RX1) (by decide +kernel)) hK hP hD hS hA rfl (fun j hj => by rcases (show j = 0 ∨ j = 1 ∨ j = 2 ∨ j = 3 ∨ j = 4 ∨ j = 5 ∨ j = 6 ∨ j = 7 ∨ j = 8 ∨ j = 9 ∨ j = 10 ∨ j = 11 ∨ j = 12 ∨ j = 13 ∨ j = 14 ∨ j = 15 ∨ j = 16 ∨ j = 17 ∨ j = 18 by omega) with rfl | rfl | rfl | rfl | rfl | rfl | rfl | rfl | rfl | rfl | rfl | rfl | rfl | rfl | rfl | rfl | rfl | rfl | rfl <;> rfl) (Nat.le_of_ble_eq_true rfl) (Nat.le_of_ble_eq_true rfl) dL_law_8 (fun h1 H hP hD hS => ?_)
  have hP : va_P D vwCl ((wX q cI cZ cJ 0 (fun _ => 0) (fun _ => 0) (fun _ => 0) (fun _ => 0) (fun _ => 0) (fun _ => 0) 0 (fun _ => 0) (fun _ => 0) 1000 0 (fun _ => 0) 4294967295 0 (rL (fun _ => 0)) (fun _ => 0) (fun _ => 0)) ++ ([(h1, .inr (1, [.int 0, .int 0, .null, .null, .null, .null, .null, .null, .null, .int 0, .null, .null, .int 0, .int 0, .null, .int 0, .int 0, .null, .null]))] ++ [])) H := hP
  have hD : va_D (lA s) ((wX q cI cZ cJ 0 (fun _ => 0) (fun _ => 0) (fun _ => 0) (fun _ => 0) (fun _ => 0) (fun _ => 0) 0 (fun _ => 0) (fun _ => 0) 1000 0 (fun _ => 0) 4294967295 0 (rL (fun _ => 0)) (fun _ => 0) (fun _ => 0)) ++ ([(h1, .inr (1, [.int 0, .int 0, .null, .null, .null, .null, .null, .null, .null, .int 0, .null, .null, .int 0, .int 0, .null, .int 0, .int 0, .null, .null]))] ++ [])) := hD
  refine lv_dup hx hb dL_law_11 rfl ?_
  refine k3_v (mc := 12) (ms := 18107) (wa := (wX q cI cZ cJ 0 (fun _ => 0) (fun _ => 0) (fun _ => 0) (fun _ => 0) (fun _ => 0) (fun _ => 0) 0 (fun _ => 0) (fun _ => 0) 1000 0 (fun _ => 0) 4294967295 0 (rL (fun _ => 0)) (fun _ => 0) (fun _ => 0))) (wc := [(h1, .inr (1, [.int 0, .int 0, .null, .null, .null, .null, .null, .null, .null, .int 0, .null, .null, .int 0, .int 0, .null, .int 0, .int 0, .null, .null]))]) (wb := []) (va_runI (As := []) (rest := [.ref h1]) ⟨hx, hb, hml, hown, hts⟩ (c_X1_init l D h1 cI cZ cJ H.size) (cwI 0 hts gL_law_X1_init rfl rfl rfl (hts (.initialized RX1) (by decide +kernel)) (hts (.methodLink RL 79 yX1_init) (by decide +kernel)) (hts (.instanceMethod yX1_init) (by decide +kernel)) rfl (by decide +kernel) ⟨(Nat.le_of_ble_eq_true rfl), (Nat.le_of_ble_eq_true rfl)⟩) (pre_S (As := [.ref h1]) (j_pm hP) hK (j_mid hD) hS hA hZ hg) rfl rfl hl.1 rfl (lv_room (Nat.le_of_ble_eq_true rfl)) dL_law_12 ⟨(Nat.le_of_ble_eq_true rfl), (Nat.le_of_ble_eq_true rfl)⟩) hP hD hS hA (fun r H locs hu hP1 hD1 hS1 => ?_)
  subst hu
  have hP : va_P D vwCl ((wX q cI cZ cJ 0 (fun _ => 0) (fun _ => 0) (fun _ => 0) (fun _ => 0) (fun _ => 0) (fun _ => 0) 0 (fun _ => 0) (fun _ => 0) 1000 0 (fun _ => 0) 4294967295 0 (rL (fun _ => 0)) (fun _ => 0) (fun _ => 0)) ++ (wM r cI cZ cJ 0 0 (fun _ => 0) (fun _ => 0) (fun _ => 0) (fun _ => 0) (fun _ => 0) (fun _ => 0) (fun _ => 0) 0 (fun _ => 0) (fun _ => 0) 1000 0 (fun _ => 0) 4294967295 0 (rL (fun _ => 0)) (fun _ => 0))) H := hP1
  have hD : va_D (lA s) ((wX q cI cZ cJ 0 (fun _ => 0) (fun _ => 0) (fun _ => 0) (fun _ => 0) (fun _ => 0) (fun _ => 0) 0 (fun _ => 0) (fun _ => 0) 1000 0 (fun _ => 0) 4294967295 0 (rL (fun _ => 0)) (fun _ => 0) (fun _ => 0)) ++ (wM r cI cZ cJ 0 0 (fun _ => 0) (fun _ => 0) (fun _ => 0) (fun _ => 0) (fun _ => 0) (fun _ => 0) (fun _ => 0) 0 (fun _ => 0) (fun _ => 0) 1000 0 (fun _ => 0) 4294967295 0 (rL (fun _ => 0)) (fun _ => 0))) := hD1
  have hS := hS1
  refine lv_astore_n (lv' := [(2, .ref (r 0)), (1, .ref (q 0)), (0, .ref b)]) hx hb dL_law_15 rfl hl (by decide) rfl (fun ls hl => ?_)
  refine lv_iconst (v := nI 1) hx hb dL_law_16 (ic_1) ?_
  refine n_newJ (N := 1) hx hb (hts (.arrayClass .long) (by decide +kernel)) hK hP hD hS hA (by decide) (by decide) (Nat.le_of_ble_eq_true rfl) (Nat.le_of_ble_eq_true rfl) dL_law_17 (fun qo H hP hD hS => ?_)
  have hP := hP.sub (ws' := wL r q qo cI cZ cJ 0 0 (fun _ => 0) (fun _ => 0) (fun _ => 0) (fun _ => 0) (fun _ => 0) (fun _ => 0) (fun _ => 0) 0 (fun _ => 0) (fun _ => 0) 1000 0 (fun _ => 0) 4294967295 0 (rL (fun _ => 0)) (fun _ => 0) (fun _ => 0) (fun _ => 0) (rL (fun _ => 0))) [13, 14, 15, 16, 17, 18, 19, 20, 21, 22, 23, 24, 25, 0, 1, 2, 3, 4, 5, 6, 7, 8, 9, 10, 11, 12, 26] rfl
  have hD := hD.sub (ws' := wL r q qo cI cZ cJ 0 0 (fun _ => 0) (fun _ => 0) (fun _ => 0) (fun _ => 0) (fun _ => 0) (fun _ => 0) (fun _ => 0) 0 (fun _ => 0) (fun _ => 0) 1000 0 (fun _ => 0) 4294967295 0 (rL (fun _ => 0)) (fun _ => 0) (fun _ => 0) (fun _ => 0) (rL (fun _ => 0))) [13, 14, 15, 16, 17, 18, 19, 20, 21, 22, 23, 24, 25, 0, 1, 2, 3, 4, 5, 6, 7, 8, 9, 10, 11, 12, 26] (by decide) rfl
  refine lv_astore_n (lv' := [(3, .ref qo), (2, .ref (r 0)), (1, .ref (q 0)), (0, .ref b)]) hx hb dL_law_19 rfl hl (by decide) rfl (fun ls hl => ?_)
  refine lv_iconst (v := nI 0) hx hb dL_law_20 (ic_0) ?_
  refine lv_istore (lv' := [(4, .int (nI 0)), (3, .ref qo), (2, .ref (r 0)), (1, .ref (q 0)), (0, .ref b)]) hx hb dL_law_21 hl (by decide) rfl (fun ls hl => ?_)
  refine W.widen (k := 27 + 8 * 0) (n := 20244 + 64 * 0) (Nat.le_of_ble_eq_true rfl) (Nat.le_of_ble_eq_true rfl) ?_
  exact law_loop hst hc (L + 2) 0 (by omega) (Or.inl rfl) 0 0 (fun _ => 0) (fun _ => 0) (fun _ => 0) (fun _ => 0) (fun _ => 0) (fun _ => 0) (fun _ => 0) 0 (fun _ => 0) (fun _ => 0) 1000 0 (fun _ => 0) 4294967295 0 (rL (fun _ => 0)) (fun _ => 0) (fun _ => 0) (fun _ => 0) (rL (fun _ => 0)) _ _ iv_0 hP hD hS ls (lv_sub hl [0, 1, 2, 3, 4] rfl)
