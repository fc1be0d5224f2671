section LW
variable {p : Program} {l : Launch} {e : Env} {s : State} {m : MethodId} {below : List Frame} {meth : Method} {c : Code} {b L : Nat} {xs : Nat → Int32} {D : va_G} {cI cZ cJ : ClassId} {Q : State → Prop}

set_option maxHeartbeats 8000000 in
set_option maxRecDepth 100000 in
theorem lw_insert (hst : l.stackTraces = false) (hc : Lc p s m meth c b L xs D cI cZ cJ) {r q : Nat → Nat} {qo jj : Nat} (hj : 4 * jj + 4 ≤ L) {th : Nat} {k : Nat} {V : Nat → Nat} {C : Nat → Nat} {T : Nat → Nat} {B : Nat → Nat} {P : Nat → Nat} {A : Nat → Nat} {OR : Nat → Nat} {n : Nat} {PR : Nat → Nat} {ST : Nat → Nat} {li : Nat} {w : Nat} {WK : Nat → Nat} {so : Nat} {sp : Nat} {CT : Nat → Int64} {SC : Nat → Int} {TA : Nat → Nat} {FW : Nat → Nat} {O : Nat → Int64} {H : Heap} {locs : List Loc} (hI : IV k V C T A OR n PR ST li w WK so sp) (hP : va_P D vwCl (wL r q qo cI cZ cJ th k V C T B P A OR n PR ST li w WK so sp CT SC TA FW O) H) (hD : va_D (lA s) (wL r q qo cI cZ cJ th k V C T B P A OR n PR ST li w WK so sp CT SC TA FW O)) (hS : va_S (lA s) s.heap H locs) {ls : Array Slot} (hl : lv_has ls 9 [(4, .int (nI (4 * jj))), (3, .ref qo), (2, .ref (r 0)), (1, .ref (q 0)), (0, .ref b)]) (hN : Nx p l e s m below meth c b D r q qo cI cZ cJ Q jj) : W p l e room_1 s m #[Value.ref b] below meth c H locs (27 + 8 * jj) (20244 + 64 * jj) Q (F0 m 748 ls []) := by
  obtain ⟨hx, hb, hr, hml, hown, hts, hX, hbl, hlocks, hK, hZ, hg, hn, hL⟩ := hc
  have hA : ∀ q9 : Nat, s.heap.size ≤ q9 → lA s q9 := fun _ h => h
  have hbA : ¬ lA s b := Nat.not_le.mpr hbl
  have hP : va_P D vwCl ((wM r cI cZ cJ th k V C A T B P OR n PR ST li w WK so sp CT FW) ++ ((wX q cI cZ cJ k V C T B P A n PR ST li w WK so sp CT SC TA) ++ [(qo, .inl (cJ, 1, .inr (.inl O)))])) H := hP
  have hD : va_D (lA s) ((wM r cI cZ cJ th k V C A T B P OR n PR ST li w WK so sp CT FW) ++ ((wX q cI cZ cJ k V C T B P A n PR ST li w WK so sp CT SC TA) ++ [(qo, .inl (cJ, 1, .inr (.inl O)))])) := hD
  refine lv_aload_n hx hb dL_law_748 rfl (lv_at hl 3 rfl) ?_
  refine lv_aload_n hx hb dL_law_749 rfl (lv_at hl 4 rfl) ?_
  refine lv_iload hx hb dL_law_750 (lv_at hl 0 rfl) ?_
  refine lv_iconst (v := nI 1) hx hb dL_law_752 (ic_1) ?_
  refine n_iadd hx hb dL_law_753 ?_
  refine n_sld hx hb hX hbl hbA hS (by omega) (by omega) dL_law_754 ?_
  refine lv_aload_n hx hb dL_law_755 rfl (lv_at hl 1 rfl) ?_
  refine k3_i (mc := 1) (ms := 6) (wa := (wM r cI cZ cJ th k V C A T B P OR n PR ST li w WK so sp CT FW)) (wc := ((wX q cI cZ cJ k V C T B P A n PR ST li w WK so sp CT SC TA) ++ [(qo, .inl (cJ, 1, .inr (.inl O)))])) (wb := []) (vx_runSW (As := [.ref (q 0), .int (xs ((4 * jj) + 1)), .ref qo]) (rest := []) ⟨hx, hb, hml, hown, hts⟩ (c_L_insert l hst D q qo cI cZ cJ k V C T B P A n PR ST li w WK so sp CT SC TA O H.size (xs ((4 * jj) + 1)) hI.hk8 hI.hV hI.hA1 hI.hw12 hI.hWK hI.hli) (vx_cwSW 3 hts gL_law_L_insert rfl rfl rfl hd_L_insert.2 ⟨(Nat.le_of_ble_eq_true rfl), (Nat.le_of_ble_eq_true rfl)⟩) (pre_N (wa := (wM r cI cZ cJ th k V C A T B P OR n PR ST li w WK so sp CT FW)) (wc := ((wX q cI cZ cJ k V C T B P A n PR ST li w WK so sp CT SC TA) ++ [(qo, .inl (cJ, 1, .inr (.inl O)))])) (wb := []) hP hK hD hS hA hZ hg hn) rfl rfl hl.1 rfl (lv_room (Nat.le_of_ble_eq_true rfl)) dL_law_756 ⟨(show (27 + 8 * jj) + 1 ≤ 601024 by omega), (show (20244 + 64 * jj) + 6 ≤ 7293034 by omega)⟩) hP hD hS hA (fun rr u H locs hp hP hD hS => ?_)
  rcases u with u | kk
  · replace hp : rr = nI 0 ∧ (u.1 < k ∧ (xs ((4 * jj) + 1)) = nI u.1 ∧ insP k V A li w WK CT u.1 u.2.2.1 u.2.2.2.1 u.2.2.2.2 u.2.1) := hp
    obtain ⟨rfl, hp⟩ := hp
    have hP : va_P D vwCl ((wM r cI cZ cJ th k V C A T B P OR n PR ST li w WK so sp CT FW) ++ ((wX q cI cZ cJ k V C T B P A n PR ST li u.2.2.1 u.2.2.2.1 so sp u.2.2.2.2 SC TA) ++ [(qo, .inl (cJ, 1, .inr (.inl (vp_updL O 0 ((nI u.2.1).toInt64)))))])) H := hP
    have hD : va_D (lA s) ((wM r cI cZ cJ th k V C A T B P OR n PR ST li w WK so sp CT FW) ++ ((wX q cI cZ cJ k V C T B P A n PR ST li u.2.2.1 u.2.2.2.1 so sp u.2.2.2.2 SC TA) ++ [(qo, .inl (cJ, 1, .inr (.inl (vp_updL O 0 ((nI u.2.1).toInt64)))))])) := hD
    refine lv_istore (lv' := [(5, .int (nI 0)), (4, .int (nI (4 * jj))), (3, .ref qo), (2, .ref (r 0)), (1, .ref (q 0)), (0, .ref b)]) hx hb dL_law_759 hl (by decide) rfl (fun ls hl => ?_)
    refine lv_aload_n hx hb dL_law_761 rfl (lv_at hl 3 rfl) ?_
    refine lv_aload_n hx hb dL_law_762 rfl (lv_at hl 5 rfl) ?_
    refine lv_iload hx hb dL_law_763 (lv_at hl 1 rfl) ?_
    refine lv_iconst (v := nI 1) hx hb dL_law_765 (ic_1) ?_
    refine n_iadd hx hb dL_law_766 ?_
    refine n_sld hx hb hX hbl hbA hS (by omega) (by omega) dL_law_767 ?_
    refine k3_i (mc := 0) (ms := 0) (wa := []) (wc := (wM r cI cZ cJ th k V C A T B P OR n PR ST li w WK so sp CT FW)) (wb := ((wX q cI cZ cJ k V C T B P A n PR ST li u.2.2.1 u.2.2.2.1 so sp u.2.2.2.2 SC TA) ++ [(qo, .inl (cJ, 1, .inr (.inl (vp_updL O 0 ((nI u.2.1).toInt64)))))])) (va_runV (As := [.int (xs ((4 * jj) + 1))]) (rest := []) ⟨hx, hb, hml, hown, hts⟩ (c_X1_insert l hst D r cI cZ cJ th k V C A T B P OR n PR ST li w WK so sp CT FW H.size (xs ((4 * jj) + 1)) hI.hk8 hI.hV hI.hA1 hI.hw12 hI.hWK hI.hli) (cwV 1 hts gL_law_X1_insert rfl rfl rfl hd_X1_insert ⟨(Nat.le_of_ble_eq_true rfl), (Nat.le_of_ble_eq_true rfl)⟩) (pre_V3 (wa := []) (wc := (wM r cI cZ cJ th k V C A T B P OR n PR ST li w WK so sp CT FW)) (wb := ((wX q cI cZ cJ k V C T B P A n PR ST li u.2.2.1 u.2.2.2.1 so sp u.2.2.2.2 SC TA) ++ [(qo, .inl (cJ, 1, .inr (.inl (vp_updL O 0 ((nI u.2.1).toInt64)))))])) hP hK hD hS hA hZ hg 0 (ci := 1) rfl rfl) rfl rfl hl.1 rfl (lv_room (Nat.le_of_ble_eq_true rfl)) dL_law_768 ⟨(show ((27 + 8 * jj) + 1) + 0 ≤ 601024 by omega), (show ((20244 + 64 * jj) + 6) + 0 ≤ 7293034 by omega)⟩) hP hD hS hA (fun rr u2 H locs hq hP hD hS => ?_)
    obtain ⟨v0, v1, v2, v3, v4⟩ := u2
    replace hq : rr = nI v0 ∧ ((v1 = 0 ∧ ∃ i, i < k ∧ (xs ((4 * jj) + 1)) = nI i ∧ insP k V A li w WK CT i v2 v3 v4 v0) ∨ (v1 = 1 ∧ ¬ rg (xs ((4 * jj) + 1)) 0 k ∧ v2 = w ∧ v3 = WK ∧ v4 = CT)) := hq
    obtain ⟨hr9, hq⟩ := hq
    replace hr9 := hr9.symm
    subst hr9
    have hP : va_P D vwCl ((wM r cI cZ cJ v1 k V C A T B P OR n PR ST li v2 v3 so sp v4 FW) ++ ((wX q cI cZ cJ k V C T B P A n PR ST li u.2.2.1 u.2.2.2.1 so sp u.2.2.2.2 SC TA) ++ [(qo, .inl (cJ, 1, .inr (.inl (vp_updL O 0 ((nI u.2.1).toInt64)))))])) H := hP
    have hD : va_D (lA s) ((wM r cI cZ cJ v1 k V C A T B P OR n PR ST li v2 v3 so sp v4 FW) ++ ((wX q cI cZ cJ k V C T B P A n PR ST li u.2.2.1 u.2.2.2.1 so sp u.2.2.2.2 SC TA) ++ [(qo, .inl (cJ, 1, .inr (.inl (vp_updL O 0 ((nI u.2.1).toInt64)))))])) := hD
    obtain ⟨e0, e1, f0, f1, f2⟩ := q_insert_0 hI.hk8 hp hq
    have e0 := e0.symm
    subst e0
    have e1 := e1.symm
    subst e1
    have f0 := f0.symm
    subst f0
    have f1 := f1.symm
    subst f1
    have f2 := f2.symm
    subst f2
    have hI2 := iv_insert hI hp.1 hp.2.2
    refine lv_istore (lv' := [(6, .int (nI u.2.1)), (5, .int (nI 0)), (4, .int (nI (4 * jj))), (3, .ref qo), (2, .ref (r 0)), (1, .ref (q 0)), (0, .ref b)]) hx hb dL_law_771 hl (by decide) rfl (fun ls hl => ?_)
    refine lv_aload_n hx hb dL_law_773 rfl (lv_at hl 4 rfl) ?_
    refine k3_i (mc := 0) (ms := 0) (wa := []) (wc := (wM r cI cZ cJ 0 k V C A T B P OR n PR ST li u.2.2.1 u.2.2.2.1 so sp u.2.2.2.2 FW)) (wb := ((wX q cI cZ cJ k V C T B P A n PR ST li u.2.2.1 u.2.2.2.1 so sp u.2.2.2.2 SC TA) ++ [(qo, .inl (cJ, 1, .inr (.inl (vp_updL O 0 ((nI u.2.1).toInt64)))))])) (va_runV (As := []) (rest := []) ⟨hx, hb, hml, hown, hts⟩ (c_X1_thrown l hst D r cI cZ cJ 0 k V C A T B P OR n PR ST li u.2.2.1 u.2.2.2.1 so sp u.2.2.2.2 FW H.size  ) (cwV 0 hts gL_law_X1_thrown rfl rfl rfl hd_X1_thrown ⟨(Nat.le_of_ble_eq_true rfl), (Nat.le_of_ble_eq_true rfl)⟩) (pre_V3 (wa := []) (wc := (wM r cI cZ cJ 0 k V C A T B P OR n PR ST li u.2.2.1 u.2.2.2.1 so sp u.2.2.2.2 FW)) (wb := ((wX q cI cZ cJ k V C T B P A n PR ST li u.2.2.1 u.2.2.2.1 so sp u.2.2.2.2 SC TA) ++ [(qo, .inl (cJ, 1, .inr (.inl (vp_updL O 0 ((nI u.2.1).toInt64)))))])) hP hK hD hS hA hZ hg 0 (ci := 1) rfl rfl) rfl rfl hl.1 rfl (lv_room (Nat.le_of_ble_eq_true rfl)) dL_law_774 ⟨(show (((27 + 8 * jj) + 1) + 0) + 0 ≤ 601024 by omega), (show (((20244 + 64 * jj) + 6) + 0) + 0 ≤ 7293034 by omega)⟩) hP hD hS hA (fun rr u2 H locs hq hP hD hS => ?_)
    replace hq : rr = nI 0 := hq
    subst hq
    have hP : va_P D vwCl ((wM r cI cZ cJ 0 k V C A T B P OR n PR ST li u.2.2.1 u.2.2.2.1 so sp u.2.2.2.2 FW) ++ ((wX q cI cZ cJ k V C T B P A n PR ST li u.2.2.1 u.2.2.2.1 so sp u.2.2.2.2 SC TA) ++ [(qo, .inl (cJ, 1, .inr (.inl (vp_updL O 0 ((nI u.2.1).toInt64)))))])) H := hP
    have hD : va_D (lA s) ((wM r cI cZ cJ 0 k V C A T B P OR n PR ST li u.2.2.1 u.2.2.2.1 so sp u.2.2.2.2 FW) ++ ((wX q cI cZ cJ k V C T B P A n PR ST li u.2.2.1 u.2.2.2.1 so sp u.2.2.2.2 SC TA) ++ [(qo, .inl (cJ, 1, .inr (.inl (vp_updL O 0 ((nI u.2.1).toInt64)))))])) := hD
    refine lv_iload hx hb dL_law_777 (lv_at hl 1 rfl) ?_
    refine lv_icmp_eq (tgt := 784) hx hb dL_law_779 (by decide) (fun _ => ?_) (fun h => absurd rfl h)
    refine lv_iload hx hb dL_law_784 (lv_at hl 1 rfl) ?_
    refine n_if_ne (tgt := 801) hx hb (by decide) dL_law_786 (by decide) (fun c786 => ?_) (fun c786 => ?_)
    · exact absurd c786 (by decide)
    · refine lv_aload_n hx hb dL_law_789 rfl (lv_at hl 3 rfl) ?_
      refine lv_iconst (v := nI 0) hx hb dL_law_790 (ic_0) ?_
      refine n_lald hx hb hK hP 26 2 rfl rfl (by decide) (by decide) dL_law_791 ?_
      refine n_topl (show (vp_updL O 0 ((nI u.2.1).toInt64)) 0 = (nI u.2.1).toInt64 from updL_s) ?_
      refine lv_iload hx hb dL_law_792 (lv_at hl 0 rfl) ?_
      refine lv_i2l hx hb dL_law_794 rfl ?_
      refine n_lcmp_eq (tgt := 801) hx hb dL_law_795 dL_law_796 (by decide) (fun _ => ?_) (fun h => absurd rfl h)
      refine lv_goto (tgt := 1433) hx hb dL_law_801 (by decide) ?_
      refine W.widen (k := 27 + 8 * (jj + 1)) (n := 20244 + 64 * (jj + 1)) (by omega) (by omega) ?_
      exact hN 0 k V C T B P A OR n PR ST li u.2.2.1 u.2.2.2.1 so sp u.2.2.2.2 SC TA FW (vp_updL O 0 ((nI u.2.1).toInt64)) _ _ hI2 hP hD hS ls (lv_sub hl [2, 3, 4, 5, 6] rfl)
  · replace hp : rr = nI kk ∧ ((kk = 1 ∧ (¬ rg (xs ((4 * jj) + 1)) 0 k))) := hp
    obtain ⟨rfl, hp⟩ := hp
    have hP : va_P D vwCl ((wM r cI cZ cJ th k V C A T B P OR n PR ST li w WK so sp CT FW) ++ ((wX q cI cZ cJ k V C T B P A n PR ST li w WK so sp CT SC TA) ++ [(qo, .inl (cJ, 1, .inr (.inl O)))])) H := hP
    have hD : va_D (lA s) ((wM r cI cZ cJ th k V C A T B P OR n PR ST li w WK so sp CT FW) ++ ((wX q cI cZ cJ k V C T B P A n PR ST li w WK so sp CT SC TA) ++ [(qo, .inl (cJ, 1, .inr (.inl O)))])) := hD
    obtain ⟨rfl, hp⟩ := hp
    refine lv_istore (lv' := [(5, .int (nI 1)), (4, .int (nI (4 * jj))), (3, .ref qo), (2, .ref (r 0)), (1, .ref (q 0)), (0, .ref b)]) hx hb dL_law_759 hl (by decide) rfl (fun ls hl => ?_)
    refine lv_aload_n hx hb dL_law_761 rfl (lv_at hl 3 rfl) ?_
    refine lv_aload_n hx hb dL_law_762 rfl (lv_at hl 5 rfl) ?_
    refine lv_iload hx hb dL_law_763 (lv_at hl 1 rfl) ?_
    refine lv_iconst (v := nI 1) hx hb dL_law_765 (ic_1) ?_
    refine n_iadd hx hb dL_law_766 ?_
    refine n_sld hx hb hX hbl hbA hS (by omega) (by omega) dL_law_767 ?_
    refine k3_i (mc := 0) (ms := 0) (wa := []) (wc := (wM r cI cZ cJ th k V C A T B P OR n PR ST li w WK so sp CT FW)) (wb := ((wX q cI cZ cJ k V C T B P A n PR ST li w WK so sp CT SC TA) ++ [(qo, .inl (cJ, 1, .inr (.inl O)))])) (va_runV (As := [.int (xs ((4 * jj) + 1))]) (rest := []) ⟨hx, hb, hml, hown, hts⟩ (c_X1_insert l hst D r cI cZ cJ th k V C A T B P OR n PR ST li w WK so sp CT FW H.size (xs ((4 * jj) + 1)) hI.hk8 hI.hV hI.hA1 hI.hw12 hI.hWK hI.hli) (cwV 1 hts gL_law_X1_insert rfl rfl rfl hd_X1_insert ⟨(Nat.le_of_ble_eq_true rfl), (Nat.le_of_ble_eq_true rfl)⟩) (pre_V3 (wa := []) (wc := (wM r cI cZ cJ th k V C A T B P OR n PR ST li w WK so sp CT FW)) (wb := ((wX q cI cZ cJ k V C T B P A n PR ST li w WK so sp CT SC TA) ++ [(qo, .inl (cJ, 1, .inr (.inl O)))])) hP hK hD hS hA hZ hg 0 (ci := 1) rfl rfl) rfl rfl hl.1 rfl (lv_room (Nat.le_of_ble_eq_true rfl)) dL_law_768 ⟨(show ((27 + 8 * jj) + 1) + 0 ≤ 601024 by omega), (show ((20244 + 64 * jj) + 6) + 0 ≤ 7293034 by omega)⟩) hP hD hS hA (fun rr u2 H locs hq hP hD hS => ?_)
    obtain ⟨v0, v1, v2, v3, v4⟩ := u2
    replace hq : rr = nI v0 ∧ ((v1 = 0 ∧ ∃ i, i < k ∧ (xs ((4 * jj) + 1)) = nI i ∧ insP k V A li w WK CT i v2 v3 v4 v0) ∨ (v1 = 1 ∧ ¬ rg (xs ((4 * jj) + 1)) 0 k ∧ v2 = w ∧ v3 = WK ∧ v4 = CT)) := hq
    obtain ⟨hr9, hq⟩ := hq
    replace hr9 := hr9.symm
    subst hr9
    have hP : va_P D vwCl ((wM r cI cZ cJ v1 k V C A T B P OR n PR ST li v2 v3 so sp v4 FW) ++ ((wX q cI cZ cJ k V C T B P A n PR ST li w WK so sp CT SC TA) ++ [(qo, .inl (cJ, 1, .inr (.inl O)))])) H := hP
    have hD : va_D (lA s) ((wM r cI cZ cJ v1 k V C A T B P OR n PR ST li v2 v3 so sp v4 FW) ++ ((wX q cI cZ cJ k V C T B P A n PR ST li w WK so sp CT SC TA) ++ [(qo, .inl (cJ, 1, .inr (.inl O)))])) := hD
    obtain ⟨e0, f0, f1, f2⟩ := q_insert_1 hI.hk8 hp hq
    have e0 := e0.symm
    subst e0
    have f0 := f0.symm
    subst f0
    have f1 := f1.symm
    subst f1
    have f2 := f2.symm
    subst f2
    refine lv_istore (lv' := [(6, .int (nI v0)), (5, .int (nI 1)), (4, .int (nI (4 * jj))), (3, .ref qo), (2, .ref (r 0)), (1, .ref (q 0)), (0, .ref b)]) hx hb dL_law_771 hl (by decide) rfl (fun ls hl => ?_)
    refine lv_aload_n hx hb dL_law_773 rfl (lv_at hl 4 rfl) ?_
    refine k3_i (mc := 0) (ms := 0) (wa := []) (wc := (wM r cI cZ cJ 1 k V C A T B P OR n PR ST li w WK so sp CT FW)) (wb := ((wX q cI cZ cJ k V C T B P A n PR ST li w WK so sp CT SC TA) ++ [(qo, .inl (cJ, 1, .inr (.inl O)))])) (va_runV (As := []) (rest := []) ⟨hx, hb, hml, hown, hts⟩ (c_X1_thrown l hst D r cI cZ cJ 1 k V C A T B P OR n PR ST li w WK so sp CT FW H.size  ) (cwV 0 hts gL_law_X1_thrown rfl rfl rfl hd_X1_thrown ⟨(Nat.le_of_ble_eq_true rfl), (Nat.le_of_ble_eq_true rfl)⟩) (pre_V3 (wa := []) (wc := (wM r cI cZ cJ 1 k V C A T B P OR n PR ST li w WK so sp CT FW)) (wb := ((wX q cI cZ cJ k V C T B P A n PR ST li w WK so sp CT SC TA) ++ [(qo, .inl (cJ, 1, .inr (.inl O)))])) hP hK hD hS hA hZ hg 0 (ci := 1) rfl rfl) rfl rfl hl.1 rfl (lv_room (Nat.le_of_ble_eq_true rfl)) dL_law_774 ⟨(show (((27 + 8 * jj) + 1) + 0) + 0 ≤ 601024 by omega), (show (((20244 + 64 * jj) + 6) + 0) + 0 ≤ 7293034 by omega)⟩) hP hD hS hA (fun rr u2 H locs hq hP hD hS => ?_)
    replace hq : rr = nI 1 := hq
    subst hq
    have hP : va_P D vwCl ((wM r cI cZ cJ 1 k V C A T B P OR n PR ST li w WK so sp CT FW) ++ ((wX q cI cZ cJ k V C T B P A n PR ST li w WK so sp CT SC TA) ++ [(qo, .inl (cJ, 1, .inr (.inl O)))])) H := hP
    have hD : va_D (lA s) ((wM r cI cZ cJ 1 k V C A T B P OR n PR ST li w WK so sp CT FW) ++ ((wX q cI cZ cJ k V C T B P A n PR ST li w WK so sp CT SC TA) ++ [(qo, .inl (cJ, 1, .inr (.inl O)))])) := hD
    refine lv_iload hx hb dL_law_777 (lv_at hl 1 rfl) ?_
    refine lv_icmp_eq (tgt := 784) hx hb dL_law_779 (by decide) (fun _ => ?_) (fun h => absurd rfl h)
    refine lv_iload hx hb dL_law_784 (lv_at hl 1 rfl) ?_
    refine n_if_ne (tgt := 801) hx hb (by decide) dL_law_786 (by decide) (fun c786 => ?_) (fun c786 => ?_)
    · refine lv_goto (tgt := 1433) hx hb dL_law_801 (by decide) ?_
      refine W.widen (k := 27 + 8 * (jj + 1)) (n := 20244 + 64 * (jj + 1)) (by omega) (by omega) ?_
      exact hN 1 k V C T B P A OR n PR ST li w WK so sp CT SC TA FW O _ _ hI hP hD hS ls (lv_sub hl [2, 3, 4, 5, 6] rfl)
    · exact absurd c786 (by decide)

set_option maxHeartbeats 8000000 in
set_option maxRecDepth 100000 in
theorem lw_buy (hst : l.stackTraces = false) (hc : Lc p s m meth c b L xs D cI cZ cJ) {r q : Nat → Nat} {qo jj : Nat} (hj : 4 * jj + 4 ≤ L) {th : Nat} {k : Nat} {V : Nat → Nat} {C : Nat → Nat} {T : Nat → Nat} {B : Nat → Nat} {P : Nat → Nat} {A : Nat → Nat} {OR : Nat → Nat} {n : Nat} {PR : Nat → Nat} {ST : Nat → Nat} {li : Nat} {w : Nat} {WK : Nat → Nat} {so : Nat} {sp : Nat} {CT : Nat → Int64} {SC : Nat → Int} {TA : Nat → Nat} {FW : Nat → Nat} {O : Nat → Int64} {H : Heap} {locs : List Loc} (hI : IV k V C T A OR n PR ST li w WK so sp) (hP : va_P D vwCl (wL r q qo cI cZ cJ th k V C T B P A OR n PR ST li w WK so sp CT SC TA FW O) H) (hD : va_D (lA s) (wL r q qo cI cZ cJ th k V C T B P A OR n PR ST li w WK so sp CT SC TA FW O)) (hS : va_S (lA s) s.heap H locs) {ls : Array Slot} (hl : lv_has ls 9 [(4, .int (nI (4 * jj))), (3, .ref qo), (2, .ref (r 0)), (1, .ref (q 0)), (0, .ref b)]) (hN : Nx p l e s m below meth c b D r q qo cI cZ cJ Q jj) : W p l e room_1 s m #[Value.ref b] below meth c H locs (27 + 8 * jj) (20244 + 64 * jj) Q (F0 m 817 ls []) := by
  obtain ⟨hx, hb, hr, hml, hown, hts, hX, hbl, hlocks, hK, hZ, hg, hn, hL⟩ := hc
  have hA : ∀ q9 : Nat, s.heap.size ≤ q9 → lA s q9 := fun _ h => h
  have hbA : ¬ lA s b := Nat.not_le.mpr hbl
  have hP : va_P D vwCl ((wM r cI cZ cJ th k V C A T B P OR n PR ST li w WK so sp CT FW) ++ ((wX q cI cZ cJ k V C T B P A n PR ST li w WK so sp CT SC TA) ++ [(qo, .inl (cJ, 1, .inr (.inl O)))])) H := hP
  have hD : va_D (lA s) ((wM r cI cZ cJ th k V C A T B P OR n PR ST li w WK so sp CT FW) ++ ((wX q cI cZ cJ k V C T B P A n PR ST li w WK so sp CT SC TA) ++ [(qo, .inl (cJ, 1, .inr (.inl O)))])) := hD
  refine lv_aload_n hx hb dL_law_817 rfl (lv_at hl 3 rfl) ?_
  refine lv_aload_n hx hb dL_law_818 rfl (lv_at hl 4 rfl) ?_
  refine lv_iload hx hb dL_law_819 (lv_at hl 0 rfl) ?_
  refine lv_iconst (v := nI 1) hx hb dL_law_821 (ic_1) ?_
  refine n_iadd hx hb dL_law_822 ?_
  refine n_sld hx hb hX hbl hbA hS (by omega) (by omega) dL_law_823 ?_
  refine lv_aload_n hx hb dL_law_824 rfl (lv_at hl 1 rfl) ?_
  refine k3_i (mc := 1) (ms := 6) (wa := (wM r cI cZ cJ th k V C A T B P OR n PR ST li w WK so sp CT FW)) (wc := ((wX q cI cZ cJ k V C T B P A n PR ST li w WK so sp CT SC TA) ++ [(qo, .inl (cJ, 1, .inr (.inl O)))])) (wb := []) (vx_runSW (As := [.ref (q 0), .int (xs ((4 * jj) + 1)), .ref qo]) (rest := []) ⟨hx, hb, hml, hown, hts⟩ (c_L_buy l hst D q qo cI cZ cJ k V C T B P A n PR ST li w WK so sp CT SC TA O H.size (xs ((4 * jj) + 1)) hI.hk8 hI.hV hI.hC hI.hVd hI.hn10 hI.hPR hI.hw12 hI.hWK hI.hcr) (vx_cwSW 3 hts gL_law_L_buy rfl rfl rfl hd_L_buy.2 ⟨(Nat.le_of_ble_eq_true rfl), (Nat.le_of_ble_eq_true rfl)⟩) (pre_N (wa := (wM r cI cZ cJ th k V C A T B P OR n PR ST li w WK so sp CT FW)) (wc := ((wX q cI cZ cJ k V C T B P A n PR ST li w WK so sp CT SC TA) ++ [(qo, .inl (cJ, 1, .inr (.inl O)))])) (wb := []) hP hK hD hS hA hZ hg hn) rfl rfl hl.1 rfl (lv_room (Nat.le_of_ble_eq_true rfl)) dL_law_825 ⟨(show (27 + 8 * jj) + 1 ≤ 601024 by omega), (show (20244 + 64 * jj) + 6 ≤ 7293034 by omega)⟩) hP hD hS hA (fun rr u H locs hp hP hD hS => ?_)
  rcases u with u | kk
  · replace hp : rr = nI 0 ∧ (u.1 < n ∧ (xs ((4 * jj) + 1)) = nI u.1 ∧ buyP k V C T B P PR ST w WK so sp CT u.1 u.2.1 u.2.2.1 u.2.2.2.1 u.2.2.2.2.1 u.2.2.2.2.2.1 u.2.2.2.2.2.2.1 u.2.2.2.2.2.2.2.1 u.2.2.2.2.2.2.2.2.1 u.2.2.2.2.2.2.2.2.2.1) := hp
    obtain ⟨rfl, hp⟩ := hp
    have hP : va_P D vwCl ((wM r cI cZ cJ th k V C A T B P OR n PR ST li w WK so sp CT FW) ++ ((wX q cI cZ cJ k V C u.2.2.1 u.2.2.2.1 u.2.2.2.2.1 A n PR u.2.2.2.2.2.2.1 li u.2.2.2.2.2.1 WK u.2.2.2.2.2.2.2.1 u.2.2.2.2.2.2.2.2.1 u.2.2.2.2.2.2.2.2.2.1 u.2.2.2.2.2.2.2.2.2.2.1 u.2.2.2.2.2.2.2.2.2.2.2) ++ [(qo, .inl (cJ, 1, .inr (.inl (vp_updL O 0 ((nI u.2.1).toInt64)))))])) H := hP
    have hD : va_D (lA s) ((wM r cI cZ cJ th k V C A T B P OR n PR ST li w WK so sp CT FW) ++ ((wX q cI cZ cJ k V C u.2.2.1 u.2.2.2.1 u.2.2.2.2.1 A n PR u.2.2.2.2.2.2.1 li u.2.2.2.2.2.1 WK u.2.2.2.2.2.2.2.1 u.2.2.2.2.2.2.2.2.1 u.2.2.2.2.2.2.2.2.2.1 u.2.2.2.2.2.2.2.2.2.2.1 u.2.2.2.2.2.2.2.2.2.2.2) ++ [(qo, .inl (cJ, 1, .inr (.inl (vp_updL O 0 ((nI u.2.1).toInt64)))))])) := hD
    refine lv_istore (lv' := [(5, .int (nI 0)), (4, .int (nI (4 * jj))), (3, .ref qo), (2, .ref (r 0)), (1, .ref (q 0)), (0, .ref b)]) hx hb dL_law_828 hl (by decide) rfl (fun ls hl => ?_)
    refine lv_aload_n hx hb dL_law_830 rfl (lv_at hl 3 rfl) ?_
    refine lv_aload_n hx hb dL_law_831 rfl (lv_at hl 5 rfl) ?_
    refine lv_iload hx hb dL_law_832 (lv_at hl 1 rfl) ?_
    refine lv_iconst (v := nI 1) hx hb dL_law_834 (ic_1) ?_
    refine n_iadd hx hb dL_law_835 ?_
    refine n_sld hx hb hX hbl hbA hS (by omega) (by omega) dL_law_836 ?_
    refine k3_i (mc := 2) (ms := 16) (wa := []) (wc := (wM r cI cZ cJ th k V C A T B P OR n PR ST li w WK so sp CT FW)) (wb := ((wX q cI cZ cJ k V C u.2.2.1 u.2.2.2.1 u.2.2.2.2.1 A n PR u.2.2.2.2.2.2.1 li u.2.2.2.2.2.1 WK u.2.2.2.2.2.2.2.1 u.2.2.2.2.2.2.2.2.1 u.2.2.2.2.2.2.2.2.2.1 u.2.2.2.2.2.2.2.2.2.2.1 u.2.2.2.2.2.2.2.2.2.2.2) ++ [(qo, .inl (cJ, 1, .inr (.inl (vp_updL O 0 ((nI u.2.1).toInt64)))))])) (va_runV (As := [.int (xs ((4 * jj) + 1))]) (rest := []) ⟨hx, hb, hml, hown, hts⟩ (c_X1_buy l hst D r cI cZ cJ th k V C A T B P OR n PR ST li w WK so sp CT FW H.size (xs ((4 * jj) + 1)) hI.hk8 hI.hV hI.hC hI.hOR hI.hn10 hI.hPR hI.hw12 hI.hWK hI.hcr) (cwV 1 hts gL_law_X1_buy rfl rfl rfl hd_X1_buy ⟨(Nat.le_of_ble_eq_true rfl), (Nat.le_of_ble_eq_true rfl)⟩) (pre_V3 (wa := []) (wc := (wM r cI cZ cJ th k V C A T B P OR n PR ST li w WK so sp CT FW)) (wb := ((wX q cI cZ cJ k V C u.2.2.1 u.2.2.2.1 u.2.2.2.2.1 A n PR u.2.2.2.2.2.2.1 li u.2.2.2.2.2.1 WK u.2.2.2.2.2.2.2.1 u.2.2.2.2.2.2.2.2.1 u.2.2.2.2.2.2.2.2.2.1 u.2.2.2.2.2.2.2.2.2.2.1 u.2.2.2.2.2.2.2.2.2.2.2) ++ [(qo, .inl (cJ, 1, .inr (.inl (vp_updL O 0 ((nI u.2.1).toInt64)))))])) hP hK hD hS hA hZ hg 0 (ci := 1) rfl rfl) rfl rfl hl.1 rfl (lv_room (Nat.le_of_ble_eq_true rfl)) dL_law_837 ⟨(show ((27 + 8 * jj) + 1) + 2 ≤ 601024 by omega), (show ((20244 + 64 * jj) + 6) + 16 ≤ 7293034 by omega)⟩) hP hD hS hA (fun rr u2 H locs hq hP hD hS => ?_)
    obtain ⟨v0, v1, v2, v3, v4, v5, v6, v7, v8, v9, v10⟩ := u2
    replace hq : rr = nI v0 ∧ ((v1 = 1 ∧ ¬ rg (xs ((4 * jj) + 1)) 0 n ∧ v2 = T ∧ v3 = B ∧ v4 = P ∧ v5 = w ∧ v6 = ST ∧ v7 = so ∧ v8 = sp ∧ v9 = CT) ∨ (v1 = 0 ∧ ∃ j, j < n ∧ (xs ((4 * jj) + 1)) = nI j ∧ buyP k V C T B P PR ST w WK so sp CT j v0 v2 v3 v4 v5 v6 v7 v8 v9)) := hq
    obtain ⟨hr9, hq⟩ := hq
    replace hr9 := hr9.symm
    subst hr9
    have hP : va_P D vwCl ((wM r cI cZ cJ v1 k V C A v2 v3 v4 OR n PR v6 li v5 WK v7 v8 v9 v10) ++ ((wX q cI cZ cJ k V C u.2.2.1 u.2.2.2.1 u.2.2.2.2.1 A n PR u.2.2.2.2.2.2.1 li u.2.2.2.2.2.1 WK u.2.2.2.2.2.2.2.1 u.2.2.2.2.2.2.2.2.1 u.2.2.2.2.2.2.2.2.2.1 u.2.2.2.2.2.2.2.2.2.2.1 u.2.2.2.2.2.2.2.2.2.2.2) ++ [(qo, .inl (cJ, 1, .inr (.inl (vp_updL O 0 ((nI u.2.1).toInt64)))))])) H := hP
    have hD : va_D (lA s) ((wM r cI cZ cJ v1 k V C A v2 v3 v4 OR n PR v6 li v5 WK v7 v8 v9 v10) ++ ((wX q cI cZ cJ k V C u.2.2.1 u.2.2.2.1 u.2.2.2.2.1 A n PR u.2.2.2.2.2.2.1 li u.2.2.2.2.2.1 WK u.2.2.2.2.2.2.2.1 u.2.2.2.2.2.2.2.2.1 u.2.2.2.2.2.2.2.2.2.1 u.2.2.2.2.2.2.2.2.2.2.1 u.2.2.2.2.2.2.2.2.2.2.2) ++ [(qo, .inl (cJ, 1, .inr (.inl (vp_updL O 0 ((nI u.2.1).toInt64)))))])) := hD
    obtain ⟨e0, e1, f0, f1, f2, f3, f4, f5, f6, f7⟩ := q_buy_0 hI.hn10 hp hq
    have e0 := e0.symm
    subst e0
    have e1 := e1.symm
    subst e1
    have f0 := f0.symm
    subst f0
    have f1 := f1.symm
    subst f1
    have f2 := f2.symm
    subst f2
    have f3 := f3.symm
    subst f3
    have f4 := f4.symm
    subst f4
    have f5 := f5.symm
    subst f5
    have f6 := f6.symm
    subst f6
    have f7 := f7.symm
    subst f7
    have hI2 := iv_buy hI hp.1 hp.2.2
    refine lv_istore (lv' := [(6, .int (nI u.2.1)), (5, .int (nI 0)), (4, .int (nI (4 * jj))), (3, .ref qo), (2, .ref (r 0)), (1, .ref (q 0)), (0, .ref b)]) hx hb dL_law_840 hl (by decide) rfl (fun ls hl => ?_)
    refine lv_aload_n hx hb dL_law_842 rfl (lv_at hl 4 rfl) ?_
    refine k3_i (mc := 0) (ms := 0) (wa := []) (wc := (wM r cI cZ cJ 0 k V C A u.2.2.1 u.2.2.2.1 u.2.2.2.2.1 OR n PR u.2.2.2.2.2.2.1 li u.2.2.2.2.2.1 WK u.2.2.2.2.2.2.2.1 u.2.2.2.2.2.2.2.2.1 u.2.2.2.2.2.2.2.2.2.1 v10)) (wb := ((wX q cI cZ cJ k V C u.2.2.1 u.2.2.2.1 u.2.2.2.2.1 A n PR u.2.2.2.2.2.2.1 li u.2.2.2.2.2.1 WK u.2.2.2.2.2.2.2.1 u.2.2.2.2.2.2.2.2.1 u.2.2.2.2.2.2.2.2.2.1 u.2.2.2.2.2.2.2.2.2.2.1 u.2.2.2.2.2.2.2.2.2.2.2) ++ [(qo, .inl (cJ, 1, .inr (.inl (vp_updL O 0 ((nI u.2.1).toInt64)))))])) (va_runV (As := []) (rest := []) ⟨hx, hb, hml, hown, hts⟩ (c_X1_thrown l hst D r cI cZ cJ 0 k V C A u.2.2.1 u.2.2.2.1 u.2.2.2.2.1 OR n PR u.2.2.2.2.2.2.1 li u.2.2.2.2.2.1 WK u.2.2.2.2.2.2.2.1 u.2.2.2.2.2.2.2.2.1 u.2.2.2.2.2.2.2.2.2.1 v10 H.size  ) (cwV 0 hts gL_law_X1_thrown rfl rfl rfl hd_X1_thrown ⟨(Nat.le_of_ble_eq_true rfl), (Nat.le_of_ble_eq_true rfl)⟩) (pre_V3 (wa := []) (wc := (wM r cI cZ cJ 0 k V C A u.2.2.1 u.2.2.2.1 u.2.2.2.2.1 OR n PR u.2.2.2.2.2.2.1 li u.2.2.2.2.2.1 WK u.2.2.2.2.2.2.2.1 u.2.2.2.2.2.2.2.2.1 u.2.2.2.2.2.2.2.2.2.1 v10)) (wb := ((wX q cI cZ cJ k V C u.2.2.1 u.2.2.2.1 u.2.2.2.2.1 A n PR u.2.2.2.2.2.2.1 li u.2.2.2.2.2.1 WK u.2.2.2.2.2.2.2.1 u.2.2.2.2.2.2.2.2.1 u.2.2.2.2.2.2.2.2.2.1 u.2.2.2.2.2.2.2.2.2.2.1 u.2.2.2.2.2.2.2.2.2.2.2) ++ [(qo, .inl (cJ, 1, .inr (.inl (vp_updL O 0 ((nI u.2.1).toInt64)))))])) hP hK hD hS hA hZ hg 0 (ci := 1) rfl rfl) rfl rfl hl.1 rfl (lv_room (Nat.le_of_ble_eq_true rfl)) dL_law_843 ⟨(show (((27 + 8 * jj) + 1) + 2) + 0 ≤ 601024 by omega), (show (((20244 + 64 * jj) + 6) + 16) + 0 ≤ 7293034 by omega)⟩) hP hD hS hA (fun rr u2 H locs hq hP hD hS => ?_)
    replace hq : rr = nI 0 := hq
    subst hq
    have hP : va_P D vwCl ((wM r cI cZ cJ 0 k V C A u.2.2.1 u.2.2.2.1 u.2.2.2.2.1 OR n PR u.2.2.2.2.2.2.1 li u.2.2.2.2.2.1 WK u.2.2.2.2.2.2.2.1 u.2.2.2.2.2.2.2.2.1 u.2.2.2.2.2.2.2.2.2.1 v10) ++ ((wX q cI cZ cJ k V C u.2.2.1 u.2.2.2.1 u.2.2.2.2.1 A n PR u.2.2.2.2.2.2.1 li u.2.2.2.2.2.1 WK u.2.2.2.2.2.2.2.1 u.2.2.2.2.2.2.2.2.1 u.2.2.2.2.2.2.2.2.2.1 u.2.2.2.2.2.2.2.2.2.2.1 u.2.2.2.2.2.2.2.2.2.2.2) ++ [(qo, .inl (cJ, 1, .inr (.inl (vp_updL O 0 ((nI u.2.1).toInt64)))))])) H := hP
    have hD : va_D (lA s) ((wM r cI cZ cJ 0 k V C A u.2.2.1 u.2.2.2.1 u.2.2.2.2.1 OR n PR u.2.2.2.2.2.2.1 li u.2.2.2.2.2.1 WK u.2.2.2.2.2.2.2.1 u.2.2.2.2.2.2.2.2.1 u.2.2.2.2.2.2.2.2.2.1 v10) ++ ((wX q cI cZ cJ k V C u.2.2.1 u.2.2.2.1 u.2.2.2.2.1 A n PR u.2.2.2.2.2.2.1 li u.2.2.2.2.2.1 WK u.2.2.2.2.2.2.2.1 u.2.2.2.2.2.2.2.2.1 u.2.2.2.2.2.2.2.2.2.1 u.2.2.2.2.2.2.2.2.2.2.1 u.2.2.2.2.2.2.2.2.2.2.2) ++ [(qo, .inl (cJ, 1, .inr (.inl (vp_updL O 0 ((nI u.2.1).toInt64)))))])) := hD
    refine lv_iload hx hb dL_law_846 (lv_at hl 1 rfl) ?_
    refine lv_icmp_eq (tgt := 853) hx hb dL_law_848 (by decide) (fun _ => ?_) (fun h => absurd rfl h)
    refine lv_iload hx hb dL_law_853 (lv_at hl 1 rfl) ?_
    refine n_if_ne (tgt := 870) hx hb (by decide) dL_law_855 (by decide) (fun c855 => ?_) (fun c855 => ?_)
    · exact absurd c855 (by decide)
    · refine lv_aload_n hx hb dL_law_858 rfl (lv_at hl 3 rfl) ?_
      refine lv_iconst (v := nI 0) hx hb dL_law_859 (ic_0) ?_
      refine n_lald hx hb hK hP 26 2 rfl rfl (by decide) (by decide) dL_law_860 ?_
      refine n_topl (show (vp_updL O 0 ((nI u.2.1).toInt64)) 0 = (nI u.2.1).toInt64 from updL_s) ?_
      refine lv_iload hx hb dL_law_861 (lv_at hl 0 rfl) ?_
      refine lv_i2l hx hb dL_law_863 rfl ?_
      refine n_lcmp_eq (tgt := 870) hx hb dL_law_864 dL_law_865 (by decide) (fun _ => ?_) (fun h => absurd rfl h)
      refine lv_goto (tgt := 1433) hx hb dL_law_870 (by decide) ?_
      refine W.widen (k := 27 + 8 * (jj + 1)) (n := 20244 + 64 * (jj + 1)) (by omega) (by omega) ?_
      exact hN 0 k V C u.2.2.1 u.2.2.2.1 u.2.2.2.2.1 A OR n PR u.2.2.2.2.2.2.1 li u.2.2.2.2.2.1 WK u.2.2.2.2.2.2.2.1 u.2.2.2.2.2.2.2.2.1 u.2.2.2.2.2.2.2.2.2.1 u.2.2.2.2.2.2.2.2.2.2.1 u.2.2.2.2.2.2.2.2.2.2.2 v10 (vp_updL O 0 ((nI u.2.1).toInt64)) _ _ hI2 hP hD hS ls (lv_sub hl [2, 3, 4, 5, 6] rfl)
  · replace hp : rr = nI kk ∧ ((kk = 1 ∧ (¬ rg (xs ((4 * jj) + 1)) 0 n))) := hp
    obtain ⟨rfl, hp⟩ := hp
    have hP : va_P D vwCl ((wM r cI cZ cJ th k V C A T B P OR n PR ST li w WK so sp CT FW) ++ ((wX q cI cZ cJ k V C T B P A n PR ST li w WK so sp CT SC TA) ++ [(qo, .inl (cJ, 1, .inr (.inl O)))])) H := hP
    have hD : va_D (lA s) ((wM r cI cZ cJ th k V C A T B P OR n PR ST li w WK so sp CT FW) ++ ((wX q cI cZ cJ k V C T B P A n PR ST li w WK so sp CT SC TA) ++ [(qo, .inl (cJ, 1, .inr (.inl O)))])) := hD
    obtain ⟨rfl, hp⟩ := hp
    refine lv_istore (lv' := [(5, .int (nI 1)), (4, .int (nI (4 * jj))), (3, .ref qo), (2, .ref (r 0)), (1, .ref (q 0)), (0, .ref b)]) hx hb dL_law_828 hl (by decide) rfl (fun ls hl => ?_)
    refine lv_aload_n hx hb dL_law_830 rfl (lv_at hl 3 rfl) ?_
    refine lv_aload_n hx hb dL_law_831 rfl (lv_at hl 5 rfl) ?_
    refine lv_iload hx hb dL_law_832 (lv_at hl 1 rfl) ?_
    refine lv_iconst (v := nI 1) hx hb dL_law_834 (ic_1) ?_
    refine n_iadd hx hb dL_law_835 ?_
    refine n_sld hx hb hX hbl hbA hS (by omega) (by omega) dL_law_836 ?_
    refine k3_i (mc := 2) (ms := 16) (wa := []) (wc := (wM r cI cZ cJ th k V C A T B P OR n PR ST li w WK so sp CT FW)) (wb := ((wX q cI cZ cJ k V C T B P A n PR ST li w WK so sp CT SC TA) ++ [(qo, .inl (cJ, 1, .inr (.inl O)))])) (va_runV (As := [.int (xs ((4 * jj) + 1))]) (rest := []) ⟨hx, hb, hml, hown, hts⟩ (c_X1_buy l hst D r cI cZ cJ th k V C A T B P OR n PR ST li w WK so sp CT FW H.size (xs ((4 * jj) + 1)) hI.hk8 hI.hV hI.hC hI.hOR hI.hn10 hI.hPR hI.hw12 hI.hWK hI.hcr) (cwV 1 hts gL_law_X1_buy rfl rfl rfl hd_X1_buy ⟨(Nat.le_of_ble_eq_true rfl), (Nat.le_of_ble_eq_true rfl)⟩) (pre_V3 (wa := []) (wc := (wM r cI cZ cJ th k V C A T B P OR n PR ST li w WK so sp CT FW)) (wb := ((wX q cI cZ cJ k V C T B P A n PR ST li w WK so sp CT SC TA) ++ [(qo, .inl (cJ, 1, .inr (.inl O)))])) hP hK hD hS hA hZ hg 0 (ci := 1) rfl rfl) rfl rfl hl.1 rfl (lv_room (Nat.le_of_ble_eq_true rfl)) dL_law_837 ⟨(show ((27 + 8 * jj) + 1) + 2 ≤ 601024 by omega), (show ((20244 + 64 * jj) + 6) + 16 ≤ 7293034 by omega)⟩) hP hD hS hA (fun rr u2 H locs hq hP hD hS => ?_)
    obtain ⟨v0, v1, v2, v3, v4, v5, v6, v7, v8, v9, v10⟩ := u2
    replace hq : rr = nI v0 ∧ ((v1 = 1 ∧ ¬ rg (xs ((4 * jj) + 1)) 0 n ∧ v2 = T ∧ v3 = B ∧ v4 = P ∧ v5 = w ∧ v6 = ST ∧ v7 = so ∧ v8 = sp ∧ v9 = CT) ∨ (v1 = 0 ∧ ∃ j, j < n ∧ (xs ((4 * jj) + 1)) = nI j ∧ buyP k V C T B P PR ST w WK so sp CT j v0 v2 v3 v4 v5 v6 v7 v8 v9)) := hq
    obtain ⟨hr9, hq⟩ := hq
    replace hr9 := hr9.symm
    subst hr9
    have hP : va_P D vwCl ((wM r cI cZ cJ v1 k V C A v2 v3 v4 OR n PR v6 li v5 WK v7 v8 v9 v10) ++ ((wX q cI cZ cJ k V C T B P A n PR ST li w WK so sp CT SC TA) ++ [(qo, .inl (cJ, 1, .inr (.inl O)))])) H := hP
    have hD : va_D (lA s) ((wM r cI cZ cJ v1 k V C A v2 v3 v4 OR n PR v6 li v5 WK v7 v8 v9 v10) ++ ((wX q cI cZ cJ k V C T B P A n PR ST li w WK so sp CT SC TA) ++ [(qo, .inl (cJ, 1, .inr (.inl O)))])) := hD
    obtain ⟨e0, f0, f1, f2, f3, f4, f5, f6, f7⟩ := q_buy_1 hI.hn10 hp hq
    have e0 := e0.symm
    subst e0
    have f0 := f0.symm
    subst f0
    have f1 := f1.symm
    subst f1
    have f2 := f2.symm
    subst f2
    have f3 := f3.symm
    subst f3
    have f4 := f4.symm
    subst f4
    have f5 := f5.symm
    subst f5
    have f6 := f6.symm
    subst f6
    have f7 := f7.symm
    subst f7
    refine lv_istore (lv' := [(6, .int (nI v0)), (5, .int (nI 1)), (4, .int (nI (4 * jj))), (3, .ref qo), (2, .ref (r 0)), (1, .ref (q 0)), (0, .ref b)]) hx hb dL_law_840 hl (by decide) rfl (fun ls hl => ?_)
    refine lv_aload_n hx hb dL_law_842 rfl (lv_at hl 4 rfl) ?_
    refine k3_i (mc := 0) (ms := 0) (wa := []) (wc := (wM r cI cZ cJ 1 k V C A T B P OR n PR ST li w WK so sp CT v10)) (wb := ((wX q cI cZ cJ k V C T B P A n PR ST li w WK so sp CT SC TA) ++ [(qo, .inl (cJ, 1, .inr (.inl O)))])) (va_runV (As := []) (rest := []) ⟨hx, hb, hml, hown, hts⟩ (c_X1_thrown l hst D r cI cZ cJ 1 k V C A T B P OR n PR ST li w WK so sp CT v10 H.size  ) (cwV 0 hts gL_law_X1_thrown rfl rfl rfl hd_X1_thrown ⟨(Nat.le_of_ble_eq_true rfl), (Nat.le_of_ble_eq_true rfl)⟩) (pre_V3 (wa := []) (wc := (wM r cI cZ cJ 1 k V C A T B P OR n PR ST li w WK so sp CT v10)) (wb := ((wX q cI cZ cJ k V C T B P A n PR ST li w WK so sp CT SC TA) ++ [(qo, .inl (cJ, 1, .inr (.inl O)))])) hP hK hD hS hA hZ hg 0 (ci := 1) rfl rfl) rfl rfl hl.1 rfl (lv_room (Nat.le_of_ble_eq_true rfl)) dL_law_843 ⟨(show (((27 + 8 * jj) + 1) + 2) + 0 ≤ 601024 by omega), (show (((20244 + 64 * jj) + 6) + 16) + 0 ≤ 7293034 by omega)⟩) hP hD hS hA (fun rr u2 H locs hq hP hD hS => ?_)
    replace hq : rr = nI 1 := hq
    subst hq
    have hP : va_P D vwCl ((wM r cI cZ cJ 1 k V C A T B P OR n PR ST li w WK so sp CT v10) ++ ((wX q cI cZ cJ k V C T B P A n PR ST li w WK so sp CT SC TA) ++ [(qo, .inl (cJ, 1, .inr (.inl O)))])) H := hP
    have hD : va_D (lA s) ((wM r cI cZ cJ 1 k V C A T B P OR n PR ST li w WK so sp CT v10) ++ ((wX q cI cZ cJ k V C T B P A n PR ST li w WK so sp CT SC TA) ++ [(qo, .inl (cJ, 1, .inr (.inl O)))])) := hD
    refine lv_iload hx hb dL_law_846 (lv_at hl 1 rfl) ?_
    refine lv_icmp_eq (tgt := 853) hx hb dL_law_848 (by decide) (fun _ => ?_) (fun h => absurd rfl h)
    refine lv_iload hx hb dL_law_853 (lv_at hl 1 rfl) ?_
    refine n_if_ne (tgt := 870) hx hb (by decide) dL_law_855 (by decide) (fun c855 => ?_) (fun c855 => ?_)
    · refine lv_goto (tgt := 1433) hx hb dL_law_870 (by decide) ?_
      refine W.widen (k := 27 + 8 * (jj + 1)) (n := 20244 + 64 * (jj + 1)) (by omega) (by omega) ?_
      exact hN 1 k V C T B P A OR n PR ST li w WK so sp CT SC TA v10 O _ _ hI hP hD hS ls (lv_sub hl [2, 3, 4, 5, 6] rfl)
    · exact absurd c855 (by decide)

set_option maxHeartbeats 8000000 in
set_option maxRecDepth 100000 in
theorem lw_refund (hst : l.stackTraces = false) (hc : Lc p s m meth c b L xs D cI cZ cJ) {r q : Nat → Nat} {qo jj : Nat} (hj : 4 * jj + 4 ≤ L) {th : Nat} {k : Nat} {V : Nat → Nat} {C : Nat → Nat} {T : Nat → Nat} {B : Nat → Nat} {P : Nat → Nat} {A : Nat → Nat} {OR : Nat → Nat} {n : Nat} {PR : Nat → Nat} {ST : Nat → Nat} {li : Nat} {w : Nat} {WK : Nat → Nat} {so : Nat} {sp : Nat} {CT : Nat → Int64} {SC : Nat → Int} {TA : Nat → Nat} {FW : Nat → Nat} {O : Nat → Int64} {H : Heap} {locs : List Loc} (hI : IV k V C T A OR n PR ST li w WK so sp) (hP : va_P D vwCl (wL r q qo cI cZ cJ th k V C T B P A OR n PR ST li w WK so sp CT SC TA FW O) H) (hD : va_D (lA s) (wL r q qo cI cZ cJ th k V C T B P A OR n PR ST li w WK so sp CT SC TA FW O)) (hS : va_S (lA s) s.heap H locs) {ls : Array Slot} (hl : lv_has ls 9 [(4, .int (nI (4 * jj))), (3, .ref qo), (2, .ref (r 0)), (1, .ref (q 0)), (0, .ref b)]) (hN : Nx p l e s m below meth c b D r q qo cI cZ cJ Q jj) : W p l e room_1 s m #[Value.ref b] below meth c H locs (27 + 8 * jj) (20244 + 64 * jj) Q (F0 m 873 ls []) := by
  obtain ⟨hx, hb, hr, hml, hown, hts, hX, hbl, hlocks, hK, hZ, hg, hn, hL⟩ := hc
  have hA : ∀ q9 : Nat, s.heap.size ≤ q9 → lA s q9 := fun _ h => h
  have hbA : ¬ lA s b := Nat.not_le.mpr hbl
  have hP : va_P D vwCl ((wM r cI cZ cJ th k V C A T B P OR n PR ST li w WK so sp CT FW) ++ ((wX q cI cZ cJ k V C T B P A n PR ST li w WK so sp CT SC TA) ++ [(qo, .inl (cJ, 1, .inr (.inl O)))])) H := hP
  have hD : va_D (lA s) ((wM r cI cZ cJ th k V C A T B P OR n PR ST li w WK so sp CT FW) ++ ((wX q cI cZ cJ k V C T B P A n PR ST li w WK so sp CT SC TA) ++ [(qo, .inl (cJ, 1, .inr (.inl O)))])) := hD
  refine lv_aload_n hx hb dL_law_873 rfl (lv_at hl 3 rfl) ?_
  refine lv_aload_n hx hb dL_law_874 rfl (lv_at hl 1 rfl) ?_
  refine k3_i (mc := 1) (ms := 6) (wa := (wM r cI cZ cJ th k V C A T B P OR n PR ST li w WK so sp CT FW)) (wc := ((wX q cI cZ cJ k V C T B P A n PR ST li w WK so sp CT SC TA) ++ [(qo, .inl (cJ, 1, .inr (.inl O)))])) (wb := []) (vx_runSW (As := [.ref (q 0), .ref qo]) (rest := []) ⟨hx, hb, hml, hown, hts⟩ (c_L_refund l hst D q qo cI cZ cJ k V C T B P A n PR ST li w WK so sp CT SC TA O H.size  hI.hk8 hI.hV hI.hC hI.hVd hI.hn10 hI.hPR hI.hso) (vx_cwSW 2 hts gL_law_L_refund rfl rfl rfl hd_L_refund.2 ⟨(Nat.le_of_ble_eq_true rfl), (Nat.le_of_ble_eq_true rfl)⟩) (pre_N (wa := (wM r cI cZ cJ th k V C A T B P OR n PR ST li w WK so sp CT FW)) (wc := ((wX q cI cZ cJ k V C T B P A n PR ST li w WK so sp CT SC TA) ++ [(qo, .inl (cJ, 1, .inr (.inl O)))])) (wb := []) hP hK hD hS hA hZ hg hn) rfl rfl hl.1 rfl (lv_room (Nat.le_of_ble_eq_true rfl)) dL_law_875 ⟨(show (27 + 8 * jj) + 1 ≤ 601024 by omega), (show (20244 + 64 * jj) + 6 ≤ 7293034 by omega)⟩) hP hD hS hA (fun rr u H locs hp hP hD hS => ?_)
  rcases u with u | kk
  · replace hp : rr = nI 0 ∧ (so ≠ 4294967295 ∧ so < n ∧ refP k V T P ST so sp CT u.1 u.2.1 u.2.2.1 u.2.2.2.1 u.2.2.2.2.1 u.2.2.2.2.2.1) := hp
    obtain ⟨rfl, hp⟩ := hp
    have hP : va_P D vwCl ((wM r cI cZ cJ th k V C A T B P OR n PR ST li w WK so sp CT FW) ++ ((wX q cI cZ cJ k V C u.2.1 B u.2.2.1 A n PR u.2.2.2.1 li w WK u.2.2.2.2.1 sp u.2.2.2.2.2.1 u.2.2.2.2.2.2 TA) ++ [(qo, .inl (cJ, 1, .inr (.inl (vp_updL O 0 (lZ (((u.1 : Nat)) : Int))))))])) H := hP
    have hD : va_D (lA s) ((wM r cI cZ cJ th k V C A T B P OR n PR ST li w WK so sp CT FW) ++ ((wX q cI cZ cJ k V C u.2.1 B u.2.2.1 A n PR u.2.2.2.1 li w WK u.2.2.2.2.1 sp u.2.2.2.2.2.1 u.2.2.2.2.2.2 TA) ++ [(qo, .inl (cJ, 1, .inr (.inl (vp_updL O 0 (lZ (((u.1 : Nat)) : Int))))))])) := hD
    refine lv_istore (lv' := [(5, .int (nI 0)), (4, .int (nI (4 * jj))), (3, .ref qo), (2, .ref (r 0)), (1, .ref (q 0)), (0, .ref b)]) hx hb dL_law_878 hl (by decide) rfl (fun ls hl => ?_)
    refine lv_aload_n hx hb dL_law_880 rfl (lv_at hl 3 rfl) ?_
    refine k3_i (mc := 0) (ms := 0) (wa := []) (wc := (wM r cI cZ cJ th k V C A T B P OR n PR ST li w WK so sp CT FW)) (wb := ((wX q cI cZ cJ k V C u.2.1 B u.2.2.1 A n PR u.2.2.2.1 li w WK u.2.2.2.2.1 sp u.2.2.2.2.2.1 u.2.2.2.2.2.2 TA) ++ [(qo, .inl (cJ, 1, .inr (.inl (vp_updL O 0 (lZ (((u.1 : Nat)) : Int))))))])) (va_runV (As := []) (rest := []) ⟨hx, hb, hml, hown, hts⟩ (c_X1_refund l hst D r cI cZ cJ th k V C A T B P OR n PR ST li w WK so sp CT FW H.size  hI.hk8 hI.hV hI.hC hI.hOR hI.hn10 hI.hPR hI.hso) (cwV 0 hts gL_law_X1_refund rfl rfl rfl hd_X1_refund ⟨(Nat.le_of_ble_eq_true rfl), (Nat.le_of_ble_eq_true rfl)⟩) (pre_V3 (wa := []) (wc := (wM r cI cZ cJ th k V C A T B P OR n PR ST li w WK so sp CT FW)) (wb := ((wX q cI cZ cJ k V C u.2.1 B u.2.2.1 A n PR u.2.2.2.1 li w WK u.2.2.2.2.1 sp u.2.2.2.2.2.1 u.2.2.2.2.2.2 TA) ++ [(qo, .inl (cJ, 1, .inr (.inl (vp_updL O 0 (lZ (((u.1 : Nat)) : Int))))))])) hP hK hD hS hA hZ hg 0 (ci := 1) rfl rfl) rfl rfl hl.1 rfl (lv_room (Nat.le_of_ble_eq_true rfl)) dL_law_881 ⟨(show ((27 + 8 * jj) + 1) + 0 ≤ 601024 by omega), (show ((20244 + 64 * jj) + 6) + 0 ≤ 7293034 by omega)⟩) hP hD hS hA (fun rr u2 H locs hq hP hD hS => ?_)
    obtain ⟨v0, v1, v2, v3, v4, v5, v6, v7⟩ := u2
    replace hq : rr = nI v0 ∧ ((v1 = 1 ∧ so = 4294967295 ∧ v0 = 0 ∧ v2 = T ∧ v3 = P ∧ v4 = ST ∧ v5 = so ∧ v6 = CT) ∨ (v1 = 0 ∧ so ≠ 4294967295 ∧ so < n ∧ refP k V T P ST so sp CT v0 v2 v3 v4 v5 v6)) := hq
    obtain ⟨hr9, hq⟩ := hq
    replace hr9 := hr9.symm
    subst hr9
    have hP : va_P D vwCl ((wM r cI cZ cJ v1 k V C A v2 B v3 OR n PR v4 li w WK v5 sp v6 v7) ++ ((wX q cI cZ cJ k V C u.2.1 B u.2.2.1 A n PR u.2.2.2.1 li w WK u.2.2.2.2.1 sp u.2.2.2.2.2.1 u.2.2.2.2.2.2 TA) ++ [(qo, .inl (cJ, 1, .inr (.inl (vp_updL O 0 (lZ (((u.1 : Nat)) : Int))))))])) H := hP
    have hD : va_D (lA s) ((wM r cI cZ cJ v1 k V C A v2 B v3 OR n PR v4 li w WK v5 sp v6 v7) ++ ((wX q cI cZ cJ k V C u.2.1 B u.2.2.1 A n PR u.2.2.2.1 li w WK u.2.2.2.2.1 sp u.2.2.2.2.2.1 u.2.2.2.2.2.2 TA) ++ [(qo, .inl (cJ, 1, .inr (.inl (vp_updL O 0 (lZ (((u.1 : Nat)) : Int))))))])) := hD
    obtain ⟨e0, e1, f0, f1, f2, f3, f4⟩ := q_refund_0  hp hq
    have e0 := e0.symm
    subst e0
    have e1 := e1.symm
    subst e1
    have f0 := f0.symm
    subst f0
    have f1 := f1.symm
    subst f1
    have f2 := f2.symm
    subst f2
    have f3 := f3.symm
    subst f3
    have f4 := f4.symm
    subst f4
    have hI2 := iv_refund hI hp.2.1 hp.2.2
    refine lv_istore (lv' := [(6, .int (nI u.1)), (5, .int (nI 0)), (4, .int (nI (4 * jj))), (3, .ref qo), (2, .ref (r 0)), (1, .ref (q 0)), (0, .ref b)]) hx hb dL_law_884 hl (by decide) rfl (fun ls hl => ?_)
    refine lv_aload_n hx hb dL_law_886 rfl (lv_at hl 4 rfl) ?_
    refine k3_i (mc := 0) (ms := 0) (wa := []) (wc := (wM r cI cZ cJ 0 k V C A u.2.1 B u.2.2.1 OR n PR u.2.2.2.1 li w WK u.2.2.2.2.1 sp u.2.2.2.2.2.1 v7)) (wb := ((wX q cI cZ cJ k V C u.2.1 B u.2.2.1 A n PR u.2.2.2.1 li w WK u.2.2.2.2.1 sp u.2.2.2.2.2.1 u.2.2.2.2.2.2 TA) ++ [(qo, .inl (cJ, 1, .inr (.inl (vp_updL O 0 (lZ (((u.1 : Nat)) : Int))))))])) (va_runV (As := []) (rest := []) ⟨hx, hb, hml, hown, hts⟩ (c_X1_thrown l hst D r cI cZ cJ 0 k V C A u.2.1 B u.2.2.1 OR n PR u.2.2.2.1 li w WK u.2.2.2.2.1 sp u.2.2.2.2.2.1 v7 H.size  ) (cwV 0 hts gL_law_X1_thrown rfl rfl rfl hd_X1_thrown ⟨(Nat.le_of_ble_eq_true rfl), (Nat.le_of_ble_eq_true rfl)⟩) (pre_V3 (wa := []) (wc := (wM r cI cZ cJ 0 k V C A u.2.1 B u.2.2.1 OR n PR u.2.2.2.1 li w WK u.2.2.2.2.1 sp u.2.2.2.2.2.1 v7)) (wb := ((wX q cI cZ cJ k V C u.2.1 B u.2.2.1 A n PR u.2.2.2.1 li w WK u.2.2.2.2.1 sp u.2.2.2.2.2.1 u.2.2.2.2.2.2 TA) ++ [(qo, .inl (cJ, 1, .inr (.inl (vp_updL O 0 (lZ (((u.1 : Nat)) : Int))))))])) hP hK hD hS hA hZ hg 0 (ci := 1) rfl rfl) rfl rfl hl.1 rfl (lv_room (Nat.le_of_ble_eq_true rfl)) dL_law_887 ⟨(show (((27 + 8 * jj) + 1) + 0) + 0 ≤ 601024 by omega), (show (((20244 + 64 * jj) + 6) + 0) + 0 ≤ 7293034 by omega)⟩) hP hD hS hA (fun rr u2 H locs hq hP hD hS => ?_)
    replace hq : rr = nI 0 := hq
    subst hq
    have hP : va_P D vwCl ((wM r cI cZ cJ 0 k V C A u.2.1 B u.2.2.1 OR n PR u.2.2.2.1 li w WK u.2.2.2.2.1 sp u.2.2.2.2.2.1 v7) ++ ((wX q cI cZ cJ k V C u.2.1 B u.2.2.1 A n PR u.2.2.2.1 li w WK u.2.2.2.2.1 sp u.2.2.2.2.2.1 u.2.2.2.2.2.2 TA) ++ [(qo, .inl (cJ, 1, .inr (.inl (vp_updL O 0 (lZ (((u.1 : Nat)) : Int))))))])) H := hP
    have hD : va_D (lA s) ((wM r cI cZ cJ 0 k V C A u.2.1 B u.2.2.1 OR n PR u.2.2.2.1 li w WK u.2.2.2.2.1 sp u.2.2.2.2.2.1 v7) ++ ((wX q cI cZ cJ k V C u.2.1 B u.2.2.1 A n PR u.2.2.2.1 li w WK u.2.2.2.2.1 sp u.2.2.2.2.2.1 u.2.2.2.2.2.2 TA) ++ [(qo, .inl (cJ, 1, .inr (.inl (vp_updL O 0 (lZ (((u.1 : Nat)) : Int))))))])) := hD
    refine lv_iload hx hb dL_law_890 (lv_at hl 1 rfl) ?_
    refine lv_icmp_eq (tgt := 897) hx hb dL_law_892 (by decide) (fun _ => ?_) (fun h => absurd rfl h)
    refine lv_iload hx hb dL_law_897 (lv_at hl 1 rfl) ?_
    refine n_if_ne (tgt := 921) hx hb (by decide) dL_law_899 (by decide) (fun c899 => ?_) (fun c899 => ?_)
    · exact absurd c899 (by decide)
    · refine lv_aload_n hx hb dL_law_902 rfl (lv_at hl 3 rfl) ?_
      refine lv_iconst (v := nI 0) hx hb dL_law_903 (ic_0) ?_
      refine n_lald hx hb hK hP 26 2 rfl rfl (by decide) (by decide) dL_law_904 ?_
      refine n_topl (show (vp_updL O 0 (lZ (((u.1 : Nat)) : Int))) 0 = lZ (((u.1 : Nat)) : Int) from updL_s) ?_
      refine lv_iload hx hb dL_law_905 (lv_at hl 0 rfl) ?_
      have hbd : u.1 ≤ 1 := by rcases hp.2.2 with h | h <;> omega
      refine n_if_eq (tgt := 914) hx hb (by omega) dL_law_907 (by decide) (fun cq => ?_) (fun cq => ?_)
      · have cq : u.1 = 0 := by omega
        refine lv_lconst (v := lZ 0) hx hb dL_law_914 (by decide) ?_
        refine n_topl (show lZ 0 = lZ (((u.1 : Nat)) : Int) from by rw [cq]; rfl) ?_
        refine n_lcmp_eq (tgt := 921) hx hb dL_law_915 dL_law_916 (by decide) (fun _ => ?_) (fun h => absurd rfl h)
        refine lv_goto (tgt := 1433) hx hb dL_law_921 (by decide) ?_
        refine W.widen (k := 27 + 8 * (jj + 1)) (n := 20244 + 64 * (jj + 1)) (by omega) (by omega) ?_
        exact hN 0 k V C u.2.1 B u.2.2.1 A OR n PR u.2.2.2.1 li w WK u.2.2.2.2.1 sp u.2.2.2.2.2.1 u.2.2.2.2.2.2 TA v7 (vp_updL O 0 (lZ (((u.1 : Nat)) : Int))) _ _ hI2 hP hD hS ls (lv_sub hl [2, 3, 4, 5, 6] rfl)
      · have cq : u.1 = 1 := by omega
        refine lv_lconst (v := lZ 1) hx hb dL_law_910 (by decide) ?_
        refine n_topl (show lZ 1 = lZ (((u.1 : Nat)) : Int) from by rw [cq]; rfl) ?_
        refine lv_goto (tgt := 915) hx hb dL_law_911 (by decide) ?_
        refine n_lcmp_eq (tgt := 921) hx hb dL_law_915 dL_law_916 (by decide) (fun _ => ?_) (fun h => absurd rfl h)
        refine lv_goto (tgt := 1433) hx hb dL_law_921 (by decide) ?_
        refine W.widen (k := 27 + 8 * (jj + 1)) (n := 20244 + 64 * (jj + 1)) (by omega) (by omega) ?_
        exact hN 0 k V C u.2.1 B u.2.2.1 A OR n PR u.2.2.2.1 li w WK u.2.2.2.2.1 sp u.2.2.2.2.2.1 u.2.2.2.2.2.2 TA v7 (vp_updL O 0 (lZ (((u.1 : Nat)) : Int))) _ _ hI2 hP hD hS ls (lv_sub hl [2, 3, 4, 5, 6] rfl)
  · replace hp : rr = nI kk ∧ ((kk = 1 ∧ (so = 4294967295))) := hp
    obtain ⟨rfl, hp⟩ := hp
    have hP : va_P D vwCl ((wM r cI cZ cJ th k V C A T B P OR n PR ST li w WK so sp CT FW) ++ ((wX q cI cZ cJ k V C T B P A n PR ST li w WK so sp CT SC TA) ++ [(qo, .inl (cJ, 1, .inr (.inl O)))])) H := hP
    have hD : va_D (lA s) ((wM r cI cZ cJ th k V C A T B P OR n PR ST li w WK so sp CT FW) ++ ((wX q cI cZ cJ k V C T B P A n PR ST li w WK so sp CT SC TA) ++ [(qo, .inl (cJ, 1, .inr (.inl O)))])) := hD
    obtain ⟨rfl, hp⟩ := hp
    refine lv_istore (lv' := [(5, .int (nI 1)), (4, .int (nI (4 * jj))), (3, .ref qo), (2, .ref (r 0)), (1, .ref (q 0)), (0, .ref b)]) hx hb dL_law_878 hl (by decide) rfl (fun ls hl => ?_)
    refine lv_aload_n hx hb dL_law_880 rfl (lv_at hl 3 rfl) ?_
    refine k3_i (mc := 0) (ms := 0) (wa := []) (wc := (wM r cI cZ cJ th k V C A T B P OR n PR ST li w WK so sp CT FW)) (wb := ((wX q cI cZ cJ k V C T B P A n PR ST li w WK so sp CT SC TA) ++ [(qo, .inl (cJ, 1, .inr (.inl O)))])) (va_runV (As := []) (rest := []) ⟨hx, hb, hml, hown, hts⟩ (c_X1_refund l hst D r cI cZ cJ th k V C A T B P OR n PR ST li w WK so sp CT FW H.size  hI.hk8 hI.hV hI.hC hI.hOR hI.hn10 hI.hPR hI.hso) (cwV 0 hts gL_law_X1_refund rfl rfl rfl hd_X1_refund ⟨(Nat.le_of_ble_eq_true rfl), (Nat.le_of_ble_eq_true rfl)⟩) (pre_V3 (wa := []) (wc := (wM r cI cZ cJ th k V C A T B P OR n PR ST li w WK so sp CT FW)) (wb := ((wX q cI cZ cJ k V C T B P A n PR ST li w WK so sp CT SC TA) ++ [(qo, .inl (cJ, 1, .inr (.inl O)))])) hP hK hD hS hA hZ hg 0 (ci := 1) rfl rfl) rfl rfl hl.1 rfl (lv_room (Nat.le_of_ble_eq_true rfl)) dL_law_881 ⟨(show ((27 + 8 * jj) + 1) + 0 ≤ 601024 by omega), (show ((20244 + 64 * jj) + 6) + 0 ≤ 7293034 by omega)⟩) hP hD hS hA (fun rr u2 H locs hq hP hD hS => ?_)
    obtain ⟨v0, v1, v2, v3, v4, v5, v6, v7⟩ := u2
    replace hq : rr = nI v0 ∧ ((v1 = 1 ∧ so = 4294967295 ∧ v0 = 0 ∧ v2 = T ∧ v3 = P ∧ v4 = ST ∧ v5 = so ∧ v6 = CT) ∨ (v1 = 0 ∧ so ≠ 4294967295 ∧ so < n ∧ refP k V T P ST so sp CT v0 v2 v3 v4 v5 v6)) := hq
    obtain ⟨hr9, hq⟩ := hq
    replace hr9 := hr9.symm
    subst hr9
    have hP : va_P D vwCl ((wM r cI cZ cJ v1 k V C A v2 B v3 OR n PR v4 li w WK v5 sp v6 v7) ++ ((wX q cI cZ cJ k V C T B P A n PR ST li w WK so sp CT SC TA) ++ [(qo, .inl (cJ, 1, .inr (.inl O)))])) H := hP
    have hD : va_D (lA s) ((wM r cI cZ cJ v1 k V C A v2 B v3 OR n PR v4 li w WK v5 sp v6 v7) ++ ((wX q cI cZ cJ k V C T B P A n PR ST li w WK so sp CT SC TA) ++ [(qo, .inl (cJ, 1, .inr (.inl O)))])) := hD
    obtain ⟨e0, f0, f1, f2, f3, f4⟩ := q_refund_1  hp hq
    have e0 := e0.symm
    subst e0
    have f0 := f0.symm
    subst f0
    have f1 := f1.symm
    subst f1
    have f2 := f2.symm
    subst f2
    have f3 := f3.symm
    subst f3
    have f4 := f4.symm
    subst f4
    refine lv_istore (lv' := [(6, .int (nI v0)), (5, .int (nI 1)), (4, .int (nI (4 * jj))), (3, .ref qo), (2, .ref (r 0)), (1, .ref (q 0)), (0, .ref b)]) hx hb dL_law_884 hl (by decide) rfl (fun ls hl => ?_)
    refine lv_aload_n hx hb dL_law_886 rfl (lv_at hl 4 rfl) ?_
    refine k3_i (mc := 0) (ms := 0) (wa := []) (wc := (wM r cI cZ cJ 1 k V C A T B P OR n PR ST li w WK so sp CT v7)) (wb := ((wX q cI cZ cJ k V C T B P A n PR ST li w WK so sp CT SC TA) ++ [(qo, .inl (cJ, 1, .inr (.inl O)))])) (va_runV (As := []) (rest := []) ⟨hx, hb, hml, hown, hts⟩ (c_X1_thrown l hst D r cI cZ cJ 1 k V C A T B P OR n PR ST li w WK so sp CT v7 H.size  ) (cwV 0 hts gL_law_X1_thrown rfl rfl rfl hd_X1_thrown ⟨(Nat.le_of_ble_eq_true rfl), (Nat.le_of_ble_eq_true rfl)⟩) (pre_V3 (wa := []) (wc := (wM r cI cZ cJ 1 k V C A T B P OR n PR ST li w WK so sp CT v7)) (wb := ((wX q cI cZ cJ k V C T B P A n PR ST li w WK so sp CT SC TA) ++ [(qo, .inl (cJ, 1, .inr (.inl O)))])) hP hK hD hS hA hZ hg 0 (ci := 1) rfl rfl) rfl rfl hl.1 rfl (lv_room (Nat.le_of_ble_eq_true rfl)) dL_law_887 ⟨(show (((27 + 8 * jj) + 1) + 0) + 0 ≤ 601024 by omega), (show (((20244 + 64 * jj) + 6) + 0) + 0 ≤ 7293034 by omega)⟩) hP hD hS hA (fun rr u2 H locs hq hP hD hS => ?_)
    replace hq : rr = nI 1 := hq
    subst hq
    have hP : va_P D vwCl ((wM r cI cZ cJ 1 k V C A T B P OR n PR ST li w WK so sp CT v7) ++ ((wX q cI cZ cJ k V C T B P A n PR ST li w WK so sp CT SC TA) ++ [(qo, .inl (cJ, 1, .inr (.inl O)))])) H := hP
    have hD : va_D (lA s) ((wM r cI cZ cJ 1 k V C A T B P OR n PR ST li w WK so sp CT v7) ++ ((wX q cI cZ cJ k V C T B P A n PR ST li w WK so sp CT SC TA) ++ [(qo, .inl (cJ, 1, .inr (.inl O)))])) := hD
    refine lv_iload hx hb dL_law_890 (lv_at hl 1 rfl) ?_
    refine lv_icmp_eq (tgt := 897) hx hb dL_law_892 (by decide) (fun _ => ?_) (fun h => absurd rfl h)
    refine lv_iload hx hb dL_law_897 (lv_at hl 1 rfl) ?_
    refine n_if_ne (tgt := 921) hx hb (by decide) dL_law_899 (by decide) (fun c899 => ?_) (fun c899 => ?_)
    · refine lv_goto (tgt := 1433) hx hb dL_law_921 (by decide) ?_
      refine W.widen (k := 27 + 8 * (jj + 1)) (n := 20244 + 64 * (jj + 1)) (by omega) (by omega) ?_
      exact hN 1 k V C T B P A OR n PR ST li w WK so sp CT SC TA v7 O _ _ hI hP hD hS ls (lv_sub hl [2, 3, 4, 5, 6] rfl)
    · exact absurd c899 (by decide)

set_option maxHeartbeats 8000000 in
set_option maxRecDepth 100000 in
theorem lw_escrow (hst : l.stackTraces = false) (hc : Lc p s m meth c b L xs D cI cZ cJ) {r q : Nat → Nat} {qo jj : Nat} (hj : 4 * jj + 4 ≤ L) {th : Nat} {k : Nat} {V : Nat → Nat} {C : Nat → Nat} {T : Nat → Nat} {B : Nat → Nat} {P : Nat → Nat} {A : Nat → Nat} {OR : Nat → Nat} {n : Nat} {PR : Nat → Nat} {ST : Nat → Nat} {li : Nat} {w : Nat} {WK : Nat → Nat} {so : Nat} {sp : Nat} {CT : Nat → Int64} {SC : Nat → Int} {TA : Nat → Nat} {FW : Nat → Nat} {O : Nat → Int64} {H : Heap} {locs : List Loc} (hI : IV k V C T A OR n PR ST li w WK so sp) (hP : va_P D vwCl (wL r q qo cI cZ cJ th k V C T B P A OR n PR ST li w WK so sp CT SC TA FW O) H) (hD : va_D (lA s) (wL r q qo cI cZ cJ th k V C T B P A OR n PR ST li w WK so sp CT SC TA FW O)) (hS : va_S (lA s) s.heap H locs) {ls : Array Slot} (hl : lv_has ls 9 [(4, .int (nI (4 * jj))), (3, .ref qo), (2, .ref (r 0)), (1, .ref (q 0)), (0, .ref b)]) (hN : Nx p l e s m below meth c b D r q qo cI cZ cJ Q jj) : W p l e room_1 s m #[Value.ref b] below meth c H locs (27 + 8 * jj) (20244 + 64 * jj) Q (F0 m 937 ls []) := by
  obtain ⟨hx, hb, hr, hml, hown, hts, hX, hbl, hlocks, hK, hZ, hg, hn, hL⟩ := hc
  have hA : ∀ q9 : Nat, s.heap.size ≤ q9 → lA s q9 := fun _ h => h
  have hbA : ¬ lA s b := Nat.not_le.mpr hbl
  have hP : va_P D vwCl ((wM r cI cZ cJ th k V C A T B P OR n PR ST li w WK so sp CT FW) ++ ((wX q cI cZ cJ k V C T B P A n PR ST li w WK so sp CT SC TA) ++ [(qo, .inl (cJ, 1, .inr (.inl O)))])) H := hP
  have hD : va_D (lA s) ((wM r cI cZ cJ th k V C A T B P OR n PR ST li w WK so sp CT FW) ++ ((wX q cI cZ cJ k V C T B P A n PR ST li w WK so sp CT SC TA) ++ [(qo, .inl (cJ, 1, .inr (.inl O)))])) := hD
  refine lv_aload_n hx hb dL_law_937 rfl (lv_at hl 3 rfl) ?_
  refine lv_aload_n hx hb dL_law_938 rfl (lv_at hl 4 rfl) ?_
  refine lv_iload hx hb dL_law_939 (lv_at hl 0 rfl) ?_
  refine lv_iconst (v := nI 1) hx hb dL_law_941 (ic_1) ?_
  refine n_iadd hx hb dL_law_942 ?_
  refine n_sld hx hb hX hbl hbA hS (by omega) (by omega) dL_law_943 ?_
  refine lv_aload_n hx hb dL_law_944 rfl (lv_at hl 1 rfl) ?_
  refine k3_i (mc := 1) (ms := 6) (wa := (wM r cI cZ cJ th k V C A T B P OR n PR ST li w WK so sp CT FW)) (wc := ((wX q cI cZ cJ k V C T B P A n PR ST li w WK so sp CT SC TA) ++ [(qo, .inl (cJ, 1, .inr (.inl O)))])) (wb := []) (vx_runSW (As := [.ref (q 0), .int (xs ((4 * jj) + 1)), .ref qo]) (rest := []) ⟨hx, hb, hml, hown, hts⟩ (c_L_escrow l hst D q qo cI cZ cJ k V C T B P A n PR ST li w WK so sp CT SC TA O H.size (xs ((4 * jj) + 1)) hI.hw12) (vx_cwSW 3 hts gL_law_L_escrow rfl rfl rfl hd_L_escrow.2 ⟨(Nat.le_of_ble_eq_true rfl), (Nat.le_of_ble_eq_true rfl)⟩) (pre_N (wa := (wM r cI cZ cJ th k V C A T B P OR n PR ST li w WK so sp CT FW)) (wc := ((wX q cI cZ cJ k V C T B P A n PR ST li w WK so sp CT SC TA) ++ [(qo, .inl (cJ, 1, .inr (.inl O)))])) (wb := []) hP hK hD hS hA hZ hg hn) rfl rfl hl.1 rfl (lv_room (Nat.le_of_ble_eq_true rfl)) dL_law_945 ⟨(show (27 + 8 * jj) + 1 ≤ 601024 by omega), (show (20244 + 64 * jj) + 6 ≤ 7293034 by omega)⟩) hP hD hS hA (fun rr u H locs hp hP hD hS => ?_)
  rcases u with u | kk
  · replace hp : rr = nI 0 ∧ (u < w ∧ (xs ((4 * jj) + 1)) = nI u) := hp
    obtain ⟨rfl, hp⟩ := hp
    have hP : va_P D vwCl ((wM r cI cZ cJ th k V C A T B P OR n PR ST li w WK so sp CT FW) ++ ((wX q cI cZ cJ k V C T B P A n PR ST li w WK so sp CT SC TA) ++ [(qo, .inl (cJ, 1, .inr (.inl (vp_updL O 0 ((nI (WK u)).toInt64)))))])) H := hP
    have hD : va_D (lA s) ((wM r cI cZ cJ th k V C A T B P OR n PR ST li w WK so sp CT FW) ++ ((wX q cI cZ cJ k V C T B P A n PR ST li w WK so sp CT SC TA) ++ [(qo, .inl (cJ, 1, .inr (.inl (vp_updL O 0 ((nI (WK u)).toInt64)))))])) := hD
    refine lv_istore (lv' := [(5, .int (nI 0)), (4, .int (nI (4 * jj))), (3, .ref qo), (2, .ref (r 0)), (1, .ref (q 0)), (0, .ref b)]) hx hb dL_law_948 hl (by decide) rfl (fun ls hl => ?_)
    refine lv_aload_n hx hb dL_law_950 rfl (lv_at hl 3 rfl) ?_
    refine lv_aload_n hx hb dL_law_951 rfl (lv_at hl 5 rfl) ?_
    refine lv_iload hx hb dL_law_952 (lv_at hl 1 rfl) ?_
    refine lv_iconst (v := nI 1) hx hb dL_law_954 (ic_1) ?_
    refine n_iadd hx hb dL_law_955 ?_
    refine n_sld hx hb hX hbl hbA hS (by omega) (by omega) dL_law_956 ?_
    refine k3_i (mc := 0) (ms := 0) (wa := []) (wc := (wM r cI cZ cJ th k V C A T B P OR n PR ST li w WK so sp CT FW)) (wb := ((wX q cI cZ cJ k V C T B P A n PR ST li w WK so sp CT SC TA) ++ [(qo, .inl (cJ, 1, .inr (.inl (vp_updL O 0 ((nI (WK u)).toInt64)))))])) (va_runV (As := [.int (xs ((4 * jj) + 1))]) (rest := []) ⟨hx, hb, hml, hown, hts⟩ (c_X1_escrow l hst D r cI cZ cJ th k V C A T B P OR n PR ST li w WK so sp CT FW H.size (xs ((4 * jj) + 1)) hI.hw12) (cwV 1 hts gL_law_X1_escrow rfl rfl rfl hd_X1_escrow ⟨(Nat.le_of_ble_eq_true rfl), (Nat.le_of_ble_eq_true rfl)⟩) (pre_V3 (wa := []) (wc := (wM r cI cZ cJ th k V C A T B P OR n PR ST li w WK so sp CT FW)) (wb := ((wX q cI cZ cJ k V C T B P A n PR ST li w WK so sp CT SC TA) ++ [(qo, .inl (cJ, 1, .inr (.inl (vp_updL O 0 ((nI (WK u)).toInt64)))))])) hP hK hD hS hA hZ hg 0 (ci := 1) rfl rfl) rfl rfl hl.1 rfl (lv_room (Nat.le_of_ble_eq_true rfl)) dL_law_957 ⟨(show ((27 + 8 * jj) + 1) + 0 ≤ 601024 by omega), (show ((20244 + 64 * jj) + 6) + 0 ≤ 7293034 by omega)⟩) hP hD hS hA (fun rr u2 H locs hq hP hD hS => ?_)
    obtain ⟨v0, v1⟩ := u2
    replace hq : rr = nI v0 ∧ ((v1 = 0 ∧ ∃ i, i < w ∧ (xs ((4 * jj) + 1)) = nI i ∧ v0 = WK i) ∨ (v1 = 1 ∧ ¬ rg (xs ((4 * jj) + 1)) 0 w)) := hq
    obtain ⟨hr9, hq⟩ := hq
    replace hr9 := hr9.symm
    subst hr9
    have hP : va_P D vwCl ((wM r cI cZ cJ v1 k V C A T B P OR n PR ST li w WK so sp CT FW) ++ ((wX q cI cZ cJ k V C T B P A n PR ST li w WK so sp CT SC TA) ++ [(qo, .inl (cJ, 1, .inr (.inl (vp_updL O 0 ((nI (WK u)).toInt64)))))])) H := hP
    have hD : va_D (lA s) ((wM r cI cZ cJ v1 k V C A T B P OR n PR ST li w WK so sp CT FW) ++ ((wX q cI cZ cJ k V C T B P A n PR ST li w WK so sp CT SC TA) ++ [(qo, .inl (cJ, 1, .inr (.inl (vp_updL O 0 ((nI (WK u)).toInt64)))))])) := hD
    obtain ⟨e0, e1⟩ := q_escrow_0 hI.hw12 hp hq
    have e0 := e0.symm
    subst e0
    have e1 := e1.symm
    subst e1
    refine lv_istore (lv' := [(6, .int (nI (WK u))), (5, .int (nI 0)), (4, .int (nI (4 * jj))), (3, .ref qo), (2, .ref (r 0)), (1, .ref (q 0)), (0, .ref b)]) hx hb dL_law_960 hl (by decide) rfl (fun ls hl => ?_)
    refine lv_aload_n hx hb dL_law_962 rfl (lv_at hl 4 rfl) ?_
    refine k3_i (mc := 0) (ms := 0) (wa := []) (wc := (wM r cI cZ cJ 0 k V C A T B P OR n PR ST li w WK so sp CT FW)) (wb := ((wX q cI cZ cJ k V C T B P A n PR ST li w WK so sp CT SC TA) ++ [(qo, .inl (cJ, 1, .inr (.inl (vp_updL O 0 ((nI (WK u)).toInt64)))))])) (va_runV (As := []) (rest := []) ⟨hx, hb, hml, hown, hts⟩ (c_X1_thrown l hst D r cI cZ cJ 0 k V C A T B P OR n PR ST li w WK so sp CT FW H.size  ) (cwV 0 hts gL_law_X1_thrown rfl rfl rfl hd_X1_thrown ⟨(Nat.le_of_ble_eq_true rfl), (Nat.le_of_ble_eq_true rfl)⟩) (pre_V3 (wa := []) (wc := (wM r cI cZ cJ 0 k V C A T B P OR n PR ST li w WK so sp CT FW)) (wb := ((wX q cI cZ cJ k V C T B P A n PR ST li w WK so sp CT SC TA) ++ [(qo, .inl (cJ, 1, .inr (.inl (vp_updL O 0 ((nI (WK u)).toInt64)))))])) hP hK hD hS hA hZ hg 0 (ci := 1) rfl rfl) rfl rfl hl.1 rfl (lv_room (Nat.le_of_ble_eq_true rfl)) dL_law_963 ⟨(show (((27 + 8 * jj) + 1) + 0) + 0 ≤ 601024 by omega), (show (((20244 + 64 * jj) + 6) + 0) + 0 ≤ 7293034 by omega)⟩) hP hD hS hA (fun rr u2 H locs hq hP hD hS => ?_)
    replace hq : rr = nI 0 := hq
    subst hq
    have hP : va_P D vwCl ((wM r cI cZ cJ 0 k V C A T B P OR n PR ST li w WK so sp CT FW) ++ ((wX q cI cZ cJ k V C T B P A n PR ST li w WK so sp CT SC TA) ++ [(qo, .inl (cJ, 1, .inr (.inl (vp_updL O 0 ((nI (WK u)).toInt64)))))])) H := hP
    have hD : va_D (lA s) ((wM r cI cZ cJ 0 k V C A T B P OR n PR ST li w WK so sp CT FW) ++ ((wX q cI cZ cJ k V C T B P A n PR ST li w WK so sp CT SC TA) ++ [(qo, .inl (cJ, 1, .inr (.inl (vp_updL O 0 ((nI (WK u)).toInt64)))))])) := hD
    refine lv_iload hx hb dL_law_966 (lv_at hl 1 rfl) ?_
    refine lv_icmp_eq (tgt := 973) hx hb dL_law_968 (by decide) (fun _ => ?_) (fun h => absurd rfl h)
    refine lv_iload hx hb dL_law_973 (lv_at hl 1 rfl) ?_
    refine n_if_ne (tgt := 990) hx hb (by decide) dL_law_975 (by decide) (fun c975 => ?_) (fun c975 => ?_)
    · exact absurd c975 (by decide)
    · refine lv_aload_n hx hb dL_law_978 rfl (lv_at hl 3 rfl) ?_
      refine lv_iconst (v := nI 0) hx hb dL_law_979 (ic_0) ?_
      refine n_lald hx hb hK hP 26 2 rfl rfl (by decide) (by decide) dL_law_980 ?_
      refine n_topl (show (vp_updL O 0 ((nI (WK u)).toInt64)) 0 = (nI (WK u)).toInt64 from updL_s) ?_
      refine lv_iload hx hb dL_law_981 (lv_at hl 0 rfl) ?_
      refine lv_i2l hx hb dL_law_983 rfl ?_
      refine n_lcmp_eq (tgt := 990) hx hb dL_law_984 dL_law_985 (by decide) (fun _ => ?_) (fun h => absurd rfl h)
      refine lv_goto (tgt := 1433) hx hb dL_law_990 (by decide) ?_
      refine W.widen (k := 27 + 8 * (jj + 1)) (n := 20244 + 64 * (jj + 1)) (by omega) (by omega) ?_
      exact hN 0 k V C T B P A OR n PR ST li w WK so sp CT SC TA FW (vp_updL O 0 ((nI (WK u)).toInt64)) _ _ hI hP hD hS ls (lv_sub hl [2, 3, 4, 5, 6] rfl)
  · replace hp : rr = nI kk ∧ ((kk = 1 ∧ (¬ rg (xs ((4 * jj) + 1)) 0 w))) := hp
    obtain ⟨rfl, hp⟩ := hp
    have hP : va_P D vwCl ((wM r cI cZ cJ th k V C A T B P OR n PR ST li w WK so sp CT FW) ++ ((wX q cI cZ cJ k V C T B P A n PR ST li w WK so sp CT SC TA) ++ [(qo, .inl (cJ, 1, .inr (.inl O)))])) H := hP
    have hD : va_D (lA s) ((wM r cI cZ cJ th k V C A T B P OR n PR ST li w WK so sp CT FW) ++ ((wX q cI cZ cJ k V C T B P A n PR ST li w WK so sp CT SC TA) ++ [(qo, .inl (cJ, 1, .inr (.inl O)))])) := hD
    obtain ⟨rfl, hp⟩ := hp
    refine lv_istore (lv' := [(5, .int (nI 1)), (4, .int (nI (4 * jj))), (3, .ref qo), (2, .ref (r 0)), (1, .ref (q 0)), (0, .ref b)]) hx hb dL_law_948 hl (by decide) rfl (fun ls hl => ?_)
    refine lv_aload_n hx hb dL_law_950 rfl (lv_at hl 3 rfl) ?_
    refine lv_aload_n hx hb dL_law_951 rfl (lv_at hl 5 rfl) ?_
    refine lv_iload hx hb dL_law_952 (lv_at hl 1 rfl) ?_
    refine lv_iconst (v := nI 1) hx hb dL_law_954 (ic_1) ?_
    refine n_iadd hx hb dL_law_955 ?_
    refine n_sld hx hb hX hbl hbA hS (by omega) (by omega) dL_law_956 ?_
    refine k3_i (mc := 0) (ms := 0) (wa := []) (wc := (wM r cI cZ cJ th k V C A T B P OR n PR ST li w WK so sp CT FW)) (wb := ((wX q cI cZ cJ k V C T B P A n PR ST li w WK so sp CT SC TA) ++ [(qo, .inl (cJ, 1, .inr (.inl O)))])) (va_runV (As := [.int (xs ((4 * jj) + 1))]) (rest := []) ⟨hx, hb, hml, hown, hts⟩ (c_X1_escrow l hst D r cI cZ cJ th k V C A T B P OR n PR ST li w WK so sp CT FW H.size (xs ((4 * jj) + 1)) hI.hw12) (cwV 1 hts gL_law_X1_escrow rfl rfl rfl hd_X1_escrow ⟨(Nat.le_of_ble_eq_true rfl), (Nat.le_of_ble_eq_true rfl)⟩) (pre_V3 (wa := []) (wc := (wM r cI cZ cJ th k V C A T B P OR n PR ST li w WK so sp CT FW)) (wb := ((wX q cI cZ cJ k V C T B P A n PR ST li w WK so sp CT SC TA) ++ [(qo, .inl (cJ, 1, .inr (.inl O)))])) hP hK hD hS hA hZ hg 0 (ci := 1) rfl rfl) rfl rfl hl.1 rfl (lv_room (Nat.le_of_ble_eq_true rfl)) dL_law_957 ⟨(show ((27 + 8 * jj) + 1) + 0 ≤ 601024 by omega), (show ((20244 + 64 * jj) + 6) + 0 ≤ 7293034 by omega)⟩) hP hD hS hA (fun rr u2 H locs hq hP hD hS => ?_)
    obtain ⟨v0, v1⟩ := u2
    replace hq : rr = nI v0 ∧ ((v1 = 0 ∧ ∃ i, i < w ∧ (xs ((4 * jj) + 1)) = nI i ∧ v0 = WK i) ∨ (v1 = 1 ∧ ¬ rg (xs ((4 * jj) + 1)) 0 w)) := hq
    obtain ⟨hr9, hq⟩ := hq
    replace hr9 := hr9.symm
    subst hr9
    have hP : va_P D vwCl ((wM r cI cZ cJ v1 k V C A T B P OR n PR ST li w WK so sp CT FW) ++ ((wX q cI cZ cJ k V C T B P A n PR ST li w WK so sp CT SC TA) ++ [(qo, .inl (cJ, 1, .inr (.inl O)))])) H := hP
    have hD : va_D (lA s) ((wM r cI cZ cJ v1 k V C A T B P OR n PR ST li w WK so sp CT FW) ++ ((wX q cI cZ cJ k V C T B P A n PR ST li w WK so sp CT SC TA) ++ [(qo, .inl (cJ, 1, .inr (.inl O)))])) := hD
    have e0 := q_escrow_1 hI.hw12 hp hq
    have e0 := e0.symm
    subst e0
    refine lv_istore (lv' := [(6, .int (nI v0)), (5, .int (nI 1)), (4, .int (nI (4 * jj))), (3, .ref qo), (2, .ref (r 0)), (1, .ref (q 0)), (0, .ref b)]) hx hb dL_law_960 hl (by decide) rfl (fun ls hl => ?_)
    refine lv_aload_n hx hb dL_law_962 rfl (lv_at hl 4 rfl) ?_
    refine k3_i (mc := 0) (ms := 0) (wa := []) (wc := (wM r cI cZ cJ 1 k V C A T B P OR n PR ST li w WK so sp CT FW)) (wb := ((wX q cI cZ cJ k V C T B P A n PR ST li w WK so sp CT SC TA) ++ [(qo, .inl (cJ, 1, .inr (.inl O)))])) (va_runV (As := []) (rest := []) ⟨hx, hb, hml, hown, hts⟩ (c_X1_thrown l hst D r cI cZ cJ 1 k V C A T B P OR n PR ST li w WK so sp CT FW H.size  ) (cwV 0 hts gL_law_X1_thrown rfl rfl rfl hd_X1_thrown ⟨(Nat.le_of_ble_eq_true rfl), (Nat.le_of_ble_eq_true rfl)⟩) (pre_V3 (wa := []) (wc := (wM r cI cZ cJ 1 k V C A T B P OR n PR ST li w WK so sp CT FW)) (wb := ((wX q cI cZ cJ k V C T B P A n PR ST li w WK so sp CT SC TA) ++ [(qo, .inl (cJ, 1, .inr (.inl O)))])) hP hK hD hS hA hZ hg 0 (ci := 1) rfl rfl) rfl rfl hl.1 rfl (lv_room (Nat.le_of_ble_eq_true rfl)) dL_law_963 ⟨(show (((27 + 8 * jj) + 1) + 0) + 0 ≤ 601024 by omega), (show (((20244 + 64 * jj) + 6) + 0) + 0 ≤ 7293034 by omega)⟩) hP hD hS hA (fun rr u2 H locs hq hP hD hS => ?_)
    replace hq : rr = nI 1 := hq
    subst hq
    have hP : va_P D vwCl ((wM r cI cZ cJ 1 k V C A T B P OR n PR ST li w WK so sp CT FW) ++ ((wX q cI cZ cJ k V C T B P A n PR ST li w WK so sp CT SC TA) ++ [(qo, .inl (cJ, 1, .inr (.inl O)))])) H := hP
    have hD : va_D (lA s) ((wM r cI cZ cJ 1 k V C A T B P OR n PR ST li w WK so sp CT FW) ++ ((wX q cI cZ cJ k V C T B P A n PR ST li w WK so sp CT SC TA) ++ [(qo, .inl (cJ, 1, .inr (.inl O)))])) := hD
    refine lv_iload hx hb dL_law_966 (lv_at hl 1 rfl) ?_
    refine lv_icmp_eq (tgt := 973) hx hb dL_law_968 (by decide) (fun _ => ?_) (fun h => absurd rfl h)
    refine lv_iload hx hb dL_law_973 (lv_at hl 1 rfl) ?_
    refine n_if_ne (tgt := 990) hx hb (by decide) dL_law_975 (by decide) (fun c975 => ?_) (fun c975 => ?_)
    · refine lv_goto (tgt := 1433) hx hb dL_law_990 (by decide) ?_
      refine W.widen (k := 27 + 8 * (jj + 1)) (n := 20244 + 64 * (jj + 1)) (by omega) (by omega) ?_
      exact hN 1 k V C T B P A OR n PR ST li w WK so sp CT SC TA FW O _ _ hI hP hD hS ls (lv_sub hl [2, 3, 4, 5, 6] rfl)
    · exact absurd c975 (by decide)

end LW
