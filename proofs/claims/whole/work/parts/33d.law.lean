section LW
variable {p : Program} {l : Launch} {e : Env} {s : State} {m : MethodId} {below : List Frame} {meth : Method} {c : Code} {b L : Nat} {xs : Nat → Int32} {D : va_G} {cI cZ cJ : ClassId} {Q : State → Prop}

set_option maxHeartbeats 8000000 in
set_option maxRecDepth 100000 in
theorem lw_coins (hst : l.stackTraces = false) (hc : Lc p s m meth c b L xs D cI cZ cJ) {r q : Nat → Nat} {qo jj : Nat} (hj : 4 * jj + 4 ≤ L) {th : Nat} {k : Nat} {V : Nat → Nat} {C : Nat → Nat} {T : Nat → Nat} {B : Nat → Nat} {P : Nat → Nat} {A : Nat → Nat} {OR : Nat → Nat} {n : Nat} {PR : Nat → Nat} {ST : Nat → Nat} {li : Nat} {w : Nat} {WK : Nat → Nat} {so : Nat} {sp : Nat} {CT : Nat → Int64} {SC : Nat → Int} {TA : Nat → Nat} {FW : Nat → Nat} {O : Nat → Int64} {H : Heap} {locs : List Loc} (hI : IV k V C T A OR n PR ST li w WK so sp) (hP : va_P D vwCl (wL r q qo cI cZ cJ th k V C T B P A OR n PR ST li w WK so sp CT SC TA FW O) H) (hD : va_D (lA s) (wL r q qo cI cZ cJ th k V C T B P A OR n PR ST li w WK so sp CT SC TA FW O)) (hS : va_S (lA s) s.heap H locs) {ls : Array Slot} (hl : lv_has ls 9 [(4, .int (nI (4 * jj))), (3, .ref qo), (2, .ref (r 0)), (1, .ref (q 0)), (0, .ref b)]) (hN : Nx p l e s m below meth c b D r q qo cI cZ cJ Q jj) : W p l e room_1 s m #[Value.ref b] below meth c H locs (27 + 8 * jj) (20244 + 64 * jj) Q (F0 m 993 ls []) := by
  obtain ⟨hx, hb, hr, hml, hown, hts, hX, hbl, hlocks, hK, hZ, hg, hn, hL⟩ := hc
  have hA : ∀ q9 : Nat, s.heap.size ≤ q9 → lA s q9 := fun _ h => h
  have hbA : ¬ lA s b := Nat.not_le.mpr hbl
  have hP : va_P D vwCl ((wM r cI cZ cJ th k V C A T B P OR n PR ST li w WK so sp CT FW) ++ ((wX q cI cZ cJ k V C T B P A n PR ST li w WK so sp CT SC TA) ++ [(qo, .inl (cJ, 1, .inr (.inl O)))])) H := hP
  have hD : va_D (lA s) ((wM r cI cZ cJ th k V C A T B P OR n PR ST li w WK so sp CT FW) ++ ((wX q cI cZ cJ k V C T B P A n PR ST li w WK so sp CT SC TA) ++ [(qo, .inl (cJ, 1, .inr (.inl O)))])) := hD
  refine lv_aload_n hx hb dL_law_993 rfl (lv_at hl 3 rfl) ?_
  refine lv_aload_n hx hb dL_law_994 rfl (lv_at hl 4 rfl) ?_
  refine lv_iload hx hb dL_law_995 (lv_at hl 0 rfl) ?_
  refine lv_iconst (v := nI 1) hx hb dL_law_997 (ic_1) ?_
  refine n_iadd hx hb dL_law_998 ?_
  refine n_sld hx hb hX hbl hbA hS (by omega) (by omega) dL_law_999 ?_
  refine lv_aload_n hx hb dL_law_1000 rfl (lv_at hl 4 rfl) ?_
  refine lv_iload hx hb dL_law_1001 (lv_at hl 0 rfl) ?_
  refine lv_iconst (v := nI 2) hx hb dL_law_1003 (ic_2) ?_
  refine n_iadd hx hb dL_law_1004 ?_
  refine n_sld hx hb hX hbl hbA hS (by omega) (by omega) dL_law_1005 ?_
  refine lv_aload_n hx hb dL_law_1006 rfl (lv_at hl 1 rfl) ?_
  refine k3_i (mc := 2) (ms := 12) (wa := (wM r cI cZ cJ th k V C A T B P OR n PR ST li w WK so sp CT FW)) (wc := ((wX q cI cZ cJ k V C T B P A n PR ST li w WK so sp CT SC TA) ++ [(qo, .inl (cJ, 1, .inr (.inl O)))])) (wb := []) (vx_runSW (As := [.ref (q 0), .int (xs ((4 * jj) + 1)), .int (xs ((4 * jj) + 2)), .ref qo]) (rest := []) ⟨hx, hb, hml, hown, hts⟩ (c_L_coins l hst D q qo cI cZ cJ k V C T B P A n PR ST li w WK so sp CT SC TA O H.size (xs ((4 * jj) + 1)) (xs ((4 * jj) + 2)) hI.hk8) (vx_cwSW 4 hts gL_law_L_coins rfl rfl rfl hd_L_coins.2 ⟨(Nat.le_of_ble_eq_true rfl), (Nat.le_of_ble_eq_true rfl)⟩) (pre_N (wa := (wM r cI cZ cJ th k V C A T B P OR n PR ST li w WK so sp CT FW)) (wc := ((wX q cI cZ cJ k V C T B P A n PR ST li w WK so sp CT SC TA) ++ [(qo, .inl (cJ, 1, .inr (.inl O)))])) (wb := []) hP hK hD hS hA hZ hg hn) rfl rfl hl.1 rfl (lv_room (Nat.le_of_ble_eq_true rfl)) dL_law_1007 ⟨(show (27 + 8 * jj) + 2 ≤ 601024 by omega), (show (20244 + 64 * jj) + 12 ≤ 7293034 by omega)⟩) hP hD hS hA (fun rr u H locs hp hP hD hS => ?_)
  rcases u with u | kk
  · replace hp : rr = nI 0 ∧ (u.1 < k ∧ u.2 < 4 ∧ (xs ((4 * jj) + 1)) = nI u.1 ∧ (xs ((4 * jj) + 2)) = nI u.2) := hp
    obtain ⟨rfl, hp⟩ := hp
    have hP : va_P D vwCl ((wM r cI cZ cJ th k V C A T B P OR n PR ST li w WK so sp CT FW) ++ ((wX q cI cZ cJ k V C T B P A n PR ST li w WK so sp CT SC TA) ++ [(qo, .inl (cJ, 1, .inr (.inl (vp_updL O 0 ((nI (tld V T B P u.1 u.2)).toInt64)))))])) H := hP
    have hD : va_D (lA s) ((wM r cI cZ cJ th k V C A T B P OR n PR ST li w WK so sp CT FW) ++ ((wX q cI cZ cJ k V C T B P A n PR ST li w WK so sp CT SC TA) ++ [(qo, .inl (cJ, 1, .inr (.inl (vp_updL O 0 ((nI (tld V T B P u.1 u.2)).toInt64)))))])) := hD
    refine lv_istore (lv' := [(5, .int (nI 0)), (4, .int (nI (4 * jj))), (3, .ref qo), (2, .ref (r 0)), (1, .ref (q 0)), (0, .ref b)]) hx hb dL_law_1010 hl (by decide) rfl (fun ls hl => ?_)
    refine lv_aload_n hx hb dL_law_1012 rfl (lv_at hl 3 rfl) ?_
    refine lv_aload_n hx hb dL_law_1013 rfl (lv_at hl 5 rfl) ?_
    refine lv_iload hx hb dL_law_1014 (lv_at hl 1 rfl) ?_
    refine lv_iconst (v := nI 1) hx hb dL_law_1016 (ic_1) ?_
    refine n_iadd hx hb dL_law_1017 ?_
    refine n_sld hx hb hX hbl hbA hS (by omega) (by omega) dL_law_1018 ?_
    refine lv_aload_n hx hb dL_law_1019 rfl (lv_at hl 5 rfl) ?_
    refine lv_iload hx hb dL_law_1020 (lv_at hl 1 rfl) ?_
    refine lv_iconst (v := nI 2) hx hb dL_law_1022 (ic_2) ?_
    refine n_iadd hx hb dL_law_1023 ?_
    refine n_sld hx hb hX hbl hbA hS (by omega) (by omega) dL_law_1024 ?_
    refine k3_i (mc := 0) (ms := 0) (wa := []) (wc := (wM r cI cZ cJ th k V C A T B P OR n PR ST li w WK so sp CT FW)) (wb := ((wX q cI cZ cJ k V C T B P A n PR ST li w WK so sp CT SC TA) ++ [(qo, .inl (cJ, 1, .inr (.inl (vp_updL O 0 ((nI (tld V T B P u.1 u.2)).toInt64)))))])) (va_runV (As := [.int (xs ((4 * jj) + 1)), .int (xs ((4 * jj) + 2))]) (rest := []) ⟨hx, hb, hml, hown, hts⟩ (c_X1_coins l hst D r cI cZ cJ th k V C A T B P OR n PR ST li w WK so sp CT FW H.size (xs ((4 * jj) + 1)) (xs ((4 * jj) + 2)) hI.hk8) (cwV 2 hts gL_law_X1_coins rfl rfl rfl hd_X1_coins ⟨(Nat.le_of_ble_eq_true rfl), (Nat.le_of_ble_eq_true rfl)⟩) (pre_V3 (wa := []) (wc := (wM r cI cZ cJ th k V C A T B P OR n PR ST li w WK so sp CT FW)) (wb := ((wX q cI cZ cJ k V C T B P A n PR ST li w WK so sp CT SC TA) ++ [(qo, .inl (cJ, 1, .inr (.inl (vp_updL O 0 ((nI (tld V T B P u.1 u.2)).toInt64)))))])) hP hK hD hS hA hZ hg 0 (ci := 1) rfl rfl) rfl rfl hl.1 rfl (lv_room (Nat.le_of_ble_eq_true rfl)) dL_law_1025 ⟨(show ((27 + 8 * jj) + 2) + 0 ≤ 601024 by omega), (show ((20244 + 64 * jj) + 12) + 0 ≤ 7293034 by omega)⟩) hP hD hS hA (fun rr u2 H locs hq hP hD hS => ?_)
    obtain ⟨v0, v1⟩ := u2
    replace hq : rr = nI v0 ∧ ((v1 = 0 ∧ ∃ i j, i < k ∧ j < 4 ∧ (xs ((4 * jj) + 1)) = nI i ∧ (xs ((4 * jj) + 2)) = nI j ∧ v0 = tld V T B P i j) ∨ (v1 = 1 ∧ ¬ (rg (xs ((4 * jj) + 1)) 0 k ∧ rg (xs ((4 * jj) + 2)) 0 4))) := hq
    obtain ⟨hr9, hq⟩ := hq
    replace hr9 := hr9.symm
    subst hr9
    have hP : va_P D vwCl ((wM r cI cZ cJ v1 k V C A T B P OR n PR ST li w WK so sp CT FW) ++ ((wX q cI cZ cJ k V C T B P A n PR ST li w WK so sp CT SC TA) ++ [(qo, .inl (cJ, 1, .inr (.inl (vp_updL O 0 ((nI (tld V T B P u.1 u.2)).toInt64)))))])) H := hP
    have hD : va_D (lA s) ((wM r cI cZ cJ v1 k V C A T B P OR n PR ST li w WK so sp CT FW) ++ ((wX q cI cZ cJ k V C T B P A n PR ST li w WK so sp CT SC TA) ++ [(qo, .inl (cJ, 1, .inr (.inl (vp_updL O 0 ((nI (tld V T B P u.1 u.2)).toInt64)))))])) := hD
    obtain ⟨e0, e1⟩ := q_coins_0 hI.hk8 hp hq
    have e0 := e0.symm
    subst e0
    have e1 := e1.symm
    subst e1
    refine lv_istore (lv' := [(6, .int (nI (tld V T B P u.1 u.2))), (5, .int (nI 0)), (4, .int (nI (4 * jj))), (3, .ref qo), (2, .ref (r 0)), (1, .ref (q 0)), (0, .ref b)]) hx hb dL_law_1028 hl (by decide) rfl (fun ls hl => ?_)
    refine lv_aload_n hx hb dL_law_1030 rfl (lv_at hl 4 rfl) ?_
    refine k3_i (mc := 0) (ms := 0) (wa := []) (wc := (wM r cI cZ cJ 0 k V C A T B P OR n PR ST li w WK so sp CT FW)) (wb := ((wX q cI cZ cJ k V C T B P A n PR ST li w WK so sp CT SC TA) ++ [(qo, .inl (cJ, 1, .inr (.inl (vp_updL O 0 ((nI (tld V T B P u.1 u.2)).toInt64)))))])) (va_runV (As := []) (rest := []) ⟨hx, hb, hml, hown, hts⟩ (c_X1_thrown l hst D r cI cZ cJ 0 k V C A T B P OR n PR ST li w WK so sp CT FW H.size  ) (cwV 0 hts gL_law_X1_thrown rfl rfl rfl hd_X1_thrown ⟨(Nat.le_of_ble_eq_true rfl), (Nat.le_of_ble_eq_true rfl)⟩) (pre_V3 (wa := []) (wc := (wM r cI cZ cJ 0 k V C A T B P OR n PR ST li w WK so sp CT FW)) (wb := ((wX q cI cZ cJ k V C T B P A n PR ST li w WK so sp CT SC TA) ++ [(qo, .inl (cJ, 1, .inr (.inl (vp_updL O 0 ((nI (tld V T B P u.1 u.2)).toInt64)))))])) hP hK hD hS hA hZ hg 0 (ci := 1) rfl rfl) rfl rfl hl.1 rfl (lv_room (Nat.le_of_ble_eq_true rfl)) dL_law_1031 ⟨(show (((27 + 8 * jj) + 2) + 0) + 0 ≤ 601024 by omega), (show (((20244 + 64 * jj) + 12) + 0) + 0 ≤ 7293034 by omega)⟩) hP hD hS hA (fun rr u2 H locs hq hP hD hS => ?_)
    replace hq : rr = nI 0 := hq
    subst hq
    have hP : va_P D vwCl ((wM r cI cZ cJ 0 k V C A T B P OR n PR ST li w WK so sp CT FW) ++ ((wX q cI cZ cJ k V C T B P A n PR ST li w WK so sp CT SC TA) ++ [(qo, .inl (cJ, 1, .inr (.inl (vp_updL O 0 ((nI (tld V T B P u.1 u.2)).toInt64)))))])) H := hP
    have hD : va_D (lA s) ((wM r cI cZ cJ 0 k V C A T B P OR n PR ST li w WK so sp CT FW) ++ ((wX q cI cZ cJ k V C T B P A n PR ST li w WK so sp CT SC TA) ++ [(qo, .inl (cJ, 1, .inr (.inl (vp_updL O 0 ((nI (tld V T B P u.1 u.2)).toInt64)))))])) := hD
    refine lv_iload hx hb dL_law_1034 (lv_at hl 1 rfl) ?_
    refine lv_icmp_eq (tgt := 1041) hx hb dL_law_1036 (by decide) (fun _ => ?_) (fun h => absurd rfl h)
    refine lv_iload hx hb dL_law_1041 (lv_at hl 1 rfl) ?_
    refine n_if_ne (tgt := 1058) hx hb (by decide) dL_law_1043 (by decide) (fun c1043 => ?_) (fun c1043 => ?_)
    · exact absurd c1043 (by decide)
    · refine lv_aload_n hx hb dL_law_1046 rfl (lv_at hl 3 rfl) ?_
      refine lv_iconst (v := nI 0) hx hb dL_law_1047 (ic_0) ?_
      refine n_lald hx hb hK hP 26 2 rfl rfl (by decide) (by decide) dL_law_1048 ?_
      refine n_topl (show (vp_updL O 0 ((nI (tld V T B P u.1 u.2)).toInt64)) 0 = (nI (tld V T B P u.1 u.2)).toInt64 from updL_s) ?_
      refine lv_iload hx hb dL_law_1049 (lv_at hl 0 rfl) ?_
      refine lv_i2l hx hb dL_law_1051 rfl ?_
      refine n_lcmp_eq (tgt := 1058) hx hb dL_law_1052 dL_law_1053 (by decide) (fun _ => ?_) (fun h => absurd rfl h)
      refine lv_goto (tgt := 1433) hx hb dL_law_1058 (by decide) ?_
      refine W.widen (k := 27 + 8 * (jj + 1)) (n := 20244 + 64 * (jj + 1)) (by omega) (by omega) ?_
      exact hN 0 k V C T B P A OR n PR ST li w WK so sp CT SC TA FW (vp_updL O 0 ((nI (tld V T B P u.1 u.2)).toInt64)) _ _ hI hP hD hS ls (lv_sub hl [2, 3, 4, 5, 6] rfl)
  · replace hp : rr = nI kk ∧ ((kk = 1 ∧ (¬ (rg (xs ((4 * jj) + 1)) 0 k ∧ rg (xs ((4 * jj) + 2)) 0 4)))) := hp
    obtain ⟨rfl, hp⟩ := hp
    have hP : va_P D vwCl ((wM r cI cZ cJ th k V C A T B P OR n PR ST li w WK so sp CT FW) ++ ((wX q cI cZ cJ k V C T B P A n PR ST li w WK so sp CT SC TA) ++ [(qo, .inl (cJ, 1, .inr (.inl O)))])) H := hP
    have hD : va_D (lA s) ((wM r cI cZ cJ th k V C A T B P OR n PR ST li w WK so sp CT FW) ++ ((wX q cI cZ cJ k V C T B P A n PR ST li w WK so sp CT SC TA) ++ [(qo, .inl (cJ, 1, .inr (.inl O)))])) := hD
    obtain ⟨rfl, hp⟩ := hp
    refine lv_istore (lv' := [(5, .int (nI 1)), (4, .int (nI (4 * jj))), (3, .ref qo), (2, .ref (r 0)), (1, .ref (q 0)), (0, .ref b)]) hx hb dL_law_1010 hl (by decide) rfl (fun ls hl => ?_)
    refine lv_aload_n hx hb dL_law_1012 rfl (lv_at hl 3 rfl) ?_
    refine lv_aload_n hx hb dL_law_1013 rfl (lv_at hl 5 rfl) ?_
    refine lv_iload hx hb dL_law_1014 (lv_at hl 1 rfl) ?_
    refine lv_iconst (v := nI 1) hx hb dL_law_1016 (ic_1) ?_
    refine n_iadd hx hb dL_law_1017 ?_
    refine n_sld hx hb hX hbl hbA hS (by omega) (by omega) dL_law_1018 ?_
    refine lv_aload_n hx hb dL_law_1019 rfl (lv_at hl 5 rfl) ?_
    refine lv_iload hx hb dL_law_1020 (lv_at hl 1 rfl) ?_
    refine lv_iconst (v := nI 2) hx hb dL_law_1022 (ic_2) ?_
    refine n_iadd hx hb dL_law_1023 ?_
    refine n_sld hx hb hX hbl hbA hS (by omega) (by omega) dL_law_1024 ?_
    refine k3_i (mc := 0) (ms := 0) (wa := []) (wc := (wM r cI cZ cJ th k V C A T B P OR n PR ST li w WK so sp CT FW)) (wb := ((wX q cI cZ cJ k V C T B P A n PR ST li w WK so sp CT SC TA) ++ [(qo, .inl (cJ, 1, .inr (.inl O)))])) (va_runV (As := [.int (xs ((4 * jj) + 1)), .int (xs ((4 * jj) + 2))]) (rest := []) ⟨hx, hb, hml, hown, hts⟩ (c_X1_coins l hst D r cI cZ cJ th k V C A T B P OR n PR ST li w WK so sp CT FW H.size (xs ((4 * jj) + 1)) (xs ((4 * jj) + 2)) hI.hk8) (cwV 2 hts gL_law_X1_coins rfl rfl rfl hd_X1_coins ⟨(Nat.le_of_ble_eq_true rfl), (Nat.le_of_ble_eq_true rfl)⟩) (pre_V3 (wa := []) (wc := (wM r cI cZ cJ th k V C A T B P OR n PR ST li w WK so sp CT FW)) (wb := ((wX q cI cZ cJ k V C T B P A n PR ST li w WK so sp CT SC TA) ++ [(qo, .inl (cJ, 1, .inr (.inl O)))])) hP hK hD hS hA hZ hg 0 (ci := 1) rfl rfl) rfl rfl hl.1 rfl (lv_room (Nat.le_of_ble_eq_true rfl)) dL_law_1025 ⟨(show ((27 + 8 * jj) + 2) + 0 ≤ 601024 by omega), (show ((20244 + 64 * jj) + 12) + 0 ≤ 7293034 by omega)⟩) hP hD hS hA (fun rr u2 H locs hq hP hD hS => ?_)
    obtain ⟨v0, v1⟩ := u2
    replace hq : rr = nI v0 ∧ ((v1 = 0 ∧ ∃ i j, i < k ∧ j < 4 ∧ (xs ((4 * jj) + 1)) = nI i ∧ (xs ((4 * jj) + 2)) = nI j ∧ v0 = tld V T B P i j) ∨ (v1 = 1 ∧ ¬ (rg (xs ((4 * jj) + 1)) 0 k ∧ rg (xs ((4 * jj) + 2)) 0 4))) := hq
    obtain ⟨hr9, hq⟩ := hq
    replace hr9 := hr9.symm
    subst hr9
    have hP : va_P D vwCl ((wM r cI cZ cJ v1 k V C A T B P OR n PR ST li w WK so sp CT FW) ++ ((wX q cI cZ cJ k V C T B P A n PR ST li w WK so sp CT SC TA) ++ [(qo, .inl (cJ, 1, .inr (.inl O)))])) H := hP
    have hD : va_D (lA s) ((wM r cI cZ cJ v1 k V C A T B P OR n PR ST li w WK so sp CT FW) ++ ((wX q cI cZ cJ k V C T B P A n PR ST li w WK so sp CT SC TA) ++ [(qo, .inl (cJ, 1, .inr (.inl O)))])) := hD
    have e0 := q_coins_1 hI.hk8 hp hq
    have e0 := e0.symm
    subst e0
    refine lv_istore (lv' := [(6, .int (nI v0)), (5, .int (nI 1)), (4, .int (nI (4 * jj))), (3, .ref qo), (2, .ref (r 0)), (1, .ref (q 0)), (0, .ref b)]) hx hb dL_law_1028 hl (by decide) rfl (fun ls hl => ?_)
    refine lv_aload_n hx hb dL_law_1030 rfl (lv_at hl 4 rfl) ?_
    refine k3_i (mc := 0) (ms := 0) (wa := []) (wc := (wM r cI cZ cJ 1 k V C A T B P OR n PR ST li w WK so sp CT FW)) (wb := ((wX q cI cZ cJ k V C T B P A n PR ST li w WK so sp CT SC TA) ++ [(qo, .inl (cJ, 1, .inr (.inl O)))])) (va_runV (As := []) (rest := []) ⟨hx, hb, hml, hown, hts⟩ (c_X1_thrown l hst D r cI cZ cJ 1 k V C A T B P OR n PR ST li w WK so sp CT FW H.size  ) (cwV 0 hts gL_law_X1_thrown rfl rfl rfl hd_X1_thrown ⟨(Nat.le_of_ble_eq_true rfl), (Nat.le_of_ble_eq_true rfl)⟩) (pre_V3 (wa := []) (wc := (wM r cI cZ cJ 1 k V C A T B P OR n PR ST li w WK so sp CT FW)) (wb := ((wX q cI cZ cJ k V C T B P A n PR ST li w WK so sp CT SC TA) ++ [(qo, .inl (cJ, 1, .inr (.inl O)))])) hP hK hD hS hA hZ hg 0 (ci := 1) rfl rfl) rfl rfl hl.1 rfl (lv_room (Nat.le_of_ble_eq_true rfl)) dL_law_1031 ⟨(show (((27 + 8 * jj) + 2) + 0) + 0 ≤ 601024 by omega), (show (((20244 + 64 * jj) + 12) + 0) + 0 ≤ 7293034 by omega)⟩) hP hD hS hA (fun rr u2 H locs hq hP hD hS => ?_)
    replace hq : rr = nI 1 := hq
    subst hq
    have hP : va_P D vwCl ((wM r cI cZ cJ 1 k V C A T B P OR n PR ST li w WK so sp CT FW) ++ ((wX q cI cZ cJ k V C T B P A n PR ST li w WK so sp CT SC TA) ++ [(qo, .inl (cJ, 1, .inr (.inl O)))])) H := hP
    have hD : va_D (lA s) ((wM r cI cZ cJ 1 k V C A T B P OR n PR ST li w WK so sp CT FW) ++ ((wX q cI cZ cJ k V C T B P A n PR ST li w WK so sp CT SC TA) ++ [(qo, .inl (cJ, 1, .inr (.inl O)))])) := hD
    refine lv_iload hx hb dL_law_1034 (lv_at hl 1 rfl) ?_
    refine lv_icmp_eq (tgt := 1041) hx hb dL_law_1036 (by decide) (fun _ => ?_) (fun h => absurd rfl h)
    refine lv_iload hx hb dL_law_1041 (lv_at hl 1 rfl) ?_
    refine n_if_ne (tgt := 1058) hx hb (by decide) dL_law_1043 (by decide) (fun c1043 => ?_) (fun c1043 => ?_)
    · refine lv_goto (tgt := 1433) hx hb dL_law_1058 (by decide) ?_
      refine W.widen (k := 27 + 8 * (jj + 1)) (n := 20244 + 64 * (jj + 1)) (by omega) (by omega) ?_
      exact hN 1 k V C T B P A OR n PR ST li w WK so sp CT SC TA FW O _ _ hI hP hD hS ls (lv_sub hl [2, 3, 4, 5, 6] rfl)
    · exact absurd c1043 (by decide)

set_option maxHeartbeats 8000000 in
set_option maxRecDepth 100000 in
theorem lw_fewest (hst : l.stackTraces = false) (hc : Lc p s m meth c b L xs D cI cZ cJ) {r q : Nat → Nat} {qo jj : Nat} (hj : 4 * jj + 4 ≤ L) {th : Nat} {k : Nat} {V : Nat → Nat} {C : Nat → Nat} {T : Nat → Nat} {B : Nat → Nat} {P : Nat → Nat} {A : Nat → Nat} {OR : Nat → Nat} {n : Nat} {PR : Nat → Nat} {ST : Nat → Nat} {li : Nat} {w : Nat} {WK : Nat → Nat} {so : Nat} {sp : Nat} {CT : Nat → Int64} {SC : Nat → Int} {TA : Nat → Nat} {FW : Nat → Nat} {O : Nat → Int64} {H : Heap} {locs : List Loc} (hI : IV k V C T A OR n PR ST li w WK so sp) (hP : va_P D vwCl (wL r q qo cI cZ cJ th k V C T B P A OR n PR ST li w WK so sp CT SC TA FW O) H) (hD : va_D (lA s) (wL r q qo cI cZ cJ th k V C T B P A OR n PR ST li w WK so sp CT SC TA FW O)) (hS : va_S (lA s) s.heap H locs) {ls : Array Slot} (hl : lv_has ls 9 [(4, .int (nI (4 * jj))), (3, .ref qo), (2, .ref (r 0)), (1, .ref (q 0)), (0, .ref b)]) (hN : Nx p l e s m below meth c b D r q qo cI cZ cJ Q jj) : W p l e room_1 s m #[Value.ref b] below meth c H locs (27 + 8 * jj) (20244 + 64 * jj) Q (F0 m 1061 ls []) := by
  obtain ⟨hx, hb, hr, hml, hown, hts, hX, hbl, hlocks, hK, hZ, hg, hn, hL⟩ := hc
  have hA : ∀ q9 : Nat, s.heap.size ≤ q9 → lA s q9 := fun _ h => h
  have hbA : ¬ lA s b := Nat.not_le.mpr hbl
  have hP : va_P D vwCl ((wM r cI cZ cJ th k V C A T B P OR n PR ST li w WK so sp CT FW) ++ ((wX q cI cZ cJ k V C T B P A n PR ST li w WK so sp CT SC TA) ++ [(qo, .inl (cJ, 1, .inr (.inl O)))])) H := hP
  have hD : va_D (lA s) ((wM r cI cZ cJ th k V C A T B P OR n PR ST li w WK so sp CT FW) ++ ((wX q cI cZ cJ k V C T B P A n PR ST li w WK so sp CT SC TA) ++ [(qo, .inl (cJ, 1, .inr (.inl O)))])) := hD
  refine lv_aload_n hx hb dL_law_1061 rfl (lv_at hl 3 rfl) ?_
  refine lv_aload_n hx hb dL_law_1062 rfl (lv_at hl 4 rfl) ?_
  refine lv_iload hx hb dL_law_1063 (lv_at hl 0 rfl) ?_
  refine lv_iconst (v := nI 1) hx hb dL_law_1065 (ic_1) ?_
  refine n_iadd hx hb dL_law_1066 ?_
  refine n_sld hx hb hX hbl hbA hS (by omega) (by omega) dL_law_1067 ?_
  refine lv_aload_n hx hb dL_law_1068 rfl (lv_at hl 1 rfl) ?_
  refine k3_i (mc := 1) (ms := 6) (wa := (wM r cI cZ cJ th k V C A T B P OR n PR ST li w WK so sp CT FW)) (wc := ((wX q cI cZ cJ k V C T B P A n PR ST li w WK so sp CT SC TA) ++ [(qo, .inl (cJ, 1, .inr (.inl O)))])) (wb := []) (vx_runSW (As := [.ref (q 0), .int (xs ((4 * jj) + 1)), .ref qo]) (rest := []) ⟨hx, hb, hml, hown, hts⟩ (c_L_fewest l hst D q qo cI cZ cJ k V C T B P A n PR ST li w WK so sp CT SC TA O H.size (xs ((4 * jj) + 1)) hI.hk8 hI.hV hI.hC) (vx_cwSW 3 hts gL_law_L_fewest rfl rfl rfl hd_L_fewest.2 ⟨(Nat.le_of_ble_eq_true rfl), (Nat.le_of_ble_eq_true rfl)⟩) (pre_N (wa := (wM r cI cZ cJ th k V C A T B P OR n PR ST li w WK so sp CT FW)) (wc := ((wX q cI cZ cJ k V C T B P A n PR ST li w WK so sp CT SC TA) ++ [(qo, .inl (cJ, 1, .inr (.inl O)))])) (wb := []) hP hK hD hS hA hZ hg hn) rfl rfl hl.1 rfl (lv_room (Nat.le_of_ble_eq_true rfl)) dL_law_1069 ⟨(show (27 + 8 * jj) + 1 ≤ 601024 by omega), (show (20244 + 64 * jj) + 6 ≤ 7293034 by omega)⟩) hP hD hS hA (fun rr u H locs hp hP hD hS => ?_)
  rcases u with u | kk
  · replace hp : rr = nI 0 ∧ (u.1 < 2001 ∧ (xs ((4 * jj) + 1)) = nI u.1 ∧ fwR T V k u.1 u.2.1) := hp
    obtain ⟨rfl, hp⟩ := hp
    have hP : va_P D vwCl ((wM r cI cZ cJ th k V C A T B P OR n PR ST li w WK so sp CT FW) ++ ((wX q cI cZ cJ k V C T B P A n PR ST li w WK so sp CT u.2.2 TA) ++ [(qo, .inl (cJ, 1, .inr (.inl (vp_updL O 0 ((nI u.2.1).toInt64)))))])) H := hP
    have hD : va_D (lA s) ((wM r cI cZ cJ th k V C A T B P OR n PR ST li w WK so sp CT FW) ++ ((wX q cI cZ cJ k V C T B P A n PR ST li w WK so sp CT u.2.2 TA) ++ [(qo, .inl (cJ, 1, .inr (.inl (vp_updL O 0 ((nI u.2.1).toInt64)))))])) := hD
    refine lv_istore (lv' := [(5, .int (nI 0)), (4, .int (nI (4 * jj))), (3, .ref qo), (2, .ref (r 0)), (1, .ref (q 0)), (0, .ref b)]) hx hb dL_law_1072 hl (by decide) rfl (fun ls hl => ?_)
    refine lv_aload_n hx hb dL_law_1074 rfl (lv_at hl 3 rfl) ?_
    refine lv_aload_n hx hb dL_law_1075 rfl (lv_at hl 5 rfl) ?_
    refine lv_iload hx hb dL_law_1076 (lv_at hl 1 rfl) ?_
    refine lv_iconst (v := nI 1) hx hb dL_law_1078 (ic_1) ?_
    refine n_iadd hx hb dL_law_1079 ?_
    refine n_sld hx hb hX hbl hbA hS (by omega) (by omega) dL_law_1080 ?_
    refine k3_i (mc := 0) (ms := 0) (wa := []) (wc := (wM r cI cZ cJ th k V C A T B P OR n PR ST li w WK so sp CT FW)) (wb := ((wX q cI cZ cJ k V C T B P A n PR ST li w WK so sp CT u.2.2 TA) ++ [(qo, .inl (cJ, 1, .inr (.inl (vp_updL O 0 ((nI u.2.1).toInt64)))))])) (va_runV (As := [.int (xs ((4 * jj) + 1))]) (rest := []) ⟨hx, hb, hml, hown, hts⟩ (c_X1_fewest l hst D r cI cZ cJ th k V C A T B P OR n PR ST li w WK so sp CT FW H.size (xs ((4 * jj) + 1)) hI.hk8 hI.hV hI.hC hI.hOR) (cwV 1 hts gL_law_X1_fewest rfl rfl rfl hd_X1_fewest ⟨(Nat.le_of_ble_eq_true rfl), (Nat.le_of_ble_eq_true rfl)⟩) (pre_V3 (wa := []) (wc := (wM r cI cZ cJ th k V C A T B P OR n PR ST li w WK so sp CT FW)) (wb := ((wX q cI cZ cJ k V C T B P A n PR ST li w WK so sp CT u.2.2 TA) ++ [(qo, .inl (cJ, 1, .inr (.inl (vp_updL O 0 ((nI u.2.1).toInt64)))))])) hP hK hD hS hA hZ hg 0 (ci := 1) rfl rfl) rfl rfl hl.1 rfl (lv_room (Nat.le_of_ble_eq_true rfl)) dL_law_1081 ⟨(show ((27 + 8 * jj) + 1) + 0 ≤ 601024 by omega), (show ((20244 + 64 * jj) + 6) + 0 ≤ 7293034 by omega)⟩) hP hD hS hA (fun rr u2 H locs hq hP hD hS => ?_)
    obtain ⟨v0, v1, v2⟩ := u2
    replace hq : rr = nI v0 ∧ ((v1 = 0 ∧ ∃ i, i < 2001 ∧ (xs ((4 * jj) + 1)) = nI i ∧ fwR T V k i v0) ∨ (v1 = 1 ∧ ¬ rg (xs ((4 * jj) + 1)) 0 2001)) := hq
    obtain ⟨hr9, hq⟩ := hq
    replace hr9 := hr9.symm
    subst hr9
    have hP : va_P D vwCl ((wM r cI cZ cJ v1 k V C A T B P OR n PR ST li w WK so sp CT v2) ++ ((wX q cI cZ cJ k V C T B P A n PR ST li w WK so sp CT u.2.2 TA) ++ [(qo, .inl (cJ, 1, .inr (.inl (vp_updL O 0 ((nI u.2.1).toInt64)))))])) H := hP
    have hD : va_D (lA s) ((wM r cI cZ cJ v1 k V C A T B P OR n PR ST li w WK so sp CT v2) ++ ((wX q cI cZ cJ k V C T B P A n PR ST li w WK so sp CT u.2.2 TA) ++ [(qo, .inl (cJ, 1, .inr (.inl (vp_updL O 0 ((nI u.2.1).toInt64)))))])) := hD
    obtain ⟨e0, e1⟩ := q_fewest_0  hp hq
    have e0 := e0.symm
    subst e0
    have e1 := e1.symm
    subst e1
    refine lv_istore (lv' := [(6, .int (nI u.2.1)), (5, .int (nI 0)), (4, .int (nI (4 * jj))), (3, .ref qo), (2, .ref (r 0)), (1, .ref (q 0)), (0, .ref b)]) hx hb dL_law_1084 hl (by decide) rfl (fun ls hl => ?_)
    refine lv_aload_n hx hb dL_law_1086 rfl (lv_at hl 4 rfl) ?_
    refine k3_i (mc := 0) (ms := 0) (wa := []) (wc := (wM r cI cZ cJ 0 k V C A T B P OR n PR ST li w WK so sp CT v2)) (wb := ((wX q cI cZ cJ k V C T B P A n PR ST li w WK so sp CT u.2.2 TA) ++ [(qo, .inl (cJ, 1, .inr (.inl (vp_updL O 0 ((nI u.2.1).toInt64)))))])) (va_runV (As := []) (rest := []) ⟨hx, hb, hml, hown, hts⟩ (c_X1_thrown l hst D r cI cZ cJ 0 k V C A T B P OR n PR ST li w WK so sp CT v2 H.size  ) (cwV 0 hts gL_law_X1_thrown rfl rfl rfl hd_X1_thrown ⟨(Nat.le_of_ble_eq_true rfl), (Nat.le_of_ble_eq_true rfl)⟩) (pre_V3 (wa := []) (wc := (wM r cI cZ cJ 0 k V C A T B P OR n PR ST li w WK so sp CT v2)) (wb := ((wX q cI cZ cJ k V C T B P A n PR ST li w WK so sp CT u.2.2 TA) ++ [(qo, .inl (cJ, 1, .inr (.inl (vp_updL O 0 ((nI u.2.1).toInt64)))))])) hP hK hD hS hA hZ hg 0 (ci := 1) rfl rfl) rfl rfl hl.1 rfl (lv_room (Nat.le_of_ble_eq_true rfl)) dL_law_1087 ⟨(show (((27 + 8 * jj) + 1) + 0) + 0 ≤ 601024 by omega), (show (((20244 + 64 * jj) + 6) + 0) + 0 ≤ 7293034 by omega)⟩) hP hD hS hA (fun rr u2 H locs hq hP hD hS => ?_)
    replace hq : rr = nI 0 := hq
    subst hq
    have hP : va_P D vwCl ((wM r cI cZ cJ 0 k V C A T B P OR n PR ST li w WK so sp CT v2) ++ ((wX q cI cZ cJ k V C T B P A n PR ST li w WK so sp CT u.2.2 TA) ++ [(qo, .inl (cJ, 1, .inr (.inl (vp_updL O 0 ((nI u.2.1).toInt64)))))])) H := hP
    have hD : va_D (lA s) ((wM r cI cZ cJ 0 k V C A T B P OR n PR ST li w WK so sp CT v2) ++ ((wX q cI cZ cJ k V C T B P A n PR ST li w WK so sp CT u.2.2 TA) ++ [(qo, .inl (cJ, 1, .inr (.inl (vp_updL O 0 ((nI u.2.1).toInt64)))))])) := hD
    refine lv_iload hx hb dL_law_1090 (lv_at hl 1 rfl) ?_
    refine lv_icmp_eq (tgt := 1097) hx hb dL_law_1092 (by decide) (fun _ => ?_) (fun h => absurd rfl h)
    refine lv_iload hx hb dL_law_1097 (lv_at hl 1 rfl) ?_
    refine n_if_ne (tgt := 1114) hx hb (by decide) dL_law_1099 (by decide) (fun c1099 => ?_) (fun c1099 => ?_)
    · exact absurd c1099 (by decide)
    · refine lv_aload_n hx hb dL_law_1102 rfl (lv_at hl 3 rfl) ?_
      refine lv_iconst (v := nI 0) hx hb dL_law_1103 (ic_0) ?_
      refine n_lald hx hb hK hP 26 2 rfl rfl (by decide) (by decide) dL_law_1104 ?_
      refine n_topl (show (vp_updL O 0 ((nI u.2.1).toInt64)) 0 = (nI u.2.1).toInt64 from updL_s) ?_
      refine lv_iload hx hb dL_law_1105 (lv_at hl 0 rfl) ?_
      refine lv_i2l hx hb dL_law_1107 rfl ?_
      refine n_lcmp_eq (tgt := 1114) hx hb dL_law_1108 dL_law_1109 (by decide) (fun _ => ?_) (fun h => absurd rfl h)
      refine lv_goto (tgt := 1433) hx hb dL_law_1114 (by decide) ?_
      refine W.widen (k := 27 + 8 * (jj + 1)) (n := 20244 + 64 * (jj + 1)) (by omega) (by omega) ?_
      exact hN 0 k V C T B P A OR n PR ST li w WK so sp CT u.2.2 TA v2 (vp_updL O 0 ((nI u.2.1).toInt64)) _ _ hI hP hD hS ls (lv_sub hl [2, 3, 4, 5, 6] rfl)
  · replace hp : rr = nI kk ∧ ((kk = 1 ∧ (¬ rg (xs ((4 * jj) + 1)) 0 2001))) := hp
    obtain ⟨rfl, hp⟩ := hp
    have hP : va_P D vwCl ((wM r cI cZ cJ th k V C A T B P OR n PR ST li w WK so sp CT FW) ++ ((wX q cI cZ cJ k V C T B P A n PR ST li w WK so sp CT SC TA) ++ [(qo, .inl (cJ, 1, .inr (.inl O)))])) H := hP
    have hD : va_D (lA s) ((wM r cI cZ cJ th k V C A T B P OR n PR ST li w WK so sp CT FW) ++ ((wX q cI cZ cJ k V C T B P A n PR ST li w WK so sp CT SC TA) ++ [(qo, .inl (cJ, 1, .inr (.inl O)))])) := hD
    obtain ⟨rfl, hp⟩ := hp
    refine lv_istore (lv' := [(5, .int (nI 1)), (4, .int (nI (4 * jj))), (3, .ref qo), (2, .ref (r 0)), (1, .ref (q 0)), (0, .ref b)]) hx hb dL_law_1072 hl (by decide) rfl (fun ls hl => ?_)
    refine lv_aload_n hx hb dL_law_1074 rfl (lv_at hl 3 rfl) ?_
    refine lv_aload_n hx hb dL_law_1075 rfl (lv_at hl 5 rfl) ?_
    refine lv_iload hx hb dL_law_1076 (lv_at hl 1 rfl) ?_
    refine lv_iconst (v := nI 1) hx hb dL_law_1078 (ic_1) ?_
    refine n_iadd hx hb dL_law_1079 ?_
    refine n_sld hx hb hX hbl hbA hS (by omega) (by omega) dL_law_1080 ?_
    refine k3_i (mc := 0) (ms := 0) (wa := []) (wc := (wM r cI cZ cJ th k V C A T B P OR n PR ST li w WK so sp CT FW)) (wb := ((wX q cI cZ cJ k V C T B P A n PR ST li w WK so sp CT SC TA) ++ [(qo, .inl (cJ, 1, .inr (.inl O)))])) (va_runV (As := [.int (xs ((4 * jj) + 1))]) (rest := []) ⟨hx, hb, hml, hown, hts⟩ (c_X1_fewest l hst D r cI cZ cJ th k V C A T B P OR n PR ST li w WK so sp CT FW H.size (xs ((4 * jj) + 1)) hI.hk8 hI.hV hI.hC hI.hOR) (cwV 1 hts gL_law_X1_fewest rfl rfl rfl hd_X1_fewest ⟨(Nat.le_of_ble_eq_true rfl), (Nat.le_of_ble_eq_true rfl)⟩) (pre_V3 (wa := []) (wc := (wM r cI cZ cJ th k V C A T B P OR n PR ST li w WK so sp CT FW)) (wb := ((wX q cI cZ cJ k V C T B P A n PR ST li w WK so sp CT SC TA) ++ [(qo, .inl (cJ, 1, .inr (.inl O)))])) hP hK hD hS hA hZ hg 0 (ci := 1) rfl rfl) rfl rfl hl.1 rfl (lv_room (Nat.le_of_ble_eq_true rfl)) dL_law_1081 ⟨(show ((27 + 8 * jj) + 1) + 0 ≤ 601024 by omega), (show ((20244 + 64 * jj) + 6) + 0 ≤ 7293034 by omega)⟩) hP hD hS hA (fun rr u2 H locs hq hP hD hS => ?_)
    obtain ⟨v0, v1, v2⟩ := u2
    replace hq : rr = nI v0 ∧ ((v1 = 0 ∧ ∃ i, i < 2001 ∧ (xs ((4 * jj) + 1)) = nI i ∧ fwR T V k i v0) ∨ (v1 = 1 ∧ ¬ rg (xs ((4 * jj) + 1)) 0 2001)) := hq
    obtain ⟨hr9, hq⟩ := hq
    replace hr9 := hr9.symm
    subst hr9
    have hP : va_P D vwCl ((wM r cI cZ cJ v1 k V C A T B P OR n PR ST li w WK so sp CT v2) ++ ((wX q cI cZ cJ k V C T B P A n PR ST li w WK so sp CT SC TA) ++ [(qo, .inl (cJ, 1, .inr (.inl O)))])) H := hP
    have hD : va_D (lA s) ((wM r cI cZ cJ v1 k V C A T B P OR n PR ST li w WK so sp CT v2) ++ ((wX q cI cZ cJ k V C T B P A n PR ST li w WK so sp CT SC TA) ++ [(qo, .inl (cJ, 1, .inr (.inl O)))])) := hD
    have e0 := q_fewest_1  hp hq
    have e0 := e0.symm
    subst e0
    refine lv_istore (lv' := [(6, .int (nI v0)), (5, .int (nI 1)), (4, .int (nI (4 * jj))), (3, .ref qo), (2, .ref (r 0)), (1, .ref (q 0)), (0, .ref b)]) hx hb dL_law_1084 hl (by decide) rfl (fun ls hl => ?_)
    refine lv_aload_n hx hb dL_law_1086 rfl (lv_at hl 4 rfl) ?_
    refine k3_i (mc := 0) (ms := 0) (wa := []) (wc := (wM r cI cZ cJ 1 k V C A T B P OR n PR ST li w WK so sp CT v2)) (wb := ((wX q cI cZ cJ k V C T B P A n PR ST li w WK so sp CT SC TA) ++ [(qo, .inl (cJ, 1, .inr (.inl O)))])) (va_runV (As := []) (rest := []) ⟨hx, hb, hml, hown, hts⟩ (c_X1_thrown l hst D r cI cZ cJ 1 k V C A T B P OR n PR ST li w WK so sp CT v2 H.size  ) (cwV 0 hts gL_law_X1_thrown rfl rfl rfl hd_X1_thrown ⟨(Nat.le_of_ble_eq_true rfl), (Nat.le_of_ble_eq_true rfl)⟩) (pre_V3 (wa := []) (wc := (wM r cI cZ cJ 1 k V C A T B P OR n PR ST li w WK so sp CT v2)) (wb := ((wX q cI cZ cJ k V C T B P A n PR ST li w WK so sp CT SC TA) ++ [(qo, .inl (cJ, 1, .inr (.inl O)))])) hP hK hD hS hA hZ hg 0 (ci := 1) rfl rfl) rfl rfl hl.1 rfl (lv_room (Nat.le_of_ble_eq_true rfl)) dL_law_1087 ⟨(show (((27 + 8 * jj) + 1) + 0) + 0 ≤ 601024 by omega), (show (((20244 + 64 * jj) + 6) + 0) + 0 ≤ 7293034 by omega)⟩) hP hD hS hA (fun rr u2 H locs hq hP hD hS => ?_)
    replace hq : rr = nI 1 := hq
    subst hq
    have hP : va_P D vwCl ((wM r cI cZ cJ 1 k V C A T B P OR n PR ST li w WK so sp CT v2) ++ ((wX q cI cZ cJ k V C T B P A n PR ST li w WK so sp CT SC TA) ++ [(qo, .inl (cJ, 1, .inr (.inl O)))])) H := hP
    have hD : va_D (lA s) ((wM r cI cZ cJ 1 k V C A T B P OR n PR ST li w WK so sp CT v2) ++ ((wX q cI cZ cJ k V C T B P A n PR ST li w WK so sp CT SC TA) ++ [(qo, .inl (cJ, 1, .inr (.inl O)))])) := hD
    refine lv_iload hx hb dL_law_1090 (lv_at hl 1 rfl) ?_
    refine lv_icmp_eq (tgt := 1097) hx hb dL_law_1092 (by decide) (fun _ => ?_) (fun h => absurd rfl h)
    refine lv_iload hx hb dL_law_1097 (lv_at hl 1 rfl) ?_
    refine n_if_ne (tgt := 1114) hx hb (by decide) dL_law_1099 (by decide) (fun c1099 => ?_) (fun c1099 => ?_)
    · refine lv_goto (tgt := 1433) hx hb dL_law_1114 (by decide) ?_
      refine W.widen (k := 27 + 8 * (jj + 1)) (n := 20244 + 64 * (jj + 1)) (by omega) (by omega) ?_
      exact hN 1 k V C T B P A OR n PR ST li w WK so sp CT SC TA v2 O _ _ hI hP hD hS ls (lv_sub hl [2, 3, 4, 5, 6] rfl)
    · exact absurd c1099 (by decide)

set_option maxHeartbeats 8000000 in
set_option maxRecDepth 100000 in
theorem lw_part (hst : l.stackTraces = false) (hc : Lc p s m meth c b L xs D cI cZ cJ) {r q : Nat → Nat} {qo jj : Nat} (hj : 4 * jj + 4 ≤ L) {th : Nat} {k : Nat} {V : Nat → Nat} {C : Nat → Nat} {T : Nat → Nat} {B : Nat → Nat} {P : Nat → Nat} {A : Nat → Nat} {OR : Nat → Nat} {n : Nat} {PR : Nat → Nat} {ST : Nat → Nat} {li : Nat} {w : Nat} {WK : Nat → Nat} {so : Nat} {sp : Nat} {CT : Nat → Int64} {SC : Nat → Int} {TA : Nat → Nat} {FW : Nat → Nat} {O : Nat → Int64} {H : Heap} {locs : List Loc} (hI : IV k V C T A OR n PR ST li w WK so sp) (hP : va_P D vwCl (wL r q qo cI cZ cJ th k V C T B P A OR n PR ST li w WK so sp CT SC TA FW O) H) (hD : va_D (lA s) (wL r q qo cI cZ cJ th k V C T B P A OR n PR ST li w WK so sp CT SC TA FW O)) (hS : va_S (lA s) s.heap H locs) {ls : Array Slot} (hl : lv_has ls 9 [(4, .int (nI (4 * jj))), (3, .ref qo), (2, .ref (r 0)), (1, .ref (q 0)), (0, .ref b)]) (hN : Nx p l e s m below meth c b D r q qo cI cZ cJ Q jj) : W p l e room_1 s m #[Value.ref b] below meth c H locs (27 + 8 * jj) (20244 + 64 * jj) Q (F0 m 1117 ls []) := by
  obtain ⟨hx, hb, hr, hml, hown, hts, hX, hbl, hlocks, hK, hZ, hg, hn, hL⟩ := hc
  have hA : ∀ q9 : Nat, s.heap.size ≤ q9 → lA s q9 := fun _ h => h
  have hbA : ¬ lA s b := Nat.not_le.mpr hbl
  have hP : va_P D vwCl ((wM r cI cZ cJ th k V C A T B P OR n PR ST li w WK so sp CT FW) ++ ((wX q cI cZ cJ k V C T B P A n PR ST li w WK so sp CT SC TA) ++ [(qo, .inl (cJ, 1, .inr (.inl O)))])) H := hP
  have hD : va_D (lA s) ((wM r cI cZ cJ th k V C A T B P OR n PR ST li w WK so sp CT FW) ++ ((wX q cI cZ cJ k V C T B P A n PR ST li w WK so sp CT SC TA) ++ [(qo, .inl (cJ, 1, .inr (.inl O)))])) := hD
  refine lv_aload_n hx hb dL_law_1117 rfl (lv_at hl 3 rfl) ?_
  refine lv_aload_n hx hb dL_law_1118 rfl (lv_at hl 4 rfl) ?_
  refine lv_iload hx hb dL_law_1119 (lv_at hl 0 rfl) ?_
  refine lv_iconst (v := nI 1) hx hb dL_law_1121 (ic_1) ?_
  refine n_iadd hx hb dL_law_1122 ?_
  refine n_sld hx hb hX hbl hbA hS (by omega) (by omega) dL_law_1123 ?_
  refine lv_aload_n hx hb dL_law_1124 rfl (lv_at hl 4 rfl) ?_
  refine lv_iload hx hb dL_law_1125 (lv_at hl 0 rfl) ?_
  refine lv_iconst (v := nI 2) hx hb dL_law_1127 (ic_2) ?_
  refine n_iadd hx hb dL_law_1128 ?_
  refine n_sld hx hb hX hbl hbA hS (by omega) (by omega) dL_law_1129 ?_
  refine lv_aload_n hx hb dL_law_1130 rfl (lv_at hl 1 rfl) ?_
  refine k3_i (mc := 2) (ms := 12) (wa := (wM r cI cZ cJ th k V C A T B P OR n PR ST li w WK so sp CT FW)) (wc := ((wX q cI cZ cJ k V C T B P A n PR ST li w WK so sp CT SC TA) ++ [(qo, .inl (cJ, 1, .inr (.inl O)))])) (wb := []) (vx_runSW (As := [.ref (q 0), .int (xs ((4 * jj) + 1)), .int (xs ((4 * jj) + 2)), .ref qo]) (rest := []) ⟨hx, hb, hml, hown, hts⟩ (c_L_part l hst D q qo cI cZ cJ k V C T B P A n PR ST li w WK so sp CT SC TA O H.size (xs ((4 * jj) + 1)) (xs ((4 * jj) + 2)) hI.hk8 hI.hV hI.hC) (vx_cwSW 4 hts gL_law_L_part rfl rfl rfl hd_L_part.2 ⟨(Nat.le_of_ble_eq_true rfl), (Nat.le_of_ble_eq_true rfl)⟩) (pre_N (wa := (wM r cI cZ cJ th k V C A T B P OR n PR ST li w WK so sp CT FW)) (wc := ((wX q cI cZ cJ k V C T B P A n PR ST li w WK so sp CT SC TA) ++ [(qo, .inl (cJ, 1, .inr (.inl O)))])) (wb := []) hP hK hD hS hA hZ hg hn) rfl rfl hl.1 rfl (lv_room (Nat.le_of_ble_eq_true rfl)) dL_law_1131 ⟨(show (27 + 8 * jj) + 2 ≤ 601024 by omega), (show (20244 + 64 * jj) + 12 ≤ 7293034 by omega)⟩) hP hD hS hA (fun rr u H locs hp hP hD hS => ?_)
  rcases u with u | kk
  · replace hp : rr = nI 0 ∧ (u.1 < 2001 ∧ u.2.1 < k ∧ (xs ((4 * jj) + 1)) = nI u.1 ∧ (xs ((4 * jj) + 2)) = nI u.2.1 ∧ ptR T V k u.1 u.2.1 u.2.2.1) := hp
    obtain ⟨rfl, hp⟩ := hp
    have hP : va_P D vwCl ((wM r cI cZ cJ th k V C A T B P OR n PR ST li w WK so sp CT FW) ++ ((wX q cI cZ cJ k V C T B P A n PR ST li w WK so sp CT u.2.2.2 TA) ++ [(qo, .inl (cJ, 1, .inr (.inl (vp_updL O 0 ((nI u.2.2.1).toInt64)))))])) H := hP
    have hD : va_D (lA s) ((wM r cI cZ cJ th k V C A T B P OR n PR ST li w WK so sp CT FW) ++ ((wX q cI cZ cJ k V C T B P A n PR ST li w WK so sp CT u.2.2.2 TA) ++ [(qo, .inl (cJ, 1, .inr (.inl (vp_updL O 0 ((nI u.2.2.1).toInt64)))))])) := hD
    refine lv_istore (lv' := [(5, .int (nI 0)), (4, .int (nI (4 * jj))), (3, .ref qo), (2, .ref (r 0)), (1, .ref (q 0)), (0, .ref b)]) hx hb dL_law_1134 hl (by decide) rfl (fun ls hl => ?_)
    refine lv_aload_n hx hb dL_law_1136 rfl (lv_at hl 3 rfl) ?_
    refine lv_aload_n hx hb dL_law_1137 rfl (lv_at hl 5 rfl) ?_
    refine lv_iload hx hb dL_law_1138 (lv_at hl 1 rfl) ?_
    refine lv_iconst (v := nI 1) hx hb dL_law_1140 (ic_1) ?_
    refine n_iadd hx hb dL_law_1141 ?_
    refine n_sld hx hb hX hbl hbA hS (by omega) (by omega) dL_law_1142 ?_
    refine lv_aload_n hx hb dL_law_1143 rfl (lv_at hl 5 rfl) ?_
    refine lv_iload hx hb dL_law_1144 (lv_at hl 1 rfl) ?_
    refine lv_iconst (v := nI 2) hx hb dL_law_1146 (ic_2) ?_
    refine n_iadd hx hb dL_law_1147 ?_
    refine n_sld hx hb hX hbl hbA hS (by omega) (by omega) dL_law_1148 ?_
    refine k3_i (mc := 0) (ms := 0) (wa := []) (wc := (wM r cI cZ cJ th k V C A T B P OR n PR ST li w WK so sp CT FW)) (wb := ((wX q cI cZ cJ k V C T B P A n PR ST li w WK so sp CT u.2.2.2 TA) ++ [(qo, .inl (cJ, 1, .inr (.inl (vp_updL O 0 ((nI u.2.2.1).toInt64)))))])) (va_runV (As := [.int (xs ((4 * jj) + 1)), .int (xs ((4 * jj) + 2))]) (rest := []) ⟨hx, hb, hml, hown, hts⟩ (c_X1_part l hst D r cI cZ cJ th k V C A T B P OR n PR ST li w WK so sp CT FW H.size (xs ((4 * jj) + 1)) (xs ((4 * jj) + 2)) hI.hk8 hI.hV hI.hC hI.hOR) (cwV 2 hts gL_law_X1_part rfl rfl rfl hd_X1_part ⟨(Nat.le_of_ble_eq_true rfl), (Nat.le_of_ble_eq_true rfl)⟩) (pre_V3 (wa := []) (wc := (wM r cI cZ cJ th k V C A T B P OR n PR ST li w WK so sp CT FW)) (wb := ((wX q cI cZ cJ k V C T B P A n PR ST li w WK so sp CT u.2.2.2 TA) ++ [(qo, .inl (cJ, 1, .inr (.inl (vp_updL O 0 ((nI u.2.2.1).toInt64)))))])) hP hK hD hS hA hZ hg 0 (ci := 1) rfl rfl) rfl rfl hl.1 rfl (lv_room (Nat.le_of_ble_eq_true rfl)) dL_law_1149 ⟨(show ((27 + 8 * jj) + 2) + 0 ≤ 601024 by omega), (show ((20244 + 64 * jj) + 12) + 0 ≤ 7293034 by omega)⟩) hP hD hS hA (fun rr u2 H locs hq hP hD hS => ?_)
    obtain ⟨v0, v1, v2⟩ := u2
    replace hq : rr = nI v0 ∧ ((v1 = 0 ∧ ∃ i j, i < 2001 ∧ j < k ∧ (xs ((4 * jj) + 1)) = nI i ∧ (xs ((4 * jj) + 2)) = nI j ∧ ptR T V k i j v0) ∨ (v1 = 1 ∧ ¬ rg (xs ((4 * jj) + 1)) 0 2001) ∨ (v1 = 2 ∧ rg (xs ((4 * jj) + 1)) 0 2001 ∧ ¬ rg (xs ((4 * jj) + 2)) 0 k)) := hq
    obtain ⟨hr9, hq⟩ := hq
    replace hr9 := hr9.symm
    subst hr9
    have hP : va_P D vwCl ((wM r cI cZ cJ v1 k V C A T B P OR n PR ST li w WK so sp CT v2) ++ ((wX q cI cZ cJ k V C T B P A n PR ST li w WK so sp CT u.2.2.2 TA) ++ [(qo, .inl (cJ, 1, .inr (.inl (vp_updL O 0 ((nI u.2.2.1).toInt64)))))])) H := hP
    have hD : va_D (lA s) ((wM r cI cZ cJ v1 k V C A T B P OR n PR ST li w WK so sp CT v2) ++ ((wX q cI cZ cJ k V C T B P A n PR ST li w WK so sp CT u.2.2.2 TA) ++ [(qo, .inl (cJ, 1, .inr (.inl (vp_updL O 0 ((nI u.2.2.1).toInt64)))))])) := hD
    obtain ⟨e0, e1⟩ := q_part_0 hI.hk8 hp hq
    have e0 := e0.symm
    subst e0
    have e1 := e1.symm
    subst e1
    refine lv_istore (lv' := [(6, .int (nI u.2.2.1)), (5, .int (nI 0)), (4, .int (nI (4 * jj))), (3, .ref qo), (2, .ref (r 0)), (1, .ref (q 0)), (0, .ref b)]) hx hb dL_law_1152 hl (by decide) rfl (fun ls hl => ?_)
    refine lv_aload_n hx hb dL_law_1154 rfl (lv_at hl 4 rfl) ?_
    refine k3_i (mc := 0) (ms := 0) (wa := []) (wc := (wM r cI cZ cJ 0 k V C A T B P OR n PR ST li w WK so sp CT v2)) (wb := ((wX q cI cZ cJ k V C T B P A n PR ST li w WK so sp CT u.2.2.2 TA) ++ [(qo, .inl (cJ, 1, .inr (.inl (vp_updL O 0 ((nI u.2.2.1).toInt64)))))])) (va_runV (As := []) (rest := []) ⟨hx, hb, hml, hown, hts⟩ (c_X1_thrown l hst D r cI cZ cJ 0 k V C A T B P OR n PR ST li w WK so sp CT v2 H.size  ) (cwV 0 hts gL_law_X1_thrown rfl rfl rfl hd_X1_thrown ⟨(Nat.le_of_ble_eq_true rfl), (Nat.le_of_ble_eq_true rfl)⟩) (pre_V3 (wa := []) (wc := (wM r cI cZ cJ 0 k V C A T B P OR n PR ST li w WK so sp CT v2)) (wb := ((wX q cI cZ cJ k V C T B P A n PR ST li w WK so sp CT u.2.2.2 TA) ++ [(qo, .inl (cJ, 1, .inr (.inl (vp_updL O 0 ((nI u.2.2.1).toInt64)))))])) hP hK hD hS hA hZ hg 0 (ci := 1) rfl rfl) rfl rfl hl.1 rfl (lv_room (Nat.le_of_ble_eq_true rfl)) dL_law_1155 ⟨(show (((27 + 8 * jj) + 2) + 0) + 0 ≤ 601024 by omega), (show (((20244 + 64 * jj) + 12) + 0) + 0 ≤ 7293034 by omega)⟩) hP hD hS hA (fun rr u2 H locs hq hP hD hS => ?_)
    replace hq : rr = nI 0 := hq
    subst hq
    have hP : va_P D vwCl ((wM r cI cZ cJ 0 k V C A T B P OR n PR ST li w WK so sp CT v2) ++ ((wX q cI cZ cJ k V C T B P A n PR ST li w WK so sp CT u.2.2.2 TA) ++ [(qo, .inl (cJ, 1, .inr (.inl (vp_updL O 0 ((nI u.2.2.1).toInt64)))))])) H := hP
    have hD : va_D (lA s) ((wM r cI cZ cJ 0 k V C A T B P OR n PR ST li w WK so sp CT v2) ++ ((wX q cI cZ cJ k V C T B P A n PR ST li w WK so sp CT u.2.2.2 TA) ++ [(qo, .inl (cJ, 1, .inr (.inl (vp_updL O 0 ((nI u.2.2.1).toInt64)))))])) := hD
    refine lv_iload hx hb dL_law_1158 (lv_at hl 1 rfl) ?_
    refine lv_icmp_eq (tgt := 1165) hx hb dL_law_1160 (by decide) (fun _ => ?_) (fun h => absurd rfl h)
    refine lv_iload hx hb dL_law_1165 (lv_at hl 1 rfl) ?_
    refine n_if_ne (tgt := 1182) hx hb (by decide) dL_law_1167 (by decide) (fun c1167 => ?_) (fun c1167 => ?_)
    · exact absurd c1167 (by decide)
    · refine lv_aload_n hx hb dL_law_1170 rfl (lv_at hl 3 rfl) ?_
      refine lv_iconst (v := nI 0) hx hb dL_law_1171 (ic_0) ?_
      refine n_lald hx hb hK hP 26 2 rfl rfl (by decide) (by decide) dL_law_1172 ?_
      refine n_topl (show (vp_updL O 0 ((nI u.2.2.1).toInt64)) 0 = (nI u.2.2.1).toInt64 from updL_s) ?_
      refine lv_iload hx hb dL_law_1173 (lv_at hl 0 rfl) ?_
      refine lv_i2l hx hb dL_law_1175 rfl ?_
      refine n_lcmp_eq (tgt := 1182) hx hb dL_law_1176 dL_law_1177 (by decide) (fun _ => ?_) (fun h => absurd rfl h)
      refine lv_goto (tgt := 1433) hx hb dL_law_1182 (by decide) ?_
      refine W.widen (k := 27 + 8 * (jj + 1)) (n := 20244 + 64 * (jj + 1)) (by omega) (by omega) ?_
      exact hN 0 k V C T B P A OR n PR ST li w WK so sp CT u.2.2.2 TA v2 (vp_updL O 0 ((nI u.2.2.1).toInt64)) _ _ hI hP hD hS ls (lv_sub hl [2, 3, 4, 5, 6] rfl)
  · replace hp : rr = nI kk ∧ ((kk = 1 ∧ (¬ rg (xs ((4 * jj) + 1)) 0 2001)) ∨ (kk = 2 ∧ (rg (xs ((4 * jj) + 1)) 0 2001 ∧ ¬ rg (xs ((4 * jj) + 2)) 0 k))) := hp
    obtain ⟨rfl, hp⟩ := hp
    have hP : va_P D vwCl ((wM r cI cZ cJ th k V C A T B P OR n PR ST li w WK so sp CT FW) ++ ((wX q cI cZ cJ k V C T B P A n PR ST li w WK so sp CT SC TA) ++ [(qo, .inl (cJ, 1, .inr (.inl O)))])) H := hP
    have hD : va_D (lA s) ((wM r cI cZ cJ th k V C A T B P OR n PR ST li w WK so sp CT FW) ++ ((wX q cI cZ cJ k V C T B P A n PR ST li w WK so sp CT SC TA) ++ [(qo, .inl (cJ, 1, .inr (.inl O)))])) := hD
    rcases hp with ⟨rfl, hp⟩ | ⟨rfl, hp⟩
    · refine lv_istore (lv' := [(5, .int (nI 1)), (4, .int (nI (4 * jj))), (3, .ref qo), (2, .ref (r 0)), (1, .ref (q 0)), (0, .ref b)]) hx hb dL_law_1134 hl (by decide) rfl (fun ls hl => ?_)
      refine lv_aload_n hx hb dL_law_1136 rfl (lv_at hl 3 rfl) ?_
      refine lv_aload_n hx hb dL_law_1137 rfl (lv_at hl 5 rfl) ?_
      refine lv_iload hx hb dL_law_1138 (lv_at hl 1 rfl) ?_
      refine lv_iconst (v := nI 1) hx hb dL_law_1140 (ic_1) ?_
      refine n_iadd hx hb dL_law_1141 ?_
      refine n_sld hx hb hX hbl hbA hS (by omega) (by omega) dL_law_1142 ?_
      refine lv_aload_n hx hb dL_law_1143 rfl (lv_at hl 5 rfl) ?_
      refine lv_iload hx hb dL_law_1144 (lv_at hl 1 rfl) ?_
      refine lv_iconst (v := nI 2) hx hb dL_law_1146 (ic_2) ?_
      refine n_iadd hx hb dL_law_1147 ?_
      refine n_sld hx hb hX hbl hbA hS (by omega) (by omega) dL_law_1148 ?_
      refine k3_i (mc := 0) (ms := 0) (wa := []) (wc := (wM r cI cZ cJ th k V C A T B P OR n PR ST li w WK so sp CT FW)) (wb := ((wX q cI cZ cJ k V C T B P A n PR ST li w WK so sp CT SC TA) ++ [(qo, .inl (cJ, 1, .inr (.inl O)))])) (va_runV (As := [.int (xs ((4 * jj) + 1)), .int (xs ((4 * jj) + 2))]) (rest := []) ⟨hx, hb, hml, hown, hts⟩ (c_X1_part l hst D r cI cZ cJ th k V C A T B P OR n PR ST li w WK so sp CT FW H.size (xs ((4 * jj) + 1)) (xs ((4 * jj) + 2)) hI.hk8 hI.hV hI.hC hI.hOR) (cwV 2 hts gL_law_X1_part rfl rfl rfl hd_X1_part ⟨(Nat.le_of_ble_eq_true rfl), (Nat.le_of_ble_eq_true rfl)⟩) (pre_V3 (wa := []) (wc := (wM r cI cZ cJ th k V C A T B P OR n PR ST li w WK so sp CT FW)) (wb := ((wX q cI cZ cJ k V C T B P A n PR ST li w WK so sp CT SC TA) ++ [(qo, .inl (cJ, 1, .inr (.inl O)))])) hP hK hD hS hA hZ hg 0 (ci := 1) rfl rfl) rfl rfl hl.1 rfl (lv_room (Nat.le_of_ble_eq_true rfl)) dL_law_1149 ⟨(show ((27 + 8 * jj) + 2) + 0 ≤ 601024 by omega), (show ((20244 + 64 * jj) + 12) + 0 ≤ 7293034 by omega)⟩) hP hD hS hA (fun rr u2 H locs hq hP hD hS => ?_)
      obtain ⟨v0, v1, v2⟩ := u2
      replace hq : rr = nI v0 ∧ ((v1 = 0 ∧ ∃ i j, i < 2001 ∧ j < k ∧ (xs ((4 * jj) + 1)) = nI i ∧ (xs ((4 * jj) + 2)) = nI j ∧ ptR T V k i j v0) ∨ (v1 = 1 ∧ ¬ rg (xs ((4 * jj) + 1)) 0 2001) ∨ (v1 = 2 ∧ rg (xs ((4 * jj) + 1)) 0 2001 ∧ ¬ rg (xs ((4 * jj) + 2)) 0 k)) := hq
      obtain ⟨hr9, hq⟩ := hq
      replace hr9 := hr9.symm
      subst hr9
      have hP : va_P D vwCl ((wM r cI cZ cJ v1 k V C A T B P OR n PR ST li w WK so sp CT v2) ++ ((wX q cI cZ cJ k V C T B P A n PR ST li w WK so sp CT SC TA) ++ [(qo, .inl (cJ, 1, .inr (.inl O)))])) H := hP
      have hD : va_D (lA s) ((wM r cI cZ cJ v1 k V C A T B P OR n PR ST li w WK so sp CT v2) ++ ((wX q cI cZ cJ k V C T B P A n PR ST li w WK so sp CT SC TA) ++ [(qo, .inl (cJ, 1, .inr (.inl O)))])) := hD
      have e0 := q_part_1 hI.hk8 hp hq
      have e0 := e0.symm
      subst e0
      refine lv_istore (lv' := [(6, .int (nI v0)), (5, .int (nI 1)), (4, .int (nI (4 * jj))), (3, .ref qo), (2, .ref (r 0)), (1, .ref (q 0)), (0, .ref b)]) hx hb dL_law_1152 hl (by decide) rfl (fun ls hl => ?_)
      refine lv_aload_n hx hb dL_law_1154 rfl (lv_at hl 4 rfl) ?_
      refine k3_i (mc := 0) (ms := 0) (wa := []) (wc := (wM r cI cZ cJ 1 k V C A T B P OR n PR ST li w WK so sp CT v2)) (wb := ((wX q cI cZ cJ k V C T B P A n PR ST li w WK so sp CT SC TA) ++ [(qo, .inl (cJ, 1, .inr (.inl O)))])) (va_runV (As := []) (rest := []) ⟨hx, hb, hml, hown, hts⟩ (c_X1_thrown l hst D r cI cZ cJ 1 k V C A T B P OR n PR ST li w WK so sp CT v2 H.size  ) (cwV 0 hts gL_law_X1_thrown rfl rfl rfl hd_X1_thrown ⟨(Nat.le_of_ble_eq_true rfl), (Nat.le_of_ble_eq_true rfl)⟩) (pre_V3 (wa := []) (wc := (wM r cI cZ cJ 1 k V C A T B P OR n PR ST li w WK so sp CT v2)) (wb := ((wX q cI cZ cJ k V C T B P A n PR ST li w WK so sp CT SC TA) ++ [(qo, .inl (cJ, 1, .inr (.inl O)))])) hP hK hD hS hA hZ hg 0 (ci := 1) rfl rfl) rfl rfl hl.1 rfl (lv_room (Nat.le_of_ble_eq_true rfl)) dL_law_1155 ⟨(show (((27 + 8 * jj) + 2) + 0) + 0 ≤ 601024 by omega), (show (((20244 + 64 * jj) + 12) + 0) + 0 ≤ 7293034 by omega)⟩) hP hD hS hA (fun rr u2 H locs hq hP hD hS => ?_)
      replace hq : rr = nI 1 := hq
      subst hq
      have hP : va_P D vwCl ((wM r cI cZ cJ 1 k V C A T B P OR n PR ST li w WK so sp CT v2) ++ ((wX q cI cZ cJ k V C T B P A n PR ST li w WK so sp CT SC TA) ++ [(qo, .inl (cJ, 1, .inr (.inl O)))])) H := hP
      have hD : va_D (lA s) ((wM r cI cZ cJ 1 k V C A T B P OR n PR ST li w WK so sp CT v2) ++ ((wX q cI cZ cJ k V C T B P A n PR ST li w WK so sp CT SC TA) ++ [(qo, .inl (cJ, 1, .inr (.inl O)))])) := hD
      refine lv_iload hx hb dL_law_1158 (lv_at hl 1 rfl) ?_
      refine lv_icmp_eq (tgt := 1165) hx hb dL_law_1160 (by decide) (fun _ => ?_) (fun h => absurd rfl h)
      refine lv_iload hx hb dL_law_1165 (lv_at hl 1 rfl) ?_
      refine n_if_ne (tgt := 1182) hx hb (by decide) dL_law_1167 (by decide) (fun c1167 => ?_) (fun c1167 => ?_)
      · refine lv_goto (tgt := 1433) hx hb dL_law_1182 (by decide) ?_
        refine W.widen (k := 27 + 8 * (jj + 1)) (n := 20244 + 64 * (jj + 1)) (by omega) (by omega) ?_
        exact hN 1 k V C T B P A OR n PR ST li w WK so sp CT SC TA v2 O _ _ hI hP hD hS ls (lv_sub hl [2, 3, 4, 5, 6] rfl)
      · exact absurd c1167 (by decide)
    · refine lv_istore (lv' := [(5, .int (nI 2)), (4, .int (nI (4 * jj))), (3, .ref qo), (2, .ref (r 0)), (1, .ref (q 0)), (0, .ref b)]) hx hb dL_law_1134 hl (by decide) rfl (fun ls hl => ?_)
      refine lv_aload_n hx hb dL_law_1136 rfl (lv_at hl 3 rfl) ?_
      refine lv_aload_n hx hb dL_law_1137 rfl (lv_at hl 5 rfl) ?_
      refine lv_iload hx hb dL_law_1138 (lv_at hl 1 rfl) ?_
      refine lv_iconst (v := nI 1) hx hb dL_law_1140 (ic_1) ?_
      refine n_iadd hx hb dL_law_1141 ?_
      refine n_sld hx hb hX hbl hbA hS (by omega) (by omega) dL_law_1142 ?_
      refine lv_aload_n hx hb dL_law_1143 rfl (lv_at hl 5 rfl) ?_
      refine lv_iload hx hb dL_law_1144 (lv_at hl 1 rfl) ?_
      refine lv_iconst (v := nI 2) hx hb dL_law_1146 (ic_2) ?_
      refine n_iadd hx hb dL_law_1147 ?_
      refine n_sld hx hb hX hbl hbA hS (by omega) (by omega) dL_law_1148 ?_
      refine k3_i (mc := 0) (ms := 0) (wa := []) (wc := (wM r cI cZ cJ th k V C A T B P OR n PR ST li w WK so sp CT FW)) (wb := ((wX q cI cZ cJ k V C T B P A n PR ST li w WK so sp CT SC TA) ++ [(qo, .inl (cJ, 1, .inr (.inl O)))])) (va_runV (As := [.int (xs ((4 * jj) + 1)), .int (xs ((4 * jj) + 2))]) (rest := []) ⟨hx, hb, hml, hown, hts⟩ (c_X1_part l hst D r cI cZ cJ th k V C A T B P OR n PR ST li w WK so sp CT FW H.size (xs ((4 * jj) + 1)) (xs ((4 * jj) + 2)) hI.hk8 hI.hV hI.hC hI.hOR) (cwV 2 hts gL_law_X1_part rfl rfl rfl hd_X1_part ⟨(Nat.le_of_ble_eq_true rfl), (Nat.le_of_ble_eq_true rfl)⟩) (pre_V3 (wa := []) (wc := (wM r cI cZ cJ th k V C A T B P OR n PR ST li w WK so sp CT FW)) (wb := ((wX q cI cZ cJ k V C T B P A n PR ST li w WK so sp CT SC TA) ++ [(qo, .inl (cJ, 1, .inr (.inl O)))])) hP hK hD hS hA hZ hg 0 (ci := 1) rfl rfl) rfl rfl hl.1 rfl (lv_room (Nat.le_of_ble_eq_true rfl)) dL_law_1149 ⟨(show ((27 + 8 * jj) + 2) + 0 ≤ 601024 by omega), (show ((20244 + 64 * jj) + 12) + 0 ≤ 7293034 by omega)⟩) hP hD hS hA (fun rr u2 H locs hq hP hD hS => ?_)
      obtain ⟨v0, v1, v2⟩ := u2
      replace hq : rr = nI v0 ∧ ((v1 = 0 ∧ ∃ i j, i < 2001 ∧ j < k ∧ (xs ((4 * jj) + 1)) = nI i ∧ (xs ((4 * jj) + 2)) = nI j ∧ ptR T V k i j v0) ∨ (v1 = 1 ∧ ¬ rg (xs ((4 * jj) + 1)) 0 2001) ∨ (v1 = 2 ∧ rg (xs ((4 * jj) + 1)) 0 2001 ∧ ¬ rg (xs ((4 * jj) + 2)) 0 k)) := hq
      obtain ⟨hr9, hq⟩ := hq
      replace hr9 := hr9.symm
      subst hr9
      have hP : va_P D vwCl ((wM r cI cZ cJ v1 k V C A T B P OR n PR ST li w WK so sp CT v2) ++ ((wX q cI cZ cJ k V C T B P A n PR ST li w WK so sp CT SC TA) ++ [(qo, .inl (cJ, 1, .inr (.inl O)))])) H := hP
      have hD : va_D (lA s) ((wM r cI cZ cJ v1 k V C A T B P OR n PR ST li w WK so sp CT v2) ++ ((wX q cI cZ cJ k V C T B P A n PR ST li w WK so sp CT SC TA) ++ [(qo, .inl (cJ, 1, .inr (.inl O)))])) := hD
      have e0 := q_part_2 hI.hk8 hp hq
      have e0 := e0.symm
      subst e0
      refine lv_istore (lv' := [(6, .int (nI v0)), (5, .int (nI 2)), (4, .int (nI (4 * jj))), (3, .ref qo), (2, .ref (r 0)), (1, .ref (q 0)), (0, .ref b)]) hx hb dL_law_1152 hl (by decide) rfl (fun ls hl => ?_)
      refine lv_aload_n hx hb dL_law_1154 rfl (lv_at hl 4 rfl) ?_
      refine k3_i (mc := 0) (ms := 0) (wa := []) (wc := (wM r cI cZ cJ 2 k V C A T B P OR n PR ST li w WK so sp CT v2)) (wb := ((wX q cI cZ cJ k V C T B P A n PR ST li w WK so sp CT SC TA) ++ [(qo, .inl (cJ, 1, .inr (.inl O)))])) (va_runV (As := []) (rest := []) ⟨hx, hb, hml, hown, hts⟩ (c_X1_thrown l hst D r cI cZ cJ 2 k V C A T B P OR n PR ST li w WK so sp CT v2 H.size  ) (cwV 0 hts gL_law_X1_thrown rfl rfl rfl hd_X1_thrown ⟨(Nat.le_of_ble_eq_true rfl), (Nat.le_of_ble_eq_true rfl)⟩) (pre_V3 (wa := []) (wc := (wM r cI cZ cJ 2 k V C A T B P OR n PR ST li w WK so sp CT v2)) (wb := ((wX q cI cZ cJ k V C T B P A n PR ST li w WK so sp CT SC TA) ++ [(qo, .inl (cJ, 1, .inr (.inl O)))])) hP hK hD hS hA hZ hg 0 (ci := 1) rfl rfl) rfl rfl hl.1 rfl (lv_room (Nat.le_of_ble_eq_true rfl)) dL_law_1155 ⟨(show (((27 + 8 * jj) + 2) + 0) + 0 ≤ 601024 by omega), (show (((20244 + 64 * jj) + 12) + 0) + 0 ≤ 7293034 by omega)⟩) hP hD hS hA (fun rr u2 H locs hq hP hD hS => ?_)
      replace hq : rr = nI 2 := hq
      subst hq
      have hP : va_P D vwCl ((wM r cI cZ cJ 2 k V C A T B P OR n PR ST li w WK so sp CT v2) ++ ((wX q cI cZ cJ k V C T B P A n PR ST li w WK so sp CT SC TA) ++ [(qo, .inl (cJ, 1, .inr (.inl O)))])) H := hP
      have hD : va_D (lA s) ((wM r cI cZ cJ 2 k V C A T B P OR n PR ST li w WK so sp CT v2) ++ ((wX q cI cZ cJ k V C T B P A n PR ST li w WK so sp CT SC TA) ++ [(qo, .inl (cJ, 1, .inr (.inl O)))])) := hD
      refine lv_iload hx hb dL_law_1158 (lv_at hl 1 rfl) ?_
      refine lv_icmp_eq (tgt := 1165) hx hb dL_law_1160 (by decide) (fun _ => ?_) (fun h => absurd rfl h)
      refine lv_iload hx hb dL_law_1165 (lv_at hl 1 rfl) ?_
      refine n_if_ne (tgt := 1182) hx hb (by decide) dL_law_1167 (by decide) (fun c1167 => ?_) (fun c1167 => ?_)
      · refine lv_goto (tgt := 1433) hx hb dL_law_1182 (by decide) ?_
        refine W.widen (k := 27 + 8 * (jj + 1)) (n := 20244 + 64 * (jj + 1)) (by omega) (by omega) ?_
        exact hN 2 k V C T B P A OR n PR ST li w WK so sp CT SC TA v2 O _ _ hI hP hD hS ls (lv_sub hl [2, 3, 4, 5, 6] rfl)
      · exact absurd c1167 (by decide)

set_option maxHeartbeats 8000000 in
set_option maxRecDepth 100000 in
theorem lw_below (hst : l.stackTraces = false) (hc : Lc p s m meth c b L xs D cI cZ cJ) {r q : Nat → Nat} {qo jj : Nat} (hj : 4 * jj + 4 ≤ L) {th : Nat} {k : Nat} {V : Nat → Nat} {C : Nat → Nat} {T : Nat → Nat} {B : Nat → Nat} {P : Nat → Nat} {A : Nat → Nat} {OR : Nat → Nat} {n : Nat} {PR : Nat → Nat} {ST : Nat → Nat} {li : Nat} {w : Nat} {WK : Nat → Nat} {so : Nat} {sp : Nat} {CT : Nat → Int64} {SC : Nat → Int} {TA : Nat → Nat} {FW : Nat → Nat} {O : Nat → Int64} {H : Heap} {locs : List Loc} (hI : IV k V C T A OR n PR ST li w WK so sp) (hP : va_P D vwCl (wL r q qo cI cZ cJ th k V C T B P A OR n PR ST li w WK so sp CT SC TA FW O) H) (hD : va_D (lA s) (wL r q qo cI cZ cJ th k V C T B P A OR n PR ST li w WK so sp CT SC TA FW O)) (hS : va_S (lA s) s.heap H locs) {ls : Array Slot} (hl : lv_has ls 9 [(4, .int (nI (4 * jj))), (3, .ref qo), (2, .ref (r 0)), (1, .ref (q 0)), (0, .ref b)]) (hN : Nx p l e s m below meth c b D r q qo cI cZ cJ Q jj) : W p l e room_1 s m #[Value.ref b] below meth c H locs (27 + 8 * jj) (20244 + 64 * jj) Q (F0 m 1185 ls []) := by
  obtain ⟨hx, hb, hr, hml, hown, hts, hX, hbl, hlocks, hK, hZ, hg, hn, hL⟩ := hc
  have hA : ∀ q9 : Nat, s.heap.size ≤ q9 → lA s q9 := fun _ h => h
  have hbA : ¬ lA s b := Nat.not_le.mpr hbl
  have hP : va_P D vwCl ((wM r cI cZ cJ th k V C A T B P OR n PR ST li w WK so sp CT FW) ++ ((wX q cI cZ cJ k V C T B P A n PR ST li w WK so sp CT SC TA) ++ [(qo, .inl (cJ, 1, .inr (.inl O)))])) H := hP
  have hD : va_D (lA s) ((wM r cI cZ cJ th k V C A T B P OR n PR ST li w WK so sp CT FW) ++ ((wX q cI cZ cJ k V C T B P A n PR ST li w WK so sp CT SC TA) ++ [(qo, .inl (cJ, 1, .inr (.inl O)))])) := hD
  refine lv_aload_n hx hb dL_law_1185 rfl (lv_at hl 3 rfl) ?_
  refine lv_aload_n hx hb dL_law_1186 rfl (lv_at hl 4 rfl) ?_
  refine lv_iload hx hb dL_law_1187 (lv_at hl 0 rfl) ?_
  refine lv_iconst (v := nI 1) hx hb dL_law_1189 (ic_1) ?_
  refine n_iadd hx hb dL_law_1190 ?_
  refine n_sld hx hb hX hbl hbA hS (by omega) (by omega) dL_law_1191 ?_
  refine lv_aload_n hx hb dL_law_1192 rfl (lv_at hl 1 rfl) ?_
  refine k3_i (mc := 1) (ms := 6) (wa := (wM r cI cZ cJ th k V C A T B P OR n PR ST li w WK so sp CT FW)) (wc := ((wX q cI cZ cJ k V C T B P A n PR ST li w WK so sp CT SC TA) ++ [(qo, .inl (cJ, 1, .inr (.inl O)))])) (wb := []) (vx_runSW (As := [.ref (q 0), .int (xs ((4 * jj) + 1)), .ref qo]) (rest := []) ⟨hx, hb, hml, hown, hts⟩ (c_L_below l hst D q qo cI cZ cJ k V C T B P A n PR ST li w WK so sp CT SC TA O H.size (xs ((4 * jj) + 1)) hI.hk8 hI.hV hI.hC) (vx_cwSW 3 hts gL_law_L_below rfl rfl rfl hd_L_below.2 ⟨(Nat.le_of_ble_eq_true rfl), (Nat.le_of_ble_eq_true rfl)⟩) (pre_N (wa := (wM r cI cZ cJ th k V C A T B P OR n PR ST li w WK so sp CT FW)) (wc := ((wX q cI cZ cJ k V C T B P A n PR ST li w WK so sp CT SC TA) ++ [(qo, .inl (cJ, 1, .inr (.inl O)))])) (wb := []) hP hK hD hS hA hZ hg hn) rfl rfl hl.1 rfl (lv_room (Nat.le_of_ble_eq_true rfl)) dL_law_1193 ⟨(show (27 + 8 * jj) + 1 ≤ 601024 by omega), (show (20244 + 64 * jj) + 6 ≤ 7293034 by omega)⟩) hP hD hS hA (fun rr u H locs hp hP hD hS => ?_)
  rcases u with u | kk
  · replace hp : rr = nI 0 ∧ (u.1 < 2001 ∧ (xs ((4 * jj) + 1)) = nI u.1 ∧ blR T V k u.1 u.2.1) := hp
    obtain ⟨rfl, hp⟩ := hp
    have hP : va_P D vwCl ((wM r cI cZ cJ th k V C A T B P OR n PR ST li w WK so sp CT FW) ++ ((wX q cI cZ cJ k V C T B P A n PR ST li w WK so sp CT u.2.2 TA) ++ [(qo, .inl (cJ, 1, .inr (.inl (vp_updL O 0 ((nI u.2.1).toInt64)))))])) H := hP
    have hD : va_D (lA s) ((wM r cI cZ cJ th k V C A T B P OR n PR ST li w WK so sp CT FW) ++ ((wX q cI cZ cJ k V C T B P A n PR ST li w WK so sp CT u.2.2 TA) ++ [(qo, .inl (cJ, 1, .inr (.inl (vp_updL O 0 ((nI u.2.1).toInt64)))))])) := hD
    refine lv_istore (lv' := [(5, .int (nI 0)), (4, .int (nI (4 * jj))), (3, .ref qo), (2, .ref (r 0)), (1, .ref (q 0)), (0, .ref b)]) hx hb dL_law_1196 hl (by decide) rfl (fun ls hl => ?_)
    refine lv_aload_n hx hb dL_law_1198 rfl (lv_at hl 3 rfl) ?_
    refine lv_aload_n hx hb dL_law_1199 rfl (lv_at hl 5 rfl) ?_
    refine lv_iload hx hb dL_law_1200 (lv_at hl 1 rfl) ?_
    refine lv_iconst (v := nI 1) hx hb dL_law_1202 (ic_1) ?_
    refine n_iadd hx hb dL_law_1203 ?_
    refine n_sld hx hb hX hbl hbA hS (by omega) (by omega) dL_law_1204 ?_
    refine k3_i (mc := 0) (ms := 0) (wa := []) (wc := (wM r cI cZ cJ th k V C A T B P OR n PR ST li w WK so sp CT FW)) (wb := ((wX q cI cZ cJ k V C T B P A n PR ST li w WK so sp CT u.2.2 TA) ++ [(qo, .inl (cJ, 1, .inr (.inl (vp_updL O 0 ((nI u.2.1).toInt64)))))])) (va_runV (As := [.int (xs ((4 * jj) + 1))]) (rest := []) ⟨hx, hb, hml, hown, hts⟩ (c_X1_below l hst D r cI cZ cJ th k V C A T B P OR n PR ST li w WK so sp CT FW H.size (xs ((4 * jj) + 1)) hI.hk8 hI.hV hI.hC hI.hOR) (cwV 1 hts gL_law_X1_below rfl rfl rfl hd_X1_below ⟨(Nat.le_of_ble_eq_true rfl), (Nat.le_of_ble_eq_true rfl)⟩) (pre_V3 (wa := []) (wc := (wM r cI cZ cJ th k V C A T B P OR n PR ST li w WK so sp CT FW)) (wb := ((wX q cI cZ cJ k V C T B P A n PR ST li w WK so sp CT u.2.2 TA) ++ [(qo, .inl (cJ, 1, .inr (.inl (vp_updL O 0 ((nI u.2.1).toInt64)))))])) hP hK hD hS hA hZ hg 0 (ci := 1) rfl rfl) rfl rfl hl.1 rfl (lv_room (Nat.le_of_ble_eq_true rfl)) dL_law_1205 ⟨(show ((27 + 8 * jj) + 1) + 0 ≤ 601024 by omega), (show ((20244 + 64 * jj) + 6) + 0 ≤ 7293034 by omega)⟩) hP hD hS hA (fun rr u2 H locs hq hP hD hS => ?_)
    obtain ⟨v0, v1, v2⟩ := u2
    replace hq : rr = nI v0 ∧ ((v1 = 0 ∧ ∃ i, i < 2001 ∧ (xs ((4 * jj) + 1)) = nI i ∧ blR T V k i v0) ∨ (v1 = 1 ∧ ¬ rg (xs ((4 * jj) + 1)) 0 2001)) := hq
    obtain ⟨hr9, hq⟩ := hq
    replace hr9 := hr9.symm
    subst hr9
    have hP : va_P D vwCl ((wM r cI cZ cJ v1 k V C A T B P OR n PR ST li w WK so sp CT v2) ++ ((wX q cI cZ cJ k V C T B P A n PR ST li w WK so sp CT u.2.2 TA) ++ [(qo, .inl (cJ, 1, .inr (.inl (vp_updL O 0 ((nI u.2.1).toInt64)))))])) H := hP
    have hD : va_D (lA s) ((wM r cI cZ cJ v1 k V C A T B P OR n PR ST li w WK so sp CT v2) ++ ((wX q cI cZ cJ k V C T B P A n PR ST li w WK so sp CT u.2.2 TA) ++ [(qo, .inl (cJ, 1, .inr (.inl (vp_updL O 0 ((nI u.2.1).toInt64)))))])) := hD
    obtain ⟨e0, e1⟩ := q_below_0  hp hq
    have e0 := e0.symm
    subst e0
    have e1 := e1.symm
    subst e1
    refine lv_istore (lv' := [(6, .int (nI u.2.1)), (5, .int (nI 0)), (4, .int (nI (4 * jj))), (3, .ref qo), (2, .ref (r 0)), (1, .ref (q 0)), (0, .ref b)]) hx hb dL_law_1208 hl (by decide) rfl (fun ls hl => ?_)
    refine lv_aload_n hx hb dL_law_1210 rfl (lv_at hl 4 rfl) ?_
    refine k3_i (mc := 0) (ms := 0) (wa := []) (wc := (wM r cI cZ cJ 0 k V C A T B P OR n PR ST li w WK so sp CT v2)) (wb := ((wX q cI cZ cJ k V C T B P A n PR ST li w WK so sp CT u.2.2 TA) ++ [(qo, .inl (cJ, 1, .inr (.inl (vp_updL O 0 ((nI u.2.1).toInt64)))))])) (va_runV (As := []) (rest := []) ⟨hx, hb, hml, hown, hts⟩ (c_X1_thrown l hst D r cI cZ cJ 0 k V C A T B P OR n PR ST li w WK so sp CT v2 H.size  ) (cwV 0 hts gL_law_X1_thrown rfl rfl rfl hd_X1_thrown ⟨(Nat.le_of_ble_eq_true rfl), (Nat.le_of_ble_eq_true rfl)⟩) (pre_V3 (wa := []) (wc := (wM r cI cZ cJ 0 k V C A T B P OR n PR ST li w WK so sp CT v2)) (wb := ((wX q cI cZ cJ k V C T B P A n PR ST li w WK so sp CT u.2.2 TA) ++ [(qo, .inl (cJ, 1, .inr (.inl (vp_updL O 0 ((nI u.2.1).toInt64)))))])) hP hK hD hS hA hZ hg 0 (ci := 1) rfl rfl) rfl rfl hl.1 rfl (lv_room (Nat.le_of_ble_eq_true rfl)) dL_law_1211 ⟨(show (((27 + 8 * jj) + 1) + 0) + 0 ≤ 601024 by omega), (show (((20244 + 64 * jj) + 6) + 0) + 0 ≤ 7293034 by omega)⟩) hP hD hS hA (fun rr u2 H locs hq hP hD hS => ?_)
    replace hq : rr = nI 0 := hq
    subst hq
    have hP : va_P D vwCl ((wM r cI cZ cJ 0 k V C A T B P OR n PR ST li w WK so sp CT v2) ++ ((wX q cI cZ cJ k V C T B P A n PR ST li w WK so sp CT u.2.2 TA) ++ [(qo, .inl (cJ, 1, .inr (.inl (vp_updL O 0 ((nI u.2.1).toInt64)))))])) H := hP
    have hD : va_D (lA s) ((wM r cI cZ cJ 0 k V C A T B P OR n PR ST li w WK so sp CT v2) ++ ((wX q cI cZ cJ k V C T B P A n PR ST li w WK so sp CT u.2.2 TA) ++ [(qo, .inl (cJ, 1, .inr (.inl (vp_updL O 0 ((nI u.2.1).toInt64)))))])) := hD
    refine lv_iload hx hb dL_law_1214 (lv_at hl 1 rfl) ?_
    refine lv_icmp_eq (tgt := 1221) hx hb dL_law_1216 (by decide) (fun _ => ?_) (fun h => absurd rfl h)
    refine lv_iload hx hb dL_law_1221 (lv_at hl 1 rfl) ?_
    refine n_if_ne (tgt := 1238) hx hb (by decide) dL_law_1223 (by decide) (fun c1223 => ?_) (fun c1223 => ?_)
    · exact absurd c1223 (by decide)
    · refine lv_aload_n hx hb dL_law_1226 rfl (lv_at hl 3 rfl) ?_
      refine lv_iconst (v := nI 0) hx hb dL_law_1227 (ic_0) ?_
      refine n_lald hx hb hK hP 26 2 rfl rfl (by decide) (by decide) dL_law_1228 ?_
      refine n_topl (show (vp_updL O 0 ((nI u.2.1).toInt64)) 0 = (nI u.2.1).toInt64 from updL_s) ?_
      refine lv_iload hx hb dL_law_1229 (lv_at hl 0 rfl) ?_
      refine lv_i2l hx hb dL_law_1231 rfl ?_
      refine n_lcmp_eq (tgt := 1238) hx hb dL_law_1232 dL_law_1233 (by decide) (fun _ => ?_) (fun h => absurd rfl h)
      refine lv_goto (tgt := 1433) hx hb dL_law_1238 (by decide) ?_
      refine W.widen (k := 27 + 8 * (jj + 1)) (n := 20244 + 64 * (jj + 1)) (by omega) (by omega) ?_
      exact hN 0 k V C T B P A OR n PR ST li w WK so sp CT u.2.2 TA v2 (vp_updL O 0 ((nI u.2.1).toInt64)) _ _ hI hP hD hS ls (lv_sub hl [2, 3, 4, 5, 6] rfl)
  · replace hp : rr = nI kk ∧ ((kk = 1 ∧ (¬ rg (xs ((4 * jj) + 1)) 0 2001))) := hp
    obtain ⟨rfl, hp⟩ := hp
    have hP : va_P D vwCl ((wM r cI cZ cJ th k V C A T B P OR n PR ST li w WK so sp CT FW) ++ ((wX q cI cZ cJ k V C T B P A n PR ST li w WK so sp CT SC TA) ++ [(qo, .inl (cJ, 1, .inr (.inl O)))])) H := hP
    have hD : va_D (lA s) ((wM r cI cZ cJ th k V C A T B P OR n PR ST li w WK so sp CT FW) ++ ((wX q cI cZ cJ k V C T B P A n PR ST li w WK so sp CT SC TA) ++ [(qo, .inl (cJ, 1, .inr (.inl O)))])) := hD
    obtain ⟨rfl, hp⟩ := hp
    refine lv_istore (lv' := [(5, .int (nI 1)), (4, .int (nI (4 * jj))), (3, .ref qo), (2, .ref (r 0)), (1, .ref (q 0)), (0, .ref b)]) hx hb dL_law_1196 hl (by decide) rfl (fun ls hl => ?_)
    refine lv_aload_n hx hb dL_law_1198 rfl (lv_at hl 3 rfl) ?_
    refine lv_aload_n hx hb dL_law_1199 rfl (lv_at hl 5 rfl) ?_
    refine lv_iload hx hb dL_law_1200 (lv_at hl 1 rfl) ?_
    refine lv_iconst (v := nI 1) hx hb dL_law_1202 (ic_1) ?_
    refine n_iadd hx hb dL_law_1203 ?_
    refine n_sld hx hb hX hbl hbA hS (by omega) (by omega) dL_law_1204 ?_
    refine k3_i (mc := 0) (ms := 0) (wa := []) (wc := (wM r cI cZ cJ th k V C A T B P OR n PR ST li w WK so sp CT FW)) (wb := ((wX q cI cZ cJ k V C T B P A n PR ST li w WK so sp CT SC TA) ++ [(qo, .inl (cJ, 1, .inr (.inl O)))])) (va_runV (As := [.int (xs ((4 * jj) + 1))]) (rest := []) ⟨hx, hb, hml, hown, hts⟩ (c_X1_below l hst D r cI cZ cJ th k V C A T B P OR n PR ST li w WK so sp CT FW H.size (xs ((4 * jj) + 1)) hI.hk8 hI.hV hI.hC hI.hOR) (cwV 1 hts gL_law_X1_below rfl rfl rfl hd_X1_below ⟨(Nat.le_of_ble_eq_true rfl), (Nat.le_of_ble_eq_true rfl)⟩) (pre_V3 (wa := []) (wc := (wM r cI cZ cJ th k V C A T B P OR n PR ST li w WK so sp CT FW)) (wb := ((wX q cI cZ cJ k V C T B P A n PR ST li w WK so sp CT SC TA) ++ [(qo, .inl (cJ, 1, .inr (.inl O)))])) hP hK hD hS hA hZ hg 0 (ci := 1) rfl rfl) rfl rfl hl.1 rfl (lv_room (Nat.le_of_ble_eq_true rfl)) dL_law_1205 ⟨(show ((27 + 8 * jj) + 1) + 0 ≤ 601024 by omega), (show ((20244 + 64 * jj) + 6) + 0 ≤ 7293034 by omega)⟩) hP hD hS hA (fun rr u2 H locs hq hP hD hS => ?_)
    obtain ⟨v0, v1, v2⟩ := u2
    replace hq : rr = nI v0 ∧ ((v1 = 0 ∧ ∃ i, i < 2001 ∧ (xs ((4 * jj) + 1)) = nI i ∧ blR T V k i v0) ∨ (v1 = 1 ∧ ¬ rg (xs ((4 * jj) + 1)) 0 2001)) := hq
    obtain ⟨hr9, hq⟩ := hq
    replace hr9 := hr9.symm
    subst hr9
    have hP : va_P D vwCl ((wM r cI cZ cJ v1 k V C A T B P OR n PR ST li w WK so sp CT v2) ++ ((wX q cI cZ cJ k V C T B P A n PR ST li w WK so sp CT SC TA) ++ [(qo, .inl (cJ, 1, .inr (.inl O)))])) H := hP
    have hD : va_D (lA s) ((wM r cI cZ cJ v1 k V C A T B P OR n PR ST li w WK so sp CT v2) ++ ((wX q cI cZ cJ k V C T B P A n PR ST li w WK so sp CT SC TA) ++ [(qo, .inl (cJ, 1, .inr (.inl O)))])) := hD
    have e0 := q_below_1  hp hq
    have e0 := e0.symm
    subst e0
    refine lv_istore (lv' := [(6, .int (nI v0)), (5, .int (nI 1)), (4, .int (nI (4 * jj))), (3, .ref qo), (2, .ref (r 0)), (1, .ref (q 0)), (0, .ref b)]) hx hb dL_law_1208 hl (by decide) rfl (fun ls hl => ?_)
    refine lv_aload_n hx hb dL_law_1210 rfl (lv_at hl 4 rfl) ?_
    refine k3_i (mc := 0) (ms := 0) (wa := []) (wc := (wM r cI cZ cJ 1 k V C A T B P OR n PR ST li w WK so sp CT v2)) (wb := ((wX q cI cZ cJ k V C T B P A n PR ST li w WK so sp CT SC TA) ++ [(qo, .inl (cJ, 1, .inr (.inl O)))])) (va_runV (As := []) (rest := []) ⟨hx, hb, hml, hown, hts⟩ (c_X1_thrown l hst D r cI cZ cJ 1 k V C A T B P OR n PR ST li w WK so sp CT v2 H.size  ) (cwV 0 hts gL_law_X1_thrown rfl rfl rfl hd_X1_thrown ⟨(Nat.le_of_ble_eq_true rfl), (Nat.le_of_ble_eq_true rfl)⟩) (pre_V3 (wa := []) (wc := (wM r cI cZ cJ 1 k V C A T B P OR n PR ST li w WK so sp CT v2)) (wb := ((wX q cI cZ cJ k V C T B P A n PR ST li w WK so sp CT SC TA) ++ [(qo, .inl (cJ, 1, .inr (.inl O)))])) hP hK hD hS hA hZ hg 0 (ci := 1) rfl rfl) rfl rfl hl.1 rfl (lv_room (Nat.le_of_ble_eq_true rfl)) dL_law_1211 ⟨(show (((27 + 8 * jj) + 1) + 0) + 0 ≤ 601024 by omega), (show (((20244 + 64 * jj) + 6) + 0) + 0 ≤ 7293034 by omega)⟩) hP hD hS hA (fun rr u2 H locs hq hP hD hS => ?_)
    replace hq : rr = nI 1 := hq
    subst hq
    have hP : va_P D vwCl ((wM r cI cZ cJ 1 k V C A T B P OR n PR ST li w WK so sp CT v2) ++ ((wX q cI cZ cJ k V C T B P A n PR ST li w WK so sp CT SC TA) ++ [(qo, .inl (cJ, 1, .inr (.inl O)))])) H := hP
    have hD : va_D (lA s) ((wM r cI cZ cJ 1 k V C A T B P OR n PR ST li w WK so sp CT v2) ++ ((wX q cI cZ cJ k V C T B P A n PR ST li w WK so sp CT SC TA) ++ [(qo, .inl (cJ, 1, .inr (.inl O)))])) := hD
    refine lv_iload hx hb dL_law_1214 (lv_at hl 1 rfl) ?_
    refine lv_icmp_eq (tgt := 1221) hx hb dL_law_1216 (by decide) (fun _ => ?_) (fun h => absurd rfl h)
    refine lv_iload hx hb dL_law_1221 (lv_at hl 1 rfl) ?_
    refine n_if_ne (tgt := 1238) hx hb (by decide) dL_law_1223 (by decide) (fun c1223 => ?_) (fun c1223 => ?_)
    · refine lv_goto (tgt := 1433) hx hb dL_law_1238 (by decide) ?_
      refine W.widen (k := 27 + 8 * (jj + 1)) (n := 20244 + 64 * (jj + 1)) (by omega) (by omega) ?_
      exact hN 1 k V C T B P A OR n PR ST li w WK so sp CT SC TA v2 O _ _ hI hP hD hS ls (lv_sub hl [2, 3, 4, 5, 6] rfl)
    · exact absurd c1223 (by decide)

set_option maxHeartbeats 8000000 in
set_option maxRecDepth 100000 in
theorem lw_gaps (hst : l.stackTraces = false) (hc : Lc p s m meth c b L xs D cI cZ cJ) {r q : Nat → Nat} {qo jj : Nat} (hj : 4 * jj + 4 ≤ L) {th : Nat} {k : Nat} {V : Nat → Nat} {C : Nat → Nat} {T : Nat → Nat} {B : Nat → Nat} {P : Nat → Nat} {A : Nat → Nat} {OR : Nat → Nat} {n : Nat} {PR : Nat → Nat} {ST : Nat → Nat} {li : Nat} {w : Nat} {WK : Nat → Nat} {so : Nat} {sp : Nat} {CT : Nat → Int64} {SC : Nat → Int} {TA : Nat → Nat} {FW : Nat → Nat} {O : Nat → Int64} {H : Heap} {locs : List Loc} (hI : IV k V C T A OR n PR ST li w WK so sp) (hP : va_P D vwCl (wL r q qo cI cZ cJ th k V C T B P A OR n PR ST li w WK so sp CT SC TA FW O) H) (hD : va_D (lA s) (wL r q qo cI cZ cJ th k V C T B P A OR n PR ST li w WK so sp CT SC TA FW O)) (hS : va_S (lA s) s.heap H locs) {ls : Array Slot} (hl : lv_has ls 9 [(4, .int (nI (4 * jj))), (3, .ref qo), (2, .ref (r 0)), (1, .ref (q 0)), (0, .ref b)]) (hN : Nx p l e s m below meth c b D r q qo cI cZ cJ Q jj) : W p l e room_1 s m #[Value.ref b] below meth c H locs (27 + 8 * jj) (20244 + 64 * jj) Q (F0 m 1241 ls []) := by
  obtain ⟨hx, hb, hr, hml, hown, hts, hX, hbl, hlocks, hK, hZ, hg, hn, hL⟩ := hc
  have hA : ∀ q9 : Nat, s.heap.size ≤ q9 → lA s q9 := fun _ h => h
  have hbA : ¬ lA s b := Nat.not_le.mpr hbl
  have hP : va_P D vwCl ((wM r cI cZ cJ th k V C A T B P OR n PR ST li w WK so sp CT FW) ++ ((wX q cI cZ cJ k V C T B P A n PR ST li w WK so sp CT SC TA) ++ [(qo, .inl (cJ, 1, .inr (.inl O)))])) H := hP
  have hD : va_D (lA s) ((wM r cI cZ cJ th k V C A T B P OR n PR ST li w WK so sp CT FW) ++ ((wX q cI cZ cJ k V C T B P A n PR ST li w WK so sp CT SC TA) ++ [(qo, .inl (cJ, 1, .inr (.inl O)))])) := hD
  refine lv_aload_n hx hb dL_law_1241 rfl (lv_at hl 3 rfl) ?_
  refine lv_aload_n hx hb dL_law_1242 rfl (lv_at hl 4 rfl) ?_
  refine lv_iload hx hb dL_law_1243 (lv_at hl 0 rfl) ?_
  refine lv_iconst (v := nI 1) hx hb dL_law_1245 (ic_1) ?_
  refine n_iadd hx hb dL_law_1246 ?_
  refine n_sld hx hb hX hbl hbA hS (by omega) (by omega) dL_law_1247 ?_
  refine lv_aload_n hx hb dL_law_1248 rfl (lv_at hl 1 rfl) ?_
  refine k3_i (mc := 1) (ms := 6) (wa := (wM r cI cZ cJ th k V C A T B P OR n PR ST li w WK so sp CT FW)) (wc := ((wX q cI cZ cJ k V C T B P A n PR ST li w WK so sp CT SC TA) ++ [(qo, .inl (cJ, 1, .inr (.inl O)))])) (wb := []) (vx_runSW (As := [.ref (q 0), .int (xs ((4 * jj) + 1)), .ref qo]) (rest := []) ⟨hx, hb, hml, hown, hts⟩ (c_L_gaps l hst D q qo cI cZ cJ k V C T B P A n PR ST li w WK so sp CT SC TA O H.size (xs ((4 * jj) + 1)) hI.hk8 hI.hV hI.hC) (vx_cwSW 3 hts gL_law_L_gaps rfl rfl rfl hd_L_gaps.2 ⟨(Nat.le_of_ble_eq_true rfl), (Nat.le_of_ble_eq_true rfl)⟩) (pre_N (wa := (wM r cI cZ cJ th k V C A T B P OR n PR ST li w WK so sp CT FW)) (wc := ((wX q cI cZ cJ k V C T B P A n PR ST li w WK so sp CT SC TA) ++ [(qo, .inl (cJ, 1, .inr (.inl O)))])) (wb := []) hP hK hD hS hA hZ hg hn) rfl rfl hl.1 rfl (lv_room (Nat.le_of_ble_eq_true rfl)) dL_law_1249 ⟨(show (27 + 8 * jj) + 1 ≤ 601024 by omega), (show (20244 + 64 * jj) + 6 ≤ 7293034 by omega)⟩) hP hD hS hA (fun rr u H locs hp hP hD hS => ?_)
  rcases u with u | kk
  · replace hp : rr = nI 0 ∧ (u.1 < 2001 ∧ (xs ((4 * jj) + 1)) = nI u.1) := hp
    obtain ⟨rfl, hp⟩ := hp
    have hP : va_P D vwCl ((wM r cI cZ cJ th k V C A T B P OR n PR ST li w WK so sp CT FW) ++ ((wX q cI cZ cJ k V C T B P A n PR ST li w WK so sp CT u.2 TA) ++ [(qo, .inl (cJ, 1, .inr (.inl (vp_updL O 0 ((nI (gpR T V k u.1)).toInt64)))))])) H := hP
    have hD : va_D (lA s) ((wM r cI cZ cJ th k V C A T B P OR n PR ST li w WK so sp CT FW) ++ ((wX q cI cZ cJ k V C T B P A n PR ST li w WK so sp CT u.2 TA) ++ [(qo, .inl (cJ, 1, .inr (.inl (vp_updL O 0 ((nI (gpR T V k u.1)).toInt64)))))])) := hD
    refine lv_istore (lv' := [(5, .int (nI 0)), (4, .int (nI (4 * jj))), (3, .ref qo), (2, .ref (r 0)), (1, .ref (q 0)), (0, .ref b)]) hx hb dL_law_1252 hl (by decide) rfl (fun ls hl => ?_)
    refine lv_aload_n hx hb dL_law_1254 rfl (lv_at hl 3 rfl) ?_
    refine lv_aload_n hx hb dL_law_1255 rfl (lv_at hl 5 rfl) ?_
    refine lv_iload hx hb dL_law_1256 (lv_at hl 1 rfl) ?_
    refine lv_iconst (v := nI 1) hx hb dL_law_1258 (ic_1) ?_
    refine n_iadd hx hb dL_law_1259 ?_
    refine n_sld hx hb hX hbl hbA hS (by omega) (by omega) dL_law_1260 ?_
    refine k3_i (mc := 0) (ms := 0) (wa := []) (wc := (wM r cI cZ cJ th k V C A T B P OR n PR ST li w WK so sp CT FW)) (wb := ((wX q cI cZ cJ k V C T B P A n PR ST li w WK so sp CT u.2 TA) ++ [(qo, .inl (cJ, 1, .inr (.inl (vp_updL O 0 ((nI (gpR T V k u.1)).toInt64)))))])) (va_runV (As := [.int (xs ((4 * jj) + 1))]) (rest := []) ⟨hx, hb, hml, hown, hts⟩ (c_X1_gaps l hst D r cI cZ cJ th k V C A T B P OR n PR ST li w WK so sp CT FW H.size (xs ((4 * jj) + 1)) hI.hk8 hI.hV hI.hC hI.hOR) (cwV 1 hts gL_law_X1_gaps rfl rfl rfl hd_X1_gaps ⟨(Nat.le_of_ble_eq_true rfl), (Nat.le_of_ble_eq_true rfl)⟩) (pre_V3 (wa := []) (wc := (wM r cI cZ cJ th k V C A T B P OR n PR ST li w WK so sp CT FW)) (wb := ((wX q cI cZ cJ k V C T B P A n PR ST li w WK so sp CT u.2 TA) ++ [(qo, .inl (cJ, 1, .inr (.inl (vp_updL O 0 ((nI (gpR T V k u.1)).toInt64)))))])) hP hK hD hS hA hZ hg 0 (ci := 1) rfl rfl) rfl rfl hl.1 rfl (lv_room (Nat.le_of_ble_eq_true rfl)) dL_law_1261 ⟨(show ((27 + 8 * jj) + 1) + 0 ≤ 601024 by omega), (show ((20244 + 64 * jj) + 6) + 0 ≤ 7293034 by omega)⟩) hP hD hS hA (fun rr u2 H locs hq hP hD hS => ?_)
    obtain ⟨v0, v1, v2⟩ := u2
    replace hq : rr = nI v0 ∧ ((v1 = 0 ∧ ∃ i, i < 2001 ∧ (xs ((4 * jj) + 1)) = nI i ∧ v0 = gpR T V k i) ∨ (v1 = 1 ∧ ¬ rg (xs ((4 * jj) + 1)) 0 2001)) := hq
    obtain ⟨hr9, hq⟩ := hq
    replace hr9 := hr9.symm
    subst hr9
    have hP : va_P D vwCl ((wM r cI cZ cJ v1 k V C A T B P OR n PR ST li w WK so sp CT v2) ++ ((wX q cI cZ cJ k V C T B P A n PR ST li w WK so sp CT u.2 TA) ++ [(qo, .inl (cJ, 1, .inr (.inl (vp_updL O 0 ((nI (gpR T V k u.1)).toInt64)))))])) H := hP
    have hD : va_D (lA s) ((wM r cI cZ cJ v1 k V C A T B P OR n PR ST li w WK so sp CT v2) ++ ((wX q cI cZ cJ k V C T B P A n PR ST li w WK so sp CT u.2 TA) ++ [(qo, .inl (cJ, 1, .inr (.inl (vp_updL O 0 ((nI (gpR T V k u.1)).toInt64)))))])) := hD
    obtain ⟨e0, e1⟩ := q_gaps_0  hp hq
    have e0 := e0.symm
    subst e0
    have e1 := e1.symm
    subst e1
    refine lv_istore (lv' := [(6, .int (nI (gpR T V k u.1))), (5, .int (nI 0)), (4, .int (nI (4 * jj))), (3, .ref qo), (2, .ref (r 0)), (1, .ref (q 0)), (0, .ref b)]) hx hb dL_law_1264 hl (by decide) rfl (fun ls hl => ?_)
    refine lv_aload_n hx hb dL_law_1266 rfl (lv_at hl 4 rfl) ?_
    refine k3_i (mc := 0) (ms := 0) (wa := []) (wc := (wM r cI cZ cJ 0 k V C A T B P OR n PR ST li w WK so sp CT v2)) (wb := ((wX q cI cZ cJ k V C T B P A n PR ST li w WK so sp CT u.2 TA) ++ [(qo, .inl (cJ, 1, .inr (.inl (vp_updL O 0 ((nI (gpR T V k u.1)).toInt64)))))])) (va_runV (As := []) (rest := []) ⟨hx, hb, hml, hown, hts⟩ (c_X1_thrown l hst D r cI cZ cJ 0 k V C A T B P OR n PR ST li w WK so sp CT v2 H.size  ) (cwV 0 hts gL_law_X1_thrown rfl rfl rfl hd_X1_thrown ⟨(Nat.le_of_ble_eq_true rfl), (Nat.le_of_ble_eq_true rfl)⟩) (pre_V3 (wa := []) (wc := (wM r cI cZ cJ 0 k V C A T B P OR n PR ST li w WK so sp CT v2)) (wb := ((wX q cI cZ cJ k V C T B P A n PR ST li w WK so sp CT u.2 TA) ++ [(qo, .inl (cJ, 1, .inr (.inl (vp_updL O 0 ((nI (gpR T V k u.1)).toInt64)))))])) hP hK hD hS hA hZ hg 0 (ci := 1) rfl rfl) rfl rfl hl.1 rfl (lv_room (Nat.le_of_ble_eq_true rfl)) dL_law_1267 ⟨(show (((27 + 8 * jj) + 1) + 0) + 0 ≤ 601024 by omega), (show (((20244 + 64 * jj) + 6) + 0) + 0 ≤ 7293034 by omega)⟩) hP hD hS hA (fun rr u2 H locs hq hP hD hS => ?_)
    replace hq : rr = nI 0 := hq
    subst hq
    have hP : va_P D vwCl ((wM r cI cZ cJ 0 k V C A T B P OR n PR ST li w WK so sp CT v2) ++ ((wX q cI cZ cJ k V C T B P A n PR ST li w WK so sp CT u.2 TA) ++ [(qo, .inl (cJ, 1, .inr (.inl (vp_updL O 0 ((nI (gpR T V k u.1)).toInt64)))))])) H := hP
    have hD : va_D (lA s) ((wM r cI cZ cJ 0 k V C A T B P OR n PR ST li w WK so sp CT v2) ++ ((wX q cI cZ cJ k V C T B P A n PR ST li w WK so sp CT u.2 TA) ++ [(qo, .inl (cJ, 1, .inr (.inl (vp_updL O 0 ((nI (gpR T V k u.1)).toInt64)))))])) := hD
    refine lv_iload hx hb dL_law_1270 (lv_at hl 1 rfl) ?_
    refine lv_icmp_eq (tgt := 1277) hx hb dL_law_1272 (by decide) (fun _ => ?_) (fun h => absurd rfl h)
    refine lv_iload hx hb dL_law_1277 (lv_at hl 1 rfl) ?_
    refine n_if_ne (tgt := 1294) hx hb (by decide) dL_law_1279 (by decide) (fun c1279 => ?_) (fun c1279 => ?_)
    · exact absurd c1279 (by decide)
    · refine lv_aload_n hx hb dL_law_1282 rfl (lv_at hl 3 rfl) ?_
      refine lv_iconst (v := nI 0) hx hb dL_law_1283 (ic_0) ?_
      refine n_lald hx hb hK hP 26 2 rfl rfl (by decide) (by decide) dL_law_1284 ?_
      refine n_topl (show (vp_updL O 0 ((nI (gpR T V k u.1)).toInt64)) 0 = (nI (gpR T V k u.1)).toInt64 from updL_s) ?_
      refine lv_iload hx hb dL_law_1285 (lv_at hl 0 rfl) ?_
      refine lv_i2l hx hb dL_law_1287 rfl ?_
      refine n_lcmp_eq (tgt := 1294) hx hb dL_law_1288 dL_law_1289 (by decide) (fun _ => ?_) (fun h => absurd rfl h)
      refine lv_goto (tgt := 1433) hx hb dL_law_1294 (by decide) ?_
      refine W.widen (k := 27 + 8 * (jj + 1)) (n := 20244 + 64 * (jj + 1)) (by omega) (by omega) ?_
      exact hN 0 k V C T B P A OR n PR ST li w WK so sp CT u.2 TA v2 (vp_updL O 0 ((nI (gpR T V k u.1)).toInt64)) _ _ hI hP hD hS ls (lv_sub hl [2, 3, 4, 5, 6] rfl)
  · replace hp : rr = nI kk ∧ ((kk = 1 ∧ (¬ rg (xs ((4 * jj) + 1)) 0 2001))) := hp
    obtain ⟨rfl, hp⟩ := hp
    have hP : va_P D vwCl ((wM r cI cZ cJ th k V C A T B P OR n PR ST li w WK so sp CT FW) ++ ((wX q cI cZ cJ k V C T B P A n PR ST li w WK so sp CT SC TA) ++ [(qo, .inl (cJ, 1, .inr (.inl O)))])) H := hP
    have hD : va_D (lA s) ((wM r cI cZ cJ th k V C A T B P OR n PR ST li w WK so sp CT FW) ++ ((wX q cI cZ cJ k V C T B P A n PR ST li w WK so sp CT SC TA) ++ [(qo, .inl (cJ, 1, .inr (.inl O)))])) := hD
    obtain ⟨rfl, hp⟩ := hp
    refine lv_istore (lv' := [(5, .int (nI 1)), (4, .int (nI (4 * jj))), (3, .ref qo), (2, .ref (r 0)), (1, .ref (q 0)), (0, .ref b)]) hx hb dL_law_1252 hl (by decide) rfl (fun ls hl => ?_)
    refine lv_aload_n hx hb dL_law_1254 rfl (lv_at hl 3 rfl) ?_
    refine lv_aload_n hx hb dL_law_1255 rfl (lv_at hl 5 rfl) ?_
    refine lv_iload hx hb dL_law_1256 (lv_at hl 1 rfl) ?_
    refine lv_iconst (v := nI 1) hx hb dL_law_1258 (ic_1) ?_
    refine n_iadd hx hb dL_law_1259 ?_
    refine n_sld hx hb hX hbl hbA hS (by omega) (by omega) dL_law_1260 ?_
    refine k3_i (mc := 0) (ms := 0) (wa := []) (wc := (wM r cI cZ cJ th k V C A T B P OR n PR ST li w WK so sp CT FW)) (wb := ((wX q cI cZ cJ k V C T B P A n PR ST li w WK so sp CT SC TA) ++ [(qo, .inl (cJ, 1, .inr (.inl O)))])) (va_runV (As := [.int (xs ((4 * jj) + 1))]) (rest := []) ⟨hx, hb, hml, hown, hts⟩ (c_X1_gaps l hst D r cI cZ cJ th k V C A T B P OR n PR ST li w WK so sp CT FW H.size (xs ((4 * jj) + 1)) hI.hk8 hI.hV hI.hC hI.hOR) (cwV 1 hts gL_law_X1_gaps rfl rfl rfl hd_X1_gaps ⟨(Nat.le_of_ble_eq_true rfl), (Nat.le_of_ble_eq_true rfl)⟩) (pre_V3 (wa := []) (wc := (wM r cI cZ cJ th k V C A T B P OR n PR ST li w WK so sp CT FW)) (wb := ((wX q cI cZ cJ k V C T B P A n PR ST li w WK so sp CT SC TA) ++ [(qo, .inl (cJ, 1, .inr (.inl O)))])) hP hK hD hS hA hZ hg 0 (ci := 1) rfl rfl) rfl rfl hl.1 rfl (lv_room (Nat.le_of_ble_eq_true rfl)) dL_law_1261 ⟨(show ((27 + 8 * jj) + 1) + 0 ≤ 601024 by omega), (show ((20244 + 64 * jj) + 6) + 0 ≤ 7293034 by omega)⟩) hP hD hS hA (fun rr u2 H locs hq hP hD hS => ?_)
    obtain ⟨v0, v1, v2⟩ := u2
    replace hq : rr = nI v0 ∧ ((v1 = 0 ∧ ∃ i, i < 2001 ∧ (xs ((4 * jj) + 1)) = nI i ∧ v0 = gpR T V k i) ∨ (v1 = 1 ∧ ¬ rg (xs ((4 * jj) + 1)) 0 2001)) := hq
    obtain ⟨hr9, hq⟩ := hq
    replace hr9 := hr9.symm
    subst hr9
    have hP : va_P D vwCl ((wM r cI cZ cJ v1 k V C A T B P OR n PR ST li w WK so sp CT v2) ++ ((wX q cI cZ cJ k V C T B P A n PR ST li w WK so sp CT SC TA) ++ [(qo, .inl (cJ, 1, .inr (.inl O)))])) H := hP
    have hD : va_D (lA s) ((wM r cI cZ cJ v1 k V C A T B P OR n PR ST li w WK so sp CT v2) ++ ((wX q cI cZ cJ k V C T B P A n PR ST li w WK so sp CT SC TA) ++ [(qo, .inl (cJ, 1, .inr (.inl O)))])) := hD
    have e0 := q_gaps_1  hp hq
    have e0 := e0.symm
    subst e0
    refine lv_istore (lv' := [(6, .int (nI v0)), (5, .int (nI 1)), (4, .int (nI (4 * jj))), (3, .ref qo), (2, .ref (r 0)), (1, .ref (q 0)), (0, .ref b)]) hx hb dL_law_1264 hl (by decide) rfl (fun ls hl => ?_)
    refine lv_aload_n hx hb dL_law_1266 rfl (lv_at hl 4 rfl) ?_
    refine k3_i (mc := 0) (ms := 0) (wa := []) (wc := (wM r cI cZ cJ 1 k V C A T B P OR n PR ST li w WK so sp CT v2)) (wb := ((wX q cI cZ cJ k V C T B P A n PR ST li w WK so sp CT SC TA) ++ [(qo, .inl (cJ, 1, .inr (.inl O)))])) (va_runV (As := []) (rest := []) ⟨hx, hb, hml, hown, hts⟩ (c_X1_thrown l hst D r cI cZ cJ 1 k V C A T B P OR n PR ST li w WK so sp CT v2 H.size  ) (cwV 0 hts gL_law_X1_thrown rfl rfl rfl hd_X1_thrown ⟨(Nat.le_of_ble_eq_true rfl), (Nat.le_of_ble_eq_true rfl)⟩) (pre_V3 (wa := []) (wc := (wM r cI cZ cJ 1 k V C A T B P OR n PR ST li w WK so sp CT v2)) (wb := ((wX q cI cZ cJ k V C T B P A n PR ST li w WK so sp CT SC TA) ++ [(qo, .inl (cJ, 1, .inr (.inl O)))])) hP hK hD hS hA hZ hg 0 (ci := 1) rfl rfl) rfl rfl hl.1 rfl (lv_room (Nat.le_of_ble_eq_true rfl)) dL_law_1267 ⟨(show (((27 + 8 * jj) + 1) + 0) + 0 ≤ 601024 by omega), (show (((20244 + 64 * jj) + 6) + 0) + 0 ≤ 7293034 by omega)⟩) hP hD hS hA (fun rr u2 H locs hq hP hD hS => ?_)
    replace hq : rr = nI 1 := hq
    subst hq
    have hP : va_P D vwCl ((wM r cI cZ cJ 1 k V C A T B P OR n PR ST li w WK so sp CT v2) ++ ((wX q cI cZ cJ k V C T B P A n PR ST li w WK so sp CT SC TA) ++ [(qo, .inl (cJ, 1, .inr (.inl O)))])) H := hP
    have hD : va_D (lA s) ((wM r cI cZ cJ 1 k V C A T B P OR n PR ST li w WK so sp CT v2) ++ ((wX q cI cZ cJ k V C T B P A n PR ST li w WK so sp CT SC TA) ++ [(qo, .inl (cJ, 1, .inr (.inl O)))])) := hD
    refine lv_iload hx hb dL_law_1270 (lv_at hl 1 rfl) ?_
    refine lv_icmp_eq (tgt := 1277) hx hb dL_law_1272 (by decide) (fun _ => ?_) (fun h => absurd rfl h)
    refine lv_iload hx hb dL_law_1277 (lv_at hl 1 rfl) ?_
    refine n_if_ne (tgt := 1294) hx hb (by decide) dL_law_1279 (by decide) (fun c1279 => ?_) (fun c1279 => ?_)
    · refine lv_goto (tgt := 1433) hx hb dL_law_1294 (by decide) ?_
      refine W.widen (k := 27 + 8 * (jj + 1)) (n := 20244 + 64 * (jj + 1)) (by omega) (by omega) ?_
      exact hN 1 k V C T B P A OR n PR ST li w WK so sp CT SC TA v2 O _ _ hI hP hD hS ls (lv_sub hl [2, 3, 4, 5, 6] rfl)
    · exact absurd c1279 (by decide)

end LW
