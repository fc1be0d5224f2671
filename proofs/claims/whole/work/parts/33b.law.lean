section LW
variable {p : Program} {l : Launch} {e : Env} {s : State} {m : MethodId} {below : List Frame} {meth : Method} {c : Code} {b L : Nat} {xs : Nat → Int32} {D : va_G} {cI cZ cJ : ClassId} {Q : State → Prop}

set_option maxHeartbeats 8000000 in
set_option maxRecDepth 100000 in
theorem lw_setLimit (hst : l.stackTraces = false) (hc : Lc p s m meth c b L xs D cI cZ cJ) {r q : Nat → Nat} {qo jj : Nat} (hj : 4 * jj + 4 ≤ L) {th : Nat} {k : Nat} {V : Nat → Nat} {C : Nat → Nat} {T : Nat → Nat} {B : Nat → Nat} {P : Nat → Nat} {A : Nat → Nat} {OR : Nat → Nat} {n : Nat} {PR : Nat → Nat} {ST : Nat → Nat} {li : Nat} {w : Nat} {WK : Nat → Nat} {so : Nat} {sp : Nat} {CT : Nat → Int64} {SC : Nat → Int} {TA : Nat → Nat} {FW : Nat → Nat} {O : Nat → Int64} {H : Heap} {locs : List Loc} (hI : IV k V C T A OR n PR ST li w WK so sp) (hP : va_P D vwCl (wL r q qo cI cZ cJ th k V C T B P A OR n PR ST li w WK so sp CT SC TA FW O) H) (hD : va_D (lA s) (wL r q qo cI cZ cJ th k V C T B P A OR n PR ST li w WK so sp CT SC TA FW O)) (hS : va_S (lA s) s.heap H locs) {ls : Array Slot} (hl : lv_has ls 9 [(4, .int (nI (4 * jj))), (3, .ref qo), (2, .ref (r 0)), (1, .ref (q 0)), (0, .ref b)]) (hN : Nx p l e s m below meth c b D r q qo cI cZ cJ Q jj) : W p l e room_1 s m #[Value.ref b] below meth c H locs (27 + 8 * jj) (20244 + 64 * jj) Q (F0 m 460 ls []) := by
  obtain ⟨hx, hb, hr, hml, hown, hts, hX, hbl, hlocks, hK, hZ, hg, hn, hL⟩ := hc
  have hA : ∀ q9 : Nat, s.heap.size ≤ q9 → lA s q9 := fun _ h => h
  have hbA : ¬ lA s b := Nat.not_le.mpr hbl
  have hP : va_P D vwCl ((wM r cI cZ cJ th k V C A T B P OR n PR ST li w WK so sp CT FW) ++ ((wX q cI cZ cJ k V C T B P A n PR ST li w WK so sp CT SC TA) ++ [(qo, .inl (cJ, 1, .inr (.inl O)))])) H := hP
  have hD : va_D (lA s) ((wM r cI cZ cJ th k V C A T B P OR n PR ST li w WK so sp CT FW) ++ ((wX q cI cZ cJ k V C T B P A n PR ST li w WK so sp CT SC TA) ++ [(qo, .inl (cJ, 1, .inr (.inl O)))])) := hD
  refine lv_aload_n hx hb dL_law_460 rfl (lv_at hl 3 rfl) ?_
  refine lv_aload_n hx hb dL_law_461 rfl (lv_at hl 4 rfl) ?_
  refine lv_iload hx hb dL_law_462 (lv_at hl 0 rfl) ?_
  refine lv_iconst (v := nI 1) hx hb dL_law_464 (ic_1) ?_
  refine n_iadd hx hb dL_law_465 ?_
  refine n_sld hx hb hX hbl hbA hS (by omega) (by omega) dL_law_466 ?_
  refine lv_aload_n hx hb dL_law_467 rfl (lv_at hl 1 rfl) ?_
  refine k3_i (mc := 1) (ms := 6) (wa := (wM r cI cZ cJ th k V C A T B P OR n PR ST li w WK so sp CT FW)) (wc := ((wX q cI cZ cJ k V C T B P A n PR ST li w WK so sp CT SC TA) ++ [(qo, .inl (cJ, 1, .inr (.inl O)))])) (wb := []) (vx_runSW (As := [.ref (q 0), .int (xs ((4 * jj) + 1)), .ref qo]) (rest := []) ⟨hx, hb, hml, hown, hts⟩ (c_L_setLimit l hst D q qo cI cZ cJ k V C T B P A n PR ST li w WK so sp CT SC TA O H.size (xs ((4 * jj) + 1)) ) (vx_cwSW 3 hts gL_law_L_setLimit rfl rfl rfl hd_L_setLimit.2 ⟨(Nat.le_of_ble_eq_true rfl), (Nat.le_of_ble_eq_true rfl)⟩) (pre_N (wa := (wM r cI cZ cJ th k V C A T B P OR n PR ST li w WK so sp CT FW)) (wc := ((wX q cI cZ cJ k V C T B P A n PR ST li w WK so sp CT SC TA) ++ [(qo, .inl (cJ, 1, .inr (.inl O)))])) (wb := []) hP hK hD hS hA hZ hg hn) rfl rfl hl.1 rfl (lv_room (Nat.le_of_ble_eq_true rfl)) dL_law_468 ⟨(show (27 + 8 * jj) + 1 ≤ 601024 by omega), (show (20244 + 64 * jj) + 6 ≤ 7293034 by omega)⟩) hP hD hS hA (fun rr u H locs hp hP hD hS => ?_)
  rcases u with u | kk
  · replace hp : rr = nI 0 ∧ (u < 2001 ∧ (xs ((4 * jj) + 1)) = nI u) := hp
    obtain ⟨rfl, hp⟩ := hp
    have hP : va_P D vwCl ((wM r cI cZ cJ th k V C A T B P OR n PR ST li w WK so sp CT FW) ++ ((wX q cI cZ cJ k V C T B P A n PR ST u w WK so sp CT SC TA) ++ [(qo, .inl (cJ, 1, .inr (.inl (vp_updL O 0 ((nI li).toInt64)))))])) H := hP
    have hD : va_D (lA s) ((wM r cI cZ cJ th k V C A T B P OR n PR ST li w WK so sp CT FW) ++ ((wX q cI cZ cJ k V C T B P A n PR ST u w WK so sp CT SC TA) ++ [(qo, .inl (cJ, 1, .inr (.inl (vp_updL O 0 ((nI li).toInt64)))))])) := hD
    refine lv_istore (lv' := [(5, .int (nI 0)), (4, .int (nI (4 * jj))), (3, .ref qo), (2, .ref (r 0)), (1, .ref (q 0)), (0, .ref b)]) hx hb dL_law_471 hl (by decide) rfl (fun ls hl => ?_)
    refine lv_aload_n hx hb dL_law_473 rfl (lv_at hl 3 rfl) ?_
    refine lv_aload_n hx hb dL_law_474 rfl (lv_at hl 5 rfl) ?_
    refine lv_iload hx hb dL_law_475 (lv_at hl 1 rfl) ?_
    refine lv_iconst (v := nI 1) hx hb dL_law_477 (ic_1) ?_
    refine n_iadd hx hb dL_law_478 ?_
    refine n_sld hx hb hX hbl hbA hS (by omega) (by omega) dL_law_479 ?_
    refine k3_i (mc := 0) (ms := 0) (wa := []) (wc := (wM r cI cZ cJ th k V C A T B P OR n PR ST li w WK so sp CT FW)) (wb := ((wX q cI cZ cJ k V C T B P A n PR ST u w WK so sp CT SC TA) ++ [(qo, .inl (cJ, 1, .inr (.inl (vp_updL O 0 ((nI li).toInt64)))))])) (va_runV (As := [.int (xs ((4 * jj) + 1))]) (rest := []) ⟨hx, hb, hml, hown, hts⟩ (c_X1_setLimit l hst D r cI cZ cJ th k V C A T B P OR n PR ST li w WK so sp CT FW H.size (xs ((4 * jj) + 1)) ) (cwV 1 hts gL_law_X1_setLimit rfl rfl rfl hd_X1_setLimit ⟨(Nat.le_of_ble_eq_true rfl), (Nat.le_of_ble_eq_true rfl)⟩) (pre_V3 (wa := []) (wc := (wM r cI cZ cJ th k V C A T B P OR n PR ST li w WK so sp CT FW)) (wb := ((wX q cI cZ cJ k V C T B P A n PR ST u w WK so sp CT SC TA) ++ [(qo, .inl (cJ, 1, .inr (.inl (vp_updL O 0 ((nI li).toInt64)))))])) hP hK hD hS hA hZ hg 0 (ci := 1) rfl rfl) rfl rfl hl.1 rfl (lv_room (Nat.le_of_ble_eq_true rfl)) dL_law_480 ⟨(show ((27 + 8 * jj) + 1) + 0 ≤ 601024 by omega), (show ((20244 + 64 * jj) + 6) + 0 ≤ 7293034 by omega)⟩) hP hD hS hA (fun rr u2 H locs hq hP hD hS => ?_)
    obtain ⟨v0, v1, v2⟩ := u2
    replace hq : rr = nI v0 ∧ ((v1 = 0 ∧ v0 = li ∧ v2 < 2001 ∧ (xs ((4 * jj) + 1)) = nI v2) ∨ (v1 = 1 ∧ ¬ rg (xs ((4 * jj) + 1)) 0 2001 ∧ v2 = li)) := hq
    obtain ⟨hr9, hq⟩ := hq
    replace hr9 := hr9.symm
    subst hr9
    have hP : va_P D vwCl ((wM r cI cZ cJ v1 k V C A T B P OR n PR ST v2 w WK so sp CT FW) ++ ((wX q cI cZ cJ k V C T B P A n PR ST u w WK so sp CT SC TA) ++ [(qo, .inl (cJ, 1, .inr (.inl (vp_updL O 0 ((nI li).toInt64)))))])) H := hP
    have hD : va_D (lA s) ((wM r cI cZ cJ v1 k V C A T B P OR n PR ST v2 w WK so sp CT FW) ++ ((wX q cI cZ cJ k V C T B P A n PR ST u w WK so sp CT SC TA) ++ [(qo, .inl (cJ, 1, .inr (.inl (vp_updL O 0 ((nI li).toInt64)))))])) := hD
    obtain ⟨e0, e1, f0⟩ := q_setLimit_0  hp hq
    have e0 := e0.symm
    subst e0
    have e1 := e1.symm
    subst e1
    have f0 := f0.symm
    subst f0
    have hI2 := iv_setLimit hI hp.1
    refine lv_istore (lv' := [(6, .int (nI li)), (5, .int (nI 0)), (4, .int (nI (4 * jj))), (3, .ref qo), (2, .ref (r 0)), (1, .ref (q 0)), (0, .ref b)]) hx hb dL_law_483 hl (by decide) rfl (fun ls hl => ?_)
    refine lv_aload_n hx hb dL_law_485 rfl (lv_at hl 4 rfl) ?_
    refine k3_i (mc := 0) (ms := 0) (wa := []) (wc := (wM r cI cZ cJ 0 k V C A T B P OR n PR ST u w WK so sp CT FW)) (wb := ((wX q cI cZ cJ k V C T B P A n PR ST u w WK so sp CT SC TA) ++ [(qo, .inl (cJ, 1, .inr (.inl (vp_updL O 0 ((nI li).toInt64)))))])) (va_runV (As := []) (rest := []) ⟨hx, hb, hml, hown, hts⟩ (c_X1_thrown l hst D r cI cZ cJ 0 k V C A T B P OR n PR ST u w WK so sp CT FW H.size  ) (cwV 0 hts gL_law_X1_thrown rfl rfl rfl hd_X1_thrown ⟨(Nat.le_of_ble_eq_true rfl), (Nat.le_of_ble_eq_true rfl)⟩) (pre_V3 (wa := []) (wc := (wM r cI cZ cJ 0 k V C A T B P OR n PR ST u w WK so sp CT FW)) (wb := ((wX q cI cZ cJ k V C T B P A n PR ST u w WK so sp CT SC TA) ++ [(qo, .inl (cJ, 1, .inr (.inl (vp_updL O 0 ((nI li).toInt64)))))])) hP hK hD hS hA hZ hg 0 (ci := 1) rfl rfl) rfl rfl hl.1 rfl (lv_room (Nat.le_of_ble_eq_true rfl)) dL_law_486 ⟨(show (((27 + 8 * jj) + 1) + 0) + 0 ≤ 601024 by omega), (show (((20244 + 64 * jj) + 6) + 0) + 0 ≤ 7293034 by omega)⟩) hP hD hS hA (fun rr u2 H locs hq hP hD hS => ?_)
    replace hq : rr = nI 0 := hq
    subst hq
    have hP : va_P D vwCl ((wM r cI cZ cJ 0 k V C A T B P OR n PR ST u w WK so sp CT FW) ++ ((wX q cI cZ cJ k V C T B P A n PR ST u w WK so sp CT SC TA) ++ [(qo, .inl (cJ, 1, .inr (.inl (vp_updL O 0 ((nI li).toInt64)))))])) H := hP
    have hD : va_D (lA s) ((wM r cI cZ cJ 0 k V C A T B P OR n PR ST u w WK so sp CT FW) ++ ((wX q cI cZ cJ k V C T B P A n PR ST u w WK so sp CT SC TA) ++ [(qo, .inl (cJ, 1, .inr (.inl (vp_updL O 0 ((nI li).toInt64)))))])) := hD
    refine lv_iload hx hb dL_law_489 (lv_at hl 1 rfl) ?_
    refine lv_icmp_eq (tgt := 496) hx hb dL_law_491 (by decide) (fun _ => ?_) (fun h => absurd rfl h)
    refine lv_iload hx hb dL_law_496 (lv_at hl 1 rfl) ?_
    refine n_if_ne (tgt := 513) hx hb (by decide) dL_law_498 (by decide) (fun c498 => ?_) (fun c498 => ?_)
    · exact absurd c498 (by decide)
    · refine lv_aload_n hx hb dL_law_501 rfl (lv_at hl 3 rfl) ?_
      refine lv_iconst (v := nI 0) hx hb dL_law_502 (ic_0) ?_
      refine n_lald hx hb hK hP 26 2 rfl rfl (by decide) (by decide) dL_law_503 ?_
      refine n_topl (show (vp_updL O 0 ((nI li).toInt64)) 0 = (nI li).toInt64 from updL_s) ?_
      refine lv_iload hx hb dL_law_504 (lv_at hl 0 rfl) ?_
      refine lv_i2l hx hb dL_law_506 rfl ?_
      refine n_lcmp_eq (tgt := 513) hx hb dL_law_507 dL_law_508 (by decide) (fun _ => ?_) (fun h => absurd rfl h)
      refine lv_goto (tgt := 1433) hx hb dL_law_513 (by decide) ?_
      refine W.widen (k := 27 + 8 * (jj + 1)) (n := 20244 + 64 * (jj + 1)) (by omega) (by omega) ?_
      exact hN 0 k V C T B P A OR n PR ST u w WK so sp CT SC TA FW (vp_updL O 0 ((nI li).toInt64)) _ _ hI2 hP hD hS ls (lv_sub hl [2, 3, 4, 5, 6] rfl)
  · replace hp : rr = nI kk ∧ ((kk = 1 ∧ (¬ rg (xs ((4 * jj) + 1)) 0 2001))) := hp
    obtain ⟨rfl, hp⟩ := hp
    have hP : va_P D vwCl ((wM r cI cZ cJ th k V C A T B P OR n PR ST li w WK so sp CT FW) ++ ((wX q cI cZ cJ k V C T B P A n PR ST li w WK so sp CT SC TA) ++ [(qo, .inl (cJ, 1, .inr (.inl O)))])) H := hP
    have hD : va_D (lA s) ((wM r cI cZ cJ th k V C A T B P OR n PR ST li w WK so sp CT FW) ++ ((wX q cI cZ cJ k V C T B P A n PR ST li w WK so sp CT SC TA) ++ [(qo, .inl (cJ, 1, .inr (.inl O)))])) := hD
    obtain ⟨rfl, hp⟩ := hp
    refine lv_istore (lv' := [(5, .int (nI 1)), (4, .int (nI (4 * jj))), (3, .ref qo), (2, .ref (r 0)), (1, .ref (q 0)), (0, .ref b)]) hx hb dL_law_471 hl (by decide) rfl (fun ls hl => ?_)
    refine lv_aload_n hx hb dL_law_473 rfl (lv_at hl 3 rfl) ?_
    refine lv_aload_n hx hb dL_law_474 rfl (lv_at hl 5 rfl) ?_
    refine lv_iload hx hb dL_law_475 (lv_at hl 1 rfl) ?_
    refine lv_iconst (v := nI 1) hx hb dL_law_477 (ic_1) ?_
    refine n_iadd hx hb dL_law_478 ?_
    refine n_sld hx hb hX hbl hbA hS (by omega) (by omega) dL_law_479 ?_
    refine k3_i (mc := 0) (ms := 0) (wa := []) (wc := (wM r cI cZ cJ th k V C A T B P OR n PR ST li w WK so sp CT FW)) (wb := ((wX q cI cZ cJ k V C T B P A n PR ST li w WK so sp CT SC TA) ++ [(qo, .inl (cJ, 1, .inr (.inl O)))])) (va_runV (As := [.int (xs ((4 * jj) + 1))]) (rest := []) ⟨hx, hb, hml, hown, hts⟩ (c_X1_setLimit l hst D r cI cZ cJ th k V C A T B P OR n PR ST li w WK so sp CT FW H.size (xs ((4 * jj) + 1)) ) (cwV 1 hts gL_law_X1_setLimit rfl rfl rfl hd_X1_setLimit ⟨(Nat.le_of_ble_eq_true rfl), (Nat.le_of_ble_eq_true rfl)⟩) (pre_V3 (wa := []) (wc := (wM r cI cZ cJ th k V C A T B P OR n PR ST li w WK so sp CT FW)) (wb := ((wX q cI cZ cJ k V C T B P A n PR ST li w WK so sp CT SC TA) ++ [(qo, .inl (cJ, 1, .inr (.inl O)))])) hP hK hD hS hA hZ hg 0 (ci := 1) rfl rfl) rfl rfl hl.1 rfl (lv_room (Nat.le_of_ble_eq_true rfl)) dL_law_480 ⟨(show ((27 + 8 * jj) + 1) + 0 ≤ 601024 by omega), (show ((20244 + 64 * jj) + 6) + 0 ≤ 7293034 by omega)⟩) hP hD hS hA (fun rr u2 H locs hq hP hD hS => ?_)
    obtain ⟨v0, v1, v2⟩ := u2
    replace hq : rr = nI v0 ∧ ((v1 = 0 ∧ v0 = li ∧ v2 < 2001 ∧ (xs ((4 * jj) + 1)) = nI v2) ∨ (v1 = 1 ∧ ¬ rg (xs ((4 * jj) + 1)) 0 2001 ∧ v2 = li)) := hq
    obtain ⟨hr9, hq⟩ := hq
    replace hr9 := hr9.symm
    subst hr9
    have hP : va_P D vwCl ((wM r cI cZ cJ v1 k V C A T B P OR n PR ST v2 w WK so sp CT FW) ++ ((wX q cI cZ cJ k V C T B P A n PR ST li w WK so sp CT SC TA) ++ [(qo, .inl (cJ, 1, .inr (.inl O)))])) H := hP
    have hD : va_D (lA s) ((wM r cI cZ cJ v1 k V C A T B P OR n PR ST v2 w WK so sp CT FW) ++ ((wX q cI cZ cJ k V C T B P A n PR ST li w WK so sp CT SC TA) ++ [(qo, .inl (cJ, 1, .inr (.inl O)))])) := hD
    obtain ⟨e0, f0⟩ := q_setLimit_1  hp hq
    have e0 := e0.symm
    subst e0
    have f0 := f0.symm
    subst f0
    refine lv_istore (lv' := [(6, .int (nI v0)), (5, .int (nI 1)), (4, .int (nI (4 * jj))), (3, .ref qo), (2, .ref (r 0)), (1, .ref (q 0)), (0, .ref b)]) hx hb dL_law_483 hl (by decide) rfl (fun ls hl => ?_)
    refine lv_aload_n hx hb dL_law_485 rfl (lv_at hl 4 rfl) ?_
    refine k3_i (mc := 0) (ms := 0) (wa := []) (wc := (wM r cI cZ cJ 1 k V C A T B P OR n PR ST li w WK so sp CT FW)) (wb := ((wX q cI cZ cJ k V C T B P A n PR ST li w WK so sp CT SC TA) ++ [(qo, .inl (cJ, 1, .inr (.inl O)))])) (va_runV (As := []) (rest := []) ⟨hx, hb, hml, hown, hts⟩ (c_X1_thrown l hst D r cI cZ cJ 1 k V C A T B P OR n PR ST li w WK so sp CT FW H.size  ) (cwV 0 hts gL_law_X1_thrown rfl rfl rfl hd_X1_thrown ⟨(Nat.le_of_ble_eq_true rfl), (Nat.le_of_ble_eq_true rfl)⟩) (pre_V3 (wa := []) (wc := (wM r cI cZ cJ 1 k V C A T B P OR n PR ST li w WK so sp CT FW)) (wb := ((wX q cI cZ cJ k V C T B P A n PR ST li w WK so sp CT SC TA) ++ [(qo, .inl (cJ, 1, .inr (.inl O)))])) hP hK hD hS hA hZ hg 0 (ci := 1) rfl rfl) rfl rfl hl.1 rfl (lv_room (Nat.le_of_ble_eq_true rfl)) dL_law_486 ⟨(show (((27 + 8 * jj) + 1) + 0) + 0 ≤ 601024 by omega), (show (((20244 + 64 * jj) + 6) + 0) + 0 ≤ 7293034 by omega)⟩) hP hD hS hA (fun rr u2 H locs hq hP hD hS => ?_)
    replace hq : rr = nI 1 := hq
    subst hq
    have hP : va_P D vwCl ((wM r cI cZ cJ 1 k V C A T B P OR n PR ST li w WK so sp CT FW) ++ ((wX q cI cZ cJ k V C T B P A n PR ST li w WK so sp CT SC TA) ++ [(qo, .inl (cJ, 1, .inr (.inl O)))])) H := hP
    have hD : va_D (lA s) ((wM r cI cZ cJ 1 k V C A T B P OR n PR ST li w WK so sp CT FW) ++ ((wX q cI cZ cJ k V C T B P A n PR ST li w WK so sp CT SC TA) ++ [(qo, .inl (cJ, 1, .inr (.inl O)))])) := hD
    refine lv_iload hx hb dL_law_489 (lv_at hl 1 rfl) ?_
    refine lv_icmp_eq (tgt := 496) hx hb dL_law_491 (by decide) (fun _ => ?_) (fun h => absurd rfl h)
    refine lv_iload hx hb dL_law_496 (lv_at hl 1 rfl) ?_
    refine n_if_ne (tgt := 513) hx hb (by decide) dL_law_498 (by decide) (fun c498 => ?_) (fun c498 => ?_)
    · refine lv_goto (tgt := 1433) hx hb dL_law_513 (by decide) ?_
      refine W.widen (k := 27 + 8 * (jj + 1)) (n := 20244 + 64 * (jj + 1)) (by omega) (by omega) ?_
      exact hN 1 k V C T B P A OR n PR ST li w WK so sp CT SC TA FW O _ _ hI hP hD hS ls (lv_sub hl [2, 3, 4, 5, 6] rfl)
    · exact absurd c498 (by decide)

set_option maxHeartbeats 8000000 in
set_option maxRecDepth 100000 in
theorem lw_addProduct (hst : l.stackTraces = false) (hc : Lc p s m meth c b L xs D cI cZ cJ) {r q : Nat → Nat} {qo jj : Nat} (hj : 4 * jj + 4 ≤ L) {th : Nat} {k : Nat} {V : Nat → Nat} {C : Nat → Nat} {T : Nat → Nat} {B : Nat → Nat} {P : Nat → Nat} {A : Nat → Nat} {OR : Nat → Nat} {n : Nat} {PR : Nat → Nat} {ST : Nat → Nat} {li : Nat} {w : Nat} {WK : Nat → Nat} {so : Nat} {sp : Nat} {CT : Nat → Int64} {SC : Nat → Int} {TA : Nat → Nat} {FW : Nat → Nat} {O : Nat → Int64} {H : Heap} {locs : List Loc} (hI : IV k V C T A OR n PR ST li w WK so sp) (hP : va_P D vwCl (wL r q qo cI cZ cJ th k V C T B P A OR n PR ST li w WK so sp CT SC TA FW O) H) (hD : va_D (lA s) (wL r q qo cI cZ cJ th k V C T B P A OR n PR ST li w WK so sp CT SC TA FW O)) (hS : va_S (lA s) s.heap H locs) {ls : Array Slot} (hl : lv_has ls 9 [(4, .int (nI (4 * jj))), (3, .ref qo), (2, .ref (r 0)), (1, .ref (q 0)), (0, .ref b)]) (hN : Nx p l e s m below meth c b D r q qo cI cZ cJ Q jj) : W p l e room_1 s m #[Value.ref b] below meth c H locs (27 + 8 * jj) (20244 + 64 * jj) Q (F0 m 516 ls []) := by
  obtain ⟨hx, hb, hr, hml, hown, hts, hX, hbl, hlocks, hK, hZ, hg, hn, hL⟩ := hc
  have hA : ∀ q9 : Nat, s.heap.size ≤ q9 → lA s q9 := fun _ h => h
  have hbA : ¬ lA s b := Nat.not_le.mpr hbl
  have hP : va_P D vwCl ((wM r cI cZ cJ th k V C A T B P OR n PR ST li w WK so sp CT FW) ++ ((wX q cI cZ cJ k V C T B P A n PR ST li w WK so sp CT SC TA) ++ [(qo, .inl (cJ, 1, .inr (.inl O)))])) H := hP
  have hD : va_D (lA s) ((wM r cI cZ cJ th k V C A T B P OR n PR ST li w WK so sp CT FW) ++ ((wX q cI cZ cJ k V C T B P A n PR ST li w WK so sp CT SC TA) ++ [(qo, .inl (cJ, 1, .inr (.inl O)))])) := hD
  refine lv_aload_n hx hb dL_law_516 rfl (lv_at hl 3 rfl) ?_
  refine lv_aload_n hx hb dL_law_517 rfl (lv_at hl 4 rfl) ?_
  refine lv_iload hx hb dL_law_518 (lv_at hl 0 rfl) ?_
  refine lv_iconst (v := nI 1) hx hb dL_law_520 (ic_1) ?_
  refine n_iadd hx hb dL_law_521 ?_
  refine n_sld hx hb hX hbl hbA hS (by omega) (by omega) dL_law_522 ?_
  refine lv_aload_n hx hb dL_law_523 rfl (lv_at hl 4 rfl) ?_
  refine lv_iload hx hb dL_law_524 (lv_at hl 0 rfl) ?_
  refine lv_iconst (v := nI 2) hx hb dL_law_526 (ic_2) ?_
  refine n_iadd hx hb dL_law_527 ?_
  refine n_sld hx hb hX hbl hbA hS (by omega) (by omega) dL_law_528 ?_
  refine lv_aload_n hx hb dL_law_529 rfl (lv_at hl 1 rfl) ?_
  refine k3_i (mc := 2) (ms := 12) (wa := (wM r cI cZ cJ th k V C A T B P OR n PR ST li w WK so sp CT FW)) (wc := ((wX q cI cZ cJ k V C T B P A n PR ST li w WK so sp CT SC TA) ++ [(qo, .inl (cJ, 1, .inr (.inl O)))])) (wb := []) (vx_runSW (As := [.ref (q 0), .int (xs ((4 * jj) + 1)), .int (xs ((4 * jj) + 2)), .ref qo]) (rest := []) ⟨hx, hb, hml, hown, hts⟩ (c_L_addProduct l hst D q qo cI cZ cJ k V C T B P A n PR ST li w WK so sp CT SC TA O H.size (xs ((4 * jj) + 1)) (xs ((4 * jj) + 2)) hI.hn10) (vx_cwSW 4 hts gL_law_L_addProduct rfl rfl rfl hd_L_addProduct.2 ⟨(Nat.le_of_ble_eq_true rfl), (Nat.le_of_ble_eq_true rfl)⟩) (pre_N (wa := (wM r cI cZ cJ th k V C A T B P OR n PR ST li w WK so sp CT FW)) (wc := ((wX q cI cZ cJ k V C T B P A n PR ST li w WK so sp CT SC TA) ++ [(qo, .inl (cJ, 1, .inr (.inl O)))])) (wb := []) hP hK hD hS hA hZ hg hn) rfl rfl hl.1 rfl (lv_room (Nat.le_of_ble_eq_true rfl)) dL_law_530 ⟨(show (27 + 8 * jj) + 2 ≤ 601024 by omega), (show (20244 + 64 * jj) + 12 ≤ 7293034 by omega)⟩) hP hD hS hA (fun rr u H locs hp hP hD hS => ?_)
  rcases u with u | kk
  · replace hp : rr = nI 0 ∧ (1 ≤ u.1 ∧ u.1 < 2001 ∧ u.2 < 100 ∧ (xs ((4 * jj) + 1)) = nI u.1 ∧ (xs ((4 * jj) + 2)) = nI u.2 ∧ n < 10) := hp
    obtain ⟨rfl, hp⟩ := hp
    have hP : va_P D vwCl ((wM r cI cZ cJ th k V C A T B P OR n PR ST li w WK so sp CT FW) ++ ((wX q cI cZ cJ k V C T B P A (n + 1) (un PR n u.1) (un ST n u.2) li w WK so sp CT SC TA) ++ [(qo, .inl (cJ, 1, .inr (.inl (vp_updL O 0 ((nI n).toInt64)))))])) H := hP
    have hD : va_D (lA s) ((wM r cI cZ cJ th k V C A T B P OR n PR ST li w WK so sp CT FW) ++ ((wX q cI cZ cJ k V C T B P A (n + 1) (un PR n u.1) (un ST n u.2) li w WK so sp CT SC TA) ++ [(qo, .inl (cJ, 1, .inr (.inl (vp_updL O 0 ((nI n).toInt64)))))])) := hD
    refine lv_istore (lv' := [(5, .int (nI 0)), (4, .int (nI (4 * jj))), (3, .ref qo), (2, .ref (r 0)), (1, .ref (q 0)), (0, .ref b)]) hx hb dL_law_533 hl (by decide) rfl (fun ls hl => ?_)
    refine lv_aload_n hx hb dL_law_535 rfl (lv_at hl 3 rfl) ?_
    refine lv_aload_n hx hb dL_law_536 rfl (lv_at hl 5 rfl) ?_
    refine lv_iload hx hb dL_law_537 (lv_at hl 1 rfl) ?_
    refine lv_iconst (v := nI 1) hx hb dL_law_539 (ic_1) ?_
    refine n_iadd hx hb dL_law_540 ?_
    refine n_sld hx hb hX hbl hbA hS (by omega) (by omega) dL_law_541 ?_
    refine lv_aload_n hx hb dL_law_542 rfl (lv_at hl 5 rfl) ?_
    refine lv_iload hx hb dL_law_543 (lv_at hl 1 rfl) ?_
    refine lv_iconst (v := nI 2) hx hb dL_law_545 (ic_2) ?_
    refine n_iadd hx hb dL_law_546 ?_
    refine n_sld hx hb hX hbl hbA hS (by omega) (by omega) dL_law_547 ?_
    refine k3_i (mc := 0) (ms := 0) (wa := []) (wc := (wM r cI cZ cJ th k V C A T B P OR n PR ST li w WK so sp CT FW)) (wb := ((wX q cI cZ cJ k V C T B P A (n + 1) (un PR n u.1) (un ST n u.2) li w WK so sp CT SC TA) ++ [(qo, .inl (cJ, 1, .inr (.inl (vp_updL O 0 ((nI n).toInt64)))))])) (va_runV (As := [.int (xs ((4 * jj) + 1)), .int (xs ((4 * jj) + 2))]) (rest := []) ⟨hx, hb, hml, hown, hts⟩ (c_X1_addProduct l hst D r cI cZ cJ th k V C A T B P OR n PR ST li w WK so sp CT FW H.size (xs ((4 * jj) + 1)) (xs ((4 * jj) + 2)) hI.hn10) (cwV 2 hts gL_law_X1_addProduct rfl rfl rfl hd_X1_addProduct ⟨(Nat.le_of_ble_eq_true rfl), (Nat.le_of_ble_eq_true rfl)⟩) (pre_V3 (wa := []) (wc := (wM r cI cZ cJ th k V C A T B P OR n PR ST li w WK so sp CT FW)) (wb := ((wX q cI cZ cJ k V C T B P A (n + 1) (un PR n u.1) (un ST n u.2) li w WK so sp CT SC TA) ++ [(qo, .inl (cJ, 1, .inr (.inl (vp_updL O 0 ((nI n).toInt64)))))])) hP hK hD hS hA hZ hg 0 (ci := 1) rfl rfl) rfl rfl hl.1 rfl (lv_room (Nat.le_of_ble_eq_true rfl)) dL_law_548 ⟨(show ((27 + 8 * jj) + 2) + 0 ≤ 601024 by omega), (show ((20244 + 64 * jj) + 12) + 0 ≤ 7293034 by omega)⟩) hP hD hS hA (fun rr u2 H locs hq hP hD hS => ?_)
    obtain ⟨v0, v1, v2, v3, v4⟩ := u2
    replace hq : rr = nI v0 ∧ ((v1 = 0 ∧ ∃ i j, 1 ≤ i ∧ i < 2001 ∧ j < 100 ∧ (xs ((4 * jj) + 1)) = nI i ∧ (xs ((4 * jj) + 2)) = nI j ∧ n < 10 ∧ v0 = n ∧ v2 = n + 1 ∧ v3 = un PR n i ∧ v4 = un ST n j) ∨ (v1 = 1 ∧ ¬ (rg (xs ((4 * jj) + 1)) 1 2001 ∧ rg (xs ((4 * jj) + 2)) 0 100) ∧ v2 = n ∧ v3 = PR ∧ v4 = ST) ∨ (v1 = 2 ∧ (rg (xs ((4 * jj) + 1)) 1 2001 ∧ rg (xs ((4 * jj) + 2)) 0 100) ∧ ¬ n < 10 ∧ v2 = n ∧ v3 = PR ∧ v4 = ST)) := hq
    obtain ⟨hr9, hq⟩ := hq
    replace hr9 := hr9.symm
    subst hr9
    have hP : va_P D vwCl ((wM r cI cZ cJ v1 k V C A T B P OR v2 v3 v4 li w WK so sp CT FW) ++ ((wX q cI cZ cJ k V C T B P A (n + 1) (un PR n u.1) (un ST n u.2) li w WK so sp CT SC TA) ++ [(qo, .inl (cJ, 1, .inr (.inl (vp_updL O 0 ((nI n).toInt64)))))])) H := hP
    have hD : va_D (lA s) ((wM r cI cZ cJ v1 k V C A T B P OR v2 v3 v4 li w WK so sp CT FW) ++ ((wX q cI cZ cJ k V C T B P A (n + 1) (un PR n u.1) (un ST n u.2) li w WK so sp CT SC TA) ++ [(qo, .inl (cJ, 1, .inr (.inl (vp_updL O 0 ((nI n).toInt64)))))])) := hD
    obtain ⟨e0, e1, f0, f1, f2⟩ := q_addProduct_0  hp hq
    have e0 := e0.symm
    subst e0
    have e1 := e1.symm
    subst e1
    have f0 := f0.symm
    subst f0
    have f1 := f1.symm
    subst f1
    have f2 := f2.symm
    subst f2
    have hI2 := iv_addProduct hI hp.1 hp.2.1 hp.2.2.1 hp.2.2.2.2.2
    refine lv_istore (lv' := [(6, .int (nI n)), (5, .int (nI 0)), (4, .int (nI (4 * jj))), (3, .ref qo), (2, .ref (r 0)), (1, .ref (q 0)), (0, .ref b)]) hx hb dL_law_551 hl (by decide) rfl (fun ls hl => ?_)
    refine lv_aload_n hx hb dL_law_553 rfl (lv_at hl 4 rfl) ?_
    refine k3_i (mc := 0) (ms := 0) (wa := []) (wc := (wM r cI cZ cJ 0 k V C A T B P OR (n + 1) (un PR n u.1) (un ST n u.2) li w WK so sp CT FW)) (wb := ((wX q cI cZ cJ k V C T B P A (n + 1) (un PR n u.1) (un ST n u.2) li w WK so sp CT SC TA) ++ [(qo, .inl (cJ, 1, .inr (.inl (vp_updL O 0 ((nI n).toInt64)))))])) (va_runV (As := []) (rest := []) ⟨hx, hb, hml, hown, hts⟩ (c_X1_thrown l hst D r cI cZ cJ 0 k V C A T B P OR (n + 1) (un PR n u.1) (un ST n u.2) li w WK so sp CT FW H.size  ) (cwV 0 hts gL_law_X1_thrown rfl rfl rfl hd_X1_thrown ⟨(Nat.le_of_ble_eq_true rfl), (Nat.le_of_ble_eq_true rfl)⟩) (pre_V3 (wa := []) (wc := (wM r cI cZ cJ 0 k V C A T B P OR (n + 1) (un PR n u.1) (un ST n u.2) li w WK so sp CT FW)) (wb := ((wX q cI cZ cJ k V C T B P A (n + 1) (un PR n u.1) (un ST n u.2) li w WK so sp CT SC TA) ++ [(qo, .inl (cJ, 1, .inr (.inl (vp_updL O 0 ((nI n).toInt64)))))])) hP hK hD hS hA hZ hg 0 (ci := 1) rfl rfl) rfl rfl hl.1 rfl (lv_room (Nat.le_of_ble_eq_true rfl)) dL_law_554 ⟨(show (((27 + 8 * jj) + 2) + 0) + 0 ≤ 601024 by omega), (show (((20244 + 64 * jj) + 12) + 0) + 0 ≤ 7293034 by omega)⟩) hP hD hS hA (fun rr u2 H locs hq hP hD hS => ?_)
    replace hq : rr = nI 0 := hq
    subst hq
    have hP : va_P D vwCl ((wM r cI cZ cJ 0 k V C A T B P OR (n + 1) (un PR n u.1) (un ST n u.2) li w WK so sp CT FW) ++ ((wX q cI cZ cJ k V C T B P A (n + 1) (un PR n u.1) (un ST n u.2) li w WK so sp CT SC TA) ++ [(qo, .inl (cJ, 1, .inr (.inl (vp_updL O 0 ((nI n).toInt64)))))])) H := hP
    have hD : va_D (lA s) ((wM r cI cZ cJ 0 k V C A T B P OR (n + 1) (un PR n u.1) (un ST n u.2) li w WK so sp CT FW) ++ ((wX q cI cZ cJ k V C T B P A (n + 1) (un PR n u.1) (un ST n u.2) li w WK so sp CT SC TA) ++ [(qo, .inl (cJ, 1, .inr (.inl (vp_updL O 0 ((nI n).toInt64)))))])) := hD
    refine lv_iload hx hb dL_law_557 (lv_at hl 1 rfl) ?_
    refine lv_icmp_eq (tgt := 564) hx hb dL_law_559 (by decide) (fun _ => ?_) (fun h => absurd rfl h)
    refine lv_iload hx hb dL_law_564 (lv_at hl 1 rfl) ?_
    refine n_if_ne (tgt := 581) hx hb (by decide) dL_law_566 (by decide) (fun c566 => ?_) (fun c566 => ?_)
    · exact absurd c566 (by decide)
    · refine lv_aload_n hx hb dL_law_569 rfl (lv_at hl 3 rfl) ?_
      refine lv_iconst (v := nI 0) hx hb dL_law_570 (ic_0) ?_
      refine n_lald hx hb hK hP 26 2 rfl rfl (by decide) (by decide) dL_law_571 ?_
      refine n_topl (show (vp_updL O 0 ((nI n).toInt64)) 0 = (nI n).toInt64 from updL_s) ?_
      refine lv_iload hx hb dL_law_572 (lv_at hl 0 rfl) ?_
      refine lv_i2l hx hb dL_law_574 rfl ?_
      refine n_lcmp_eq (tgt := 581) hx hb dL_law_575 dL_law_576 (by decide) (fun _ => ?_) (fun h => absurd rfl h)
      refine lv_goto (tgt := 1433) hx hb dL_law_581 (by decide) ?_
      refine W.widen (k := 27 + 8 * (jj + 1)) (n := 20244 + 64 * (jj + 1)) (by omega) (by omega) ?_
      exact hN 0 k V C T B P A OR (n + 1) (un PR n u.1) (un ST n u.2) li w WK so sp CT SC TA FW (vp_updL O 0 ((nI n).toInt64)) _ _ hI2 hP hD hS ls (lv_sub hl [2, 3, 4, 5, 6] rfl)
  · replace hp : rr = nI kk ∧ ((kk = 1 ∧ (¬ (rg (xs ((4 * jj) + 1)) 1 2001 ∧ rg (xs ((4 * jj) + 2)) 0 100))) ∨ (kk = 2 ∧ ((rg (xs ((4 * jj) + 1)) 1 2001 ∧ rg (xs ((4 * jj) + 2)) 0 100) ∧ ¬ n < 10))) := hp
    obtain ⟨rfl, hp⟩ := hp
    have hP : va_P D vwCl ((wM r cI cZ cJ th k V C A T B P OR n PR ST li w WK so sp CT FW) ++ ((wX q cI cZ cJ k V C T B P A n PR ST li w WK so sp CT SC TA) ++ [(qo, .inl (cJ, 1, .inr (.inl O)))])) H := hP
    have hD : va_D (lA s) ((wM r cI cZ cJ th k V C A T B P OR n PR ST li w WK so sp CT FW) ++ ((wX q cI cZ cJ k V C T B P A n PR ST li w WK so sp CT SC TA) ++ [(qo, .inl (cJ, 1, .inr (.inl O)))])) := hD
    rcases hp with ⟨rfl, hp⟩ | ⟨rfl, hp⟩
    · refine lv_istore (lv' := [(5, .int (nI 1)), (4, .int (nI (4 * jj))), (3, .ref qo), (2, .ref (r 0)), (1, .ref (q 0)), (0, .ref b)]) hx hb dL_law_533 hl (by decide) rfl (fun ls hl => ?_)
      refine lv_aload_n hx hb dL_law_535 rfl (lv_at hl 3 rfl) ?_
      refine lv_aload_n hx hb dL_law_536 rfl (lv_at hl 5 rfl) ?_
      refine lv_iload hx hb dL_law_537 (lv_at hl 1 rfl) ?_
      refine lv_iconst (v := nI 1) hx hb dL_law_539 (ic_1) ?_
      refine n_iadd hx hb dL_law_540 ?_
      refine n_sld hx hb hX hbl hbA hS (by omega) (by omega) dL_law_541 ?_
      refine lv_aload_n hx hb dL_law_542 rfl (lv_at hl 5 rfl) ?_
      refine lv_iload hx hb dL_law_543 (lv_at hl 1 rfl) ?_
      refine lv_iconst (v := nI 2) hx hb dL_law_545 (ic_2) ?_
      refine n_iadd hx hb dL_law_546 ?_
      refine n_sld hx hb hX hbl hbA hS (by omega) (by omega) dL_law_547 ?_
      refine k3_i (mc := 0) (ms := 0) (wa := []) (wc := (wM r cI cZ cJ th k V C A T B P OR n PR ST li w WK so sp CT FW)) (wb := ((wX q cI cZ cJ k V C T B P A n PR ST li w WK so sp CT SC TA) ++ [(qo, .inl (cJ, 1, .inr (.inl O)))])) (va_runV (As := [.int (xs ((4 * jj) + 1)), .int (xs ((4 * jj) + 2))]) (rest := []) ⟨hx, hb, hml, hown, hts⟩ (c_X1_addProduct l hst D r cI cZ cJ th k V C A T B P OR n PR ST li w WK so sp CT FW H.size (xs ((4 * jj) + 1)) (xs ((4 * jj) + 2)) hI.hn10) (cwV 2 hts gL_law_X1_addProduct rfl rfl rfl hd_X1_addProduct ⟨(Nat.le_of_ble_eq_true rfl), (Nat.le_of_ble_eq_true rfl)⟩) (pre_V3 (wa := []) (wc := (wM r cI cZ cJ th k V C A T B P OR n PR ST li w WK so sp CT FW)) (wb := ((wX q cI cZ cJ k V C T B P A n PR ST li w WK so sp CT SC TA) ++ [(qo, .inl (cJ, 1, .inr (.inl O)))])) hP hK hD hS hA hZ hg 0 (ci := 1) rfl rfl) rfl rfl hl.1 rfl (lv_room (Nat.le_of_ble_eq_true rfl)) dL_law_548 ⟨(show ((27 + 8 * jj) + 2) + 0 ≤ 601024 by omega), (show ((20244 + 64 * jj) + 12) + 0 ≤ 7293034 by omega)⟩) hP hD hS hA (fun rr u2 H locs hq hP hD hS => ?_)
      obtain ⟨v0, v1, v2, v3, v4⟩ := u2
      replace hq : rr = nI v0 ∧ ((v1 = 0 ∧ ∃ i j, 1 ≤ i ∧ i < 2001 ∧ j < 100 ∧ (xs ((4 * jj) + 1)) = nI i ∧ (xs ((4 * jj) + 2)) = nI j ∧ n < 10 ∧ v0 = n ∧ v2 = n + 1 ∧ v3 = un PR n i ∧ v4 = un ST n j) ∨ (v1 = 1 ∧ ¬ (rg (xs ((4 * jj) + 1)) 1 2001 ∧ rg (xs ((4 * jj) + 2)) 0 100) ∧ v2 = n ∧ v3 = PR ∧ v4 = ST) ∨ (v1 = 2 ∧ (rg (xs ((4 * jj) + 1)) 1 2001 ∧ rg (xs ((4 * jj) + 2)) 0 100) ∧ ¬ n < 10 ∧ v2 = n ∧ v3 = PR ∧ v4 = ST)) := hq
      obtain ⟨hr9, hq⟩ := hq
      replace hr9 := hr9.symm
      subst hr9
      have hP : va_P D vwCl ((wM r cI cZ cJ v1 k V C A T B P OR v2 v3 v4 li w WK so sp CT FW) ++ ((wX q cI cZ cJ k V C T B P A n PR ST li w WK so sp CT SC TA) ++ [(qo, .inl (cJ, 1, .inr (.inl O)))])) H := hP
      have hD : va_D (lA s) ((wM r cI cZ cJ v1 k V C A T B P OR v2 v3 v4 li w WK so sp CT FW) ++ ((wX q cI cZ cJ k V C T B P A n PR ST li w WK so sp CT SC TA) ++ [(qo, .inl (cJ, 1, .inr (.inl O)))])) := hD
      obtain ⟨e0, f0, f1, f2⟩ := q_addProduct_1  hp hq
      have e0 := e0.symm
      subst e0
      have f0 := f0.symm
      subst f0
      have f1 := f1.symm
      subst f1
      have f2 := f2.symm
      subst f2
      refine lv_istore (lv' := [(6, .int (nI v0)), (5, .int (nI 1)), (4, .int (nI (4 * jj))), (3, .ref qo), (2, .ref (r 0)), (1, .ref (q 0)), (0, .ref b)]) hx hb dL_law_551 hl (by decide) rfl (fun ls hl => ?_)
      refine lv_aload_n hx hb dL_law_553 rfl (lv_at hl 4 rfl) ?_
      refine k3_i (mc := 0) (ms := 0) (wa := []) (wc := (wM r cI cZ cJ 1 k V C A T B P OR n PR ST li w WK so sp CT FW)) (wb := ((wX q cI cZ cJ k V C T B P A n PR ST li w WK so sp CT SC TA) ++ [(qo, .inl (cJ, 1, .inr (.inl O)))])) (va_runV (As := []) (rest := []) ⟨hx, hb, hml, hown, hts⟩ (c_X1_thrown l hst D r cI cZ cJ 1 k V C A T B P OR n PR ST li w WK so sp CT FW H.size  ) (cwV 0 hts gL_law_X1_thrown rfl rfl rfl hd_X1_thrown ⟨(Nat.le_of_ble_eq_true rfl), (Nat.le_of_ble_eq_true rfl)⟩) (pre_V3 (wa := []) (wc := (wM r cI cZ cJ 1 k V C A T B P OR n PR ST li w WK so sp CT FW)) (wb := ((wX q cI cZ cJ k V C T B P A n PR ST li w WK so sp CT SC TA) ++ [(qo, .inl (cJ, 1, .inr (.inl O)))])) hP hK hD hS hA hZ hg 0 (ci := 1) rfl rfl) rfl rfl hl.1 rfl (lv_room (Nat.le_of_ble_eq_true rfl)) dL_law_554 ⟨(show (((27 + 8 * jj) + 2) + 0) + 0 ≤ 601024 by omega), (show (((20244 + 64 * jj) + 12) + 0) + 0 ≤ 7293034 by omega)⟩) hP hD hS hA (fun rr u2 H locs hq hP hD hS => ?_)
      replace hq : rr = nI 1 := hq
      subst hq
      have hP : va_P D vwCl ((wM r cI cZ cJ 1 k V C A T B P OR n PR ST li w WK so sp CT FW) ++ ((wX q cI cZ cJ k V C T B P A n PR ST li w WK so sp CT SC TA) ++ [(qo, .inl (cJ, 1, .inr (.inl O)))])) H := hP
      have hD : va_D (lA s) ((wM r cI cZ cJ 1 k V C A T B P OR n PR ST li w WK so sp CT FW) ++ ((wX q cI cZ cJ k V C T B P A n PR ST li w WK so sp CT SC TA) ++ [(qo, .inl (cJ, 1, .inr (.inl O)))])) := hD
      refine lv_iload hx hb dL_law_557 (lv_at hl 1 rfl) ?_
      refine lv_icmp_eq (tgt := 564) hx hb dL_law_559 (by decide) (fun _ => ?_) (fun h => absurd rfl h)
      refine lv_iload hx hb dL_law_564 (lv_at hl 1 rfl) ?_
      refine n_if_ne (tgt := 581) hx hb (by decide) dL_law_566 (by decide) (fun c566 => ?_) (fun c566 => ?_)
      · refine lv_goto (tgt := 1433) hx hb dL_law_581 (by decide) ?_
        refine W.widen (k := 27 + 8 * (jj + 1)) (n := 20244 + 64 * (jj + 1)) (by omega) (by omega) ?_
        exact hN 1 k V C T B P A OR n PR ST li w WK so sp CT SC TA FW O _ _ hI hP hD hS ls (lv_sub hl [2, 3, 4, 5, 6] rfl)
      · exact absurd c566 (by decide)
    · refine lv_istore (lv' := [(5, .int (nI 2)), (4, .int (nI (4 * jj))), (3, .ref qo), (2, .ref (r 0)), (1, .ref (q 0)), (0, .ref b)]) hx hb dL_law_533 hl (by decide) rfl (fun ls hl => ?_)
      refine lv_aload_n hx hb dL_law_535 rfl (lv_at hl 3 rfl) ?_
      refine lv_aload_n hx hb dL_law_536 rfl (lv_at hl 5 rfl) ?_
      refine lv_iload hx hb dL_law_537 (lv_at hl 1 rfl) ?_
      refine lv_iconst (v := nI 1) hx hb dL_law_539 (ic_1) ?_
      refine n_iadd hx hb dL_law_540 ?_
      refine n_sld hx hb hX hbl hbA hS (by omega) (by omega) dL_law_541 ?_
      refine lv_aload_n hx hb dL_law_542 rfl (lv_at hl 5 rfl) ?_
      refine lv_iload hx hb dL_law_543 (lv_at hl 1 rfl) ?_
      refine lv_iconst (v := nI 2) hx hb dL_law_545 (ic_2) ?_
      refine n_iadd hx hb dL_law_546 ?_
      refine n_sld hx hb hX hbl hbA hS (by omega) (by omega) dL_law_547 ?_
      refine k3_i (mc := 0) (ms := 0) (wa := []) (wc := (wM r cI cZ cJ th k V C A T B P OR n PR ST li w WK so sp CT FW)) (wb := ((wX q cI cZ cJ k V C T B P A n PR ST li w WK so sp CT SC TA) ++ [(qo, .inl (cJ, 1, .inr (.inl O)))])) (va_runV (As := [.int (xs ((4 * jj) + 1)), .int (xs ((4 * jj) + 2))]) (rest := []) ⟨hx, hb, hml, hown, hts⟩ (c_X1_addProduct l hst D r cI cZ cJ th k V C A T B P OR n PR ST li w WK so sp CT FW H.size (xs ((4 * jj) + 1)) (xs ((4 * jj) + 2)) hI.hn10) (cwV 2 hts gL_law_X1_addProduct rfl rfl rfl hd_X1_addProduct ⟨(Nat.le_of_ble_eq_true rfl), (Nat.le_of_ble_eq_true rfl)⟩) (pre_V3 (wa := []) (wc := (wM r cI cZ cJ th k V C A T B P OR n PR ST li w WK so sp CT FW)) (wb := ((wX q cI cZ cJ k V C T B P A n PR ST li w WK so sp CT SC TA) ++ [(qo, .inl (cJ, 1, .inr (.inl O)))])) hP hK hD hS hA hZ hg 0 (ci := 1) rfl rfl) rfl rfl hl.1 rfl (lv_room (Nat.le_of_ble_eq_true rfl)) dL_law_548 ⟨(show ((27 + 8 * jj) + 2) + 0 ≤ 601024 by omega), (show ((20244 + 64 * jj) + 12) + 0 ≤ 7293034 by omega)⟩) hP hD hS hA (fun rr u2 H locs hq hP hD hS => ?_)
      obtain ⟨v0, v1, v2, v3, v4⟩ := u2
      replace hq : rr = nI v0 ∧ ((v1 = 0 ∧ ∃ i j, 1 ≤ i ∧ i < 2001 ∧ j < 100 ∧ (xs ((4 * jj) + 1)) = nI i ∧ (xs ((4 * jj) + 2)) = nI j ∧ n < 10 ∧ v0 = n ∧ v2 = n + 1 ∧ v3 = un PR n i ∧ v4 = un ST n j) ∨ (v1 = 1 ∧ ¬ (rg (xs ((4 * jj) + 1)) 1 2001 ∧ rg (xs ((4 * jj) + 2)) 0 100) ∧ v2 = n ∧ v3 = PR ∧ v4 = ST) ∨ (v1 = 2 ∧ (rg (xs ((4 * jj) + 1)) 1 2001 ∧ rg (xs ((4 * jj) + 2)) 0 100) ∧ ¬ n < 10 ∧ v2 = n ∧ v3 = PR ∧ v4 = ST)) := hq
      obtain ⟨hr9, hq⟩ := hq
      replace hr9 := hr9.symm
      subst hr9
      have hP : va_P D vwCl ((wM r cI cZ cJ v1 k V C A T B P OR v2 v3 v4 li w WK so sp CT FW) ++ ((wX q cI cZ cJ k V C T B P A n PR ST li w WK so sp CT SC TA) ++ [(qo, .inl (cJ, 1, .inr (.inl O)))])) H := hP
      have hD : va_D (lA s) ((wM r cI cZ cJ v1 k V C A T B P OR v2 v3 v4 li w WK so sp CT FW) ++ ((wX q cI cZ cJ k V C T B P A n PR ST li w WK so sp CT SC TA) ++ [(qo, .inl (cJ, 1, .inr (.inl O)))])) := hD
      obtain ⟨e0, f0, f1, f2⟩ := q_addProduct_2  hp hq
      have e0 := e0.symm
      subst e0
      have f0 := f0.symm
      subst f0
      have f1 := f1.symm
      subst f1
      have f2 := f2.symm
      subst f2
      refine lv_istore (lv' := [(6, .int (nI v0)), (5, .int (nI 2)), (4, .int (nI (4 * jj))), (3, .ref qo), (2, .ref (r 0)), (1, .ref (q 0)), (0, .ref b)]) hx hb dL_law_551 hl (by decide) rfl (fun ls hl => ?_)
      refine lv_aload_n hx hb dL_law_553 rfl (lv_at hl 4 rfl) ?_
      refine k3_i (mc := 0) (ms := 0) (wa := []) (wc := (wM r cI cZ cJ 2 k V C A T B P OR n PR ST li w WK so sp CT FW)) (wb := ((wX q cI cZ cJ k V C T B P A n PR ST li w WK so sp CT SC TA) ++ [(qo, .inl (cJ, 1, .inr (.inl O)))])) (va_runV (As := []) (rest := []) ⟨hx, hb, hml, hown, hts⟩ (c_X1_thrown l hst D r cI cZ cJ 2 k V C A T B P OR n PR ST li w WK so sp CT FW H.size  ) (cwV 0 hts gL_law_X1_thrown rfl rfl rfl hd_X1_thrown ⟨(Nat.le_of_ble_eq_true rfl), (Nat.le_of_ble_eq_true rfl)⟩) (pre_V3 (wa := []) (wc := (wM r cI cZ cJ 2 k V C A T B P OR n PR ST li w WK so sp CT FW)) (wb := ((wX q cI cZ cJ k V C T B P A n PR ST li w WK so sp CT SC TA) ++ [(qo, .inl (cJ, 1, .inr (.inl O)))])) hP hK hD hS hA hZ hg 0 (ci := 1) rfl rfl) rfl rfl hl.1 rfl (lv_room (Nat.le_of_ble_eq_true rfl)) dL_law_554 ⟨(show (((27 + 8 * jj) + 2) + 0) + 0 ≤ 601024 by omega), (show (((20244 + 64 * jj) + 12) + 0) + 0 ≤ 7293034 by omega)⟩) hP hD hS hA (fun rr u2 H locs hq hP hD hS => ?_)
      replace hq : rr = nI 2 := hq
      subst hq
      have hP : va_P D vwCl ((wM r cI cZ cJ 2 k V C A T B P OR n PR ST li w WK so sp CT FW) ++ ((wX q cI cZ cJ k V C T B P A n PR ST li w WK so sp CT SC TA) ++ [(qo, .inl (cJ, 1, .inr (.inl O)))])) H := hP
      have hD : va_D (lA s) ((wM r cI cZ cJ 2 k V C A T B P OR n PR ST li w WK so sp CT FW) ++ ((wX q cI cZ cJ k V C T B P A n PR ST li w WK so sp CT SC TA) ++ [(qo, .inl (cJ, 1, .inr (.inl O)))])) := hD
      refine lv_iload hx hb dL_law_557 (lv_at hl 1 rfl) ?_
      refine lv_icmp_eq (tgt := 564) hx hb dL_law_559 (by decide) (fun _ => ?_) (fun h => absurd rfl h)
      refine lv_iload hx hb dL_law_564 (lv_at hl 1 rfl) ?_
      refine n_if_ne (tgt := 581) hx hb (by decide) dL_law_566 (by decide) (fun c566 => ?_) (fun c566 => ?_)
      · refine lv_goto (tgt := 1433) hx hb dL_law_581 (by decide) ?_
        refine W.widen (k := 27 + 8 * (jj + 1)) (n := 20244 + 64 * (jj + 1)) (by omega) (by omega) ?_
        exact hN 2 k V C T B P A OR n PR ST li w WK so sp CT SC TA FW O _ _ hI hP hD hS ls (lv_sub hl [2, 3, 4, 5, 6] rfl)
      · exact absurd c566 (by decide)

set_option maxHeartbeats 8000000 in
set_option maxRecDepth 100000 in
theorem lw_setProduct (hst : l.stackTraces = false) (hc : Lc p s m meth c b L xs D cI cZ cJ) {r q : Nat → Nat} {qo jj : Nat} (hj : 4 * jj + 4 ≤ L) {th : Nat} {k : Nat} {V : Nat → Nat} {C : Nat → Nat} {T : Nat → Nat} {B : Nat → Nat} {P : Nat → Nat} {A : Nat → Nat} {OR : Nat → Nat} {n : Nat} {PR : Nat → Nat} {ST : Nat → Nat} {li : Nat} {w : Nat} {WK : Nat → Nat} {so : Nat} {sp : Nat} {CT : Nat → Int64} {SC : Nat → Int} {TA : Nat → Nat} {FW : Nat → Nat} {O : Nat → Int64} {H : Heap} {locs : List Loc} (hI : IV k V C T A OR n PR ST li w WK so sp) (hP : va_P D vwCl (wL r q qo cI cZ cJ th k V C T B P A OR n PR ST li w WK so sp CT SC TA FW O) H) (hD : va_D (lA s) (wL r q qo cI cZ cJ th k V C T B P A OR n PR ST li w WK so sp CT SC TA FW O)) (hS : va_S (lA s) s.heap H locs) {ls : Array Slot} (hl : lv_has ls 9 [(4, .int (nI (4 * jj))), (3, .ref qo), (2, .ref (r 0)), (1, .ref (q 0)), (0, .ref b)]) (hN : Nx p l e s m below meth c b D r q qo cI cZ cJ Q jj) : W p l e room_1 s m #[Value.ref b] below meth c H locs (27 + 8 * jj) (20244 + 64 * jj) Q (F0 m 584 ls []) := by
  obtain ⟨hx, hb, hr, hml, hown, hts, hX, hbl, hlocks, hK, hZ, hg, hn, hL⟩ := hc
  have hA : ∀ q9 : Nat, s.heap.size ≤ q9 → lA s q9 := fun _ h => h
  have hbA : ¬ lA s b := Nat.not_le.mpr hbl
  have hP : va_P D vwCl ((wM r cI cZ cJ th k V C A T B P OR n PR ST li w WK so sp CT FW) ++ ((wX q cI cZ cJ k V C T B P A n PR ST li w WK so sp CT SC TA) ++ [(qo, .inl (cJ, 1, .inr (.inl O)))])) H := hP
  have hD : va_D (lA s) ((wM r cI cZ cJ th k V C A T B P OR n PR ST li w WK so sp CT FW) ++ ((wX q cI cZ cJ k V C T B P A n PR ST li w WK so sp CT SC TA) ++ [(qo, .inl (cJ, 1, .inr (.inl O)))])) := hD
  refine lv_aload_n hx hb dL_law_584 rfl (lv_at hl 3 rfl) ?_
  refine lv_aload_n hx hb dL_law_585 rfl (lv_at hl 4 rfl) ?_
  refine lv_iload hx hb dL_law_586 (lv_at hl 0 rfl) ?_
  refine lv_iconst (v := nI 1) hx hb dL_law_588 (ic_1) ?_
  refine n_iadd hx hb dL_law_589 ?_
  refine n_sld hx hb hX hbl hbA hS (by omega) (by omega) dL_law_590 ?_
  refine lv_aload_n hx hb dL_law_591 rfl (lv_at hl 4 rfl) ?_
  refine lv_iload hx hb dL_law_592 (lv_at hl 0 rfl) ?_
  refine lv_iconst (v := nI 2) hx hb dL_law_594 (ic_2) ?_
  refine n_iadd hx hb dL_law_595 ?_
  refine n_sld hx hb hX hbl hbA hS (by omega) (by omega) dL_law_596 ?_
  refine lv_aload_n hx hb dL_law_597 rfl (lv_at hl 4 rfl) ?_
  refine lv_iload hx hb dL_law_598 (lv_at hl 0 rfl) ?_
  refine lv_iconst (v := nI 3) hx hb dL_law_600 (ic_3) ?_
  refine n_iadd hx hb dL_law_601 ?_
  refine n_sld hx hb hX hbl hbA hS (by omega) (by omega) dL_law_602 ?_
  refine lv_aload_n hx hb dL_law_603 rfl (lv_at hl 1 rfl) ?_
  refine k3_i (mc := 2) (ms := 12) (wa := (wM r cI cZ cJ th k V C A T B P OR n PR ST li w WK so sp CT FW)) (wc := ((wX q cI cZ cJ k V C T B P A n PR ST li w WK so sp CT SC TA) ++ [(qo, .inl (cJ, 1, .inr (.inl O)))])) (wb := []) (vx_runSW (As := [.ref (q 0), .int (xs ((4 * jj) + 1)), .int (xs ((4 * jj) + 2)), .int (xs ((4 * jj) + 3)), .ref qo]) (rest := []) ⟨hx, hb, hml, hown, hts⟩ (c_L_setProduct l hst D q qo cI cZ cJ k V C T B P A n PR ST li w WK so sp CT SC TA O H.size (xs ((4 * jj) + 1)) (xs ((4 * jj) + 2)) (xs ((4 * jj) + 3)) hI.hn10) (vx_cwSW 5 hts gL_law_L_setProduct rfl rfl rfl hd_L_setProduct.2 ⟨(Nat.le_of_ble_eq_true rfl), (Nat.le_of_ble_eq_true rfl)⟩) (pre_N (wa := (wM r cI cZ cJ th k V C A T B P OR n PR ST li w WK so sp CT FW)) (wc := ((wX q cI cZ cJ k V C T B P A n PR ST li w WK so sp CT SC TA) ++ [(qo, .inl (cJ, 1, .inr (.inl O)))])) (wb := []) hP hK hD hS hA hZ hg hn) rfl rfl hl.1 rfl (lv_room (Nat.le_of_ble_eq_true rfl)) dL_law_604 ⟨(show (27 + 8 * jj) + 2 ≤ 601024 by omega), (show (20244 + 64 * jj) + 12 ≤ 7293034 by omega)⟩) hP hD hS hA (fun rr u H locs hp hP hD hS => ?_)
  rcases u with u | kk
  · replace hp : rr = nI 0 ∧ (u.1 < n ∧ 1 ≤ u.2.1 ∧ u.2.1 < 2001 ∧ u.2.2 < 100 ∧ (xs ((4 * jj) + 1)) = nI u.1 ∧ (xs ((4 * jj) + 2)) = nI u.2.1 ∧ (xs ((4 * jj) + 3)) = nI u.2.2) := hp
    obtain ⟨rfl, hp⟩ := hp
    have hP : va_P D vwCl ((wM r cI cZ cJ th k V C A T B P OR n PR ST li w WK so sp CT FW) ++ ((wX q cI cZ cJ k V C T B P A n (un PR u.1 u.2.1) (un ST u.1 u.2.2) li w WK so sp CT SC TA) ++ [(qo, .inl (cJ, 1, .inr (.inl (vp_updL O 0 ((nI (PR u.1)).toInt64)))))])) H := hP
    have hD : va_D (lA s) ((wM r cI cZ cJ th k V C A T B P OR n PR ST li w WK so sp CT FW) ++ ((wX q cI cZ cJ k V C T B P A n (un PR u.1 u.2.1) (un ST u.1 u.2.2) li w WK so sp CT SC TA) ++ [(qo, .inl (cJ, 1, .inr (.inl (vp_updL O 0 ((nI (PR u.1)).toInt64)))))])) := hD
    refine lv_istore (lv' := [(5, .int (nI 0)), (4, .int (nI (4 * jj))), (3, .ref qo), (2, .ref (r 0)), (1, .ref (q 0)), (0, .ref b)]) hx hb dL_law_607 hl (by decide) rfl (fun ls hl => ?_)
    refine lv_aload_n hx hb dL_law_609 rfl (lv_at hl 3 rfl) ?_
    refine lv_aload_n hx hb dL_law_610 rfl (lv_at hl 5 rfl) ?_
    refine lv_iload hx hb dL_law_611 (lv_at hl 1 rfl) ?_
    refine lv_iconst (v := nI 1) hx hb dL_law_613 (ic_1) ?_
    refine n_iadd hx hb dL_law_614 ?_
    refine n_sld hx hb hX hbl hbA hS (by omega) (by omega) dL_law_615 ?_
    refine lv_aload_n hx hb dL_law_616 rfl (lv_at hl 5 rfl) ?_
    refine lv_iload hx hb dL_law_617 (lv_at hl 1 rfl) ?_
    refine lv_iconst (v := nI 2) hx hb dL_law_619 (ic_2) ?_
    refine n_iadd hx hb dL_law_620 ?_
    refine n_sld hx hb hX hbl hbA hS (by omega) (by omega) dL_law_621 ?_
    refine lv_aload_n hx hb dL_law_622 rfl (lv_at hl 5 rfl) ?_
    refine lv_iload hx hb dL_law_623 (lv_at hl 1 rfl) ?_
    refine lv_iconst (v := nI 3) hx hb dL_law_625 (ic_3) ?_
    refine n_iadd hx hb dL_law_626 ?_
    refine n_sld hx hb hX hbl hbA hS (by omega) (by omega) dL_law_627 ?_
    refine k3_i (mc := 0) (ms := 0) (wa := []) (wc := (wM r cI cZ cJ th k V C A T B P OR n PR ST li w WK so sp CT FW)) (wb := ((wX q cI cZ cJ k V C T B P A n (un PR u.1 u.2.1) (un ST u.1 u.2.2) li w WK so sp CT SC TA) ++ [(qo, .inl (cJ, 1, .inr (.inl (vp_updL O 0 ((nI (PR u.1)).toInt64)))))])) (va_runV (As := [.int (xs ((4 * jj) + 1)), .int (xs ((4 * jj) + 2)), .int (xs ((4 * jj) + 3))]) (rest := []) ⟨hx, hb, hml, hown, hts⟩ (c_X1_setProduct l hst D r cI cZ cJ th k V C A T B P OR n PR ST li w WK so sp CT FW H.size (xs ((4 * jj) + 1)) (xs ((4 * jj) + 2)) (xs ((4 * jj) + 3)) hI.hn10) (cwV 3 hts gL_law_X1_setProduct rfl rfl rfl hd_X1_setProduct ⟨(Nat.le_of_ble_eq_true rfl), (Nat.le_of_ble_eq_true rfl)⟩) (pre_V3 (wa := []) (wc := (wM r cI cZ cJ th k V C A T B P OR n PR ST li w WK so sp CT FW)) (wb := ((wX q cI cZ cJ k V C T B P A n (un PR u.1 u.2.1) (un ST u.1 u.2.2) li w WK so sp CT SC TA) ++ [(qo, .inl (cJ, 1, .inr (.inl (vp_updL O 0 ((nI (PR u.1)).toInt64)))))])) hP hK hD hS hA hZ hg 0 (ci := 1) rfl rfl) rfl rfl hl.1 rfl (lv_room (Nat.le_of_ble_eq_true rfl)) dL_law_628 ⟨(show ((27 + 8 * jj) + 2) + 0 ≤ 601024 by omega), (show ((20244 + 64 * jj) + 12) + 0 ≤ 7293034 by omega)⟩) hP hD hS hA (fun rr u2 H locs hq hP hD hS => ?_)
    obtain ⟨v0, v1, v2, v3⟩ := u2
    replace hq : rr = nI v0 ∧ ((v1 = 0 ∧ ∃ h i j, h < n ∧ 1 ≤ i ∧ i < 2001 ∧ j < 100 ∧ (xs ((4 * jj) + 1)) = nI h ∧ (xs ((4 * jj) + 2)) = nI i ∧ (xs ((4 * jj) + 3)) = nI j ∧ v0 = PR h ∧ v2 = un PR h i ∧ v3 = un ST h j) ∨ (v1 = 1 ∧ ¬ rg (xs ((4 * jj) + 1)) 0 n ∧ v2 = PR ∧ v3 = ST) ∨ (v1 = 2 ∧ rg (xs ((4 * jj) + 1)) 0 n ∧ ¬ (rg (xs ((4 * jj) + 2)) 1 2001 ∧ rg (xs ((4 * jj) + 3)) 0 100) ∧ v2 = PR ∧ v3 = ST)) := hq
    obtain ⟨hr9, hq⟩ := hq
    replace hr9 := hr9.symm
    subst hr9
    have hP : va_P D vwCl ((wM r cI cZ cJ v1 k V C A T B P OR n v2 v3 li w WK so sp CT FW) ++ ((wX q cI cZ cJ k V C T B P A n (un PR u.1 u.2.1) (un ST u.1 u.2.2) li w WK so sp CT SC TA) ++ [(qo, .inl (cJ, 1, .inr (.inl (vp_updL O 0 ((nI (PR u.1)).toInt64)))))])) H := hP
    have hD : va_D (lA s) ((wM r cI cZ cJ v1 k V C A T B P OR n v2 v3 li w WK so sp CT FW) ++ ((wX q cI cZ cJ k V C T B P A n (un PR u.1 u.2.1) (un ST u.1 u.2.2) li w WK so sp CT SC TA) ++ [(qo, .inl (cJ, 1, .inr (.inl (vp_updL O 0 ((nI (PR u.1)).toInt64)))))])) := hD
    obtain ⟨e0, e1, f0, f1⟩ := q_setProduct_0 hI.hn10 hp hq
    have e0 := e0.symm
    subst e0
    have e1 := e1.symm
    subst e1
    have f0 := f0.symm
    subst f0
    have f1 := f1.symm
    subst f1
    have hI2 := iv_setProduct (i := u.1) hI hp.2.1 hp.2.2.1 hp.2.2.2.1
    refine lv_istore (lv' := [(6, .int (nI (PR u.1))), (5, .int (nI 0)), (4, .int (nI (4 * jj))), (3, .ref qo), (2, .ref (r 0)), (1, .ref (q 0)), (0, .ref b)]) hx hb dL_law_631 hl (by decide) rfl (fun ls hl => ?_)
    refine lv_aload_n hx hb dL_law_633 rfl (lv_at hl 4 rfl) ?_
    refine k3_i (mc := 0) (ms := 0) (wa := []) (wc := (wM r cI cZ cJ 0 k V C A T B P OR n (un PR u.1 u.2.1) (un ST u.1 u.2.2) li w WK so sp CT FW)) (wb := ((wX q cI cZ cJ k V C T B P A n (un PR u.1 u.2.1) (un ST u.1 u.2.2) li w WK so sp CT SC TA) ++ [(qo, .inl (cJ, 1, .inr (.inl (vp_updL O 0 ((nI (PR u.1)).toInt64)))))])) (va_runV (As := []) (rest := []) ⟨hx, hb, hml, hown, hts⟩ (c_X1_thrown l hst D r cI cZ cJ 0 k V C A T B P OR n (un PR u.1 u.2.1) (un ST u.1 u.2.2) li w WK so sp CT FW H.size  ) (cwV 0 hts gL_law_X1_thrown rfl rfl rfl hd_X1_thrown ⟨(Nat.le_of_ble_eq_true rfl), (Nat.le_of_ble_eq_true rfl)⟩) (pre_V3 (wa := []) (wc := (wM r cI cZ cJ 0 k V C A T B P OR n (un PR u.1 u.2.1) (un ST u.1 u.2.2) li w WK so sp CT FW)) (wb := ((wX q cI cZ cJ k V C T B P A n (un PR u.1 u.2.1) (un ST u.1 u.2.2) li w WK so sp CT SC TA) ++ [(qo, .inl (cJ, 1, .inr (.inl (vp_updL O 0 ((nI (PR u.1)).toInt64)))))])) hP hK hD hS hA hZ hg 0 (ci := 1) rfl rfl) rfl rfl hl.1 rfl (lv_room (Nat.le_of_ble_eq_true rfl)) dL_law_634 ⟨(show (((27 + 8 * jj) + 2) + 0) + 0 ≤ 601024 by omega), (show (((20244 + 64 * jj) + 12) + 0) + 0 ≤ 7293034 by omega)⟩) hP hD hS hA (fun rr u2 H locs hq hP hD hS => ?_)
    replace hq : rr = nI 0 := hq
    subst hq
    have hP : va_P D vwCl ((wM r cI cZ cJ 0 k V C A T B P OR n (un PR u.1 u.2.1) (un ST u.1 u.2.2) li w WK so sp CT FW) ++ ((wX q cI cZ cJ k V C T B P A n (un PR u.1 u.2.1) (un ST u.1 u.2.2) li w WK so sp CT SC TA) ++ [(qo, .inl (cJ, 1, .inr (.inl (vp_updL O 0 ((nI (PR u.1)).toInt64)))))])) H := hP
    have hD : va_D (lA s) ((wM r cI cZ cJ 0 k V C A T B P OR n (un PR u.1 u.2.1) (un ST u.1 u.2.2) li w WK so sp CT FW) ++ ((wX q cI cZ cJ k V C T B P A n (un PR u.1 u.2.1) (un ST u.1 u.2.2) li w WK so sp CT SC TA) ++ [(qo, .inl (cJ, 1, .inr (.inl (vp_updL O 0 ((nI (PR u.1)).toInt64)))))])) := hD
    refine lv_iload hx hb dL_law_637 (lv_at hl 1 rfl) ?_
    refine lv_icmp_eq (tgt := 644) hx hb dL_law_639 (by decide) (fun _ => ?_) (fun h => absurd rfl h)
    refine lv_iload hx hb dL_law_644 (lv_at hl 1 rfl) ?_
    refine n_if_ne (tgt := 661) hx hb (by decide) dL_law_646 (by decide) (fun c646 => ?_) (fun c646 => ?_)
    · exact absurd c646 (by decide)
    · refine lv_aload_n hx hb dL_law_649 rfl (lv_at hl 3 rfl) ?_
      refine lv_iconst (v := nI 0) hx hb dL_law_650 (ic_0) ?_
      refine n_lald hx hb hK hP 26 2 rfl rfl (by decide) (by decide) dL_law_651 ?_
      refine n_topl (show (vp_updL O 0 ((nI (PR u.1)).toInt64)) 0 = (nI (PR u.1)).toInt64 from updL_s) ?_
      refine lv_iload hx hb dL_law_652 (lv_at hl 0 rfl) ?_
      refine lv_i2l hx hb dL_law_654 rfl ?_
      refine n_lcmp_eq (tgt := 661) hx hb dL_law_655 dL_law_656 (by decide) (fun _ => ?_) (fun h => absurd rfl h)
      refine lv_goto (tgt := 1433) hx hb dL_law_661 (by decide) ?_
      refine W.widen (k := 27 + 8 * (jj + 1)) (n := 20244 + 64 * (jj + 1)) (by omega) (by omega) ?_
      exact hN 0 k V C T B P A OR n (un PR u.1 u.2.1) (un ST u.1 u.2.2) li w WK so sp CT SC TA FW (vp_updL O 0 ((nI (PR u.1)).toInt64)) _ _ hI2 hP hD hS ls (lv_sub hl [2, 3, 4, 5, 6] rfl)
  · replace hp : rr = nI kk ∧ ((kk = 1 ∧ (¬ rg (xs ((4 * jj) + 1)) 0 n)) ∨ (kk = 2 ∧ (rg (xs ((4 * jj) + 1)) 0 n ∧ ¬ (rg (xs ((4 * jj) + 2)) 1 2001 ∧ rg (xs ((4 * jj) + 3)) 0 100)))) := hp
    obtain ⟨rfl, hp⟩ := hp
    have hP : va_P D vwCl ((wM r cI cZ cJ th k V C A T B P OR n PR ST li w WK so sp CT FW) ++ ((wX q cI cZ cJ k V C T B P A n PR ST li w WK so sp CT SC TA) ++ [(qo, .inl (cJ, 1, .inr (.inl O)))])) H := hP
    have hD : va_D (lA s) ((wM r cI cZ cJ th k V C A T B P OR n PR ST li w WK so sp CT FW) ++ ((wX q cI cZ cJ k V C T B P A n PR ST li w WK so sp CT SC TA) ++ [(qo, .inl (cJ, 1, .inr (.inl O)))])) := hD
    rcases hp with ⟨rfl, hp⟩ | ⟨rfl, hp⟩
    · refine lv_istore (lv' := [(5, .int (nI 1)), (4, .int (nI (4 * jj))), (3, .ref qo), (2, .ref (r 0)), (1, .ref (q 0)), (0, .ref b)]) hx hb dL_law_607 hl (by decide) rfl (fun ls hl => ?_)
      refine lv_aload_n hx hb dL_law_609 rfl (lv_at hl 3 rfl) ?_
      refine lv_aload_n hx hb dL_law_610 rfl (lv_at hl 5 rfl) ?_
      refine lv_iload hx hb dL_law_611 (lv_at hl 1 rfl) ?_
      refine lv_iconst (v := nI 1) hx hb dL_law_613 (ic_1) ?_
      refine n_iadd hx hb dL_law_614 ?_
      refine n_sld hx hb hX hbl hbA hS (by omega) (by omega) dL_law_615 ?_
      refine lv_aload_n hx hb dL_law_616 rfl (lv_at hl 5 rfl) ?_
      refine lv_iload hx hb dL_law_617 (lv_at hl 1 rfl) ?_
      refine lv_iconst (v := nI 2) hx hb dL_law_619 (ic_2) ?_
      refine n_iadd hx hb dL_law_620 ?_
      refine n_sld hx hb hX hbl hbA hS (by omega) (by omega) dL_law_621 ?_
      refine lv_aload_n hx hb dL_law_622 rfl (lv_at hl 5 rfl) ?_
      refine lv_iload hx hb dL_law_623 (lv_at hl 1 rfl) ?_
      refine lv_iconst (v := nI 3) hx hb dL_law_625 (ic_3) ?_
      refine n_iadd hx hb dL_law_626 ?_
      refine n_sld hx hb hX hbl hbA hS (by omega) (by omega) dL_law_627 ?_
      refine k3_i (mc := 0) (ms := 0) (wa := []) (wc := (wM r cI cZ cJ th k V C A T B P OR n PR ST li w WK so sp CT FW)) (wb := ((wX q cI cZ cJ k V C T B P A n PR ST li w WK so sp CT SC TA) ++ [(qo, .inl (cJ, 1, .inr (.inl O)))])) (va_runV (As := [.int (xs ((4 * jj) + 1)), .int (xs ((4 * jj) + 2)), .int (xs ((4 * jj) + 3))]) (rest := []) ⟨hx, hb, hml, hown, hts⟩ (c_X1_setProduct l hst D r cI cZ cJ th k V C A T B P OR n PR ST li w WK so sp CT FW H.size (xs ((4 * jj) + 1)) (xs ((4 * jj) + 2)) (xs ((4 * jj) + 3)) hI.hn10) (cwV 3 hts gL_law_X1_setProduct rfl rfl rfl hd_X1_setProduct ⟨(Nat.le_of_ble_eq_true rfl), (Nat.le_of_ble_eq_true rfl)⟩) (pre_V3 (wa := []) (wc := (wM r cI cZ cJ th k V C A T B P OR n PR ST li w WK so sp CT FW)) (wb := ((wX q cI cZ cJ k V C T B P A n PR ST li w WK so sp CT SC TA) ++ [(qo, .inl (cJ, 1, .inr (.inl O)))])) hP hK hD hS hA hZ hg 0 (ci := 1) rfl rfl) rfl rfl hl.1 rfl (lv_room (Nat.le_of_ble_eq_true rfl)) dL_law_628 ⟨(show ((27 + 8 * jj) + 2) + 0 ≤ 601024 by omega), (show ((20244 + 64 * jj) + 12) + 0 ≤ 7293034 by omega)⟩) hP hD hS hA (fun rr u2 H locs hq hP hD hS => ?_)
      obtain ⟨v0, v1, v2, v3⟩ := u2
      replace hq : rr = nI v0 ∧ ((v1 = 0 ∧ ∃ h i j, h < n ∧ 1 ≤ i ∧ i < 2001 ∧ j < 100 ∧ (xs ((4 * jj) + 1)) = nI h ∧ (xs ((4 * jj) + 2)) = nI i ∧ (xs ((4 * jj) + 3)) = nI j ∧ v0 = PR h ∧ v2 = un PR h i ∧ v3 = un ST h j) ∨ (v1 = 1 ∧ ¬ rg (xs ((4 * jj) + 1)) 0 n ∧ v2 = PR ∧ v3 = ST) ∨ (v1 = 2 ∧ rg (xs ((4 * jj) + 1)) 0 n ∧ ¬ (rg (xs ((4 * jj) + 2)) 1 2001 ∧ rg (xs ((4 * jj) + 3)) 0 100) ∧ v2 = PR ∧ v3 = ST)) := hq
      obtain ⟨hr9, hq⟩ := hq
      replace hr9 := hr9.symm
      subst hr9
      have hP : va_P D vwCl ((wM r cI cZ cJ v1 k V C A T B P OR n v2 v3 li w WK so sp CT FW) ++ ((wX q cI cZ cJ k V C T B P A n PR ST li w WK so sp CT SC TA) ++ [(qo, .inl (cJ, 1, .inr (.inl O)))])) H := hP
      have hD : va_D (lA s) ((wM r cI cZ cJ v1 k V C A T B P OR n v2 v3 li w WK so sp CT FW) ++ ((wX q cI cZ cJ k V C T B P A n PR ST li w WK so sp CT SC TA) ++ [(qo, .inl (cJ, 1, .inr (.inl O)))])) := hD
      obtain ⟨e0, f0, f1⟩ := q_setProduct_1 hI.hn10 hp hq
      have e0 := e0.symm
      subst e0
      have f0 := f0.symm
      subst f0
      have f1 := f1.symm
      subst f1
      refine lv_istore (lv' := [(6, .int (nI v0)), (5, .int (nI 1)), (4, .int (nI (4 * jj))), (3, .ref qo), (2, .ref (r 0)), (1, .ref (q 0)), (0, .ref b)]) hx hb dL_law_631 hl (by decide) rfl (fun ls hl => ?_)
      refine lv_aload_n hx hb dL_law_633 rfl (lv_at hl 4 rfl) ?_
      refine k3_i (mc := 0) (ms := 0) (wa := []) (wc := (wM r cI cZ cJ 1 k V C A T B P OR n PR ST li w WK so sp CT FW)) (wb := ((wX q cI cZ cJ k V C T B P A n PR ST li w WK so sp CT SC TA) ++ [(qo, .inl (cJ, 1, .inr (.inl O)))])) (va_runV (As := []) (rest := []) ⟨hx, hb, hml, hown, hts⟩ (c_X1_thrown l hst D r cI cZ cJ 1 k V C A T B P OR n PR ST li w WK so sp CT FW H.size  ) (cwV 0 hts gL_law_X1_thrown rfl rfl rfl hd_X1_thrown ⟨(Nat.le_of_ble_eq_true rfl), (Nat.le_of_ble_eq_true rfl)⟩) (pre_V3 (wa := []) (wc := (wM r cI cZ cJ 1 k V C A T B P OR n PR ST li w WK so sp CT FW)) (wb := ((wX q cI cZ cJ k V C T B P A n PR ST li w WK so sp CT SC TA) ++ [(qo, .inl (cJ, 1, .inr (.inl O)))])) hP hK hD hS hA hZ hg 0 (ci := 1) rfl rfl) rfl rfl hl.1 rfl (lv_room (Nat.le_of_ble_eq_true rfl)) dL_law_634 ⟨(show (((27 + 8 * jj) + 2) + 0) + 0 ≤ 601024 by omega), (show (((20244 + 64 * jj) + 12) + 0) + 0 ≤ 7293034 by omega)⟩) hP hD hS hA (fun rr u2 H locs hq hP hD hS => ?_)
      replace hq : rr = nI 1 := hq
      subst hq
      have hP : va_P D vwCl ((wM r cI cZ cJ 1 k V C A T B P OR n PR ST li w WK so sp CT FW) ++ ((wX q cI cZ cJ k V C T B P A n PR ST li w WK so sp CT SC TA) ++ [(qo, .inl (cJ, 1, .inr (.inl O)))])) H := hP
      have hD : va_D (lA s) ((wM r cI cZ cJ 1 k V C A T B P OR n PR ST li w WK so sp CT FW) ++ ((wX q cI cZ cJ k V C T B P A n PR ST li w WK so sp CT SC TA) ++ [(qo, .inl (cJ, 1, .inr (.inl O)))])) := hD
      refine lv_iload hx hb dL_law_637 (lv_at hl 1 rfl) ?_
      refine lv_icmp_eq (tgt := 644) hx hb dL_law_639 (by decide) (fun _ => ?_) (fun h => absurd rfl h)
      refine lv_iload hx hb dL_law_644 (lv_at hl 1 rfl) ?_
      refine n_if_ne (tgt := 661) hx hb (by decide) dL_law_646 (by decide) (fun c646 => ?_) (fun c646 => ?_)
      · refine lv_goto (tgt := 1433) hx hb dL_law_661 (by decide) ?_
        refine W.widen (k := 27 + 8 * (jj + 1)) (n := 20244 + 64 * (jj + 1)) (by omega) (by omega) ?_
        exact hN 1 k V C T B P A OR n PR ST li w WK so sp CT SC TA FW O _ _ hI hP hD hS ls (lv_sub hl [2, 3, 4, 5, 6] rfl)
      · exact absurd c646 (by decide)
    · refine lv_istore (lv' := [(5, .int (nI 2)), (4, .int (nI (4 * jj))), (3, .ref qo), (2, .ref (r 0)), (1, .ref (q 0)), (0, .ref b)]) hx hb dL_law_607 hl (by decide) rfl (fun ls hl => ?_)
      refine lv_aload_n hx hb dL_law_609 rfl (lv_at hl 3 rfl) ?_
      refine lv_aload_n hx hb dL_law_610 rfl (lv_at hl 5 rfl) ?_
      refine lv_iload hx hb dL_law_611 (lv_at hl 1 rfl) ?_
      refine lv_iconst (v := nI 1) hx hb dL_law_613 (ic_1) ?_
      refine n_iadd hx hb dL_law_614 ?_
      refine n_sld hx hb hX hbl hbA hS (by omega) (by omega) dL_law_615 ?_
      refine lv_aload_n hx hb dL_law_616 rfl (lv_at hl 5 rfl) ?_
      refine lv_iload hx hb dL_law_617 (lv_at hl 1 rfl) ?_
      refine lv_iconst (v := nI 2) hx hb dL_law_619 (ic_2) ?_
      refine n_iadd hx hb dL_law_620 ?_
      refine n_sld hx hb hX hbl hbA hS (by omega) (by omega) dL_law_621 ?_
      refine lv_aload_n hx hb dL_law_622 rfl (lv_at hl 5 rfl) ?_
      refine lv_iload hx hb dL_law_623 (lv_at hl 1 rfl) ?_
      refine lv_iconst (v := nI 3) hx hb dL_law_625 (ic_3) ?_
      refine n_iadd hx hb dL_law_626 ?_
      refine n_sld hx hb hX hbl hbA hS (by omega) (by omega) dL_law_627 ?_
      refine k3_i (mc := 0) (ms := 0) (wa := []) (wc := (wM r cI cZ cJ th k V C A T B P OR n PR ST li w WK so sp CT FW)) (wb := ((wX q cI cZ cJ k V C T B P A n PR ST li w WK so sp CT SC TA) ++ [(qo, .inl (cJ, 1, .inr (.inl O)))])) (va_runV (As := [.int (xs ((4 * jj) + 1)), .int (xs ((4 * jj) + 2)), .int (xs ((4 * jj) + 3))]) (rest := []) ⟨hx, hb, hml, hown, hts⟩ (c_X1_setProduct l hst D r cI cZ cJ th k V C A T B P OR n PR ST li w WK so sp CT FW H.size (xs ((4 * jj) + 1)) (xs ((4 * jj) + 2)) (xs ((4 * jj) + 3)) hI.hn10) (cwV 3 hts gL_law_X1_setProduct rfl rfl rfl hd_X1_setProduct ⟨(Nat.le_of_ble_eq_true rfl), (Nat.le_of_ble_eq_true rfl)⟩) (pre_V3 (wa := []) (wc := (wM r cI cZ cJ th k V C A T B P OR n PR ST li w WK so sp CT FW)) (wb := ((wX q cI cZ cJ k V C T B P A n PR ST li w WK so sp CT SC TA) ++ [(qo, .inl (cJ, 1, .inr (.inl O)))])) hP hK hD hS hA hZ hg 0 (ci := 1) rfl rfl) rfl rfl hl.1 rfl (lv_room (Nat.le_of_ble_eq_true rfl)) dL_law_628 ⟨(show ((27 + 8 * jj) + 2) + 0 ≤ 601024 by omega), (show ((20244 + 64 * jj) + 12) + 0 ≤ 7293034 by omega)⟩) hP hD hS hA (fun rr u2 H locs hq hP hD hS => ?_)
      obtain ⟨v0, v1, v2, v3⟩ := u2
      replace hq : rr = nI v0 ∧ ((v1 = 0 ∧ ∃ h i j, h < n ∧ 1 ≤ i ∧ i < 2001 ∧ j < 100 ∧ (xs ((4 * jj) + 1)) = nI h ∧ (xs ((4 * jj) + 2)) = nI i ∧ (xs ((4 * jj) + 3)) = nI j ∧ v0 = PR h ∧ v2 = un PR h i ∧ v3 = un ST h j) ∨ (v1 = 1 ∧ ¬ rg (xs ((4 * jj) + 1)) 0 n ∧ v2 = PR ∧ v3 = ST) ∨ (v1 = 2 ∧ rg (xs ((4 * jj) + 1)) 0 n ∧ ¬ (rg (xs ((4 * jj) + 2)) 1 2001 ∧ rg (xs ((4 * jj) + 3)) 0 100) ∧ v2 = PR ∧ v3 = ST)) := hq
      obtain ⟨hr9, hq⟩ := hq
      replace hr9 := hr9.symm
      subst hr9
      have hP : va_P D vwCl ((wM r cI cZ cJ v1 k V C A T B P OR n v2 v3 li w WK so sp CT FW) ++ ((wX q cI cZ cJ k V C T B P A n PR ST li w WK so sp CT SC TA) ++ [(qo, .inl (cJ, 1, .inr (.inl O)))])) H := hP
      have hD : va_D (lA s) ((wM r cI cZ cJ v1 k V C A T B P OR n v2 v3 li w WK so sp CT FW) ++ ((wX q cI cZ cJ k V C T B P A n PR ST li w WK so sp CT SC TA) ++ [(qo, .inl (cJ, 1, .inr (.inl O)))])) := hD
      obtain ⟨e0, f0, f1⟩ := q_setProduct_2 hI.hn10 hp hq
      have e0 := e0.symm
      subst e0
      have f0 := f0.symm
      subst f0
      have f1 := f1.symm
      subst f1
      refine lv_istore (lv' := [(6, .int (nI v0)), (5, .int (nI 2)), (4, .int (nI (4 * jj))), (3, .ref qo), (2, .ref (r 0)), (1, .ref (q 0)), (0, .ref b)]) hx hb dL_law_631 hl (by decide) rfl (fun ls hl => ?_)
      refine lv_aload_n hx hb dL_law_633 rfl (lv_at hl 4 rfl) ?_
      refine k3_i (mc := 0) (ms := 0) (wa := []) (wc := (wM r cI cZ cJ 2 k V C A T B P OR n PR ST li w WK so sp CT FW)) (wb := ((wX q cI cZ cJ k V C T B P A n PR ST li w WK so sp CT SC TA) ++ [(qo, .inl (cJ, 1, .inr (.inl O)))])) (va_runV (As := []) (rest := []) ⟨hx, hb, hml, hown, hts⟩ (c_X1_thrown l hst D r cI cZ cJ 2 k V C A T B P OR n PR ST li w WK so sp CT FW H.size  ) (cwV 0 hts gL_law_X1_thrown rfl rfl rfl hd_X1_thrown ⟨(Nat.le_of_ble_eq_true rfl), (Nat.le_of_ble_eq_true rfl)⟩) (pre_V3 (wa := []) (wc := (wM r cI cZ cJ 2 k V C A T B P OR n PR ST li w WK so sp CT FW)) (wb := ((wX q cI cZ cJ k V C T B P A n PR ST li w WK so sp CT SC TA) ++ [(qo, .inl (cJ, 1, .inr (.inl O)))])) hP hK hD hS hA hZ hg 0 (ci := 1) rfl rfl) rfl rfl hl.1 rfl (lv_room (Nat.le_of_ble_eq_true rfl)) dL_law_634 ⟨(show (((27 + 8 * jj) + 2) + 0) + 0 ≤ 601024 by omega), (show (((20244 + 64 * jj) + 12) + 0) + 0 ≤ 7293034 by omega)⟩) hP hD hS hA (fun rr u2 H locs hq hP hD hS => ?_)
      replace hq : rr = nI 2 := hq
      subst hq
      have hP : va_P D vwCl ((wM r cI cZ cJ 2 k V C A T B P OR n PR ST li w WK so sp CT FW) ++ ((wX q cI cZ cJ k V C T B P A n PR ST li w WK so sp CT SC TA) ++ [(qo, .inl (cJ, 1, .inr (.inl O)))])) H := hP
      have hD : va_D (lA s) ((wM r cI cZ cJ 2 k V C A T B P OR n PR ST li w WK so sp CT FW) ++ ((wX q cI cZ cJ k V C T B P A n PR ST li w WK so sp CT SC TA) ++ [(qo, .inl (cJ, 1, .inr (.inl O)))])) := hD
      refine lv_iload hx hb dL_law_637 (lv_at hl 1 rfl) ?_
      refine lv_icmp_eq (tgt := 644) hx hb dL_law_639 (by decide) (fun _ => ?_) (fun h => absurd rfl h)
      refine lv_iload hx hb dL_law_644 (lv_at hl 1 rfl) ?_
      refine n_if_ne (tgt := 661) hx hb (by decide) dL_law_646 (by decide) (fun c646 => ?_) (fun c646 => ?_)
      · refine lv_goto (tgt := 1433) hx hb dL_law_661 (by decide) ?_
        refine W.widen (k := 27 + 8 * (jj + 1)) (n := 20244 + 64 * (jj + 1)) (by omega) (by omega) ?_
        exact hN 2 k V C T B P A OR n PR ST li w WK so sp CT SC TA FW O _ _ hI hP hD hS ls (lv_sub hl [2, 3, 4, 5, 6] rfl)
      · exact absurd c646 (by decide)

set_option maxHeartbeats 8000000 in
set_option maxRecDepth 100000 in
theorem lw_product (hst : l.stackTraces = false) (hc : Lc p s m meth c b L xs D cI cZ cJ) {r q : Nat → Nat} {qo jj : Nat} (hj : 4 * jj + 4 ≤ L) {th : Nat} {k : Nat} {V : Nat → Nat} {C : Nat → Nat} {T : Nat → Nat} {B : Nat → Nat} {P : Nat → Nat} {A : Nat → Nat} {OR : Nat → Nat} {n : Nat} {PR : Nat → Nat} {ST : Nat → Nat} {li : Nat} {w : Nat} {WK : Nat → Nat} {so : Nat} {sp : Nat} {CT : Nat → Int64} {SC : Nat → Int} {TA : Nat → Nat} {FW : Nat → Nat} {O : Nat → Int64} {H : Heap} {locs : List Loc} (hI : IV k V C T A OR n PR ST li w WK so sp) (hP : va_P D vwCl (wL r q qo cI cZ cJ th k V C T B P A OR n PR ST li w WK so sp CT SC TA FW O) H) (hD : va_D (lA s) (wL r q qo cI cZ cJ th k V C T B P A OR n PR ST li w WK so sp CT SC TA FW O)) (hS : va_S (lA s) s.heap H locs) {ls : Array Slot} (hl : lv_has ls 9 [(4, .int (nI (4 * jj))), (3, .ref qo), (2, .ref (r 0)), (1, .ref (q 0)), (0, .ref b)]) (hN : Nx p l e s m below meth c b D r q qo cI cZ cJ Q jj) : W p l e room_1 s m #[Value.ref b] below meth c H locs (27 + 8 * jj) (20244 + 64 * jj) Q (F0 m 664 ls []) := by
  obtain ⟨hx, hb, hr, hml, hown, hts, hX, hbl, hlocks, hK, hZ, hg, hn, hL⟩ := hc
  have hA : ∀ q9 : Nat, s.heap.size ≤ q9 → lA s q9 := fun _ h => h
  have hbA : ¬ lA s b := Nat.not_le.mpr hbl
  have hP : va_P D vwCl ((wM r cI cZ cJ th k V C A T B P OR n PR ST li w WK so sp CT FW) ++ ((wX q cI cZ cJ k V C T B P A n PR ST li w WK so sp CT SC TA) ++ [(qo, .inl (cJ, 1, .inr (.inl O)))])) H := hP
  have hD : va_D (lA s) ((wM r cI cZ cJ th k V C A T B P OR n PR ST li w WK so sp CT FW) ++ ((wX q cI cZ cJ k V C T B P A n PR ST li w WK so sp CT SC TA) ++ [(qo, .inl (cJ, 1, .inr (.inl O)))])) := hD
  refine lv_aload_n hx hb dL_law_664 rfl (lv_at hl 3 rfl) ?_
  refine lv_aload_n hx hb dL_law_665 rfl (lv_at hl 4 rfl) ?_
  refine lv_iload hx hb dL_law_666 (lv_at hl 0 rfl) ?_
  refine lv_iconst (v := nI 1) hx hb dL_law_668 (ic_1) ?_
  refine n_iadd hx hb dL_law_669 ?_
  refine n_sld hx hb hX hbl hbA hS (by omega) (by omega) dL_law_670 ?_
  refine lv_aload_n hx hb dL_law_671 rfl (lv_at hl 4 rfl) ?_
  refine lv_iload hx hb dL_law_672 (lv_at hl 0 rfl) ?_
  refine lv_iconst (v := nI 2) hx hb dL_law_674 (ic_2) ?_
  refine n_iadd hx hb dL_law_675 ?_
  refine n_sld hx hb hX hbl hbA hS (by omega) (by omega) dL_law_676 ?_
  refine lv_if_eq (tgt := 684) hx hb dL_law_677 (by decide) (fun con => ?_) (fun con => ?_)
  · refine lv_iconst (v := nI 0) hx hb dL_law_684 (ic_0) ?_
    refine lv_aload_n hx hb dL_law_685 rfl (lv_at hl 1 rfl) ?_
    refine k3_i (mc := 1) (ms := 6) (wa := (wM r cI cZ cJ th k V C A T B P OR n PR ST li w WK so sp CT FW)) (wc := ((wX q cI cZ cJ k V C T B P A n PR ST li w WK so sp CT SC TA) ++ [(qo, .inl (cJ, 1, .inr (.inl O)))])) (wb := []) (vx_runSW (As := [.ref (q 0), .int (xs ((4 * jj) + 1)), .int (nI 0), .ref qo]) (rest := []) ⟨hx, hb, hml, hown, hts⟩ (c_L_product l hst D q qo cI cZ cJ k V C T B P A n PR ST li w WK so sp CT SC TA O H.size (xs ((4 * jj) + 1)) 0 hI.hn10 (by decide)) (vx_cwSW 4 hts gL_law_L_product rfl rfl rfl hd_L_product.2 ⟨(Nat.le_of_ble_eq_true rfl), (Nat.le_of_ble_eq_true rfl)⟩) (pre_N (wa := (wM r cI cZ cJ th k V C A T B P OR n PR ST li w WK so sp CT FW)) (wc := ((wX q cI cZ cJ k V C T B P A n PR ST li w WK so sp CT SC TA) ++ [(qo, .inl (cJ, 1, .inr (.inl O)))])) (wb := []) hP hK hD hS hA hZ hg hn) rfl rfl hl.1 rfl (lv_room (Nat.le_of_ble_eq_true rfl)) dL_law_686 ⟨(show (27 + 8 * jj) + 1 ≤ 601024 by omega), (show (20244 + 64 * jj) + 6 ≤ 7293034 by omega)⟩) hP hD hS hA (fun rr u H locs hp hP hD hS => ?_)
    rcases u with u | kk
    · replace hp : rr = nI 0 ∧ (u < n ∧ (xs ((4 * jj) + 1)) = nI u) := hp
      obtain ⟨rfl, hp⟩ := hp
      have hP : va_P D vwCl ((wM r cI cZ cJ th k V C A T B P OR n PR ST li w WK so sp CT FW) ++ ((wX q cI cZ cJ k V C T B P A n PR ST li w WK so sp CT SC TA) ++ [(qo, .inl (cJ, 1, .inr (.inl (vp_updL O 0 ((nI (if 0 = 0 then PR u else ST u)).toInt64)))))])) H := hP
      have hD : va_D (lA s) ((wM r cI cZ cJ th k V C A T B P OR n PR ST li w WK so sp CT FW) ++ ((wX q cI cZ cJ k V C T B P A n PR ST li w WK so sp CT SC TA) ++ [(qo, .inl (cJ, 1, .inr (.inl (vp_updL O 0 ((nI (if 0 = 0 then PR u else ST u)).toInt64)))))])) := hD
      refine lv_istore (lv' := [(5, .int (nI 0)), (4, .int (nI (4 * jj))), (3, .ref qo), (2, .ref (r 0)), (1, .ref (q 0)), (0, .ref b)]) hx hb dL_law_689 hl (by decide) rfl (fun ls hl => ?_)
      refine lv_aload_n hx hb dL_law_691 rfl (lv_at hl 3 rfl) ?_
      refine lv_aload_n hx hb dL_law_692 rfl (lv_at hl 5 rfl) ?_
      refine lv_iload hx hb dL_law_693 (lv_at hl 1 rfl) ?_
      refine lv_iconst (v := nI 1) hx hb dL_law_695 (ic_1) ?_
      refine n_iadd hx hb dL_law_696 ?_
      refine n_sld hx hb hX hbl hbA hS (by omega) (by omega) dL_law_697 ?_
      refine lv_aload_n hx hb dL_law_698 rfl (lv_at hl 5 rfl) ?_
      refine lv_iload hx hb dL_law_699 (lv_at hl 1 rfl) ?_
      refine lv_iconst (v := nI 2) hx hb dL_law_701 (ic_2) ?_
      refine n_iadd hx hb dL_law_702 ?_
      refine n_sld hx hb hX hbl hbA hS (by omega) (by omega) dL_law_703 ?_
      refine lv_if_eq (tgt := 711) hx hb dL_law_704 (by decide) (fun _ => ?_) (fun h => absurd con h)
      refine lv_iconst (v := nI 0) hx hb dL_law_711 (ic_0) ?_
      refine k3_i (mc := 0) (ms := 0) (wa := []) (wc := (wM r cI cZ cJ th k V C A T B P OR n PR ST li w WK so sp CT FW)) (wb := ((wX q cI cZ cJ k V C T B P A n PR ST li w WK so sp CT SC TA) ++ [(qo, .inl (cJ, 1, .inr (.inl (vp_updL O 0 ((nI (if 0 = 0 then PR u else ST u)).toInt64)))))])) (va_runV (As := [.int (xs ((4 * jj) + 1)), .int (nI 0)]) (rest := []) ⟨hx, hb, hml, hown, hts⟩ (c_X1_product l hst D r cI cZ cJ th k V C A T B P OR n PR ST li w WK so sp CT FW H.size (xs ((4 * jj) + 1)) 0 hI.hn10 (by decide)) (cwV 2 hts gL_law_X1_product rfl rfl rfl hd_X1_product ⟨(Nat.le_of_ble_eq_true rfl), (Nat.le_of_ble_eq_true rfl)⟩) (pre_V3 (wa := []) (wc := (wM r cI cZ cJ th k V C A T B P OR n PR ST li w WK so sp CT FW)) (wb := ((wX q cI cZ cJ k V C T B P A n PR ST li w WK so sp CT SC TA) ++ [(qo, .inl (cJ, 1, .inr (.inl (vp_updL O 0 ((nI (if 0 = 0 then PR u else ST u)).toInt64)))))])) hP hK hD hS hA hZ hg 0 (ci := 1) rfl rfl) rfl rfl hl.1 rfl (lv_room (Nat.le_of_ble_eq_true rfl)) dL_law_712 ⟨(show ((27 + 8 * jj) + 1) + 0 ≤ 601024 by omega), (show ((20244 + 64 * jj) + 6) + 0 ≤ 7293034 by omega)⟩) hP hD hS hA (fun rr u2 H locs hq hP hD hS => ?_)
      obtain ⟨v0, v1⟩ := u2
      replace hq : rr = nI v0 ∧ ((v1 = 0 ∧ ∃ i, i < n ∧ (xs ((4 * jj) + 1)) = nI i ∧ v0 = if 0 = 0 then PR i else ST i) ∨ (v1 = 1 ∧ ¬ rg (xs ((4 * jj) + 1)) 0 n)) := hq
      obtain ⟨hr9, hq⟩ := hq
      replace hr9 := hr9.symm
      subst hr9
      have hP : va_P D vwCl ((wM r cI cZ cJ v1 k V C A T B P OR n PR ST li w WK so sp CT FW) ++ ((wX q cI cZ cJ k V C T B P A n PR ST li w WK so sp CT SC TA) ++ [(qo, .inl (cJ, 1, .inr (.inl (vp_updL O 0 ((nI (if 0 = 0 then PR u else ST u)).toInt64)))))])) H := hP
      have hD : va_D (lA s) ((wM r cI cZ cJ v1 k V C A T B P OR n PR ST li w WK so sp CT FW) ++ ((wX q cI cZ cJ k V C T B P A n PR ST li w WK so sp CT SC TA) ++ [(qo, .inl (cJ, 1, .inr (.inl (vp_updL O 0 ((nI (if 0 = 0 then PR u else ST u)).toInt64)))))])) := hD
      obtain ⟨e0, e1⟩ := q_product_0 hI.hn10 hp hq
      have e0 := e0.symm
      subst e0
      have e1 := e1.symm
      subst e1
      refine lv_istore (lv' := [(6, .int (nI (if 0 = 0 then PR u else ST u))), (5, .int (nI 0)), (4, .int (nI (4 * jj))), (3, .ref qo), (2, .ref (r 0)), (1, .ref (q 0)), (0, .ref b)]) hx hb dL_law_715 hl (by decide) rfl (fun ls hl => ?_)
      refine lv_aload_n hx hb dL_law_717 rfl (lv_at hl 4 rfl) ?_
      refine k3_i (mc := 0) (ms := 0) (wa := []) (wc := (wM r cI cZ cJ 0 k V C A T B P OR n PR ST li w WK so sp CT FW)) (wb := ((wX q cI cZ cJ k V C T B P A n PR ST li w WK so sp CT SC TA) ++ [(qo, .inl (cJ, 1, .inr (.inl (vp_updL O 0 ((nI (if 0 = 0 then PR u else ST u)).toInt64)))))])) (va_runV (As := []) (rest := []) ⟨hx, hb, hml, hown, hts⟩ (c_X1_thrown l hst D r cI cZ cJ 0 k V C A T B P OR n PR ST li w WK so sp CT FW H.size  ) (cwV 0 hts gL_law_X1_thrown rfl rfl rfl hd_X1_thrown ⟨(Nat.le_of_ble_eq_true rfl), (Nat.le_of_ble_eq_true rfl)⟩) (pre_V3 (wa := []) (wc := (wM r cI cZ cJ 0 k V C A T B P OR n PR ST li w WK so sp CT FW)) (wb := ((wX q cI cZ cJ k V C T B P A n PR ST li w WK so sp CT SC TA) ++ [(qo, .inl (cJ, 1, .inr (.inl (vp_updL O 0 ((nI (if 0 = 0 then PR u else ST u)).toInt64)))))])) hP hK hD hS hA hZ hg 0 (ci := 1) rfl rfl) rfl rfl hl.1 rfl (lv_room (Nat.le_of_ble_eq_true rfl)) dL_law_718 ⟨(show (((27 + 8 * jj) + 1) + 0) + 0 ≤ 601024 by omega), (show (((20244 + 64 * jj) + 6) + 0) + 0 ≤ 7293034 by omega)⟩) hP hD hS hA (fun rr u2 H locs hq hP hD hS => ?_)
      replace hq : rr = nI 0 := hq
      subst hq
      have hP : va_P D vwCl ((wM r cI cZ cJ 0 k V C A T B P OR n PR ST li w WK so sp CT FW) ++ ((wX q cI cZ cJ k V C T B P A n PR ST li w WK so sp CT SC TA) ++ [(qo, .inl (cJ, 1, .inr (.inl (vp_updL O 0 ((nI (if 0 = 0 then PR u else ST u)).toInt64)))))])) H := hP
      have hD : va_D (lA s) ((wM r cI cZ cJ 0 k V C A T B P OR n PR ST li w WK so sp CT FW) ++ ((wX q cI cZ cJ k V C T B P A n PR ST li w WK so sp CT SC TA) ++ [(qo, .inl (cJ, 1, .inr (.inl (vp_updL O 0 ((nI (if 0 = 0 then PR u else ST u)).toInt64)))))])) := hD
      refine lv_iload hx hb dL_law_721 (lv_at hl 1 rfl) ?_
      refine lv_icmp_eq (tgt := 728) hx hb dL_law_723 (by decide) (fun _ => ?_) (fun h => absurd rfl h)
      refine lv_iload hx hb dL_law_728 (lv_at hl 1 rfl) ?_
      refine n_if_ne (tgt := 745) hx hb (by decide) dL_law_730 (by decide) (fun c730 => ?_) (fun c730 => ?_)
      · exact absurd c730 (by decide)
      · refine lv_aload_n hx hb dL_law_733 rfl (lv_at hl 3 rfl) ?_
        refine lv_iconst (v := nI 0) hx hb dL_law_734 (ic_0) ?_
        refine n_lald hx hb hK hP 26 2 rfl rfl (by decide) (by decide) dL_law_735 ?_
        refine n_topl (show (vp_updL O 0 ((nI (if 0 = 0 then PR u else ST u)).toInt64)) 0 = (nI (if 0 = 0 then PR u else ST u)).toInt64 from updL_s) ?_
        refine lv_iload hx hb dL_law_736 (lv_at hl 0 rfl) ?_
        refine lv_i2l hx hb dL_law_738 rfl ?_
        refine n_lcmp_eq (tgt := 745) hx hb dL_law_739 dL_law_740 (by decide) (fun _ => ?_) (fun h => absurd rfl h)
        refine lv_goto (tgt := 1433) hx hb dL_law_745 (by decide) ?_
        refine W.widen (k := 27 + 8 * (jj + 1)) (n := 20244 + 64 * (jj + 1)) (by omega) (by omega) ?_
        exact hN 0 k V C T B P A OR n PR ST li w WK so sp CT SC TA FW (vp_updL O 0 ((nI (if 0 = 0 then PR u else ST u)).toInt64)) _ _ hI hP hD hS ls (lv_sub hl [2, 3, 4, 5, 6] rfl)
    · replace hp : rr = nI kk ∧ ((kk = 1 ∧ (¬ rg (xs ((4 * jj) + 1)) 0 n))) := hp
      obtain ⟨rfl, hp⟩ := hp
      have hP : va_P D vwCl ((wM r cI cZ cJ th k V C A T B P OR n PR ST li w WK so sp CT FW) ++ ((wX q cI cZ cJ k V C T B P A n PR ST li w WK so sp CT SC TA) ++ [(qo, .inl (cJ, 1, .inr (.inl O)))])) H := hP
      have hD : va_D (lA s) ((wM r cI cZ cJ th k V C A T B P OR n PR ST li w WK so sp CT FW) ++ ((wX q cI cZ cJ k V C T B P A n PR ST li w WK so sp CT SC TA) ++ [(qo, .inl (cJ, 1, .inr (.inl O)))])) := hD
      obtain ⟨rfl, hp⟩ := hp
      refine lv_istore (lv' := [(5, .int (nI 1)), (4, .int (nI (4 * jj))), (3, .ref qo), (2, .ref (r 0)), (1, .ref (q 0)), (0, .ref b)]) hx hb dL_law_689 hl (by decide) rfl (fun ls hl => ?_)
      refine lv_aload_n hx hb dL_law_691 rfl (lv_at hl 3 rfl) ?_
      refine lv_aload_n hx hb dL_law_692 rfl (lv_at hl 5 rfl) ?_
      refine lv_iload hx hb dL_law_693 (lv_at hl 1 rfl) ?_
      refine lv_iconst (v := nI 1) hx hb dL_law_695 (ic_1) ?_
      refine n_iadd hx hb dL_law_696 ?_
      refine n_sld hx hb hX hbl hbA hS (by omega) (by omega) dL_law_697 ?_
      refine lv_aload_n hx hb dL_law_698 rfl (lv_at hl 5 rfl) ?_
      refine lv_iload hx hb dL_law_699 (lv_at hl 1 rfl) ?_
      refine lv_iconst (v := nI 2) hx hb dL_law_701 (ic_2) ?_
      refine n_iadd hx hb dL_law_702 ?_
      refine n_sld hx hb hX hbl hbA hS (by omega) (by omega) dL_law_703 ?_
      refine lv_if_eq (tgt := 711) hx hb dL_law_704 (by decide) (fun _ => ?_) (fun h => absurd con h)
      refine lv_iconst (v := nI 0) hx hb dL_law_711 (ic_0) ?_
      refine k3_i (mc := 0) (ms := 0) (wa := []) (wc := (wM r cI cZ cJ th k V C A T B P OR n PR ST li w WK so sp CT FW)) (wb := ((wX q cI cZ cJ k V C T B P A n PR ST li w WK so sp CT SC TA) ++ [(qo, .inl (cJ, 1, .inr (.inl O)))])) (va_runV (As := [.int (xs ((4 * jj) + 1)), .int (nI 0)]) (rest := []) ⟨hx, hb, hml, hown, hts⟩ (c_X1_product l hst D r cI cZ cJ th k V C A T B P OR n PR ST li w WK so sp CT FW H.size (xs ((4 * jj) + 1)) 0 hI.hn10 (by decide)) (cwV 2 hts gL_law_X1_product rfl rfl rfl hd_X1_product ⟨(Nat.le_of_ble_eq_true rfl), (Nat.le_of_ble_eq_true rfl)⟩) (pre_V3 (wa := []) (wc := (wM r cI cZ cJ th k V C A T B P OR n PR ST li w WK so sp CT FW)) (wb := ((wX q cI cZ cJ k V C T B P A n PR ST li w WK so sp CT SC TA) ++ [(qo, .inl (cJ, 1, .inr (.inl O)))])) hP hK hD hS hA hZ hg 0 (ci := 1) rfl rfl) rfl rfl hl.1 rfl (lv_room (Nat.le_of_ble_eq_true rfl)) dL_law_712 ⟨(show ((27 + 8 * jj) + 1) + 0 ≤ 601024 by omega), (show ((20244 + 64 * jj) + 6) + 0 ≤ 7293034 by omega)⟩) hP hD hS hA (fun rr u2 H locs hq hP hD hS => ?_)
      obtain ⟨v0, v1⟩ := u2
      replace hq : rr = nI v0 ∧ ((v1 = 0 ∧ ∃ i, i < n ∧ (xs ((4 * jj) + 1)) = nI i ∧ v0 = if 0 = 0 then PR i else ST i) ∨ (v1 = 1 ∧ ¬ rg (xs ((4 * jj) + 1)) 0 n)) := hq
      obtain ⟨hr9, hq⟩ := hq
      replace hr9 := hr9.symm
      subst hr9
      have hP : va_P D vwCl ((wM r cI cZ cJ v1 k V C A T B P OR n PR ST li w WK so sp CT FW) ++ ((wX q cI cZ cJ k V C T B P A n PR ST li w WK so sp CT SC TA) ++ [(qo, .inl (cJ, 1, .inr (.inl O)))])) H := hP
      have hD : va_D (lA s) ((wM r cI cZ cJ v1 k V C A T B P OR n PR ST li w WK so sp CT FW) ++ ((wX q cI cZ cJ k V C T B P A n PR ST li w WK so sp CT SC TA) ++ [(qo, .inl (cJ, 1, .inr (.inl O)))])) := hD
      have e0 := q_product_1 hI.hn10 hp hq
      have e0 := e0.symm
      subst e0
      refine lv_istore (lv' := [(6, .int (nI v0)), (5, .int (nI 1)), (4, .int (nI (4 * jj))), (3, .ref qo), (2, .ref (r 0)), (1, .ref (q 0)), (0, .ref b)]) hx hb dL_law_715 hl (by decide) rfl (fun ls hl => ?_)
      refine lv_aload_n hx hb dL_law_717 rfl (lv_at hl 4 rfl) ?_
      refine k3_i (mc := 0) (ms := 0) (wa := []) (wc := (wM r cI cZ cJ 1 k V C A T B P OR n PR ST li w WK so sp CT FW)) (wb := ((wX q cI cZ cJ k V C T B P A n PR ST li w WK so sp CT SC TA) ++ [(qo, .inl (cJ, 1, .inr (.inl O)))])) (va_runV (As := []) (rest := []) ⟨hx, hb, hml, hown, hts⟩ (c_X1_thrown l hst D r cI cZ cJ 1 k V C A T B P OR n PR ST li w WK so sp CT FW H.size  ) (cwV 0 hts gL_law_X1_thrown rfl rfl rfl hd_X1_thrown ⟨(Nat.le_of_ble_eq_true rfl), (Nat.le_of_ble_eq_true rfl)⟩) (pre_V3 (wa := []) (wc := (wM r cI cZ cJ 1 k V C A T B P OR n PR ST li w WK so sp CT FW)) (wb := ((wX q cI cZ cJ k V C T B P A n PR ST li w WK so sp CT SC TA) ++ [(qo, .inl (cJ, 1, .inr (.inl O)))])) hP hK hD hS hA hZ hg 0 (ci := 1) rfl rfl) rfl rfl hl.1 rfl (lv_room (Nat.le_of_ble_eq_true rfl)) dL_law_718 ⟨(show (((27 + 8 * jj) + 1) + 0) + 0 ≤ 601024 by omega), (show (((20244 + 64 * jj) + 6) + 0) + 0 ≤ 7293034 by omega)⟩) hP hD hS hA (fun rr u2 H locs hq hP hD hS => ?_)
      replace hq : rr = nI 1 := hq
      subst hq
      have hP : va_P D vwCl ((wM r cI cZ cJ 1 k V C A T B P OR n PR ST li w WK so sp CT FW) ++ ((wX q cI cZ cJ k V C T B P A n PR ST li w WK so sp CT SC TA) ++ [(qo, .inl (cJ, 1, .inr (.inl O)))])) H := hP
      have hD : va_D (lA s) ((wM r cI cZ cJ 1 k V C A T B P OR n PR ST li w WK so sp CT FW) ++ ((wX q cI cZ cJ k V C T B P A n PR ST li w WK so sp CT SC TA) ++ [(qo, .inl (cJ, 1, .inr (.inl O)))])) := hD
      refine lv_iload hx hb dL_law_721 (lv_at hl 1 rfl) ?_
      refine lv_icmp_eq (tgt := 728) hx hb dL_law_723 (by decide) (fun _ => ?_) (fun h => absurd rfl h)
      refine lv_iload hx hb dL_law_728 (lv_at hl 1 rfl) ?_
      refine n_if_ne (tgt := 745) hx hb (by decide) dL_law_730 (by decide) (fun c730 => ?_) (fun c730 => ?_)
      · refine lv_goto (tgt := 1433) hx hb dL_law_745 (by decide) ?_
        refine W.widen (k := 27 + 8 * (jj + 1)) (n := 20244 + 64 * (jj + 1)) (by omega) (by omega) ?_
        exact hN 1 k V C T B P A OR n PR ST li w WK so sp CT SC TA FW O _ _ hI hP hD hS ls (lv_sub hl [2, 3, 4, 5, 6] rfl)
      · exact absurd c730 (by decide)
  · refine lv_iconst (v := nI 1) hx hb dL_law_680 (ic_1) ?_
    refine lv_goto (tgt := 685) hx hb dL_law_681 (by decide) ?_
    refine lv_aload_n hx hb dL_law_685 rfl (lv_at hl 1 rfl) ?_
    refine k3_i (mc := 1) (ms := 6) (wa := (wM r cI cZ cJ th k V C A T B P OR n PR ST li w WK so sp CT FW)) (wc := ((wX q cI cZ cJ k V C T B P A n PR ST li w WK so sp CT SC TA) ++ [(qo, .inl (cJ, 1, .inr (.inl O)))])) (wb := []) (vx_runSW (As := [.ref (q 0), .int (xs ((4 * jj) + 1)), .int (nI 1), .ref qo]) (rest := []) ⟨hx, hb, hml, hown, hts⟩ (c_L_product l hst D q qo cI cZ cJ k V C T B P A n PR ST li w WK so sp CT SC TA O H.size (xs ((4 * jj) + 1)) 1 hI.hn10 (by decide)) (vx_cwSW 4 hts gL_law_L_product rfl rfl rfl hd_L_product.2 ⟨(Nat.le_of_ble_eq_true rfl), (Nat.le_of_ble_eq_true rfl)⟩) (pre_N (wa := (wM r cI cZ cJ th k V C A T B P OR n PR ST li w WK so sp CT FW)) (wc := ((wX q cI cZ cJ k V C T B P A n PR ST li w WK so sp CT SC TA) ++ [(qo, .inl (cJ, 1, .inr (.inl O)))])) (wb := []) hP hK hD hS hA hZ hg hn) rfl rfl hl.1 rfl (lv_room (Nat.le_of_ble_eq_true rfl)) dL_law_686 ⟨(show (27 + 8 * jj) + 1 ≤ 601024 by omega), (show (20244 + 64 * jj) + 6 ≤ 7293034 by omega)⟩) hP hD hS hA (fun rr u H locs hp hP hD hS => ?_)
    rcases u with u | kk
    · replace hp : rr = nI 0 ∧ (u < n ∧ (xs ((4 * jj) + 1)) = nI u) := hp
      obtain ⟨rfl, hp⟩ := hp
      have hP : va_P D vwCl ((wM r cI cZ cJ th k V C A T B P OR n PR ST li w WK so sp CT FW) ++ ((wX q cI cZ cJ k V C T B P A n PR ST li w WK so sp CT SC TA) ++ [(qo, .inl (cJ, 1, .inr (.inl (vp_updL O 0 ((nI (if 1 = 0 then PR u else ST u)).toInt64)))))])) H := hP
      have hD : va_D (lA s) ((wM r cI cZ cJ th k V C A T B P OR n PR ST li w WK so sp CT FW) ++ ((wX q cI cZ cJ k V C T B P A n PR ST li w WK so sp CT SC TA) ++ [(qo, .inl (cJ, 1, .inr (.inl (vp_updL O 0 ((nI (if 1 = 0 then PR u else ST u)).toInt64)))))])) := hD
      refine lv_istore (lv' := [(5, .int (nI 0)), (4, .int (nI (4 * jj))), (3, .ref qo), (2, .ref (r 0)), (1, .ref (q 0)), (0, .ref b)]) hx hb dL_law_689 hl (by decide) rfl (fun ls hl => ?_)
      refine lv_aload_n hx hb dL_law_691 rfl (lv_at hl 3 rfl) ?_
      refine lv_aload_n hx hb dL_law_692 rfl (lv_at hl 5 rfl) ?_
      refine lv_iload hx hb dL_law_693 (lv_at hl 1 rfl) ?_
      refine lv_iconst (v := nI 1) hx hb dL_law_695 (ic_1) ?_
      refine n_iadd hx hb dL_law_696 ?_
      refine n_sld hx hb hX hbl hbA hS (by omega) (by omega) dL_law_697 ?_
      refine lv_aload_n hx hb dL_law_698 rfl (lv_at hl 5 rfl) ?_
      refine lv_iload hx hb dL_law_699 (lv_at hl 1 rfl) ?_
      refine lv_iconst (v := nI 2) hx hb dL_law_701 (ic_2) ?_
      refine n_iadd hx hb dL_law_702 ?_
      refine n_sld hx hb hX hbl hbA hS (by omega) (by omega) dL_law_703 ?_
      refine lv_if_eq (tgt := 711) hx hb dL_law_704 (by decide) (fun h => absurd h con) (fun _ => ?_)
      refine lv_iconst (v := nI 1) hx hb dL_law_707 (ic_1) ?_
      refine lv_goto (tgt := 712) hx hb dL_law_708 (by decide) ?_
      refine k3_i (mc := 0) (ms := 0) (wa := []) (wc := (wM r cI cZ cJ th k V C A T B P OR n PR ST li w WK so sp CT FW)) (wb := ((wX q cI cZ cJ k V C T B P A n PR ST li w WK so sp CT SC TA) ++ [(qo, .inl (cJ, 1, .inr (.inl (vp_updL O 0 ((nI (if 1 = 0 then PR u else ST u)).toInt64)))))])) (va_runV (As := [.int (xs ((4 * jj) + 1)), .int (nI 1)]) (rest := []) ⟨hx, hb, hml, hown, hts⟩ (c_X1_product l hst D r cI cZ cJ th k V C A T B P OR n PR ST li w WK so sp CT FW H.size (xs ((4 * jj) + 1)) 1 hI.hn10 (by decide)) (cwV 2 hts gL_law_X1_product rfl rfl rfl hd_X1_product ⟨(Nat.le_of_ble_eq_true rfl), (Nat.le_of_ble_eq_true rfl)⟩) (pre_V3 (wa := []) (wc := (wM r cI cZ cJ th k V C A T B P OR n PR ST li w WK so sp CT FW)) (wb := ((wX q cI cZ cJ k V C T B P A n PR ST li w WK so sp CT SC TA) ++ [(qo, .inl (cJ, 1, .inr (.inl (vp_updL O 0 ((nI (if 1 = 0 then PR u else ST u)).toInt64)))))])) hP hK hD hS hA hZ hg 0 (ci := 1) rfl rfl) rfl rfl hl.1 rfl (lv_room (Nat.le_of_ble_eq_true rfl)) dL_law_712 ⟨(show ((27 + 8 * jj) + 1) + 0 ≤ 601024 by omega), (show ((20244 + 64 * jj) + 6) + 0 ≤ 7293034 by omega)⟩) hP hD hS hA (fun rr u2 H locs hq hP hD hS => ?_)
      obtain ⟨v0, v1⟩ := u2
      replace hq : rr = nI v0 ∧ ((v1 = 0 ∧ ∃ i, i < n ∧ (xs ((4 * jj) + 1)) = nI i ∧ v0 = if 1 = 0 then PR i else ST i) ∨ (v1 = 1 ∧ ¬ rg (xs ((4 * jj) + 1)) 0 n)) := hq
      obtain ⟨hr9, hq⟩ := hq
      replace hr9 := hr9.symm
      subst hr9
      have hP : va_P D vwCl ((wM r cI cZ cJ v1 k V C A T B P OR n PR ST li w WK so sp CT FW) ++ ((wX q cI cZ cJ k V C T B P A n PR ST li w WK so sp CT SC TA) ++ [(qo, .inl (cJ, 1, .inr (.inl (vp_updL O 0 ((nI (if 1 = 0 then PR u else ST u)).toInt64)))))])) H := hP
      have hD : va_D (lA s) ((wM r cI cZ cJ v1 k V C A T B P OR n PR ST li w WK so sp CT FW) ++ ((wX q cI cZ cJ k V C T B P A n PR ST li w WK so sp CT SC TA) ++ [(qo, .inl (cJ, 1, .inr (.inl (vp_updL O 0 ((nI (if 1 = 0 then PR u else ST u)).toInt64)))))])) := hD
      obtain ⟨e0, e1⟩ := q_product_0 hI.hn10 hp hq
      have e0 := e0.symm
      subst e0
      have e1 := e1.symm
      subst e1
      refine lv_istore (lv' := [(6, .int (nI (if 1 = 0 then PR u else ST u))), (5, .int (nI 0)), (4, .int (nI (4 * jj))), (3, .ref qo), (2, .ref (r 0)), (1, .ref (q 0)), (0, .ref b)]) hx hb dL_law_715 hl (by decide) rfl (fun ls hl => ?_)
      refine lv_aload_n hx hb dL_law_717 rfl (lv_at hl 4 rfl) ?_
      refine k3_i (mc := 0) (ms := 0) (wa := []) (wc := (wM r cI cZ cJ 0 k V C A T B P OR n PR ST li w WK so sp CT FW)) (wb := ((wX q cI cZ cJ k V C T B P A n PR ST li w WK so sp CT SC TA) ++ [(qo, .inl (cJ, 1, .inr (.inl (vp_updL O 0 ((nI (if 1 = 0 then PR u else ST u)).toInt64)))))])) (va_runV (As := []) (rest := []) ⟨hx, hb, hml, hown, hts⟩ (c_X1_thrown l hst D r cI cZ cJ 0 k V C A T B P OR n PR ST li w WK so sp CT FW H.size  ) (cwV 0 hts gL_law_X1_thrown rfl rfl rfl hd_X1_thrown ⟨(Nat.le_of_ble_eq_true rfl), (Nat.le_of_ble_eq_true rfl)⟩) (pre_V3 (wa := []) (wc := (wM r cI cZ cJ 0 k V C A T B P OR n PR ST li w WK so sp CT FW)) (wb := ((wX q cI cZ cJ k V C T B P A n PR ST li w WK so sp CT SC TA) ++ [(qo, .inl (cJ, 1, .inr (.inl (vp_updL O 0 ((nI (if 1 = 0 then PR u else ST u)).toInt64)))))])) hP hK hD hS hA hZ hg 0 (ci := 1) rfl rfl) rfl rfl hl.1 rfl (lv_room (Nat.le_of_ble_eq_true rfl)) dL_law_718 ⟨(show (((27 + 8 * jj) + 1) + 0) + 0 ≤ 601024 by omega), (show (((20244 + 64 * jj) + 6) + 0) + 0 ≤ 7293034 by omega)⟩) hP hD hS hA (fun rr u2 H locs hq hP hD hS => ?_)
      replace hq : rr = nI 0 := hq
      subst hq
      have hP : va_P D vwCl ((wM r cI cZ cJ 0 k V C A T B P OR n PR ST li w WK so sp CT FW) ++ ((wX q cI cZ cJ k V C T B P A n PR ST li w WK so sp CT SC TA) ++ [(qo, .inl (cJ, 1, .inr (.inl (vp_updL O 0 ((nI (if 1 = 0 then PR u else ST u)).toInt64)))))])) H := hP
      have hD : va_D (lA s) ((wM r cI cZ cJ 0 k V C A T B P OR n PR ST li w WK so sp CT FW) ++ ((wX q cI cZ cJ k V C T B P A n PR ST li w WK so sp CT SC TA) ++ [(qo, .inl (cJ, 1, .inr (.inl (vp_updL O 0 ((nI (if 1 = 0 then PR u else ST u)).toInt64)))))])) := hD
      refine lv_iload hx hb dL_law_721 (lv_at hl 1 rfl) ?_
      refine lv_icmp_eq (tgt := 728) hx hb dL_law_723 (by decide) (fun _ => ?_) (fun h => absurd rfl h)
      refine lv_iload hx hb dL_law_728 (lv_at hl 1 rfl) ?_
      refine n_if_ne (tgt := 745) hx hb (by decide) dL_law_730 (by decide) (fun c730 => ?_) (fun c730 => ?_)
      · exact absurd c730 (by decide)
      · refine lv_aload_n hx hb dL_law_733 rfl (lv_at hl 3 rfl) ?_
        refine lv_iconst (v := nI 0) hx hb dL_law_734 (ic_0) ?_
        refine n_lald hx hb hK hP 26 2 rfl rfl (by decide) (by decide) dL_law_735 ?_
        refine n_topl (show (vp_updL O 0 ((nI (if 1 = 0 then PR u else ST u)).toInt64)) 0 = (nI (if 1 = 0 then PR u else ST u)).toInt64 from updL_s) ?_
        refine lv_iload hx hb dL_law_736 (lv_at hl 0 rfl) ?_
        refine lv_i2l hx hb dL_law_738 rfl ?_
        refine n_lcmp_eq (tgt := 745) hx hb dL_law_739 dL_law_740 (by decide) (fun _ => ?_) (fun h => absurd rfl h)
        refine lv_goto (tgt := 1433) hx hb dL_law_745 (by decide) ?_
        refine W.widen (k := 27 + 8 * (jj + 1)) (n := 20244 + 64 * (jj + 1)) (by omega) (by omega) ?_
        exact hN 0 k V C T B P A OR n PR ST li w WK so sp CT SC TA FW (vp_updL O 0 ((nI (if 1 = 0 then PR u else ST u)).toInt64)) _ _ hI hP hD hS ls (lv_sub hl [2, 3, 4, 5, 6] rfl)
    · replace hp : rr = nI kk ∧ ((kk = 1 ∧ (¬ rg (xs ((4 * jj) + 1)) 0 n))) := hp
      obtain ⟨rfl, hp⟩ := hp
      have hP : va_P D vwCl ((wM r cI cZ cJ th k V C A T B P OR n PR ST li w WK so sp CT FW) ++ ((wX q cI cZ cJ k V C T B P A n PR ST li w WK so sp CT SC TA) ++ [(qo, .inl (cJ, 1, .inr (.inl O)))])) H := hP
      have hD : va_D (lA s) ((wM r cI cZ cJ th k V C A T B P OR n PR ST li w WK so sp CT FW) ++ ((wX q cI cZ cJ k V C T B P A n PR ST li w WK so sp CT SC TA) ++ [(qo, .inl (cJ, 1, .inr (.inl O)))])) := hD
      obtain ⟨rfl, hp⟩ := hp
      refine lv_istore (lv' := [(5, .int (nI 1)), (4, .int (nI (4 * jj))), (3, .ref qo), (2, .ref (r 0)), (1, .ref (q 0)), (0, .ref b)]) hx hb dL_law_689 hl (by decide) rfl (fun ls hl => ?_)
      refine lv_aload_n hx hb dL_law_691 rfl (lv_at hl 3 rfl) ?_
      refine lv_aload_n hx hb dL_law_692 rfl (lv_at hl 5 rfl) ?_
      refine lv_iload hx hb dL_law_693 (lv_at hl 1 rfl) ?_
      refine lv_iconst (v := nI 1) hx hb dL_law_695 (ic_1) ?_
      refine n_iadd hx hb dL_law_696 ?_
      refine n_sld hx hb hX hbl hbA hS (by omega) (by omega) dL_law_697 ?_
      refine lv_aload_n hx hb dL_law_698 rfl (lv_at hl 5 rfl) ?_
      refine lv_iload hx hb dL_law_699 (lv_at hl 1 rfl) ?_
      refine lv_iconst (v := nI 2) hx hb dL_law_701 (ic_2) ?_
      refine n_iadd hx hb dL_law_702 ?_
      refine n_sld hx hb hX hbl hbA hS (by omega) (by omega) dL_law_703 ?_
      refine lv_if_eq (tgt := 711) hx hb dL_law_704 (by decide) (fun h => absurd h con) (fun _ => ?_)
      refine lv_iconst (v := nI 1) hx hb dL_law_707 (ic_1) ?_
      refine lv_goto (tgt := 712) hx hb dL_law_708 (by decide) ?_
      refine k3_i (mc := 0) (ms := 0) (wa := []) (wc := (wM r cI cZ cJ th k V C A T B P OR n PR ST li w WK so sp CT FW)) (wb := ((wX q cI cZ cJ k V C T B P A n PR ST li w WK so sp CT SC TA) ++ [(qo, .inl (cJ, 1, .inr (.inl O)))])) (va_runV (As := [.int (xs ((4 * jj) + 1)), .int (nI 1)]) (rest := []) ⟨hx, hb, hml, hown, hts⟩ (c_X1_product l hst D r cI cZ cJ th k V C A T B P OR n PR ST li w WK so sp CT FW H.size (xs ((4 * jj) + 1)) 1 hI.hn10 (by decide)) (cwV 2 hts gL_law_X1_product rfl rfl rfl hd_X1_product ⟨(Nat.le_of_ble_eq_true rfl), (Nat.le_of_ble_eq_true rfl)⟩) (pre_V3 (wa := []) (wc := (wM r cI cZ cJ th k V C A T B P OR n PR ST li w WK so sp CT FW)) (wb := ((wX q cI cZ cJ k V C T B P A n PR ST li w WK so sp CT SC TA) ++ [(qo, .inl (cJ, 1, .inr (.inl O)))])) hP hK hD hS hA hZ hg 0 (ci := 1) rfl rfl) rfl rfl hl.1 rfl (lv_room (Nat.le_of_ble_eq_true rfl)) dL_law_712 ⟨(show ((27 + 8 * jj) + 1) + 0 ≤ 601024 by omega), (show ((20244 + 64 * jj) + 6) + 0 ≤ 7293034 by omega)⟩) hP hD hS hA (fun rr u2 H locs hq hP hD hS => ?_)
      obtain ⟨v0, v1⟩ := u2
      replace hq : rr = nI v0 ∧ ((v1 = 0 ∧ ∃ i, i < n ∧ (xs ((4 * jj) + 1)) = nI i ∧ v0 = if 1 = 0 then PR i else ST i) ∨ (v1 = 1 ∧ ¬ rg (xs ((4 * jj) + 1)) 0 n)) := hq
      obtain ⟨hr9, hq⟩ := hq
      replace hr9 := hr9.symm
      subst hr9
      have hP : va_P D vwCl ((wM r cI cZ cJ v1 k V C A T B P OR n PR ST li w WK so sp CT FW) ++ ((wX q cI cZ cJ k V C T B P A n PR ST li w WK so sp CT SC TA) ++ [(qo, .inl (cJ, 1, .inr (.inl O)))])) H := hP
      have hD : va_D (lA s) ((wM r cI cZ cJ v1 k V C A T B P OR n PR ST li w WK so sp CT FW) ++ ((wX q cI cZ cJ k V C T B P A n PR ST li w WK so sp CT SC TA) ++ [(qo, .inl (cJ, 1, .inr (.inl O)))])) := hD
      have e0 := q_product_1 hI.hn10 hp hq
      have e0 := e0.symm
      subst e0
      refine lv_istore (lv' := [(6, .int (nI v0)), (5, .int (nI 1)), (4, .int (nI (4 * jj))), (3, .ref qo), (2, .ref (r 0)), (1, .ref (q 0)), (0, .ref b)]) hx hb dL_law_715 hl (by decide) rfl (fun ls hl => ?_)
      refine lv_aload_n hx hb dL_law_717 rfl (lv_at hl 4 rfl) ?_
      refine k3_i (mc := 0) (ms := 0) (wa := []) (wc := (wM r cI cZ cJ 1 k V C A T B P OR n PR ST li w WK so sp CT FW)) (wb := ((wX q cI cZ cJ k V C T B P A n PR ST li w WK so sp CT SC TA) ++ [(qo, .inl (cJ, 1, .inr (.inl O)))])) (va_runV (As := []) (rest := []) ⟨hx, hb, hml, hown, hts⟩ (c_X1_thrown l hst D r cI cZ cJ 1 k V C A T B P OR n PR ST li w WK so sp CT FW H.size  ) (cwV 0 hts gL_law_X1_thrown rfl rfl rfl hd_X1_thrown ⟨(Nat.le_of_ble_eq_true rfl), (Nat.le_of_ble_eq_true rfl)⟩) (pre_V3 (wa := []) (wc := (wM r cI cZ cJ 1 k V C A T B P OR n PR ST li w WK so sp CT FW)) (wb := ((wX q cI cZ cJ k V C T B P A n PR ST li w WK so sp CT SC TA) ++ [(qo, .inl (cJ, 1, .inr (.inl O)))])) hP hK hD hS hA hZ hg 0 (ci := 1) rfl rfl) rfl rfl hl.1 rfl (lv_room (Nat.le_of_ble_eq_true rfl)) dL_law_718 ⟨(show (((27 + 8 * jj) + 1) + 0) + 0 ≤ 601024 by omega), (show (((20244 + 64 * jj) + 6) + 0) + 0 ≤ 7293034 by omega)⟩) hP hD hS hA (fun rr u2 H locs hq hP hD hS => ?_)
      replace hq : rr = nI 1 := hq
      subst hq
      have hP : va_P D vwCl ((wM r cI cZ cJ 1 k V C A T B P OR n PR ST li w WK so sp CT FW) ++ ((wX q cI cZ cJ k V C T B P A n PR ST li w WK so sp CT SC TA) ++ [(qo, .inl (cJ, 1, .inr (.inl O)))])) H := hP
      have hD : va_D (lA s) ((wM r cI cZ cJ 1 k V C A T B P OR n PR ST li w WK so sp CT FW) ++ ((wX q cI cZ cJ k V C T B P A n PR ST li w WK so sp CT SC TA) ++ [(qo, .inl (cJ, 1, .inr (.inl O)))])) := hD
      refine lv_iload hx hb dL_law_721 (lv_at hl 1 rfl) ?_
      refine lv_icmp_eq (tgt := 728) hx hb dL_law_723 (by decide) (fun _ => ?_) (fun h => absurd rfl h)
      refine lv_iload hx hb dL_law_728 (lv_at hl 1 rfl) ?_
      refine n_if_ne (tgt := 745) hx hb (by decide) dL_law_730 (by decide) (fun c730 => ?_) (fun c730 => ?_)
      · refine lv_goto (tgt := 1433) hx hb dL_law_745 (by decide) ?_
        refine W.widen (k := 27 + 8 * (jj + 1)) (n := 20244 + 64 * (jj + 1)) (by omega) (by omega) ?_
        exact hN 1 k V C T B P A OR n PR ST li w WK so sp CT SC TA FW O _ _ hI hP hD hS ls (lv_sub hl [2, 3, 4, 5, 6] rfl)
      · exact absurd c730 (by decide)

end LW
