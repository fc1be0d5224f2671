theorem mask31 (x : Int32) : ∃ d, d < 32 ∧ x &&& nI 31 = nI d := by
  have h : (x &&& nI 31).toBitVec.toNat ≤ 31 := by
    rw [Int32.toBitVec_and, BitVec.toNat_and]
    exact Nat.le_trans Nat.and_le_right (by decide)
  refine ⟨(x &&& nI 31).toBitVec.toNat, by omega, ?_⟩
  apply Int32.toBitVec_inj.mp
  show _ = (Int32.ofNat _).toBitVec
  rw [Int32.toBitVec_ofNat']
  apply BitVec.eq_of_toNat_eq
  rw [BitVec.toNat_ofNat]
  omega
theorem cmp_l4 {L : Nat} (h : L < 4) : nI L - nI 4 < nI 0 := by
  have h : L = 0 ∨ L = 1 ∨ L = 2 ∨ L = 3 := by omega
  rcases h with rfl | rfl | rfl | rfl <;> decide
set_option maxHeartbeats 8000000 in
set_option maxRecDepth 100000 in
theorem law_loop {p : Program} {l : Launch} {e : Env} {s : State} {m : MethodId} {below : List Frame} {meth : Method} {c : Code} {b L : Nat} {xs : Nat → Int32} {D : va_G} {cI cZ cJ : ClassId} (hst : l.stackTraces = false) (hc : Lc p s m meth c b L xs D cI cZ cJ) {r q : Nat → Nat} {qo : Nat} : ∀ (fu jj : Nat), L + 1 - 4 * jj < fu → (jj = 0 ∨ 4 * jj ≤ L) → ∀ (th : Nat) (k : Nat) (V : Nat → Nat) (C : Nat → Nat) (T : Nat → Nat) (B : Nat → Nat) (P : Nat → Nat) (A : Nat → Nat) (OR : Nat → Nat) (n : Nat) (PR : Nat → Nat) (ST : Nat → Nat) (li : Nat) (w : Nat) (WK : Nat → Nat) (so : Nat) (sp : Nat) (CT : Nat → Int64) (SC : Nat → Int) (TA : Nat → Nat) (FW : Nat → Nat) (O : Nat → Int64) (H : Heap) (locs : List Loc), IV k V C T A OR n PR ST li w WK so sp → va_P D vwCl (wL r q qo cI cZ cJ th k V C T B P A OR n PR ST li w WK so sp CT SC TA FW O) H → va_D (lA s) (wL r q qo cI cZ cJ th k V C T B P A OR n PR ST li w WK so sp CT SC TA FW O) → va_S (lA s) s.heap H locs → ∀ ls : Array Slot, lv_has ls 9 [(4, .int (nI (4 * jj))), (3, .ref qo), (2, .ref (r 0)), (1, .ref (q 0)), (0, .ref b)] → W p l e room_1 s m #[Value.ref b] below meth c H locs (27 + 8 * jj) (20244 + 64 * jj) (lw_Z below #[Value.ref b] s) (F0 m 23 ls []) := by
  intro fu
  induction fu with
  | zero =>
    intro jj h
    exact absurd h (Nat.not_lt_zero _)
  | succ fu ih =>
    intro jj hfu hjj th k V C T B P A OR n PR ST li w WK so sp CT SC TA FW O H locs hI hP hD hS ls hl
    have hc9 := hc
    obtain ⟨hx, hb, hr, hml, hown, hts, hX, hbl, hlocks, hK, hZ, hg, hn, hL⟩ := hc9
    have hbA : ¬ lA s b := Nat.not_le.mpr hbl
    refine lv_iload hx hb dL_law_23 (lv_at hl 0 rfl) ?_
    refine lv_aload_n hx hb dL_law_25 rfl (lv_at hl 4 rfl) ?_
    refine va_slen hx hb hX hbl hbA hS dL_law_26 ?_
    refine W.eq (g2 := F0 m 27 ls [.int (nI L), .int (nI (4 * jj))]) rfl ?_
    refine lv_iconst (v := nI 4) hx hb dL_law_27 (ic_4) ?_
    by_cases h4 : 4 ≤ L
    · refine n_isub hx hb h4 dL_law_28 ?_
      refine n_icmp_gt (tgt := 1439) hx hb (by omega) (by omega) dL_law_29 (by decide) (fun c29 => ?_) (fun c29 => ?_)
      · refine va_forget hS.2.2 ?_
        refine lv_iconst (v := 1) hx hb dL_law_1439 (by decide) ?_
        refine W.widen (k := 601024) (n := 7293034) (by omega) (by omega) ?_
        exact lw_ret (d0 := s.drawn) (Drawn.sameBut.refl s.drawn lw_cs) hx hb hr hlocks dL_law_1440
      · have hj : 4 * jj + 4 ≤ L := by omega
        have hN : Nx p l e s m below meth c b D r q qo cI cZ cJ (lw_Z below #[Value.ref b] s) jj := by
          intro th k V C T B P A OR n PR ST li w WK so sp CT SC TA FW O H locs hI hP hD hS ls hl
          refine lv_iinc (v := nI (4 * (jj + 1))) (lv' := [(4, .int (nI (4 * (jj + 1)))), (3, .ref qo), (2, .ref (r 0)), (1, .ref (q 0)), (0, .ref b)]) hx hb dL_law_1433 hl (k := 0) rfl (ni_inc _ 4) (by decide) rfl (fun ls hl => ?_)
          refine lv_goto (tgt := 23) hx hb dL_law_1436 (by decide) ?_
          exact ih (jj + 1) (by omega) (Or.inr (by omega)) th k V C T B P A OR n PR ST li w WK so sp CT SC TA FW O _ _ hI hP hD hS ls hl
        refine lv_aload_n hx hb dL_law_32 rfl (lv_at hl 4 rfl) ?_
        refine lv_iload hx hb dL_law_33 (lv_at hl 0 rfl) ?_
        refine n_sld hx hb hX hbl hbA hS (by omega) (by omega) dL_law_35 ?_
        refine lv_bipush (v := nI 31) hx hb dL_law_36 (by decide) ?_
        refine lv_iand hx hb dL_law_38 ?_
        obtain ⟨d, hd, e31⟩ := mask31 (xs (4 * jj))
        refine n_top e31 ?_
        by_cases hd25 : 25 ≤ d
        · refine lv_tableOut hx hb (tgt := 1433) dL_law_39 (Or.inr (by rw [nI_toInt (by omega)]; omega)) (by decide) ?_
          refine W.widen (k := 27 + 8 * (jj + 1)) (n := 20244 + 64 * (jj + 1)) (by omega) (by omega) ?_
          exact hN th k V C T B P A OR n PR ST li w WK so sp CT SC TA FW O _ _ hI hP hD hS ls hl
        · have hd : d = 0 ∨ d = 1 ∨ d = 2 ∨ d = 3 ∨ d = 4 ∨ d = 5 ∨ d = 6 ∨ d = 7 ∨ d = 8 ∨ d = 9 ∨ d = 10 ∨ d = 11 ∨ d = 12 ∨ d = 13 ∨ d = 14 ∨ d = 15 ∨ d = 16 ∨ d = 17 ∨ d = 18 ∨ d = 19 ∨ d = 20 ∨ d = 21 ∨ d = 22 ∨ d = 23 ∨ d = 24 := by omega
          rcases hd with rfl | rfl | rfl | rfl | rfl | rfl | rfl | rfl | rfl | rfl | rfl | rfl | rfl | rfl | rfl | rfl | rfl | rfl | rfl | rfl | rfl | rfl | rfl | rfl | rfl
          · refine lv_tableIn (off := 113) (tgt := 152) hx hb dL_law_39 (by decide) (by decide) rfl (by decide) ?_
            exact lw_addKind hst hc hj hI hP hD hS hl hN
          · refine lv_tableIn (off := 181) (tgt := 220) hx hb dL_law_39 (by decide) (by decide) rfl (by decide) ?_
            exact lw_fill hst hc hj hI hP hD hS hl hN
          · refine lv_tableIn (off := 249) (tgt := 288) hx hb dL_law_39 (by decide) (by decide) rfl (by decide) ?_
            exact lw_take hst hc hj hI hP hD hS hl hN
          · refine lv_tableIn (off := 317) (tgt := 356) hx hb dL_law_39 (by decide) (by decide) rfl (by decide) ?_
            exact lw_emptyBox hst hc hj hI hP hD hS hl hN
          · refine lv_tableIn (off := 330) (tgt := 369) hx hb dL_law_39 (by decide) (by decide) rfl (by decide) ?_
            exact lw_accept hst hc hj hI hP hD hS hl hN
          · refine lv_tableIn (off := 421) (tgt := 460) hx hb dL_law_39 (by decide) (by decide) rfl (by decide) ?_
            exact lw_setLimit hst hc hj hI hP hD hS hl hN
          · refine lv_tableIn (off := 477) (tgt := 516) hx hb dL_law_39 (by decide) (by decide) rfl (by decide) ?_
            exact lw_addProduct hst hc hj hI hP hD hS hl hN
          · refine lv_tableIn (off := 545) (tgt := 584) hx hb dL_law_39 (by decide) (by decide) rfl (by decide) ?_
            exact lw_setProduct hst hc hj hI hP hD hS hl hN
          · refine lv_tableIn (off := 625) (tgt := 664) hx hb dL_law_39 (by decide) (by decide) rfl (by decide) ?_
            exact lw_product hst hc hj hI hP hD hS hl hN
          · refine lv_tableIn (off := 709) (tgt := 748) hx hb dL_law_39 (by decide) (by decide) rfl (by decide) ?_
            exact lw_insert hst hc hj hI hP hD hS hl hN
          · refine lv_tableIn (off := 765) (tgt := 804) hx hb dL_law_39 (by decide) (by decide) rfl (by decide) ?_
            exact lw_cancel hst hc hj hI hP hD hS hl hN
          · refine lv_tableIn (off := 778) (tgt := 817) hx hb dL_law_39 (by decide) (by decide) rfl (by decide) ?_
            exact lw_buy hst hc hj hI hP hD hS hl hN
          · refine lv_tableIn (off := 834) (tgt := 873) hx hb dL_law_39 (by decide) (by decide) rfl (by decide) ?_
            exact lw_refund hst hc hj hI hP hD hS hl hN
          · refine lv_tableIn (off := 885) (tgt := 924) hx hb dL_law_39 (by decide) (by decide) rfl (by decide) ?_
            exact lw_credit hst hc hj hI hP hD hS hl hN
          · refine lv_tableIn (off := 898) (tgt := 937) hx hb dL_law_39 (by decide) (by decide) rfl (by decide) ?_
            exact lw_escrow hst hc hj hI hP hD hS hl hN
          · refine lv_tableIn (off := 954) (tgt := 993) hx hb dL_law_39 (by decide) (by decide) rfl (by decide) ?_
            exact lw_coins hst hc hj hI hP hD hS hl hN
          · refine lv_tableIn (off := 1022) (tgt := 1061) hx hb dL_law_39 (by decide) (by decide) rfl (by decide) ?_
            exact lw_fewest hst hc hj hI hP hD hS hl hN
          · refine lv_tableIn (off := 1078) (tgt := 1117) hx hb dL_law_39 (by decide) (by decide) rfl (by decide) ?_
            exact lw_part hst hc hj hI hP hD hS hl hN
          · refine lv_tableIn (off := 1146) (tgt := 1185) hx hb dL_law_39 (by decide) (by decide) rfl (by decide) ?_
            exact lw_below hst hc hj hI hP hD hS hl hN
          · refine lv_tableIn (off := 1202) (tgt := 1241) hx hb dL_law_39 (by decide) (by decide) rfl (by decide) ?_
            exact lw_gaps hst hc hj hI hP hD hS hl hN
          · refine lv_tableIn (off := 1258) (tgt := 1297) hx hb dL_law_39 (by decide) (by decide) rfl (by decide) ?_
            exact lw_unit hst hc hj hI hP hD hS hl hN
          · refine lv_tableIn (off := 1271) (tgt := 1310) hx hb dL_law_39 (by decide) (by decide) rfl (by decide) ?_
            exact lw_lamp hst hc hj hI hP hD hS hl hN
          · refine lv_tableIn (off := 1284) (tgt := 1323) hx hb dL_law_39 (by decide) (by decide) rfl (by decide) ?_
            exact lw_audit hst hc hj hI hP hD hS hl hN
          · refine lv_tableIn (off := 1339) (tgt := 1378) hx hb dL_law_39 (by decide) (by decide) rfl (by decide) ?_
            exact lw_exactShare hst hc hj hI hP hD hS hl hN
          · refine lv_tableIn (off := 1380) (tgt := 1419) hx hb dL_law_39 (by decide) (by decide) rfl (by decide) ?_
            exact lw_digest hst hc hj hI hP hD hS hl hN
    · refine lv_isub hx hb dL_law_28 ?_
      obtain rfl : jj = 0 := by omega
      refine lv_icmp_gt (tgt := 1439) hx hb dL_law_29 (by decide) (fun c29 => ?_) (fun c29 => absurd (cmp_l4 (by omega)) c29)
      refine va_forget hS.2.2 ?_
      refine lv_iconst (v := 1) hx hb dL_law_1439 (by decide) ?_
      refine W.widen (k := 601024) (n := 7293034) (by omega) (by omega) ?_
      exact lw_ret (d0 := s.drawn) (Drawn.sameBut.refl s.drawn lw_cs) hx hb hr hlocks dL_law_1440
