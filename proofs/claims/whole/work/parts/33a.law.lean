section LW
variable {p : Program} {l : Launch} {e : Env} {s : State} {m : MethodId} {below : List Frame} {meth : Method} {c : Code} {b L : Nat} {xs : Nat → Int32} {D : va_G} {cI cZ cJ : ClassId} {Q : State → Prop}

set_option maxHeartbeats 8000000 in
set_option maxRecDepth 100000 in
theorem lw_addKind (hst : l.stackTraces = false) (hc : Lc p s m meth c b L xs D cI cZ cJ) {r q : Nat → Nat} {qo jj : Nat} (hj : 4 * jj + 4 ≤ L) {th : Nat} {k : Nat} {V : Nat → Nat} {C : Nat → Nat} {T : Nat → Nat} {B : Nat → Nat} {P : Nat → Nat} {A : Nat → Nat} {OR : Nat → Nat} {n : Nat} {PR : Nat → Nat} {ST : Nat → Nat} {li : Nat} {w : Nat} {WK : Nat → Nat} {so : Nat} {sp : Nat} {CT : Nat → Int64} {SC : Nat → Int} {TA : Nat → Nat} {FW : Nat → Nat} {O : Nat → Int64} {H : Heap} {locs : List Loc} (hI : IV k V C T A OR n PR ST li w WK so sp) (hP : va_P D vwCl (wL r q qo cI cZ cJ th k V C T B P A OR n PR ST li w WK so sp CT SC TA FW O) H) (hD : va_D (lA s) (wL r q qo cI cZ cJ th k V C T B P A OR n PR ST li w WK so sp CT SC TA FW O)) (hS : va_S (lA s) s.heap H locs) {ls : Array Slot} (hl : lv_has ls 9 [(4, .int (nI (4 * jj))), (3, .ref qo), (2, .ref (r 0)), (1, .ref (q 0)), (0, .ref b)]) (hN : Nx p l e s m below meth c b D r q qo cI cZ cJ Q jj) : W p l e room_1 s m #[Value.ref b] below meth c H locs (27 + 8 * jj) (20244 + 64 * jj) Q (F0 m 152 ls []) := by
  obtain ⟨hx, hb, hr, hml, hown, hts, hX, hbl, hlocks, hK, hZ, hg, hn, hL⟩ := hc
  have hA : ∀ q9 : Nat, s.heap.size ≤ q9 → lA s q9 := fun _ h => h
  have hbA : ¬ lA s b := Nat.not_le.mpr hbl
  have hP : va_P D vwCl ((wM r cI cZ cJ th k V C A T B P OR n PR ST li w WK so sp CT FW) ++ ((wX q cI cZ cJ k V C T B P A n PR ST li w WK so sp CT SC TA) ++ [(qo, .inl (cJ, 1, .inr (.inl O)))])) H := hP
  have hD : va_D (lA s) ((wM r cI cZ cJ th k V C A T B P OR n PR ST li w WK so sp CT FW) ++ ((wX q cI cZ cJ k V C T B P A n PR ST li w WK so sp CT SC TA) ++ [(qo, .inl (cJ, 1, .inr (.inl O)))])) := hD
  refine lv_aload_n hx hb dL_law_152 rfl (lv_at hl 3 rfl) ?_
  refine lv_aload_n hx hb dL_law_153 rfl (lv_at hl 4 rfl) ?_
  refine lv_iload hx hb dL_law_154 (lv_at hl 0 rfl) ?_
  refine lv_iconst (v := nI 1) hx hb dL_law_156 (ic_1) ?_
  refine n_iadd hx hb dL_law_157 ?_
  refine n_sld hx hb hX hbl hbA hS (by omega) (by omega) dL_law_158 ?_
  refine lv_aload_n hx hb dL_law_159 rfl (lv_at hl 4 rfl) ?_
  refine lv_iload hx hb dL_law_160 (lv_at hl 0 rfl) ?_
  refine lv_iconst (v := nI 2) hx hb dL_law_162 (ic_2) ?_
  refine n_iadd hx hb dL_law_163 ?_
  refine n_sld hx hb hX hbl hbA hS (by omega) (by omega) dL_law_164 ?_
  refine lv_aload_n hx hb dL_law_165 rfl (lv_at hl 1 rfl) ?_
  refine k3_i (mc := 1) (ms := 6) (wa := (wM r cI cZ cJ th k V C A T B P OR n PR ST li w WK so sp CT FW)) (wc := ((wX q cI cZ cJ k V C T B P A n PR ST li w WK so sp CT SC TA) ++ [(qo, .inl (cJ, 1, .inr (.inl O)))])) (wb := []) (vx_runSW (As := [.ref (q 0), .int (xs ((4 * jj) + 1)), .int (xs ((4 * jj) + 2)), .ref qo]) (rest := []) ⟨hx, hb, hml, hown, hts⟩ (c_L_addKind l hst D q qo cI cZ cJ k V C T B P A n PR ST li w WK so sp CT SC TA O H.size (xs ((4 * jj) + 1)) (xs ((4 * jj) + 2)) hI.hk8 hI.hV) (vx_cwSW 4 hts gL_law_L_addKind rfl rfl rfl hd_L_addKind.2 ⟨(Nat.le_of_ble_eq_true rfl), (Nat.le_of_ble_eq_true rfl)⟩) (pre_N (wa := (wM r cI cZ cJ th k V C A T B P OR n PR ST li w WK so sp CT FW)) (wc := ((wX q cI cZ cJ k V C T B P A n PR ST li w WK so sp CT SC TA) ++ [(qo, .inl (cJ, 1, .inr (.inl O)))])) (wb := []) hP hK hD hS hA hZ hg hn) rfl rfl hl.1 rfl (lv_room (Nat.le_of_ble_eq_true rfl)) dL_law_166 ⟨(show (27 + 8 * jj) + 1 ≤ 601024 by omega), (show (20244 + 64 * jj) + 6 ≤ 7293034 by omega)⟩) hP hD hS hA (fun rr u H locs hp hP hD hS => ?_)
  rcases u with u | kk
  · replace hp : rr = nI 0 ∧ (1 ≤ u.1 ∧ u.1 < 501 ∧ u.2 < 61 ∧ (xs ((4 * jj) + 1)) = nI u.1 ∧ (xs ((4 * jj) + 2)) = nI u.2 ∧ k < 8 ∧ ¬ ∃ i, i < k ∧ V i = u.1) := hp
    obtain ⟨rfl, hp⟩ := hp
    have hP : va_P D vwCl ((wM r cI cZ cJ th k V C A T B P OR n PR ST li w WK so sp CT FW) ++ ((wX q cI cZ cJ (k + 1) (un V k u.1) (un C k u.2) T B P (un A k 1) n PR ST li w WK so sp CT SC TA) ++ [(qo, .inl (cJ, 1, .inr (.inl (vp_updL O 0 ((nI k).toInt64)))))])) H := hP
    have hD : va_D (lA s) ((wM r cI cZ cJ th k V C A T B P OR n PR ST li w WK so sp CT FW) ++ ((wX q cI cZ cJ (k + 1) (un V k u.1) (un C k u.2) T B P (un A k 1) n PR ST li w WK so sp CT SC TA) ++ [(qo, .inl (cJ, 1, .inr (.inl (vp_updL O 0 ((nI k).toInt64)))))])) := hD
    refine lv_istore (lv' := [(5, .int (nI 0)), (4, .int (nI (4 * jj))), (3, .ref qo), (2, .ref (r 0)), (1, .ref (q 0)), (0, .ref b)]) hx hb dL_law_169 hl (by decide) rfl (fun ls hl => ?_)
    refine lv_aload_n hx hb dL_law_171 rfl (lv_at hl 3 rfl) ?_
    refine lv_aload_n hx hb dL_law_172 rfl (lv_at hl 5 rfl) ?_
    refine lv_iload hx hb dL_law_173 (lv_at hl 1 rfl) ?_
    refine lv_iconst (v := nI 1) hx hb dL_law_175 (ic_1) ?_
    refine n_iadd hx hb dL_law_176 ?_
    refine n_sld hx hb hX hbl hbA hS (by omega) (by omega) dL_law_177 ?_
    refine lv_aload_n hx hb dL_law_178 rfl (lv_at hl 5 rfl) ?_
    refine lv_iload hx hb dL_law_179 (lv_at hl 1 rfl) ?_
    refine lv_iconst (v := nI 2) hx hb dL_law_181 (ic_2) ?_
    refine n_iadd hx hb dL_law_182 ?_
    refine n_sld hx hb hX hbl hbA hS (by omega) (by omega) dL_law_183 ?_
    refine k3_i (mc := 0) (ms := 0) (wa := []) (wc := (wM r cI cZ cJ th k V C A T B P OR n PR ST li w WK so sp CT FW)) (wb := ((wX q cI cZ cJ (k + 1) (un V k u.1) (un C k u.2) T B P (un A k 1) n PR ST li w WK so sp CT SC TA) ++ [(qo, .inl (cJ, 1, .inr (.inl (vp_updL O 0 ((nI k).toInt64)))))])) (va_runV (As := [.int (xs ((4 * jj) + 1)), .int (xs ((4 * jj) + 2))]) (rest := []) ⟨hx, hb, hml, hown, hts⟩ (c_X1_addKind l hst D r cI cZ cJ th k V C A T B P OR n PR ST li w WK so sp CT FW H.size (xs ((4 * jj) + 1)) (xs ((4 * jj) + 2)) hI.hk8 hI.hV hI.hOR) (cwV 2 hts gL_law_X1_addKind rfl rfl rfl hd_X1_addKind ⟨(Nat.le_of_ble_eq_true rfl), (Nat.le_of_ble_eq_true rfl)⟩) (pre_V3 (wa := []) (wc := (wM r cI cZ cJ th k V C A T B P OR n PR ST li w WK so sp CT FW)) (wb := ((wX q cI cZ cJ (k + 1) (un V k u.1) (un C k u.2) T B P (un A k 1) n PR ST li w WK so sp CT SC TA) ++ [(qo, .inl (cJ, 1, .inr (.inl (vp_updL O 0 ((nI k).toInt64)))))])) hP hK hD hS hA hZ hg 0 (ci := 1) rfl rfl) rfl rfl hl.1 rfl (lv_room (Nat.le_of_ble_eq_true rfl)) dL_law_184 ⟨(show ((27 + 8 * jj) + 1) + 0 ≤ 601024 by omega), (show ((20244 + 64 * jj) + 6) + 0 ≤ 7293034 by omega)⟩) hP hD hS hA (fun rr u2 H locs hq hP hD hS => ?_)
    obtain ⟨v0, v1, v2, v3, v4, v5, v6⟩ := u2
    replace hq : rr = nI v0 ∧ ((v1 = 0 ∧ ∃ i j, 1 ≤ i ∧ i < 501 ∧ j < 61 ∧ (xs ((4 * jj) + 1)) = nI i ∧ (xs ((4 * jj) + 2)) = nI j ∧ k < 8 ∧ (¬ ∃ x, x < k ∧ V x = i) ∧ v0 = k ∧ v2 = k + 1 ∧ v3 = un V k i ∧ v4 = un C k j ∧ v5 = un A k 1 ∧ ordOK (un V k i) v6 (k + 1)) ∨ (v1 = 1 ∧ ¬ (rg (xs ((4 * jj) + 1)) 1 501 ∧ rg (xs ((4 * jj) + 2)) 0 61) ∧ v2 = k ∧ v3 = V ∧ v4 = C ∧ v5 = A ∧ v6 = OR) ∨ (v1 = 2 ∧ (rg (xs ((4 * jj) + 1)) 1 501 ∧ rg (xs ((4 * jj) + 2)) 0 61) ∧ (¬ k < 8 ∨ ∃ x, x < k ∧ nI (V x) = (xs ((4 * jj) + 1))) ∧ v2 = k ∧ v3 = V ∧ v4 = C ∧ v5 = A ∧ v6 = OR)) := hq
    obtain ⟨hr9, hq⟩ := hq
    replace hr9 := hr9.symm
    subst hr9
    have hP : va_P D vwCl ((wM r cI cZ cJ v1 v2 v3 v4 v5 T B P v6 n PR ST li w WK so sp CT FW) ++ ((wX q cI cZ cJ (k + 1) (un V k u.1) (un C k u.2) T B P (un A k 1) n PR ST li w WK so sp CT SC TA) ++ [(qo, .inl (cJ, 1, .inr (.inl (vp_updL O 0 ((nI k).toInt64)))))])) H := hP
    have hD : va_D (lA s) ((wM r cI cZ cJ v1 v2 v3 v4 v5 T B P v6 n PR ST li w WK so sp CT FW) ++ ((wX q cI cZ cJ (k + 1) (un V k u.1) (un C k u.2) T B P (un A k 1) n PR ST li w WK so sp CT SC TA) ++ [(qo, .inl (cJ, 1, .inr (.inl (vp_updL O 0 ((nI k).toInt64)))))])) := hD
    obtain ⟨e0, e1, f0, f1, f2, f3, hO⟩ := q_addKind_0 hI.hV hp hq
    have e0 := e0.symm
    subst e0
    have e1 := e1.symm
    subst e1
    have f0 := f0.symm
    subst f0
    have f1 := f1.symm
    subst f1
    have f2 := f2.symm
    subst f2
    have f3 := f3.symm
    subst f3
    have hI2 := iv_addKind hI hp.1 hp.2.1 hp.2.2.1 hp.2.2.2.2.2.1 hO
    refine lv_istore (lv' := [(6, .int (nI k)), (5, .int (nI 0)), (4, .int (nI (4 * jj))), (3, .ref qo), (2, .ref (r 0)), (1, .ref (q 0)), (0, .ref b)]) hx hb dL_law_187 hl (by decide) rfl (fun ls hl => ?_)
    refine lv_aload_n hx hb dL_law_189 rfl (lv_at hl 4 rfl) ?_
    refine k3_i (mc := 0) (ms := 0) (wa := []) (wc := (wM r cI cZ cJ 0 (k + 1) (un V k u.1) (un C k u.2) (un A k 1) T B P v6 n PR ST li w WK so sp CT FW)) (wb := ((wX q cI cZ cJ (k + 1) (un V k u.1) (un C k u.2) T B P (un A k 1) n PR ST li w WK so sp CT SC TA) ++ [(qo, .inl (cJ, 1, .inr (.inl (vp_updL O 0 ((nI k).toInt64)))))])) (va_runV (As := []) (rest := []) ⟨hx, hb, hml, hown, hts⟩ (c_X1_thrown l hst D r cI cZ cJ 0 (k + 1) (un V k u.1) (un C k u.2) (un A k 1) T B P v6 n PR ST li w WK so sp CT FW H.size  ) (cwV 0 hts gL_law_X1_thrown rfl rfl rfl hd_X1_thrown ⟨(Nat.le_of_ble_eq_true rfl), (Nat.le_of_ble_eq_true rfl)⟩) (pre_V3 (wa := []) (wc := (wM r cI cZ cJ 0 (k + 1) (un V k u.1) (un C k u.2) (un A k 1) T B P v6 n PR ST li w WK so sp CT FW)) (wb := ((wX q cI cZ cJ (k + 1) (un V k u.1) (un C k u.2) T B P (un A k 1) n PR ST li w WK so sp CT SC TA) ++ [(qo, .inl (cJ, 1, .inr (.inl (vp_updL O 0 ((nI k).toInt64)))))])) hP hK hD hS hA hZ hg 0 (ci := 1) rfl rfl) rfl rfl hl.1 rfl (lv_room (Nat.le_of_ble_eq_true rfl)) dL_law_190 ⟨(show (((27 + 8 * jj) + 1) + 0) + 0 ≤ 601024 by omega), (show (((20244 + 64 * jj) + 6) + 0) + 0 ≤ 7293034 by omega)⟩) hP hD hS hA (fun rr u2 H locs hq hP hD hS => ?_)
    replace hq : rr = nI 0 := hq
    subst hq
    have hP : va_P D vwCl ((wM r cI cZ cJ 0 (k + 1) (un V k u.1) (un C k u.2) (un A k 1) T B P v6 n PR ST li w WK so sp CT FW) ++ ((wX q cI cZ cJ (k + 1) (un V k u.1) (un C k u.2) T B P (un A k 1) n PR ST li w WK so sp CT SC TA) ++ [(qo, .inl (cJ, 1, .inr (.inl (vp_updL O 0 ((nI k).toInt64)))))])) H := hP
    have hD : va_D (lA s) ((wM r cI cZ cJ 0 (k + 1) (un V k u.1) (un C k u.2) (un A k 1) T B P v6 n PR ST li w WK so sp CT FW) ++ ((wX q cI cZ cJ (k + 1) (un V k u.1) (un C k u.2) T B P (un A k 1) n PR ST li w WK so sp CT SC TA) ++ [(qo, .inl (cJ, 1, .inr (.inl (vp_updL O 0 ((nI k).toInt64)))))])) := hD
    refine lv_iload hx hb dL_law_193 (lv_at hl 1 rfl) ?_
    refine lv_icmp_eq (tgt := 200) hx hb dL_law_195 (by decide) (fun _ => ?_) (fun h => absurd rfl h)
    refine lv_iload hx hb dL_law_200 (lv_at hl 1 rfl) ?_
    refine n_if_ne (tgt := 217) hx hb (by decide) dL_law_202 (by decide) (fun c202 => ?_) (fun c202 => ?_)
    · exact absurd c202 (by decide)
    · refine lv_aload_n hx hb dL_law_205 rfl (lv_at hl 3 rfl) ?_
      refine lv_iconst (v := nI 0) hx hb dL_law_206 (ic_0) ?_
      refine n_lald hx hb hK hP 26 2 rfl rfl (by decide) (by decide) dL_law_207 ?_
      refine n_topl (show (vp_updL O 0 ((nI k).toInt64)) 0 = (nI k).toInt64 from updL_s) ?_
      refine lv_iload hx hb dL_law_208 (lv_at hl 0 rfl) ?_
      refine lv_i2l hx hb dL_law_210 rfl ?_
      refine n_lcmp_eq (tgt := 217) hx hb dL_law_211 dL_law_212 (by decide) (fun _ => ?_) (fun h => absurd rfl h)
      refine lv_goto (tgt := 1433) hx hb dL_law_217 (by decide) ?_
      refine W.widen (k := 27 + 8 * (jj + 1)) (n := 20244 + 64 * (jj + 1)) (by omega) (by omega) ?_
      exact hN 0 (k + 1) (un V k u.1) (un C k u.2) T B P (un A k 1) v6 n PR ST li w WK so sp CT SC TA FW (vp_updL O 0 ((nI k).toInt64)) _ _ hI2 hP hD hS ls (lv_sub hl [2, 3, 4, 5, 6] rfl)
  · replace hp : rr = nI kk ∧ ((kk = 1 ∧ (¬ (rg (xs ((4 * jj) + 1)) 1 501 ∧ rg (xs ((4 * jj) + 2)) 0 61))) ∨ (kk = 2 ∧ ((rg (xs ((4 * jj) + 1)) 1 501 ∧ rg (xs ((4 * jj) + 2)) 0 61) ∧ (¬ k < 8 ∨ ∃ i, i < k ∧ nI (V i) = (xs ((4 * jj) + 1)))))) := hp
    obtain ⟨rfl, hp⟩ := hp
    have hP : va_P D vwCl ((wM r cI cZ cJ th k V C A T B P OR n PR ST li w WK so sp CT FW) ++ ((wX q cI cZ cJ k V C T B P A n PR ST li w WK so sp CT SC TA) ++ [(qo, .inl (cJ, 1, .inr (.inl O)))])) H := hP
    have hD : va_D (lA s) ((wM r cI cZ cJ th k V C A T B P OR n PR ST li w WK so sp CT FW) ++ ((wX q cI cZ cJ k V C T B P A n PR ST li w WK so sp CT SC TA) ++ [(qo, .inl (cJ, 1, .inr (.inl O)))])) := hD
    rcases hp with ⟨rfl, hp⟩ | ⟨rfl, hp⟩
    · refine lv_istore (lv' := [(5, .int (nI 1)), (4, .int (nI (4 * jj))), (3, .ref qo), (2, .ref (r 0)), (1, .ref (q 0)), (0, .ref b)]) hx hb dL_law_169 hl (by decide) rfl (fun ls hl => ?_)
      refine lv_aload_n hx hb dL_law_171 rfl (lv_at hl 3 rfl) ?_
      refine lv_aload_n hx hb dL_law_172 rfl (lv_at hl 5 rfl) ?_
      refine lv_iload hx hb dL_law_173 (lv_at hl 1 rfl) ?_
      refine lv_iconst (v := nI 1) hx hb dL_law_175 (ic_1) ?_
      refine n_iadd hx hb dL_law_176 ?_
      refine n_sld hx hb hX hbl hbA hS (by omega) (by omega) dL_law_177 ?_
      refine lv_aload_n hx hb dL_law_178 rfl (lv_at hl 5 rfl) ?_
      refine lv_iload hx hb dL_law_179 (lv_at hl 1 rfl) ?_
      refine lv_iconst (v := nI 2) hx hb dL_law_181 (ic_2) ?_
      refine n_iadd hx hb dL_law_182 ?_
      refine n_sld hx hb hX hbl hbA hS (by omega) (by omega) dL_law_183 ?_
      refine k3_i (mc := 0) (ms := 0) (wa := []) (wc := (wM r cI cZ cJ th k V C A T B P OR n PR ST li w WK so sp CT FW)) (wb := ((wX q cI cZ cJ k V C T B P A n PR ST li w WK so sp CT SC TA) ++ [(qo, .inl (cJ, 1, .inr (.inl O)))])) (va_runV (As := [.int (xs ((4 * jj) + 1)), .int (xs ((4 * jj) + 2))]) (rest := []) ⟨hx, hb, hml, hown, hts⟩ (c_X1_addKind l hst D r cI cZ cJ th k V C A T B P OR n PR ST li w WK so sp CT FW H.size (xs ((4 * jj) + 1)) (xs ((4 * jj) + 2)) hI.hk8 hI.hV hI.hOR) (cwV 2 hts gL_law_X1_addKind rfl rfl rfl hd_X1_addKind ⟨(Nat.le_of_ble_eq_true rfl), (Nat.le_of_ble_eq_true rfl)⟩) (pre_V3 (wa := []) (wc := (wM r cI cZ cJ th k V C A T B P OR n PR ST li w WK so sp CT FW)) (wb := ((wX q cI cZ cJ k V C T B P A n PR ST li w WK so sp CT SC TA) ++ [(qo, .inl (cJ, 1, .inr (.inl O)))])) hP hK hD hS hA hZ hg 0 (ci := 1) rfl rfl) rfl rfl hl.1 rfl (lv_room (Nat.le_of_ble_eq_true rfl)) dL_law_184 ⟨(show ((27 + 8 * jj) + 1) + 0 ≤ 601024 by omega), (show ((20244 + 64 * jj) + 6) + 0 ≤ 7293034 by omega)⟩) hP hD hS hA (fun rr u2 H locs hq hP hD hS => ?_)
      obtain ⟨v0, v1, v2, v3, v4, v5, v6⟩ := u2
      replace hq : rr = nI v0 ∧ ((v1 = 0 ∧ ∃ i j, 1 ≤ i ∧ i < 501 ∧ j < 61 ∧ (xs ((4 * jj) + 1)) = nI i ∧ (xs ((4 * jj) + 2)) = nI j ∧ k < 8 ∧ (¬ ∃ x, x < k ∧ V x = i) ∧ v0 = k ∧ v2 = k + 1 ∧ v3 = un V k i ∧ v4 = un C k j ∧ v5 = un A k 1 ∧ ordOK (un V k i) v6 (k + 1)) ∨ (v1 = 1 ∧ ¬ (rg (xs ((4 * jj) + 1)) 1 501 ∧ rg (xs ((4 * jj) + 2)) 0 61) ∧ v2 = k ∧ v3 = V ∧ v4 = C ∧ v5 = A ∧ v6 = OR) ∨ (v1 = 2 ∧ (rg (xs ((4 * jj) + 1)) 1 501 ∧ rg (xs ((4 * jj) + 2)) 0 61) ∧ (¬ k < 8 ∨ ∃ x, x < k ∧ nI (V x) = (xs ((4 * jj) + 1))) ∧ v2 = k ∧ v3 = V ∧ v4 = C ∧ v5 = A ∧ v6 = OR)) := hq
      obtain ⟨hr9, hq⟩ := hq
      replace hr9 := hr9.symm
      subst hr9
      have hP : va_P D vwCl ((wM r cI cZ cJ v1 v2 v3 v4 v5 T B P v6 n PR ST li w WK so sp CT FW) ++ ((wX q cI cZ cJ k V C T B P A n PR ST li w WK so sp CT SC TA) ++ [(qo, .inl (cJ, 1, .inr (.inl O)))])) H := hP
      have hD : va_D (lA s) ((wM r cI cZ cJ v1 v2 v3 v4 v5 T B P v6 n PR ST li w WK so sp CT FW) ++ ((wX q cI cZ cJ k V C T B P A n PR ST li w WK so sp CT SC TA) ++ [(qo, .inl (cJ, 1, .inr (.inl O)))])) := hD
      obtain ⟨e0, f0, f1, f2, f3, hO⟩ := q_addKind_1 hI.hV hp hq
      have e0 := e0.symm
      subst e0
      have f0 := f0.symm
      subst f0
      have f1 := f1.symm
      subst f1
      have f2 := f2.symm
      subst f2
      have f3 := f3.symm
      subst f3
      have hO := hO.symm
      subst hO
      refine lv_istore (lv' := [(6, .int (nI v0)), (5, .int (nI 1)), (4, .int (nI (4 * jj))), (3, .ref qo), (2, .ref (r 0)), (1, .ref (q 0)), (0, .ref b)]) hx hb dL_law_187 hl (by decide) rfl (fun ls hl => ?_)
      refine lv_aload_n hx hb dL_law_189 rfl (lv_at hl 4 rfl) ?_
      refine k3_i (mc := 0) (ms := 0) (wa := []) (wc := (wM r cI cZ cJ 1 k V C A T B P OR n PR ST li w WK so sp CT FW)) (wb := ((wX q cI cZ cJ k V C T B P A n PR ST li w WK so sp CT SC TA) ++ [(qo, .inl (cJ, 1, .inr (.inl O)))])) (va_runV (As := []) (rest := []) ⟨hx, hb, hml, hown, hts⟩ (c_X1_thrown l hst D r cI cZ cJ 1 k V C A T B P OR n PR ST li w WK so sp CT FW H.size  ) (cwV 0 hts gL_law_X1_thrown rfl rfl rfl hd_X1_thrown ⟨(Nat.le_of_ble_eq_true rfl), (Nat.le_of_ble_eq_true rfl)⟩) (pre_V3 (wa := []) (wc := (wM r cI cZ cJ 1 k V C A T B P OR n PR ST li w WK so sp CT FW)) (wb := ((wX q cI cZ cJ k V C T B P A n PR ST li w WK so sp CT SC TA) ++ [(qo, .inl (cJ, 1, .inr (.inl O)))])) hP hK hD hS hA hZ hg 0 (ci := 1) rfl rfl) rfl rfl hl.1 rfl (lv_room (Nat.le_of_ble_eq_true rfl)) dL_law_190 ⟨(show (((27 + 8 * jj) + 1) + 0) + 0 ≤ 601024 by omega), (show (((20244 + 64 * jj) + 6) + 0) + 0 ≤ 7293034 by omega)⟩) hP hD hS hA (fun rr u2 H locs hq hP hD hS => ?_)
      replace hq : rr = nI 1 := hq
      subst hq
      have hP : va_P D vwCl ((wM r cI cZ cJ 1 k V C A T B P OR n PR ST li w WK so sp CT FW) ++ ((wX q cI cZ cJ k V C T B P A n PR ST li w WK so sp CT SC TA) ++ [(qo, .inl (cJ, 1, .inr (.inl O)))])) H := hP
      have hD : va_D (lA s) ((wM r cI cZ cJ 1 k V C A T B P OR n PR ST li w WK so sp CT FW) ++ ((wX q cI cZ cJ k V C T B P A n PR ST li w WK so sp CT SC TA) ++ [(qo, .inl (cJ, 1, .inr (.inl O)))])) := hD
      refine lv_iload hx hb dL_law_193 (lv_at hl 1 rfl) ?_
      refine lv_icmp_eq (tgt := 200) hx hb dL_law_195 (by decide) (fun _ => ?_) (fun h => absurd rfl h)
      refine lv_iload hx hb dL_law_200 (lv_at hl 1 rfl) ?_
      refine n_if_ne (tgt := 217) hx hb (by decide) dL_law_202 (by decide) (fun c202 => ?_) (fun c202 => ?_)
      · refine lv_goto (tgt := 1433) hx hb dL_law_217 (by decide) ?_
        refine W.widen (k := 27 + 8 * (jj + 1)) (n := 20244 + 64 * (jj + 1)) (by omega) (by omega) ?_
        exact hN 1 k V C T B P A OR n PR ST li w WK so sp CT SC TA FW O _ _ hI hP hD hS ls (lv_sub hl [2, 3, 4, 5, 6] rfl)
      · exact absurd c202 (by decide)
    · refine lv_istore (lv' := [(5, .int (nI 2)), (4, .int (nI (4 * jj))), (3, .ref qo), (2, .ref (r 0)), (1, .ref (q 0)), (0, .ref b)]) hx hb dL_law_169 hl (by decide) rfl (fun ls hl => ?_)
      refine lv_aload_n hx hb dL_law_171 rfl (lv_at hl 3 rfl) ?_
      refine lv_aload_n hx hb dL_law_172 rfl (lv_at hl 5 rfl) ?_
      refine lv_iload hx hb dL_law_173 (lv_at hl 1 rfl) ?_
      refine lv_iconst (v := nI 1) hx hb dL_law_175 (ic_1) ?_
      refine n_iadd hx hb dL_law_176 ?_
      refine n_sld hx hb hX hbl hbA hS (by omega) (by omega) dL_law_177 ?_
      refine lv_aload_n hx hb dL_law_178 rfl (lv_at hl 5 rfl) ?_
      refine lv_iload hx hb dL_law_179 (lv_at hl 1 rfl) ?_
      refine lv_iconst (v := nI 2) hx hb dL_law_181 (ic_2) ?_
      refine n_iadd hx hb dL_law_182 ?_
      refine n_sld hx hb hX hbl hbA hS (by omega) (by omega) dL_law_183 ?_
      refine k3_i (mc := 0) (ms := 0) (wa := []) (wc := (wM r cI cZ cJ th k V C A T B P OR n PR ST li w WK so sp CT FW)) (wb := ((wX q cI cZ cJ k V C T B P A n PR ST li w WK so sp CT SC TA) ++ [(qo, .inl (cJ, 1, .inr (.inl O)))])) (va_runV (As := [.int (xs ((4 * jj) + 1)), .int (xs ((4 * jj) + 2))]) (rest := []) ⟨hx, hb, hml, hown, hts⟩ (c_X1_addKind l hst D r cI cZ cJ th k V C A T B P OR n PR ST li w WK so sp CT FW H.size (xs ((4 * jj) + 1)) (xs ((4 * jj) + 2)) hI.hk8 hI.hV hI.hOR) (cwV 2 hts gL_law_X1_addKind rfl rfl rfl hd_X1_addKind ⟨(Nat.le_of_ble_eq_true rfl), (Nat.le_of_ble_eq_true rfl)⟩) (pre_V3 (wa := []) (wc := (wM r cI cZ cJ th k V C A T B P OR n PR ST li w WK so sp CT FW)) (wb := ((wX q cI cZ cJ k V C T B P A n PR ST li w WK so sp CT SC TA) ++ [(qo, .inl (cJ, 1, .inr (.inl O)))])) hP hK hD hS hA hZ hg 0 (ci := 1) rfl rfl) rfl rfl hl.1 rfl (lv_room (Nat.le_of_ble_eq_true rfl)) dL_law_184 ⟨(show ((27 + 8 * jj) + 1) + 0 ≤ 601024 by omega), (show ((20244 + 64 * jj) + 6) + 0 ≤ 7293034 by omega)⟩) hP hD hS hA (fun rr u2 H locs hq hP hD hS => ?_)
      obtain ⟨v0, v1, v2, v3, v4, v5, v6⟩ := u2
      replace hq : rr = nI v0 ∧ ((v1 = 0 ∧ ∃ i j, 1 ≤ i ∧ i < 501 ∧ j < 61 ∧ (xs ((4 * jj) + 1)) = nI i ∧ (xs ((4 * jj) + 2)) = nI j ∧ k < 8 ∧ (¬ ∃ x, x < k ∧ V x = i) ∧ v0 = k ∧ v2 = k + 1 ∧ v3 = un V k i ∧ v4 = un C k j ∧ v5 = un A k 1 ∧ ordOK (un V k i) v6 (k + 1)) ∨ (v1 = 1 ∧ ¬ (rg (xs ((4 * jj) + 1)) 1 501 ∧ rg (xs ((4 * jj) + 2)) 0 61) ∧ v2 = k ∧ v3 = V ∧ v4 = C ∧ v5 = A ∧ v6 = OR) ∨ (v1 = 2 ∧ (rg (xs ((4 * jj) + 1)) 1 501 ∧ rg (xs ((4 * jj) + 2)) 0 61) ∧ (¬ k < 8 ∨ ∃ x, x < k ∧ nI (V x) = (xs ((4 * jj) + 1))) ∧ v2 = k ∧ v3 = V ∧ v4 = C ∧ v5 = A ∧ v6 = OR)) := hq
      obtain ⟨hr9, hq⟩ := hq
      replace hr9 := hr9.symm
      subst hr9
      have hP : va_P D vwCl ((wM r cI cZ cJ v1 v2 v3 v4 v5 T B P v6 n PR ST li w WK so sp CT FW) ++ ((wX q cI cZ cJ k V C T B P A n PR ST li w WK so sp CT SC TA) ++ [(qo, .inl (cJ, 1, .inr (.inl O)))])) H := hP
      have hD : va_D (lA s) ((wM r cI cZ cJ v1 v2 v3 v4 v5 T B P v6 n PR ST li w WK so sp CT FW) ++ ((wX q cI cZ cJ k V C T B P A n PR ST li w WK so sp CT SC TA) ++ [(qo, .inl (cJ, 1, .inr (.inl O)))])) := hD
      obtain ⟨e0, f0, f1, f2, f3, hO⟩ := q_addKind_2 hI.hV hp hq
      have e0 := e0.symm
      subst e0
      have f0 := f0.symm
      subst f0
      have f1 := f1.symm
      subst f1
      have f2 := f2.symm
      subst f2
      have f3 := f3.symm
      subst f3
      have hO := hO.symm
      subst hO
      refine lv_istore (lv' := [(6, .int (nI v0)), (5, .int (nI 2)), (4, .int (nI (4 * jj))), (3, .ref qo), (2, .ref (r 0)), (1, .ref (q 0)), (0, .ref b)]) hx hb dL_law_187 hl (by decide) rfl (fun ls hl => ?_)
      refine lv_aload_n hx hb dL_law_189 rfl (lv_at hl 4 rfl) ?_
      refine k3_i (mc := 0) (ms := 0) (wa := []) (wc := (wM r cI cZ cJ 2 k V C A T B P OR n PR ST li w WK so sp CT FW)) (wb := ((wX q cI cZ cJ k V C T B P A n PR ST li w WK so sp CT SC TA) ++ [(qo, .inl (cJ, 1, .inr (.inl O)))])) (va_runV (As := []) (rest := []) ⟨hx, hb, hml, hown, hts⟩ (c_X1_thrown l hst D r cI cZ cJ 2 k V C A T B P OR n PR ST li w WK so sp CT FW H.size  ) (cwV 0 hts gL_law_X1_thrown rfl rfl rfl hd_X1_thrown ⟨(Nat.le_of_ble_eq_true rfl), (Nat.le_of_ble_eq_true rfl)⟩) (pre_V3 (wa := []) (wc := (wM r cI cZ cJ 2 k V C A T B P OR n PR ST li w WK so sp CT FW)) (wb := ((wX q cI cZ cJ k V C T B P A n PR ST li w WK so sp CT SC TA) ++ [(qo, .inl (cJ, 1, .inr (.inl O)))])) hP hK hD hS hA hZ hg 0 (ci := 1) rfl rfl) rfl rfl hl.1 rfl (lv_room (Nat.le_of_ble_eq_true rfl)) dL_law_190 ⟨(show (((27 + 8 * jj) + 1) + 0) + 0 ≤ 601024 by omega), (show (((20244 + 64 * jj) + 6) + 0) + 0 ≤ 7293034 by omega)⟩) hP hD hS hA (fun rr u2 H locs hq hP hD hS => ?_)
      replace hq : rr = nI 2 := hq
      subst hq
      have hP : va_P D vwCl ((wM r cI cZ cJ 2 k V C A T B P OR n PR ST li w WK so sp CT FW) ++ ((wX q cI cZ cJ k V C T B P A n PR ST li w WK so sp CT SC TA) ++ [(qo, .inl (cJ, 1, .inr (.inl O)))])) H := hP
      have hD : va_D (lA s) ((wM r cI cZ cJ 2 k V C A T B P OR n PR ST li w WK so sp CT FW) ++ ((wX q cI cZ cJ k V C T B P A n PR ST li w WK so sp CT SC TA) ++ [(qo, .inl (cJ, 1, .inr (.inl O)))])) := hD
      refine lv_iload hx hb dL_law_193 (lv_at hl 1 rfl) ?_
      refine lv_icmp_eq (tgt := 200) hx hb dL_law_195 (by decide) (fun _ => ?_) (fun h => absurd rfl h)
      refine lv_iload hx hb dL_law_200 (lv_at hl 1 rfl) ?_
      refine n_if_ne (tgt := 217) hx hb (by decide) dL_law_202 (by decide) (fun c202 => ?_) (fun c202 => ?_)
      · refine lv_goto (tgt := 1433) hx hb dL_law_217 (by decide) ?_
        refine W.widen (k := 27 + 8 * (jj + 1)) (n := 20244 + 64 * (jj + 1)) (by omega) (by omega) ?_
        exact hN 2 k V C T B P A OR n PR ST li w WK so sp CT SC TA FW O _ _ hI hP hD hS ls (lv_sub hl [2, 3, 4, 5, 6] rfl)
      · exact absurd c202 (by decide)

set_option maxHeartbeats 8000000 in
set_option maxRecDepth 100000 in
theorem lw_fill (hst : l.stackTraces = false) (hc : Lc p s m meth c b L xs D cI cZ cJ) {r q : Nat → Nat} {qo jj : Nat} (hj : 4 * jj + 4 ≤ L) {th : Nat} {k : Nat} {V : Nat → Nat} {C : Nat → Nat} {T : Nat → Nat} {B : Nat → Nat} {P : Nat → Nat} {A : Nat → Nat} {OR : Nat → Nat} {n : Nat} {PR : Nat → Nat} {ST : Nat → Nat} {li : Nat} {w : Nat} {WK : Nat → Nat} {so : Nat} {sp : Nat} {CT : Nat → Int64} {SC : Nat → Int} {TA : Nat → Nat} {FW : Nat → Nat} {O : Nat → Int64} {H : Heap} {locs : List Loc} (hI : IV k V C T A OR n PR ST li w WK so sp) (hP : va_P D vwCl (wL r q qo cI cZ cJ th k V C T B P A OR n PR ST li w WK so sp CT SC TA FW O) H) (hD : va_D (lA s) (wL r q qo cI cZ cJ th k V C T B P A OR n PR ST li w WK so sp CT SC TA FW O)) (hS : va_S (lA s) s.heap H locs) {ls : Array Slot} (hl : lv_has ls 9 [(4, .int (nI (4 * jj))), (3, .ref qo), (2, .ref (r 0)), (1, .ref (q 0)), (0, .ref b)]) (hN : Nx p l e s m below meth c b D r q qo cI cZ cJ Q jj) : W p l e room_1 s m #[Value.ref b] below meth c H locs (27 + 8 * jj) (20244 + 64 * jj) Q (F0 m 220 ls []) := by
  obtain ⟨hx, hb, hr, hml, hown, hts, hX, hbl, hlocks, hK, hZ, hg, hn, hL⟩ := hc
  have hA : ∀ q9 : Nat, s.heap.size ≤ q9 → lA s q9 := fun _ h => h
  have hbA : ¬ lA s b := Nat.not_le.mpr hbl
  have hP : va_P D vwCl ((wM r cI cZ cJ th k V C A T B P OR n PR ST li w WK so sp CT FW) ++ ((wX q cI cZ cJ k V C T B P A n PR ST li w WK so sp CT SC TA) ++ [(qo, .inl (cJ, 1, .inr (.inl O)))])) H := hP
  have hD : va_D (lA s) ((wM r cI cZ cJ th k V C A T B P OR n PR ST li w WK so sp CT FW) ++ ((wX q cI cZ cJ k V C T B P A n PR ST li w WK so sp CT SC TA) ++ [(qo, .inl (cJ, 1, .inr (.inl O)))])) := hD
  refine lv_aload_n hx hb dL_law_220 rfl (lv_at hl 3 rfl) ?_
  refine lv_aload_n hx hb dL_law_221 rfl (lv_at hl 4 rfl) ?_
  refine lv_iload hx hb dL_law_222 (lv_at hl 0 rfl) ?_
  refine lv_iconst (v := nI 1) hx hb dL_law_224 (ic_1) ?_
  refine n_iadd hx hb dL_law_225 ?_
  refine n_sld hx hb hX hbl hbA hS (by omega) (by omega) dL_law_226 ?_
  refine lv_aload_n hx hb dL_law_227 rfl (lv_at hl 4 rfl) ?_
  refine lv_iload hx hb dL_law_228 (lv_at hl 0 rfl) ?_
  refine lv_iconst (v := nI 2) hx hb dL_law_230 (ic_2) ?_
  refine n_iadd hx hb dL_law_231 ?_
  refine n_sld hx hb hX hbl hbA hS (by omega) (by omega) dL_law_232 ?_
  refine lv_aload_n hx hb dL_law_233 rfl (lv_at hl 1 rfl) ?_
  refine k3_i (mc := 2) (ms := 12) (wa := (wM r cI cZ cJ th k V C A T B P OR n PR ST li w WK so sp CT FW)) (wc := ((wX q cI cZ cJ k V C T B P A n PR ST li w WK so sp CT SC TA) ++ [(qo, .inl (cJ, 1, .inr (.inl O)))])) (wb := []) (vx_runSW (As := [.ref (q 0), .int (xs ((4 * jj) + 1)), .int (xs ((4 * jj) + 2)), .ref qo]) (rest := []) ⟨hx, hb, hml, hown, hts⟩ (c_L_fill l hst D q qo cI cZ cJ k V C T B P A n PR ST li w WK so sp CT SC TA O H.size (xs ((4 * jj) + 1)) (xs ((4 * jj) + 2)) hI.hk8 hI.hV hI.hC) (vx_cwSW 4 hts gL_law_L_fill rfl rfl rfl hd_L_fill.2 ⟨(Nat.le_of_ble_eq_true rfl), (Nat.le_of_ble_eq_true rfl)⟩) (pre_N (wa := (wM r cI cZ cJ th k V C A T B P OR n PR ST li w WK so sp CT FW)) (wc := ((wX q cI cZ cJ k V C T B P A n PR ST li w WK so sp CT SC TA) ++ [(qo, .inl (cJ, 1, .inr (.inl O)))])) (wb := []) hP hK hD hS hA hZ hg hn) rfl rfl hl.1 rfl (lv_room (Nat.le_of_ble_eq_true rfl)) dL_law_234 ⟨(show (27 + 8 * jj) + 2 ≤ 601024 by omega), (show (20244 + 64 * jj) + 12 ≤ 7293034 by omega)⟩) hP hD hS hA (fun rr u H locs hp hP hD hS => ?_)
  rcases u with u | kk
  · replace hp : rr = nI 0 ∧ (u.1 < k ∧ u.2 < 61 ∧ (xs ((4 * jj) + 1)) = nI u.1 ∧ (xs ((4 * jj) + 2)) = nI u.2) := hp
    obtain ⟨rfl, hp⟩ := hp
    have hP : va_P D vwCl ((wM r cI cZ cJ th k V C A T B P OR n PR ST li w WK so sp CT FW) ++ ((wX q cI cZ cJ k V C (un T u.1 (T u.1 + min u.2 (C u.1 - T u.1))) B P A n PR ST li w WK so sp (vp_updL CT 4 (CT 4 + lZ ((min u.2 (C u.1 - T u.1) * V u.1 : Nat) : Int))) SC TA) ++ [(qo, .inl (cJ, 1, .inr (.inl (vp_updL O 0 ((nI (u.2 - min u.2 (C u.1 - T u.1))).toInt64)))))])) H := hP
    have hD : va_D (lA s) ((wM r cI cZ cJ th k V C A T B P OR n PR ST li w WK so sp CT FW) ++ ((wX q cI cZ cJ k V C (un T u.1 (T u.1 + min u.2 (C u.1 - T u.1))) B P A n PR ST li w WK so sp (vp_updL CT 4 (CT 4 + lZ ((min u.2 (C u.1 - T u.1) * V u.1 : Nat) : Int))) SC TA) ++ [(qo, .inl (cJ, 1, .inr (.inl (vp_updL O 0 ((nI (u.2 - min u.2 (C u.1 - T u.1))).toInt64)))))])) := hD
    refine lv_istore (lv' := [(5, .int (nI 0)), (4, .int (nI (4 * jj))), (3, .ref qo), (2, .ref (r 0)), (1, .ref (q 0)), (0, .ref b)]) hx hb dL_law_237 hl (by decide) rfl (fun ls hl => ?_)
    refine lv_aload_n hx hb dL_law_239 rfl (lv_at hl 3 rfl) ?_
    refine lv_aload_n hx hb dL_law_240 rfl (lv_at hl 5 rfl) ?_
    refine lv_iload hx hb dL_law_241 (lv_at hl 1 rfl) ?_
    refine lv_iconst (v := nI 1) hx hb dL_law_243 (ic_1) ?_
    refine n_iadd hx hb dL_law_244 ?_
    refine n_sld hx hb hX hbl hbA hS (by omega) (by omega) dL_law_245 ?_
    refine lv_aload_n hx hb dL_law_246 rfl (lv_at hl 5 rfl) ?_
    refine lv_iload hx hb dL_law_247 (lv_at hl 1 rfl) ?_
    refine lv_iconst (v := nI 2) hx hb dL_law_249 (ic_2) ?_
    refine n_iadd hx hb dL_law_250 ?_
    refine n_sld hx hb hX hbl hbA hS (by omega) (by omega) dL_law_251 ?_
    refine k3_i (mc := 0) (ms := 0) (wa := []) (wc := (wM r cI cZ cJ th k V C A T B P OR n PR ST li w WK so sp CT FW)) (wb := ((wX q cI cZ cJ k V C (un T u.1 (T u.1 + min u.2 (C u.1 - T u.1))) B P A n PR ST li w WK so sp (vp_updL CT 4 (CT 4 + lZ ((min u.2 (C u.1 - T u.1) * V u.1 : Nat) : Int))) SC TA) ++ [(qo, .inl (cJ, 1, .inr (.inl (vp_updL O 0 ((nI (u.2 - min u.2 (C u.1 - T u.1))).toInt64)))))])) (va_runV (As := [.int (xs ((4 * jj) + 1)), .int (xs ((4 * jj) + 2))]) (rest := []) ⟨hx, hb, hml, hown, hts⟩ (c_X1_fill l hst D r cI cZ cJ th k V C A T B P OR n PR ST li w WK so sp CT FW H.size (xs ((4 * jj) + 1)) (xs ((4 * jj) + 2)) hI.hk8 hI.hV hI.hC) (cwV 2 hts gL_law_X1_fill rfl rfl rfl hd_X1_fill ⟨(Nat.le_of_ble_eq_true rfl), (Nat.le_of_ble_eq_true rfl)⟩) (pre_V3 (wa := []) (wc := (wM r cI cZ cJ th k V C A T B P OR n PR ST li w WK so sp CT FW)) (wb := ((wX q cI cZ cJ k V C (un T u.1 (T u.1 + min u.2 (C u.1 - T u.1))) B P A n PR ST li w WK so sp (vp_updL CT 4 (CT 4 + lZ ((min u.2 (C u.1 - T u.1) * V u.1 : Nat) : Int))) SC TA) ++ [(qo, .inl (cJ, 1, .inr (.inl (vp_updL O 0 ((nI (u.2 - min u.2 (C u.1 - T u.1))).toInt64)))))])) hP hK hD hS hA hZ hg 0 (ci := 1) rfl rfl) rfl rfl hl.1 rfl (lv_room (Nat.le_of_ble_eq_true rfl)) dL_law_252 ⟨(show ((27 + 8 * jj) + 2) + 0 ≤ 601024 by omega), (show ((20244 + 64 * jj) + 12) + 0 ≤ 7293034 by omega)⟩) hP hD hS hA (fun rr u2 H locs hq hP hD hS => ?_)
    obtain ⟨v0, v1, v2, v3⟩ := u2
    replace hq : rr = nI v0 ∧ ((v1 = 0 ∧ ∃ i j, i < k ∧ j < 61 ∧ (xs ((4 * jj) + 1)) = nI i ∧ (xs ((4 * jj) + 2)) = nI j ∧ v0 = j - min j (C i - T i) ∧ v2 = un T i (T i + min j (C i - T i)) ∧ v3 = vp_updL CT 4 (CT 4 + lZ ((min j (C i - T i) * V i : Nat) : Int))) ∨ (v1 = 1 ∧ ¬ rg (xs ((4 * jj) + 1)) 0 k ∧ v2 = T ∧ v3 = CT) ∨ (v1 = 2 ∧ rg (xs ((4 * jj) + 1)) 0 k ∧ ¬ rg (xs ((4 * jj) + 2)) 0 61 ∧ v2 = T ∧ v3 = CT)) := hq
    obtain ⟨hr9, hq⟩ := hq
    replace hr9 := hr9.symm
    subst hr9
    have hP : va_P D vwCl ((wM r cI cZ cJ v1 k V C A v2 B P OR n PR ST li w WK so sp v3 FW) ++ ((wX q cI cZ cJ k V C (un T u.1 (T u.1 + min u.2 (C u.1 - T u.1))) B P A n PR ST li w WK so sp (vp_updL CT 4 (CT 4 + lZ ((min u.2 (C u.1 - T u.1) * V u.1 : Nat) : Int))) SC TA) ++ [(qo, .inl (cJ, 1, .inr (.inl (vp_updL O 0 ((nI (u.2 - min u.2 (C u.1 - T u.1))).toInt64)))))])) H := hP
    have hD : va_D (lA s) ((wM r cI cZ cJ v1 k V C A v2 B P OR n PR ST li w WK so sp v3 FW) ++ ((wX q cI cZ cJ k V C (un T u.1 (T u.1 + min u.2 (C u.1 - T u.1))) B P A n PR ST li w WK so sp (vp_updL CT 4 (CT 4 + lZ ((min u.2 (C u.1 - T u.1) * V u.1 : Nat) : Int))) SC TA) ++ [(qo, .inl (cJ, 1, .inr (.inl (vp_updL O 0 ((nI (u.2 - min u.2 (C u.1 - T u.1))).toInt64)))))])) := hD
    obtain ⟨e0, e1, f0, f1⟩ := q_fill_0 hI.hk8 hp hq
    have e0 := e0.symm
    subst e0
    have e1 := e1.symm
    subst e1
    have f0 := f0.symm
    subst f0
    have f1 := f1.symm
    subst f1
    have hI2 := iv_fill (j := u.2) hI hp.1
    refine lv_istore (lv' := [(6, .int (nI (u.2 - min u.2 (C u.1 - T u.1)))), (5, .int (nI 0)), (4, .int (nI (4 * jj))), (3, .ref qo), (2, .ref (r 0)), (1, .ref (q 0)), (0, .ref b)]) hx hb dL_law_255 hl (by decide) rfl (fun ls hl => ?_)
    refine lv_aload_n hx hb dL_law_257 rfl (lv_at hl 4 rfl) ?_
    refine k3_i (mc := 0) (ms := 0) (wa := []) (wc := (wM r cI cZ cJ 0 k V C A (un T u.1 (T u.1 + min u.2 (C u.1 - T u.1))) B P OR n PR ST li w WK so sp (vp_updL CT 4 (CT 4 + lZ ((min u.2 (C u.1 - T u.1) * V u.1 : Nat) : Int))) FW)) (wb := ((wX q cI cZ cJ k V C (un T u.1 (T u.1 + min u.2 (C u.1 - T u.1))) B P A n PR ST li w WK so sp (vp_updL CT 4 (CT 4 + lZ ((min u.2 (C u.1 - T u.1) * V u.1 : Nat) : Int))) SC TA) ++ [(qo, .inl (cJ, 1, .inr (.inl (vp_updL O 0 ((nI (u.2 - min u.2 (C u.1 - T u.1))).toInt64)))))])) (va_runV (As := []) (rest := []) ⟨hx, hb, hml, hown, hts⟩ (c_X1_thrown l hst D r cI cZ cJ 0 k V C A (un T u.1 (T u.1 + min u.2 (C u.1 - T u.1))) B P OR n PR ST li w WK so sp (vp_updL CT 4 (CT 4 + lZ ((min u.2 (C u.1 - T u.1) * V u.1 : Nat) : Int))) FW H.size  ) (cwV 0 hts gL_law_X1_thrown rfl rfl rfl hd_X1_thrown ⟨(Nat.le_of_ble_eq_true rfl), (Nat.le_of_ble_eq_true rfl)⟩) (pre_V3 (wa := []) (wc := (wM r cI cZ cJ 0 k V C A (un T u.1 (T u.1 + min u.2 (C u.1 - T u.1))) B P OR n PR ST li w WK so sp (vp_updL CT 4 (CT 4 + lZ ((min u.2 (C u.1 - T u.1) * V u.1 : Nat) : Int))) FW)) (wb := ((wX q cI cZ cJ k V C (un T u.1 (T u.1 + min u.2 (C u.1 - T u.1))) B P A n PR ST li w WK so sp (vp_updL CT 4 (CT 4 + lZ ((min u.2 (C u.1 - T u.1) * V u.1 : Nat) : Int))) SC TA) ++ [(qo, .inl (cJ, 1, .inr (.inl (vp_updL O 0 ((nI (u.2 - min u.2 (C u.1 - T u.1))).toInt64)))))])) hP hK hD hS hA hZ hg 0 (ci := 1) rfl rfl) rfl rfl hl.1 rfl (lv_room (Nat.le_of_ble_eq_true rfl)) dL_law_258 ⟨(show (((27 + 8 * jj) + 2) + 0) + 0 ≤ 601024 by omega), (show (((20244 + 64 * jj) + 12) + 0) + 0 ≤ 7293034 by omega)⟩) hP hD hS hA (fun rr u2 H locs hq hP hD hS => ?_)
    replace hq : rr = nI 0 := hq
    subst hq
    have hP : va_P D vwCl ((wM r cI cZ cJ 0 k V C A (un T u.1 (T u.1 + min u.2 (C u.1 - T u.1))) B P OR n PR ST li w WK so sp (vp_updL CT 4 (CT 4 + lZ ((min u.2 (C u.1 - T u.1) * V u.1 : Nat) : Int))) FW) ++ ((wX q cI cZ cJ k V C (un T u.1 (T u.1 + min u.2 (C u.1 - T u.1))) B P A n PR ST li w WK so sp (vp_updL CT 4 (CT 4 + lZ ((min u.2 (C u.1 - T u.1) * V u.1 : Nat) : Int))) SC TA) ++ [(qo, .inl (cJ, 1, .inr (.inl (vp_updL O 0 ((nI (u.2 - min u.2 (C u.1 - T u.1))).toInt64)))))])) H := hP
    have hD : va_D (lA s) ((wM r cI cZ cJ 0 k V C A (un T u.1 (T u.1 + min u.2 (C u.1 - T u.1))) B P OR n PR ST li w WK so sp (vp_updL CT 4 (CT 4 + lZ ((min u.2 (C u.1 - T u.1) * V u.1 : Nat) : Int))) FW) ++ ((wX q cI cZ cJ k V C (un T u.1 (T u.1 + min u.2 (C u.1 - T u.1))) B P A n PR ST li w WK so sp (vp_updL CT 4 (CT 4 + lZ ((min u.2 (C u.1 - T u.1) * V u.1 : Nat) : Int))) SC TA) ++ [(qo, .inl (cJ, 1, .inr (.inl (vp_updL O 0 ((nI (u.2 - min u.2 (C u.1 - T u.1))).toInt64)))))])) := hD
    refine lv_iload hx hb dL_law_261 (lv_at hl 1 rfl) ?_
    refine lv_icmp_eq (tgt := 268) hx hb dL_law_263 (by decide) (fun _ => ?_) (fun h => absurd rfl h)
    refine lv_iload hx hb dL_law_268 (lv_at hl 1 rfl) ?_
    refine n_if_ne (tgt := 285) hx hb (by decide) dL_law_270 (by decide) (fun c270 => ?_) (fun c270 => ?_)
    · exact absurd c270 (by decide)
    · refine lv_aload_n hx hb dL_law_273 rfl (lv_at hl 3 rfl) ?_
      refine lv_iconst (v := nI 0) hx hb dL_law_274 (ic_0) ?_
      refine n_lald hx hb hK hP 26 2 rfl rfl (by decide) (by decide) dL_law_275 ?_
      refine n_topl (show (vp_updL O 0 ((nI (u.2 - min u.2 (C u.1 - T u.1))).toInt64)) 0 = (nI (u.2 - min u.2 (C u.1 - T u.1))).toInt64 from updL_s) ?_
      refine lv_iload hx hb dL_law_276 (lv_at hl 0 rfl) ?_
      refine lv_i2l hx hb dL_law_278 rfl ?_
      refine n_lcmp_eq (tgt := 285) hx hb dL_law_279 dL_law_280 (by decide) (fun _ => ?_) (fun h => absurd rfl h)
      refine lv_goto (tgt := 1433) hx hb dL_law_285 (by decide) ?_
      refine W.widen (k := 27 + 8 * (jj + 1)) (n := 20244 + 64 * (jj + 1)) (by omega) (by omega) ?_
      exact hN 0 k V C (un T u.1 (T u.1 + min u.2 (C u.1 - T u.1))) B P A OR n PR ST li w WK so sp (vp_updL CT 4 (CT 4 + lZ ((min u.2 (C u.1 - T u.1) * V u.1 : Nat) : Int))) SC TA FW (vp_updL O 0 ((nI (u.2 - min u.2 (C u.1 - T u.1))).toInt64)) _ _ hI2 hP hD hS ls (lv_sub hl [2, 3, 4, 5, 6] rfl)
  · replace hp : rr = nI kk ∧ ((kk = 1 ∧ (¬ rg (xs ((4 * jj) + 1)) 0 k)) ∨ (kk = 2 ∧ (rg (xs ((4 * jj) + 1)) 0 k ∧ ¬ rg (xs ((4 * jj) + 2)) 0 61))) := hp
    obtain ⟨rfl, hp⟩ := hp
    have hP : va_P D vwCl ((wM r cI cZ cJ th k V C A T B P OR n PR ST li w WK so sp CT FW) ++ ((wX q cI cZ cJ k V C T B P A n PR ST li w WK so sp CT SC TA) ++ [(qo, .inl (cJ, 1, .inr (.inl O)))])) H := hP
    have hD : va_D (lA s) ((wM r cI cZ cJ th k V C A T B P OR n PR ST li w WK so sp CT FW) ++ ((wX q cI cZ cJ k V C T B P A n PR ST li w WK so sp CT SC TA) ++ [(qo, .inl (cJ, 1, .inr (.inl O)))])) := hD
    rcases hp with ⟨rfl, hp⟩ | ⟨rfl, hp⟩
    · refine lv_istore (lv' := [(5, .int (nI 1)), (4, .int (nI (4 * jj))), (3, .ref qo), (2, .ref (r 0)), (1, .ref (q 0)), (0, .ref b)]) hx hb dL_law_237 hl (by decide) rfl (fun ls hl => ?_)
      refine lv_aload_n hx hb dL_law_239 rfl (lv_at hl 3 rfl) ?_
      refine lv_aload_n hx hb dL_law_240 rfl (lv_at hl 5 rfl) ?_
      refine lv_iload hx hb dL_law_241 (lv_at hl 1 rfl) ?_
      refine lv_iconst (v := nI 1) hx hb dL_law_243 (ic_1) ?_
      refine n_iadd hx hb dL_law_244 ?_
      refine n_sld hx hb hX hbl hbA hS (by omega) (by omega) dL_law_245 ?_
      refine lv_aload_n hx hb dL_law_246 rfl (lv_at hl 5 rfl) ?_
      refine lv_iload hx hb dL_law_247 (lv_at hl 1 rfl) ?_
      refine lv_iconst (v := nI 2) hx hb dL_law_249 (ic_2) ?_
      refine n_iadd hx hb dL_law_250 ?_
      refine n_sld hx hb hX hbl hbA hS (by omega) (by omega) dL_law_251 ?_
      refine k3_i (mc := 0) (ms := 0) (wa := []) (wc := (wM r cI cZ cJ th k V C A T B P OR n PR ST li w WK so sp CT FW)) (wb := ((wX q cI cZ cJ k V C T B P A n PR ST li w WK so sp CT SC TA) ++ [(qo, .inl (cJ, 1, .inr (.inl O)))])) (va_runV (As := [.int (xs ((4 * jj) + 1)), .int (xs ((4 * jj) + 2))]) (rest := []) ⟨hx, hb, hml, hown, hts⟩ (c_X1_fill l hst D r cI cZ cJ th k V C A T B P OR n PR ST li w WK so sp CT FW H.size (xs ((4 * jj) + 1)) (xs ((4 * jj) + 2)) hI.hk8 hI.hV hI.hC) (cwV 2 hts gL_law_X1_fill rfl rfl rfl hd_X1_fill ⟨(Nat.le_of_ble_eq_true rfl), (Nat.le_of_ble_eq_true rfl)⟩) (pre_V3 (wa := []) (wc := (wM r cI cZ cJ th k V C A T B P OR n PR ST li w WK so sp CT FW)) (wb := ((wX q cI cZ cJ k V C T B P A n PR ST li w WK so sp CT SC TA) ++ [(qo, .inl (cJ, 1, .inr (.inl O)))])) hP hK hD hS hA hZ hg 0 (ci := 1) rfl rfl) rfl rfl hl.1 rfl (lv_room (Nat.le_of_ble_eq_true rfl)) dL_law_252 ⟨(show ((27 + 8 * jj) + 2) + 0 ≤ 601024 by omega), (show ((20244 + 64 * jj) + 12) + 0 ≤ 7293034 by omega)⟩) hP hD hS hA (fun rr u2 H locs hq hP hD hS => ?_)
      obtain ⟨v0, v1, v2, v3⟩ := u2
      replace hq : rr = nI v0 ∧ ((v1 = 0 ∧ ∃ i j, i < k ∧ j < 61 ∧ (xs ((4 * jj) + 1)) = nI i ∧ (xs ((4 * jj) + 2)) = nI j ∧ v0 = j - min j (C i - T i) ∧ v2 = un T i (T i + min j (C i - T i)) ∧ v3 = vp_updL CT 4 (CT 4 + lZ ((min j (C i - T i) * V i : Nat) : Int))) ∨ (v1 = 1 ∧ ¬ rg (xs ((4 * jj) + 1)) 0 k ∧ v2 = T ∧ v3 = CT) ∨ (v1 = 2 ∧ rg (xs ((4 * jj) + 1)) 0 k ∧ ¬ rg (xs ((4 * jj) + 2)) 0 61 ∧ v2 = T ∧ v3 = CT)) := hq
      obtain ⟨hr9, hq⟩ := hq
      replace hr9 := hr9.symm
      subst hr9
      have hP : va_P D vwCl ((wM r cI cZ cJ v1 k V C A v2 B P OR n PR ST li w WK so sp v3 FW) ++ ((wX q cI cZ cJ k V C T B P A n PR ST li w WK so sp CT SC TA) ++ [(qo, .inl (cJ, 1, .inr (.inl O)))])) H := hP
      have hD : va_D (lA s) ((wM r cI cZ cJ v1 k V C A v2 B P OR n PR ST li w WK so sp v3 FW) ++ ((wX q cI cZ cJ k V C T B P A n PR ST li w WK so sp CT SC TA) ++ [(qo, .inl (cJ, 1, .inr (.inl O)))])) := hD
      obtain ⟨e0, f0, f1⟩ := q_fill_1 hI.hk8 hp hq
      have e0 := e0.symm
      subst e0
      have f0 := f0.symm
      subst f0
      have f1 := f1.symm
      subst f1
      refine lv_istore (lv' := [(6, .int (nI v0)), (5, .int (nI 1)), (4, .int (nI (4 * jj))), (3, .ref qo), (2, .ref (r 0)), (1, .ref (q 0)), (0, .ref b)]) hx hb dL_law_255 hl (by decide) rfl (fun ls hl => ?_)
      refine lv_aload_n hx hb dL_law_257 rfl (lv_at hl 4 rfl) ?_
      refine k3_i (mc := 0) (ms := 0) (wa := []) (wc := (wM r cI cZ cJ 1 k V C A T B P OR n PR ST li w WK so sp CT FW)) (wb := ((wX q cI cZ cJ k V C T B P A n PR ST li w WK so sp CT SC TA) ++ [(qo, .inl (cJ, 1, .inr (.inl O)))])) (va_runV (As := []) (rest := []) ⟨hx, hb, hml, hown, hts⟩ (c_X1_thrown l hst D r cI cZ cJ 1 k V C A T B P OR n PR ST li w WK so sp CT FW H.size  ) (cwV 0 hts gL_law_X1_thrown rfl rfl rfl hd_X1_thrown ⟨(Nat.le_of_ble_eq_true rfl), (Nat.le_of_ble_eq_true rfl)⟩) (pre_V3 (wa := []) (wc := (wM r cI cZ cJ 1 k V C A T B P OR n PR ST li w WK so sp CT FW)) (wb := ((wX q cI cZ cJ k V C T B P A n PR ST li w WK so sp CT SC TA) ++ [(qo, .inl (cJ, 1, .inr (.inl O)))])) hP hK hD hS hA hZ hg 0 (ci := 1) rfl rfl) rfl rfl hl.1 rfl (lv_room (Nat.le_of_ble_eq_true rfl)) dL_law_258 ⟨(show (((27 + 8 * jj) + 2) + 0) + 0 ≤ 601024 by omega), (show (((20244 + 64 * jj) + 12) + 0) + 0 ≤ 7293034 by omega)⟩) hP hD hS hA (fun rr u2 H locs hq hP hD hS => ?_)
      replace hq : rr = nI 1 := hq
      subst hq
      have hP : va_P D vwCl ((wM r cI cZ cJ 1 k V C A T B P OR n PR ST li w WK so sp CT FW) ++ ((wX q cI cZ cJ k V C T B P A n PR ST li w WK so sp CT SC TA) ++ [(qo, .inl (cJ, 1, .inr (.inl O)))])) H := hP
      have hD : va_D (lA s) ((wM r cI cZ cJ 1 k V C A T B P OR n PR ST li w WK so sp CT FW) ++ ((wX q cI cZ cJ k V C T B P A n PR ST li w WK so sp CT SC TA) ++ [(qo, .inl (cJ, 1, .inr (.inl O)))])) := hD
      refine lv_iload hx hb dL_law_261 (lv_at hl 1 rfl) ?_
      refine lv_icmp_eq (tgt := 268) hx hb dL_law_263 (by decide) (fun _ => ?_) (fun h => absurd rfl h)
      refine lv_iload hx hb dL_law_268 (lv_at hl 1 rfl) ?_
      refine n_if_ne (tgt := 285) hx hb (by decide) dL_law_270 (by decide) (fun c270 => ?_) (fun c270 => ?_)
      · refine lv_goto (tgt := 1433) hx hb dL_law_285 (by decide) ?_
        refine W.widen (k := 27 + 8 * (jj + 1)) (n := 20244 + 64 * (jj + 1)) (by omega) (by omega) ?_
        exact hN 1 k V C T B P A OR n PR ST li w WK so sp CT SC TA FW O _ _ hI hP hD hS ls (lv_sub hl [2, 3, 4, 5, 6] rfl)
      · exact absurd c270 (by decide)
    · refine lv_istore (lv' := [(5, .int (nI 2)), (4, .int (nI (4 * jj))), (3, .ref qo), (2, .ref (r 0)), (1, .ref (q 0)), (0, .ref b)]) hx hb dL_law_237 hl (by decide) rfl (fun ls hl => ?_)
      refine lv_aload_n hx hb dL_law_239 rfl (lv_at hl 3 rfl) ?_
      refine lv_aload_n hx hb dL_law_240 rfl (lv_at hl 5 rfl) ?_
      refine lv_iload hx hb dL_law_241 (lv_at hl 1 rfl) ?_
      refine lv_iconst (v := nI 1) hx hb dL_law_243 (ic_1) ?_
      refine n_iadd hx hb dL_law_244 ?_
      refine n_sld hx hb hX hbl hbA hS (by omega) (by omega) dL_law_245 ?_
      refine lv_aload_n hx hb dL_law_246 rfl (lv_at hl 5 rfl) ?_
      refine lv_iload hx hb dL_law_247 (lv_at hl 1 rfl) ?_
      refine lv_iconst (v := nI 2) hx hb dL_law_249 (ic_2) ?_
      refine n_iadd hx hb dL_law_250 ?_
      refine n_sld hx hb hX hbl hbA hS (by omega) (by omega) dL_law_251 ?_
      refine k3_i (mc := 0) (ms := 0) (wa := []) (wc := (wM r cI cZ cJ th k V C A T B P OR n PR ST li w WK so sp CT FW)) (wb := ((wX q cI cZ cJ k V C T B P A n PR ST li w WK so sp CT SC TA) ++ [(qo, .inl (cJ, 1, .inr (.inl O)))])) (va_runV (As := [.int (xs ((4 * jj) + 1)), .int (xs ((4 * jj) + 2))]) (rest := []) ⟨hx, hb, hml, hown, hts⟩ (c_X1_fill l hst D r cI cZ cJ th k V C A T B P OR n PR ST li w WK so sp CT FW H.size (xs ((4 * jj) + 1)) (xs ((4 * jj) + 2)) hI.hk8 hI.hV hI.hC) (cwV 2 hts gL_law_X1_fill rfl rfl rfl hd_X1_fill ⟨(Nat.le_of_ble_eq_true rfl), (Nat.le_of_ble_eq_true rfl)⟩) (pre_V3 (wa := []) (wc := (wM r cI cZ cJ th k V C A T B P OR n PR ST li w WK so sp CT FW)) (wb := ((wX q cI cZ cJ k V C T B P A n PR ST li w WK so sp CT SC TA) ++ [(qo, .inl (cJ, 1, .inr (.inl O)))])) hP hK hD hS hA hZ hg 0 (ci := 1) rfl rfl) rfl rfl hl.1 rfl (lv_room (Nat.le_of_ble_eq_true rfl)) dL_law_252 ⟨(show ((27 + 8 * jj) + 2) + 0 ≤ 601024 by omega), (show ((20244 + 64 * jj) + 12) + 0 ≤ 7293034 by omega)⟩) hP hD hS hA (fun rr u2 H locs hq hP hD hS => ?_)
      obtain ⟨v0, v1, v2, v3⟩ := u2
      replace hq : rr = nI v0 ∧ ((v1 = 0 ∧ ∃ i j, i < k ∧ j < 61 ∧ (xs ((4 * jj) + 1)) = nI i ∧ (xs ((4 * jj) + 2)) = nI j ∧ v0 = j - min j (C i - T i) ∧ v2 = un T i (T i + min j (C i - T i)) ∧ v3 = vp_updL CT 4 (CT 4 + lZ ((min j (C i - T i) * V i : Nat) : Int))) ∨ (v1 = 1 ∧ ¬ rg (xs ((4 * jj) + 1)) 0 k ∧ v2 = T ∧ v3 = CT) ∨ (v1 = 2 ∧ rg (xs ((4 * jj) + 1)) 0 k ∧ ¬ rg (xs ((4 * jj) + 2)) 0 61 ∧ v2 = T ∧ v3 = CT)) := hq
      obtain ⟨hr9, hq⟩ := hq
      replace hr9 := hr9.symm
      subst hr9
      have hP : va_P D vwCl ((wM r cI cZ cJ v1 k V C A v2 B P OR n PR ST li w WK so sp v3 FW) ++ ((wX q cI cZ cJ k V C T B P A n PR ST li w WK so sp CT SC TA) ++ [(qo, .inl (cJ, 1, .inr (.inl O)))])) H := hP
      have hD : va_D (lA s) ((wM r cI cZ cJ v1 k V C A v2 B P OR n PR ST li w WK so sp v3 FW) ++ ((wX q cI cZ cJ k V C T B P A n PR ST li w WK so sp CT SC TA) ++ [(qo, .inl (cJ, 1, .inr (.inl O)))])) := hD
      obtain ⟨e0, f0, f1⟩ := q_fill_2 hI.hk8 hp hq
      have e0 := e0.symm
      subst e0
      have f0 := f0.symm
      subst f0
      have f1 := f1.symm
      subst f1
      refine lv_istore (lv' := [(6, .int (nI v0)), (5, .int (nI 2)), (4, .int (nI (4 * jj))), (3, .ref qo), (2, .ref (r 0)), (1, .ref (q 0)), (0, .ref b)]) hx hb dL_law_255 hl (by decide) rfl (fun ls hl => ?_)
      refine lv_aload_n hx hb dL_law_257 rfl (lv_at hl 4 rfl) ?_
      refine k3_i (mc := 0) (ms := 0) (wa := []) (wc := (wM r cI cZ cJ 2 k V C A T B P OR n PR ST li w WK so sp CT FW)) (wb := ((wX q cI cZ cJ k V C T B P A n PR ST li w WK so sp CT SC TA) ++ [(qo, .inl (cJ, 1, .inr (.inl O)))])) (va_runV (As := []) (rest := []) ⟨hx, hb, hml, hown, hts⟩ (c_X1_thrown l hst D r cI cZ cJ 2 k V C A T B P OR n PR ST li w WK so sp CT FW H.size  ) (cwV 0 hts gL_law_X1_thrown rfl rfl rfl hd_X1_thrown ⟨(Nat.le_of_ble_eq_true rfl), (Nat.le_of_ble_eq_true rfl)⟩) (pre_V3 (wa := []) (wc := (wM r cI cZ cJ 2 k V C A T B P OR n PR ST li w WK so sp CT FW)) (wb := ((wX q cI cZ cJ k V C T B P A n PR ST li w WK so sp CT SC TA) ++ [(qo, .inl (cJ, 1, .inr (.inl O)))])) hP hK hD hS hA hZ hg 0 (ci := 1) rfl rfl) rfl rfl hl.1 rfl (lv_room (Nat.le_of_ble_eq_true rfl)) dL_law_258 ⟨(show (((27 + 8 * jj) + 2) + 0) + 0 ≤ 601024 by omega), (show (((20244 + 64 * jj) + 12) + 0) + 0 ≤ 7293034 by omega)⟩) hP hD hS hA (fun rr u2 H locs hq hP hD hS => ?_)
      replace hq : rr = nI 2 := hq
      subst hq
      have hP : va_P D vwCl ((wM r cI cZ cJ 2 k V C A T B P OR n PR ST li w WK so sp CT FW) ++ ((wX q cI cZ cJ k V C T B P A n PR ST li w WK so sp CT SC TA) ++ [(qo, .inl (cJ, 1, .inr (.inl O)))])) H := hP
      have hD : va_D (lA s) ((wM r cI cZ cJ 2 k V C A T B P OR n PR ST li w WK so sp CT FW) ++ ((wX q cI cZ cJ k V C T B P A n PR ST li w WK so sp CT SC TA) ++ [(qo, .inl (cJ, 1, .inr (.inl O)))])) := hD
      refine lv_iload hx hb dL_law_261 (lv_at hl 1 rfl) ?_
      refine lv_icmp_eq (tgt := 268) hx hb dL_law_263 (by decide) (fun _ => ?_) (fun h => absurd rfl h)
      refine lv_iload hx hb dL_law_268 (lv_at hl 1 rfl) ?_
      refine n_if_ne (tgt := 285) hx hb (by decide) dL_law_270 (by decide) (fun c270 => ?_) (fun c270 => ?_)
      · refine lv_goto (tgt := 1433) hx hb dL_law_285 (by decide) ?_
        refine W.widen (k := 27 + 8 * (jj + 1)) (n := 20244 + 64 * (jj + 1)) (by omega) (by omega) ?_
        exact hN 2 k V C T B P A OR n PR ST li w WK so sp CT SC TA FW O _ _ hI hP hD hS ls (lv_sub hl [2, 3, 4, 5, 6] rfl)
      · exact absurd c270 (by decide)

set_option maxHeartbeats 8000000 in
set_option maxRecDepth 100000 in
theorem lw_take (hst : l.stackTraces = false) (hc : Lc p s m meth c b L xs D cI cZ cJ) {r q : Nat → Nat} {qo jj : Nat} (hj : 4 * jj + 4 ≤ L) {th : Nat} {k : Nat} {V : Nat → Nat} {C : Nat → Nat} {T : Nat → Nat} {B : Nat → Nat} {P : Nat → Nat} {A : Nat → Nat} {OR : Nat → Nat} {n : Nat} {PR : Nat → Nat} {ST : Nat → Nat} {li : Nat} {w : Nat} {WK : Nat → Nat} {so : Nat} {sp : Nat} {CT : Nat → Int64} {SC : Nat → Int} {TA : Nat → Nat} {FW : Nat → Nat} {O : Nat → Int64} {H : Heap} {locs : List Loc} (hI : IV k V C T A OR n PR ST li w WK so sp) (hP : va_P D vwCl (wL r q qo cI cZ cJ th k V C T B P A OR n PR ST li w WK so sp CT SC TA FW O) H) (hD : va_D (lA s) (wL r q qo cI cZ cJ th k V C T B P A OR n PR ST li w WK so sp CT SC TA FW O)) (hS : va_S (lA s) s.heap H locs) {ls : Array Slot} (hl : lv_has ls 9 [(4, .int (nI (4 * jj))), (3, .ref qo), (2, .ref (r 0)), (1, .ref (q 0)), (0, .ref b)]) (hN : Nx p l e s m below meth c b D r q qo cI cZ cJ Q jj) : W p l e room_1 s m #[Value.ref b] below meth c H locs (27 + 8 * jj) (20244 + 64 * jj) Q (F0 m 288 ls []) := by
  obtain ⟨hx, hb, hr, hml, hown, hts, hX, hbl, hlocks, hK, hZ, hg, hn, hL⟩ := hc
  have hA : ∀ q9 : Nat, s.heap.size ≤ q9 → lA s q9 := fun _ h => h
  have hbA : ¬ lA s b := Nat.not_le.mpr hbl
  have hP : va_P D vwCl ((wM r cI cZ cJ th k V C A T B P OR n PR ST li w WK so sp CT FW) ++ ((wX q cI cZ cJ k V C T B P A n PR ST li w WK so sp CT SC TA) ++ [(qo, .inl (cJ, 1, .inr (.inl O)))])) H := hP
  have hD : va_D (lA s) ((wM r cI cZ cJ th k V C A T B P OR n PR ST li w WK so sp CT FW) ++ ((wX q cI cZ cJ k V C T B P A n PR ST li w WK so sp CT SC TA) ++ [(qo, .inl (cJ, 1, .inr (.inl O)))])) := hD
  refine lv_aload_n hx hb dL_law_288 rfl (lv_at hl 3 rfl) ?_
  refine lv_aload_n hx hb dL_law_289 rfl (lv_at hl 4 rfl) ?_
  refine lv_iload hx hb dL_law_290 (lv_at hl 0 rfl) ?_
  refine lv_iconst (v := nI 1) hx hb dL_law_292 (ic_1) ?_
  refine n_iadd hx hb dL_law_293 ?_
  refine n_sld hx hb hX hbl hbA hS (by omega) (by omega) dL_law_294 ?_
  refine lv_aload_n hx hb dL_law_295 rfl (lv_at hl 4 rfl) ?_
  refine lv_iload hx hb dL_law_296 (lv_at hl 0 rfl) ?_
  refine lv_iconst (v := nI 2) hx hb dL_law_298 (ic_2) ?_
  refine n_iadd hx hb dL_law_299 ?_
  refine n_sld hx hb hX hbl hbA hS (by omega) (by omega) dL_law_300 ?_
  refine lv_aload_n hx hb dL_law_301 rfl (lv_at hl 1 rfl) ?_
  refine k3_i (mc := 2) (ms := 12) (wa := (wM r cI cZ cJ th k V C A T B P OR n PR ST li w WK so sp CT FW)) (wc := ((wX q cI cZ cJ k V C T B P A n PR ST li w WK so sp CT SC TA) ++ [(qo, .inl (cJ, 1, .inr (.inl O)))])) (wb := []) (vx_runSW (As := [.ref (q 0), .int (xs ((4 * jj) + 1)), .int (xs ((4 * jj) + 2)), .ref qo]) (rest := []) ⟨hx, hb, hml, hown, hts⟩ (c_L_take l hst D q qo cI cZ cJ k V C T B P A n PR ST li w WK so sp CT SC TA O H.size (xs ((4 * jj) + 1)) (xs ((4 * jj) + 2)) hI.hk8 hI.hV hI.hC) (vx_cwSW 4 hts gL_law_L_take rfl rfl rfl hd_L_take.2 ⟨(Nat.le_of_ble_eq_true rfl), (Nat.le_of_ble_eq_true rfl)⟩) (pre_N (wa := (wM r cI cZ cJ th k V C A T B P OR n PR ST li w WK so sp CT FW)) (wc := ((wX q cI cZ cJ k V C T B P A n PR ST li w WK so sp CT SC TA) ++ [(qo, .inl (cJ, 1, .inr (.inl O)))])) (wb := []) hP hK hD hS hA hZ hg hn) rfl rfl hl.1 rfl (lv_room (Nat.le_of_ble_eq_true rfl)) dL_law_302 ⟨(show (27 + 8 * jj) + 2 ≤ 601024 by omega), (show (20244 + 64 * jj) + 12 ≤ 7293034 by omega)⟩) hP hD hS hA (fun rr u H locs hp hP hD hS => ?_)
  rcases u with u | kk
  · replace hp : rr = nI 0 ∧ (u.1 < k ∧ u.2 < 61 ∧ (xs ((4 * jj) + 1)) = nI u.1 ∧ (xs ((4 * jj) + 2)) = nI u.2) := hp
    obtain ⟨rfl, hp⟩ := hp
    have hP : va_P D vwCl ((wM r cI cZ cJ th k V C A T B P OR n PR ST li w WK so sp CT FW) ++ ((wX q cI cZ cJ k V C (un T u.1 (T u.1 - min u.2 (T u.1))) B P A n PR ST li w WK so sp (vp_updL CT 5 (CT 5 + lZ ((min u.2 (T u.1) * V u.1 : Nat) : Int))) SC TA) ++ [(qo, .inl (cJ, 1, .inr (.inl (vp_updL O 0 ((nI (min u.2 (T u.1))).toInt64)))))])) H := hP
    have hD : va_D (lA s) ((wM r cI cZ cJ th k V C A T B P OR n PR ST li w WK so sp CT FW) ++ ((wX q cI cZ cJ k V C (un T u.1 (T u.1 - min u.2 (T u.1))) B P A n PR ST li w WK so sp (vp_updL CT 5 (CT 5 + lZ ((min u.2 (T u.1) * V u.1 : Nat) : Int))) SC TA) ++ [(qo, .inl (cJ, 1, .inr (.inl (vp_updL O 0 ((nI (min u.2 (T u.1))).toInt64)))))])) := hD
    refine lv_istore (lv' := [(5, .int (nI 0)), (4, .int (nI (4 * jj))), (3, .ref qo), (2, .ref (r 0)), (1, .ref (q 0)), (0, .ref b)]) hx hb dL_law_305 hl (by decide) rfl (fun ls hl => ?_)
    refine lv_aload_n hx hb dL_law_307 rfl (lv_at hl 3 rfl) ?_
    refine lv_aload_n hx hb dL_law_308 rfl (lv_at hl 5 rfl) ?_
    refine lv_iload hx hb dL_law_309 (lv_at hl 1 rfl) ?_
    refine lv_iconst (v := nI 1) hx hb dL_law_311 (ic_1) ?_
    refine n_iadd hx hb dL_law_312 ?_
    refine n_sld hx hb hX hbl hbA hS (by omega) (by omega) dL_law_313 ?_
    refine lv_aload_n hx hb dL_law_314 rfl (lv_at hl 5 rfl) ?_
    refine lv_iload hx hb dL_law_315 (lv_at hl 1 rfl) ?_
    refine lv_iconst (v := nI 2) hx hb dL_law_317 (ic_2) ?_
    refine n_iadd hx hb dL_law_318 ?_
    refine n_sld hx hb hX hbl hbA hS (by omega) (by omega) dL_law_319 ?_
    refine k3_i (mc := 0) (ms := 0) (wa := []) (wc := (wM r cI cZ cJ th k V C A T B P OR n PR ST li w WK so sp CT FW)) (wb := ((wX q cI cZ cJ k V C (un T u.1 (T u.1 - min u.2 (T u.1))) B P A n PR ST li w WK so sp (vp_updL CT 5 (CT 5 + lZ ((min u.2 (T u.1) * V u.1 : Nat) : Int))) SC TA) ++ [(qo, .inl (cJ, 1, .inr (.inl (vp_updL O 0 ((nI (min u.2 (T u.1))).toInt64)))))])) (va_runV (As := [.int (xs ((4 * jj) + 1)), .int (xs ((4 * jj) + 2))]) (rest := []) ⟨hx, hb, hml, hown, hts⟩ (c_X1_take l hst D r cI cZ cJ th k V C A T B P OR n PR ST li w WK so sp CT FW H.size (xs ((4 * jj) + 1)) (xs ((4 * jj) + 2)) hI.hk8 hI.hV hI.hC) (cwV 2 hts gL_law_X1_take rfl rfl rfl hd_X1_take ⟨(Nat.le_of_ble_eq_true rfl), (Nat.le_of_ble_eq_true rfl)⟩) (pre_V3 (wa := []) (wc := (wM r cI cZ cJ th k V C A T B P OR n PR ST li w WK so sp CT FW)) (wb := ((wX q cI cZ cJ k V C (un T u.1 (T u.1 - min u.2 (T u.1))) B P A n PR ST li w WK so sp (vp_updL CT 5 (CT 5 + lZ ((min u.2 (T u.1) * V u.1 : Nat) : Int))) SC TA) ++ [(qo, .inl (cJ, 1, .inr (.inl (vp_updL O 0 ((nI (min u.2 (T u.1))).toInt64)))))])) hP hK hD hS hA hZ hg 0 (ci := 1) rfl rfl) rfl rfl hl.1 rfl (lv_room (Nat.le_of_ble_eq_true rfl)) dL_law_320 ⟨(show ((27 + 8 * jj) + 2) + 0 ≤ 601024 by omega), (show ((20244 + 64 * jj) + 12) + 0 ≤ 7293034 by omega)⟩) hP hD hS hA (fun rr u2 H locs hq hP hD hS => ?_)
    obtain ⟨v0, v1, v2, v3⟩ := u2
    replace hq : rr = nI v0 ∧ ((v1 = 0 ∧ ∃ i j, i < k ∧ j < 61 ∧ (xs ((4 * jj) + 1)) = nI i ∧ (xs ((4 * jj) + 2)) = nI j ∧ v0 = min j (T i) ∧ v2 = un T i (T i - min j (T i)) ∧ v3 = vp_updL CT 5 (CT 5 + lZ ((min j (T i) * V i : Nat) : Int))) ∨ (v1 = 1 ∧ ¬ rg (xs ((4 * jj) + 1)) 0 k ∧ v2 = T ∧ v3 = CT) ∨ (v1 = 2 ∧ rg (xs ((4 * jj) + 1)) 0 k ∧ ¬ rg (xs ((4 * jj) + 2)) 0 61 ∧ v2 = T ∧ v3 = CT)) := hq
    obtain ⟨hr9, hq⟩ := hq
    replace hr9 := hr9.symm
    subst hr9
    have hP : va_P D vwCl ((wM r cI cZ cJ v1 k V C A v2 B P OR n PR ST li w WK so sp v3 FW) ++ ((wX q cI cZ cJ k V C (un T u.1 (T u.1 - min u.2 (T u.1))) B P A n PR ST li w WK so sp (vp_updL CT 5 (CT 5 + lZ ((min u.2 (T u.1) * V u.1 : Nat) : Int))) SC TA) ++ [(qo, .inl (cJ, 1, .inr (.inl (vp_updL O 0 ((nI (min u.2 (T u.1))).toInt64)))))])) H := hP
    have hD : va_D (lA s) ((wM r cI cZ cJ v1 k V C A v2 B P OR n PR ST li w WK so sp v3 FW) ++ ((wX q cI cZ cJ k V C (un T u.1 (T u.1 - min u.2 (T u.1))) B P A n PR ST li w WK so sp (vp_updL CT 5 (CT 5 + lZ ((min u.2 (T u.1) * V u.1 : Nat) : Int))) SC TA) ++ [(qo, .inl (cJ, 1, .inr (.inl (vp_updL O 0 ((nI (min u.2 (T u.1))).toInt64)))))])) := hD
    obtain ⟨e0, e1, f0, f1⟩ := q_take_0 hI.hk8 hp hq
    have e0 := e0.symm
    subst e0
    have e1 := e1.symm
    subst e1
    have f0 := f0.symm
    subst f0
    have f1 := f1.symm
    subst f1
    have hI2 := iv_take (j := u.2) hI hp.1
    refine lv_istore (lv' := [(6, .int (nI (min u.2 (T u.1)))), (5, .int (nI 0)), (4, .int (nI (4 * jj))), (3, .ref qo), (2, .ref (r 0)), (1, .ref (q 0)), (0, .ref b)]) hx hb dL_law_323 hl (by decide) rfl (fun ls hl => ?_)
    refine lv_aload_n hx hb dL_law_325 rfl (lv_at hl 4 rfl) ?_
    refine k3_i (mc := 0) (ms := 0) (wa := []) (wc := (wM r cI cZ cJ 0 k V C A (un T u.1 (T u.1 - min u.2 (T u.1))) B P OR n PR ST li w WK so sp (vp_updL CT 5 (CT 5 + lZ ((min u.2 (T u.1) * V u.1 : Nat) : Int))) FW)) (wb := ((wX q cI cZ cJ k V C (un T u.1 (T u.1 - min u.2 (T u.1))) B P A n PR ST li w WK so sp (vp_updL CT 5 (CT 5 + lZ ((min u.2 (T u.1) * V u.1 : Nat) : Int))) SC TA) ++ [(qo, .inl (cJ, 1, .inr (.inl (vp_updL O 0 ((nI (min u.2 (T u.1))).toInt64)))))])) (va_runV (As := []) (rest := []) ⟨hx, hb, hml, hown, hts⟩ (c_X1_thrown l hst D r cI cZ cJ 0 k V C A (un T u.1 (T u.1 - min u.2 (T u.1))) B P OR n PR ST li w WK so sp (vp_updL CT 5 (CT 5 + lZ ((min u.2 (T u.1) * V u.1 : Nat) : Int))) FW H.size  ) (cwV 0 hts gL_law_X1_thrown rfl rfl rfl hd_X1_thrown ⟨(Nat.le_of_ble_eq_true rfl), (Nat.le_of_ble_eq_true rfl)⟩) (pre_V3 (wa := []) (wc := (wM r cI cZ cJ 0 k V C A (un T u.1 (T u.1 - min u.2 (T u.1))) B P OR n PR ST li w WK so sp (vp_updL CT 5 (CT 5 + lZ ((min u.2 (T u.1) * V u.1 : Nat) : Int))) FW)) (wb := ((wX q cI cZ cJ k V C (un T u.1 (T u.1 - min u.2 (T u.1))) B P A n PR ST li w WK so sp (vp_updL CT 5 (CT 5 + lZ ((min u.2 (T u.1) * V u.1 : Nat) : Int))) SC TA) ++ [(qo, .inl (cJ, 1, .inr (.inl (vp_updL O 0 ((nI (min u.2 (T u.1))).toInt64)))))])) hP hK hD hS hA hZ hg 0 (ci := 1) rfl rfl) rfl rfl hl.1 rfl (lv_room (Nat.le_of_ble_eq_true rfl)) dL_law_326 ⟨(show (((27 + 8 * jj) + 2) + 0) + 0 ≤ 601024 by omega), (show (((20244 + 64 * jj) + 12) + 0) + 0 ≤ 7293034 by omega)⟩) hP hD hS hA (fun rr u2 H locs hq hP hD hS => ?_)
    replace hq : rr = nI 0 := hq
    subst hq
    have hP : va_P D vwCl ((wM r cI cZ cJ 0 k V C A (un T u.1 (T u.1 - min u.2 (T u.1))) B P OR n PR ST li w WK so sp (vp_updL CT 5 (CT 5 + lZ ((min u.2 (T u.1) * V u.1 : Nat) : Int))) FW) ++ ((wX q cI cZ cJ k V C (un T u.1 (T u.1 - min u.2 (T u.1))) B P A n PR ST li w WK so sp (vp_updL CT 5 (CT 5 + lZ ((min u.2 (T u.1) * V u.1 : Nat) : Int))) SC TA) ++ [(qo, .inl (cJ, 1, .inr (.inl (vp_updL O 0 ((nI (min u.2 (T u.1))).toInt64)))))])) H := hP
    have hD : va_D (lA s) ((wM r cI cZ cJ 0 k V C A (un T u.1 (T u.1 - min u.2 (T u.1))) B P OR n PR ST li w WK so sp (vp_updL CT 5 (CT 5 + lZ ((min u.2 (T u.1) * V u.1 : Nat) : Int))) FW) ++ ((wX q cI cZ cJ k V C (un T u.1 (T u.1 - min u.2 (T u.1))) B P A n PR ST li w WK so sp (vp_updL CT 5 (CT 5 + lZ ((min u.2 (T u.1) * V u.1 : Nat) : Int))) SC TA) ++ [(qo, .inl (cJ, 1, .inr (.inl (vp_updL O 0 ((nI (min u.2 (T u.1))).toInt64)))))])) := hD
    refine lv_iload hx hb dL_law_329 (lv_at hl 1 rfl) ?_
    refine lv_icmp_eq (tgt := 336) hx hb dL_law_331 (by decide) (fun _ => ?_) (fun h => absurd rfl h)
    refine lv_iload hx hb dL_law_336 (lv_at hl 1 rfl) ?_
    refine n_if_ne (tgt := 353) hx hb (by decide) dL_law_338 (by decide) (fun c338 => ?_) (fun c338 => ?_)
    · exact absurd c338 (by decide)
    · refine lv_aload_n hx hb dL_law_341 rfl (lv_at hl 3 rfl) ?_
      refine lv_iconst (v := nI 0) hx hb dL_law_342 (ic_0) ?_
      refine n_lald hx hb hK hP 26 2 rfl rfl (by decide) (by decide) dL_law_343 ?_
      refine n_topl (show (vp_updL O 0 ((nI (min u.2 (T u.1))).toInt64)) 0 = (nI (min u.2 (T u.1))).toInt64 from updL_s) ?_
      refine lv_iload hx hb dL_law_344 (lv_at hl 0 rfl) ?_
      refine lv_i2l hx hb dL_law_346 rfl ?_
      refine n_lcmp_eq (tgt := 353) hx hb dL_law_347 dL_law_348 (by decide) (fun _ => ?_) (fun h => absurd rfl h)
      refine lv_goto (tgt := 1433) hx hb dL_law_353 (by decide) ?_
      refine W.widen (k := 27 + 8 * (jj + 1)) (n := 20244 + 64 * (jj + 1)) (by omega) (by omega) ?_
      exact hN 0 k V C (un T u.1 (T u.1 - min u.2 (T u.1))) B P A OR n PR ST li w WK so sp (vp_updL CT 5 (CT 5 + lZ ((min u.2 (T u.1) * V u.1 : Nat) : Int))) SC TA FW (vp_updL O 0 ((nI (min u.2 (T u.1))).toInt64)) _ _ hI2 hP hD hS ls (lv_sub hl [2, 3, 4, 5, 6] rfl)
  · replace hp : rr = nI kk ∧ ((kk = 1 ∧ (¬ rg (xs ((4 * jj) + 1)) 0 k)) ∨ (kk = 2 ∧ (rg (xs ((4 * jj) + 1)) 0 k ∧ ¬ rg (xs ((4 * jj) + 2)) 0 61))) := hp
    obtain ⟨rfl, hp⟩ := hp
    have hP : va_P D vwCl ((wM r cI cZ cJ th k V C A T B P OR n PR ST li w WK so sp CT FW) ++ ((wX q cI cZ cJ k V C T B P A n PR ST li w WK so sp CT SC TA) ++ [(qo, .inl (cJ, 1, .inr (.inl O)))])) H := hP
    have hD : va_D (lA s) ((wM r cI cZ cJ th k V C A T B P OR n PR ST li w WK so sp CT FW) ++ ((wX q cI cZ cJ k V C T B P A n PR ST li w WK so sp CT SC TA) ++ [(qo, .inl (cJ, 1, .inr (.inl O)))])) := hD
    rcases hp with ⟨rfl, hp⟩ | ⟨rfl, hp⟩
    · refine lv_istore (lv' := [(5, .int (nI 1)), (4, .int (nI (4 * jj))), (3, .ref qo), (2, .ref (r 0)), (1, .ref (q 0)), (0, .ref b)]) hx hb dL_law_305 hl (by decide) rfl (fun ls hl => ?_)
      refine lv_aload_n hx hb dL_law_307 rfl (lv_at hl 3 rfl) ?_
      refine lv_aload_n hx hb dL_law_308 rfl (lv_at hl 5 rfl) ?_
      refine lv_iload hx hb dL_law_309 (lv_at hl 1 rfl) ?_
      refine lv_iconst (v := nI 1) hx hb dL_law_311 (ic_1) ?_
      refine n_iadd hx hb dL_law_312 ?_
      refine n_sld hx hb hX hbl hbA hS (by omega) (by omega) dL_law_313 ?_
      refine lv_aload_n hx hb dL_law_314 rfl (lv_at hl 5 rfl) ?_
      refine lv_iload hx hb dL_law_315 (lv_at hl 1 rfl) ?_
      refine lv_iconst (v := nI 2) hx hb dL_law_317 (ic_2) ?_
      refine n_iadd hx hb dL_law_318 ?_
      refine n_sld hx hb hX hbl hbA hS (by omega) (by omega) dL_law_319 ?_
      refine k3_i (mc := 0) (ms := 0) (wa := []) (wc := (wM r cI cZ cJ th k V C A T B P OR n PR ST li w WK so sp CT FW)) (wb := ((wX q cI cZ cJ k V C T B P A n PR ST li w WK so sp CT SC TA) ++ [(qo, .inl (cJ, 1, .inr (.inl O)))])) (va_runV (As := [.int (xs ((4 * jj) + 1)), .int (xs ((4 * jj) + 2))]) (rest := []) ⟨hx, hb, hml, hown, hts⟩ (c_X1_take l hst D r cI cZ cJ th k V C A T B P OR n PR ST li w WK so sp CT FW H.size (xs ((4 * jj) + 1)) (xs ((4 * jj) + 2)) hI.hk8 hI.hV hI.hC) (cwV 2 hts gL_law_X1_take rfl rfl rfl hd_X1_take ⟨(Nat.le_of_ble_eq_true rfl), (Nat.le_of_ble_eq_true rfl)⟩) (pre_V3 (wa := []) (wc := (wM r cI cZ cJ th k V C A T B P OR n PR ST li w WK so sp CT FW)) (wb := ((wX q cI cZ cJ k V C T B P A n PR ST li w WK so sp CT SC TA) ++ [(qo, .inl (cJ, 1, .inr (.inl O)))])) hP hK hD hS hA hZ hg 0 (ci := 1) rfl rfl) rfl rfl hl.1 rfl (lv_room (Nat.le_of_ble_eq_true rfl)) dL_law_320 ⟨(show ((27 + 8 * jj) + 2) + 0 ≤ 601024 by omega), (show ((20244 + 64 * jj) + 12) + 0 ≤ 7293034 by omega)⟩) hP hD hS hA (fun rr u2 H locs hq hP hD hS => ?_)
      obtain ⟨v0, v1, v2, v3⟩ := u2
      replace hq : rr = nI v0 ∧ ((v1 = 0 ∧ ∃ i j, i < k ∧ j < 61 ∧ (xs ((4 * jj) + 1)) = nI i ∧ (xs ((4 * jj) + 2)) = nI j ∧ v0 = min j (T i) ∧ v2 = un T i (T i - min j (T i)) ∧ v3 = vp_updL CT 5 (CT 5 + lZ ((min j (T i) * V i : Nat) : Int))) ∨ (v1 = 1 ∧ ¬ rg (xs ((4 * jj) + 1)) 0 k ∧ v2 = T ∧ v3 = CT) ∨ (v1 = 2 ∧ rg (xs ((4 * jj) + 1)) 0 k ∧ ¬ rg (xs ((4 * jj) + 2)) 0 61 ∧ v2 = T ∧ v3 = CT)) := hq
      obtain ⟨hr9, hq⟩ := hq
      replace hr9 := hr9.symm
      subst hr9
      have hP : va_P D vwCl ((wM r cI cZ cJ v1 k V C A v2 B P OR n PR ST li w WK so sp v3 FW) ++ ((wX q cI cZ cJ k V C T B P A n PR ST li w WK so sp CT SC TA) ++ [(qo, .inl (cJ, 1, .inr (.inl O)))])) H := hP
      have hD : va_D (lA s) ((wM r cI cZ cJ v1 k V C A v2 B P OR n PR ST li w WK so sp v3 FW) ++ ((wX q cI cZ cJ k V C T B P A n PR ST li w WK so sp CT SC TA) ++ [(qo, .inl (cJ, 1, .inr (.inl O)))])) := hD
      obtain ⟨e0, f0, f1⟩ := q_take_1 hI.hk8 hp hq
      have e0 := e0.symm
      subst e0
      have f0 := f0.symm
      subst f0
      have f1 := f1.symm
      subst f1
      refine lv_istore (lv' := [(6, .int (nI v0)), (5, .int (nI 1)), (4, .int (nI (4 * jj))), (3, .ref qo), (2, .ref (r 0)), (1, .ref (q 0)), (0, .ref b)]) hx hb dL_law_323 hl (by decide) rfl (fun ls hl => ?_)
      refine lv_aload_n hx hb dL_law_325 rfl (lv_at hl 4 rfl) ?_
      refine k3_i (mc := 0) (ms := 0) (wa := []) (wc := (wM r cI cZ cJ 1 k V C A T B P OR n PR ST li w WK so sp CT FW)) (wb := ((wX q cI cZ cJ k V C T B P A n PR ST li w WK so sp CT SC TA) ++ [(qo, .inl (cJ, 1, .inr (.inl O)))])) (va_runV (As := []) (rest := []) ⟨hx, hb, hml, hown, hts⟩ (c_X1_thrown l hst D r cI cZ cJ 1 k V C A T B P OR n PR ST li w WK so sp CT FW H.size  ) (cwV 0 hts gL_law_X1_thrown rfl rfl rfl hd_X1_thrown ⟨(Nat.le_of_ble_eq_true rfl), (Nat.le_of_ble_eq_true rfl)⟩) (pre_V3 (wa := []) (wc := (wM r cI cZ cJ 1 k V C A T B P OR n PR ST li w WK so sp CT FW)) (wb := ((wX q cI cZ cJ k V C T B P A n PR ST li w WK so sp CT SC TA) ++ [(qo, .inl (cJ, 1, .inr (.inl O)))])) hP hK hD hS hA hZ hg 0 (ci := 1) rfl rfl) rfl rfl hl.1 rfl (lv_room (Nat.le_of_ble_eq_true rfl)) dL_law_326 ⟨(show (((27 + 8 * jj) + 2) + 0) + 0 ≤ 601024 by omega), (show (((20244 + 64 * jj) + 12) + 0) + 0 ≤ 7293034 by omega)⟩) hP hD hS hA (fun rr u2 H locs hq hP hD hS => ?_)
      replace hq : rr = nI 1 := hq
      subst hq
      have hP : va_P D vwCl ((wM r cI cZ cJ 1 k V C A T B P OR n PR ST li w WK so sp CT FW) ++ ((wX q cI cZ cJ k V C T B P A n PR ST li w WK so sp CT SC TA) ++ [(qo, .inl (cJ, 1, .inr (.inl O)))])) H := hP
      have hD : va_D (lA s) ((wM r cI cZ cJ 1 k V C A T B P OR n PR ST li w WK so sp CT FW) ++ ((wX q cI cZ cJ k V C T B P A n PR ST li w WK so sp CT SC TA) ++ [(qo, .inl (cJ, 1, .inr (.inl O)))])) := hD
      refine lv_iload hx hb dL_law_329 (lv_at hl 1 rfl) ?_
      refine lv_icmp_eq (tgt := 336) hx hb dL_law_331 (by decide) (fun _ => ?_) (fun h => absurd rfl h)
      refine lv_iload hx hb dL_law_336 (lv_at hl 1 rfl) ?_
      refine n_if_ne (tgt := 353) hx hb (by decide) dL_law_338 (by decide) (fun c338 => ?_) (fun c338 => ?_)
      · refine lv_goto (tgt := 1433) hx hb dL_law_353 (by decide) ?_
        refine W.widen (k := 27 + 8 * (jj + 1)) (n := 20244 + 64 * (jj + 1)) (by omega) (by omega) ?_
        exact hN 1 k V C T B P A OR n PR ST li w WK so sp CT SC TA FW O _ _ hI hP hD hS ls (lv_sub hl [2, 3, 4, 5, 6] rfl)
      · exact absurd c338 (by decide)
    · refine lv_istore (lv' := [(5, .int (nI 2)), (4, .int (nI (4 * jj))), (3, .ref qo), (2, .ref (r 0)), (1, .ref (q 0)), (0, .ref b)]) hx hb dL_law_305 hl (by decide) rfl (fun ls hl => ?_)
      refine lv_aload_n hx hb dL_law_307 rfl (lv_at hl 3 rfl) ?_
      refine lv_aload_n hx hb dL_law_308 rfl (lv_at hl 5 rfl) ?_
      refine lv_iload hx hb dL_law_309 (lv_at hl 1 rfl) ?_
      refine lv_iconst (v := nI 1) hx hb dL_law_311 (ic_1) ?_
      refine n_iadd hx hb dL_law_312 ?_
      refine n_sld hx hb hX hbl hbA hS (by omega) (by omega) dL_law_313 ?_
      refine lv_aload_n hx hb dL_law_314 rfl (lv_at hl 5 rfl) ?_
      refine lv_iload hx hb dL_law_315 (lv_at hl 1 rfl) ?_
      refine lv_iconst (v := nI 2) hx hb dL_law_317 (ic_2) ?_
      refine n_iadd hx hb dL_law_318 ?_
      refine n_sld hx hb hX hbl hbA hS (by omega) (by omega) dL_law_319 ?_
      refine k3_i (mc := 0) (ms := 0) (wa := []) (wc := (wM r cI cZ cJ th k V C A T B P OR n PR ST li w WK so sp CT FW)) (wb := ((wX q cI cZ cJ k V C T B P A n PR ST li w WK so sp CT SC TA) ++ [(qo, .inl (cJ, 1, .inr (.inl O)))])) (va_runV (As := [.int (xs ((4 * jj) + 1)), .int (xs ((4 * jj) + 2))]) (rest := []) ⟨hx, hb, hml, hown, hts⟩ (c_X1_take l hst D r cI cZ cJ th k V C A T B P OR n PR ST li w WK so sp CT FW H.size (xs ((4 * jj) + 1)) (xs ((4 * jj) + 2)) hI.hk8 hI.hV hI.hC) (cwV 2 hts gL_law_X1_take rfl rfl rfl hd_X1_take ⟨(Nat.le_of_ble_eq_true rfl), (Nat.le_of_ble_eq_true rfl)⟩) (pre_V3 (wa := []) (wc := (wM r cI cZ cJ th k V C A T B P OR n PR ST li w WK so sp CT FW)) (wb := ((wX q cI cZ cJ k V C T B P A n PR ST li w WK so sp CT SC TA) ++ [(qo, .inl (cJ, 1, .inr (.inl O)))])) hP hK hD hS hA hZ hg 0 (ci := 1) rfl rfl) rfl rfl hl.1 rfl (lv_room (Nat.le_of_ble_eq_true rfl)) dL_law_320 ⟨(show ((27 + 8 * jj) + 2) + 0 ≤ 601024 by omega), (show ((20244 + 64 * jj) + 12) + 0 ≤ 7293034 by omega)⟩) hP hD hS hA (fun rr u2 H locs hq hP hD hS => ?_)
      obtain ⟨v0, v1, v2, v3⟩ := u2
      replace hq : rr = nI v0 ∧ ((v1 = 0 ∧ ∃ i j, i < k ∧ j < 61 ∧ (xs ((4 * jj) + 1)) = nI i ∧ (xs ((4 * jj) + 2)) = nI j ∧ v0 = min j (T i) ∧ v2 = un T i (T i - min j (T i)) ∧ v3 = vp_updL CT 5 (CT 5 + lZ ((min j (T i) * V i : Nat) : Int))) ∨ (v1 = 1 ∧ ¬ rg (xs ((4 * jj) + 1)) 0 k ∧ v2 = T ∧ v3 = CT) ∨ (v1 = 2 ∧ rg (xs ((4 * jj) + 1)) 0 k ∧ ¬ rg (xs ((4 * jj) + 2)) 0 61 ∧ v2 = T ∧ v3 = CT)) := hq
      obtain ⟨hr9, hq⟩ := hq
      replace hr9 := hr9.symm
      subst hr9
      have hP : va_P D vwCl ((wM r cI cZ cJ v1 k V C A v2 B P OR n PR ST li w WK so sp v3 FW) ++ ((wX q cI cZ cJ k V C T B P A n PR ST li w WK so sp CT SC TA) ++ [(qo, .inl (cJ, 1, .inr (.inl O)))])) H := hP
      have hD : va_D (lA s) ((wM r cI cZ cJ v1 k V C A v2 B P OR n PR ST li w WK so sp v3 FW) ++ ((wX q cI cZ cJ k V C T B P A n PR ST li w WK so sp CT SC TA) ++ [(qo, .inl (cJ, 1, .inr (.inl O)))])) := hD
      obtain ⟨e0, f0, f1⟩ := q_take_2 hI.hk8 hp hq
      have e0 := e0.symm
      subst e0
      have f0 := f0.symm
      subst f0
      have f1 := f1.symm
      subst f1
      refine lv_istore (lv' := [(6, .int (nI v0)), (5, .int (nI 2)), (4, .int (nI (4 * jj))), (3, .ref qo), (2, .ref (r 0)), (1, .ref (q 0)), (0, .ref b)]) hx hb dL_law_323 hl (by decide) rfl (fun ls hl => ?_)
      refine lv_aload_n hx hb dL_law_325 rfl (lv_at hl 4 rfl) ?_
      refine k3_i (mc := 0) (ms := 0) (wa := []) (wc := (wM r cI cZ cJ 2 k V C A T B P OR n PR ST li w WK so sp CT FW)) (wb := ((wX q cI cZ cJ k V C T B P A n PR ST li w WK so sp CT SC TA) ++ [(qo, .inl (cJ, 1, .inr (.inl O)))])) (va_runV (As := []) (rest := []) ⟨hx, hb, hml, hown, hts⟩ (c_X1_thrown l hst D r cI cZ cJ 2 k V C A T B P OR n PR ST li w WK so sp CT FW H.size  ) (cwV 0 hts gL_law_X1_thrown rfl rfl rfl hd_X1_thrown ⟨(Nat.le_of_ble_eq_true rfl), (Nat.le_of_ble_eq_true rfl)⟩) (pre_V3 (wa := []) (wc := (wM r cI cZ cJ 2 k V C A T B P OR n PR ST li w WK so sp CT FW)) (wb := ((wX q cI cZ cJ k V C T B P A n PR ST li w WK so sp CT SC TA) ++ [(qo, .inl (cJ, 1, .inr (.inl O)))])) hP hK hD hS hA hZ hg 0 (ci := 1) rfl rfl) rfl rfl hl.1 rfl (lv_room (Nat.le_of_ble_eq_true rfl)) dL_law_326 ⟨(show (((27 + 8 * jj) + 2) + 0) + 0 ≤ 601024 by omega), (show (((20244 + 64 * jj) + 12) + 0) + 0 ≤ 7293034 by omega)⟩) hP hD hS hA (fun rr u2 H locs hq hP hD hS => ?_)
      replace hq : rr = nI 2 := hq
      subst hq
      have hP : va_P D vwCl ((wM r cI cZ cJ 2 k V C A T B P OR n PR ST li w WK so sp CT FW) ++ ((wX q cI cZ cJ k V C T B P A n PR ST li w WK so sp CT SC TA) ++ [(qo, .inl (cJ, 1, .inr (.inl O)))])) H := hP
      have hD : va_D (lA s) ((wM r cI cZ cJ 2 k V C A T B P OR n PR ST li w WK so sp CT FW) ++ ((wX q cI cZ cJ k V C T B P A n PR ST li w WK so sp CT SC TA) ++ [(qo, .inl (cJ, 1, .inr (.inl O)))])) := hD
      refine lv_iload hx hb dL_law_329 (lv_at hl 1 rfl) ?_
      refine lv_icmp_eq (tgt := 336) hx hb dL_law_331 (by decide) (fun _ => ?_) (fun h => absurd rfl h)
      refine lv_iload hx hb dL_law_336 (lv_at hl 1 rfl) ?_
      refine n_if_ne (tgt := 353) hx hb (by decide) dL_law_338 (by decide) (fun c338 => ?_) (fun c338 => ?_)
      · refine lv_goto (tgt := 1433) hx hb dL_law_353 (by decide) ?_
        refine W.widen (k := 27 + 8 * (jj + 1)) (n := 20244 + 64 * (jj + 1)) (by omega) (by omega) ?_
        exact hN 2 k V C T B P A OR n PR ST li w WK so sp CT SC TA FW O _ _ hI hP hD hS ls (lv_sub hl [2, 3, 4, 5, 6] rfl)
      · exact absurd c338 (by decide)

set_option maxHeartbeats 8000000 in
set_option maxRecDepth 100000 in
theorem lw_accept (hst : l.stackTraces = false) (hc : Lc p s m meth c b L xs D cI cZ cJ) {r q : Nat → Nat} {qo jj : Nat} (hj : 4 * jj + 4 ≤ L) {th : Nat} {k : Nat} {V : Nat → Nat} {C : Nat → Nat} {T : Nat → Nat} {B : Nat → Nat} {P : Nat → Nat} {A : Nat → Nat} {OR : Nat → Nat} {n : Nat} {PR : Nat → Nat} {ST : Nat → Nat} {li : Nat} {w : Nat} {WK : Nat → Nat} {so : Nat} {sp : Nat} {CT : Nat → Int64} {SC : Nat → Int} {TA : Nat → Nat} {FW : Nat → Nat} {O : Nat → Int64} {H : Heap} {locs : List Loc} (hI : IV k V C T A OR n PR ST li w WK so sp) (hP : va_P D vwCl (wL r q qo cI cZ cJ th k V C T B P A OR n PR ST li w WK so sp CT SC TA FW O) H) (hD : va_D (lA s) (wL r q qo cI cZ cJ th k V C T B P A OR n PR ST li w WK so sp CT SC TA FW O)) (hS : va_S (lA s) s.heap H locs) {ls : Array Slot} (hl : lv_has ls 9 [(4, .int (nI (4 * jj))), (3, .ref qo), (2, .ref (r 0)), (1, .ref (q 0)), (0, .ref b)]) (hN : Nx p l e s m below meth c b D r q qo cI cZ cJ Q jj) : W p l e room_1 s m #[Value.ref b] below meth c H locs (27 + 8 * jj) (20244 + 64 * jj) Q (F0 m 369 ls []) := by
  obtain ⟨hx, hb, hr, hml, hown, hts, hX, hbl, hlocks, hK, hZ, hg, hn, hL⟩ := hc
  have hA : ∀ q9 : Nat, s.heap.size ≤ q9 → lA s q9 := fun _ h => h
  have hbA : ¬ lA s b := Nat.not_le.mpr hbl
  have hP : va_P D vwCl ((wM r cI cZ cJ th k V C A T B P OR n PR ST li w WK so sp CT FW) ++ ((wX q cI cZ cJ k V C T B P A n PR ST li w WK so sp CT SC TA) ++ [(qo, .inl (cJ, 1, .inr (.inl O)))])) H := hP
  have hD : va_D (lA s) ((wM r cI cZ cJ th k V C A T B P OR n PR ST li w WK so sp CT FW) ++ ((wX q cI cZ cJ k V C T B P A n PR ST li w WK so sp CT SC TA) ++ [(qo, .inl (cJ, 1, .inr (.inl O)))])) := hD
  refine lv_aload_n hx hb dL_law_369 rfl (lv_at hl 3 rfl) ?_
  refine lv_aload_n hx hb dL_law_370 rfl (lv_at hl 4 rfl) ?_
  refine lv_iload hx hb dL_law_371 (lv_at hl 0 rfl) ?_
  refine lv_iconst (v := nI 1) hx hb dL_law_373 (ic_1) ?_
  refine n_iadd hx hb dL_law_374 ?_
  refine n_sld hx hb hX hbl hbA hS (by omega) (by omega) dL_law_375 ?_
  refine lv_aload_n hx hb dL_law_376 rfl (lv_at hl 4 rfl) ?_
  refine lv_iload hx hb dL_law_377 (lv_at hl 0 rfl) ?_
  refine lv_iconst (v := nI 2) hx hb dL_law_379 (ic_2) ?_
  refine n_iadd hx hb dL_law_380 ?_
  refine n_sld hx hb hX hbl hbA hS (by omega) (by omega) dL_law_381 ?_
  refine lv_if_eq (tgt := 389) hx hb dL_law_382 (by decide) (fun con => ?_) (fun con => ?_)
  · refine lv_iconst (v := nI 0) hx hb dL_law_389 (ic_0) ?_
    refine lv_aload_n hx hb dL_law_390 rfl (lv_at hl 1 rfl) ?_
    refine k3_i (mc := 1) (ms := 6) (wa := (wM r cI cZ cJ th k V C A T B P OR n PR ST li w WK so sp CT FW)) (wc := ((wX q cI cZ cJ k V C T B P A n PR ST li w WK so sp CT SC TA) ++ [(qo, .inl (cJ, 1, .inr (.inl O)))])) (wb := []) (vx_runSW (As := [.ref (q 0), .int (xs ((4 * jj) + 1)), .int (nI 0), .ref qo]) (rest := []) ⟨hx, hb, hml, hown, hts⟩ (c_L_accept l hst D q qo cI cZ cJ k V C T B P A n PR ST li w WK so sp CT SC TA O H.size (xs ((4 * jj) + 1)) 0 hI.hk8 hI.hA1 (by decide)) (vx_cwSW 4 hts gL_law_L_accept rfl rfl rfl hd_L_accept.2 ⟨(Nat.le_of_ble_eq_true rfl), (Nat.le_of_ble_eq_true rfl)⟩) (pre_N (wa := (wM r cI cZ cJ th k V C A T B P OR n PR ST li w WK so sp CT FW)) (wc := ((wX q cI cZ cJ k V C T B P A n PR ST li w WK so sp CT SC TA) ++ [(qo, .inl (cJ, 1, .inr (.inl O)))])) (wb := []) hP hK hD hS hA hZ hg hn) rfl rfl hl.1 rfl (lv_room (Nat.le_of_ble_eq_true rfl)) dL_law_391 ⟨(show (27 + 8 * jj) + 1 ≤ 601024 by omega), (show (20244 + 64 * jj) + 6 ≤ 7293034 by omega)⟩) hP hD hS hA (fun rr u H locs hp hP hD hS => ?_)
    rcases u with u | kk
    · replace hp : rr = nI 0 ∧ (u < k ∧ (xs ((4 * jj) + 1)) = nI u) := hp
      obtain ⟨rfl, hp⟩ := hp
      have hP : va_P D vwCl ((wM r cI cZ cJ th k V C A T B P OR n PR ST li w WK so sp CT FW) ++ ((wX q cI cZ cJ k V C T B P (un A u 0) n PR ST li w WK so sp CT SC TA) ++ [(qo, .inl (cJ, 1, .inr (.inl (vp_updL O 0 (lZ (((A u : Nat)) : Int))))))])) H := hP
      have hD : va_D (lA s) ((wM r cI cZ cJ th k V C A T B P OR n PR ST li w WK so sp CT FW) ++ ((wX q cI cZ cJ k V C T B P (un A u 0) n PR ST li w WK so sp CT SC TA) ++ [(qo, .inl (cJ, 1, .inr (.inl (vp_updL O 0 (lZ (((A u : Nat)) : Int))))))])) := hD
      refine lv_istore (lv' := [(5, .int (nI 0)), (4, .int (nI (4 * jj))), (3, .ref qo), (2, .ref (r 0)), (1, .ref (q 0)), (0, .ref b)]) hx hb dL_law_394 hl (by decide) rfl (fun ls hl => ?_)
      refine lv_aload_n hx hb dL_law_396 rfl (lv_at hl 3 rfl) ?_
      refine lv_aload_n hx hb dL_law_397 rfl (lv_at hl 5 rfl) ?_
      refine lv_iload hx hb dL_law_398 (lv_at hl 1 rfl) ?_
      refine lv_iconst (v := nI 1) hx hb dL_law_400 (ic_1) ?_
      refine n_iadd hx hb dL_law_401 ?_
      refine n_sld hx hb hX hbl hbA hS (by omega) (by omega) dL_law_402 ?_
      refine lv_aload_n hx hb dL_law_403 rfl (lv_at hl 5 rfl) ?_
      refine lv_iload hx hb dL_law_404 (lv_at hl 1 rfl) ?_
      refine lv_iconst (v := nI 2) hx hb dL_law_406 (ic_2) ?_
      refine n_iadd hx hb dL_law_407 ?_
      refine n_sld hx hb hX hbl hbA hS (by omega) (by omega) dL_law_408 ?_
      refine lv_if_eq (tgt := 416) hx hb dL_law_409 (by decide) (fun _ => ?_) (fun h => absurd con h)
      refine lv_iconst (v := nI 0) hx hb dL_law_416 (ic_0) ?_
      refine k3_i (mc := 0) (ms := 0) (wa := []) (wc := (wM r cI cZ cJ th k V C A T B P OR n PR ST li w WK so sp CT FW)) (wb := ((wX q cI cZ cJ k V C T B P (un A u 0) n PR ST li w WK so sp CT SC TA) ++ [(qo, .inl (cJ, 1, .inr (.inl (vp_updL O 0 (lZ (((A u : Nat)) : Int))))))])) (va_runV (As := [.int (xs ((4 * jj) + 1)), .int (nI 0)]) (rest := []) ⟨hx, hb, hml, hown, hts⟩ (c_X1_accept l hst D r cI cZ cJ th k V C A T B P OR n PR ST li w WK so sp CT FW H.size (xs ((4 * jj) + 1)) 0 hI.hk8 hI.hA1 (by decide)) (cwV 2 hts gL_law_X1_accept rfl rfl rfl hd_X1_accept ⟨(Nat.le_of_ble_eq_true rfl), (Nat.le_of_ble_eq_true rfl)⟩) (pre_V3 (wa := []) (wc := (wM r cI cZ cJ th k V C A T B P OR n PR ST li w WK so sp CT FW)) (wb := ((wX q cI cZ cJ k V C T B P (un A u 0) n PR ST li w WK so sp CT SC TA) ++ [(qo, .inl (cJ, 1, .inr (.inl (vp_updL O 0 (lZ (((A u : Nat)) : Int))))))])) hP hK hD hS hA hZ hg 0 (ci := 1) rfl rfl) rfl rfl hl.1 rfl (lv_room (Nat.le_of_ble_eq_true rfl)) dL_law_417 ⟨(show ((27 + 8 * jj) + 1) + 0 ≤ 601024 by omega), (show ((20244 + 64 * jj) + 6) + 0 ≤ 7293034 by omega)⟩) hP hD hS hA (fun rr u2 H locs hq hP hD hS => ?_)
      obtain ⟨v0, v1, v2⟩ := u2
      replace hq : rr = nI v0 ∧ ((v1 = 0 ∧ ∃ i, i < k ∧ (xs ((4 * jj) + 1)) = nI i ∧ v0 = A i ∧ v2 = un A i 0) ∨ (v1 = 1 ∧ ¬ rg (xs ((4 * jj) + 1)) 0 k ∧ v2 = A)) := hq
      obtain ⟨hr9, hq⟩ := hq
      replace hr9 := hr9.symm
      subst hr9
      have hP : va_P D vwCl ((wM r cI cZ cJ v1 k V C v2 T B P OR n PR ST li w WK so sp CT FW) ++ ((wX q cI cZ cJ k V C T B P (un A u 0) n PR ST li w WK so sp CT SC TA) ++ [(qo, .inl (cJ, 1, .inr (.inl (vp_updL O 0 (lZ (((A u : Nat)) : Int))))))])) H := hP
      have hD : va_D (lA s) ((wM r cI cZ cJ v1 k V C v2 T B P OR n PR ST li w WK so sp CT FW) ++ ((wX q cI cZ cJ k V C T B P (un A u 0) n PR ST li w WK so sp CT SC TA) ++ [(qo, .inl (cJ, 1, .inr (.inl (vp_updL O 0 (lZ (((A u : Nat)) : Int))))))])) := hD
      obtain ⟨e0, e1, f0⟩ := q_accept_0 hI.hk8 hp hq
      have e0 := e0.symm
      subst e0
      have e1 := e1.symm
      subst e1
      have f0 := f0.symm
      subst f0
      have hI2 := iv_accept (i := u) (x := 0) hI (by decide)
      refine lv_istore (lv' := [(6, .int (nI (A u))), (5, .int (nI 0)), (4, .int (nI (4 * jj))), (3, .ref qo), (2, .ref (r 0)), (1, .ref (q 0)), (0, .ref b)]) hx hb dL_law_420 hl (by decide) rfl (fun ls hl => ?_)
      refine lv_aload_n hx hb dL_law_422 rfl (lv_at hl 4 rfl) ?_
      refine k3_i (mc := 0) (ms := 0) (wa := []) (wc := (wM r cI cZ cJ 0 k V C (un A u 0) T B P OR n PR ST li w WK so sp CT FW)) (wb := ((wX q cI cZ cJ k V C T B P (un A u 0) n PR ST li w WK so sp CT SC TA) ++ [(qo, .inl (cJ, 1, .inr (.inl (vp_updL O 0 (lZ (((A u : Nat)) : Int))))))])) (va_runV (As := []) (rest := []) ⟨hx, hb, hml, hown, hts⟩ (c_X1_thrown l hst D r cI cZ cJ 0 k V C (un A u 0) T B P OR n PR ST li w WK so sp CT FW H.size  ) (cwV 0 hts gL_law_X1_thrown rfl rfl rfl hd_X1_thrown ⟨(Nat.le_of_ble_eq_true rfl), (Nat.le_of_ble_eq_true rfl)⟩) (pre_V3 (wa := []) (wc := (wM r cI cZ cJ 0 k V C (un A u 0) T B P OR n PR ST li w WK so sp CT FW)) (wb := ((wX q cI cZ cJ k V C T B P (un A u 0) n PR ST li w WK so sp CT SC TA) ++ [(qo, .inl (cJ, 1, .inr (.inl (vp_updL O 0 (lZ (((A u : Nat)) : Int))))))])) hP hK hD hS hA hZ hg 0 (ci := 1) rfl rfl) rfl rfl hl.1 rfl (lv_room (Nat.le_of_ble_eq_true rfl)) dL_law_423 ⟨(show (((27 + 8 * jj) + 1) + 0) + 0 ≤ 601024 by omega), (show (((20244 + 64 * jj) + 6) + 0) + 0 ≤ 7293034 by omega)⟩) hP hD hS hA (fun rr u2 H locs hq hP hD hS => ?_)
      replace hq : rr = nI 0 := hq
      subst hq
      have hP : va_P D vwCl ((wM r cI cZ cJ 0 k V C (un A u 0) T B P OR n PR ST li w WK so sp CT FW) ++ ((wX q cI cZ cJ k V C T B P (un A u 0) n PR ST li w WK so sp CT SC TA) ++ [(qo, .inl (cJ, 1, .inr (.inl (vp_updL O 0 (lZ (((A u : Nat)) : Int))))))])) H := hP
      have hD : va_D (lA s) ((wM r cI cZ cJ 0 k V C (un A u 0) T B P OR n PR ST li w WK so sp CT FW) ++ ((wX q cI cZ cJ k V C T B P (un A u 0) n PR ST li w WK so sp CT SC TA) ++ [(qo, .inl (cJ, 1, .inr (.inl (vp_updL O 0 (lZ (((A u : Nat)) : Int))))))])) := hD
      refine lv_iload hx hb dL_law_426 (lv_at hl 1 rfl) ?_
      refine lv_icmp_eq (tgt := 433) hx hb dL_law_428 (by decide) (fun _ => ?_) (fun h => absurd rfl h)
      refine lv_iload hx hb dL_law_433 (lv_at hl 1 rfl) ?_
      refine n_if_ne (tgt := 457) hx hb (by decide) dL_law_435 (by decide) (fun c435 => ?_) (fun c435 => ?_)
      · exact absurd c435 (by decide)
      · refine lv_aload_n hx hb dL_law_438 rfl (lv_at hl 3 rfl) ?_
        refine lv_iconst (v := nI 0) hx hb dL_law_439 (ic_0) ?_
        refine n_lald hx hb hK hP 26 2 rfl rfl (by decide) (by decide) dL_law_440 ?_
        refine n_topl (show (vp_updL O 0 (lZ (((A u : Nat)) : Int))) 0 = lZ (((A u : Nat)) : Int) from updL_s) ?_
        refine lv_iload hx hb dL_law_441 (lv_at hl 0 rfl) ?_
        have hbd : A u ≤ 1 := hI.hA1 u hp.1
        refine n_if_eq (tgt := 450) hx hb (by omega) dL_law_443 (by decide) (fun cq => ?_) (fun cq => ?_)
        · have cq : A u = 0 := by omega
          refine lv_lconst (v := lZ 0) hx hb dL_law_450 (by decide) ?_
          refine n_topl (show lZ 0 = lZ (((A u : Nat)) : Int) from by rw [cq]; rfl) ?_
          refine n_lcmp_eq (tgt := 457) hx hb dL_law_451 dL_law_452 (by decide) (fun _ => ?_) (fun h => absurd rfl h)
          refine lv_goto (tgt := 1433) hx hb dL_law_457 (by decide) ?_
          refine W.widen (k := 27 + 8 * (jj + 1)) (n := 20244 + 64 * (jj + 1)) (by omega) (by omega) ?_
          exact hN 0 k V C T B P (un A u 0) OR n PR ST li w WK so sp CT SC TA FW (vp_updL O 0 (lZ (((A u : Nat)) : Int))) _ _ hI2 hP hD hS ls (lv_sub hl [2, 3, 4, 5, 6] rfl)
        · have cq : A u = 1 := by omega
          refine lv_lconst (v := lZ 1) hx hb dL_law_446 (by decide) ?_
          refine n_topl (show lZ 1 = lZ (((A u : Nat)) : Int) from by rw [cq]; rfl) ?_
          refine lv_goto (tgt := 451) hx hb dL_law_447 (by decide) ?_
          refine n_lcmp_eq (tgt := 457) hx hb dL_law_451 dL_law_452 (by decide) (fun _ => ?_) (fun h => absurd rfl h)
          refine lv_goto (tgt := 1433) hx hb dL_law_457 (by decide) ?_
          refine W.widen (k := 27 + 8 * (jj + 1)) (n := 20244 + 64 * (jj + 1)) (by omega) (by omega) ?_
          exact hN 0 k V C T B P (un A u 0) OR n PR ST li w WK so sp CT SC TA FW (vp_updL O 0 (lZ (((A u : Nat)) : Int))) _ _ hI2 hP hD hS ls (lv_sub hl [2, 3, 4, 5, 6] rfl)
    · replace hp : rr = nI kk ∧ ((kk = 1 ∧ (¬ rg (xs ((4 * jj) + 1)) 0 k))) := hp
      obtain ⟨rfl, hp⟩ := hp
      have hP : va_P D vwCl ((wM r cI cZ cJ th k V C A T B P OR n PR ST li w WK so sp CT FW) ++ ((wX q cI cZ cJ k V C T B P A n PR ST li w WK so sp CT SC TA) ++ [(qo, .inl (cJ, 1, .inr (.inl O)))])) H := hP
      have hD : va_D (lA s) ((wM r cI cZ cJ th k V C A T B P OR n PR ST li w WK so sp CT FW) ++ ((wX q cI cZ cJ k V C T B P A n PR ST li w WK so sp CT SC TA) ++ [(qo, .inl (cJ, 1, .inr (.inl O)))])) := hD
      obtain ⟨rfl, hp⟩ := hp
      refine lv_istore (lv' := [(5, .int (nI 1)), (4, .int (nI (4 * jj))), (3, .ref qo), (2, .ref (r 0)), (1, .ref (q 0)), (0, .ref b)]) hx hb dL_law_394 hl (by decide) rfl (fun ls hl => ?_)
      refine lv_aload_n hx hb dL_law_396 rfl (lv_at hl 3 rfl) ?_
      refine lv_aload_n hx hb dL_law_397 rfl (lv_at hl 5 rfl) ?_
      refine lv_iload hx hb dL_law_398 (lv_at hl 1 rfl) ?_
      refine lv_iconst (v := nI 1) hx hb dL_law_400 (ic_1) ?_
      refine n_iadd hx hb dL_law_401 ?_
      refine n_sld hx hb hX hbl hbA hS (by omega) (by omega) dL_law_402 ?_
      refine lv_aload_n hx hb dL_law_403 rfl (lv_at hl 5 rfl) ?_
      refine lv_iload hx hb dL_law_404 (lv_at hl 1 rfl) ?_
      refine lv_iconst (v := nI 2) hx hb dL_law_406 (ic_2) ?_
      refine n_iadd hx hb dL_law_407 ?_
      refine n_sld hx hb hX hbl hbA hS (by omega) (by omega) dL_law_408 ?_
      refine lv_if_eq (tgt := 416) hx hb dL_law_409 (by decide) (fun _ => ?_) (fun h => absurd con h)
      refine lv_iconst (v := nI 0) hx hb dL_law_416 (ic_0) ?_
      refine k3_i (mc := 0) (ms := 0) (wa := []) (wc := (wM r cI cZ cJ th k V C A T B P OR n PR ST li w WK so sp CT FW)) (wb := ((wX q cI cZ cJ k V C T B P A n PR ST li w WK so sp CT SC TA) ++ [(qo, .inl (cJ, 1, .inr (.inl O)))])) (va_runV (As := [.int (xs ((4 * jj) + 1)), .int (nI 0)]) (rest := []) ⟨hx, hb, hml, hown, hts⟩ (c_X1_accept l hst D r cI cZ cJ th k V C A T B P OR n PR ST li w WK so sp CT FW H.size (xs ((4 * jj) + 1)) 0 hI.hk8 hI.hA1 (by decide)) (cwV 2 hts gL_law_X1_accept rfl rfl rfl hd_X1_accept ⟨(Nat.le_of_ble_eq_true rfl), (Nat.le_of_ble_eq_true rfl)⟩) (pre_V3 (wa := []) (wc := (wM r cI cZ cJ th k V C A T B P OR n PR ST li w WK so sp CT FW)) (wb := ((wX q cI cZ cJ k V C T B P A n PR ST li w WK so sp CT SC TA) ++ [(qo, .inl (cJ, 1, .inr (.inl O)))])) hP hK hD hS hA hZ hg 0 (ci := 1) rfl rfl) rfl rfl hl.1 rfl (lv_room (Nat.le_of_ble_eq_true rfl)) dL_law_417 ⟨(show ((27 + 8 * jj) + 1) + 0 ≤ 601024 by omega), (show ((20244 + 64 * jj) + 6) + 0 ≤ 7293034 by omega)⟩) hP hD hS hA (fun rr u2 H locs hq hP hD hS => ?_)
      obtain ⟨v0, v1, v2⟩ := u2
      replace hq : rr = nI v0 ∧ ((v1 = 0 ∧ ∃ i, i < k ∧ (xs ((4 * jj) + 1)) = nI i ∧ v0 = A i ∧ v2 = un A i 0) ∨ (v1 = 1 ∧ ¬ rg (xs ((4 * jj) + 1)) 0 k ∧ v2 = A)) := hq
      obtain ⟨hr9, hq⟩ := hq
      replace hr9 := hr9.symm
      subst hr9
      have hP : va_P D vwCl ((wM r cI cZ cJ v1 k V C v2 T B P OR n PR ST li w WK so sp CT FW) ++ ((wX q cI cZ cJ k V C T B P A n PR ST li w WK so sp CT SC TA) ++ [(qo, .inl (cJ, 1, .inr (.inl O)))])) H := hP
      have hD : va_D (lA s) ((wM r cI cZ cJ v1 k V C v2 T B P OR n PR ST li w WK so sp CT FW) ++ ((wX q cI cZ cJ k V C T B P A n PR ST li w WK so sp CT SC TA) ++ [(qo, .inl (cJ, 1, .inr (.inl O)))])) := hD
      obtain ⟨e0, f0⟩ := q_accept_1 hI.hk8 hp hq
      have e0 := e0.symm
      subst e0
      have f0 := f0.symm
      subst f0
      refine lv_istore (lv' := [(6, .int (nI v0)), (5, .int (nI 1)), (4, .int (nI (4 * jj))), (3, .ref qo), (2, .ref (r 0)), (1, .ref (q 0)), (0, .ref b)]) hx hb dL_law_420 hl (by decide) rfl (fun ls hl => ?_)
      refine lv_aload_n hx hb dL_law_422 rfl (lv_at hl 4 rfl) ?_
      refine k3_i (mc := 0) (ms := 0) (wa := []) (wc := (wM r cI cZ cJ 1 k V C A T B P OR n PR ST li w WK so sp CT FW)) (wb := ((wX q cI cZ cJ k V C T B P A n PR ST li w WK so sp CT SC TA) ++ [(qo, .inl (cJ, 1, .inr (.inl O)))])) (va_runV (As := []) (rest := []) ⟨hx, hb, hml, hown, hts⟩ (c_X1_thrown l hst D r cI cZ cJ 1 k V C A T B P OR n PR ST li w WK so sp CT FW H.size  ) (cwV 0 hts gL_law_X1_thrown rfl rfl rfl hd_X1_thrown ⟨(Nat.le_of_ble_eq_true rfl), (Nat.le_of_ble_eq_true rfl)⟩) (pre_V3 (wa := []) (wc := (wM r cI cZ cJ 1 k V C A T B P OR n PR ST li w WK so sp CT FW)) (wb := ((wX q cI cZ cJ k V C T B P A n PR ST li w WK so sp CT SC TA) ++ [(qo, .inl (cJ, 1, .inr (.inl O)))])) hP hK hD hS hA hZ hg 0 (ci := 1) rfl rfl) rfl rfl hl.1 rfl (lv_room (Nat.le_of_ble_eq_true rfl)) dL_law_423 ⟨(show (((27 + 8 * jj) + 1) + 0) + 0 ≤ 601024 by omega), (show (((20244 + 64 * jj) + 6) + 0) + 0 ≤ 7293034 by omega)⟩) hP hD hS hA (fun rr u2 H locs hq hP hD hS => ?_)
      replace hq : rr = nI 1 := hq
      subst hq
      have hP : va_P D vwCl ((wM r cI cZ cJ 1 k V C A T B P OR n PR ST li w WK so sp CT FW) ++ ((wX q cI cZ cJ k V C T B P A n PR ST li w WK so sp CT SC TA) ++ [(qo, .inl (cJ, 1, .inr (.inl O)))])) H := hP
      have hD : va_D (lA s) ((wM r cI cZ cJ 1 k V C A T B P OR n PR ST li w WK so sp CT FW) ++ ((wX q cI cZ cJ k V C T B P A n PR ST li w WK so sp CT SC TA) ++ [(qo, .inl (cJ, 1, .inr (.inl O)))])) := hD
      refine lv_iload hx hb dL_law_426 (lv_at hl 1 rfl) ?_
      refine lv_icmp_eq (tgt := 433) hx hb dL_law_428 (by decide) (fun _ => ?_) (fun h => absurd rfl h)
      refine lv_iload hx hb dL_law_433 (lv_at hl 1 rfl) ?_
      refine n_if_ne (tgt := 457) hx hb (by decide) dL_law_435 (by decide) (fun c435 => ?_) (fun c435 => ?_)
      · refine lv_goto (tgt := 1433) hx hb dL_law_457 (by decide) ?_
        refine W.widen (k := 27 + 8 * (jj + 1)) (n := 20244 + 64 * (jj + 1)) (by omega) (by omega) ?_
        exact hN 1 k V C T B P A OR n PR ST li w WK so sp CT SC TA FW O _ _ hI hP hD hS ls (lv_sub hl [2, 3, 4, 5, 6] rfl)
      · exact absurd c435 (by decide)
  · refine lv_iconst (v := nI 1) hx hb dL_law_385 (ic_1) ?_
    refine lv_goto (tgt := 390) hx hb dL_law_386 (by decide) ?_
    refine lv_aload_n hx hb dL_law_390 rfl (lv_at hl 1 rfl) ?_
    refine k3_i (mc := 1) (ms := 6) (wa := (wM r cI cZ cJ th k V C A T B P OR n PR ST li w WK so sp CT FW)) (wc := ((wX q cI cZ cJ k V C T B P A n PR ST li w WK so sp CT SC TA) ++ [(qo, .inl (cJ, 1, .inr (.inl O)))])) (wb := []) (vx_runSW (As := [.ref (q 0), .int (xs ((4 * jj) + 1)), .int (nI 1), .ref qo]) (rest := []) ⟨hx, hb, hml, hown, hts⟩ (c_L_accept l hst D q qo cI cZ cJ k V C T B P A n PR ST li w WK so sp CT SC TA O H.size (xs ((4 * jj) + 1)) 1 hI.hk8 hI.hA1 (by decide)) (vx_cwSW 4 hts gL_law_L_accept rfl rfl rfl hd_L_accept.2 ⟨(Nat.le_of_ble_eq_true rfl), (Nat.le_of_ble_eq_true rfl)⟩) (pre_N (wa := (wM r cI cZ cJ th k V C A T B P OR n PR ST li w WK so sp CT FW)) (wc := ((wX q cI cZ cJ k V C T B P A n PR ST li w WK so sp CT SC TA) ++ [(qo, .inl (cJ, 1, .inr (.inl O)))])) (wb := []) hP hK hD hS hA hZ hg hn) rfl rfl hl.1 rfl (lv_room (Nat.le_of_ble_eq_true rfl)) dL_law_391 ⟨(show (27 + 8 * jj) + 1 ≤ 601024 by omega), (show (20244 + 64 * jj) + 6 ≤ 7293034 by omega)⟩) hP hD hS hA (fun rr u H locs hp hP hD hS => ?_)
    rcases u with u | kk
    · replace hp : rr = nI 0 ∧ (u < k ∧ (xs ((4 * jj) + 1)) = nI u) := hp
      obtain ⟨rfl, hp⟩ := hp
      have hP : va_P D vwCl ((wM r cI cZ cJ th k V C A T B P OR n PR ST li w WK so sp CT FW) ++ ((wX q cI cZ cJ k V C T B P (un A u 1) n PR ST li w WK so sp CT SC TA) ++ [(qo, .inl (cJ, 1, .inr (.inl (vp_updL O 0 (lZ (((A u : Nat)) : Int))))))])) H := hP
      have hD : va_D (lA s) ((wM r cI cZ cJ th k V C A T B P OR n PR ST li w WK so sp CT FW) ++ ((wX q cI cZ cJ k V C T B P (un A u 1) n PR ST li w WK so sp CT SC TA) ++ [(qo, .inl (cJ, 1, .inr (.inl (vp_updL O 0 (lZ (((A u : Nat)) : Int))))))])) := hD
      refine lv_istore (lv' := [(5, .int (nI 0)), (4, .int (nI (4 * jj))), (3, .ref qo), (2, .ref (r 0)), (1, .ref (q 0)), (0, .ref b)]) hx hb dL_law_394 hl (by decide) rfl (fun ls hl => ?_)
      refine lv_aload_n hx hb dL_law_396 rfl (lv_at hl 3 rfl) ?_
      refine lv_aload_n hx hb dL_law_397 rfl (lv_at hl 5 rfl) ?_
      refine lv_iload hx hb dL_law_398 (lv_at hl 1 rfl) ?_
      refine lv_iconst (v := nI 1) hx hb dL_law_400 (ic_1) ?_
      refine n_iadd hx hb dL_law_401 ?_
      refine n_sld hx hb hX hbl hbA hS (by omega) (by omega) dL_law_402 ?_
      refine lv_aload_n hx hb dL_law_403 rfl (lv_at hl 5 rfl) ?_
      refine lv_iload hx hb dL_law_404 (lv_at hl 1 rfl) ?_
      refine lv_iconst (v := nI 2) hx hb dL_law_406 (ic_2) ?_
      refine n_iadd hx hb dL_law_407 ?_
      refine n_sld hx hb hX hbl hbA hS (by omega) (by omega) dL_law_408 ?_
      refine lv_if_eq (tgt := 416) hx hb dL_law_409 (by decide) (fun h => absurd h con) (fun _ => ?_)
      refine lv_iconst (v := nI 1) hx hb dL_law_412 (ic_1) ?_
      refine lv_goto (tgt := 417) hx hb dL_law_413 (by decide) ?_
      refine k3_i (mc := 0) (ms := 0) (wa := []) (wc := (wM r cI cZ cJ th k V C A T B P OR n PR ST li w WK so sp CT FW)) (wb := ((wX q cI cZ cJ k V C T B P (un A u 1) n PR ST li w WK so sp CT SC TA) ++ [(qo, .inl (cJ, 1, .inr (.inl (vp_updL O 0 (lZ (((A u : Nat)) : Int))))))])) (va_runV (As := [.int (xs ((4 * jj) + 1)), .int (nI 1)]) (rest := []) ⟨hx, hb, hml, hown, hts⟩ (c_X1_accept l hst D r cI cZ cJ th k V C A T B P OR n PR ST li w WK so sp CT FW H.size (xs ((4 * jj) + 1)) 1 hI.hk8 hI.hA1 (by decide)) (cwV 2 hts gL_law_X1_accept rfl rfl rfl hd_X1_accept ⟨(Nat.le_of_ble_eq_true rfl), (Nat.le_of_ble_eq_true rfl)⟩) (pre_V3 (wa := []) (wc := (wM r cI cZ cJ th k V C A T B P OR n PR ST li w WK so sp CT FW)) (wb := ((wX q cI cZ cJ k V C T B P (un A u 1) n PR ST li w WK so sp CT SC TA) ++ [(qo, .inl (cJ, 1, .inr (.inl (vp_updL O 0 (lZ (((A u : Nat)) : Int))))))])) hP hK hD hS hA hZ hg 0 (ci := 1) rfl rfl) rfl rfl hl.1 rfl (lv_room (Nat.le_of_ble_eq_true rfl)) dL_law_417 ⟨(show ((27 + 8 * jj) + 1) + 0 ≤ 601024 by omega), (show ((20244 + 64 * jj) + 6) + 0 ≤ 7293034 by omega)⟩) hP hD hS hA (fun rr u2 H locs hq hP hD hS => ?_)
      obtain ⟨v0, v1, v2⟩ := u2
      replace hq : rr = nI v0 ∧ ((v1 = 0 ∧ ∃ i, i < k ∧ (xs ((4 * jj) + 1)) = nI i ∧ v0 = A i ∧ v2 = un A i 1) ∨ (v1 = 1 ∧ ¬ rg (xs ((4 * jj) + 1)) 0 k ∧ v2 = A)) := hq
      obtain ⟨hr9, hq⟩ := hq
      replace hr9 := hr9.symm
      subst hr9
      have hP : va_P D vwCl ((wM r cI cZ cJ v1 k V C v2 T B P OR n PR ST li w WK so sp CT FW) ++ ((wX q cI cZ cJ k V C T B P (un A u 1) n PR ST li w WK so sp CT SC TA) ++ [(qo, .inl (cJ, 1, .inr (.inl (vp_updL O 0 (lZ (((A u : Nat)) : Int))))))])) H := hP
      have hD : va_D (lA s) ((wM r cI cZ cJ v1 k V C v2 T B P OR n PR ST li w WK so sp CT FW) ++ ((wX q cI cZ cJ k V C T B P (un A u 1) n PR ST li w WK so sp CT SC TA) ++ [(qo, .inl (cJ, 1, .inr (.inl (vp_updL O 0 (lZ (((A u : Nat)) : Int))))))])) := hD
      obtain ⟨e0, e1, f0⟩ := q_accept_0 hI.hk8 hp hq
      have e0 := e0.symm
      subst e0
      have e1 := e1.symm
      subst e1
      have f0 := f0.symm
      subst f0
      have hI2 := iv_accept (i := u) (x := 1) hI (by decide)
      refine lv_istore (lv' := [(6, .int (nI (A u))), (5, .int (nI 0)), (4, .int (nI (4 * jj))), (3, .ref qo), (2, .ref (r 0)), (1, .ref (q 0)), (0, .ref b)]) hx hb dL_law_420 hl (by decide) rfl (fun ls hl => ?_)
      refine lv_aload_n hx hb dL_law_422 rfl (lv_at hl 4 rfl) ?_
      refine k3_i (mc := 0) (ms := 0) (wa := []) (wc := (wM r cI cZ cJ 0 k V C (un A u 1) T B P OR n PR ST li w WK so sp CT FW)) (wb := ((wX q cI cZ cJ k V C T B P (un A u 1) n PR ST li w WK so sp CT SC TA) ++ [(qo, .inl (cJ, 1, .inr (.inl (vp_updL O 0 (lZ (((A u : Nat)) : Int))))))])) (va_runV (As := []) (rest := []) ⟨hx, hb, hml, hown, hts⟩ (c_X1_thrown l hst D r cI cZ cJ 0 k V C (un A u 1) T B P OR n PR ST li w WK so sp CT FW H.size  ) (cwV 0 hts gL_law_X1_thrown rfl rfl rfl hd_X1_thrown ⟨(Nat.le_of_ble_eq_true rfl), (Nat.le_of_ble_eq_true rfl)⟩) (pre_V3 (wa := []) (wc := (wM r cI cZ cJ 0 k V C (un A u 1) T B P OR n PR ST li w WK so sp CT FW)) (wb := ((wX q cI cZ cJ k V C T B P (un A u 1) n PR ST li w WK so sp CT SC TA) ++ [(qo, .inl (cJ, 1, .inr (.inl (vp_updL O 0 (lZ (((A u : Nat)) : Int))))))])) hP hK hD hS hA hZ hg 0 (ci := 1) rfl rfl) rfl rfl hl.1 rfl (lv_room (Nat.le_of_ble_eq_true rfl)) dL_law_423 ⟨(show (((27 + 8 * jj) + 1) + 0) + 0 ≤ 601024 by omega), (show (((20244 + 64 * jj) + 6) + 0) + 0 ≤ 7293034 by omega)⟩) hP hD hS hA (fun rr u2 H locs hq hP hD hS => ?_)
      replace hq : rr = nI 0 := hq
      subst hq
      have hP : va_P D vwCl ((wM r cI cZ cJ 0 k V C (un A u 1) T B P OR n PR ST li w WK so sp CT FW) ++ ((wX q cI cZ cJ k V C T B P (un A u 1) n PR ST li w WK so sp CT SC TA) ++ [(qo, .inl (cJ, 1, .inr (.inl (vp_updL O 0 (lZ (((A u : Nat)) : Int))))))])) H := hP
      have hD : va_D (lA s) ((wM r cI cZ cJ 0 k V C (un A u 1) T B P OR n PR ST li w WK so sp CT FW) ++ ((wX q cI cZ cJ k V C T B P (un A u 1) n PR ST li w WK so sp CT SC TA) ++ [(qo, .inl (cJ, 1, .inr (.inl (vp_updL O 0 (lZ (((A u : Nat)) : Int))))))])) := hD
      refine lv_iload hx hb dL_law_426 (lv_at hl 1 rfl) ?_
      refine lv_icmp_eq (tgt := 433) hx hb dL_law_428 (by decide) (fun _ => ?_) (fun h => absurd rfl h)
      refine lv_iload hx hb dL_law_433 (lv_at hl 1 rfl) ?_
      refine n_if_ne (tgt := 457) hx hb (by decide) dL_law_435 (by decide) (fun c435 => ?_) (fun c435 => ?_)
      · exact absurd c435 (by decide)
      · refine lv_aload_n hx hb dL_law_438 rfl (lv_at hl 3 rfl) ?_
        refine lv_iconst (v := nI 0) hx hb dL_law_439 (ic_0) ?_
        refine n_lald hx hb hK hP 26 2 rfl rfl (by decide) (by decide) dL_law_440 ?_
        refine n_topl (show (vp_updL O 0 (lZ (((A u : Nat)) : Int))) 0 = lZ (((A u : Nat)) : Int) from updL_s) ?_
        refine lv_iload hx hb dL_law_441 (lv_at hl 0 rfl) ?_
        have hbd : A u ≤ 1 := hI.hA1 u hp.1
        refine n_if_eq (tgt := 450) hx hb (by omega) dL_law_443 (by decide) (fun cq => ?_) (fun cq => ?_)
        · have cq : A u = 0 := by omega
          refine lv_lconst (v := lZ 0) hx hb dL_law_450 (by decide) ?_
          refine n_topl (show lZ 0 = lZ (((A u : Nat)) : Int) from by rw [cq]; rfl) ?_
          refine n_lcmp_eq (tgt := 457) hx hb dL_law_451 dL_law_452 (by decide) (fun _ => ?_) (fun h => absurd rfl h)
          refine lv_goto (tgt := 1433) hx hb dL_law_457 (by decide) ?_
          refine W.widen (k := 27 + 8 * (jj + 1)) (n := 20244 + 64 * (jj + 1)) (by omega) (by omega) ?_
          exact hN 0 k V C T B P (un A u 1) OR n PR ST li w WK so sp CT SC TA FW (vp_updL O 0 (lZ (((A u : Nat)) : Int))) _ _ hI2 hP hD hS ls (lv_sub hl [2, 3, 4, 5, 6] rfl)
        · have cq : A u = 1 := by omega
          refine lv_lconst (v := lZ 1) hx hb dL_law_446 (by decide) ?_
          refine n_topl (show lZ 1 = lZ (((A u : Nat)) : Int) from by rw [cq]; rfl) ?_
          refine lv_goto (tgt := 451) hx hb dL_law_447 (by decide) ?_
          refine n_lcmp_eq (tgt := 457) hx hb dL_law_451 dL_law_452 (by decide) (fun _ => ?_) (fun h => absurd rfl h)
          refine lv_goto (tgt := 1433) hx hb dL_law_457 (by decide) ?_
          refine W.widen (k := 27 + 8 * (jj + 1)) (n := 20244 + 64 * (jj + 1)) (by omega) (by omega) ?_
          exact hN 0 k V C T B P (un A u 1) OR n PR ST li w WK so sp CT SC TA FW (vp_updL O 0 (lZ (((A u : Nat)) : Int))) _ _ hI2 hP hD hS ls (lv_sub hl [2, 3, 4, 5, 6] rfl)
    · replace hp : rr = nI kk ∧ ((kk = 1 ∧ (¬ rg (xs ((4 * jj) + 1)) 0 k))) := hp
      obtain ⟨rfl, hp⟩ := hp
      have hP : va_P D vwCl ((wM r cI cZ cJ th k V C A T B P OR n PR ST li w WK so sp CT FW) ++ ((wX q cI cZ cJ k V C T B P A n PR ST li w WK so sp CT SC TA) ++ [(qo, .inl (cJ, 1, .inr (.inl O)))])) H := hP
      have hD : va_D (lA s) ((wM r cI cZ cJ th k V C A T B P OR n PR ST li w WK so sp CT FW) ++ ((wX q cI cZ cJ k V C T B P A n PR ST li w WK so sp CT SC TA) ++ [(qo, .inl (cJ, 1, .inr (.inl O)))])) := hD
      obtain ⟨rfl, hp⟩ := hp
      refine lv_istore (lv' := [(5, .int (nI 1)), (4, .int (nI (4 * jj))), (3, .ref qo), (2, .ref (r 0)), (1, .ref (q 0)), (0, .ref b)]) hx hb dL_law_394 hl (by decide) rfl (fun ls hl => ?_)
      refine lv_aload_n hx hb dL_law_396 rfl (lv_at hl 3 rfl) ?_
      refine lv_aload_n hx hb dL_law_397 rfl (lv_at hl 5 rfl) ?_
      refine lv_iload hx hb dL_law_398 (lv_at hl 1 rfl) ?_
      refine lv_iconst (v := nI 1) hx hb dL_law_400 (ic_1) ?_
      refine n_iadd hx hb dL_law_401 ?_
      refine n_sld hx hb hX hbl hbA hS (by omega) (by omega) dL_law_402 ?_
      refine lv_aload_n hx hb dL_law_403 rfl (lv_at hl 5 rfl) ?_
      refine lv_iload hx hb dL_law_404 (lv_at hl 1 rfl) ?_
      refine lv_iconst (v := nI 2) hx hb dL_law_406 (ic_2) ?_
      refine n_iadd hx hb dL_law_407 ?_
      refine n_sld hx hb hX hbl hbA hS (by omega) (by omega) dL_law_408 ?_
      refine lv_if_eq (tgt := 416) hx hb dL_law_409 (by decide) (fun h => absurd h con) (fun _ => ?_)
      refine lv_iconst (v := nI 1) hx hb dL_law_412 (ic_1) ?_
      refine lv_goto (tgt := 417) hx hb dL_law_413 (by decide) ?_
      refine k3_i (mc := 0) (ms := 0) (wa := []) (wc := (wM r cI cZ cJ th k V C A T B P OR n PR ST li w WK so sp CT FW)) (wb := ((wX q cI cZ cJ k V C T B P A n PR ST li w WK so sp CT SC TA) ++ [(qo, .inl (cJ, 1, .inr (.inl O)))])) (va_runV (As := [.int (xs ((4 * jj) + 1)), .int (nI 1)]) (rest := []) ⟨hx, hb, hml, hown, hts⟩ (c_X1_accept l hst D r cI cZ cJ th k V C A T B P OR n PR ST li w WK so sp CT FW H.size (xs ((4 * jj) + 1)) 1 hI.hk8 hI.hA1 (by decide)) (cwV 2 hts gL_law_X1_accept rfl rfl rfl hd_X1_accept ⟨(Nat.le_of_ble_eq_true rfl), (Nat.le_of_ble_eq_true rfl)⟩) (pre_V3 (wa := []) (wc := (wM r cI cZ cJ th k V C A T B P OR n PR ST li w WK so sp CT FW)) (wb := ((wX q cI cZ cJ k V C T B P A n PR ST li w WK so sp CT SC TA) ++ [(qo, .inl (cJ, 1, .inr (.inl O)))])) hP hK hD hS hA hZ hg 0 (ci := 1) rfl rfl) rfl rfl hl.1 rfl (lv_room (Nat.le_of_ble_eq_true rfl)) dL_law_417 ⟨(show ((27 + 8 * jj) + 1) + 0 ≤ 601024 by omega), (show ((20244 + 64 * jj) + 6) + 0 ≤ 7293034 by omega)⟩) hP hD hS hA (fun rr u2 H locs hq hP hD hS => ?_)
      obtain ⟨v0, v1, v2⟩ := u2
      replace hq : rr = nI v0 ∧ ((v1 = 0 ∧ ∃ i, i < k ∧ (xs ((4 * jj) + 1)) = nI i ∧ v0 = A i ∧ v2 = un A i 1) ∨ (v1 = 1 ∧ ¬ rg (xs ((4 * jj) + 1)) 0 k ∧ v2 = A)) := hq
      obtain ⟨hr9, hq⟩ := hq
      replace hr9 := hr9.symm
      subst hr9
      have hP : va_P D vwCl ((wM r cI cZ cJ v1 k V C v2 T B P OR n PR ST li w WK so sp CT FW) ++ ((wX q cI cZ cJ k V C T B P A n PR ST li w WK so sp CT SC TA) ++ [(qo, .inl (cJ, 1, .inr (.inl O)))])) H := hP
      have hD : va_D (lA s) ((wM r cI cZ cJ v1 k V C v2 T B P OR n PR ST li w WK so sp CT FW) ++ ((wX q cI cZ cJ k V C T B P A n PR ST li w WK so sp CT SC TA) ++ [(qo, .inl (cJ, 1, .inr (.inl O)))])) := hD
      obtain ⟨e0, f0⟩ := q_accept_1 hI.hk8 hp hq
      have e0 := e0.symm
      subst e0
      have f0 := f0.symm
      subst f0
      refine lv_istore (lv' := [(6, .int (nI v0)), (5, .int (nI 1)), (4, .int (nI (4 * jj))), (3, .ref qo), (2, .ref (r 0)), (1, .ref (q 0)), (0, .ref b)]) hx hb dL_law_420 hl (by decide) rfl (fun ls hl => ?_)
      refine lv_aload_n hx hb dL_law_422 rfl (lv_at hl 4 rfl) ?_
      refine k3_i (mc := 0) (ms := 0) (wa := []) (wc := (wM r cI cZ cJ 1 k V C A T B P OR n PR ST li w WK so sp CT FW)) (wb := ((wX q cI cZ cJ k V C T B P A n PR ST li w WK so sp CT SC TA) ++ [(qo, .inl (cJ, 1, .inr (.inl O)))])) (va_runV (As := []) (rest := []) ⟨hx, hb, hml, hown, hts⟩ (c_X1_thrown l hst D r cI cZ cJ 1 k V C A T B P OR n PR ST li w WK so sp CT FW H.size  ) (cwV 0 hts gL_law_X1_thrown rfl rfl rfl hd_X1_thrown ⟨(Nat.le_of_ble_eq_true rfl), (Nat.le_of_ble_eq_true rfl)⟩) (pre_V3 (wa := []) (wc := (wM r cI cZ cJ 1 k V C A T B P OR n PR ST li w WK so sp CT FW)) (wb := ((wX q cI cZ cJ k V C T B P A n PR ST li w WK so sp CT SC TA) ++ [(qo, .inl (cJ, 1, .inr (.inl O)))])) hP hK hD hS hA hZ hg 0 (ci := 1) rfl rfl) rfl rfl hl.1 rfl (lv_room (Nat.le_of_ble_eq_true rfl)) dL_law_423 ⟨(show (((27 + 8 * jj) + 1) + 0) + 0 ≤ 601024 by omega), (show (((20244 + 64 * jj) + 6) + 0) + 0 ≤ 7293034 by omega)⟩) hP hD hS hA (fun rr u2 H locs hq hP hD hS => ?_)
      replace hq : rr = nI 1 := hq
      subst hq
      have hP : va_P D vwCl ((wM r cI cZ cJ 1 k V C A T B P OR n PR ST li w WK so sp CT FW) ++ ((wX q cI cZ cJ k V C T B P A n PR ST li w WK so sp CT SC TA) ++ [(qo, .inl (cJ, 1, .inr (.inl O)))])) H := hP
      have hD : va_D (lA s) ((wM r cI cZ cJ 1 k V C A T B P OR n PR ST li w WK so sp CT FW) ++ ((wX q cI cZ cJ k V C T B P A n PR ST li w WK so sp CT SC TA) ++ [(qo, .inl (cJ, 1, .inr (.inl O)))])) := hD
      refine lv_iload hx hb dL_law_426 (lv_at hl 1 rfl) ?_
      refine lv_icmp_eq (tgt := 433) hx hb dL_law_428 (by decide) (fun _ => ?_) (fun h => absurd rfl h)
      refine lv_iload hx hb dL_law_433 (lv_at hl 1 rfl) ?_
      refine n_if_ne (tgt := 457) hx hb (by decide) dL_law_435 (by decide) (fun c435 => ?_) (fun c435 => ?_)
      · refine lv_goto (tgt := 1433) hx hb dL_law_457 (by decide) ?_
        refine W.widen (k := 27 + 8 * (jj + 1)) (n := 20244 + 64 * (jj + 1)) (by omega) (by omega) ?_
        exact hN 1 k V C T B P A OR n PR ST li w WK so sp CT SC TA FW O _ _ hI hP hD hS ls (lv_sub hl [2, 3, 4, 5, 6] rfl)
      · exact absurd c435 (by decide)

end LW
