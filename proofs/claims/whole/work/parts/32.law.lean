/-! the law: its walk -/
abbrev lA (s : State) : Nat → Prop := fun q9 => s.heap.size ≤ q9
def Lc (p : Program) (s : State) (m : MethodId) (meth : Method) (c : Code) (b L : Nat) (xs : Nat → Int32) (D : va_G) (cI cZ cJ : ClassId) : Prop :=
  p.tables.exec = Jvm.exec ∧ c.code = cL_law ∧ meth.sig.returnType = ret ∧ c.maxLocals = 9 ∧ s.vm.findClass RL = some m.cls ∧ (∀ w ∈ wsL_law, w.before #[Value.ref b] s = true) ∧ va_X b L xs s s.heap ∧ b < s.heap.size ∧ meth.locks = false ∧ va_K D vwCl (ty3 cI cZ cJ) s ∧ zz (lA s) s s.heap ∧ gg s ∧ nc s ∧ L ≤ 2048
abbrev wL (r q : Nat → Nat) (qo : Nat) (cI cZ cJ : ClassId) (th : Nat) (k : Nat) (V : Nat → Nat) (C : Nat → Nat) (T : Nat → Nat) (B : Nat → Nat) (P : Nat → Nat) (A : Nat → Nat) (OR : Nat → Nat) (n : Nat) (PR : Nat → Nat) (ST : Nat → Nat) (li : Nat) (w : Nat) (WK : Nat → Nat) (so : Nat) (sp : Nat) (CT : Nat → Int64) (SC : Nat → Int) (TA : Nat → Nat) (FW : Nat → Nat) (O : Nat → Int64) : va_W :=
  wM r cI cZ cJ th k V C A T B P OR n PR ST li w WK so sp CT FW ++ (wX q cI cZ cJ k V C T B P A n PR ST li w WK so sp CT SC TA ++ [(qo, .inl (cJ, 1, .inr (.inl O)))])
/-- what the law goes on from, behind one command -/
def Nx (p : Program) (l : Launch) (e : Env) (s : State) (m : MethodId) (below : List Frame) (meth : Method) (c : Code) (b : Nat) (D : va_G) (r q : Nat → Nat) (qo : Nat) (cI cZ cJ : ClassId) (Q : State → Prop) (jj : Nat) : Prop :=
  ∀ (th : Nat) (k : Nat) (V : Nat → Nat) (C : Nat → Nat) (T : Nat → Nat) (B : Nat → Nat) (P : Nat → Nat) (A : Nat → Nat) (OR : Nat → Nat) (n : Nat) (PR : Nat → Nat) (ST : Nat → Nat) (li : Nat) (w : Nat) (WK : Nat → Nat) (so : Nat) (sp : Nat) (CT : Nat → Int64) (SC : Nat → Int) (TA : Nat → Nat) (FW : Nat → Nat) (O : Nat → Int64) (H : Heap) (locs : List Loc), IV k V C T A OR n PR ST li w WK so sp → va_P D vwCl (wL r q qo cI cZ cJ th k V C T B P A OR n PR ST li w WK so sp CT SC TA FW O) H → va_D (lA s) (wL r q qo cI cZ cJ th k V C T B P A OR n PR ST li w WK so sp CT SC TA FW O) → va_S (lA s) s.heap H locs → ∀ ls : Array Slot, lv_has ls 9 [(4, .int (nI (4 * jj))), (3, .ref qo), (2, .ref (r 0)), (1, .ref (q 0)), (0, .ref b)] → W p l e room_1 s m #[Value.ref b] below meth c H locs (27 + 8 * (jj + 1)) (20244 + 64 * (jj + 1)) Q (F0 m 1433 ls [])
theorem updL_s {f : Nat → Int64} {i : Nat} {x : Int64} : vp_updL f i x i = x := if_pos rfl
section LR
variable {p : Program} {l : Launch} {e : Env} {R : Room} {s : State} {m : MethodId} {args : Array Value} {below : List Frame} {meth : Method} {c : Code} {H : Heap} {locs : List Loc} {cells slots : Nat} {Q : State → Prop} {pc : Nat} {ls : Array Slot} {rest : List Value} {A : Nat → Prop} {cc : ByteArray}
theorem n_sld (hx : p.tables.exec = Jvm.exec) (hb : c.code = cc) {b L : Nat} {xs : Nat → Int32} (hX : va_X b L xs s s.heap) (hbl : b < s.heap.size) (hbA : ¬ A b) (hS : va_S A s.heap H locs) {i : Nat} (hi : i < L) (hn : L < 2147483648) (hd : decode cc pc = .ok (.iaload, 1)) (kk : W p l e R s m args below meth c H locs cells slots Q (F0 m (pc + 1) ls (.int (xs i) :: rest))) : W p l e R s m args below meth c H locs cells slots Q (F0 m pc ls (.int (nI i) :: .ref b :: rest)) := by
  refine va_sld hx hb hX hbl hbA hS (vp_in_nI hi hn) hd ?_
  rw [nI_clamp (Nat.lt_trans hi hn)]
  exact kk
end LR
section LW
variable {p : Program} {l : Launch} {e : Env} {s : State} {m : MethodId} {below : List Frame} {meth : Method} {c : Code} {b L : Nat} {xs : Nat → Int32} {D : va_G} {cI cZ cJ : ClassId} {Q : State → Prop}

set_option maxHeartbeats 8000000 in
set_option maxRecDepth 100000 in
theorem lw_addKind (hst : l.stackTraces = false) (hc : Lc p s m meth c b L xs D cI cZ cJ) {r q : Nat → Nat} {qo jj : Nat} (hj : 4 * jj + 4 ≤ L) {th : Nat} {k : Nat} {V : Nat → Nat} {C : Nat → Nat} {T : Nat → Nat} {B : Nat → Nat} {P : Nat → Nat} {A : Nat → Nat} {OR : Nat → Nat} {n : Nat} {PR : Nat → Nat} {ST : Nat → Nat} {li : Nat} {w : Nat} {WK : Nat → Nat} {so : Nat} {sp : Nat} {CT : Nat → Int64} {SC : Nat → Int} {TA : Nat → Nat} {FW : Nat → Nat} {O : Nat → Int64} {H : Heap} {locs : List Loc} (hI : IV k V C T A OR n PR ST li w WK so sp) (hP : va_P D vwCl (wL r q qo cI cZ cJ th k V C T B P A OR n PR ST li w WK so sp CT SC TA FW O) H) (hD : va_D (lA s) (wL r q qo cI cZ cJ th k V C T B P A OR n PR ST li w WK so sp CT SC TA FW O)) (hS : va_S (lA s) s.heap H locs) {ls : Array Slot} (hl : lv_has ls 9 [(4, .int (nI (4 * jj))), (3, .ref qo), (2, .ref (r 0)), (1, .ref (q 0)), (0, .ref b)]) (hN : Nx p l e s m below meth c b D r q qo cI cZ cJ Q jj) : W p l e room_1 s m #[Value.ref b] below meth c H locs (27 + 8 * jj) (20244 + 64 * jj) Q (F0 m 152 ls []) := by
  obtain ⟨hx, hb, hr, hml, hown, hts, hX, hbl, hlocks, hK, hZ, hg, hn, hL⟩ := hc
  have hA : ∀ q9 : Nat, s.heap.size ≤ q9 → lA s q9 := fun _ h => h
  have hbA : ¬ lA s b := Nat.not_le.mpr hbl
  have hP : va_P D vwCl ((wM r cI cZ cJ th k V C A T B P OR n PR ST li w WK so sp CT FW) ++ ((wX q cI cZ cJ k V C T B P A n PR ST li w WK so sp CT SC TA) ++ [(qo, .inl (cJ, 1, .inr (.inl O)))])) H := hP
  have hD : va_D (lA s) ((wM r cI cZ cJ th k V C A T B P OR n PR ST li w WK so sp CT FW) ++ ((wX q cI cZ cJ k V C T B P A n PR ST li w WK so sp CT SC TA) ++ [(qo, .inl (cJ, 1, .inr (.inl O)))])) := hD
  refine lv_aload_n hx hb dL_law_152 rfl (lv_at hl 3 rfl) ?_
  refine lv_aload_n hx hb dL_law_153 rfl (lv_at hl 4 rfl) ?_
  refine lv_iload hx hb dL_law_154 (lv_at hl 0 rfl) ?_
  refine lv_iconst (v := nI 1) hx hb dL_law_156 (ic_1) ?_
  refine n_iadd hx hb dL_law_157 ?_
  refine n_sld hx hb hX hbl hbA hS (by omega) (by omega) dL_law_158 ?_
  refine lv_aload_n hx hb dL_law_159 rfl (lv_at hl 4 rfl) ?_
  refine lv_iload hx hb dL_law_160 (lv_at hl 0 rfl) ?_
  refine lv_iconst (v := nI 2) hx hb dL_law_162 (ic_2) ?_
  refine n_iadd hx hb dL_law_163 ?_
  refine n_sld hx hb hX hbl hbA hS (by omega) (by omega) dL_law_164 ?_
  refine lv_aload_n hx hb dL_law_165 rfl (lv_at hl 1 rfl) ?_
  refine k3_i (mc := 1) (ms := 6) (wa := (wM r cI cZ cJ th k V C A T B P OR n PR ST li w WK so sp CT FW)) (wc := ((wX q cI cZ cJ k V C T B P A n PR ST li w WK so sp CT SC TA) ++ [(qo, .inl (cJ, 1, .inr (.inl O)))])) (wb := []) (vx_runSW (As := [.ref (q 0), .int (xs ((4 * jj) + 1)), .int (xs ((4 * jj) + 2)), .ref qo]) (rest := []) ⟨hx, hb, hml, hown, hts⟩ (c_L_addKind l hst D q qo cI cZ cJ k V C T B P A n PR ST li w WK so sp CT SC TA O H.size (xs ((4 * jj) + 1)) (xs ((4 * jj) + 2)) hI.hk8 hI.hV) (vx_cwSW 4 hts gL_law_L_addKind rfl rfl rfl hd_L_addKind.2 ⟨(Nat.le_of_ble_eq_true rfl), (Nat.le_of_ble_eq_true rfl)⟩) (pre_N (wa := (wM r cI cZ cJ th k V C A T B P OR n PR ST li w WK so sp CT FW)) (wc := ((wX q cI cZ cJ k V C T B P A n PR ST li w WK so sp CT SC TA) ++ [(qo, .inl (cJ, 1, .inr (.inl O)))])) (wb := []) hP hK hD hS hA hZ hg hn) rfl rfl hl.1 rfl (lv_room (Nat.le_of_ble_eq_true rfl)) dL_law_166 ⟨(show (27 + 8 * jj) + 1 ≤ 601024 by omega), (show (20244 + 64 * jj) + 6 ≤ 7293034 by omega)⟩) hP hD hS hA (fun rr u H locs hp hP hD hS => ?_)
  rcases u with u | kk
  · replace hp : rr = nI 0 ∧ (1 ≤ u.1 ∧ u.1 < 501 ∧ u.2 < 61 ∧ (xs ((4 * jj) + 1)) = nI u.1 ∧ (xs ((4 * jj) + 2)) = nI u.2 ∧ k < 8 ∧ ¬ ∃ i, i < k ∧ V i = u.1) := hp
    obtain ⟨rfl, hp⟩ := hp
    have hP : va_P D vwCl ((wM r cI cZ cJ th k V C A T B P OR n PR ST li w WK so sp CT FW) ++ ((wX q cI cZ cJ (k + 1) (un V k u.1) (un C k u.2) T B P (un A k 1) n PR ST li w WK so sp CT SC TA) ++ [(qo, .inl (cJ, 1, .inr (.inl (vp_updL O 0 ((nI k).toInt64)))))])) H := hP
    have hD : va_D (lA s) ((wM r cI cZ cJ th k V C A T B P OR n PR ST li w WK so sp CT FW) ++ ((wX q cI cZ cJ (k + 1) (un V k u.1) (un C k u.2) T B P (un A k 1) n PR ST li w WK so sp CT SC TA) ++ [(qo, .inl (cJ, 1, .inr (.inl (vp_updL O 0 ((nI k).toInt64)))))])) := hD
    refine lv_istore (lv' := [(5, .int (nI 0)), (4, .int (nI (4 * jj))), (3, .ref qo), (2, .ref (r 0)), (1, .ref (q 0)), (0, .ref b)]) hx hb dL_law_169 hl (by decide) rfl (fun ls hl => ?_)
    refine lv_aload_n hx hb dL_law_171 rfl (lv_at hl 3 rfl) ?_
    refine lv_aload_n hx hb dL_law_172 rfl (lv_at hl 5 rfl) ?_
    refine lv_iload hx hb dL_law_173 (lv_at hl 1 rfl) ?_
    refine lv_iconst (v := nI 1) hx hb dL_law_175 (ic_1) ?_
    refine n_iadd hx hb dL_law_176 ?_
    refine n_sld hx hb hX hbl hbA hS (by omega) (by omega) dL_law_177 ?_
    refine lv_aload_n hx hb dL_law_178 rfl (lv_at hl 5 rfl) ?_
    refine lv_iload hx hb dL_law_179 (lv_at hl 1 rfl) ?_
    refine lv_iconst (v := nI 2) hx hb dL_law_181 (ic_2) ?_
    refine n_iadd hx hb dL_law_182 ?_
    refine n_sld hx hb hX hbl hbA hS (by omega) (by omega) dL_law_183 ?_
    refine k3_i (mc := 0) (ms := 0) (wa := []) (wc := (wM r cI cZ cJ th k V C A T B P OR n PR ST li w WK so sp CT FW)) (wb := ((wX q cI cZ cJ (k + 1) (un V k u.1) (un C k u.2) T B P (un A k 1) n PR ST li w WK so sp CT SC TA) ++ [(qo, .inl (cJ, 1, .inr (.inl (vp_updL O 0 ((nI k).toInt64)))))])) (va_runV (As := [.int (xs ((4 * jj) + 1)), .int (xs ((4 * jj) + 2))]) (rest := []) ⟨hx, hb, hml, hown, hts⟩ (c_X1_addKind l hst D r cI cZ cJ th k V C A T B P OR n PR ST li w WK so sp CT FW H.size (xs ((4 * jj) + 1)) (xs ((4 * jj) + 2)) hI.hk8 hI.hV hI.hOR) (cwV 2 hts gL_law_X1_addKind rfl rfl rfl hd_X1_addKind ⟨(Nat.le_of_ble_eq_true rfl), (Nat.le_of_ble_eq_true rfl)⟩) (pre_V3 (wa := []) (wc := (wM r cI cZ cJ th k V C A T B P OR n PR ST li w WK so sp CT FW)) (wb := ((wX q cI cZ cJ (k + 1) (un V k u.1) (un C k u.2) T B P (un A k 1) n PR ST li w WK so sp CT SC TA) ++ [(qo, .inl (cJ, 1, .inr (.inl (vp_updL O 0 ((nI k).toInt64)))))])) hP hK hD hS hA hZ hg 0 (ci := 1) rfl rfl) rfl rfl hl.1 rfl (lv_room (Nat.le_of_ble_eq_true rfl)) dL_law_184 ⟨(show ((27 + 8 * jj) + 1) + 0 ≤ 601024 by omega), (show ((20244 + 64 * jj) + 6) + 0 ≤ 7293034 by omega)⟩) hP hD hS hA (fun rr u2 H locs hq hP hD hS => ?_)
    obtain ⟨v0, v1, v2, v3, v4, v5, v6⟩ := u2
    replace hq : rr = nI v0 ∧ ((v1 = 0 ∧ ∃ i j, 1 ≤ i ∧ i < 501 ∧ j < 61 ∧ (xs ((4 * jj) + 1)) = nI i ∧ (xs ((4 * jj) + 2)) = nI j ∧ k < 8 ∧ (¬ ∃ x, x < k ∧ V x = i) ∧ v0 = k ∧ v2 = k + 1 ∧ v3 = un V k i ∧ v4 = un C k j ∧ v5 = un A k 1 ∧ ordOK (un V k i) v6 (k + 1)) ∨ (v1 = 1 ∧ ¬ (rg (xs ((4 * jj) + 1)) 1 501 ∧ rg (xs ((4 * jj) + 2)) 0 61) ∧ v2 = k ∧ v3 = V ∧ v4 = C ∧ v5 = A ∧ v6 = OR) ∨ (v1 = 2 ∧ (rg (xs ((4 * jj) + 1)) 1 501 ∧ rg (xs ((4 * jj) + 2)) 0 61) ∧ (¬ k < 8 ∨ ∃ x, x < k ∧ nI (V x) = (xs ((4 * jj) + 1))) ∧ v2 = k ∧ v3 = V ∧ v4 = C ∧ v5 = A ∧ v6 = OR)) := hq
    obtain ⟨hr9, hq⟩ := hq
    replace hr9 := hr9.symm
    subst hr9
    have hP : va_P D vwCl ((wM r cI cZ cJ v1 v2 v3 v4 v5 T B P v6 n PR ST li w WK so sp CT FW) ++ ((wX q cI cZ cJ (k + 1) (un V k u.1) (un C k u.2) T B P (un A k 1) n PR ST li w WK so sp CT SC TA) ++ [(qo, .inl (cJ, 1, .inr (.inl (vp_updL O 0 ((nI k).toInt64)))))])) H := hP
    have hD : va_D (lA s) ((wM r cI cZ cJ v1 v2 v3 v4 v5 T B P v6 n PR ST li w WK so sp CT FW) ++ ((wX q cI cZ cJ (k + 1) (un V k u.1) (un C k u.2) T B P (un A k 1) n PR ST li w WK so sp CT SC TA) ++ [(qo, .inl (cJ, 1, .inr (.inl (vp_updL O 0 ((nI k).toInt64)))))])) := hD
    obtain ⟨e0, e1, f0, f1, f2, f3, hO⟩ := q_addKind_0 hI.hV hp hq
    have e0 := e0.symm
    subst e0
    have e1 := e1.symm
    subst e1
    have f0 := f0.symm
    subst f0
    have f1 := f1.symm
    subst f1
    have f2 := f2.symm
    subst f2
    have f3 := f3.symm
    subst f3
    have hI2 := iv_addKind hI hp.1 hp.2.1 hp.2.2.1 hp.2.2.2.2.2.1 hO
    refine lv_istore (lv' := [(6, .int (nI k)), (5, .int (nI 0)), (4, .int (nI (4 * jj))), (3, .ref qo), (2, .ref (r 0)), (1, .ref (q 0)), (0, .ref b)]) hx hb dL_law_187 hl (by decide) rfl (fun ls hl => ?_)
    refine lv_aload_n hx hb dL_law_189 rfl (lv_at hl 4 rfl) ?_
    refine k3_i (mc := 0) (ms := 0) (wa := []) (wc := (wM r cI cZ cJ 0 (k + 1) (un V k u.1) (un C k u.2) (un A k 1) T B P v6 n PR ST li w WK so sp CT FW)) (wb := ((wX q cI cZ cJ (k + 1) (un V k u.1) (un C k u.2) T B P (un A k 1) n PR ST li w WK so sp CT SC TA) ++ [(qo, .inl (cJ, 1, .inr (.inl (vp_updL O 0 ((nI k).toInt64)))))])) (va_runV (As := []) (rest := []) ⟨hx, hb, hml, hown, hts⟩ (c_X1_thrown l hst D r cI cZ cJ 0 (k + 1) (un V k u.1) (un C k u.2) (un A k 1) T B P v6 n PR ST li w WK so sp CT FW H.size  ) (cwV 0 hts gL_law_X1_thrown rfl rfl rfl hd_X1_thrown ⟨(Nat.le_of_ble_eq_true rfl), (Nat.le_of_ble_eq_true rfl)⟩) (pre_V3 (wa := []) (wc := (wM r cI cZ cJ 0 (k + 1) (un V k u.1) (un C k u.2) (un A k 1) T B P v6 n PR ST li w WK so sp CT FW)) (wb := ((wX q cI cZ cJ (k + 1) (un V k u.1) (un C k u.2) T B P (un A k 1) n PR ST li w WK so sp CT SC TA) ++ [(qo, .inl (cJ, 1, .inr (.inl (vp_updL O 0 ((nI k).toInt64)))))])) hP hK hD hS hA hZ hg 0 (ci := 1) rfl rfl) rfl rfl hl.1 rfl (lv_room (Nat.le_of_ble_eq_true rfl)) dL_law_190 ⟨(show (((27 + 8 * jj) + 1) + 0) + 0 ≤ 601024 by omega), (show (((20244 + 64 * jj) + 6) + 0) + 0 ≤ 7293034 by omega)⟩) hP hD hS hA (fun rr u2 H locs hq hP hD hS => ?_)
    replace hq : rr = nI 0 := hq
    subst hq
    have hP : va_P D vwCl ((wM r cI cZ cJ 0 (k + 1) (un V k u.1) (un C k u.2) (un A k 1) T B P v6 n PR ST li w WK so sp CT FW) ++ ((wX q cI cZ cJ (k + 1) (un V k u.1) (un C k u.2) T B P (un A k 1) n PR ST li w WK so sp CT SC TA) ++ [(qo, .inl (cJ, 1, .inr (.inl (vp_updL O 0 ((nI k).toInt64)))))])) H := hP
    have hD : va_D (lA s) ((wM r cI cZ cJ 0 (k + 1) (un V k u.1) (un C k u.2) (un A k 1) T B P v6 n PR ST li w WK so sp CT FW) ++ ((wX q cI cZ cJ (k + 1) (un V k u.1) (un C k u.2) T B P (un A k 1) n PR ST li w WK so sp CT SC TA) ++ [(qo, .inl (cJ, 1, .inr (.inl (vp_updL O 0 ((nI k).toInt64)))))])) := hD
    refine lv_iload hx hb dL_law_193 (lv_at hl 1 rfl) ?_
    refine lv_icmp_eq (tgt := 200) hx hb dL_law_195 (by decide) (fun _ => ?_) (fun h => absurd rfl h)
    refine lv_iload hx hb dL_law_200 (lv_at hl 1 rfl) ?_
    refine n_if_ne (tgt := 217) hx hb (by decide) dL_law_202 (by decide) (fun c202 => ?_) (fun c202 => ?_)
    · exact absurd c202 (by decide)
    · refine lv_aload_n hx hb dL_law_205 rfl (lv_at hl 3 rfl) ?_
      refine lv_iconst (v := nI 0) hx hb dL_law_206 (ic_0) ?_
      refine n_lald hx hb hK hP 26 2 rfl rfl (by decide) (by decide) dL_law_207 ?_
      refine n_topl (show (vp_updL O 0 ((nI k).toInt64)) 0 = (nI k).toInt64 from updL_s) ?_
      refine lv_iload hx hb dL_law_208 (lv_at hl 0 rfl) ?_
      refine lv_i2l hx hb dL_law_210 rfl ?_
      refine n_lcmp_eq (tgt := 217) hx hb dL_law_211 dL_law_212 (by decide) (fun _ => ?_) (fun h => absurd rfl h)
      refine lv_goto (tgt := 1433) hx hb dL_law_217 (by decide) ?_
      refine W.widen (k := 27 + 8 * (jj + 1)) (n := 20244 + 64 * (jj + 1)) (by omega) (by omega) ?_
      exact hN 0 (k + 1) (un V k u.1) (un C k u.2) T B P (un A k 1) v6 n PR ST li w WK so sp CT SC TA FW (vp_updL O 0 ((nI k).toInt64)) _ _ hI2 hP hD hS ls (lv_sub hl [2, 3, 4, 5, 6] rfl)
  · replace hp : rr = nI kk ∧ ((kk = 1 ∧ (¬ (rg (xs ((4 * jj) + 1)) 1 501 ∧ rg (xs ((4 * jj) + 2)) 0 61))) ∨ (kk = 2 ∧ ((rg (xs ((4 * jj) + 1)) 1 501 ∧ rg (xs ((4 * jj) + 2)) 0 61) ∧ (¬ k < 8 ∨ ∃ i, i < k ∧ nI (V i) = (xs ((4 * jj) + 1)))))) := hp
    obtain ⟨rfl, hp⟩ := hp
    have hP : va_P D vwCl ((wM r cI cZ cJ th k V C A T B P OR n PR ST li w WK so sp CT FW) ++ ((wX q cI cZ cJ k V C T B P A n PR ST li w WK so sp CT SC TA) ++ [(qo, .inl (cJ, 1, .inr (.inl O)))])) H := hP
    have hD : va_D (lA s) ((wM r cI cZ cJ th k V C A T B P OR n PR ST li w WK so sp CT FW) ++ ((wX q cI cZ cJ k V C T B P A n PR ST li w WK so sp CT SC TA) ++ [(qo, .inl (cJ, 1, .inr (.inl O)))])) := hD
    rcases hp with ⟨rfl, hp⟩ | ⟨rfl, hp⟩
    · refine lv_istore (lv' := [(5, .int (nI 1)), (4, .int (nI (4 * jj))), (3, .ref qo), (2, .ref (r 0)), (1, .ref (q 0)), (0, .ref b)]) hx hb dL_law_169 hl (by decide) rfl (fun ls hl => ?_)
      refine lv_aload_n hx hb dL_law_171 rfl (lv_at hl 3 rfl) ?_
      refine lv_aload_n hx hb dL_law_172 rfl (lv_at hl 5 rfl) ?_
      refine lv_iload hx hb dL_law_173 (lv_at hl 1 rfl) ?_
      refine lv_iconst (v := nI 1) hx hb dL_law_175 (ic_1) ?_
      refine n_iadd hx hb dL_law_176 ?_
      refine n_sld hx hb hX hbl hbA hS (by omega) (by omega) dL_law_177 ?_
      refine lv_aload_n hx hb dL_law_178 rfl (lv_at hl 5 rfl) ?_
      refine lv_iload hx hb dL_law_179 (lv_at hl 1 rfl) ?_
      refine lv_iconst (v := nI 2) hx hb dL_law_181 (ic_2) ?_
      refine n_iadd hx hb dL_law_182 ?_
      refine n_sld hx hb hX hbl hbA hS (by omega) (by omega) dL_law_183 ?_
      refine k3_i (mc := 0) (ms := 0) (wa := []) (wc := (wM r cI cZ cJ th k V C A T B P OR n PR ST li w WK so sp CT FW)) (wb := ((wX q cI cZ cJ k V C T B P A n PR ST li w WK so sp CT SC TA) ++ [(qo, .inl (cJ, 1, .inr (.inl O)))])) (va_runV (As := [.int (xs ((4 * jj) + 1)), .int (xs ((4 * jj) + 2))]) (rest := []) ⟨hx, hb, hml, hown, hts⟩ (c_X1_addKind l hst D r cI cZ cJ th k V C A T B P OR n PR ST li w WK so sp CT FW H.size (xs ((4 * jj) + 1)) (xs ((4 * jj) + 2)) hI.hk8 hI.hV hI.hOR) (cwV 2 hts gL_law_X1_addKind rfl rfl rfl hd_X1_addKind ⟨(Nat.le_of_ble_eq_true rfl), (Nat.le_of_ble_eq_true rfl)⟩) (pre_V3 (wa := []) (wc := (wM r cI cZ cJ th k V C A T B P OR n PR ST li w WK so sp CT FW)) (wb := ((wX q cI cZ cJ k V C T B P A n PR ST li w WK so sp CT SC TA) ++ [(qo, .inl (cJ, 1, .inr (.inl O)))])) hP hK hD hS hA hZ hg 0 (ci := 1) rfl rfl) rfl rfl hl.1 rfl (lv_room (Nat.le_of_ble_eq_true rfl)) dL_law_184 ⟨(show ((27 + 8 * jj) + 1) + 0 ≤ 601024 by omega), (show ((20244 + 64 * jj) + 6) + 0 ≤ 7293034 by omega)⟩) hP hD hS hA (fun rr u2 H locs hq hP hD hS => ?_)
      obtain ⟨v0, v1, v2, v3, v4, v5, v6⟩ := u2
      replace hq : rr = nI v0 ∧ ((v1 = 0 ∧ ∃ i j, 1 ≤ i ∧ i < 501 ∧ j < 61 ∧ (xs ((4 * jj) + 1)) = nI i ∧ (xs ((4 * jj) + 2)) = nI j ∧ k < 8 ∧ (¬ ∃ x, x < k ∧ V x = i) ∧ v0 = k ∧ v2 = k + 1 ∧ v3 = un V k i ∧ v4 = un C k j ∧ v5 = un A k 1 ∧ ordOK (un V k i) v6 (k + 1)) ∨ (v1 = 1 ∧ ¬ (rg (xs ((4 * jj) + 1)) 1 501 ∧ rg (xs ((4 * jj) + 2)) 0 61) ∧ v2 = k ∧ v3 = V ∧ v4 = C ∧ v5 = A ∧ v6 = OR) ∨ (v1 = 2 ∧ (rg (xs ((4 * jj) + 1)) 1 501 ∧ rg (xs ((4 * jj) + 2)) 0 61) ∧ (¬ k < 8 ∨ ∃ x, x < k ∧ nI (V x) = (xs ((4 * jj) + 1))) ∧ v2 = k ∧ v3 = V ∧ v4 = C ∧ v5 = A ∧ v6 = OR)) := hq
      obtain ⟨hr9, hq⟩ := hq
      replace hr9 := hr9.symm
      subst hr9
      have hP : va_P D vwCl ((wM r cI cZ cJ v1 v2 v3 v4 v5 T B P v6 n PR ST li w WK so sp CT FW) ++ ((wX q cI cZ cJ k V C T B P A n PR ST li w WK so sp CT SC TA) ++ [(qo, .inl (cJ, 1, .inr (.inl O)))])) H := hP
      have hD : va_D (lA s) ((wM r cI cZ cJ v1 v2 v3 v4 v5 T B P v6 n PR ST li w WK so sp CT FW) ++ ((wX q cI cZ cJ k V C T B P A n PR ST li w WK so sp CT SC TA) ++ [(qo, .inl (cJ, 1, .inr (.inl O)))])) := hD
      obtain ⟨e0, f0, f1, f2, f3, hO⟩ := q_addKind_1 hI.hV hp hq
      have e0 := e0.symm
      subst e0
      have f0 := f0.symm
      subst f0
      have f1 := f1.symm
      subst f1
      have f2 := f2.symm
      subst f2
      have f3 := f3.symm
      subst f3
      have hO := hO.symm
      subst hO
      refine lv_istore (lv' := [(6, .int (nI v0)), (5, .int (nI 1)), (4, .int (nI (4 * jj))), (3, .ref qo), (2, .ref (r 0)), (1, .ref (q 0)), (0, .ref b)]) hx hb dL_law_187 hl (by decide) rfl (fun ls hl => ?_)
      refine lv_aload_n hx hb dL_law_189 rfl (lv_at hl 4 rfl) ?_
      refine k3_i (mc := 0) (ms := 0) (wa := []) (wc := (wM r cI cZ cJ 1 k V C A T B P OR n PR ST li w WK so sp CT FW)) (wb := ((wX q cI cZ cJ k V C T B P A n PR ST li w WK so sp CT SC TA) ++ [(qo, .inl (cJ, 1, .inr (.inl O)))])) (va_runV (As := []) (rest := []) ⟨hx, hb, hml, hown, hts⟩ (c_X1_thrown l hst D r cI cZ cJ 1 k V C A T B P OR n PR ST li w WK so sp CT FW H.size  ) (cwV 0 hts gL_law_X1_thrown rfl rfl rfl hd_X1_thrown ⟨(Nat.le_of_ble_eq_true rfl), (Nat.le_of_ble_eq_true rfl)⟩) (pre_V3 (wa := []) (wc := (wM r cI cZ cJ 1 k V C A T B P OR n PR ST li w WK so sp CT FW)) (wb := ((wX q cI cZ cJ k V C T B P A n PR ST li w WK so sp CT SC TA) ++ [(qo, .inl (cJ, 1, .inr (.inl O)))])) hP hK hD hS hA hZ hg 0 (ci := 1) rfl rfl) rfl rfl hl.1 rfl (lv_room (Nat.le_of_ble_eq_true rfl)) dL_law_190 ⟨(show (((27 + 8 * jj) + 1) + 0) + 0 ≤ 601024 by omega), (show (((20244 + 64 * jj) + 6) + 0) + 0 ≤ 7293034 by omega)⟩) hP hD hS hA (fun rr u2 H locs hq hP hD hS => ?_)
      replace hq : rr = nI 1 := hq
      subst hq
      have hP : va_P D vwCl ((wM r cI cZ cJ 1 k V C A T B P OR n PR ST li w WK so sp CT FW) ++ ((wX q cI cZ cJ k V C T B P A n PR ST li w WK so sp CT SC TA) ++ [(qo, .inl (cJ, 1, .inr (.inl O)))])) H := hP
      have hD : va_D (lA s) ((wM r cI cZ cJ 1 k V C A T B P OR n PR ST li w WK so sp CT FW) ++ ((wX q cI cZ cJ k V C T B P A n PR ST li w WK so sp CT SC TA) ++ [(qo, .inl (cJ, 1, .inr (.inl O)))])) := hD
      refine lv_iload hx hb dL_law_193 (lv_at hl 1 rfl) ?_
      refine lv_icmp_eq (tgt := 200) hx hb dL_law_195 (by decide) (fun _ => ?_) (fun h => absurd rfl h)
      refine lv_iload hx hb dL_law_200 (lv_at hl 1 rfl) ?_
      refine n_if_ne (tgt := 217) hx hb (by decide) dL_law_202 (by decide) (fun c202 => ?_) (fun c202 => ?_)
      · refine lv_goto (tgt := 1433) hx hb dL_law_217 (by decide) ?_
        refine W.widen (k := 27 + 8 * (jj + 1)) (n := 20244 + 64 * (jj + 1)) (by omega) (by omega) ?_
        exact hN 1 k V C T B P A OR n PR ST li w WK so sp CT SC TA FW O _ _ hI hP hD hS ls (lv_sub hl [2, 3, 4, 5, 6] rfl)
      · exact absurd c202 (by decide)
    · refine lv_istore (lv' := [(5, .int (nI 2)), (4, .int (nI (4 * jj))), (3, .ref qo), (2, .ref (r 0)), (1, .ref (q 0)), (0, .ref b)]) hx hb dL_law_169 hl (by decide) rfl (fun ls hl => ?_)
      refine lv_aload_n hx hb dL_law_171 rfl (lv_at hl 3 rfl) ?_
      refine lv_aload_n hx hb dL_law_172 rfl (lv_at hl 5 rfl) ?_
      refine lv_iload hx hb dL_law_173 (lv_at hl 1 rfl) ?_
      refine lv_iconst (v := nI 1) hx hb dL_law_175 (ic_1) ?_
      refine n_iadd hx hb dL_law_176 ?_
      refine n_sld hx hb hX hbl hbA hS (by omega) (by omega) dL_law_177 ?_
      refine lv_aload_n hx hb dL_law_178 rfl (lv_at hl 5 rfl) ?_
      refine lv_iload hx hb dL_law_179 (lv_at hl 1 rfl) ?_
      refine lv_iconst (v := nI 2) hx hb dL_law_181 (ic_2) ?_
      refine n_iadd hx hb dL_law_182 ?_
      refine n_sld hx hb hX hbl hbA hS (by omega) (by omega) dL_law_183 ?_
      refine k3_i (mc := 0) (ms := 0) (wa := []) (wc := (wM r cI cZ cJ th k V C A T B P OR n PR ST li w WK so sp CT FW)) (wb := ((wX q cI cZ cJ k V C T B P A n PR ST li w WK so sp CT SC TA) ++ [(qo, .inl (cJ, 1, .inr (.inl O)))])) (va_runV (As := [.int (xs ((4 * jj) + 1)), .int (xs ((4 * jj) + 2))]) (rest := []) ⟨hx, hb, hml, hown, hts⟩ (c_X1_addKind l hst D r cI cZ cJ th k V C A T B P OR n PR ST li w WK so sp CT FW H.size (xs ((4 * jj) + 1)) (xs ((4 * jj) + 2)) hI.hk8 hI.hV hI.hOR) (cwV 2 hts gL_law_X1_addKind rfl rfl rfl hd_X1_addKind ⟨(Nat.le_of_ble_eq_true rfl), (Nat.le_of_ble_eq_true rfl)⟩) (pre_V3 (wa := []) (wc := (wM r cI cZ cJ th k V C A T B P OR n PR ST li w WK so sp CT FW)) (wb := ((wX q cI cZ cJ k V C T B P A n PR ST li w WK so sp CT SC TA) ++ [(qo, .inl (cJ, 1, .inr (.inl O)))])) hP hK hD hS hA hZ hg 0 (ci := 1) rfl rfl) rfl rfl hl.1 rfl (lv_room (Nat.le_of_ble_eq_true rfl)) dL_law_184 ⟨(show ((27 + 8 * jj) + 1) + 0 ≤ 601024 by omega), (show ((20244 + 64 * jj) + 6) + 0 ≤ 7293034 by omega)⟩) hP hD hS hA (fun rr u2 H locs hq hP hD hS => ?_)
      obtain ⟨v0, v1, v2, v3, v4, v5, v6⟩ := u2
      replace hq : rr = nI v0 ∧ ((v1 = 0 ∧ ∃ i j, 1 ≤ i ∧ i < 501 ∧ j < 61 ∧ (xs ((4 * jj) + 1)) = nI i ∧ (xs ((4 * jj) + 2)) = nI j ∧ k < 8 ∧ (¬ ∃ x, x < k ∧ V x = i) ∧ v0 = k ∧ v2 = k + 1 ∧ v3 = un V k i ∧ v4 = un C k j ∧ v5 = un A k 1 ∧ ordOK (un V k i) v6 (k + 1)) ∨ (v1 = 1 ∧ ¬ (rg (xs ((4 * jj) + 1)) 1 501 ∧ rg (xs ((4 * jj) + 2)) 0 61) ∧ v2 = k ∧ v3 = V ∧ v4 = C ∧ v5 = A ∧ v6 = OR) ∨ (v1 = 2 ∧ (rg (xs ((4 * jj) + 1)) 1 501 ∧ rg (xs ((4 * jj) + 2)) 0 61) ∧ (¬ k < 8 ∨ ∃ x, x < k ∧ nI (V x) = (xs ((4 * jj) + 1))) ∧ v2 = k ∧ v3 = V ∧ v4 = C ∧ v5 = A ∧ v6 = OR)) := hq
      obtain ⟨hr9, hq⟩ := hq
      replace hr9 := hr9.symm
      subst hr9
      have hP : va_P D vwCl ((wM r cI cZ cJ v1 v2 v3 v4 v5 T B P v6 n PR ST li w WK so sp CT FW) ++ ((wX q cI cZ cJ k V C T B P A n PR ST li w WK so sp CT SC TA) ++ [(qo, .inl (cJ, 1, .inr (.inl O)))])) H := hP
      have hD : va_D (lA s) ((wM r cI cZ cJ v1 v2 v3 v4 v5 T B P v6 n PR ST li w WK so sp CT FW) ++ ((wX q cI cZ cJ k V C T B P A n PR ST li w WK so sp CT SC TA) ++ [(qo, .inl (cJ, 1, .inr (.inl O)))])) := hD
      obtain ⟨e0, f0, f1, f2, f3, hO⟩ := q_addKind_2 hI.hV hp hq
      have e0 := e0.symm
      subst e0
      have f0 := f0.symm
      subst f0
      have f1 := f1.symm
      subst f1
      have f2 := f2.symm
      subst f2
      have f3 := f3.symm
      subst f3
      have hO := hO.symm
      subst hO
      refine lv_istore (lv' := [(6, .int (nI v0)), (5, .int (nI 2)), (4, .int (nI (4 * jj))), (3, .ref qo), (2, .ref (r 0)), (1, .ref (q 0)), (0, .ref b)]) hx hb dL_law_187 hl (by decide) rfl (fun ls hl => ?_)
      refine lv_aload_n hx hb dL_law_189 rfl (lv_at hl 4 rfl) ?_
      refine k3_i (mc := 0) (ms := 0) (wa := []) (wc := (wM r cI cZ cJ 2 k V C A T B P OR n PR ST li w WK so sp CT FW)) (wb := ((wX q cI cZ cJ k V C T B P A n PR ST li w WK so sp CT SC TA) ++ [(qo, .inl (cJ, 1, .inr (.inl O)))])) (va_runV (As := []) (rest := []) ⟨hx, hb, hml, hown, hts⟩ (c_X1_thrown l hst D r cI cZ cJ 2 k V C A T B P OR n PR ST li w WK so sp CT FW H.size  ) (cwV 0 hts gL_law_X1_thrown rfl rfl rfl hd_X1_thrown ⟨(Nat.le_of_ble_eq_true rfl), (Nat.le_of_ble_eq_true rfl)⟩) (pre_V3 (wa := []) (wc := (wM r cI cZ cJ 2 k V C A T B P OR n PR ST li w WK so sp CT FW)) (wb := ((wX q cI cZ cJ k V C T B P A n PR ST li w WK so sp CT SC TA) ++ [(qo, .inl (cJ, 1, .inr (.inl O)))])) hP hK hD hS hA hZ hg 0 (ci := 1) rfl rfl) rfl rfl hl.1 rfl (lv_room (Nat.le_of_ble_eq_true rfl)) dL_law_190 ⟨(show (((27 + 8 * jj) + 1) + 0) + 0 ≤ 601024 by omega), (show (((20244 + 64 * jj) + 6) + 0) + 0 ≤ 7293034 by omega)⟩) hP hD hS hA (fun rr u2 H locs hq hP hD hS => ?_)
      replace hq : rr = nI 2 := hq
      subst hq
      have hP : va_P D vwCl ((wM r cI cZ cJ 2 k V C A T B P OR n PR ST li w WK so sp CT FW) ++ ((wX q cI cZ cJ k V C T B P A n PR ST li w WK so sp CT SC TA) ++ [(qo, .inl (cJ, 1, .inr (.inl O)))])) H := hP
      have hD : va_D (lA s) ((wM r cI cZ cJ 2 k V C A T B P OR n PR ST li w WK so sp CT FW) ++ ((wX q cI cZ cJ k V C T B P A n PR ST li w WK so sp CT SC TA) ++ [(qo, .inl (cJ, 1, .inr (.inl O)))])) := hD
      refine lv_iload hx hb dL_law_193 (lv_at hl 1 rfl) ?_
      refine lv_icmp_eq (tgt := 200) hx hb dL_law_195 (by decide) (fun _ => ?_) (fun h => absurd rfl h)
      refine lv_iload hx hb dL_law_200 (lv_at hl 1 rfl) ?_
      refine n_if_ne (tgt := 217) hx hb (by decide) dL_law_202 (by decide) (fun c202 => ?_) (fun c202 => ?_)
      · refine lv_goto (tgt := 1433) hx hb dL_law_217 (by decide) ?_
        refine W.widen (k := 27 + 8 * (jj + 1)) (n := 20244 + 64 * (jj + 1)) (by omega) (by omega) ?_
        exact hN 2 k V C T B P A OR n PR ST li w WK so sp CT SC TA FW O _ _ hI hP hD hS ls (lv_sub hl [2, 3, 4, 5, 6] rfl)
      · exact absurd c202 (by decide)

set_option maxHeartbeats 8000000 in
set_option maxRecDepth 100000 in
theorem lw_fill (hst : l.stackTraces = false) (hc : Lc p s m meth c b L xs D cI cZ cJ) {r q : Nat → Nat} {qo jj : Nat} (hj : 4 * jj + 4 ≤ L) {th : Nat} {k : Nat} {V : Nat → Nat} {C : Nat → Nat} {T : Nat → Nat} {B : Nat → Nat} {P : Nat → Nat} {A : Nat → Nat} {OR : Nat → Nat} {n : Nat} {PR : Nat → Nat} {ST : Nat → Nat} {li : Nat} {w : Nat} {WK : Nat → Nat} {so : Nat} {sp : Nat} {CT : Nat → Int64} {SC : Nat → Int} {TA : Nat → Nat} {FW : Nat → Nat} {O : Nat → Int64} {H : Heap} {locs : List Loc} (hI : IV k V C T A OR n PR ST li w WK so sp) (hP : va_P D vwCl (wL r q qo cI cZ cJ th k V C T B P A OR n PR ST li w WK so sp CT SC TA FW O) H) (hD : va_D (lA s) (wL r q qo cI cZ cJ th k V C T B P A OR n PR ST li w WK so sp CT SC TA FW O)) (hS : va_S (lA s) s.heap H locs) {ls : Array Slot} (hl : lv_has ls 9 [(4, .int (nI (4 * jj))), (3, .ref qo), (2, .ref (r 0)), (1, .ref (q 0)), (0, .ref b)]) (hN : Nx p l e s m below meth c b D r q qo cI cZ cJ Q jj) : W p l e room_1 s m #[Value.ref b] below meth c H locs (27 + 8 * jj) (20244 + 64 * jj) Q (F0 m 220 ls []) := by
  obtain ⟨hx, hb, hr, hml, hown, hts, hX, hbl, hlocks, hK, hZ, hg, hn, hL⟩ := hc
  have hA : ∀ q9 : Nat, s.heap.size ≤ q9 → lA s q9 := fun _ h => h
  have hbA : ¬ lA s b := Nat.not_le.mpr hbl
  have hP : va_P D vwCl ((wM r cI cZ cJ th k V C A T B P OR n PR ST li w WK so sp CT FW) ++ ((wX q cI cZ cJ k V C T B P A n PR ST li w WK so sp CT SC TA) ++ [(qo, .inl (cJ, 1, .inr (.inl O)))])) H := hP
  have hD : va_D (lA s) ((wM r cI cZ cJ th k V C A T B P OR n PR ST li w WK so sp CT FW) ++ ((wX q cI cZ cJ k V C T B P A n PR ST li w WK so sp CT SC TA) ++ [(qo, .inl (cJ, 1, .inr (.inl O)))])) := hD
  refine lv_aload_n hx hb dL_law_220 rfl (lv_at hl 3 rfl) ?_
  refine lv_aload_n hx hb dL_law_221 rfl (lv_at hl 4 rfl) ?_
  refine lv_iload hx hb dL_law_222 (lv_at hl 0 rfl) ?_
  refine lv_iconst (v := nI 1) hx hb dL_law_224 (ic_1) ?_
  refine n_iadd hx hb dL_law_225 ?_
  refine n_sld hx hb hX hbl hbA hS (by omega) (by omega) dL_law_226 ?_
  refine lv_aload_n hx hb dL_law_227 rfl (lv_at hl 4 rfl) ?_
  refine lv_iload hx hb dL_law_228 (lv_at hl 0 rfl) ?_
  refine lv_iconst (v := nI 2) hx hb dL_law_230 (ic_2) ?_
  refine n_iadd hx hb dL_law_231 ?_
  refine n_sld hx hb hX hbl hbA hS (by omega) (by omega) dL_law_232 ?_
  refine lv_aload_n hx hb dL_law_233 rfl (lv_at hl 1 rfl) ?_
  refine k3_i (mc := 2) (ms := 12) (wa := (wM r cI cZ cJ th k V C A T B P OR n PR ST li w WK so sp CT FW)) (wc := ((wX q cI cZ cJ k V C T B P A n PR ST li w WK so sp CT SC TA) ++ [(qo, .inl (cJ, 1, .inr (.inl O)))])) (wb := []) (vx_runSW (As := [.ref (q 0), .int (xs ((4 * jj) + 1)), .int (xs ((4 * jj) + 2)), .ref qo]) (rest := []) ⟨hx, hb, hml, hown, hts⟩ (c_L_fill l hst D q qo cI cZ cJ k V C T B P A n PR ST li w WK so sp CT SC TA O H.size (xs ((4 * jj) + 1)) (xs ((4 * jj) + 2)) hI.hk8 hI.hV hI.hC) (vx_cwSW 4 hts gL_law_L_fill rfl rfl rfl hd_L_fill.2 ⟨(Nat.le_of_ble_eq_true rfl), (Nat.le_of_ble_eq_true rfl)⟩) (pre_N (wa := (wM r cI cZ cJ th k V C A T B P OR n PR ST li w WK so sp CT FW)) (wc := ((wX q cI cZ cJ k V C T B P A n PR ST li w WK so sp CT SC TA) ++ [(qo, .inl (cJ, 1, .inr (.inl O)))])) (wb := []) hP hK hD hS hA hZ hg hn) rfl rfl hl.1 rfl (lv_room (Nat.le_of_ble_eq_true rfl)) dL_law_234 ⟨(show (27 + 8 * jj) + 2 ≤ 601024 by omega), (show (20244 + 64 * jj) + 12 ≤ 7293034 by omega)⟩) hP hD hS hA (fun rr u H locs hp hP hD hS => ?_)
  rcases u with u | kk
  · replace hp : rr = nI 0 ∧ (u.1 < k ∧ u.2 < 61 ∧ (xs ((4 * jj) + 1)) = nI u.1 ∧ (xs ((4 * jj) + 2)) = nI u.2) := hp
    obtain ⟨rfl, hp⟩ := hp
    have hP : va_P D vwCl ((wM r cI cZ cJ th k V C A T B P OR n PR ST li w WK so sp CT FW) ++ ((wX q cI cZ cJ k V C (un T u.1 (T u.1 + min u.2 (C u.1 - T u.1))) B P A n PR ST li w WK so sp (vp_updL CT 4 (CT 4 + lZ ((min u.2 (C u.1 - T u.1) * V u.1 : Nat) : Int))) SC TA) ++ [(qo, .inl (cJ, 1, .inr (.inl (vp_updL O 0 ((nI (u.2 - min u.2 (C u.1 - T u.1))).toInt64)))))])) H := hP
    have hD : va_D (lA s) ((wM r cI cZ cJ th k V C A T B P OR n PR ST li w WK so sp CT FW) ++ ((wX q cI cZ cJ k V C (un T u.1 (T u.1 + min u.2 (C u.1 - T u.1))) B P A n PR ST li w WK so sp (vp_updL CT 4 (CT 4 + lZ ((min u.2 (C u.1 - T u.1) * V u.1 : Nat) : Int))) SC TA) ++ [(qo, .inl (cJ, 1, .inr (.inl (vp_updL O 0 ((nI (u.2 - min u.2 (C u.1 - T u.1))).toInt64)))))])) := hD
    refine lv_istore (lv' := [(5, .int (nI 0)), (4, .int (nI (4 * jj))), (3, .ref qo), (2, .ref (r 0)), (1, .ref (q 0)), (0, .ref b)]) hx hb dL_law_237 hl (by decide) rfl (fun ls hl => ?_)
    refine lv_aload_n hx hb dL_law_239 rfl (lv_at hl 3 rfl) ?_
    refine lv_aload_n hx hb dL_law_240 rfl (lv_at hl 5 rfl) ?_
    refine lv_iload hx hb dL_law_241 (lv_at hl 1 rfl) ?_
    refine lv_iconst (v := nI 1) hx hb dL_law_243 (ic_1) ?_
    refine n_iadd hx hb dL_law_244 ?_
    refine n_sld hx hb hX hbl hbA hS (by omega) (by omega) dL_law_245 ?_
    refine lv_aload_n hx hb dL_law_246 rfl (lv_at hl 5 rfl) ?_
    refine lv_iload hx hb dL_law_247 (lv_at hl 1 rfl) ?_
    refine lv_iconst (v := nI 2) hx hb dL_law_249 (ic_2) ?_
    refine n_iadd hx hb dL_law_250 ?_
    refine n_sld hx hb hX hbl hbA hS (by omega) (by omega) dL_law_251 ?_
    refine k3_i (mc := 0) (ms := 0) (wa := []) (wc := (wM r cI cZ cJ th k V C A T B P OR n PR ST li w WK so sp CT FW)) (wb := ((wX q cI cZ cJ k V C (un T u.1 (T u.1 + min u.2 (C u.1 - T u.1))) B P A n PR ST li w WK so sp (vp_updL CT 4 (CT 4 + lZ ((min u.2 (C u.1 - T u.1) * V u.1 : Nat) : Int))) SC TA) ++ [(qo, .inl (cJ, 1, .inr (.inl (vp_updL O 0 ((nI (u.2 - min u.2 (C u.1 - T u.1))).toInt64)))))])) (va_runV (As := [.int (xs ((4 * jj) + 1)), .int (xs ((4 * jj) + 2))]) (rest := []) ⟨hx, hb, hml, hown, hts⟩ (c_X1_fill l hst D r cI cZ cJ th k V C A T B P OR n PR ST li w WK so sp CT FW H.size (xs ((4 * jj) + 1)) (xs ((4 * jj) + 2)) hI.hk8 hI.hV hI.hC) (cwV 2 hts gL_law_X1_fill rfl rfl rfl hd_X1_fill ⟨(Nat.le_of_ble_eq_true rfl), (Nat.le_of_ble_eq_true rfl)⟩) (pre_V3 (wa := []) (wc := (wM r cI cZ cJ th k V C A T B P OR n PR ST li w WK so sp CT FW)) (wb := ((wX q cI cZ cJ k V C (un T u.1 (T u.1 + min u.2 (C u.1 - T u.1))) B P A n PR ST li w WK so sp (vp_updL CT 4 (CT 4 + lZ ((min u.2 (C u.1 - T u.1) * V u.1 : Nat) : Int))) SC TA) ++ [(qo, .inl (cJ, 1, .inr (.inl (vp_updL O 0 ((nI (u.2 - min u.2 (C u.1 - T u.1))).toInt64)))))])) hP hK hD hS hA hZ hg 0 (ci := 1) rfl rfl) rfl rfl hl.1 rfl (lv_room (Nat.le_of_ble_eq_true rfl)) dL_law_252 ⟨(show ((27 + 8 * jj) + 2) + 0 ≤ 601024 by omega), (show ((20244 + 64 * jj) + 12) + 0 ≤ 7293034 by omega)⟩) hP hD hS hA (fun rr u2 H locs hq hP hD hS => ?_)
    obtain ⟨v0, v1, v2, v3⟩ := u2
    replace hq : rr = nI v0 ∧ ((v1 = 0 ∧ ∃ i j, i < k ∧ j < 61 ∧ (xs ((4 * jj) + 1)) = nI i ∧ (xs ((4 * jj) + 2)) = nI j ∧ v0 = j - min j (C i - T i) ∧ v2 = un T i (T i + min j (C i - T i)) ∧ v3 = vp_updL CT 4 (CT 4 + lZ ((min j (C i - T i) * V i : Nat) : Int))) ∨ (v1 = 1 ∧ ¬ rg (xs ((4 * jj) + 1)) 0 k ∧ v2 = T ∧ v3 = CT) ∨ (v1 = 2 ∧ rg (xs ((4 * jj) + 1)) 0 k ∧ ¬ rg (xs ((4 * jj) + 2)) 0 61 ∧ v2 = T ∧ v3 = CT)) := hq
    obtain ⟨hr9, hq⟩ := hq
    replace hr9 := hr9.symm
    subst hr9
    have hP : va_P D vwCl ((wM r cI cZ cJ v1 k V C A v2 B P OR n PR ST li w WK so sp v3 FW) ++ ((wX q cI cZ cJ k V C (un T u.1 (T u.1 + min u.2 (C u.1 - T u.1))) B P A n PR ST li w WK so sp (vp_updL CT 4 (CT 4 + lZ ((min u.2 (C u.1 - T u.1) * V u.1 : Nat) : Int))) SC TA) ++ [(qo, .inl (cJ, 1, .inr (.inl (vp_updL O 0 ((nI (u.2 - min u.2 (C u.1 - T u.1))).toInt64)))))])) H := hP
    have hD : va_D (lA s) ((wM r cI cZ cJ v1 k V C A v2 B P OR n PR ST li w WK so sp v3 FW) ++ ((wX q cI cZ cJ k V C (un T u.1 (T u.1 + min u.2 (C u.1 - T u.1))) B P A n PR ST li w WK so sp (vp_updL CT 4 (CT 4 + lZ ((min u.2 (C u.1 - T u.1) * V u.1 : Nat) : Int))) SC TA) ++ [(qo, .inl (cJ, 1, .inr (.inl (vp_updL O 0 ((nI (u.2 - min u.2 (C u.1 - T u.1))).toInt64)))))])) := hD
    obtain ⟨e0, e1, f0, f1⟩ := q_fill_0 hI.hk8 hp hq
    have e0 := e0.symm
    subst e0
    have e1 := e1.symm
    subst e1
    have f0 := f0.symm
    subst f0
    have f1 := f1.symm
    subst f1
    have hI2 := iv_fill (j := u.2) hI hp.1
    refine lv_istore (lv' := [(6, .int (nI (u.2 - min u.2 (C u.1 - T u.1)))), (5, .int (nI 0)), (4, .int (nI (4 * jj))), (3, .ref qo), (2, .ref (r 0)), (1, .ref (q 0)), (0, .ref b)]) hx hb dL_law_255 hl (by decide) rfl (fun ls hl => ?_)
    refine lv_aload_n hx hb dL_law_257 rfl (lv_at hl 4 rfl) ?_
    refine k3_i (mc := 0) (ms := 0) (wa := []) (wc := (wM r cI cZ cJ 0 k V C A (un T u.1 (T u.1 + min u.2 (C u.1 - T u.1))) B P OR n PR ST li w WK so sp (vp_updL CT 4 (CT 4 + lZ ((min u.2 (C u.1 - T u.1) * V u.1 : Nat) : Int))) FW)) (wb := ((wX q cI cZ cJ k V C (un T u.1 (T u.1 + min u.2 (C u.1 - T u.1))) B P A n PR ST li w WK so sp (vp_updL CT 4 (CT 4 + lZ ((min u.2 (C u.1 - T u.1) * V u.1 : Nat) : Int))) SC TA) ++ [(qo, .inl (cJ, 1, .inr (.inl (vp_updL O 0 ((nI (u.2 - min u.2 (C u.1 - T u.1))).toInt64)))))])) (va_runV (As := []) (rest := []) ⟨hx, hb, hml, hown, hts⟩ (c_X1_thrown l hst D r cI cZ cJ 0 k V C A (un T u.1 (T u.1 + min u.2 (C u.1 - T u.1))) B P OR n PR ST li w WK so sp (vp_updL CT 4 (CT 4 + lZ ((min u.2 (C u.1 - T u.1) * V u.1 : Nat) : Int))) FW H.size  ) (cwV 0 hts gL_law_X1_thrown rfl rfl rfl hd_X1_thrown ⟨(Nat.le_of_ble_eq_true rfl), (Nat.le_of_ble_eq_true rfl)⟩) (pre_V3 (wa := []) (wc := (wM r cI cZ cJ 0 k V C A (un T u.1 (T u.1 + min u.2 (C u.1 - T u.1))) B P OR n PR ST li w WK so sp (vp_updL CT 4 (CT 4 + lZ ((min u.2 (C u.1 - T u.1) * V u.1 : Nat) : Int))) FW)) (wb := ((wX q cI cZ cJ k V C (un T u.1 (T u.1 + min u.2 (C u.1 - T u.1))) B P A n PR ST li w WK so sp (vp_updL CT 4 (CT 4 + lZ ((min u.2 (C u.1 - T u.1) * V u.1 : Nat) : Int))) SC TA) ++ [(qo, .inl (cJ, 1, .inr (.inl (vp_updL O 0 ((nI (u.2 - min u.2 (C u.1 - T u.1))).toInt64)))))])) hP hK hD hS hA hZ hg 0 (ci := 1) rfl rfl) rfl rfl hl.1 rfl (lv_room (Nat.le_of_ble_eq_true rfl)) dL_law_258 ⟨(show (((27 + 8 * jj) + 2) + 0) + 0 ≤ 601024 by omega), (show (((20244 + 64 * jj) + 12) + 0) + 0 ≤ 7293034 by omega)⟩) hP hD hS hA (fun rr u2 H locs hq hP hD hS => ?_)
    replace hq : rr = nI 0 := hq
    subst hq
    have hP : va_P D vwCl ((wM r cI cZ cJ 0 k V C A (un T u.1 (T u.1 + min u.2 (C u.1 - T u.1))) B P OR n PR ST li w WK so sp (vp_updL CT 4 (CT 4 + lZ ((min u.2 (C u.1 - T u.1) * V u.1 : Nat) : Int))) FW) ++ ((wX q cI cZ cJ k V C (un T u.1 (T u.1 + min u.2 (C u.1 - T u.1))) B P A n PR ST li w WK so sp (vp_updL CT 4 (CT 4 + lZ ((min u.2 (C u.1 - T u.1) * V u.1 : Nat) : Int))) SC TA) ++ [(qo, .inl (cJ, 1, .inr (.inl (vp_updL O 0 ((nI (u.2 - min u.2 (C u.1 - T u.1))).toInt64)))))])) H := hP
    have hD : va_D (lA s) ((wM r cI cZ cJ 0 k V C A (un T u.1 (T u.1 + min u.2 (C u.1 - T u.1))) B P OR n PR ST li w WK so sp (vp_updL CT 4 (CT 4 + lZ ((min u.2 (C u.1 - T u.1) * V u.1 : Nat) : Int))) FW) ++ ((wX q cI cZ cJ k V C (un T u.1 (T u.1 + min u.2 (C u.1 - T u.1))) B P A n PR ST li w WK so sp (vp_updL CT 4 (CT 4 + lZ ((min u.2 (C u.1 - T u.1) * V u.1 : Nat) : Int))) SC TA) ++ [(qo, .inl (cJ, 1, .inr (.inl (vp_updL O 0 ((nI (u.2 - min u.2 (C u.1 - T u.1))).toInt64)))))])) := hD
    refine lv_iload hx hb dL_law_261 (lv_at hl 1 rfl) ?_
    refine lv_icmp_eq (tgt := 268) hx hb dL_law_263 (by decide) (fun _ => ?_) (fun h => absurd rfl h)
    refine lv_iload hx hb dL_law_268 (lv_at hl 1 rfl) ?_
    refine n_if_ne (tgt := 285) hx hb (by decide) dL_law_270 (by decide) (fun c270 => ?_) (fun c270 => ?_)
    · exact absurd c270 (by decide)
    · refine lv_aload_n hx hb dL_law_273 rfl (lv_at hl 3 rfl) ?_
      refine lv_iconst (v := nI 0) hx hb dL_law_274 (ic_0) ?_
      refine n_lald hx hb hK hP 26 2 rfl rfl (by decide) (by decide) dL_law_275 ?_
      refine n_topl (show (vp_updL O 0 ((nI (u.2 - min u.2 (C u.1 - T u.1))).toInt64)) 0 = (nI (u.2 - min u.2 (C u.1 - T u.1))).toInt64 from updL_s) ?_
      refine lv_iload hx hb dL_law_276 (lv_at hl 0 rfl) ?_
      refine lv_i2l hx hb dL_law_278 rfl ?_
      refine n_lcmp_eq (tgt := 285) hx hb dL_law_279 dL_law_280 (by decide) (fun _ => ?_) (fun h => absurd rfl h)
      refine lv_goto (tgt := 1433) hx hb dL_law_285 (by decide) ?_
      refine W.widen (k := 27 + 8 * (jj + 1)) (n := 20244 + 64 * (jj + 1)) (by omega) (by omega) ?_
      exact hN 0 k V C (un T u.1 (T u.1 + min u.2 (C u.1 - T u.1))) B P A OR n PR ST li w WK so sp (vp_updL CT 4 (CT 4 + lZ ((min u.2 (C u.1 - T u.1) * V u.1 : Nat) : Int))) SC TA FW (vp_updL O 0 ((nI (u.2 - min u.2 (C u.1 - T u.1))).toInt64)) _ _ hI2 hP hD hS ls (lv_sub hl [2, 3, 4, 5, 6] rfl)
  · replace hp : rr = nI kk ∧ ((kk = 1 ∧ (¬ rg (xs ((4 * jj) + 1)) 0 k)) ∨ (kk = 2 ∧ (rg (xs ((4 * jj) + 1)) 0 k ∧ ¬ rg (xs ((4 * jj) + 2)) 0 61))) := hp
    obtain ⟨rfl, hp⟩ := hp
    have hP : va_P D vwCl ((wM r cI cZ cJ th k V C A T B P OR n PR ST li w WK so sp CT FW) ++ ((wX q cI cZ cJ k V C T B P A n PR ST li w WK so sp CT SC TA) ++ [(qo, .inl (cJ, 1, .inr (.inl O)))])) H := hP
    have hD : va_D (lA s) ((wM r cI cZ cJ th k V C A T B P OR n PR ST li w WK so sp CT FW) ++ ((wX q cI cZ cJ k V C T B P A n PR ST li w WK so sp CT SC TA) ++ [(qo, .inl (cJ, 1, .inr (.inl O)))])) := hD
    rcases hp with ⟨rfl, hp⟩ | ⟨rfl, hp⟩
    · refine lv_istore (lv' := [(5, .int (nI 1)), (4, .int (nI (4 * jj))), (3, .ref qo), (2, .ref (r 0)), (1, .ref (q 0)), (0, .ref b)]) hx hb dL_law_237 hl (by decide) rfl (fun ls hl => ?_)
      refine lv_aload_n hx hb dL_law_239 rfl (lv_at hl 3 rfl) ?_
      refine lv_aload_n hx hb dL_law_240 rfl (lv_at hl 5 rfl) ?_
      refine lv_iload hx hb dL_law_241 (lv_at hl 1 rfl) ?_
      refine lv_iconst (v := nI 1) hx hb dL_law_243 (ic_1) ?_
      refine n_iadd hx hb dL_law_244 ?_
      refine n_sld hx hb hX hbl hbA hS (by omega) (by omega) dL_law_245 ?_
      refine lv_aload_n hx hb dL_law_246 rfl (lv_at hl 5 rfl) ?_
      refine lv_iload hx hb dL_law_247 (lv_at hl 1 rfl) ?_
      refine lv_iconst (v := nI 2) hx hb dL_law_249 (ic_2) ?_
      refine n_iadd hx hb dL_law_250 ?_
      refine n_sld hx hb hX hbl hbA hS (by omega) (by omega) dL_law_251 ?_
      refine k3_i (mc := 0) (ms := 0) (wa := []) (wc := (wM r cI cZ cJ th k V C A T B P OR n PR ST li w WK so sp CT FW)) (wb := ((wX q cI cZ cJ k V C T B P A n PR ST li w WK so sp CT SC TA) ++ [(qo, .inl (cJ, 1, .inr (.inl O)))])) (va_runV (As := [.int (xs ((4 * jj) + 1)), .int (xs ((4 * jj) + 2))]) (rest := []) ⟨hx, hb, hml, hown, hts⟩ (c_X1_fill l hst D r cI cZ cJ th k V C A T B P OR n PR ST li w WK so sp CT FW H.size (xs ((4 * jj) + 1)) (xs ((4 * jj) + 2)) hI.hk8 hI.hV hI.hC) (cwV 2 hts gL_law_X1_fill rfl rfl rfl hd_X1_fill ⟨(Nat.le_of_ble_eq_true rfl), (Nat.le_of_ble_eq_true rfl)⟩) (pre_V3 (wa := []) (wc := (wM r cI cZ cJ th k V C A T B P OR n PR ST li w WK so sp CT FW)) (wb := ((wX q cI cZ cJ k V C T B P A n PR ST li w WK so sp CT SC TA) ++ [(qo, .inl (cJ, 1, .inr (.inl O)))])) hP hK hD hS hA hZ hg 0 (ci := 1) rfl rfl) rfl rfl hl.1 rfl (lv_room (Nat.le_of_ble_eq_true rfl)) dL_law_252 ⟨(show ((27 + 8 * jj) + 2) + 0 ≤ 601024 by omega), (show ((20244 + 64 * jj) + 12) + 0 ≤ 7293034 by omega)⟩) hP hD hS hA (fun rr u2 H locs hq hP hD hS => ?_)
      obtain ⟨v0, v1, v2, v3⟩ := u2
      replace hq : rr = nI v0 ∧ ((v1 = 0 ∧ ∃ i j, i < k ∧ j < 61 ∧ (xs ((4 * jj) + 1)) = nI i ∧ (xs ((4 * jj) + 2)) = nI j ∧ v0 = j - min j (C i - T i) ∧ v2 = un T i (T i + min j (C i - T i)) ∧ v3 = vp_updL CT 4 (CT 4 + lZ ((min j (C i - T i) * V i : Nat) : Int))) ∨ (v1 = 1 ∧ ¬ rg (xs ((4 * jj) + 1)) 0 k ∧ v2 = T ∧ v3 = CT) ∨ (v1 = 2 ∧ rg (xs ((4 * jj) + 1)) 0 k ∧ ¬ rg (xs ((4 * jj) + 2)) 0 61 ∧ v2 = T ∧ v3 = CT)) := hq
      obtain ⟨hr9, hq⟩ := hq
      replace hr9 := hr9.symm
      subst hr9
      have hP : va_P D vwCl ((wM r cI cZ cJ v1 k V C A v2 B P OR n PR ST li w WK so sp v3 FW) ++ ((wX q cI cZ cJ k V C T B P A n PR ST li w WK so sp CT SC TA) ++ [(qo, .inl (cJ, 1, .inr (.inl O)))])) H := hP
      have hD : va_D (lA s) ((wM r cI cZ cJ v1 k V C A v2 B P OR n PR ST li w WK so sp v3 FW) ++ ((wX q cI cZ cJ k V C T B P A n PR ST li w WK so sp CT SC TA) ++ [(qo, .inl (cJ, 1, .inr (.inl O)))])) := hD
      obtain ⟨e0, f0, f1⟩ := q_fill_1 hI.hk8 hp hq
      have e0 := e0.symm
      subst e0
      have f0 := f0.symm
      subst f0
      have f1 := f1.symm
      subst f1
      refine lv_istore (lv' := [(6, .int (nI v0)), (5, .int (nI 1)), (4, .int (nI (4 * jj))), (3, .ref qo), (2, .ref (r 0)), (1, .ref (q 0)), (0, .ref b)]) hx hb dL_law_255 hl (by decide) rfl (fun ls hl => ?_)
      refine lv_aload_n hx hb dL_law_257 rfl (lv_at hl 4 rfl) ?_
      refine k3_i (mc := 0) (ms := 0) (wa := []) (wc := (wM r cI cZ cJ 1 k V C A T B P OR n PR ST li w WK so sp CT FW)) (wb := ((wX q cI cZ cJ k V C T B P A n PR ST li w WK so sp CT SC TA) ++ [(qo, .inl (cJ, 1, .inr (.inl O)))])) (va_runV (As := []) (rest := []) ⟨hx, hb, hml, hown, hts⟩ (c_X1_thrown l hst D r cI cZ cJ 1 k V C A T B P OR n PR ST li w WK so sp CT FW H.size  ) (cwV 0 hts gL_law_X1_thrown rfl rfl rfl hd_X1_thrown ⟨(Nat.le_of_ble_eq_true rfl), (Nat.le_of_ble_eq_true rfl)⟩) (pre_V3 (wa := []) (wc := (wM r cI cZ cJ 1 k V C A T B P OR n PR ST li w WK so sp CT FW)) (wb := ((wX q cI cZ cJ k V C T B P A n PR ST li w WK so sp CT SC TA) ++ [(qo, .inl (cJ, 1, .inr (.inl O)))])) hP hK hD hS hA hZ hg 0 (ci := 1) rfl rfl) rfl rfl hl.1 rfl (lv_room (Nat.le_of_ble_eq_true rfl)) dL_law_258 ⟨(show (((27 + 8 * jj) + 2) + 0) + 0 ≤ 601024 by omega), (show (((20244 + 64 * jj) + 12) + 0) + 0 ≤ 7293034 by omega)⟩) hP hD hS hA (fun rr u2 H locs hq hP hD hS => ?_)
      replace hq : rr = nI 1 := hq
      subst hq
      have hP : va_P D vwCl ((wM r cI cZ cJ 1 k V C A T B P OR n PR ST li w WK so sp CT FW) ++ ((wX q cI cZ cJ k V C T B P A n PR ST li w WK so sp CT SC TA) ++ [(qo, .inl (cJ, 1, .inr (.inl O)))])) H := hP
      have hD : va_D (lA s) ((wM r cI cZ cJ 1 k V C A T B P OR n PR ST li w WK so sp CT FW) ++ ((wX q cI cZ cJ k V C T B P A n PR ST li w WK so sp CT SC TA) ++ [(qo, .inl (cJ, 1, .inr (.inl O)))])) := hD
      refine lv_iload hx hb dL_law_261 (lv_at hl 1 rfl) ?_
      refine lv_icmp_eq (tgt := 268) hx hb dL_law_263 (by decide) (fun _ => ?_) (fun h => absurd rfl h)
      refine lv_iload hx hb dL_law_268 (lv_at hl 1 rfl) ?_
      refine n_if_ne (tgt := 285) hx hb (by decide) dL_law_270 (by decide) (fun c270 => ?_) (fun c270 => ?_)
      · refine lv_goto (tgt := 1433) hx hb dL_law_285 (by decide) ?_
        refine W.widen (k := 27 + 8 * (jj + 1)) (n := 20244 + 64 * (jj + 1)) (by omega) (by omega) ?_
        exact hN 1 k V C T B P A OR n PR ST li w WK so sp CT SC TA FW O _ _ hI hP hD hS ls (lv_sub hl [2, 3, 4, 5, 6] rfl)
      · exact absurd c270 (by decide)
    · refine lv_istore (lv' := [(5, .int (nI 2)), (4, .int (nI (4 * jj))), (3, .ref qo), (2, .ref (r 0)), (1, .ref (q 0)), (0, .ref b)]) hx hb dL_law_237 hl (by decide) rfl (fun ls hl => ?_)
      refine lv_aload_n hx hb dL_law_239 rfl (lv_at hl 3 rfl) ?_
      refine lv_aload_n hx hb dL_law_240 rfl (lv_at hl 5 rfl) ?_
      refine lv_iload hx hb dL_law_241 (lv_at hl 1 rfl) ?_
      refine lv_iconst (v := nI 1) hx hb dL_law_243 (ic_1) ?_
      refine n_iadd hx hb dL_law_244 ?_
      refine n_sld hx hb hX hbl hbA hS (by omega) (by omega) dL_law_245 ?_
      refine lv_aload_n hx hb dL_law_246 rfl (lv_at hl 5 rfl) ?_
      refine lv_iload hx hb dL_law_247 (lv_at hl 1 rfl) ?_
      refine lv_iconst (v := nI 2) hx hb dL_law_249 (ic_2) ?_
      refine n_iadd hx hb dL_law_250 ?_
      refine n_sld hx hb hX hbl hbA hS (by omega) (by omega) dL_law_251 ?_
      refine k3_i (mc := 0) (ms := 0) (wa := []) (wc := (wM r cI cZ cJ th k V C A T B P OR n PR ST li w WK so sp CT FW)) (wb := ((wX q cI cZ cJ k V C T B P A n PR ST li w WK so sp CT SC TA) ++ [(qo, .inl (cJ, 1, .inr (.inl O)))])) (va_runV (As := [.int (xs ((4 * jj) + 1)), .int (xs ((4 * jj) + 2))]) (rest := []) ⟨hx, hb, hml, hown, hts⟩ (c_X1_fill l hst D r cI cZ cJ th k V C A T B P OR n PR ST li w WK so sp CT FW H.size (xs ((4 * jj) + 1)) (xs ((4 * jj) + 2)) hI.hk8 hI.hV hI.hC) (cwV 2 hts gL_law_X1_fill rfl rfl rfl hd_X1_fill ⟨(Nat.le_of_ble_eq_true rfl), (Nat.le_of_ble_eq_true rfl)⟩) (pre_V3 (wa := []) (wc := (wM r cI cZ cJ th k V C A T B P OR n PR ST li w WK so sp CT FW)) (wb := ((wX q cI cZ cJ k V C T B P A n PR ST li w WK so sp CT SC TA) ++ [(qo, .inl (cJ, 1, .inr (.inl O)))])) hP hK hD hS hA hZ hg 0 (ci := 1) rfl rfl) rfl rfl hl.1 rfl (lv_room (Nat.le_of_ble_eq_true rfl)) dL_law_252 ⟨(show ((27 + 8 * jj) + 2) + 0 ≤ 601024 by omega), (show ((20244 + 64 * jj) + 12) + 0 ≤ 7293034 by omega)⟩) hP hD hS hA (fun rr u2 H locs hq hP hD hS => ?_)
      obtain ⟨v0, v1, v2, v3⟩ := u2
      replace hq : rr = nI v0 ∧ ((v1 = 0 ∧ ∃ i j, i < k ∧ j < 61 ∧ (xs ((4 * jj) + 1)) = nI i ∧ (xs ((4 * jj) + 2)) = nI j ∧ v0 = j - min j (C i - T i) ∧ v2 = un T i (T i + min j (C i - T i)) ∧ v3 = vp_updL CT 4 (CT 4 + lZ ((min j (C i - T i) * V i : Nat) : Int))) ∨ (v1 = 1 ∧ ¬ rg (xs ((4 * jj) + 1)) 0 k ∧ v2 = T ∧ v3 = CT) ∨ (v1 = 2 ∧ rg (xs ((4 * jj) + 1)) 0 k ∧ ¬ rg (xs ((4 * jj) + 2)) 0 61 ∧ v2 = T ∧ v3 = CT)) := hq
      obtain ⟨hr9, hq⟩ := hq
      replace hr9 := hr9.symm
      subst hr9
      have hP : va_P D vwCl ((wM r cI cZ cJ v1 k V C A v2 B P OR n PR ST li w WK so sp v3 FW) ++ ((wX q cI cZ cJ k V C T B P A n PR ST li w WK so sp CT SC TA) ++ [(qo, .inl (cJ, 1, .inr (.inl O)))])) H := hP
      have hD : va_D (lA s) ((wM r cI cZ cJ v1 k V C A v2 B P OR n PR ST li w WK so sp v3 FW) ++ ((wX q cI cZ cJ k V C T B P A n PR ST li w WK so sp CT SC TA) ++ [(qo, .inl (cJ, 1, .inr (.inl O)))])) := hD
      obtain ⟨e0, f0, f1⟩ := q_fill_2 hI.hk8 hp hq
      have e0 := e0.symm
      subst e0
      have f0 := f0.symm
      subst f0
      have f1 := f1.symm
      subst f1
      refine lv_istore (lv' := [(6, .int (nI v0)), (5, .int (nI 2)), (4, .int (nI (4 * jj))), (3, .ref qo), (2, .ref (r 0)), (1, .ref (q 0)), (0, .ref b)]) hx hb dL_law_255 hl (by decide) rfl (fun ls hl => ?_)
      refine lv_aload_n hx hb dL_law_257 rfl (lv_at hl 4 rfl) ?_
      refine k3_i (mc := 0) (ms := 0) (wa := []) (wc := (wM r cI cZ cJ 2 k V C A T B P OR n PR ST li w WK so sp CT FW)) (wb := ((wX q cI cZ cJ k V C T B P A n PR ST li w WK so sp CT SC TA) ++ [(qo, .inl (cJ, 1, .inr (.inl O)))])) (va_runV (As := []) (rest := []) ⟨hx, hb, hml, hown, hts⟩ (c_X1_thrown l hst D r cI cZ cJ 2 k V C A T B P OR n PR ST li w WK so sp CT FW H.size  ) (cwV 0 hts gL_law_X1_thrown rfl rfl rfl hd_X1_thrown ⟨(Nat.le_of_ble_eq_true rfl), (Nat.le_of_ble_eq_true rfl)⟩) (pre_V3 (wa := []) (wc := (wM r cI cZ cJ 2 k V C A T B P OR n PR ST li w WK so sp CT FW)) (wb := ((wX q cI cZ cJ k V C T B P A n PR ST li w WK so sp CT SC TA) ++ [(qo, .inl (cJ, 1, .inr (.inl O)))])) hP hK hD hS hA hZ hg 0 (ci := 1) rfl rfl) rfl rfl hl.1 rfl (lv_room (Nat.le_of_ble_eq_true rfl)) dL_law_258 ⟨(show (((27 + 8 * jj) + 2) + 0) + 0 ≤ 601024 by omega), (show (((20244 + 64 * jj) + 12) + 0) + 0 ≤ 7293034 by omega)⟩) hP hD hS hA (fun rr u2 H locs hq hP hD hS => ?_)
      replace hq : rr = nI 2 := hq
      subst hq
      have hP : va_P D vwCl ((wM r cI cZ cJ 2 k V C A T B P OR n PR ST li w WK so sp CT FW) ++ ((wX q cI cZ cJ k V C T B P A n PR ST li w WK so sp CT SC TA) ++ [(qo, .inl (cJ, 1, .inr (.inl O)))])) H := hP
      have hD : va_D (lA s) ((wM r cI cZ cJ 2 k V C A T B P OR n PR ST li w WK so sp CT FW) ++ ((wX q cI cZ cJ k V C T B P A n PR ST li w WK so sp CT SC TA) ++ [(qo, .inl (cJ, 1, .inr (.inl O)))])) := hD
      refine lv_iload hx hb dL_law_261 (lv_at hl 1 rfl) ?_
      refine lv_icmp_eq (tgt := 268) hx hb dL_law_263 (by decide) (fun _ => ?_) (fun h => absurd rfl h)
      refine lv_iload hx hb dL_law_268 (lv_at hl 1 rfl) ?_
      refine n_if_ne (tgt := 285) hx hb (by decide) dL_law_270 (by decide) (fun c270 => ?_) (fun c270 => ?_)
      · refine lv_goto (tgt := 1433) hx hb dL_law_285 (by decide) ?_
        refine W.widen (k := 27 + 8 * (jj + 1)) (n := 20244 + 64 * (jj + 1)) (by omega) (by omega) ?_
        exact hN 2 k V C T B P A OR n PR ST li w WK so sp CT SC TA FW O _ _ hI hP hD hS ls (lv_sub hl [2, 3, 4, 5, 6] rfl)
      · exact absurd c270 (by decide)

set_option maxHeartbeats 8000000 in
set_option maxRecDepth 100000 in
theorem lw_take (hst : l.stackTraces = false) (hc : Lc p s m meth c b L xs D cI cZ cJ) {r q : Nat → Nat} {qo jj : Nat} (hj : 4 * jj + 4 ≤ L) {th : Nat} {k : Nat} {V : Nat → Nat} {C : Nat → Nat} {T : Nat → Nat} {B : Nat → Nat} {P : Nat → Nat} {A : Nat → Nat} {OR : Nat → Nat} {n : Nat} {PR : Nat → Nat} {ST : Nat → Nat} {li : Nat} {w : Nat} {WK : Nat → Nat} {so : Nat} {sp : Nat} {CT : Nat → Int64} {SC : Nat → Int} {TA : Nat → Nat} {FW : Nat → Nat} {O : Nat → Int64} {H : Heap} {locs : List Loc} (hI : IV k V C T A OR n PR ST li w WK so sp) (hP : va_P D vwCl (wL r q qo cI cZ cJ th k V C T B P A OR n PR ST li w WK so sp CT SC TA FW O) H) (hD : va_D (lA s) (wL r q qo cI cZ cJ th k V C T B P A OR n PR ST li w WK so sp CT SC TA FW O)) (hS : va_S (lA s) s.heap H locs) {ls : Array Slot} (hl : lv_has ls 9 [(4, .int (nI (4 * jj))), (3, .ref qo), (2, .ref (r 0)), (1, .ref (q 0)), (0, .ref b)]) (hN : Nx p l e s m below meth c b D r q qo cI cZ cJ Q jj) : W p l e room_1 s m #[Value.ref b] below meth c H locs (27 + 8 * jj) (20244 + 64 * jj) Q (F0 m 288 ls []) := by
  obtain ⟨hx, hb, hr, hml, hown, hts, hX, hbl, hlocks, hK, hZ, hg, hn, hL⟩ := hc
  have hA : ∀ q9 : Nat, s.heap.size ≤ q9 → lA s q9 := fun _ h => h
  have hbA : ¬ lA s b := Nat.not_le.mpr hbl
  have hP : va_P D vwCl ((wM r cI cZ cJ th k V C A T B P OR n PR ST li w WK so sp CT FW) ++ ((wX q cI cZ cJ k V C T B P A n PR ST li w WK so sp CT SC TA) ++ [(qo, .inl (cJ, 1, .inr (.inl O)))])) H := hP
  have hD : va_D (lA s) ((wM r cI cZ cJ th k V C A T B P OR n PR ST li w WK so sp CT FW) ++ ((wX q cI cZ cJ k V C T B P A n PR ST li w WK so sp CT SC TA) ++ [(qo, .inl (cJ, 1, .inr (.inl O)))])) := hD
  refine lv_aload_n hx hb dL_law_288 rfl (lv_at hl 3 rfl) ?_
  refine lv_aload_n hx hb dL_law_289 rfl (lv_at hl 4 rfl) ?_
  refine lv_iload hx hb dL_law_290 (lv_at hl 0 rfl) ?_
  refine lv_iconst (v := nI 1) hx hb dL_law_292 (ic_1) ?_
  refine n_iadd hx hb dL_law_293 ?_
  refine n_sld hx hb hX hbl hbA hS (by omega) (by omega) dL_law_294 ?_
  refine lv_aload_n hx hb dL_law_295 rfl (lv_at hl 4 rfl) ?_
  refine lv_iload hx hb dL_law_296 (lv_at hl 0 rfl) ?_
  refine lv_iconst (v := nI 2) hx hb dL_law_298 (ic_2) ?_
  refine n_iadd hx hb dL_law_299 ?_
  refine n_sld hx hb hX hbl hbA hS (by omega) (by omega) dL_law_300 ?_
  refine lv_aload_n hx hb dL_law_301 rfl (lv_at hl 1 rfl) ?_
  refine k3_i (mc := 2) (ms := 12) (wa := (wM r cI cZ cJ th k V C A T B P OR n PR ST li w WK so sp CT FW)) (wc := ((wX q cI cZ cJ k V C T B P A n PR ST li w WK so sp CT SC TA) ++ [(qo, .inl (cJ, 1, .inr (.inl O)))])) (wb := []) (vx_runSW (As := [.ref (q 0), .int (xs ((4 * jj) + 1)), .int (xs ((4 * jj) + 2)), .ref qo]) (rest := []) ⟨hx, hb, hml, hown, hts⟩ (c_L_take l hst D q qo cI cZ cJ k V C T B P A n PR ST li w WK so sp CT SC TA O H.size (xs ((4 * jj) + 1)) (xs ((4 * jj) + 2)) hI.hk8 hI.hV hI.hC) (vx_cwSW 4 hts gL_law_L_take rfl rfl rfl hd_L_take.2 ⟨(Nat.le_of_ble_eq_true rfl), (Nat.le_of_ble_eq_true rfl)⟩) (pre_N (wa := (wM r cI cZ cJ th k V C A T B P OR n PR ST li w WK so sp CT FW)) (wc := ((wX q cI cZ cJ k V C T B P A n PR ST li w WK so sp CT SC TA) ++ [(qo, .inl (cJ, 1, .inr (.inl O)))])) (wb := []) hP hK hD hS hA hZ hg hn) rfl rfl hl.1 rfl (lv_room (Nat.le_of_ble_eq_true rfl)) dL_law_302 ⟨(show (27 + 8 * jj) + 2 ≤ 601024 by omega), (show (20244 + 64 * jj) + 12 ≤ 7293034 by omega)⟩) hP hD hS hA (fun rr u H locs hp hP hD hS => ?_)
  rcases u with u | kk
  · replace hp : rr = nI 0 ∧ (u.1 < k ∧ u.2 < 61 ∧ (xs ((4 * jj) + 1)) = nI u.1 ∧ (xs ((4 * jj) + 2)) = nI u.2) := hp
    obtain ⟨rfl, hp⟩ := hp
    have hP : va_P D vwCl ((wM r cI cZ cJ th k V C A T B P OR n PR ST li w WK so sp CT FW) ++ ((wX q cI cZ cJ k V C (un T u.1 (T u.1 - min u.2 (T u.1))) B P A n PR ST li w WK so sp (vp_updL CT 5 (CT 5 + lZ ((min u.2 (T u.1) * V u.1 : Nat) : Int))) SC TA) ++ [(qo, .inl (cJ, 1, .inr (.inl (vp_updL O 0 ((nI (min u.2 (T u.1))).toInt64)))))])) H := hP
    have hD : va_D (lA s) ((wM r cI cZ cJ th k V C A T B P OR n PR ST li w WK so sp CT FW) ++ ((wX q cI cZ cJ k V C (un T u.1 (T u.1 - min u.2 (T u.1))) B P A n PR ST li w WK so sp (vp_updL CT 5 (CT 5 + lZ ((min u.2 (T u.1) * V u.1 : Nat) : Int))) SC TA) ++ [(qo, .inl (cJ, 1, .inr (.inl (vp_updL O 0 ((nI (min u.2 (T u.1))).toInt64)))))])) := hD
    refine lv_istore (lv' := [(5, .int (nI 0)), (4, .int (nI (4 * jj))), (3, .ref qo), (2, .ref (r 0)), (1, .ref (q 0)), (0, .ref b)]) hx hb dL_law_305 hl (by decide) rfl (fun ls hl => ?_)
    refine lv_aload_n hx hb dL_law_307 rfl (lv_at hl 3 rfl) ?_
    refine lv_aload_n hx hb dL_law_308 rfl (lv_at hl 5 rfl) ?_
    refine lv_iload hx hb dL_law_309 (lv_at hl 1 rfl) ?_
    refine lv_iconst (v := nI 1) hx hb dL_law_311 (ic_1) ?_
    refine n_iadd hx hb dL_law_312 ?_
    refine n_sld hx hb hX hbl hbA hS (by omega) (by omega) dL_law_313 ?_
    refine lv_aload_n hx hb dL_law_314 rfl (lv_at hl 5 rfl) ?_
    refine lv_iload hx hb dL_law_315 (lv_at hl 1 rfl) ?_
    refine lv_iconst (v := nI 2) hx hb dL_law_317 (ic_2) ?_
    refine n_iadd hx hb dL_law_318 ?_
    refine n_sld hx hb hX hbl hbA hS (by omega) (by omega) dL_law_319 ?_
    refine k3_i (mc := 0) (ms := 0) (wa := []) (wc := (wM r cI cZ cJ th k V C A T B P OR n PR ST li w WK so sp CT FW)) (wb := ((wX q cI cZ cJ k V C (un T u.1 (T u.1 - min u.2 (T u.1))) B P A n PR ST li w WK so sp (vp_updL CT 5 (CT 5 + lZ ((min u.2 (T u.1) * V u.1 : Nat) : Int))) SC TA) ++ [(qo, .inl (cJ, 1, .inr (.inl (vp_updL O 0 ((nI (min u.2 (T u.1))).toInt64)))))])) (va_runV (As := [.int (xs ((4 * jj) + 1)), .int (xs ((4 * jj) + 2))]) (rest := []) ⟨hx, hb, hml, hown, hts⟩ (c_X1_take l hst D r cI cZ cJ th k V C A T B P OR n PR ST li w WK so sp CT FW H.size (xs ((4 * jj) + 1)) (xs ((4 * jj) + 2)) hI.hk8 hI.hV hI.hC) (cwV 2 hts gL_law_X1_take rfl rfl rfl hd_X1_take ⟨(Nat.le_of_ble_eq_true rfl), (Nat.le_of_ble_eq_true rfl)⟩) (pre_V3 (wa := []) (wc := (wM r cI cZ cJ th k V C A T B P OR n PR ST li w WK so sp CT FW)) (wb := ((wX q cI cZ cJ k V C (un T u.1 (T u.1 - min u.2 (T u.1))) B P A n PR ST li w WK so sp (vp_updL CT 5 (CT 5 + lZ ((min u.2 (T u.1) * V u.1 : Nat) : Int))) SC TA) ++ [(qo, .inl (cJ, 1, .inr (.inl (vp_updL O 0 ((nI (min u.2 (T u.1))).toInt64)))))])) hP hK hD hS hA hZ hg 0 (ci := 1) rfl rfl) rfl rfl hl.1 rfl (lv_room (Nat.le_of_ble_eq_true rfl)) dL_law_320 ⟨(show ((27 + 8 * jj) + 2) + 0 ≤ 601024 by omega), (show ((20244 + 64 * jj) + 12) + 0 ≤ 7293034 by omega)⟩) hP hD hS hA (fun rr u2 H locs hq hP hD hS => ?_)
    obtain ⟨v0, v1, v2, v3⟩ := u2
    replace hq : rr = nI v0 ∧ ((v1 = 0 ∧ ∃ i j, i < k ∧ j < 61 ∧ (xs ((4 * jj) + 1)) = nI i ∧ (xs ((4 * jj) + 2)) = nI j ∧ v0 = min j (T i) ∧ v2 = un T i (T i - min j (T i)) ∧ v3 = vp_updL CT 5 (CT 5 + lZ ((min j (T i) * V i : Nat) : Int))) ∨ (v1 = 1 ∧ ¬ rg (xs ((4 * jj) + 1)) 0 k ∧ v2 = T ∧ v3 = CT) ∨ (v1 = 2 ∧ rg (xs ((4 * jj) + 1)) 0 k ∧ ¬ rg (xs ((4 * jj) + 2)) 0 61 ∧ v2 = T ∧ v3 = CT)) := hq
    obtain ⟨hr9, hq⟩ := hq
    replace hr9 := hr9.symm
    subst hr9
    have hP : va_P D vwCl ((wM r cI cZ cJ v1 k V C A v2 B P OR n PR ST li w WK so sp v3 FW) ++ ((wX q cI cZ cJ k V C (un T u.1 (T u.1 - min u.2 (T u.1))) B P A n PR ST li w WK so sp (vp_updL CT 5 (CT 5 + lZ ((min u.2 (T u.1) * V u.1 : Nat) : Int))) SC TA) ++ [(qo, .inl (cJ, 1, .inr (.inl (vp_updL O 0 ((nI (min u.2 (T u.1))).toInt64)))))])) H := hP
    have hD : va_D (lA s) ((wM r cI cZ cJ v1 k V C A v2 B P OR n PR ST li w WK so sp v3 FW) ++ ((wX q cI cZ cJ k V C (un T u.1 (T u.1 - min u.2 (T u.1))) B P A n PR ST li w WK so sp (vp_updL CT 5 (CT 5 + lZ ((min u.2 (T u.1) * V u.1 : Nat) : Int))) SC TA) ++ [(qo, .inl (cJ, 1, .inr (.inl (vp_updL O 0 ((nI (min u.2 (T u.1))).toInt64)))))])) := hD
    obtain ⟨e0, e1, f0, f1⟩ := q_take_0 hI.hk8 hp hq
    have e0 := e0.symm
    subst e0
    have e1 := e1.symm
    subst e1
    have f0 := f0.symm
    subst f0
    have f1 := f1.symm
    subst f1
    have hI2 := iv_take (j := u.2) hI hp.1
    refine lv_istore (lv' := [(6, .int (nI (min u.2 (T u.1)))), (5, .int (nI 0)), (4, .int (nI (4 * jj))), (3, .ref qo), (2, .ref (r 0)), (1, .ref (q 0)), (0, .ref b)]) hx hb dL_law_323 hl (by decide) rfl (fun ls hl => ?_)
    refine lv_aload_n hx hb dL_law_325 rfl (lv_at hl 4 rfl) ?_
    refine k3_i (mc := 0) (ms := 0) (wa := []) (wc := (wM r cI cZ cJ 0 k V C A (un T u.1 (T u.1 - min u.2 (T u.1))) B P OR n PR ST li w WK so sp (vp_updL CT 5 (CT 5 + lZ ((min u.2 (T u.1) * V u.1 : Nat) : Int))) FW)) (wb := ((wX q cI cZ cJ k V C (un T u.1 (T u.1 - min u.2 (T u.1))) B P A n PR ST li w WK so sp (vp_updL CT 5 (CT 5 + lZ ((min u.2 (T u.1) * V u.1 : Nat) : Int))) SC TA) ++ [(qo, .inl (cJ, 1, .inr (.inl (vp_updL O 0 ((nI (min u.2 (T u.1))).toInt64)))))])) (va_runV (As := []) (rest := []) ⟨hx, hb, hml, hown, hts⟩ (c_X1_thrown l hst D r cI cZ cJ 0 k V C A (un T u.1 (T u.1 - min u.2 (T u.1))) B P OR n PR ST li w WK so sp (vp_updL CT 5 (CT 5 + lZ ((min u.2 (T u.1) * V u.1 : Nat) : Int))) FW H.size  ) (cwV 0 hts gL_law_X1_thrown rfl rfl rfl hd_X1_thrown ⟨(Nat.le_of_ble_eq_true rfl), (Nat.le_of_ble_eq_true rfl)⟩) (pre_V3 (wa := []) (wc := (wM r cI cZ cJ 0 k V C A (un T u.1 (T u.1 - min u.2 (T u.1))) B P OR n PR ST li w WK so sp (vp_updL CT 5 (CT 5 + lZ ((min u.2 (T u.1) * V u.1 : Nat) : Int))) FW)) (wb := ((wX q cI cZ cJ k V C (un T u.1 (T u.1 - min u.2 (T u.1))) B P A n PR ST li w WK so sp (vp_updL CT 5 (CT 5 + lZ ((min u.2 (T u.1) * V u.1 : Nat) : Int))) SC TA) ++ [(qo, .inl (cJ, 1, .inr (.inl (vp_updL O 0 ((nI (min u.2 (T u.1))).toInt64)))))])) hP hK hD hS hA hZ hg 0 (ci := 1) rfl rfl) rfl rfl hl.1 rfl (lv_room (Nat.le_of_ble_eq_true rfl)) dL_law_326 ⟨(show (((27 + 8 * jj) + 2) + 0) + 0 ≤ 601024 by omega), (show (((20244 + 64 * jj) + 12) + 0) + 0 ≤ 7293034 by omega)⟩) hP hD hS hA (fun rr u2 H locs hq hP hD hS => ?_)
    replace hq : rr = nI 0 := hq
    subst hq
    have hP : va_P D vwCl ((wM r cI cZ cJ 0 k V C A (un T u.1 (T u.1 - min u.2 (T u.1))) B P OR n PR ST li w WK so sp (vp_updL CT 5 (CT 5 + lZ ((min u.2 (T u.1) * V u.1 : Nat) : Int))) FW) ++ ((wX q cI cZ cJ k V C (un T u.1 (T u.1 - min u.2 (T u.1))) B P A n PR ST li w WK so sp (vp_updL CT 5 (CT 5 + lZ ((min u.2 (T u.1) * V u.1 : Nat) : Int))) SC TA) ++ [(qo, .inl (cJ, 1, .inr (.inl (vp_updL O 0 ((nI (min u.2 (T u.1))).toInt64)))))])) H := hP
    have hD : va_D (lA s) ((wM r cI cZ cJ 0 k V C A (un T u.1 (T u.1 - min u.2 (T u.1))) B P OR n PR ST li w WK so sp (vp_updL CT 5 (CT 5 + lZ ((min u.2 (T u.1) * V u.1 : Nat) : Int))) FW) ++ ((wX q cI cZ cJ k V C (un T u.1 (T u.1 - min u.2 (T u.1))) B P A n PR ST li w WK so sp (vp_updL CT 5 (CT 5 + lZ ((min u.2 (T u.1) * V u.1 : Nat) : Int))) SC TA) ++ [(qo, .inl (cJ, 1, .inr (.inl (vp_updL O 0 ((nI (min u.2 (T u.1))).toInt64)))))])) := hD
    refine lv_iload hx hb dL_law_329 (lv_at hl 1 rfl) ?_
    refine lv_icmp_eq (tgt := 336) hx hb dL_law_331 (by decide) (fun _ => ?_) (fun h => absurd rfl h)
    refine lv_iload hx hb dL_law_336 (lv_at hl 1 rfl) ?_
    refine n_if_ne (tgt := 353) hx hb (by decide) dL_law_338 (by decide) (fun c338 => ?_) (fun c338 => ?_)
    · exact absurd c338 (by decide)
    · refine lv_aload_n hx hb dL_law_341 rfl (lv_at hl 3 rfl) ?_
      refine lv_iconst (v := nI 0) hx hb dL_law_342 (ic_0) ?_
      refine n_lald hx hb hK hP 26 2 rfl rfl (by decide) (by decide) dL_law_343 ?_
      refine n_topl (show (vp_updL O 0 ((nI (min u.2 (T u.1))).toInt64)) 0 = (nI (min u.2 (T u.1))).toInt64 from updL_s) ?_
      refine lv_iload hx hb dL_law_344 (lv_at hl 0 rfl) ?_
      refine lv_i2l hx hb dL_law_346 rfl ?_
      refine n_lcmp_eq (tgt := 353) hx hb dL_law_347 dL_law_348 (by decide) (fun _ => ?_) (fun h => absurd rfl h)
      refine lv_goto (tgt := 1433) hx hb dL_law_353 (by decide) ?_
      refine W.widen (k := 27 + 8 * (jj + 1)) (n := 20244 + 64 * (jj + 1)) (by omega) (by omega) ?_
      exact hN 0 k V C (un T u.1 (T u.1 - min u.2 (T u.1))) B P A OR n PR ST li w WK so sp (vp_updL CT 5 (CT 5 + lZ ((min u.2 (T u.1) * V u.1 : Nat) : Int))) SC TA FW (vp_updL O 0 ((nI (min u.2 (T u.1))).toInt64)) _ _ hI2 hP hD hS ls (lv_sub hl [2, 3, 4, 5, 6] rfl)
  · replace hp : rr = nI kk ∧ ((kk = 1 ∧ (¬ rg (xs ((4 * jj) + 1)) 0 k)) ∨ (kk = 2 ∧ (rg (xs ((4 * jj) + 1)) 0 k ∧ ¬ rg (xs ((4 * jj) + 2)) 0 61))) := hp
    obtain ⟨rfl, hp⟩ := hp
    have hP : va_P D vwCl ((wM r cI cZ cJ th k V C A T B P OR n PR ST li w WK so sp CT FW) ++ ((wX q cI cZ cJ k V C T B P A n PR ST li w WK so sp CT SC TA) ++ [(qo, .inl (cJ, 1, .inr (.inl O)))])) H := hP
    have hD : va_D (lA s) ((wM r cI cZ cJ th k V C A T B P OR n PR ST li w WK so sp CT FW) ++ ((wX q cI cZ cJ k V C T B P A n PR ST li w WK so sp CT SC TA) ++ [(qo, .inl (cJ, 1, .inr (.inl O)))])) := hD
    rcases hp with ⟨rfl, hp⟩ | ⟨rfl, hp⟩
    · refine lv_istore (lv' := [(5, .int (nI 1)), (4, .int (nI (4 * jj))), (3, .ref qo), (2, .ref (r 0)), (1, .ref (q 0)), (0, .ref b)]) hx hb dL_law_305 hl (by decide) rfl (fun ls hl => ?_)
      refine lv_aload_n hx hb dL_law_307 rfl (lv_at hl 3 rfl) ?_
      refine lv_aload_n hx hb dL_law_308 rfl (lv_at hl 5 rfl) ?_
      refine lv_iload hx hb dL_law_309 (lv_at hl 1 rfl) ?_
      refine lv_iconst (v := nI 1) hx hb dL_law_311 (ic_1) ?_
      refine n_iadd hx hb dL_law_312 ?_
      refine n_sld hx hb hX hbl hbA hS (by omega) (by omega) dL_law_313 ?_
      refine lv_aload_n hx hb dL_law_314 rfl (lv_at hl 5 rfl) ?_
      refine lv_iload hx hb dL_law_315 (lv_at hl 1 rfl) ?_
      refine lv_iconst (v := nI 2) hx hb dL_law_317 (ic_2) ?_
      refine n_iadd hx hb dL_law_318 ?_
      refine n_sld hx hb hX hbl hbA hS (by omega) (by omega) dL_law_319 ?_
      refine k3_i (mc := 0) (ms := 0) (wa := []) (wc := (wM r cI cZ cJ th k V C A T B P OR n PR ST li w WK so sp CT FW)) (wb := ((wX q cI cZ cJ k V C T B P A n PR ST li w WK so sp CT SC TA) ++ [(qo, .inl (cJ, 1, .inr (.inl O)))])) (va_runV (As := [.int (xs ((4 * jj) + 1)), .int (xs ((4 * jj) + 2))]) (rest := []) ⟨hx, hb, hml, hown, hts⟩ (c_X1_take l hst D r cI cZ cJ th k V C A T B P OR n PR ST li w WK so sp CT FW H.size (xs ((4 * jj) + 1)) (xs ((4 * jj) + 2)) hI.hk8 hI.hV hI.hC) (cwV 2 hts gL_law_X1_take rfl rfl rfl hd_X1_take ⟨(Nat.le_of_ble_eq_true rfl), (Nat.le_of_ble_eq_true rfl)⟩) (pre_V3 (wa := []) (wc := (wM r cI cZ cJ th k V C A T B P OR n PR ST li w WK so sp CT FW)) (wb := ((wX q cI cZ cJ k V C T B P A n PR ST li w WK so sp CT SC TA) ++ [(qo, .inl (cJ, 1, .inr (.inl O)))])) hP hK hD hS hA hZ hg 0 (ci := 1) rfl rfl) rfl rfl hl.1 rfl (lv_room (Nat.le_of_ble_eq_true rfl)) dL_law_320 ⟨(show ((27 + 8 * jj) + 2) + 0 ≤ 601024 by omega), (show ((20244 + 64 * jj) + 12) + 0 ≤ 7293034 by omega)⟩) hP hD hS hA (fun rr u2 H locs hq hP hD hS => ?_)
      obtain ⟨v0, v1, v2, v3⟩ := u2
      replace hq : rr = nI v0 ∧ ((v1 = 0 ∧ ∃ i j, i < k ∧ j < 61 ∧ (xs ((4 * jj) + 1)) = nI i ∧ (xs ((4 * jj) + 2)) = nI j ∧ v0 = min j (T i) ∧ v2 = un T i (T i - min j (T i)) ∧ v3 = vp_updL CT 5 (CT 5 + lZ ((min j (T i) * V i : Nat) : Int))) ∨ (v1 = 1 ∧ ¬ rg (xs ((4 * jj) + 1)) 0 k ∧ v2 = T ∧ v3 = CT) ∨ (v1 = 2 ∧ rg (xs ((4 * jj) + 1)) 0 k ∧ ¬ rg (xs ((4 * jj) + 2)) 0 61 ∧ v2 = T ∧ v3 = CT)) := hq
      obtain ⟨hr9, hq⟩ := hq
      replace hr9 := hr9.symm
      subst hr9
      have hP : va_P D vwCl ((wM r cI cZ cJ v1 k V C A v2 B P OR n PR ST li w WK so sp v3 FW) ++ ((wX q cI cZ cJ k V C T B P A n PR ST li w WK so sp CT SC TA) ++ [(qo, .inl (cJ, 1, .inr (.inl O)))])) H := hP
      have hD : va_D (lA s) ((wM r cI cZ cJ v1 k V C A v2 B P OR n PR ST li w WK so sp v3 FW) ++ ((wX q cI cZ cJ k V C T B P A n PR ST li w WK so sp CT SC TA) ++ [(qo, .inl (cJ, 1, .inr (.inl O)))])) := hD
      obtain ⟨e0, f0, f1⟩ := q_take_1 hI.hk8 hp hq
      have e0 := e0.symm
      subst e0
      have f0 := f0.symm
      subst f0
      have f1 := f1.symm
      subst f1
      refine lv_istore (lv' := [(6, .int (nI v0)), (5, .int (nI 1)), (4, .int (nI (4 * jj))), (3, .ref qo), (2, .ref (r 0)), (1, .ref (q 0)), (0, .ref b)]) hx hb dL_law_323 hl (by decide) rfl (fun ls hl => ?_)
      refine lv_aload_n hx hb dL_law_325 rfl (lv_at hl 4 rfl) ?_
      refine k3_i (mc := 0) (ms := 0) (wa := []) (wc := (wM r cI cZ cJ 1 k V C A T B P OR n PR ST li w WK so sp CT FW)) (wb := ((wX q cI cZ cJ k V C T B P A n PR ST li w WK so sp CT SC TA) ++ [(qo, .inl (cJ, 1, .inr (.inl O)))])) (va_runV (As := []) (rest := []) ⟨hx, hb, hml, hown, hts⟩ (c_X1_thrown l hst D r cI cZ cJ 1 k V C A T B P OR n PR ST li w WK so sp CT FW H.size  ) (cwV 0 hts gL_law_X1_thrown rfl rfl rfl hd_X1_thrown ⟨(Nat.le_of_ble_eq_true rfl), (Nat.le_of_ble_eq_true rfl)⟩) (pre_V3 (wa := []) (wc := (wM r cI cZ cJ 1 k V C A T B P OR n PR ST li w WK so sp CT FW)) (wb := ((wX q cI cZ cJ k V C T B P A n PR ST li w WK so sp CT SC TA) ++ [(qo, .inl (cJ, 1, .inr (.inl O)))])) hP hK hD hS hA hZ hg 0 (ci := 1) rfl rfl) rfl rfl hl.1 rfl (lv_room (Nat.le_of_ble_eq_true rfl)) dL_law_326 ⟨(show (((27 + 8 * jj) + 2) + 0) + 0 ≤ 601024 by omega), (show (((20244 + 64 * jj) + 12) + 0) + 0 ≤ 7293034 by omega)⟩) hP hD hS hA (fun rr u2 H locs hq hP hD hS => ?_)
      replace hq : rr = nI 1 := hq
      subst hq
      have hP : va_P D vwCl ((wM r cI cZ cJ 1 k V C A T B P OR n PR ST li w WK so sp CT FW) ++ ((wX q cI cZ cJ k V C T B P A n PR ST li w WK so sp CT SC TA) ++ [(qo, .inl (cJ, 1, .inr (.inl O)))])) H := hP
      have hD : va_D (lA s) ((wM r cI cZ cJ 1 k V C A T B P OR n PR ST li w WK so sp CT FW) ++ ((wX q cI cZ cJ k V C T B P A n PR ST li w WK so sp CT SC TA) ++ [(qo, .inl (cJ, 1, .inr (.inl O)))])) := hD
      refine lv_iload hx hb dL_law_329 (lv_at hl 1 rfl) ?_
      refine lv_icmp_eq (tgt := 336) hx hb dL_law_331 (by decide) (fun _ => ?_) (fun h => absurd rfl h)
      refine lv_iload hx hb dL_law_336 (lv_at hl 1 rfl) ?_
      refine n_if_ne (tgt := 353) hx hb (by decide) dL_law_338 (by decide) (fun c338 => ?_) (fun c338 => ?_)
      · refine lv_goto (tgt := 1433) hx hb dL_law_353 (by decide) ?_
        refine W.widen (k := 27 + 8 * (jj + 1)) (n := 20244 + 64 * (jj + 1)) (by omega) (by omega) ?_
        exact hN 1 k V C T B P A OR n PR ST li w WK so sp CT SC TA FW O _ _ hI hP hD hS ls (lv_sub hl [2, 3, 4, 5, 6] rfl)
      · exact absurd c338 (by decide)
    · refine lv_istore (lv' := [(5, .int (nI 2)), (4, .int (nI (4 * jj))), (3, .ref qo), (2, .ref (r 0)), (1, .ref (q 0)), (0, .ref b)]) hx hb dL_law_305 hl (by decide) rfl (fun ls hl => ?_)
      refine lv_aload_n hx hb dL_law_307 rfl (lv_at hl 3 rfl) ?_
      refine lv_aload_n hx hb dL_law_308 rfl (lv_at hl 5 rfl) ?_
      refine lv_iload hx hb dL_law_309 (lv_at hl 1 rfl) ?_
      refine lv_iconst (v := nI 1) hx hb dL_law_311 (ic_1) ?_
      refine n_iadd hx hb dL_law_312 ?_
      refine n_sld hx hb hX hbl hbA hS (by omega) (by omega) dL_law_313 ?_
      refine lv_aload_n hx hb dL_law_314 rfl (lv_at hl 5 rfl) ?_
      refine lv_iload hx hb dL_law_315 (lv_at hl 1 rfl) ?_
      refine lv_iconst (v := nI 2) hx hb dL_law_317 (ic_2) ?_
      refine n_iadd hx hb dL_law_318 ?_
      refine n_sld hx hb hX hbl hbA hS (by omega) (by omega) dL_law_319 ?_
      refine k3_i (mc := 0) (ms := 0) (wa := []) (wc := (wM r cI cZ cJ th k V C A T B P OR n PR ST li w WK so sp CT FW)) (wb := ((wX q cI cZ cJ k V C T B P A n PR ST li w WK so sp CT SC TA) ++ [(qo, .inl (cJ, 1, .inr (.inl O)))])) (va_runV (As := [.int (xs ((4 * jj) + 1)), .int (xs ((4 * jj) + 2))]) (rest := []) ⟨hx, hb, hml, hown, hts⟩ (c_X1_take l hst D r cI cZ cJ th k V C A T B P OR n PR ST li w WK so sp CT FW H.size (xs ((4 * jj) + 1)) (xs ((4 * jj) + 2)) hI.hk8 hI.hV hI.hC) (cwV 2 hts gL_law_X1_take rfl rfl rfl hd_X1_take ⟨(Nat.le_of_ble_eq_true rfl), (Nat.le_of_ble_eq_true rfl)⟩) (pre_V3 (wa := []) (wc := (wM r cI cZ cJ th k V C A T B P OR n PR ST li w WK so sp CT FW)) (wb := ((wX q cI cZ cJ k V C T B P A n PR ST li w WK so sp CT SC TA) ++ [(qo, .inl (cJ, 1, .inr (.inl O)))])) hP hK hD hS hA hZ hg 0 (ci := 1) rfl rfl) rfl rfl hl.1 rfl (lv_room (Nat.le_of_ble_eq_true rfl)) dL_law_320 ⟨(show ((27 + 8 * jj) + 2) + 0 ≤ 601024 by omega), (show ((20244 + 64 * jj) + 12) + 0 ≤ 7293034 by omega)⟩) hP hD hS hA (fun rr u2 H locs hq hP hD hS => ?_)
      obtain ⟨v0, v1, v2, v3⟩ := u2
      replace hq : rr = nI v0 ∧ ((v1 = 0 ∧ ∃ i j, i < k ∧ j < 61 ∧ (xs ((4 * jj) + 1)) = nI i ∧ (xs ((4 * jj) + 2)) = nI j ∧ v0 = min j (T i) ∧ v2 = un T i (T i - min j (T i)) ∧ v3 = vp_updL CT 5 (CT 5 + lZ ((min j (T i) * V i : Nat) : Int))) ∨ (v1 = 1 ∧ ¬ rg (xs ((4 * jj) + 1)) 0 k ∧ v2 = T ∧ v3 = CT) ∨ (v1 = 2 ∧ rg (xs ((4 * jj) + 1)) 0 k ∧ ¬ rg (xs ((4 * jj) + 2)) 0 61 ∧ v2 = T ∧ v3 = CT)) := hq
      obtain ⟨hr9, hq⟩ := hq
      replace hr9 := hr9.symm
      subst hr9
      have hP : va_P D vwCl ((wM r cI cZ cJ v1 k V C A v2 B P OR n PR ST li w WK so sp v3 FW) ++ ((wX q cI cZ cJ k V C T B P A n PR ST li w WK so sp CT SC TA) ++ [(qo, .inl (cJ, 1, .inr (.inl O)))])) H := hP
      have hD : va_D (lA s) ((wM r cI cZ cJ v1 k V C A v2 B P OR n PR ST li w WK so sp v3 FW) ++ ((wX q cI cZ cJ k V C T B P A n PR ST li w WK so sp CT SC TA) ++ [(qo, .inl (cJ, 1, .inr (.inl O)))])) := hD
      obtain ⟨e0, f0, f1⟩ := q_take_2 hI.hk8 hp hq
      have e0 := e0.symm
      subst e0
      have f0 := f0.symm
      subst f0
      have f1 := f1.symm
      subst f1
      refine lv_istore (lv' := [(6, .int (nI v0)), (5, .int (nI 2)), (4, .int (nI (4 * jj))), (3, .ref qo), (2, .ref (r 0)), (1, .ref (q 0)), (0, .ref b)]) hx hb dL_law_323 hl (by decide) rfl (fun ls hl => ?_)
      refine lv_aload_n hx hb dL_law_325 rfl (lv_at hl 4 rfl) ?_
      refine k3_i (mc := 0) (ms := 0) (wa := []) (wc := (wM r cI cZ cJ 2 k V C A T B P OR n PR ST li w WK so sp CT FW)) (wb := ((wX q cI cZ cJ k V C T B P A n PR ST li w WK so sp CT SC TA) ++ [(qo, .inl (cJ, 1, .inr (.inl O)))])) (va_runV (As := []) (rest := []) ⟨hx, hb, hml, hown, hts⟩ (c_X1_thrown l hst D r cI cZ cJ 2 k V C A T B P OR n PR ST li w WK so sp CT FW H.size  ) (cwV 0 hts gL_law_X1_thrown rfl rfl rfl hd_X1_thrown ⟨(Nat.le_of_ble_eq_true rfl), (Nat.le_of_ble_eq_true rfl)⟩) (pre_V3 (wa := []) (wc := (wM r cI cZ cJ 2 k V C A T B P OR n PR ST li w WK so sp CT FW)) (wb := ((wX q cI cZ cJ k V C T B P A n PR ST li w WK so sp CT SC TA) ++ [(qo, .inl (cJ, 1, .inr (.inl O)))])) hP hK hD hS hA hZ hg 0 (ci := 1) rfl rfl) rfl rfl hl.1 rfl (lv_room (Nat.le_of_ble_eq_true rfl)) dL_law_326 ⟨(show (((27 + 8 * jj) + 2) + 0) + 0 ≤ 601024 by omega), (show (((20244 + 64 * jj) + 12) + 0) + 0 ≤ 7293034 by omega)⟩) hP hD hS hA (fun rr u2 H locs hq hP hD hS => ?_)
      replace hq : rr = nI 2 := hq
      subst hq
      have hP : va_P D vwCl ((wM r cI cZ cJ 2 k V C A T B P OR n PR ST li w WK so sp CT FW) ++ ((wX q cI cZ cJ k V C T B P A n PR ST li w WK so sp CT SC TA) ++ [(qo, .inl (cJ, 1, .inr (.inl O)))])) H := hP
      have hD : va_D (lA s) ((wM r cI cZ cJ 2 k V C A T B P OR n PR ST li w WK so sp CT FW) ++ ((wX q cI cZ cJ k V C T B P A n PR ST li w WK so sp CT SC TA) ++ [(qo, .inl (cJ, 1, .inr (.inl O)))])) := hD
      refine lv_iload hx hb dL_law_329 (lv_at hl 1 rfl) ?_
      refine lv_icmp_eq (tgt := 336) hx hb dL_law_331 (by decide) (fun _ => ?_) (fun h => absurd rfl h)
      refine lv_iload hx hb dL_law_336 (lv_at hl 1 rfl) ?_
      refine n_if_ne (tgt := 353) hx hb (by decide) dL_law_338 (by decide) (fun c338 => ?_) (fun c338 => ?_)
      · refine lv_goto (tgt := 1433) hx hb dL_law_353 (by decide) ?_
        refine W.widen (k := 27 + 8 * (jj + 1)) (n := 20244 + 64 * (jj + 1)) (by omega) (by omega) ?_
        exact hN 2 k V C T B P A OR n PR ST li w WK so sp CT SC TA FW O _ _ hI hP hD hS ls (lv_sub hl [2, 3, 4, 5, 6] rfl)
      · exact absurd c338 (by decide)

set_option maxHeartbeats 8000000 in
set_option maxRecDepth 100000 in
theorem lw_emptyBox (hst : l.stackTraces = false) (hc : Lc p s m meth c b L xs D cI cZ cJ) {r q : Nat → Nat} {qo jj : Nat} (hj : 4 * jj + 4 ≤ L) {th : Nat} {k : Nat} {V : Nat → Nat} {C : Nat → Nat} {T : Nat → Nat} {B : Nat → Nat} {P : Nat → Nat} {A : Nat → Nat} {OR : Nat → Nat} {n : Nat} {PR : Nat → Nat} {ST : Nat → Nat} {li : Nat} {w : Nat} {WK : Nat → Nat} {so : Nat} {sp : Nat} {CT : Nat → Int64} {SC : Nat → Int} {TA : Nat → Nat} {FW : Nat → Nat} {O : Nat → Int64} {H : Heap} {locs : List Loc} (hI : IV k V C T A OR n PR ST li w WK so sp) (hP : va_P D vwCl (wL r q qo cI cZ cJ th k V C T B P A OR n PR ST li w WK so sp CT SC TA FW O) H) (hD : va_D (lA s) (wL r q qo cI cZ cJ th k V C T B P A OR n PR ST li w WK so sp CT SC TA FW O)) (hS : va_S (lA s) s.heap H locs) {ls : Array Slot} (hl : lv_has ls 9 [(4, .int (nI (4 * jj))), (3, .ref qo), (2, .ref (r 0)), (1, .ref (q 0)), (0, .ref b)]) (hN : Nx p l e s m below meth c b D r q qo cI cZ cJ Q jj) : W p l e room_1 s m #[Value.ref b] below meth c H locs (27 + 8 * jj) (20244 + 64 * jj) Q (F0 m 356 ls []) := by
  obtain ⟨hx, hb, hr, hml, hown, hts, hX, hbl, hlocks, hK, hZ, hg, hn, hL⟩ := hc
  have hA : ∀ q9 : Nat, s.heap.size ≤ q9 → lA s q9 := fun _ h => h
  have hbA : ¬ lA s b := Nat.not_le.mpr hbl
  have hP : va_P D vwCl ((wM r cI cZ cJ th k V C A T B P OR n PR ST li w WK so sp CT FW) ++ ((wX q cI cZ cJ k V C T B P A n PR ST li w WK so sp CT SC TA) ++ [(qo, .inl (cJ, 1, .inr (.inl O)))])) H := hP
  have hD : va_D (lA s) ((wM r cI cZ cJ th k V C A T B P OR n PR ST li w WK so sp CT FW) ++ ((wX q cI cZ cJ k V C T B P A n PR ST li w WK so sp CT SC TA) ++ [(qo, .inl (cJ, 1, .inr (.inl O)))])) := hD
  refine lv_aload_n hx hb dL_law_356 rfl (lv_at hl 3 rfl) ?_
  refine k3_i (mc := 0) (ms := 0) (wa := (wM r cI cZ cJ th k V C A T B P OR n PR ST li w WK so sp CT FW)) (wc := (wX q cI cZ cJ k V C T B P A n PR ST li w WK so sp CT SC TA)) (wb := [(qo, .inl (cJ, 1, .inr (.inl O)))]) (va_runV (As := []) (rest := []) ⟨hx, hb, hml, hown, hts⟩ (c_X0_emptyBox l hst D q cI cZ cJ k V C T B P A n PR ST li w WK so sp CT SC TA H.size hI.hk8) (cwV 0 hts gL_law_X0_emptyBox rfl rfl rfl hd_X0_emptyBox ⟨(Nat.le_of_ble_eq_true rfl), (Nat.le_of_ble_eq_true rfl)⟩) (pre_V3 (wa := (wM r cI cZ cJ th k V C A T B P OR n PR ST li w WK so sp CT FW)) (wc := (wX q cI cZ cJ k V C T B P A n PR ST li w WK so sp CT SC TA)) (wb := [(qo, .inl (cJ, 1, .inr (.inl O)))]) hP hK hD hS hA hZ hg 0 (ci := 0) rfl rfl) rfl rfl hl.1 rfl (lv_room (Nat.le_of_ble_eq_true rfl)) dL_law_357 ⟨(show (27 + 8 * jj) + 0 ≤ 601024 by omega), (show (20244 + 64 * jj) + 0 ≤ 7293034 by omega)⟩) hP hD hS hA (fun rr u H locs hp hP hD hS => ?_)
  replace hp : rr = nI (sm (fun i => B i * V i) k) := hp
  subst hp
  have hP : va_P D vwCl ((wM r cI cZ cJ th k V C A T B P OR n PR ST li w WK so sp CT FW) ++ ((wX q cI cZ cJ k V C T (zb B k) P A n PR ST li w WK so sp (vp_updL CT 6 (CT 6 + (nI (sm (fun i => B i * V i) k)).toInt64)) SC TA) ++ [(qo, .inl (cJ, 1, .inr (.inl O)))])) H := hP
  have hD : va_D (lA s) ((wM r cI cZ cJ th k V C A T B P OR n PR ST li w WK so sp CT FW) ++ ((wX q cI cZ cJ k V C T (zb B k) P A n PR ST li w WK so sp (vp_updL CT 6 (CT 6 + (nI (sm (fun i => B i * V i) k)).toInt64)) SC TA) ++ [(qo, .inl (cJ, 1, .inr (.inl O)))])) := hD
  refine lv_aload_n hx hb dL_law_360 rfl (lv_at hl 2 rfl) ?_
  refine k3_i (mc := 0) (ms := 0) (wa := []) (wc := (wM r cI cZ cJ th k V C A T B P OR n PR ST li w WK so sp CT FW)) (wb := ((wX q cI cZ cJ k V C T (zb B k) P A n PR ST li w WK so sp (vp_updL CT 6 (CT 6 + (nI (sm (fun i => B i * V i) k)).toInt64)) SC TA) ++ [(qo, .inl (cJ, 1, .inr (.inl O)))])) (va_runV (As := []) (rest := [.int (nI (sm (fun i => B i * V i) k))]) ⟨hx, hb, hml, hown, hts⟩ (c_X1_emptyBox l hst D r cI cZ cJ th k V C A T B P OR n PR ST li w WK so sp CT FW H.size  hI.hk8) (cwV 0 hts gL_law_X1_emptyBox rfl rfl rfl hd_X1_emptyBox ⟨(Nat.le_of_ble_eq_true rfl), (Nat.le_of_ble_eq_true rfl)⟩) (pre_V3 (wa := []) (wc := (wM r cI cZ cJ th k V C A T B P OR n PR ST li w WK so sp CT FW)) (wb := ((wX q cI cZ cJ k V C T (zb B k) P A n PR ST li w WK so sp (vp_updL CT 6 (CT 6 + (nI (sm (fun i => B i * V i) k)).toInt64)) SC TA) ++ [(qo, .inl (cJ, 1, .inr (.inl O)))])) hP hK hD hS hA hZ hg 0 (ci := 1) rfl rfl) rfl rfl hl.1 rfl (lv_room (Nat.le_of_ble_eq_true rfl)) dL_law_361 ⟨(show ((27 + 8 * jj) + 0) + 0 ≤ 601024 by omega), (show ((20244 + 64 * jj) + 0) + 0 ≤ 7293034 by omega)⟩) hP hD hS hA (fun rr u2 H locs hq hP hD hS => ?_)
  replace hq : rr = nI (sm (fun i => B i * V i) k) := hq
  subst hq
  have hP : va_P D vwCl ((wM r cI cZ cJ 0 k V C A T (zb B k) P OR n PR ST li w WK so sp (vp_updL CT 6 (CT 6 + (nI (sm (fun i => B i * V i) k)).toInt64)) FW) ++ ((wX q cI cZ cJ k V C T (zb B k) P A n PR ST li w WK so sp (vp_updL CT 6 (CT 6 + (nI (sm (fun i => B i * V i) k)).toInt64)) SC TA) ++ [(qo, .inl (cJ, 1, .inr (.inl O)))])) H := hP
  have hD : va_D (lA s) ((wM r cI cZ cJ 0 k V C A T (zb B k) P OR n PR ST li w WK so sp (vp_updL CT 6 (CT 6 + (nI (sm (fun i => B i * V i) k)).toInt64)) FW) ++ ((wX q cI cZ cJ k V C T (zb B k) P A n PR ST li w WK so sp (vp_updL CT 6 (CT 6 + (nI (sm (fun i => B i * V i) k)).toInt64)) SC TA) ++ [(qo, .inl (cJ, 1, .inr (.inl O)))])) := hD
  refine lv_icmp_eq (tgt := 1433) hx hb dL_law_364 (by decide) (fun _ => ?_) (fun h => absurd rfl h)
  refine W.widen (k := 27 + 8 * (jj + 1)) (n := 20244 + 64 * (jj + 1)) (by omega) (by omega) ?_
  exact hN 0 k V C T (zb B k) P A OR n PR ST li w WK so sp (vp_updL CT 6 (CT 6 + (nI (sm (fun i => B i * V i) k)).toInt64)) SC TA FW O _ _ hI hP hD hS ls (lv_sub hl [0, 1, 2, 3, 4] rfl)

set_option maxHeartbeats 8000000 in
set_option maxRecDepth 100000 in
theorem lw_accept (hst : l.stackTraces = false) (hc : Lc p s m meth c b L xs D cI cZ cJ) {r q : Nat → Nat} {qo jj : Nat} (hj : 4 * jj + 4 ≤ L) {th : Nat} {k : Nat} {V : Nat → Nat} {C : Nat → Nat} {T : Nat → Nat} {B : Nat → Nat} {P : Nat → Nat} {A : Nat → Nat} {OR : Nat → Nat} {n : Nat} {PR : Nat → Nat} {ST : Nat → Nat} {li : Nat} {w : Nat} {WK : Nat → Nat} {so : Nat} {sp : Nat} {CT : Nat → Int64} {SC : Nat → Int} {TA : Nat → Nat} {FW : Nat → Nat} {O : Nat → Int64} {H : Heap} {locs : List Loc} (hI : IV k V C T A OR n PR ST li w WK so sp) (hP : va_P D vwCl (wL r q qo cI cZ cJ th k V C T B P A OR n PR ST li w WK so sp CT SC TA FW O) H) (hD : va_D (lA s) (wL r q qo cI cZ cJ th k V C T B P A OR n PR ST li w WK so sp CT SC TA FW O)) (hS : va_S (lA s) s.heap H locs) {ls : Array Slot} (hl : lv_has ls 9 [(4, .int (nI (4 * jj))), (3, .ref qo), (2, .ref (r 0)), (1, .ref (q 0)), (0, .ref b)]) (hN : Nx p l e s m below meth c b D r q qo cI cZ cJ Q jj) : W p l e room_1 s m #[Value.ref b] below meth c H locs (27 + 8 * jj) (20244 + 64 * jj) Q (F0 m 369 ls []) := by
  obtain ⟨hx, hb, hr, hml, hown, hts, hX, hbl, hlocks, hK, hZ, hg, hn, hL⟩ := hc
  have hA : ∀ q9 : Nat, s.heap.size ≤ q9 → lA s q9 := fun _ h => h
  have hbA : ¬ lA s b := Nat.not_le.mpr hbl
  have hP : va_P D vwCl ((wM r cI cZ cJ th k V C A T B P OR n PR ST li w WK so sp CT FW) ++ ((wX q cI cZ cJ k V C T B P A n PR ST li w WK so sp CT SC TA) ++ [(qo, .inl (cJ, 1, .inr (.inl O)))])) H := hP
  have hD : va_D (lA s) ((wM r cI cZ cJ th k V C A T B P OR n PR ST li w WK so sp CT FW) ++ ((wX q cI cZ cJ k V C T B P A n PR ST li w WK so sp CT SC TA) ++ [(qo, .inl (cJ, 1, .inr (.inl O)))])) := hD
  refine lv_aload_n hx hb dL_law_369 rfl (lv_at hl 3 rfl) ?_
  refine lv_aload_n hx hb dL_law_370 rfl (lv_at hl 4 rfl) ?_
  refine lv_iload hx hb dL_law_371 (lv_at hl 0 rfl) ?_
  refine lv_iconst (v := nI 1) hx hb dL_law_373 (ic_1) ?_
  refine n_iadd hx hb dL_law_374 ?_
  refine n_sld hx hb hX hbl hbA hS (by omega) (by omega) dL_law_375 ?_
  refine lv_aload_n hx hb dL_law_376 rfl (lv_at hl 4 rfl) ?_
  refine lv_iload hx hb dL_law_377 (lv_at hl 0 rfl) ?_
  refine lv_iconst (v := nI 2) hx hb dL_law_379 (ic_2) ?_
  refine n_iadd hx hb dL_law_380 ?_
  refine n_sld hx hb hX hbl hbA hS (by omega) (by omega) dL_law_381 ?_
  refine lv_if_eq (tgt := 389) hx hb dL_law_382 (by decide) (fun con => ?_) (fun con => ?_)
  · refine lv_iconst (v := nI 0) hx hb dL_law_389 (ic_0) ?_
    refine lv_aload_n hx hb dL_law_390 rfl (lv_at hl 1 rfl) ?_
    refine k3_i (mc := 1) (ms := 6) (wa := (wM r cI cZ cJ th k V C A T B P OR n PR ST li w WK so sp CT FW)) (wc := ((wX q cI cZ cJ k V C T B P A n PR ST li w WK so sp CT SC TA) ++ [(qo, .inl (cJ, 1, .inr (.inl O)))])) (wb := []) (vx_runSW (As := [.ref (q 0), .int (xs ((4 * jj) + 1)), .int (nI 0), .ref qo]) (rest := []) ⟨hx, hb, hml, hown, hts⟩ (c_L_accept l hst D q qo cI cZ cJ k V C T B P A n PR ST li w WK so sp CT SC TA O H.size (xs ((4 * jj) + 1)) 0 hI.hk8 hI.hA1 (by decide)) (vx_cwSW 4 hts gL_law_L_accept rfl rfl rfl hd_L_accept.2 ⟨(Nat.le_of_ble_eq_true rfl), (Nat.le_of_ble_eq_true rfl)⟩) (pre_N (wa := (wM r cI cZ cJ th k V C A T B P OR n PR ST li w WK so sp CT FW)) (wc := ((wX q cI cZ cJ k V C T B P A n PR ST li w WK so sp CT SC TA) ++ [(qo, .inl (cJ, 1, .inr (.inl O)))])) (wb := []) hP hK hD hS hA hZ hg hn) rfl rfl hl.1 rfl (lv_room (Nat.le_of_ble_eq_true rfl)) dL_law_391 ⟨(show (27 + 8 * jj) + 1 ≤ 601024 by omega), (show (20244 + 64 * jj) + 6 ≤ 7293034 by omega)⟩) hP hD hS hA (fun rr u H locs hp hP hD hS => ?_)
    rcases u with u | kk
    · replace hp : rr = nI 0 ∧ (u < k ∧ (xs ((4 * jj) + 1)) = nI u) := hp
      obtain ⟨rfl, hp⟩ := hp
      have hP : va_P D vwCl ((wM r cI cZ cJ th k V C A T B P OR n PR ST li w WK so sp CT FW) ++ ((wX q cI cZ cJ k V C T B P (un A u 0) n PR ST li w WK so sp CT SC TA) ++ [(qo, .inl (cJ, 1, .inr (.inl (vp_updL O 0 (lZ (((A u : Nat)) : Int))))))])) H := hP
      have hD : va_D (lA s) ((wM r cI cZ cJ th k V C A T B P OR n PR ST li w WK so sp CT FW) ++ ((wX q cI cZ cJ k V C T B P (un A u 0) n PR ST li w WK so sp CT SC TA) ++ [(qo, .inl (cJ, 1, .inr (.inl (vp_updL O 0 (lZ (((A u : Nat)) : Int))))))])) := hD
      refine lv_istore (lv' := [(5, .int (nI 0)), (4, .int (nI (4 * jj))), (3, .ref qo), (2, .ref (r 0)), (1, .ref (q 0)), (0, .ref b)]) hx hb dL_law_394 hl (by decide) rfl (fun ls hl => ?_)
      refine lv_aload_n hx hb dL_law_396 rfl (lv_at hl 3 rfl) ?_
      refine lv_aload_n hx hb dL_law_397 rfl (lv_at hl 5 rfl) ?_
      refine lv_iload hx hb dL_law_398 (lv_at hl 1 rfl) ?_
      refine lv_iconst (v := nI 1) hx hb dL_law_400 (ic_1) ?_
      refine n_iadd hx hb dL_law_401 ?_
      refine n_sld hx hb hX hbl hbA hS (by omega) (by omega) dL_law_402 ?_
      refine lv_aload_n hx hb dL_law_403 rfl (lv_at hl 5 rfl) ?_
      refine lv_iload hx hb dL_law_404 (lv_at hl 1 rfl) ?_
      refine lv_iconst (v := nI 2) hx hb dL_law_406 (ic_2) ?_
      refine n_iadd hx hb dL_law_407 ?_
      refine n_sld hx hb hX hbl hbA hS (by omega) (by omega) dL_law_408 ?_
      refine lv_if_eq (tgt := 416) hx hb dL_law_409 (by decide) (fun _ => ?_) (fun h => absurd con h)
      refine lv_iconst (v := nI 0) hx hb dL_law_416 (ic_0) ?_
      refine k3_i (mc := 0) (ms := 0) (wa := []) (wc := (wM r cI cZ cJ th k V C A T B P OR n PR ST li w WK so sp CT FW)) (wb := ((wX q cI cZ cJ k V C T B P (un A u 0) n PR ST li w WK so sp CT SC TA) ++ [(qo, .inl (cJ, 1, .inr (.inl (vp_updL O 0 (lZ (((A u : Nat)) : Int))))))])) (va_runV (As := [.int (xs ((4 * jj) + 1)), .int (nI 0)]) (rest := []) ⟨hx, hb, hml, hown, hts⟩ (c_X1_accept l hst D r cI cZ cJ th k V C A T B P OR n PR ST li w WK so sp CT FW H.size (xs ((4 * jj) + 1)) 0 hI.hk8 hI.hA1 (by decide)) (cwV 2 hts gL_law_X1_accept rfl rfl rfl hd_X1_accept ⟨(Nat.le_of_ble_eq_true rfl), (Nat.le_of_ble_eq_true rfl)⟩) (pre_V3 (wa := []) (wc := (wM r cI cZ cJ th k V C A T B P OR n PR ST li w WK so sp CT FW)) (wb := ((wX q cI cZ cJ k V C T B P (un A u 0) n PR ST li w WK so sp CT SC TA) ++ [(qo, .inl (cJ, 1, .inr (.inl (vp_updL O 0 (lZ (((A u : Nat)) : Int))))))])) hP hK hD hS hA hZ hg 0 (ci := 1) rfl rfl) rfl rfl hl.1 rfl (lv_room (Nat.le_of_ble_eq_true rfl)) dL_law_417 ⟨(show ((27 + 8 * jj) + 1) + 0 ≤ 601024 by omega), (show ((20244 + 64 * jj) + 6) + 0 ≤ 7293034 by omega)⟩) hP hD hS hA (fun rr u2 H locs hq hP hD hS => ?_)
      obtain ⟨v0, v1, v2⟩ := u2
      replace hq : rr = nI v0 ∧ ((v1 = 0 ∧ ∃ i, i < k ∧ (xs ((4 * jj) + 1)) = nI i ∧ v0 = A i ∧ v2 = un A i 0) ∨ (v1 = 1 ∧ ¬ rg (xs ((4 * jj) + 1)) 0 k ∧ v2 = A)) := hq
      obtain ⟨hr9, hq⟩ := hq
      replace hr9 := hr9.symm
      subst hr9
      have hP : va_P D vwCl ((wM r cI cZ cJ v1 k V C v2 T B P OR n PR ST li w WK so sp CT FW) ++ ((wX q cI cZ cJ k V C T B P (un A u 0) n PR ST li w WK so sp CT SC TA) ++ [(qo, .inl (cJ, 1, .inr (.inl (vp_updL O 0 (lZ (((A u : Nat)) : Int))))))])) H := hP
      have hD : va_D (lA s) ((wM r cI cZ cJ v1 k V C v2 T B P OR n PR ST li w WK so sp CT FW) ++ ((wX q cI cZ cJ k V C T B P (un A u 0) n PR ST li w WK so sp CT SC TA) ++ [(qo, .inl (cJ, 1, .inr (.inl (vp_updL O 0 (lZ (((A u : Nat)) : Int))))))])) := hD
      obtain ⟨e0, e1, f0⟩ := q_accept_0 hI.hk8 hp hq
      have e0 := e0.symm
      subst e0
      have e1 := e1.symm
      subst e1
      have f0 := f0.symm
      subst f0
      have hI2 := iv_accept (i := u) (x := 0) hI (by decide)
      refine lv_istore (lv' := [(6, .int (nI (A u))), (5, .int (nI 0)), (4, .int (nI (4 * jj))), (3, .ref qo), (2, .ref (r 0)), (1, .ref (q 0)), (0, .ref b)]) hx hb dL_law_420 hl (by decide) rfl (fun ls hl => ?_)
      refine lv_aload_n hx hb dL_law_422 rfl (lv_at hl 4 rfl) ?_
      refine k3_i (mc := 0) (ms := 0) (wa := []) (wc := (wM r cI cZ cJ 0 k V C (un A u 0) T B P OR n PR ST li w WK so sp CT FW)) (wb := ((wX q cI cZ cJ k V C T B P (un A u 0) n PR ST li w WK so sp CT SC TA) ++ [(qo, .inl (cJ, 1, .inr (.inl (vp_updL O 0 (lZ (((A u : Nat)) : Int))))))])) (va_runV (As := []) (rest := []) ⟨hx, hb, hml, hown, hts⟩ (c_X1_thrown l hst D r cI cZ cJ 0 k V C (un A u 0) T B P OR n PR ST li w WK so sp CT FW H.size  ) (cwV 0 hts gL_law_X1_thrown rfl rfl rfl hd_X1_thrown ⟨(Nat.le_of_ble_eq_true rfl), (Nat.le_of_ble_eq_true rfl)⟩) (pre_V3 (wa := []) (wc := (wM r cI cZ cJ 0 k V C (un A u 0) T B P OR n PR ST li w WK so sp CT FW)) (wb := ((wX q cI cZ cJ k V C T B P (un A u 0) n PR ST li w WK so sp CT SC TA) ++ [(qo, .inl (cJ, 1, .inr (.inl (vp_updL O 0 (lZ (((A u : Nat)) : Int))))))])) hP hK hD hS hA hZ hg 0 (ci := 1) rfl rfl) rfl rfl hl.1 rfl (lv_room (Nat.le_of_ble_eq_true rfl)) dL_law_423 ⟨(show (((27 + 8 * jj) + 1) + 0) + 0 ≤ 601024 by omega), (show (((20244 + 64 * jj) + 6) + 0) + 0 ≤ 7293034 by omega)⟩) hP hD hS hA (fun rr u2 H locs hq hP hD hS => ?_)
      replace hq : rr = nI 0 := hq
      subst hq
      have hP : va_P D vwCl ((wM r cI cZ cJ 0 k V C (un A u 0) T B P OR n PR ST li w WK so sp CT FW) ++ ((wX q cI cZ cJ k V C T B P (un A u 0) n PR ST li w WK so sp CT SC TA) ++ [(qo, .inl (cJ, 1, .inr (.inl (vp_updL O 0 (lZ (((A u : Nat)) : Int))))))])) H := hP
      have hD : va_D (lA s) ((wM r cI cZ cJ 0 k V C (un A u 0) T B P OR n PR ST li w WK so sp CT FW) ++ ((wX q cI cZ cJ k V C T B P (un A u 0) n PR ST li w WK so sp CT SC TA) ++ [(qo, .inl (cJ, 1, .inr (.inl (vp_updL O 0 (lZ (((A u : Nat)) : Int))))))])) := hD
      refine lv_iload hx hb dL_law_426 (lv_at hl 1 rfl) ?_
      refine lv_icmp_eq (tgt := 433) hx hb dL_law_428 (by decide) (fun _ => ?_) (fun h => absurd rfl h)
      refine lv_iload hx hb dL_law_433 (lv_at hl 1 rfl) ?_
      refine n_if_ne (tgt := 457) hx hb (by decide) dL_law_435 (by decide) (fun c435 => ?_) (fun c435 => ?_)
      · exact absurd c435 (by decide)
      · refine lv_aload_n hx hb dL_law_438 rfl (lv_at hl 3 rfl) ?_
        refine lv_iconst (v := nI 0) hx hb dL_law_439 (ic_0) ?_
        refine n_lald hx hb hK hP 26 2 rfl rfl (by decide) (by decide) dL_law_440 ?_
        refine n_topl (show (vp_updL O 0 (lZ (((A u : Nat)) : Int))) 0 = lZ (((A u : Nat)) : Int) from updL_s) ?_
        refine lv_iload hx hb dL_law_441 (lv_at hl 0 rfl) ?_
        have hbd : A u ≤ 1 := hI.hA1 u hp.1
        refine n_if_eq (tgt := 450) hx hb (by omega) dL_law_443 (by decide) (fun cq => ?_) (fun cq => ?_)
        · have cq : A u = 0 := by omega
          refine lv_lconst (v := lZ 0) hx hb dL_law_450 (by decide) ?_
          refine n_topl (show lZ 0 = lZ (((A u : Nat)) : Int) from by rw [cq]; rfl) ?_
          refine n_lcmp_eq (tgt := 457) hx hb dL_law_451 dL_law_452 (by decide) (fun _ => ?_) (fun h => absurd rfl h)
          refine lv_goto (tgt := 1433) hx hb dL_law_457 (by decide) ?_
          refine W.widen (k := 27 + 8 * (jj + 1)) (n := 20244 + 64 * (jj + 1)) (by omega) (by omega) ?_
          exact hN 0 k V C T B P (un A u 0) OR n PR ST li w WK so sp CT SC TA FW (vp_updL O 0 (lZ (((A u : Nat)) : Int))) _ _ hI2 hP hD hS ls (lv_sub hl [2, 3, 4, 5, 6] rfl)
        · have cq : A u = 1 := by omega
          refine lv_lconst (v := lZ 1) hx hb dL_law_446 (by decide) ?_
          refine n_topl (show lZ 1 = lZ (((A u : Nat)) : Int) from by rw [cq]; rfl) ?_
          refine lv_goto (tgt := 451) hx hb dL_law_447 (by decide) ?_
          refine n_lcmp_eq (tgt := 457) hx hb dL_law_451 dL_law_452 (by decide) (fun _ => ?_) (fun h => absurd rfl h)
          refine lv_goto (tgt := 1433) hx hb dL_law_457 (by decide) ?_
          refine W.widen (k := 27 + 8 * (jj + 1)) (n := 20244 + 64 * (jj + 1)) (by omega) (by omega) ?_
          exact hN 0 k V C T B P (un A u 0) OR n PR ST li w WK so sp CT SC TA FW (vp_updL O 0 (lZ (((A u : Nat)) : Int))) _ _ hI2 hP hD hS ls (lv_sub hl [2, 3, 4, 5, 6] rfl)
    · replace hp : rr = nI kk ∧ ((kk = 1 ∧ (¬ rg (xs ((4 * jj) + 1)) 0 k))) := hp
      obtain ⟨rfl, hp⟩ := hp
      have hP : va_P D vwCl ((wM r cI cZ cJ th k V C A T B P OR n PR ST li w WK so sp CT FW) ++ ((wX q cI cZ cJ k V C T B P A n PR ST li w WK so sp CT SC TA) ++ [(qo, .inl (cJ, 1, .inr (.inl O)))])) H := hP
      have hD : va_D (lA s) ((wM r cI cZ cJ th k V C A T B P OR n PR ST li w WK so sp CT FW) ++ ((wX q cI cZ cJ k V C T B P A n PR ST li w WK so sp CT SC TA) ++ [(qo, .inl (cJ, 1, .inr (.inl O)))])) := hD
      obtain ⟨rfl, hp⟩ := hp
      refine lv_istore (lv' := [(5, .int (nI 1)), (4, .int (nI (4 * jj))), (3, .ref qo), (2, .ref (r 0)), (1, .ref (q 0)), (0, .ref b)]) hx hb dL_law_394 hl (by decide) rfl (fun ls hl => ?_)
      refine lv_aload_n hx hb dL_law_396 rfl (lv_at hl 3 rfl) ?_
      refine lv_aload_n hx hb dL_law_397 rfl (lv_at hl 5 rfl) ?_
      refine lv_iload hx hb dL_law_398 (lv_at hl 1 rfl) ?_
      refine lv_iconst (v := nI 1) hx hb dL_law_400 (ic_1) ?_
      refine n_iadd hx hb dL_law_401 ?_
      refine n_sld hx hb hX hbl hbA hS (by omega) (by omega) dL_law_402 ?_
      refine lv_aload_n hx hb dL_law_403 rfl (lv_at hl 5 rfl) ?_
      refine lv_iload hx hb dL_law_404 (lv_at hl 1 rfl) ?_
      refine lv_iconst (v := nI 2) hx hb dL_law_406 (ic_2) ?_
      refine n_iadd hx hb dL_law_407 ?_
      refine n_sld hx hb hX hbl hbA hS (by omega) (by omega) dL_law_408 ?_
      refine lv_if_eq (tgt := 416) hx hb dL_law_409 (by decide) (fun _ => ?_) (fun h => absurd con h)
      refine lv_iconst (v := nI 0) hx hb dL_law_416 (ic_0) ?_
      refine k3_i (mc := 0) (ms := 0) (wa := []) (wc := (wM r cI cZ cJ th k V C A T B P OR n PR ST li w WK so sp CT FW)) (wb := ((wX q cI cZ cJ k V C T B P A n PR ST li w WK so sp CT SC TA) ++ [(qo, .inl (cJ, 1, .inr (.inl O)))])) (va_runV (As := [.int (xs ((4 * jj) + 1)), .int (nI 0)]) (rest := []) ⟨hx, hb, hml, hown, hts⟩ (c_X1_accept l hst D r cI cZ cJ th k V C A T B P OR n PR ST li w WK so sp CT FW H.size (xs ((4 * jj) + 1)) 0 hI.hk8 hI.hA1 (by decide)) (cwV 2 hts gL_law_X1_accept rfl rfl rfl hd_X1_accept ⟨(Nat.le_of_ble_eq_true rfl), (Nat.le_of_ble_eq_true rfl)⟩) (pre_V3 (wa := []) (wc := (wM r cI cZ cJ th k V C A T B P OR n PR ST li w WK so sp CT FW)) (wb := ((wX q cI cZ cJ k V C T B P A n PR ST li w WK so sp CT SC TA) ++ [(qo, .inl (cJ, 1, .inr (.inl O)))])) hP hK hD hS hA hZ hg 0 (ci := 1) rfl rfl) rfl rfl hl.1 rfl (lv_room (Nat.le_of_ble_eq_true rfl)) dL_law_417 ⟨(show ((27 + 8 * jj) + 1) + 0 ≤ 601024 by omega), (show ((20244 + 64 * jj) + 6) + 0 ≤ 7293034 by omega)⟩) hP hD hS hA (fun rr u2 H locs hq hP hD hS => ?_)
      obtain ⟨v0, v1, v2⟩ := u2
      replace hq : rr = nI v0 ∧ ((v1 = 0 ∧ ∃ i, i < k ∧ (xs ((4 * jj) + 1)) = nI i ∧ v0 = A i ∧ v2 = un A i 0) ∨ (v1 = 1 ∧ ¬ rg (xs ((4 * jj) + 1)) 0 k ∧ v2 = A)) := hq
      obtain ⟨hr9, hq⟩ := hq
      replace hr9 := hr9.symm
      subst hr9
      have hP : va_P D vwCl ((wM r cI cZ cJ v1 k V C v2 T B P OR n PR ST li w WK so sp CT FW) ++ ((wX q cI cZ cJ k V C T B P A n PR ST li w WK so sp CT SC TA) ++ [(qo, .inl (cJ, 1, .inr (.inl O)))])) H := hP
      have hD : va_D (lA s) ((wM r cI cZ cJ v1 k V C v2 T B P OR n PR ST li w WK so sp CT FW) ++ ((wX q cI cZ cJ k V C T B P A n PR ST li w WK so sp CT SC TA) ++ [(qo, .inl (cJ, 1, .inr (.inl O)))])) := hD
      obtain ⟨e0, f0⟩ := q_accept_1 hI.hk8 hp hq
      have e0 := e0.symm
      subst e0
      have f0 := f0.symm
      subst f0
      refine lv_istore (lv' := [(6, .int (nI v0)), (5, .int (nI 1)), (4, .int (nI (4 * jj))), (3, .ref qo), (2, .ref (r 0)), (1, .ref (q 0)), (0, .ref b)]) hx hb dL_law_420 hl (by decide) rfl (fun ls hl => ?_)
      refine lv_aload_n hx hb dL_law_422 rfl (lv_at hl 4 rfl) ?_
      refine k3_i (mc := 0) (ms := 0) (wa := []) (wc := (wM r cI cZ cJ 1 k V C A T B P OR n PR ST li w WK so sp CT FW)) (wb := ((wX q cI cZ cJ k V C T B P A n PR ST li w WK so sp CT SC TA) ++ [(qo, .inl (cJ, 1, .inr (.inl O)))])) (va_runV (As := []) (rest := []) ⟨hx, hb, hml, hown, hts⟩ (c_X1_thrown l hst D r cI cZ cJ 1 k V C A T B P OR n PR ST li w WK so sp CT FW H.size  ) (cwV 0 hts gL_law_X1_thrown rfl rfl rfl hd_X1_thrown ⟨(Nat.le_of_ble_eq_true rfl), (Nat.le_of_ble_eq_true rfl)⟩) (pre_V3 (wa := []) (wc := (wM r cI cZ cJ 1 k V C A T B P OR n PR ST li w WK so sp CT FW)) (wb := ((wX q cI cZ cJ k V C T B P A n PR ST li w WK so sp CT SC TA) ++ [(qo, .inl (cJ, 1, .inr (.inl O)))])) hP hK hD hS hA hZ hg 0 (ci := 1) rfl rfl) rfl rfl hl.1 rfl (lv_room (Nat.le_of_ble_eq_true rfl)) dL_law_423 ⟨(show (((27 + 8 * jj) + 1) + 0) + 0 ≤ 601024 by omega), (show (((20244 + 64 * jj) + 6) + 0) + 0 ≤ 7293034 by omega)⟩) hP hD hS hA (fun rr u2 H locs hq hP hD hS => ?_)
      replace hq : rr = nI 1 := hq
      subst hq
      have hP : va_P D vwCl ((wM r cI cZ cJ 1 k V C A T B P OR n PR ST li w WK so sp CT FW) ++ ((wX q cI cZ cJ k V C T B P A n PR ST li w WK so sp CT SC TA) ++ [(qo, .inl (cJ, 1, .inr (.inl O)))])) H := hP
      have hD : va_D (lA s) ((wM r cI cZ cJ 1 k V C A T B P OR n PR ST li w WK so sp CT FW) ++ ((wX q cI cZ cJ k V C T B P A n PR ST li w WK so sp CT SC TA) ++ [(qo, .inl (cJ, 1, .inr (.inl O)))])) := hD
      refine lv_iload hx hb dL_law_426 (lv_at hl 1 rfl) ?_
      refine lv_icmp_eq (tgt := 433) hx hb dL_law_428 (by decide) (fun _ => ?_) (fun h => absurd rfl h)
      refine lv_iload hx hb dL_law_433 (lv_at hl 1 rfl) ?_
      refine n_if_ne (tgt := 457) hx hb (by decide) dL_law_435 (by decide) (fun c435 => ?_) (fun c435 => ?_)
      · refine lv_goto (tgt := 1433) hx hb dL_law_457 (by decide) ?_
        refine W.widen (k := 27 + 8 * (jj + 1)) (n := 20244 + 64 * (jj + 1)) (by omega) (by omega) ?_
        exact hN 1 k V C T B P A OR n PR ST li w WK so sp CT SC TA FW O _ _ hI hP hD hS ls (lv_sub hl [2, 3, 4, 5, 6] rfl)
      · exact absurd c435 (by decide)
  · refine lv_iconst (v := nI 1) hx hb dL_law_385 (ic_1) ?_
    refine lv_goto (tgt := 390) hx hb dL_law_386 (by decide) ?_
    refine lv_aload_n hx hb dL_law_390 rfl (lv_at hl 1 rfl) ?_
    refine k3_i (mc := 1) (ms := 6) (wa := (wM r cI cZ cJ th k V C A T B P OR n PR ST li w WK so sp CT FW)) (wc := ((wX q cI cZ cJ k V C T B P A n PR ST li w WK so sp CT SC TA) ++ [(qo, .inl (cJ, 1, .inr (.inl O)))])) (wb := []) (vx_runSW (As := [.ref (q 0), .int (xs ((4 * jj) + 1)), .int (nI 1), .ref qo]) (rest := []) ⟨hx, hb, hml, hown, hts⟩ (c_L_accept l hst D q qo cI cZ cJ k V C T B P A n PR ST li w WK so sp CT SC TA O H.size (xs ((4 * jj) + 1)) 1 hI.hk8 hI.hA1 (by decide)) (vx_cwSW 4 hts gL_law_L_accept rfl rfl rfl hd_L_accept.2 ⟨(Nat.le_of_ble_eq_true rfl), (Nat.le_of_ble_eq_true rfl)⟩) (pre_N (wa := (wM r cI cZ cJ th k V C A T B P OR n PR ST li w WK so sp CT FW)) (wc := ((wX q cI cZ cJ k V C T B P A n PR ST li w WK so sp CT SC TA) ++ [(qo, .inl (cJ, 1, .inr (.inl O)))])) (wb := []) hP hK hD hS hA hZ hg hn) rfl rfl hl.1 rfl (lv_room (Nat.le_of_ble_eq_true rfl)) dL_law_391 ⟨(show (27 + 8 * jj) + 1 ≤ 601024 by omega), (show (20244 + 64 * jj) + 6 ≤ 7293034 by omega)⟩) hP hD hS hA (fun rr u H locs hp hP hD hS => ?_)
    rcases u with u | kk
    · replace hp : rr = nI 0 ∧ (u < k ∧ (xs ((4 * jj) + 1)) = nI u) := hp
      obtain ⟨rfl, hp⟩ := hp
      have hP : va_P D vwCl ((wM r cI cZ cJ th k V C A T B P OR n PR ST li w WK so sp CT FW) ++ ((wX q cI cZ cJ k V C T B P (un A u 1) n PR ST li w WK so sp CT SC TA) ++ [(qo, .inl (cJ, 1, .inr (.inl (vp_updL O 0 (lZ (((A u : Nat)) : Int))))))])) H := hP
      have hD : va_D (lA s) ((wM r cI cZ cJ th k V C A T B P OR n PR ST li w WK so sp CT FW) ++ ((wX q cI cZ cJ k V C T B P (un A u 1) n PR ST li w WK so sp CT SC TA) ++ [(qo, .inl (cJ, 1, .inr (.inl (vp_updL O 0 (lZ (((A u : Nat)) : Int))))))])) := hD
      refine lv_istore (lv' := [(5, .int (nI 0)), (4, .int (nI (4 * jj))), (3, .ref qo), (2, .ref (r 0)), (1, .ref (q 0)), (0, .ref b)]) hx hb dL_law_394 hl (by decide) rfl (fun ls hl => ?_)
      refine lv_aload_n hx hb dL_law_396 rfl (lv_at hl 3 rfl) ?_
      refine lv_aload_n hx hb dL_law_397 rfl (lv_at hl 5 rfl) ?_
      refine lv_iload hx hb dL_law_398 (lv_at hl 1 rfl) ?_
      refine lv_iconst (v := nI 1) hx hb dL_law_400 (ic_1) ?_
      refine n_iadd hx hb dL_law_401 ?_
      refine n_sld hx hb hX hbl hbA hS (by omega) (by omega) dL_law_402 ?_
      refine lv_aload_n hx hb dL_law_403 rfl (lv_at hl 5 rfl) ?_
      refine lv_iload hx hb dL_law_404 (lv_at hl 1 rfl) ?_
      refine lv_iconst (v := nI 2) hx hb dL_law_406 (ic_2) ?_
      refine n_iadd hx hb dL_law_407 ?_
      refine n_sld hx hb hX hbl hbA hS (by omega) (by omega) dL_law_408 ?_
      refine lv_if_eq (tgt := 416) hx hb dL_law_409 (by decide) (fun h => absurd h con) (fun _ => ?_)
      refine lv_iconst (v := nI 1) hx hb dL_law_412 (ic_1) ?_
      refine lv_goto (tgt := 417) hx hb dL_law_413 (by decide) ?_
      refine k3_i (mc := 0) (ms := 0) (wa := []) (wc := (wM r cI cZ cJ th k V C A T B P OR n PR ST li w WK so sp CT FW)) (wb := ((wX q cI cZ cJ k V C T B P (un A u 1) n PR ST li w WK so sp CT SC TA) ++ [(qo, .inl (cJ, 1, .inr (.inl (vp_updL O 0 (lZ (((A u : Nat)) : Int))))))])) (va_runV (As := [.int (xs ((4 * jj) + 1)), .int (nI 1)]) (rest := []) ⟨hx, hb, hml, hown, hts⟩ (c_X1_accept l hst D r cI cZ cJ th k V C A T B P OR n PR ST li w WK so sp CT FW H.size (xs ((4 * jj) + 1)) 1 hI.hk8 hI.hA1 (by decide)) (cwV 2 hts gL_law_X1_accept rfl rfl rfl hd_X1_accept ⟨(Nat.le_of_ble_eq_true rfl), (Nat.le_of_ble_eq_true rfl)⟩) (pre_V3 (wa := []) (wc := (wM r cI cZ cJ th k V C A T B P OR n PR ST li w WK so sp CT FW)) (wb := ((wX q cI cZ cJ k V C T B P (un A u 1) n PR ST li w WK so sp CT SC TA) ++ [(qo, .inl (cJ, 1, .inr (.inl (vp_updL O 0 (lZ (((A u : Nat)) : Int))))))])) hP hK hD hS hA hZ hg 0 (ci := 1) rfl rfl) rfl rfl hl.1 rfl (lv_room (Nat.le_of_ble_eq_true rfl)) dL_law_417 ⟨(show ((27 + 8 * jj) + 1) + 0 ≤ 601024 by omega), (show ((20244 + 64 * jj) + 6) + 0 ≤ 7293034 by omega)⟩) hP hD hS hA (fun rr u2 H locs hq hP hD hS => ?_)
      obtain ⟨v0, v1, v2⟩ := u2
      replace hq : rr = nI v0 ∧ ((v1 = 0 ∧ ∃ i, i < k ∧ (xs ((4 * jj) + 1)) = nI i ∧ v0 = A i ∧ v2 = un A i 1) ∨ (v1 = 1 ∧ ¬ rg (xs ((4 * jj) + 1)) 0 k ∧ v2 = A)) := hq
      obtain ⟨hr9, hq⟩ := hq
      replace hr9 := hr9.symm
      subst hr9
      have hP : va_P D vwCl ((wM r cI cZ cJ v1 k V C v2 T B P OR n PR ST li w WK so sp CT FW) ++ ((wX q cI cZ cJ k V C T B P (un A u 1) n PR ST li w WK so sp CT SC TA) ++ [(qo, .inl (cJ, 1, .inr (.inl (vp_updL O 0 (lZ (((A u : Nat)) : Int))))))])) H := hP
      have hD : va_D (lA s) ((wM r cI cZ cJ v1 k V C v2 T B P OR n PR ST li w WK so sp CT FW) ++ ((wX q cI cZ cJ k V C T B P (un A u 1) n PR ST li w WK so sp CT SC TA) ++ [(qo, .inl (cJ, 1, .inr (.inl (vp_updL O 0 (lZ (((A u : Nat)) : Int))))))])) := hD
      obtain ⟨e0, e1, f0⟩ := q_accept_0 hI.hk8 hp hq
      have e0 := e0.symm
      subst e0
      have e1 := e1.symm
      subst e1
      have f0 := f0.symm
      subst f0
      have hI2 := iv_accept (i := u) (x := 1) hI (by decide)
      refine lv_istore (lv' := [(6, .int (nI (A u))), (5, .int (nI 0)), (4, .int (nI (4 * jj))), (3, .ref qo), (2, .ref (r 0)), (1, .ref (q 0)), (0, .ref b)]) hx hb dL_law_420 hl (by decide) rfl (fun ls hl => ?_)
      refine lv_aload_n hx hb dL_law_422 rfl (lv_at hl 4 rfl) ?_
      refine k3_i (mc := 0) (ms := 0) (wa := []) (wc := (wM r cI cZ cJ 0 k V C (un A u 1) T B P OR n PR ST li w WK so sp CT FW)) (wb := ((wX q cI cZ cJ k V C T B P (un A u 1) n PR ST li w WK so sp CT SC TA) ++ [(qo, .inl (cJ, 1, .inr (.inl (vp_updL O 0 (lZ (((A u : Nat)) : Int))))))])) (va_runV (As := []) (rest := []) ⟨hx, hb, hml, hown, hts⟩ (c_X1_thrown l hst D r cI cZ cJ 0 k V C (un A u 1) T B P OR n PR ST li w WK so sp CT FW H.size  ) (cwV 0 hts gL_law_X1_thrown rfl rfl rfl hd_X1_thrown ⟨(Nat.le_of_ble_eq_true rfl), (Nat.le_of_ble_eq_true rfl)⟩) (pre_V3 (wa := []) (wc := (wM r cI cZ cJ 0 k V C (un A u 1) T B P OR n PR ST li w WK so sp CT FW)) (wb := ((wX q cI cZ cJ k V C T B P (un A u 1) n PR ST li w WK so sp CT SC TA) ++ [(qo, .inl (cJ, 1, .inr (.inl (vp_updL O 0 (lZ (((A u : Nat)) : Int))))))])) hP hK hD hS hA hZ hg 0 (ci := 1) rfl rfl) rfl rfl hl.1 rfl (lv_room (Nat.le_of_ble_eq_true rfl)) dL_law_423 ⟨(show (((27 + 8 * jj) + 1) + 0) + 0 ≤ 601024 by omega), (show (((20244 + 64 * jj) + 6) + 0) + 0 ≤ 7293034 by omega)⟩) hP hD hS hA (fun rr u2 H locs hq hP hD hS => ?_)
      replace hq : rr = nI 0 := hq
      subst hq
      have hP : va_P D vwCl ((wM r cI cZ cJ 0 k V C (un A u 1) T B P OR n PR ST li w WK so sp CT FW) ++ ((wX q cI cZ cJ k V C T B P (un A u 1) n PR ST li w WK so sp CT SC TA) ++ [(qo, .inl (cJ, 1, .inr (.inl (vp_updL O 0 (lZ (((A u : Nat)) : Int))))))])) H := hP
      have hD : va_D (lA s) ((wM r cI cZ cJ 0 k V C (un A u 1) T B P OR n PR ST li w WK so sp CT FW) ++ ((wX q cI cZ cJ k V C T B P (un A u 1) n PR ST li w WK so sp CT SC TA) ++ [(qo, .inl (cJ, 1, .inr (.inl (vp_updL O 0 (lZ (((A u : Nat)) : Int))))))])) := hD
      refine lv_iload hx hb dL_law_426 (lv_at hl 1 rfl) ?_
      refine lv_icmp_eq (tgt := 433) hx hb dL_law_428 (by decide) (fun _ => ?_) (fun h => absurd rfl h)
      refine lv_iload hx hb dL_law_433 (lv_at hl 1 rfl) ?_
      refine n_if_ne (tgt := 457) hx hb (by decide) dL_law_435 (by decide) (fun c435 => ?_) (fun c435 => ?_)
      · exact absurd c435 (by decide)
      · refine lv_aload_n hx hb dL_law_438 rfl (lv_at hl 3 rfl) ?_
        refine lv_iconst (v := nI 0) hx hb dL_law_439 (ic_0) ?_
        refine n_lald hx hb hK hP 26 2 rfl rfl (by decide) (by decide) dL_law_440 ?_
        refine n_topl (show (vp_updL O 0 (lZ (((A u : Nat)) : Int))) 0 = lZ (((A u : Nat)) : Int) from updL_s) ?_
        refine lv_iload hx hb dL_law_441 (lv_at hl 0 rfl) ?_
        have hbd : A u ≤ 1 := hI.hA1 u hp.1
        refine n_if_eq (tgt := 450) hx hb (by omega) dL_law_443 (by decide) (fun cq => ?_) (fun cq => ?_)
        · have cq : A u = 0 := by omega
          refine lv_lconst (v := lZ 0) hx hb dL_law_450 (by decide) ?_
          refine n_topl (show lZ 0 = lZ (((A u : Nat)) : Int) from by rw [cq]; rfl) ?_
          refine n_lcmp_eq (tgt := 457) hx hb dL_law_451 dL_law_452 (by decide) (fun _ => ?_) (fun h => absurd rfl h)
          refine lv_goto (tgt := 1433) hx hb dL_law_457 (by decide) ?_
          refine W.widen (k := 27 + 8 * (jj + 1)) (n := 20244 + 64 * (jj + 1)) (by omega) (by omega) ?_
          exact hN 0 k V C T B P (un A u 1) OR n PR ST li w WK so sp CT SC TA FW (vp_updL O 0 (lZ (((A u : Nat)) : Int))) _ _ hI2 hP hD hS ls (lv_sub hl [2, 3, 4, 5, 6] rfl)
        · have cq : A u = 1 := by omega
          refine lv_lconst (v := lZ 1) hx hb dL_law_446 (by decide) ?_
          refine n_topl (show lZ 1 = lZ (((A u : Nat)) : Int) from by rw [cq]; rfl) ?_
          refine lv_goto (tgt := 451) hx hb dL_law_447 (by decide) ?_
          refine n_lcmp_eq (tgt := 457) hx hb dL_law_451 dL_law_452 (by decide) (fun _ => ?_) (fun h => absurd rfl h)
          refine lv_goto (tgt := 1433) hx hb dL_law_457 (by decide) ?_
          refine W.widen (k := 27 + 8 * (jj + 1)) (n := 20244 + 64 * (jj + 1)) (by omega) (by omega) ?_
          exact hN 0 k V C T B P (un A u 1) OR n PR ST li w WK so sp CT SC TA FW (vp_updL O 0 (lZ (((A u : Nat)) : Int))) _ _ hI2 hP hD hS ls (lv_sub hl [2, 3, 4, 5, 6] rfl)
    · replace hp : rr = nI kk ∧ ((kk = 1 ∧ (¬ rg (xs ((4 * jj) + 1)) 0 k))) := hp
      obtain ⟨rfl, hp⟩ := hp
      have hP : va_P D vwCl ((wM r cI cZ cJ th k V C A T B P OR n PR ST li w WK so sp CT FW) ++ ((wX q cI cZ cJ k V C T B P A n PR ST li w WK so sp CT SC TA) ++ [(qo, .inl (cJ, 1, .inr (.inl O)))])) H := hP
      have hD : va_D (lA s) ((wM r cI cZ cJ th k V C A T B P OR n PR ST li w WK so sp CT FW) ++ ((wX q cI cZ cJ k V C T B P A n PR ST li w WK so sp CT SC TA) ++ [(qo, .inl (cJ, 1, .inr (.inl O)))])) := hD
      obtain ⟨rfl, hp⟩ := hp
      refine lv_istore (lv' := [(5, .int (nI 1)), (4, .int (nI (4 * jj))), (3, .ref qo), (2, .ref (r 0)), (1, .ref (q 0)), (0, .ref b)]) hx hb dL_law_394 hl (by decide) rfl (fun ls hl => ?_)
      refine lv_aload_n hx hb dL_law_396 rfl (lv_at hl 3 rfl) ?_
      refine lv_aload_n hx hb dL_law_397 rfl (lv_at hl 5 rfl) ?_
      refine lv_iload hx hb dL_law_398 (lv_at hl 1 rfl) ?_
      refine lv_iconst (v := nI 1) hx hb dL_law_400 (ic_1) ?_
      refine n_iadd hx hb dL_law_401 ?_
      refine n_sld hx hb hX hbl hbA hS (by omega) (by omega) dL_law_402 ?_
      refine lv_aload_n hx hb dL_law_403 rfl (lv_at hl 5 rfl) ?_
      refine lv_iload hx hb dL_law_404 (lv_at hl 1 rfl) ?_
      refine lv_iconst (v := nI 2) hx hb dL_law_406 (ic_2) ?_
      refine n_iadd hx hb dL_law_407 ?_
      refine n_sld hx hb hX hbl hbA hS (by omega) (by omega) dL_law_408 ?_
      refine lv_if_eq (tgt := 416) hx hb dL_law_409 (by decide) (fun h => absurd h con) (fun _ => ?_)
      refine lv_iconst (v := nI 1) hx hb dL_law_412 (ic_1) ?_
      refine lv_goto (tgt := 417) hx hb dL_law_413 (by decide) ?_
      refine k3_i (mc := 0) (ms := 0) (wa := []) (wc := (wM r cI cZ cJ th k V C A T B P OR n PR ST li w WK so sp CT FW)) (wb := ((wX q cI cZ cJ k V C T B P A n PR ST li w WK so sp CT SC TA) ++ [(qo, .inl (cJ, 1, .inr (.inl O)))])) (va_runV (As := [.int (xs ((4 * jj) + 1)), .int (nI 1)]) (rest := []) ⟨hx, hb, hml, hown, hts⟩ (c_X1_accept l hst D r cI cZ cJ th k V C A T B P OR n PR ST li w WK so sp CT FW H.size (xs ((4 * jj) + 1)) 1 hI.hk8 hI.hA1 (by decide)) (cwV 2 hts gL_law_X1_accept rfl rfl rfl hd_X1_accept ⟨(Nat.le_of_ble_eq_true rfl), (Nat.le_of_ble_eq_true rfl)⟩) (pre_V3 (wa := []) (wc := (wM r cI cZ cJ th k V C A T B P OR n PR ST li w WK so sp CT FW)) (wb := ((wX q cI cZ cJ k V C T B P A n PR ST li w WK so sp CT SC TA) ++ [(qo, .inl (cJ, 1, .inr (.inl O)))])) hP hK hD hS hA hZ hg 0 (ci := 1) rfl rfl) rfl rfl hl.1 rfl (lv_room (Nat.le_of_ble_eq_true rfl)) dL_law_417 ⟨(show ((27 + 8 * jj) + 1) + 0 ≤ 601024 by omega), (show ((20244 + 64 * jj) + 6) + 0 ≤ 7293034 by omega)⟩) hP hD hS hA (fun rr u2 H locs hq hP hD hS => ?_)
      obtain ⟨v0, v1, v2⟩ := u2
      replace hq : rr = nI v0 ∧ ((v1 = 0 ∧ ∃ i, i < k ∧ (xs ((4 * jj) + 1)) = nI i ∧ v0 = A i ∧ v2 = un A i 1) ∨ (v1 = 1 ∧ ¬ rg (xs ((4 * jj) + 1)) 0 k ∧ v2 = A)) := hq
      obtain ⟨hr9, hq⟩ := hq
      replace hr9 := hr9.symm
      subst hr9
      have hP : va_P D vwCl ((wM r cI cZ cJ v1 k V C v2 T B P OR n PR ST li w WK so sp CT FW) ++ ((wX q cI cZ cJ k V C T B P A n PR ST li w WK so sp CT SC TA) ++ [(qo, .inl (cJ, 1, .inr (.inl O)))])) H := hP
      have hD : va_D (lA s) ((wM r cI cZ cJ v1 k V C v2 T B P OR n PR ST li w WK so sp CT FW) ++ ((wX q cI cZ cJ k V C T B P A n PR ST li w WK so sp CT SC TA) ++ [(qo, .inl (cJ, 1, .inr (.inl O)))])) := hD
      obtain ⟨e0, f0⟩ := q_accept_1 hI.hk8 hp hq
      have e0 := e0.symm
      subst e0
      have f0 := f0.symm
      subst f0
      refine lv_istore (lv' := [(6, .int (nI v0)), (5, .int (nI 1)), (4, .int (nI (4 * jj))), (3, .ref qo), (2, .ref (r 0)), (1, .ref (q 0)), (0, .ref b)]) hx hb dL_law_420 hl (by decide) rfl (fun ls hl => ?_)
      refine lv_aload_n hx hb dL_law_422 rfl (lv_at hl 4 rfl) ?_
      refine k3_i (mc := 0) (ms := 0) (wa := []) (wc := (wM r cI cZ cJ 1 k V C A T B P OR n PR ST li w WK so sp CT FW)) (wb := ((wX q cI cZ cJ k V C T B P A n PR ST li w WK so sp CT SC TA) ++ [(qo, .inl (cJ, 1, .inr (.inl O)))])) (va_runV (As := []) (rest := []) ⟨hx, hb, hml, hown, hts⟩ (c_X1_thrown l hst D r cI cZ cJ 1 k V C A T B P OR n PR ST li w WK so sp CT FW H.size  ) (cwV 0 hts gL_law_X1_thrown rfl rfl rfl hd_X1_thrown ⟨(Nat.le_of_ble_eq_true rfl), (Nat.le_of_ble_eq_true rfl)⟩) (pre_V3 (wa := []) (wc := (wM r cI cZ cJ 1 k V C A T B P OR n PR ST li w WK so sp CT FW)) (wb := ((wX q cI cZ cJ k V C T B P A n PR ST li w WK so sp CT SC TA) ++ [(qo, .inl (cJ, 1, .inr (.inl O)))])) hP hK hD hS hA hZ hg 0 (ci := 1) rfl rfl) rfl rfl hl.1 rfl (lv_room (Nat.le_of_ble_eq_true rfl)) dL_law_423 ⟨(show (((27 + 8 * jj) + 1) + 0) + 0 ≤ 601024 by omega), (show (((20244 + 64 * jj) + 6) + 0) + 0 ≤ 7293034 by omega)⟩) hP hD hS hA (fun rr u2 H locs hq hP hD hS => ?_)
      replace hq : rr = nI 1 := hq
      subst hq
      have hP : va_P D vwCl ((wM r cI cZ cJ 1 k V C A T B P OR n PR ST li w WK so sp CT FW) ++ ((wX q cI cZ cJ k V C T B P A n PR ST li w WK so sp CT SC TA) ++ [(qo, .inl (cJ, 1, .inr (.inl O)))])) H := hP
      have hD : va_D (lA s) ((wM r cI cZ cJ 1 k V C A T B P OR n PR ST li w WK so sp CT FW) ++ ((wX q cI cZ cJ k V C T B P A n PR ST li w WK so sp CT SC TA) ++ [(qo, .inl (cJ, 1, .inr (.inl O)))])) := hD
      refine lv_iload hx hb dL_law_426 (lv_at hl 1 rfl) ?_
      refine lv_icmp_eq (tgt := 433) hx hb dL_law_428 (by decide) (fun _ => ?_) (fun h => absurd rfl h)
      refine lv_iload hx hb dL_law_433 (lv_at hl 1 rfl) ?_
      refine n_if_ne (tgt := 457) hx hb (by decide) dL_law_435 (by decide) (fun c435 => ?_) (fun c435 => ?_)
      · refine lv_goto (tgt := 1433) hx hb dL_law_457 (by decide) ?_
        refine W.widen (k := 27 + 8 * (jj + 1)) (n := 20244 + 64 * (jj + 1)) (by omega) (by omega) ?_
        exact hN 1 k V C T B P A OR n PR ST li w WK so sp CT SC TA FW O _ _ hI hP hD hS ls (lv_sub hl [2, 3, 4, 5, 6] rfl)
      · exact absurd c435 (by decide)

set_option maxHeartbeats 8000000 in
set_option maxRecDepth 100000 in
theorem lw_setLimit (hst : l.stackTraces = false) (hc : Lc p s m meth c b L xs D cI cZ cJ) {r q : Nat → Nat} {qo jj : Nat} (hj : 4 * jj + 4 ≤ L) {th : Nat} {k : Nat} {V : Nat → Nat} {C : Nat → Nat} {T : Nat → Nat} {B : Nat → Nat} {P : Nat → Nat} {A : Nat → Nat} {OR : Nat → Nat} {n : Nat} {PR : Nat → Nat} {ST : Nat → Nat} {li : Nat} {w : Nat} {WK : Nat → Nat} {so : Nat} {sp : Nat} {CT : Nat → Int64} {SC : Nat → Int} {TA : Nat → Nat} {FW : Nat → Nat} {O : Nat → Int64} {H : Heap} {locs : List Loc} (hI : IV k V C T A OR n PR ST li w WK so sp) (hP : va_P D vwCl (wL r q qo cI cZ cJ th k V C T B P A OR n PR ST li w WK so sp CT SC TA FW O) H) (hD : va_D (lA s) (wL r q qo cI cZ cJ th k V C T B P A OR n PR ST li w WK so sp CT SC TA FW O)) (hS : va_S (lA s) s.heap H locs) {ls : Array Slot} (hl : lv_has ls 9 [(4, .int (nI (4 * jj))), (3, .ref qo), (2, .ref (r 0)), (1, .ref (q 0)), (0, .ref b)]) (hN : Nx p l e s m below meth c b D r q qo cI cZ cJ Q jj) : W p l e room_1 s m #[Value.ref b] below meth c H locs (27 + 8 * jj) (20244 + 64 * jj) Q (F0 m 460 ls []) := by
  obtain ⟨hx, hb, hr, hml, hown, hts, hX, hbl, hlocks, hK, hZ, hg, hn, hL⟩ := hc
  have hA : ∀ q9 : Nat, s.heap.size ≤ q9 → lA s q9 := fun _ h => h
  have hbA : ¬ lA s b := Nat.not_le.mpr hbl
  have hP : va_P D vwCl ((wM r cI cZ cJ th k V C A T B P OR n PR ST li w WK so sp CT FW) ++ ((wX q cI cZ cJ k V C T B P A n PR ST li w WK so sp CT SC TA) ++ [(qo, .inl (cJ, 1, .inr (.inl O)))])) H := hP
  have hD : va_D (lA s) ((wM r cI cZ cJ th k V C A T B P OR n PR ST li w WK so sp CT FW) ++ ((wX q cI cZ cJ k V C T B P A n PR ST li w WK so sp CT SC TA) ++ [(qo, .inl (cJ, 1, .inr (.inl O)))])) := hD
  refine lv_aload_n hx hb dL_law_460 rfl (lv_at hl 3 rfl) ?_
  refine lv_aload_n hx hb dL_law_461 rfl (lv_at hl 4 rfl) ?_
  refine lv_iload hx hb dL_law_462 (lv_at hl 0 rfl) ?_
  refine lv_iconst (v := nI 1) hx hb dL_law_464 (ic_1) ?_
  refine n_iadd hx hb dL_law_465 ?_
  refine n_sld hx hb hX hbl hbA hS (by omega) (by omega) dL_law_466 ?_
  refine lv_aload_n hx hb dL_law_467 rfl (lv_at hl 1 rfl) ?_
  refine k3_i (mc := 1) (ms := 6) (wa := (wM r cI cZ cJ th k V C A T B P OR n PR ST li w WK so sp CT FW)) (wc := ((wX q cI cZ cJ k V C T B P A n PR ST li w WK so sp CT SC TA) ++ [(qo, .inl (cJ, 1, .inr (.inl O)))])) (wb := []) (vx_runSW (As := [.ref (q 0), .int (xs ((4 * jj) + 1)), .ref qo]) (rest := []) ⟨hx, hb, hml, hown, hts⟩ (c_L_setLimit l hst D q qo cI cZ cJ k V C T B P A n PR ST li w WK so sp CT SC TA O H.size (xs ((4 * jj) + 1)) ) (vx_cwSW 3 hts gL_law_L_setLimit rfl rfl rfl hd_L_setLimit.2 ⟨(Nat.le_of_ble_eq_true rfl), (Nat.le_of_ble_eq_true rfl)⟩) (pre_N (wa := (wM r cI cZ cJ th k V C A T B P OR n PR ST li w WK so sp CT FW)) (wc := ((wX q cI cZ cJ k V C T B P A n PR ST li w WK so sp CT SC TA) ++ [(qo, .inl (cJ, 1, .inr (.inl O)))])) (wb := []) hP hK hD hS hA hZ hg hn) rfl rfl hl.1 rfl (lv_room (Nat.le_of_ble_eq_true rfl)) dL_law_468 ⟨(show (27 + 8 * jj) + 1 ≤ 601024 by omega), (show (20244 + 64 * jj) + 6 ≤ 7293034 by omega)⟩) hP hD hS hA (fun rr u H locs hp hP hD hS => ?_)
  rcases u with u | kk
  · replace hp : rr = nI 0 ∧ (u < 2001 ∧ (xs ((4 * jj) + 1)) = nI u) := hp
    obtain ⟨rfl, hp⟩ := hp
    have hP : va_P D vwCl ((wM r cI cZ cJ th k V C A T B P OR n PR ST li w WK so sp CT FW) ++ ((wX q cI cZ cJ k V C T B P A n PR ST u w WK so sp CT SC TA) ++ [(qo, .inl (cJ, 1, .inr (.inl (vp_updL O 0 ((nI li).toInt64)))))])) H := hP
    have hD : va_D (lA s) ((wM r cI cZ cJ th k V C A T B P OR n PR ST li w WK so sp CT FW) ++ ((wX q cI cZ cJ k V C T B P A n PR ST u w WK so sp CT SC TA) ++ [(qo, .inl (cJ, 1, .inr (.inl (vp_updL O 0 ((nI li).toInt64)))))])) := hD
    refine lv_istore (lv' := [(5, .int (nI 0)), (4, .int (nI (4 * jj))), (3, .ref qo), (2, .ref (r 0)), (1, .ref (q 0)), (0, .ref b)]) hx hb dL_law_471 hl (by decide) rfl (fun ls hl => ?_)
    refine lv_aload_n hx hb dL_law_473 rfl (lv_at hl 3 rfl) ?_
    refine lv_aload_n hx hb dL_law_474 rfl (lv_at hl 5 rfl) ?_
    refine lv_iload hx hb dL_law_475 (lv_at hl 1 rfl) ?_
    refine lv_iconst (v := nI 1) hx hb dL_law_477 (ic_1) ?_
    refine n_iadd hx hb dL_law_478 ?_
    refine n_sld hx hb hX hbl hbA hS (by omega) (by omega) dL_law_479 ?_
    refine k3_i (mc := 0) (ms := 0) (wa := []) (wc := (wM r cI cZ cJ th k V C A T B P OR n PR ST li w WK so sp CT FW)) (wb := ((wX q cI cZ cJ k V C T B P A n PR ST u w WK so sp CT SC TA) ++ [(qo, .inl (cJ, 1, .inr (.inl (vp_updL O 0 ((nI li).toInt64)))))])) (va_runV (As := [.int (xs ((4 * jj) + 1))]) (rest := []) ⟨hx, hb, hml, hown, hts⟩ (c_X1_setLimit l hst D r cI cZ cJ th k V C A T B P OR n PR ST li w WK so sp CT FW H.size (xs ((4 * jj) + 1)) ) (cwV 1 hts gL_law_X1_setLimit rfl rfl rfl hd_X1_setLimit ⟨(Nat.le_of_ble_eq_true rfl), (Nat.le_of_ble_eq_true rfl)⟩) (pre_V3 (wa := []) (wc := (wM r cI cZ cJ th k V C A T B P OR n PR ST li w WK so sp CT FW)) (wb := ((wX q cI cZ cJ k V C T B P A n PR ST u w WK so sp CT SC TA) ++ [(qo, .inl (cJ, 1, .inr (.inl (vp_updL O 0 ((nI li).toInt64)))))])) hP hK hD hS hA hZ hg 0 (ci := 1) rfl rfl) rfl rfl hl.1 rfl (lv_room (Nat.le_of_ble_eq_true rfl)) dL_law_480 ⟨(show ((27 + 8 * jj) + 1) + 0 ≤ 601024 by omega), (show ((20244 + 64 * jj) + 6) + 0 ≤ 7293034 by omega)⟩) hP hD hS hA (fun rr u2 H locs hq hP hD hS => ?_)
    obtain ⟨v0, v1, v2⟩ := u2
    replace hq : rr = nI v0 ∧ ((v1 = 0 ∧ v0 = li ∧ v2 < 2001 ∧ (xs ((4 * jj) + 1)) = nI v2) ∨ (v1 = 1 ∧ ¬ rg (xs ((4 * jj) + 1)) 0 2001 ∧ v2 = li)) := hq
    obtain ⟨hr9, hq⟩ := hq
    replace hr9 := hr9.symm
    subst hr9
    have hP : va_P D vwCl ((wM r cI cZ cJ v1 k V C A T B P OR n PR ST v2 w WK so sp CT FW) ++ ((wX q cI cZ cJ k V C T B P A n PR ST u w WK so sp CT SC TA) ++ [(qo, .inl (cJ, 1, .inr (.inl (vp_updL O 0 ((nI li).toInt64)))))])) H := hP
    have hD : va_D (lA s) ((wM r cI cZ cJ v1 k V C A T B P OR n PR ST v2 w WK so sp CT FW) ++ ((wX q cI cZ cJ k V C T B P A n PR ST u w WK so sp CT SC TA) ++ [(qo, .inl (cJ, 1, .inr (.inl (vp_updL O 0 ((nI li).toInt64)))))])) := hD
    obtain ⟨e0, e1, f0⟩ := q_setLimit_0  hp hq
    have e0 := e0.symm
    subst e0
    have e1 := e1.symm
    subst e1
    have f0 := f0.symm
    subst f0
    have hI2 := iv_setLimit hI hp.1
    refine lv_istore (lv' := [(6, .int (nI li)), (5, .int (nI 0)), (4, .int (nI (4 * jj))), (3, .ref qo), (2, .ref (r 0)), (1, .ref (q 0)), (0, .ref b)]) hx hb dL_law_483 hl (by decide) rfl (fun ls hl => ?_)
    refine lv_aload_n hx hb dL_law_485 rfl (lv_at hl 4 rfl) ?_
    refine k3_i (mc := 0) (ms := 0) (wa := []) (wc := (wM r cI cZ cJ 0 k V C A T B P OR n PR ST u w WK so sp CT FW)) (wb := ((wX q cI cZ cJ k V C T B P A n PR ST u w WK so sp CT SC TA) ++ [(qo, .inl (cJ, 1, .inr (.inl (vp_updL O 0 ((nI li).toInt64)))))])) (va_runV (As := []) (rest := []) ⟨hx, hb, hml, hown, hts⟩ (c_X1_thrown l hst D r cI cZ cJ 0 k V C A T B P OR n PR ST u w WK so sp CT FW H.size  ) (cwV 0 hts gL_law_X1_thrown rfl rfl rfl hd_X1_thrown ⟨(Nat.le_of_ble_eq_true rfl), (Nat.le_of_ble_eq_true rfl)⟩) (pre_V3 (wa := []) (wc := (wM r cI cZ cJ 0 k V C A T B P OR n PR ST u w WK so sp CT FW)) (wb := ((wX q cI cZ cJ k V C T B P A n PR ST u w WK so sp CT SC TA) ++ [(qo, .inl (cJ, 1, .inr (.inl (vp_updL O 0 ((nI li).toInt64)))))])) hP hK hD hS hA hZ hg 0 (ci := 1) rfl rfl) rfl rfl hl.1 rfl (lv_room (Nat.le_of_ble_eq_true rfl)) dL_law_486 ⟨(show (((27 + 8 * jj) + 1) + 0) + 0 ≤ 601024 by omega), (show (((20244 + 64 * jj) + 6) + 0) + 0 ≤ 7293034 by omega)⟩) hP hD hS hA (fun rr u2 H locs hq hP hD hS => ?_)
    replace hq : rr = nI 0 := hq
    subst hq
    have hP : va_P D vwCl ((wM r cI cZ cJ 0 k V C A T B P OR n PR ST u w WK so sp CT FW) ++ ((wX q cI cZ cJ k V C T B P A n PR ST u w WK so sp CT SC TA) ++ [(qo, .inl (cJ, 1, .inr (.inl (vp_updL O 0 ((nI li).toInt64)))))])) H := hP
    have hD : va_D (lA s) ((wM r cI cZ cJ 0 k V C A T B P OR n PR ST u w WK so sp CT FW) ++ ((wX q cI cZ cJ k V C T B P A n PR ST u w WK so sp CT SC TA) ++ [(qo, .inl (cJ, 1, .inr (.inl (vp_updL O 0 ((nI li).toInt64)))))])) := hD
    refine lv_iload hx hb dL_law_489 (lv_at hl 1 rfl) ?_
    refine lv_icmp_eq (tgt := 496) hx hb dL_law_491 (by decide) (fun _ => ?_) (fun h => absurd rfl h)
    refine lv_iload hx hb dL_law_496 (lv_at hl 1 rfl) ?_
    refine n_if_ne (tgt := 513) hx hb (by decide) dL_law_498 (by decide) (fun c498 => ?_) (fun c498 => ?_)
    · exact absurd c498 (by decide)
    · refine lv_aload_n hx hb dL_law_501 rfl (lv_at hl 3 rfl) ?_
      refine lv_iconst (v := nI 0) hx hb dL_law_502 (ic_0) ?_
      refine n_lald hx hb hK hP 26 2 rfl rfl (by decide) (by decide) dL_law_503 ?_
      refine n_topl (show (vp_updL O 0 ((nI li).toInt64)) 0 = (nI li).toInt64 from updL_s) ?_
      refine lv_iload hx hb dL_law_504 (lv_at hl 0 rfl) ?_
      refine lv_i2l hx hb dL_law_506 rfl ?_
      refine n_lcmp_eq (tgt := 513) hx hb dL_law_507 dL_law_508 (by decide) (fun _ => ?_) (fun h => absurd rfl h)
      refine lv_goto (tgt := 1433) hx hb dL_law_513 (by decide) ?_
      refine W.widen (k := 27 + 8 * (jj + 1)) (n := 20244 + 64 * (jj + 1)) (by omega) (by omega) ?_
      exact hN 0 k V C T B P A OR n PR ST u w WK so sp CT SC TA FW (vp_updL O 0 ((nI li).toInt64)) _ _ hI2 hP hD hS ls (lv_sub hl [2, 3, 4, 5, 6] rfl)
  · replace hp : rr = nI kk ∧ ((kk = 1 ∧ (¬ rg (xs ((4 * jj) + 1)) 0 2001))) := hp
    obtain ⟨rfl, hp⟩ := hp
    have hP : va_P D vwCl ((wM r cI cZ cJ th k V C A T B P OR n PR ST li w WK so sp CT FW) ++ ((wX q cI cZ cJ k V C T B P A n PR ST li w WK so sp CT SC TA) ++ [(qo, .inl (cJ, 1, .inr (.inl O)))])) H := hP
    have hD : va_D (lA s) ((wM r cI cZ cJ th k V C A T B P OR n PR ST li w WK so sp CT FW) ++ ((wX q cI cZ cJ k V C T B P A n PR ST li w WK so sp CT SC TA) ++ [(qo, .inl (cJ, 1, .inr (.inl O)))])) := hD
    obtain ⟨rfl, hp⟩ := hp
    refine lv_istore (lv' := [(5, .int (nI 1)), (4, .int (nI (4 * jj))), (3, .ref qo), (2, .ref (r 0)), (1, .ref (q 0)), (0, .ref b)]) hx hb dL_law_471 hl (by decide) rfl (fun ls hl => ?_)
    refine lv_aload_n hx hb dL_law_473 rfl (lv_at hl 3 rfl) ?_
    refine lv_aload_n hx hb dL_law_474 rfl (lv_at hl 5 rfl) ?_
    refine lv_iload hx hb dL_law_475 (lv_at hl 1 rfl) ?_
    refine lv_iconst (v := nI 1) hx hb dL_law_477 (ic_1) ?_
    refine n_iadd hx hb dL_law_478 ?_
    refine n_sld hx hb hX hbl hbA hS (by omega) (by omega) dL_law_479 ?_
    refine k3_i (mc := 0) (ms := 0) (wa := []) (wc := (wM r cI cZ cJ th k V C A T B P OR n PR ST li w WK so sp CT FW)) (wb := ((wX q cI cZ cJ k V C T B P A n PR ST li w WK so sp CT SC TA) ++ [(qo, .inl (cJ, 1, .inr (.inl O)))])) (va_runV (As := [.int (xs ((4 * jj) + 1))]) (rest := []) ⟨hx, hb, hml, hown, hts⟩ (c_X1_setLimit l hst D r cI cZ cJ th k V C A T B P OR n PR ST li w WK so sp CT FW H.size (xs ((4 * jj) + 1)) ) (cwV 1 hts gL_law_X1_setLimit rfl rfl rfl hd_X1_setLimit ⟨(Nat.le_of_ble_eq_true rfl), (Nat.le_of_ble_eq_true rfl)⟩) (pre_V3 (wa := []) (wc := (wM r cI cZ cJ th k V C A T B P OR n PR ST li w WK so sp CT FW)) (wb := ((wX q cI cZ cJ k V C T B P A n PR ST li w WK so sp CT SC TA) ++ [(qo, .inl (cJ, 1, .inr (.inl O)))])) hP hK hD hS hA hZ hg 0 (ci := 1) rfl rfl) rfl rfl hl.1 rfl (lv_room (Nat.le_of_ble_eq_true rfl)) dL_law_480 ⟨(show ((27 + 8 * jj) + 1) + 0 ≤ 601024 by omega), (show ((20244 + 64 * jj) + 6) + 0 ≤ 7293034 by omega)⟩) hP hD hS hA (fun rr u2 H locs hq hP hD hS => ?_)
    obtain ⟨v0, v1, v2⟩ := u2
    replace hq : rr = nI v0 ∧ ((v1 = 0 ∧ v0 = li ∧ v2 < 2001 ∧ (xs ((4 * jj) + 1)) = nI v2) ∨ (v1 = 1 ∧ ¬ rg (xs ((4 * jj) + 1)) 0 2001 ∧ v2 = li)) := hq
    obtain ⟨hr9, hq⟩ := hq
    replace hr9 := hr9.symm
    subst hr9
    have hP : va_P D vwCl ((wM r cI cZ cJ v1 k V C A T B P OR n PR ST v2 w WK so sp CT FW) ++ ((wX q cI cZ cJ k V C T B P A n PR ST li w WK so sp CT SC TA) ++ [(qo, .inl (cJ, 1, .inr (.inl O)))])) H := hP
    have hD : va_D (lA s) ((wM r cI cZ cJ v1 k V C A T B P OR n PR ST v2 w WK so sp CT FW) ++ ((wX q cI cZ cJ k V C T B P A n PR ST li w WK so sp CT SC TA) ++ [(qo, .inl (cJ, 1, .inr (.inl O)))])) := hD
    obtain ⟨e0, f0⟩ := q_setLimit_1  hp hq
    have e0 := e0.symm
    subst e0
    have f0 := f0.symm
    subst f0
    refine lv_istore (lv' := [(6, .int (nI v0)), (5, .int (nI 1)), (4, .int (nI (4 * jj))), (3, .ref qo), (2, .ref (r 0)), (1, .ref (q 0)), (0, .ref b)]) hx hb dL_law_483 hl (by decide) rfl (fun ls hl => ?_)
    refine lv_aload_n hx hb dL_law_485 rfl (lv_at hl 4 rfl) ?_
    refine k3_i (mc := 0) (ms := 0) (wa := []) (wc := (wM r cI cZ cJ 1 k V C A T B P OR n PR ST li w WK so sp CT FW)) (wb := ((wX q cI cZ cJ k V C T B P A n PR ST li w WK so sp CT SC TA) ++ [(qo, .inl (cJ, 1, .inr (.inl O)))])) (va_runV (As := []) (rest := []) ⟨hx, hb, hml, hown, hts⟩ (c_X1_thrown l hst D r cI cZ cJ 1 k V C A T B P OR n PR ST li w WK so sp CT FW H.size  ) (cwV 0 hts gL_law_X1_thrown rfl rfl rfl hd_X1_thrown ⟨(Nat.le_of_ble_eq_true rfl), (Nat.le_of_ble_eq_true rfl)⟩) (pre_V3 (wa := []) (wc := (wM r cI cZ cJ 1 k V C A T B P OR n PR ST li w WK so sp CT FW)) (wb := ((wX q cI cZ cJ k V C T B P A n PR ST li w WK so sp CT SC TA) ++ [(qo, .inl (cJ, 1, .inr (.inl O)))])) hP hK hD hS hA hZ hg 0 (ci := 1) rfl rfl) rfl rfl hl.1 rfl (lv_room (Nat.le_of_ble_eq_true rfl)) dL_law_486 ⟨(show (((27 + 8 * jj) + 1) + 0) + 0 ≤ 601024 by omega), (show (((20244 + 64 * jj) + 6) + 0) + 0 ≤ 7293034 by omega)⟩) hP hD hS hA (fun rr u2 H locs hq hP hD hS => ?_)
    replace hq : rr = nI 1 := hq
    subst hq
    have hP : va_P D vwCl ((wM r cI cZ cJ 1 k V C A T B P OR n PR ST li w WK so sp CT FW) ++ ((wX q cI cZ cJ k V C T B P A n PR ST li w WK so sp CT SC TA) ++ [(qo, .inl (cJ, 1, .inr (.inl O)))])) H := hP
    have hD : va_D (lA s) ((wM r cI cZ cJ 1 k V C A T B P OR n PR ST li w WK so sp CT FW) ++ ((wX q cI cZ cJ k V C T B P A n PR ST li w WK so sp CT SC TA) ++ [(qo, .inl (cJ, 1, .inr (.inl O)))])) := hD
    refine lv_iload hx hb dL_law_489 (lv_at hl 1 rfl) ?_
    refine lv_icmp_eq (tgt := 496) hx hb dL_law_491 (by decide) (fun _ => ?_) (fun h => absurd rfl h)
    refine lv_iload hx hb dL_law_496 (lv_at hl 1 rfl) ?_
    refine n_if_ne (tgt := 513) hx hb (by decide) dL_law_498 (by decide) (fun c498 => ?_) (fun c498 => ?_)
    · refine lv_goto (tgt := 1433) hx hb dL_law_513 (by decide) ?_
      refine W.widen (k := 27 + 8 * (jj + 1)) (n := 20244 + 64 * (jj + 1)) (by omega) (by omega) ?_
      exact hN 1 k V C T B P A OR n PR ST li w WK so sp CT SC TA FW O _ _ hI hP hD hS ls (lv_sub hl [2, 3, 4, 5, 6] rfl)
    · exact absurd c498 (by decide)

set_option maxHeartbeats 8000000 in
set_option maxRecDepth 100000 in
theorem lw_addProduct (hst : l.stackTraces = false) (hc : Lc p s m meth c b L xs D cI cZ cJ) {r q : Nat → Nat} {qo jj : Nat} (hj : 4 * jj + 4 ≤ L) {th : Nat} {k : Nat} {V : Nat → Nat} {C : Nat → Nat} {T : Nat → Nat} {B : Nat → Nat} {P : Nat → Nat} {A : Nat → Nat} {OR : Nat → Nat} {n : Nat} {PR : Nat → Nat} {ST : Nat → Nat} {li : Nat} {w : Nat} {WK : Nat → Nat} {so : Nat} {sp : Nat} {CT : Nat → Int64} {SC : Nat → Int} {TA : Nat → Nat} {FW : Nat → Nat} {O : Nat → Int64} {H : Heap} {locs : List Loc} (hI : IV k V C T A OR n PR ST li w WK so sp) (hP : va_P D vwCl (wL r q qo cI cZ cJ th k V C T B P A OR n PR ST li w WK so sp CT SC TA FW O) H) (hD : va_D (lA s) (wL r q qo cI cZ cJ th k V C T B P A OR n PR ST li w WK so sp CT SC TA FW O)) (hS : va_S (lA s) s.heap H locs) {ls : Array Slot} (hl : lv_has ls 9 [(4, .int (nI (4 * jj))), (3, .ref qo), (2, .ref (r 0)), (1, .ref (q 0)), (0, .ref b)]) (hN : Nx p l e s m below meth c b D r q qo cI cZ cJ Q jj) : W p l e room_1 s m #[Value.ref b] below meth c H locs (27 + 8 * jj) (20244 + 64 * jj) Q (F0 m 516 ls []) := by
  obtain ⟨hx, hb, hr, hml, hown, hts, hX, hbl, hlocks, hK, hZ, hg, hn, hL⟩ := hc
  have hA : ∀ q9 : Nat, s.heap.size ≤ q9 → lA s q9 := fun _ h => h
  have hbA : ¬ lA s b := Nat.not_le.mpr hbl
  have hP : va_P D vwCl ((wM r cI cZ cJ th k V C A T B P OR n PR ST li w WK so sp CT FW) ++ ((wX q cI cZ cJ k V C T B P A n PR ST li w WK so sp CT SC TA) ++ [(qo, .inl (cJ, 1, .inr (.inl O)))])) H := hP
  have hD : va_D (lA s) ((wM r cI cZ cJ th k V C A T B P OR n PR ST li w WK so sp CT FW) ++ ((wX q cI cZ cJ k V C T B P A n PR ST li w WK so sp CT SC TA) ++ [(qo, .inl (cJ, 1, .inr (.inl O)))])) := hD
  refine lv_aload_n hx hb dL_law_516 rfl (lv_at hl 3 rfl) ?_
  refine lv_aload_n hx hb dL_law_517 rfl (lv_at hl 4 rfl) ?_
  refine lv_iload hx hb dL_law_518 (lv_at hl 0 rfl) ?_
  refine lv_iconst (v := nI 1) hx hb dL_law_520 (ic_1) ?_
  refine n_iadd hx hb dL_law_521 ?_
  refine n_sld hx hb hX hbl hbA hS (by omega) (by omega) dL_law_522 ?_
  refine lv_aload_n hx hb dL_law_523 rfl (lv_at hl 4 rfl) ?_
  refine lv_iload hx hb dL_law_524 (lv_at hl 0 rfl) ?_
  refine lv_iconst (v := nI 2) hx hb dL_law_526 (ic_2) ?_
  refine n_iadd hx hb dL_law_527 ?_
  refine n_sld hx hb hX hbl hbA hS (by omega) (by omega) dL_law_528 ?_
  refine lv_aload_n hx hb dL_law_529 rfl (lv_at hl 1 rfl) ?_
  refine k3_i (mc := 2) (ms := 12) (wa := (wM r cI cZ cJ th k V C A T B P OR n PR ST li w WK so sp CT FW)) (wc := ((wX q cI cZ cJ k V C T B P A n PR ST li w WK so sp CT SC TA) ++ [(qo, .inl (cJ, 1, .inr (.inl O)))])) (wb := []) (vx_runSW (As := [.ref (q 0), .int (xs ((4 * jj) + 1)), .int (xs ((4 * jj) + 2)), .ref qo]) (rest := []) ⟨hx, hb, hml, hown, hts⟩ (c_L_addProduct l hst D q qo cI cZ cJ k V C T B P A n PR ST li w WK so sp CT SC TA O H.size (xs ((4 * jj) + 1)) (xs ((4 * jj) + 2)) hI.hn10) (vx_cwSW 4 hts gL_law_L_addProduct rfl rfl rfl hd_L_addProduct.2 ⟨(Nat.le_of_ble_eq_true rfl), (Nat.le_of_ble_eq_true rfl)⟩) (pre_N (wa := (wM r cI cZ cJ th k V C A T B P OR n PR ST li w WK so sp CT FW)) (wc := ((wX q cI cZ cJ k V C T B P A n PR ST li w WK so sp CT SC TA) ++ [(qo, .inl (cJ, 1, .inr (.inl O)))])) (wb := []) hP hK hD hS hA hZ hg hn) rfl rfl hl.1 rfl (lv_room (Nat.le_of_ble_eq_true rfl)) dL_law_530 ⟨(show (27 + 8 * jj) + 2 ≤ 601024 by omega), (show (20244 + 64 * jj) + 12 ≤ 7293034 by omega)⟩) hP hD hS hA (fun rr u H locs hp hP hD hS => ?_)
  rcases u with u | kk
  · replace hp : rr = nI 0 ∧ (1 ≤ u.1 ∧ u.1 < 2001 ∧ u.2 < 100 ∧ (xs ((4 * jj) + 1)) = nI u.1 ∧ (xs ((4 * jj) + 2)) = nI u.2 ∧ n < 10) := hp
    obtain ⟨rfl, hp⟩ := hp
    have hP : va_P D vwCl ((wM r cI cZ cJ th k V C A T B P OR n PR ST li w WK so sp CT FW) ++ ((wX q cI cZ cJ k V C T B P A (n + 1) (un PR n u.1) (un ST n u.2) li w WK so sp CT SC TA) ++ [(qo, .inl (cJ, 1, .inr (.inl (vp_updL O 0 ((nI n).toInt64)))))])) H := hP
    have hD : va_D (lA s) ((wM r cI cZ cJ th k V C A T B P OR n PR ST li w WK so sp CT FW) ++ ((wX q cI cZ cJ k V C T B P A (n + 1) (un PR n u.1) (un ST n u.2) li w WK so sp CT SC TA) ++ [(qo, .inl (cJ, 1, .inr (.inl (vp_updL O 0 ((nI n).toInt64)))))])) := hD
    refine lv_istore (lv' := [(5, .int (nI 0)), (4, .int (nI (4 * jj))), (3, .ref qo), (2, .ref (r 0)), (1, .ref (q 0)), (0, .ref b)]) hx hb dL_law_533 hl (by decide) rfl (fun ls hl => ?_)
    refine lv_aload_n hx hb dL_law_535 rfl (lv_at hl 3 rfl) ?_
    refine lv_aload_n hx hb dL_law_536 rfl (lv_at hl 5 rfl) ?_
    refine lv_iload hx hb dL_law_537 (lv_at hl 1 rfl) ?_
    refine lv_iconst (v := nI 1) hx hb dL_law_539 (ic_1) ?_
    refine n_iadd hx hb dL_law_540 ?_
    refine n_sld hx hb hX hbl hbA hS (by omega) (by omega) dL_law_541 ?_
    refine lv_aload_n hx hb dL_law_542 rfl (lv_at hl 5 rfl) ?_
    refine lv_iload hx hb dL_law_543 (lv_at hl 1 rfl) ?_
    refine lv_iconst (v := nI 2) hx hb dL_law_545 (ic_2) ?_
    refine n_iadd hx hb dL_law_546 ?_
    refine n_sld hx hb hX hbl hbA hS (by omega) (by omega) dL_law_547 ?_
    refine k3_i (mc := 0) (ms := 0) (wa := []) (wc := (wM r cI cZ cJ th k V C A T B P OR n PR ST li w WK so sp CT FW)) (wb := ((wX q cI cZ cJ k V C T B P A (n + 1) (un PR n u.1) (un ST n u.2) li w WK so sp CT SC TA) ++ [(qo, .inl (cJ, 1, .inr (.inl (vp_updL O 0 ((nI n).toInt64)))))])) (va_runV (As := [.int (xs ((4 * jj) + 1)), .int (xs ((4 * jj) + 2))]) (rest := []) ⟨hx, hb, hml, hown, hts⟩ (c_X1_addProduct l hst D r cI cZ cJ th k V C A T B P OR n PR ST li w WK so sp CT FW H.size (xs ((4 * jj) + 1)) (xs ((4 * jj) + 2)) hI.hn10) (cwV 2 hts gL_law_X1_addProduct rfl rfl rfl hd_X1_addProduct ⟨(Nat.le_of_ble_eq_true rfl), (Nat.le_of_ble_eq_true rfl)⟩) (pre_V3 (wa := []) (wc := (wM r cI cZ cJ th k V C A T B P OR n PR ST li w WK so sp CT FW)) (wb := ((wX q cI cZ cJ k V C T B P A (n + 1) (un PR n u.1) (un ST n u.2) li w WK so sp CT SC TA) ++ [(qo, .inl (cJ, 1, .inr (.inl (vp_updL O 0 ((nI n).toInt64)))))])) hP hK hD hS hA hZ hg 0 (ci := 1) rfl rfl) rfl rfl hl.1 rfl (lv_room (Nat.le_of_ble_eq_true rfl)) dL_law_548 ⟨(show ((27 + 8 * jj) + 2) + 0 ≤ 601024 by omega), (show ((20244 + 64 * jj) + 12) + 0 ≤ 7293034 by omega)⟩) hP hD hS hA (fun rr u2 H locs hq hP hD hS => ?_)
    obtain ⟨v0, v1, v2, v3, v4⟩ := u2
    replace hq : rr = nI v0 ∧ ((v1 = 0 ∧ ∃ i j, 1 ≤ i ∧ i < 2001 ∧ j < 100 ∧ (xs ((4 * jj) + 1)) = nI i ∧ (xs ((4 * jj) + 2)) = nI j ∧ n < 10 ∧ v0 = n ∧ v2 = n + 1 ∧ v3 = un PR n i ∧ v4 = un ST n j) ∨ (v1 = 1 ∧ ¬ (rg (xs ((4 * jj) + 1)) 1 2001 ∧ rg (xs ((4 * jj) + 2)) 0 100) ∧ v2 = n ∧ v3 = PR ∧ v4 = ST) ∨ (v1 = 2 ∧ (rg (xs ((4 * jj) + 1)) 1 2001 ∧ rg (xs ((4 * jj) + 2)) 0 100) ∧ ¬ n < 10 ∧ v2 = n ∧ v3 = PR ∧ v4 = ST)) := hq
    obtain ⟨hr9, hq⟩ := hq
    replace hr9 := hr9.symm
    subst hr9
    have hP : va_P D vwCl ((wM r cI cZ cJ v1 k V C A T B P OR v2 v3 v4 li w WK so sp CT FW) ++ ((wX q cI cZ cJ k V C T B P A (n + 1) (un PR n u.1) (un ST n u.2) li w WK so sp CT SC TA) ++ [(qo, .inl (cJ, 1, .inr (.inl (vp_updL O 0 ((nI n).toInt64)))))])) H := hP
    have hD : va_D (lA s) ((wM r cI cZ cJ v1 k V C A T B P OR v2 v3 v4 li w WK so sp CT FW) ++ ((wX q cI cZ cJ k V C T B P A (n + 1) (un PR n u.1) (un ST n u.2) li w WK so sp CT SC TA) ++ [(qo, .inl (cJ, 1, .inr (.inl (vp_updL O 0 ((nI n).toInt64)))))])) := hD
    obtain ⟨e0, e1, f0, f1, f2⟩ := q_addProduct_0  hp hq
    have e0 := e0.symm
    subst e0
    have e1 := e1.symm
    subst e1
    have f0 := f0.symm
    subst f0
    have f1 := f1.symm
    subst f1
    have f2 := f2.symm
    subst f2
    have hI2 := iv_addProduct hI hp.1 hp.2.1 hp.2.2.1 hp.2.2.2.2.2
    refine lv_istore (lv' := [(6, .int (nI n)), (5, .int (nI 0)), (4, .int (nI (4 * jj))), (3, .ref qo), (2, .ref (r 0)), (1, .ref (q 0)), (0, .ref b)]) hx hb dL_law_551 hl (by decide) rfl (fun ls hl => ?_)
    refine lv_aload_n hx hb dL_law_553 rfl (lv_at hl 4 rfl) ?_
    refine k3_i (mc := 0) (ms := 0) (wa := []) (wc := (wM r cI cZ cJ 0 k V C A T B P OR (n + 1) (un PR n u.1) (un ST n u.2) li w WK so sp CT FW)) (wb := ((wX q cI cZ cJ k V C T B P A (n + 1) (un PR n u.1) (un ST n u.2) li w WK so sp CT SC TA) ++ [(qo, .inl (cJ, 1, .inr (.inl (vp_updL O 0 ((nI n).toInt64)))))])) (va_runV (As := []) (rest := []) ⟨hx, hb, hml, hown, hts⟩ (c_X1_thrown l hst D r cI cZ cJ 0 k V C A T B P OR (n + 1) (un PR n u.1) (un ST n u.2) li w WK so sp CT FW H.size  ) (cwV 0 hts gL_law_X1_thrown rfl rfl rfl hd_X1_thrown ⟨(Nat.le_of_ble_eq_true rfl), (Nat.le_of_ble_eq_true rfl)⟩) (pre_V3 (wa := []) (wc := (wM r cI cZ cJ 0 k V C A T B P OR (n + 1) (un PR n u.1) (un ST n u.2) li w WK so sp CT FW)) (wb := ((wX q cI cZ cJ k V C T B P A (n + 1) (un PR n u.1) (un ST n u.2) li w WK so sp CT SC TA) ++ [(qo, .inl (cJ, 1, .inr (.inl (vp_updL O 0 ((nI n).toInt64)))))])) hP hK hD hS hA hZ hg 0 (ci := 1) rfl rfl) rfl rfl hl.1 rfl (lv_room (Nat.le_of_ble_eq_true rfl)) dL_law_554 ⟨(show (((27 + 8 * jj) + 2) + 0) + 0 ≤ 601024 by omega), (show (((20244 + 64 * jj) + 12) + 0) + 0 ≤ 7293034 by omega)⟩) hP hD hS hA (fun rr u2 H locs hq hP hD hS => ?_)
    replace hq : rr = nI 0 := hq
    subst hq
    have hP : va_P D vwCl ((wM r cI cZ cJ 0 k V C A T B P OR (n + 1) (un PR n u.1) (un ST n u.2) li w WK so sp CT FW) ++ ((wX q cI cZ cJ k V C T B P A (n + 1) (un PR n u.1) (un ST n u.2) li w WK so sp CT SC TA) ++ [(qo, .inl (cJ, 1, .inr (.inl (vp_updL O 0 ((nI n).toInt64)))))])) H := hP
    have hD : va_D (lA s) ((wM r cI cZ cJ 0 k V C A T B P OR (n + 1) (un PR n u.1) (un ST n u.2) li w WK so sp CT FW) ++ ((wX q cI cZ cJ k V C T B P A (n + 1) (un PR n u.1) (un ST n u.2) li w WK so sp CT SC TA) ++ [(qo, .inl (cJ, 1, .inr (.inl (vp_updL O 0 ((nI n).toInt64)))))])) := hD
    refine lv_iload hx hb dL_law_557 (lv_at hl 1 rfl) ?_
    refine lv_icmp_eq (tgt := 564) hx hb dL_law_559 (by decide) (fun _ => ?_) (fun h => absurd rfl h)
    refine lv_iload hx hb dL_law_564 (lv_at hl 1 rfl) ?_
    refine n_if_ne (tgt := 581) hx hb (by decide) dL_law_566 (by decide) (fun c566 => ?_) (fun c566 => ?_)
    · exact absurd c566 (by decide)
    · refine lv_aload_n hx hb dL_law_569 rfl (lv_at hl 3 rfl) ?_
      refine lv_iconst (v := nI 0) hx hb dL_law_570 (ic_0) ?_
      refine n_lald hx hb hK hP 26 2 rfl rfl (by decide) (by decide) dL_law_571 ?_
      refine n_topl (show (vp_updL O 0 ((nI n).toInt64)) 0 = (nI n).toInt64 from updL_s) ?_
      refine lv_iload hx hb dL_law_572 (lv_at hl 0 rfl) ?_
      refine lv_i2l hx hb dL_law_574 rfl ?_
      refine n_lcmp_eq (tgt := 581) hx hb dL_law_575 dL_law_576 (by decide) (fun _ => ?_) (fun h => absurd rfl h)
      refine lv_goto (tgt := 1433) hx hb dL_law_581 (by decide) ?_
      refine W.widen (k := 27 + 8 * (jj + 1)) (n := 20244 + 64 * (jj + 1)) (by omega) (by omega) ?_
      exact hN 0 k V C T B P A OR (n + 1) (un PR n u.1) (un ST n u.2) li w WK so sp CT SC TA FW (vp_updL O 0 ((nI n).toInt64)) _ _ hI2 hP hD hS ls (lv_sub hl [2, 3, 4, 5, 6] rfl)
  · replace hp : rr = nI kk ∧ ((kk = 1 ∧ (¬ (rg (xs ((4 * jj) + 1)) 1 2001 ∧ rg (xs ((4 * jj) + 2)) 0 100))) ∨ (kk = 2 ∧ ((rg (xs ((4 * jj) + 1)) 1 2001 ∧ rg (xs ((4 * jj) + 2)) 0 100) ∧ ¬ n < 10))) := hp
    obtain ⟨rfl, hp⟩ := hp
    have hP : va_P D vwCl ((wM r cI cZ cJ th k V C A T B P OR n PR ST li w WK so sp CT FW) ++ ((wX q cI cZ cJ k V C T B P A n PR ST li w WK so sp CT SC TA) ++ [(qo, .inl (cJ, 1, .inr (.inl O)))])) H := hP
    have hD : va_D (lA s) ((wM r cI cZ cJ th k V C A T B P OR n PR ST li w WK so sp CT FW) ++ ((wX q cI cZ cJ k V C T B P A n PR ST li w WK so sp CT SC TA) ++ [(qo, .inl (cJ, 1, .inr (.inl O)))])) := hD
    rcases hp with ⟨rfl, hp⟩ | ⟨rfl, hp⟩
    · refine lv_istore (lv' := [(5, .int (nI 1)), (4, .int (nI (4 * jj))), (3, .ref qo), (2, .ref (r 0)), (1, .ref (q 0)), (0, .ref b)]) hx hb dL_law_533 hl (by decide) rfl (fun ls hl => ?_)
      refine lv_aload_n hx hb dL_law_535 rfl (lv_at hl 3 rfl) ?_
      refine lv_aload_n hx hb dL_law_536 rfl (lv_at hl 5 rfl) ?_
      refine lv_iload hx hb dL_law_537 (lv_at hl 1 rfl) ?_
      refine lv_iconst (v := nI 1) hx hb dL_law_539 (ic_1) ?_
      refine n_iadd hx hb dL_law_540 ?_
      refine n_sld hx hb hX hbl hbA hS (by omega) (by omega) dL_law_541 ?_
      refine lv_aload_n hx hb dL_law_542 rfl (lv_at hl 5 rfl) ?_
      refine lv_iload hx hb dL_law_543 (lv_at hl 1 rfl) ?_
      refine lv_iconst (v := nI 2) hx hb dL_law_545 (ic_2) ?_
      refine n_iadd hx hb dL_law_546 ?_
      refine n_sld hx hb hX hbl hbA hS (by omega) (by omega) dL_law_547 ?_
      refine k3_i (mc := 0) (ms := 0) (wa := []) (wc := (wM r cI cZ cJ th k V C A T B P OR n PR ST li w WK so sp CT FW)) (wb := ((wX q cI cZ cJ k V C T B P A n PR ST li w WK so sp CT SC TA) ++ [(qo, .inl (cJ, 1, .inr (.inl O)))])) (va_runV (As := [.int (xs ((4 * jj) + 1)), .int (xs ((4 * jj) + 2))]) (rest := []) ⟨hx, hb, hml, hown, hts⟩ (c_X1_addProduct l hst D r cI cZ cJ th k V C A T B P OR n PR ST li w WK so sp CT FW H.size (xs ((4 * jj) + 1)) (xs ((4 * jj) + 2)) hI.hn10) (cwV 2 hts gL_law_X1_addProduct rfl rfl rfl hd_X1_addProduct ⟨(Nat.le_of_ble_eq_true rfl), (Nat.le_of_ble_eq_true rfl)⟩) (pre_V3 (wa := []) (wc := (wM r cI cZ cJ th k V C A T B P OR n PR ST li w WK so sp CT FW)) (wb := ((wX q cI cZ cJ k V C T B P A n PR ST li w WK so sp CT SC TA) ++ [(qo, .inl (cJ, 1, .inr (.inl O)))])) hP hK hD hS hA hZ hg 0 (ci := 1) rfl rfl) rfl rfl hl.1 rfl (lv_room (Nat.le_of_ble_eq_true rfl)) dL_law_548 ⟨(show ((27 + 8 * jj) + 2) + 0 ≤ 601024 by omega), (show ((20244 + 64 * jj) + 12) + 0 ≤ 7293034 by omega)⟩) hP hD hS hA (fun rr u2 H locs hq hP hD hS => ?_)
      obtain ⟨v0, v1, v2, v3, v4⟩ := u2
      replace hq : rr = nI v0 ∧ ((v1 = 0 ∧ ∃ i j, 1 ≤ i ∧ i < 2001 ∧ j < 100 ∧ (xs ((4 * jj) + 1)) = nI i ∧ (xs ((4 * jj) + 2)) = nI j ∧ n < 10 ∧ v0 = n ∧ v2 = n + 1 ∧ v3 = un PR n i ∧ v4 = un ST n j) ∨ (v1 = 1 ∧ ¬ (rg (xs ((4 * jj) + 1)) 1 2001 ∧ rg (xs ((4 * jj) + 2)) 0 100) ∧ v2 = n ∧ v3 = PR ∧ v4 = ST) ∨ (v1 = 2 ∧ (rg (xs ((4 * jj) + 1)) 1 2001 ∧ rg (xs ((4 * jj) + 2)) 0 100) ∧ ¬ n < 10 ∧ v2 = n ∧ v3 = PR ∧ v4 = ST)) := hq
      obtain ⟨hr9, hq⟩ := hq
      replace hr9 := hr9.symm
      subst hr9
      have hP : va_P D vwCl ((wM r cI cZ cJ v1 k V C A T B P OR v2 v3 v4 li w WK so sp CT FW) ++ ((wX q cI cZ cJ k V C T B P A n PR ST li w WK so sp CT SC TA) ++ [(qo, .inl (cJ, 1, .inr (.inl O)))])) H := hP
      have hD : va_D (lA s) ((wM r cI cZ cJ v1 k V C A T B P OR v2 v3 v4 li w WK so sp CT FW) ++ ((wX q cI cZ cJ k V C T B P A n PR ST li w WK so sp CT SC TA) ++ [(qo, .inl (cJ, 1, .inr (.inl O)))])) := hD
      obtain ⟨e0, f0, f1, f2⟩ := q_addProduct_1  hp hq
      have e0 := e0.symm
      subst e0
      have f0 := f0.symm
      subst f0
      have f1 := f1.symm
      subst f1
      have f2 := f2.symm
      subst f2
      refine lv_istore (lv' := [(6, .int (nI v0)), (5, .int (nI 1)), (4, .int (nI (4 * jj))), (3, .ref qo), (2, .ref (r 0)), (1, .ref (q 0)), (0, .ref b)]) hx hb dL_law_551 hl (by decide) rfl (fun ls hl => ?_)
      refine lv_aload_n hx hb dL_law_553 rfl (lv_at hl 4 rfl) ?_
      refine k3_i (mc := 0) (ms := 0) (wa := []) (wc := (wM r cI cZ cJ 1 k V C A T B P OR n PR ST li w WK so sp CT FW)) (wb := ((wX q cI cZ cJ k V C T B P A n PR ST li w WK so sp CT SC TA) ++ [(qo, .inl (cJ, 1, .inr (.inl O)))])) (va_runV (As := []) (rest := []) ⟨hx, hb, hml, hown, hts⟩ (c_X1_thrown l hst D r cI cZ cJ 1 k V C A T B P OR n PR ST li w WK so sp CT FW H.size  ) (cwV 0 hts gL_law_X1_thrown rfl rfl rfl hd_X1_thrown ⟨(Nat.le_of_ble_eq_true rfl), (Nat.le_of_ble_eq_true rfl)⟩) (pre_V3 (wa := []) (wc := (wM r cI cZ cJ 1 k V C A T B P OR n PR ST li w WK so sp CT FW)) (wb := ((wX q cI cZ cJ k V C T B P A n PR ST li w WK so sp CT SC TA) ++ [(qo, .inl (cJ, 1, .inr (.inl O)))])) hP hK hD hS hA hZ hg 0 (ci := 1) rfl rfl) rfl rfl hl.1 rfl (lv_room (Nat.le_of_ble_eq_true rfl)) dL_law_554 ⟨(show (((27 + 8 * jj) + 2) + 0) + 0 ≤ 601024 by omega), (show (((20244 + 64 * jj) + 12) + 0) + 0 ≤ 7293034 by omega)⟩) hP hD hS hA (fun rr u2 H locs hq hP hD hS => ?_)
      replace hq : rr = nI 1 := hq
      subst hq
      have hP : va_P D vwCl ((wM r cI cZ cJ 1 k V C A T B P OR n PR ST li w WK so sp CT FW) ++ ((wX q cI cZ cJ k V C T B P A n PR ST li w WK so sp CT SC TA) ++ [(qo, .inl (cJ, 1, .inr (.inl O)))])) H := hP
      have hD : va_D (lA s) ((wM r cI cZ cJ 1 k V C A T B P OR n PR ST li w WK so sp CT FW) ++ ((wX q cI cZ cJ k V C T B P A n PR ST li w WK so sp CT SC TA) ++ [(qo, .inl (cJ, 1, .inr (.inl O)))])) := hD
      refine lv_iload hx hb dL_law_557 (lv_at hl 1 rfl) ?_
      refine lv_icmp_eq (tgt := 564) hx hb dL_law_559 (by decide) (fun _ => ?_) (fun h => absurd rfl h)
      refine lv_iload hx hb dL_law_564 (lv_at hl 1 rfl) ?_
      refine n_if_ne (tgt := 581) hx hb (by decide) dL_law_566 (by decide) (fun c566 => ?_) (fun c566 => ?_)
      · refine lv_goto (tgt := 1433) hx hb dL_law_581 (by decide) ?_
        refine W.widen (k := 27 + 8 * (jj + 1)) (n := 20244 + 64 * (jj + 1)) (by omega) (by omega) ?_
        exact hN 1 k V C T B P A OR n PR ST li w WK so sp CT SC TA FW O _ _ hI hP hD hS ls (lv_sub hl [2, 3, 4, 5, 6] rfl)
      · exact absurd c566 (by decide)
    · refine lv_istore (lv' := [(5, .int (nI 2)), (4, .int (nI (4 * jj))), (3, .ref qo), (2, .ref (r 0)), (1, .ref (q 0)), (0, .ref b)]) hx hb dL_law_533 hl (by decide) rfl (fun ls hl => ?_)
      refine lv_aload_n hx hb dL_law_535 rfl (lv_at hl 3 rfl) ?_
      refine lv_aload_n hx hb dL_law_536 rfl (lv_at hl 5 rfl) ?_
      refine lv_iload hx hb dL_law_537 (lv_at hl 1 rfl) ?_
      refine lv_iconst (v := nI 1) hx hb dL_law_539 (ic_1) ?_
      refine n_iadd hx hb dL_law_540 ?_
      refine n_sld hx hb hX hbl hbA hS (by omega) (by omega) dL_law_541 ?_
      refine lv_aload_n hx hb dL_law_542 rfl (lv_at hl 5 rfl) ?_
      refine lv_iload hx hb dL_law_543 (lv_at hl 1 rfl) ?_
      refine lv_iconst (v := nI 2) hx hb dL_law_545 (ic_2) ?_
      refine n_iadd hx hb dL_law_546 ?_
      refine n_sld hx hb hX hbl hbA hS (by omega) (by omega) dL_law_547 ?_
      refine k3_i (mc := 0) (ms := 0) (wa := []) (wc := (wM r cI cZ cJ th k V C A T B P OR n PR ST li w WK so sp CT FW)) (wb := ((wX q cI cZ cJ k V C T B P A n PR ST li w WK so sp CT SC TA) ++ [(qo, .inl (cJ, 1, .inr (.inl O)))])) (va_runV (As := [.int (xs ((4 * jj) + 1)), .int (xs ((4 * jj) + 2))]) (rest := []) ⟨hx, hb, hml, hown, hts⟩ (c_X1_addProduct l hst D r cI cZ cJ th k V C A T B P OR n PR ST li w WK so sp CT FW H.size (xs ((4 * jj) + 1)) (xs ((4 * jj) + 2)) hI.hn10) (cwV 2 hts gL_law_X1_addProduct rfl rfl rfl hd_X1_addProduct ⟨(Nat.le_of_ble_eq_true rfl), (Nat.le_of_ble_eq_true rfl)⟩) (pre_V3 (wa := []) (wc := (wM r cI cZ cJ th k V C A T B P OR n PR ST li w WK so sp CT FW)) (wb := ((wX q cI cZ cJ k V C T B P A n PR ST li w WK so sp CT SC TA) ++ [(qo, .inl (cJ, 1, .inr (.inl O)))])) hP hK hD hS hA hZ hg 0 (ci := 1) rfl rfl) rfl rfl hl.1 rfl (lv_room (Nat.le_of_ble_eq_true rfl)) dL_law_548 ⟨(show ((27 + 8 * jj) + 2) + 0 ≤ 601024 by omega), (show ((20244 + 64 * jj) + 12) + 0 ≤ 7293034 by omega)⟩) hP hD hS hA (fun rr u2 H locs hq hP hD hS => ?_)
      obtain ⟨v0, v1, v2, v3, v4⟩ := u2
      replace hq : rr = nI v0 ∧ ((v1 = 0 ∧ ∃ i j, 1 ≤ i ∧ i < 2001 ∧ j < 100 ∧ (xs ((4 * jj) + 1)) = nI i ∧ (xs ((4 * jj) + 2)) = nI j ∧ n < 10 ∧ v0 = n ∧ v2 = n + 1 ∧ v3 = un PR n i ∧ v4 = un ST n j) ∨ (v1 = 1 ∧ ¬ (rg (xs ((4 * jj) + 1)) 1 2001 ∧ rg (xs ((4 * jj) + 2)) 0 100) ∧ v2 = n ∧ v3 = PR ∧ v4 = ST) ∨ (v1 = 2 ∧ (rg (xs ((4 * jj) + 1)) 1 2001 ∧ rg (xs ((4 * jj) + 2)) 0 100) ∧ ¬ n < 10 ∧ v2 = n ∧ v3 = PR ∧ v4 = ST)) := hq
      obtain ⟨hr9, hq⟩ := hq
      replace hr9 := hr9.symm
      subst hr9
      have hP : va_P D vwCl ((wM r cI cZ cJ v1 k V C A T B P OR v2 v3 v4 li w WK so sp CT FW) ++ ((wX q cI cZ cJ k V C T B P A n PR ST li w WK so sp CT SC TA) ++ [(qo, .inl (cJ, 1, .inr (.inl O)))])) H := hP
      have hD : va_D (lA s) ((wM r cI cZ cJ v1 k V C A T B P OR v2 v3 v4 li w WK so sp CT FW) ++ ((wX q cI cZ cJ k V C T B P A n PR ST li w WK so sp CT SC TA) ++ [(qo, .inl (cJ, 1, .inr (.inl O)))])) := hD
      obtain ⟨e0, f0, f1, f2⟩ := q_addProduct_2  hp hq
      have e0 := e0.symm
      subst e0
      have f0 := f0.symm
      subst f0
      have f1 := f1.symm
      subst f1
      have f2 := f2.symm
      subst f2
      refine lv_istore (lv' := [(6, .int (nI v0)), (5, .int (nI 2)), (4, .int (nI (4 * jj))), (3, .ref qo), (2, .ref (r 0)), (1, .ref (q 0)), (0, .ref b)]) hx hb dL_law_551 hl (by decide) rfl (fun ls hl => ?_)
      refine lv_aload_n hx hb dL_law_553 rfl (lv_at hl 4 rfl) ?_
      refine k3_i (mc := 0) (ms := 0) (wa := []) (wc := (wM r cI cZ cJ 2 k V C A T B P OR n PR ST li w WK so sp CT FW)) (wb := ((wX q cI cZ cJ k V C T B P A n PR ST li w WK so sp CT SC TA) ++ [(qo, .inl (cJ, 1, .inr (.inl O)))])) (va_runV (As := []) (rest := []) ⟨hx, hb, hml, hown, hts⟩ (c_X1_thrown l hst D r cI cZ cJ 2 k V C A T B P OR n PR ST li w WK so sp CT FW H.size  ) (cwV 0 hts gL_law_X1_thrown rfl rfl rfl hd_X1_thrown ⟨(Nat.le_of_ble_eq_true rfl), (Nat.le_of_ble_eq_true rfl)⟩) (pre_V3 (wa := []) (wc := (wM r cI cZ cJ 2 k V C A T B P OR n PR ST li w WK so sp CT FW)) (wb := ((wX q cI cZ cJ k V C T B P A n PR ST li w WK so sp CT SC TA) ++ [(qo, .inl (cJ, 1, .inr (.inl O)))])) hP hK hD hS hA hZ hg 0 (ci := 1) rfl rfl) rfl rfl hl.1 rfl (lv_room (Nat.le_of_ble_eq_true rfl)) dL_law_554 ⟨(show (((27 + 8 * jj) + 2) + 0) + 0 ≤ 601024 by omega), (show (((20244 + 64 * jj) + 12) + 0) + 0 ≤ 7293034 by omega)⟩) hP hD hS hA (fun rr u2 H locs hq hP hD hS => ?_)
      replace hq : rr = nI 2 := hq
      subst hq
      have hP : va_P D vwCl ((wM r cI cZ cJ 2 k V C A T B P OR n PR ST li w WK so sp CT FW) ++ ((wX q cI cZ cJ k V C T B P A n PR ST li w WK so sp CT SC TA) ++ [(qo, .inl (cJ, 1, .inr (.inl O)))])) H := hP
      have hD : va_D (lA s) ((wM r cI cZ cJ 2 k V C A T B P OR n PR ST li w WK so sp CT FW) ++ ((wX q cI cZ cJ k V C T B P A n PR ST li w WK so sp CT SC TA) ++ [(qo, .inl (cJ, 1, .inr (.inl O)))])) := hD
      refine lv_iload hx hb dL_law_557 (lv_at hl 1 rfl) ?_
      refine lv_icmp_eq (tgt := 564) hx hb dL_law_559 (by decide) (fun _ => ?_) (fun h => absurd rfl h)
      refine lv_iload hx hb dL_law_564 (lv_at hl 1 rfl) ?_
      refine n_if_ne (tgt := 581) hx hb (by decide) dL_law_566 (by decide) (fun c566 => ?_) (fun c566 => ?_)
      · refine lv_goto (tgt := 1433) hx hb dL_law_581 (by decide) ?_
        refine W.widen (k := 27 + 8 * (jj + 1)) (n := 20244 + 64 * (jj + 1)) (by omega) (by omega) ?_
        exact hN 2 k V C T B P A OR n PR ST li w WK so sp CT SC TA FW O _ _ hI hP hD hS ls (lv_sub hl [2, 3, 4, 5, 6] rfl)
      · exact absurd c566 (by decide)

set_option maxHeartbeats 8000000 in
set_option maxRecDepth 100000 in
theorem lw_setProduct (hst : l.stackTraces = false) (hc : Lc p s m meth c b L xs D cI cZ cJ) {r q : Nat → Nat} {qo jj : Nat} (hj : 4 * jj + 4 ≤ L) {th : Nat} {k : Nat} {V : Nat → Nat} {C : Nat → Nat} {T : Nat → Nat} {B : Nat → Nat} {P : Nat → Nat} {A : Nat → Nat} {OR : Nat → Nat} {n : Nat} {PR : Nat → Nat} {ST : Nat → Nat} {li : Nat} {w : Nat} {WK : Nat → Nat} {so : Nat} {sp : Nat} {CT : Nat → Int64} {SC : Nat → Int} {TA : Nat → Nat} {FW : Nat → Nat} {O : Nat → Int64} {H : Heap} {locs : List Loc} (hI : IV k V C T A OR n PR ST li w WK so sp) (hP : va_P D vwCl (wL r q qo cI cZ cJ th k V C T B P A OR n PR ST li w WK so sp CT SC TA FW O) H) (hD : va_D (lA s) (wL r q qo cI cZ cJ th k V C T B P A OR n PR ST li w WK so sp CT SC TA FW O)) (hS : va_S (lA s) s.heap H locs) {ls : Array Slot} (hl : lv_has ls 9 [(4, .int (nI (4 * jj))), (3, .ref qo), (2, .ref (r 0)), (1, .ref (q 0)), (0, .ref b)]) (hN : Nx p l e s m below meth c b D r q qo cI cZ cJ Q jj) : W p l e room_1 s m #[Value.ref b] below meth c H locs (27 + 8 * jj) (20244 + 64 * jj) Q (F0 m 584 ls []) := by
  obtain ⟨hx, hb, hr, hml, hown, hts, hX, hbl, hlocks, hK, hZ, hg, hn, hL⟩ := hc
  have hA : ∀ q9 : Nat, s.heap.size ≤ q9 → lA s q9 := fun _ h => h
  have hbA : ¬ lA s b := Nat.not_le.mpr hbl
  have hP : va_P D vwCl ((wM r cI cZ cJ th k V C A T B P OR n PR ST li w WK so sp CT FW) ++ ((wX q cI cZ cJ k V C T B P A n PR ST li w WK so sp CT SC TA) ++ [(qo, .inl (cJ, 1, .inr (.inl O)))])) H := hP
  have hD : va_D (lA s) ((wM r cI cZ cJ th k V C A T B P OR n PR ST li w WK so sp CT FW) ++ ((wX q cI cZ cJ k V C T B P A n PR ST li w WK so sp CT SC TA) ++ [(qo, .inl (cJ, 1, .inr (.inl O)))])) := hD
  refine lv_aload_n hx hb dL_law_584 rfl (lv_at hl 3 rfl) ?_
  refine lv_aload_n hx hb dL_law_585 rfl (lv_at hl 4 rfl) ?_
  refine lv_iload hx hb dL_law_586 (lv_at hl 0 rfl) ?_
  refine lv_iconst (v := nI 1) hx hb dL_law_588 (ic_1) ?_
  refine n_iadd hx hb dL_law_589 ?_
  refine n_sld hx hb hX hbl hbA hS (by omega) (by omega) dL_law_590 ?_
  refine lv_aload_n hx hb dL_law_591 rfl (lv_at hl 4 rfl) ?_
  refine lv_iload hx hb dL_law_592 (lv_at hl 0 rfl) ?_
  refine lv_iconst (v := nI 2) hx hb dL_law_594 (ic_2) ?_
  refine n_iadd hx hb dL_law_595 ?_
  refine n_sld hx hb hX hbl hbA hS (by omega) (by omega) dL_law_596 ?_
  refine lv_aload_n hx hb dL_law_597 rfl (lv_at hl 4 rfl) ?_
  refine lv_iload hx hb dL_law_598 (lv_at hl 0 rfl) ?_
  refine lv_iconst (v := nI 3) hx hb dL_law_600 (ic_3) ?_
  refine n_iadd hx hb dL_law_601 ?_
  refine n_sld hx hb hX hbl hbA hS (by omega) (by omega) dL_law_602 ?_
  refine lv_aload_n hx hb dL_law_603 rfl (lv_at hl 1 rfl) ?_
  refine k3_i (mc := 2) (ms := 12) (wa := (wM r cI cZ cJ th k V C A T B P OR n PR ST li w WK so sp CT FW)) (wc := ((wX q cI cZ cJ k V C T B P A n PR ST li w WK so sp CT SC TA) ++ [(qo, .inl (cJ, 1, .inr (.inl O)))])) (wb := []) (vx_runSW (As := [.ref (q 0), .int (xs ((4 * jj) + 1)), .int (xs ((4 * jj) + 2)), .int (xs ((4 * jj) + 3)), .ref qo]) (rest := []) ⟨hx, hb, hml, hown, hts⟩ (c_L_setProduct l hst D q qo cI cZ cJ k V C T B P A n PR ST li w WK so sp CT SC TA O H.size (xs ((4 * jj) + 1)) (xs ((4 * jj) + 2)) (xs ((4 * jj) + 3)) hI.hn10) (vx_cwSW 5 hts gL_law_L_setProduct rfl rfl rfl hd_L_setProduct.2 ⟨(Nat.le_of_ble_eq_true rfl), (Nat.le_of_ble_eq_true rfl)⟩) (pre_N (wa := (wM r cI cZ cJ th k V C A T B P OR n PR ST li w WK so sp CT FW)) (wc := ((wX q cI cZ cJ k V C T B P A n PR ST li w WK so sp CT SC TA) ++ [(qo, .inl (cJ, 1, .inr (.inl O)))])) (wb := []) hP hK hD hS hA hZ hg hn) rfl rfl hl.1 rfl (lv_room (Nat.le_of_ble_eq_true rfl)) dL_law_604 ⟨(show (27 + 8 * jj) + 2 ≤ 601024 by omega), (show (20244 + 64 * jj) + 12 ≤ 7293034 by omega)⟩) hP hD hS hA (fun rr u H locs hp hP hD hS => ?_)
  rcases u with u | kk
  · replace hp : rr = nI 0 ∧ (u.1 < n ∧ 1 ≤ u.2.1 ∧ u.2.1 < 2001 ∧ u.2.2 < 100 ∧ (xs ((4 * jj) + 1)) = nI u.1 ∧ (xs ((4 * jj) + 2)) = nI u.2.1 ∧ (xs ((4 * jj) + 3)) = nI u.2.2) := hp
    obtain ⟨rfl, hp⟩ := hp
    have hP : va_P D vwCl ((wM r cI cZ cJ th k V C A T B P OR n PR ST li w WK so sp CT FW) ++ ((wX q cI cZ cJ k V C T B P A n (un PR u.1 u.2.1) (un ST u.1 u.2.2) li w WK so sp CT SC TA) ++ [(qo, .inl (cJ, 1, .inr (.inl (vp_updL O 0 ((nI (PR u.1)).toInt64)))))])) H := hP
    have hD : va_D (lA s) ((wM r cI cZ cJ th k V C A T B P OR n PR ST li w WK so sp CT FW) ++ ((wX q cI cZ cJ k V C T B P A n (un PR u.1 u.2.1) (un ST u.1 u.2.2) li w WK so sp CT SC TA) ++ [(qo, .inl (cJ, 1, .inr (.inl (vp_updL O 0 ((nI (PR u.1)).toInt64)))))])) := hD
    refine lv_istore (lv' := [(5, .int (nI 0)), (4, .int (nI (4 * jj))), (3, .ref qo), (2, .ref (r 0)), (1, .ref (q 0)), (0, .ref b)]) hx hb dL_law_607 hl (by decide) rfl (fun ls hl => ?_)
    refine lv_aload_n hx hb dL_law_609 rfl (lv_at hl 3 rfl) ?_
    refine lv_aload_n hx hb dL_law_610 rfl (lv_at hl 5 rfl) ?_
    refine lv_iload hx hb dL_law_611 (lv_at hl 1 rfl) ?_
    refine lv_iconst (v := nI 1) hx hb dL_law_613 (ic_1) ?_
    refine n_iadd hx hb dL_law_614 ?_
    refine n_sld hx hb hX hbl hbA hS (by omega) (by omega) dL_law_615 ?_
    refine lv_aload_n hx hb dL_law_616 rfl (lv_at hl 5 rfl) ?_
    refine lv_iload hx hb dL_law_617 (lv_at hl 1 rfl) ?_
    refine lv_iconst (v := nI 2) hx hb dL_law_619 (ic_2) ?_
    refine n_iadd hx hb dL_law_620 ?_
    refine n_sld hx hb hX hbl hbA hS (by omega) (by omega) dL_law_621 ?_
    refine lv_aload_n hx hb dL_law_622 rfl (lv_at hl 5 rfl) ?_
    refine lv_iload hx hb dL_law_623 (lv_at hl 1 rfl) ?_
    refine lv_iconst (v := nI 3) hx hb dL_law_625 (ic_3) ?_
    refine n_iadd hx hb dL_law_626 ?_
    refine n_sld hx hb hX hbl hbA hS (by omega) (by omega) dL_law_627 ?_
    refine k3_i (mc := 0) (ms := 0) (wa := []) (wc := (wM r cI cZ cJ th k V C A T B P OR n PR ST li w WK so sp CT FW)) (wb := ((wX q cI cZ cJ k V C T B P A n (un PR u.1 u.2.1) (un ST u.1 u.2.2) li w WK so sp CT SC TA) ++ [(qo, .inl (cJ, 1, .inr (.inl (vp_updL O 0 ((nI (PR u.1)).toInt64)))))])) (va_runV (As := [.int (xs ((4 * jj) + 1)), .int (xs ((4 * jj) + 2)), .int (xs ((4 * jj) + 3))]) (rest := []) ⟨hx, hb, hml, hown, hts⟩ (c_X1_setProduct l hst D r cI cZ cJ th k V C A T B P OR n PR ST li w WK so sp CT FW H.size (xs ((4 * jj) + 1)) (xs ((4 * jj) + 2)) (xs ((4 * jj) + 3)) hI.hn10) (cwV 3 hts gL_law_X1_setProduct rfl rfl rfl hd_X1_setProduct ⟨(Nat.le_of_ble_eq_true rfl), (Nat.le_of_ble_eq_true rfl)⟩) (pre_V3 (wa := []) (wc := (wM r cI cZ cJ th k V C A T B P OR n PR ST li w WK so sp CT FW)) (wb := ((wX q cI cZ cJ k V C T B P A n (un PR u.1 u.2.1) (un ST u.1 u.2.2) li w WK so sp CT SC TA) ++ [(qo, .inl (cJ, 1, .inr (.inl (vp_updL O 0 ((nI (PR u.1)).toInt64)))))])) hP hK hD hS hA hZ hg 0 (ci := 1) rfl rfl) rfl rfl hl.1 rfl (lv_room (Nat.le_of_ble_eq_true rfl)) dL_law_628 ⟨(show ((27 + 8 * jj) + 2) + 0 ≤ 601024 by omega), (show ((20244 + 64 * jj) + 12) + 0 ≤ 7293034 by omega)⟩) hP hD hS hA (fun rr u2 H locs hq hP hD hS => ?_)
    obtain ⟨v0, v1, v2, v3⟩ := u2
    replace hq : rr = nI v0 ∧ ((v1 = 0 ∧ ∃ h i j, h < n ∧ 1 ≤ i ∧ i < 2001 ∧ j < 100 ∧ (xs ((4 * jj) + 1)) = nI h ∧ (xs ((4 * jj) + 2)) = nI i ∧ (xs ((4 * jj) + 3)) = nI j ∧ v0 = PR h ∧ v2 = un PR h i ∧ v3 = un ST h j) ∨ (v1 = 1 ∧ ¬ rg (xs ((4 * jj) + 1)) 0 n ∧ v2 = PR ∧ v3 = ST) ∨ (v1 = 2 ∧ rg (xs ((4 * jj) + 1)) 0 n ∧ ¬ (rg (xs ((4 * jj) + 2)) 1 2001 ∧ rg (xs ((4 * jj) + 3)) 0 100) ∧ v2 = PR ∧ v3 = ST)) := hq
    obtain ⟨hr9, hq⟩ := hq
    replace hr9 := hr9.symm
    subst hr9
    have hP : va_P D vwCl ((wM r cI cZ cJ v1 k V C A T B P OR n v2 v3 li w WK so sp CT FW) ++ ((wX q cI cZ cJ k V C T B P A n (un PR u.1 u.2.1) (un ST u.1 u.2.2) li w WK so sp CT SC TA) ++ [(qo, .inl (cJ, 1, .inr (.inl (vp_updL O 0 ((nI (PR u.1)).toInt64)))))])) H := hP
    have hD : va_D (lA s) ((wM r cI cZ cJ v1 k V C A T B P OR n v2 v3 li w WK so sp CT FW) ++ ((wX q cI cZ cJ k V C T B P A n (un PR u.1 u.2.1) (un ST u.1 u.2.2) li w WK so sp CT SC TA) ++ [(qo, .inl (cJ, 1, .inr (.inl (vp_updL O 0 ((nI (PR u.1)).toInt64)))))])) := hD
    obtain ⟨e0, e1, f0, f1⟩ := q_setProduct_0 hI.hn10 hp hq
    have e0 := e0.symm
    subst e0
    have e1 := e1.symm
    subst e1
    have f0 := f0.symm
    subst f0
    have f1 := f1.symm
    subst f1
    have hI2 := iv_setProduct (i := u.1) hI hp.2.1 hp.2.2.1 hp.2.2.2.1
    refine lv_istore (lv' := [(6, .int (nI (PR u.1))), (5, .int (nI 0)), (4, .int (nI (4 * jj))), (3, .ref qo), (2, .ref (r 0)), (1, .ref (q 0)), (0, .ref b)]) hx hb dL_law_631 hl (by decide) rfl (fun ls hl => ?_)
    refine lv_aload_n hx hb dL_law_633 rfl (lv_at hl 4 rfl) ?_
    refine k3_i (mc := 0) (ms := 0) (wa := []) (wc := (wM r cI cZ cJ 0 k V C A T B P OR n (un PR u.1 u.2.1) (un ST u.1 u.2.2) li w WK so sp CT FW)) (wb := ((wX q cI cZ cJ k V C T B P A n (un PR u.1 u.2.1) (un ST u.1 u.2.2) li w WK so sp CT SC TA) ++ [(qo, .inl (cJ, 1, .inr (.inl (vp_updL O 0 ((nI (PR u.1)).toInt64)))))])) (va_runV (As := []) (rest := []) ⟨hx, hb, hml, hown, hts⟩ (c_X1_thrown l hst D r cI cZ cJ 0 k V C A T B P OR n (un PR u.1 u.2.1) (un ST u.1 u.2.2) li w WK so sp CT FW H.size  ) (cwV 0 hts gL_law_X1_thrown rfl rfl rfl hd_X1_thrown ⟨(Nat.le_of_ble_eq_true rfl), (Nat.le_of_ble_eq_true rfl)⟩) (pre_V3 (wa := []) (wc := (wM r cI cZ cJ 0 k V C A T B P OR n (un PR u.1 u.2.1) (un ST u.1 u.2.2) li w WK so sp CT FW)) (wb := ((wX q cI cZ cJ k V C T B P A n (un PR u.1 u.2.1) (un ST u.1 u.2.2) li w WK so sp CT SC TA) ++ [(qo, .inl (cJ, 1, .inr (.inl (vp_updL O 0 ((nI (PR u.1)).toInt64)))))])) hP hK hD hS hA hZ hg 0 (ci := 1) rfl rfl) rfl rfl hl.1 rfl (lv_room (Nat.le_of_ble_eq_true rfl)) dL_law_634 ⟨(show (((27 + 8 * jj) + 2) + 0) + 0 ≤ 601024 by omega), (show (((20244 + 64 * jj) + 12) + 0) + 0 ≤ 7293034 by omega)⟩) hP hD hS hA (fun rr u2 H locs hq hP hD hS => ?_)
    replace hq : rr = nI 0 := hq
    subst hq
    have hP : va_P D vwCl ((wM r cI cZ cJ 0 k V C A T B P OR n (un PR u.1 u.2.1) (un ST u.1 u.2.2) li w WK so sp CT FW) ++ ((wX q cI cZ cJ k V C T B P A n (un PR u.1 u.2.1) (un ST u.1 u.2.2) li w WK so sp CT SC TA) ++ [(qo, .inl (cJ, 1, .inr (.inl (vp_updL O 0 ((nI (PR u.1)).toInt64)))))])) H := hP
    have hD : va_D (lA s) ((wM r cI cZ cJ 0 k V C A T B P OR n (un PR u.1 u.2.1) (un ST u.1 u.2.2) li w WK so sp CT FW) ++ ((wX q cI cZ cJ k V C T B P A n (un PR u.1 u.2.1) (un ST u.1 u.2.2) li w WK so sp CT SC TA) ++ [(qo, .inl (cJ, 1, .inr (.inl (vp_updL O 0 ((nI (PR u.1)).toInt64)))))])) := hD
    refine lv_iload hx hb dL_law_637 (lv_at hl 1 rfl) ?_
    refine lv_icmp_eq (tgt := 644) hx hb dL_law_639 (by decide) (fun _ => ?_) (fun h => absurd rfl h)
    refine lv_iload hx hb dL_law_644 (lv_at hl 1 rfl) ?_
    refine n_if_ne (tgt := 661) hx hb (by decide) dL_law_646 (by decide) (fun c646 => ?_) (fun c646 => ?_)
    · exact absurd c646 (by decide)
    · refine lv_aload_n hx hb dL_law_649 rfl (lv_at hl 3 rfl) ?_
      refine lv_iconst (v := nI 0) hx hb dL_law_650 (ic_0) ?_
      refine n_lald hx hb hK hP 26 2 rfl rfl (by decide) (by decide) dL_law_651 ?_
      refine n_topl (show (vp_updL O 0 ((nI (PR u.1)).toInt64)) 0 = (nI (PR u.1)).toInt64 from updL_s) ?_
      refine lv_iload hx hb dL_law_652 (lv_at hl 0 rfl) ?_
      refine lv_i2l hx hb dL_law_654 rfl ?_
      refine n_lcmp_eq (tgt := 661) hx hb dL_law_655 dL_law_656 (by decide) (fun _ => ?_) (fun h => absurd rfl h)
      refine lv_goto (tgt := 1433) hx hb dL_law_661 (by decide) ?_
      refine W.widen (k := 27 + 8 * (jj + 1)) (n := 20244 + 64 * (jj + 1)) (by omega) (by omega) ?_
      exact hN 0 k V C T B P A OR n (un PR u.1 u.2.1) (un ST u.1 u.2.2) li w WK so sp CT SC TA FW (vp_updL O 0 ((nI (PR u.1)).toInt64)) _ _ hI2 hP hD hS ls (lv_sub hl [2, 3, 4, 5, 6] rfl)
  · replace hp : rr = nI kk ∧ ((kk = 1 ∧ (¬ rg (xs ((4 * jj) + 1)) 0 n)) ∨ (kk = 2 ∧ (rg (xs ((4 * jj) + 1)) 0 n ∧ ¬ (rg (xs ((4 * jj) + 2)) 1 2001 ∧ rg (xs ((4 * jj) + 3)) 0 100)))) := hp
    obtain ⟨rfl, hp⟩ := hp
    have hP : va_P D vwCl ((wM r cI cZ cJ th k V C A T B P OR n PR ST li w WK so sp CT FW) ++ ((wX q cI cZ cJ k V C T B P A n PR ST li w WK so sp CT SC TA) ++ [(qo, .inl (cJ, 1, .inr (.inl O)))])) H := hP
    have hD : va_D (lA s) ((wM r cI cZ cJ th k V C A T B P OR n PR ST li w WK so sp CT FW) ++ ((wX q cI cZ cJ k V C T B P A n PR ST li w WK so sp CT SC TA) ++ [(qo, .inl (cJ, 1, .inr (.inl O)))])) := hD
    rcases hp with ⟨rfl, hp⟩ | ⟨rfl, hp⟩
    · refine lv_istore (lv' := [(5, .int (nI 1)), (4, .int (nI (4 * jj))), (3, .ref qo), (2, .ref (r 0)), (1, .ref (q 0)), (0, .ref b)]) hx hb dL_law_607 hl (by decide) rfl (fun ls hl => ?_)
      refine lv_aload_n hx hb dL_law_609 rfl (lv_at hl 3 rfl) ?_
      refine lv_aload_n hx hb dL_law_610 rfl (lv_at hl 5 rfl) ?_
      refine lv_iload hx hb dL_law_611 (lv_at hl 1 rfl) ?_
      refine lv_iconst (v := nI 1) hx hb dL_law_613 (ic_1) ?_
      refine n_iadd hx hb dL_law_614 ?_
      refine n_sld hx hb hX hbl hbA hS (by omega) (by omega) dL_law_615 ?_
      refine lv_aload_n hx hb dL_law_616 rfl (lv_at hl 5 rfl) ?_
      refine lv_iload hx hb dL_law_617 (lv_at hl 1 rfl) ?_
      refine lv_iconst (v := nI 2) hx hb dL_law_619 (ic_2) ?_
      refine n_iadd hx hb dL_law_620 ?_
      refine n_sld hx hb hX hbl hbA hS (by omega) (by omega) dL_law_621 ?_
      refine lv_aload_n hx hb dL_law_622 rfl (lv_at hl 5 rfl) ?_
      refine lv_iload hx hb dL_law_623 (lv_at hl 1 rfl) ?_
      refine lv_iconst (v := nI 3) hx hb dL_law_625 (ic_3) ?_
      refine n_iadd hx hb dL_law_626 ?_
      refine n_sld hx hb hX hbl hbA hS (by omega) (by omega) dL_law_627 ?_
      refine k3_i (mc := 0) (ms := 0) (wa := []) (wc := (wM r cI cZ cJ th k V C A T B P OR n PR ST li w WK so sp CT FW)) (wb := ((wX q cI cZ cJ k V C T B P A n PR ST li w WK so sp CT SC TA) ++ [(qo, .inl (cJ, 1, .inr (.inl O)))])) (va_runV (As := [.int (xs ((4 * jj) + 1)), .int (xs ((4 * jj) + 2)), .int (xs ((4 * jj) + 3))]) (rest := []) ⟨hx, hb, hml, hown, hts⟩ (c_X1_setProduct l hst D r cI cZ cJ th k V C A T B P OR n PR ST li w WK so sp CT FW H.size (xs ((4 * jj) + 1)) (xs ((4 * jj) + 2)) (xs ((4 * jj) + 3)) hI.hn10) (cwV 3 hts gL_law_X1_setProduct rfl rfl rfl hd_X1_setProduct ⟨(Nat.le_of_ble_eq_true rfl), (Nat.le_of_ble_eq_true rfl)⟩) (pre_V3 (wa := []) (wc := (wM r cI cZ cJ th k V C A T B P OR n PR ST li w WK so sp CT FW)) (wb := ((wX q cI cZ cJ k V C T B P A n PR ST li w WK so sp CT SC TA) ++ [(qo, .inl (cJ, 1, .inr (.inl O)))])) hP hK hD hS hA hZ hg 0 (ci := 1) rfl rfl) rfl rfl hl.1 rfl (lv_room (Nat.le_of_ble_eq_true rfl)) dL_law_628 ⟨(show ((27 + 8 * jj) + 2) + 0 ≤ 601024 by omega), (show ((20244 + 64 * jj) + 12) + 0 ≤ 7293034 by omega)⟩) hP hD hS hA (fun rr u2 H locs hq hP hD hS => ?_)
      obtain ⟨v0, v1, v2, v3⟩ := u2
      replace hq : rr = nI v0 ∧ ((v1 = 0 ∧ ∃ h i j, h < n ∧ 1 ≤ i ∧ i < 2001 ∧ j < 100 ∧ (xs ((4 * jj) + 1)) = nI h ∧ (xs ((4 * jj) + 2)) = nI i ∧ (xs ((4 * jj) + 3)) = nI j ∧ v0 = PR h ∧ v2 = un PR h i ∧ v3 = un ST h j) ∨ (v1 = 1 ∧ ¬ rg (xs ((4 * jj) + 1)) 0 n ∧ v2 = PR ∧ v3 = ST) ∨ (v1 = 2 ∧ rg (xs ((4 * jj) + 1)) 0 n ∧ ¬ (rg (xs ((4 * jj) + 2)) 1 2001 ∧ rg (xs ((4 * jj) + 3)) 0 100) ∧ v2 = PR ∧ v3 = ST)) := hq
      obtain ⟨hr9, hq⟩ := hq
      replace hr9 := hr9.symm
      subst hr9
      have hP : va_P D vwCl ((wM r cI cZ cJ v1 k V C A T B P OR n v2 v3 li w WK so sp CT FW) ++ ((wX q cI cZ cJ k V C T B P A n PR ST li w WK so sp CT SC TA) ++ [(qo, .inl (cJ, 1, .inr (.inl O)))])) H := hP
      have hD : va_D (lA s) ((wM r cI cZ cJ v1 k V C A T B P OR n v2 v3 li w WK so sp CT FW) ++ ((wX q cI cZ cJ k V C T B P A n PR ST li w WK so sp CT SC TA) ++ [(qo, .inl (cJ, 1, .inr (.inl O)))])) := hD
      obtain ⟨e0, f0, f1⟩ := q_setProduct_1 hI.hn10 hp hq
      have e0 := e0.symm
      subst e0
      have f0 := f0.symm
      subst f0
      have f1 := f1.symm
      subst f1
      refine lv_istore (lv' := [(6, .int (nI v0)), (5, .int (nI 1)), (4, .int (nI (4 * jj))), (3, .ref qo), (2, .ref (r 0)), (1, .ref (q 0)), (0, .ref b)]) hx hb dL_law_631 hl (by decide) rfl (fun ls hl => ?_)
      refine lv_aload_n hx hb dL_law_633 rfl (lv_at hl 4 rfl) ?_
      refine k3_i (mc := 0) (ms := 0) (wa := []) (wc := (wM r cI cZ cJ 1 k V C A T B P OR n PR ST li w WK so sp CT FW)) (wb := ((wX q cI cZ cJ k V C T B P A n PR ST li w WK so sp CT SC TA) ++ [(qo, .inl (cJ, 1, .inr (.inl O)))])) (va_runV (As := []) (rest := []) ⟨hx, hb, hml, hown, hts⟩ (c_X1_thrown l hst D r cI cZ cJ 1 k V C A T B P OR n PR ST li w WK so sp CT FW H.size  ) (cwV 0 hts gL_law_X1_thrown rfl rfl rfl hd_X1_thrown ⟨(Nat.le_of_ble_eq_true rfl), (Nat.le_of_ble_eq_true rfl)⟩) (pre_V3 (wa := []) (wc := (wM r cI cZ cJ 1 k V C A T B P OR n PR ST li w WK so sp CT FW)) (wb := ((wX q cI cZ cJ k V C T B P A n PR ST li w WK so sp CT SC TA) ++ [(qo, .inl (cJ, 1, .inr (.inl O)))])) hP hK hD hS hA hZ hg 0 (ci := 1) rfl rfl) rfl rfl hl.1 rfl (lv_room (Nat.le_of_ble_eq_true rfl)) dL_law_634 ⟨(show (((27 + 8 * jj) + 2) + 0) + 0 ≤ 601024 by omega), (show (((20244 + 64 * jj) + 12) + 0) + 0 ≤ 7293034 by omega)⟩) hP hD hS hA (fun rr u2 H locs hq hP hD hS => ?_)
      replace hq : rr = nI 1 := hq
      subst hq
      have hP : va_P D vwCl ((wM r cI cZ cJ 1 k V C A T B P OR n PR ST li w WK so sp CT FW) ++ ((wX q cI cZ cJ k V C T B P A n PR ST li w WK so sp CT SC TA) ++ [(qo, .inl (cJ, 1, .inr (.inl O)))])) H := hP
      have hD : va_D (lA s) ((wM r cI cZ cJ 1 k V C A T B P OR n PR ST li w WK so sp CT FW) ++ ((wX q cI cZ cJ k V C T B P A n PR ST li w WK so sp CT SC TA) ++ [(qo, .inl (cJ, 1, .inr (.inl O)))])) := hD
      refine lv_iload hx hb dL_law_637 (lv_at hl 1 rfl) ?_
      refine lv_icmp_eq (tgt := 644) hx hb dL_law_639 (by decide) (fun _ => ?_) (fun h => absurd rfl h)
      refine lv_iload hx hb dL_law_644 (lv_at hl 1 rfl) ?_
      refine n_if_ne (tgt := 661) hx hb (by decide) dL_law_646 (by decide) (fun c646 => ?_) (fun c646 => ?_)
      · refine lv_goto (tgt := 1433) hx hb dL_law_661 (by decide) ?_
        refine W.widen (k := 27 + 8 * (jj + 1)) (n := 20244 + 64 * (jj + 1)) (by omega) (by omega) ?_
        exact hN 1 k V C T B P A OR n PR ST li w WK so sp CT SC TA FW O _ _ hI hP hD hS ls (lv_sub hl [2, 3, 4, 5, 6] rfl)
      · exact absurd c646 (by decide)
    · refine lv_istore (lv' := [(5, .int (nI 2)), (4, .int (nI (4 * jj))), (3, .ref qo), (2, .ref (r 0)), (1, .ref (q 0)), (0, .ref b)]) hx hb dL_law_607 hl (by decide) rfl (fun ls hl => ?_)
      refine lv_aload_n hx hb dL_law_609 rfl (lv_at hl 3 rfl) ?_
      refine lv_aload_n hx hb dL_law_610 rfl (lv_at hl 5 rfl) ?_
      refine lv_iload hx hb dL_law_611 (lv_at hl 1 rfl) ?_
      refine lv_iconst (v := nI 1) hx hb dL_law_613 (ic_1) ?_
      refine n_iadd hx hb dL_law_614 ?_
      refine n_sld hx hb hX hbl hbA hS (by omega) (by omega) dL_law_615 ?_
      refine lv_aload_n hx hb dL_law_616 rfl (lv_at hl 5 rfl) ?_
      refine lv_iload hx hb dL_law_617 (lv_at hl 1 rfl) ?_
      refine lv_iconst (v := nI 2) hx hb dL_law_619 (ic_2) ?_
      refine n_iadd hx hb dL_law_620 ?_
      refine n_sld hx hb hX hbl hbA hS (by omega) (by omega) dL_law_621 ?_
      refine lv_aload_n hx hb dL_law_622 rfl (lv_at hl 5 rfl) ?_
      refine lv_iload hx hb dL_law_623 (lv_at hl 1 rfl) ?_
      refine lv_iconst (v := nI 3) hx hb dL_law_625 (ic_3) ?_
      refine n_iadd hx hb dL_law_626 ?_
      refine n_sld hx hb hX hbl hbA hS (by omega) (by omega) dL_law_627 ?_
      refine k3_i (mc := 0) (ms := 0) (wa := []) (wc := (wM r cI cZ cJ th k V C A T B P OR n PR ST li w WK so sp CT FW)) (wb := ((wX q cI cZ cJ k V C T B P A n PR ST li w WK so sp CT SC TA) ++ [(qo, .inl (cJ, 1, .inr (.inl O)))])) (va_runV (As := [.int (xs ((4 * jj) + 1)), .int (xs ((4 * jj) + 2)), .int (xs ((4 * jj) + 3))]) (rest := []) ⟨hx, hb, hml, hown, hts⟩ (c_X1_setProduct l hst D r cI cZ cJ th k V C A T B P OR n PR ST li w WK so sp CT FW H.size (xs ((4 * jj) + 1)) (xs ((4 * jj) + 2)) (xs ((4 * jj) + 3)) hI.hn10) (cwV 3 hts gL_law_X1_setProduct rfl rfl rfl hd_X1_setProduct ⟨(Nat.le_of_ble_eq_true rfl), (Nat.le_of_ble_eq_true rfl)⟩) (pre_V3 (wa := []) (wc := (wM r cI cZ cJ th k V C A T B P OR n PR ST li w WK so sp CT FW)) (wb := ((wX q cI cZ cJ k V C T B P A n PR ST li w WK so sp CT SC TA) ++ [(qo, .inl (cJ, 1, .inr (.inl O)))])) hP hK hD hS hA hZ hg 0 (ci := 1) rfl rfl) rfl rfl hl.1 rfl (lv_room (Nat.le_of_ble_eq_true rfl)) dL_law_628 ⟨(show ((27 + 8 * jj) + 2) + 0 ≤ 601024 by omega), (show ((20244 + 64 * jj) + 12) + 0 ≤ 7293034 by omega)⟩) hP hD hS hA (fun rr u2 H locs hq hP hD hS => ?_)
      obtain ⟨v0, v1, v2, v3⟩ := u2
      replace hq : rr = nI v0 ∧ ((v1 = 0 ∧ ∃ h i j, h < n ∧ 1 ≤ i ∧ i < 2001 ∧ j < 100 ∧ (xs ((4 * jj) + 1)) = nI h ∧ (xs ((4 * jj) + 2)) = nI i ∧ (xs ((4 * jj) + 3)) = nI j ∧ v0 = PR h ∧ v2 = un PR h i ∧ v3 = un ST h j) ∨ (v1 = 1 ∧ ¬ rg (xs ((4 * jj) + 1)) 0 n ∧ v2 = PR ∧ v3 = ST) ∨ (v1 = 2 ∧ rg (xs ((4 * jj) + 1)) 0 n ∧ ¬ (rg (xs ((4 * jj) + 2)) 1 2001 ∧ rg (xs ((4 * jj) + 3)) 0 100) ∧ v2 = PR ∧ v3 = ST)) := hq
      obtain ⟨hr9, hq⟩ := hq
      replace hr9 := hr9.symm
      subst hr9
      have hP : va_P D vwCl ((wM r cI cZ cJ v1 k V C A T B P OR n v2 v3 li w WK so sp CT FW) ++ ((wX q cI cZ cJ k V C T B P A n PR ST li w WK so sp CT SC TA) ++ [(qo, .inl (cJ, 1, .inr (.inl O)))])) H := hP
      have hD : va_D (lA s) ((wM r cI cZ cJ v1 k V C A T B P OR n v2 v3 li w WK so sp CT FW) ++ ((wX q cI cZ cJ k V C T B P A n PR ST li w WK so sp CT SC TA) ++ [(qo, .inl (cJ, 1, .inr (.inl O)))])) := hD
      obtain ⟨e0, f0, f1⟩ := q_setProduct_2 hI.hn10 hp hq
      have e0 := e0.symm
      subst e0
      have f0 := f0.symm
      subst f0
      have f1 := f1.symm
      subst f1
      refine lv_istore (lv' := [(6, .int (nI v0)), (5, .int (nI 2)), (4, .int (nI (4 * jj))), (3, .ref qo), (2, .ref (r 0)), (1, .ref (q 0)), (0, .ref b)]) hx hb dL_law_631 hl (by decide) rfl (fun ls hl => ?_)
      refine lv_aload_n hx hb dL_law_633 rfl (lv_at hl 4 rfl) ?_
      refine k3_i (mc := 0) (ms := 0) (wa := []) (wc := (wM r cI cZ cJ 2 k V C A T B P OR n PR ST li w WK so sp CT FW)) (wb := ((wX q cI cZ cJ k V C T B P A n PR ST li w WK so sp CT SC TA) ++ [(qo, .inl (cJ, 1, .inr (.inl O)))])) (va_runV (As := []) (rest := []) ⟨hx, hb, hml, hown, hts⟩ (c_X1_thrown l hst D r cI cZ cJ 2 k V C A T B P OR n PR ST li w WK so sp CT FW H.size  ) (cwV 0 hts gL_law_X1_thrown rfl rfl rfl hd_X1_thrown ⟨(Nat.le_of_ble_eq_true rfl), (Nat.le_of_ble_eq_true rfl)⟩) (pre_V3 (wa := []) (wc := (wM r cI cZ cJ 2 k V C A T B P OR n PR ST li w WK so sp CT FW)) (wb := ((wX q cI cZ cJ k V C T B P A n PR ST li w WK so sp CT SC TA) ++ [(qo, .inl (cJ, 1, .inr (.inl O)))])) hP hK hD hS hA hZ hg 0 (ci := 1) rfl rfl) rfl rfl hl.1 rfl (lv_room (Nat.le_of_ble_eq_true rfl)) dL_law_634 ⟨(show (((27 + 8 * jj) + 2) + 0) + 0 ≤ 601024 by omega), (show (((20244 + 64 * jj) + 12) + 0) + 0 ≤ 7293034 by omega)⟩) hP hD hS hA (fun rr u2 H locs hq hP hD hS => ?_)
      replace hq : rr = nI 2 := hq
      subst hq
      have hP : va_P D vwCl ((wM r cI cZ cJ 2 k V C A T B P OR n PR ST li w WK so sp CT FW) ++ ((wX q cI cZ cJ k V C T B P A n PR ST li w WK so sp CT SC TA) ++ [(qo, .inl (cJ, 1, .inr (.inl O)))])) H := hP
      have hD : va_D (lA s) ((wM r cI cZ cJ 2 k V C A T B P OR n PR ST li w WK so sp CT FW) ++ ((wX q cI cZ cJ k V C T B P A n PR ST li w WK so sp CT SC TA) ++ [(qo, .inl (cJ, 1, .inr (.inl O)))])) := hD
      refine lv_iload hx hb dL_law_637 (lv_at hl 1 rfl) ?_
      refine lv_icmp_eq (tgt := 644) hx hb dL_law_639 (by decide) (fun _ => ?_) (fun h => absurd rfl h)
      refine lv_iload hx hb dL_law_644 (lv_at hl 1 rfl) ?_
      refine n_if_ne (tgt := 661) hx hb (by decide) dL_law_646 (by decide) (fun c646 => ?_) (fun c646 => ?_)
      · refine lv_goto (tgt := 1433) hx hb dL_law_661 (by decide) ?_
        refine W.widen (k := 27 + 8 * (jj + 1)) (n := 20244 + 64 * (jj + 1)) (by omega) (by omega) ?_
        exact hN 2 k V C T B P A OR n PR ST li w WK so sp CT SC TA FW O _ _ hI hP hD hS ls (lv_sub hl [2, 3, 4, 5, 6] rfl)
      · exact absurd c646 (by decide)

set_option maxHeartbeats 8000000 in
set_option maxRecDepth 100000 in
theorem lw_product (hst : l.stackTraces = false) (hc : Lc p s m meth c b L xs D cI cZ cJ) {r q : Nat → Nat} {qo jj : Nat} (hj : 4 * jj + 4 ≤ L) {th : Nat} {k : Nat} {V : Nat → Nat} {C : Nat → Nat} {T : Nat → Nat} {B : Nat → Nat} {P : Nat → Nat} {A : Nat → Nat} {OR : Nat → Nat} {n : Nat} {PR : Nat → Nat} {ST : Nat → Nat} {li : Nat} {w : Nat} {WK : Nat → Nat} {so : Nat} {sp : Nat} {CT : Nat → Int64} {SC : Nat → Int} {TA : Nat → Nat} {FW : Nat → Nat} {O : Nat → Int64} {H : Heap} {locs : List Loc} (hI : IV k V C T A OR n PR ST li w WK so sp) (hP : va_P D vwCl (wL r q qo cI cZ cJ th k V C T B P A OR n PR ST li w WK so sp CT SC TA FW O) H) (hD : va_D (lA s) (wL r q qo cI cZ cJ th k V C T B P A OR n PR ST li w WK so sp CT SC TA FW O)) (hS : va_S (lA s) s.heap H locs) {ls : Array Slot} (hl : lv_has ls 9 [(4, .int (nI (4 * jj))), (3, .ref qo), (2, .ref (r 0)), (1, .ref (q 0)), (0, .ref b)]) (hN : Nx p l e s m below meth c b D r q qo cI cZ cJ Q jj) : W p l e room_1 s m #[Value.ref b] below meth c H locs (27 + 8 * jj) (20244 + 64 * jj) Q (F0 m 664 ls []) := by
  obtain ⟨hx, hb, hr, hml, hown, hts, hX, hbl, hlocks, hK, hZ, hg, hn, hL⟩ := hc
  have hA : ∀ q9 : Nat, s.heap.size ≤ q9 → lA s q9 := fun _ h => h
  have hbA : ¬ lA s b := Nat.not_le.mpr hbl
  have hP : va_P D vwCl ((wM r cI cZ cJ th k V C A T B P OR n PR ST li w WK so sp CT FW) ++ ((wX q cI cZ cJ k V C T B P A n PR ST li w WK so sp CT SC TA) ++ [(qo, .inl (cJ, 1, .inr (.inl O)))])) H := hP
  have hD : va_D (lA s) ((wM r cI cZ cJ th k V C A T B P OR n PR ST li w WK so sp CT FW) ++ ((wX q cI cZ cJ k V C T B P A n PR ST li w WK so sp CT SC TA) ++ [(qo, .inl (cJ, 1, .inr (.inl O)))])) := hD
  refine lv_aload_n hx hb dL_law_664 rfl (lv_at hl 3 rfl) ?_
  refine lv_aload_n hx hb dL_law_665 rfl (lv_at hl 4 rfl) ?_
  refine lv_iload hx hb dL_law_666 (lv_at hl 0 rfl) ?_
  refine lv_iconst (v := nI 1) hx hb dL_law_668 (ic_1) ?_
  refine n_iadd hx hb dL_law_669 ?_
  refine n_sld hx hb hX hbl hbA hS (by omega) (by omega) dL_law_670 ?_
  refine lv_aload_n hx hb dL_law_671 rfl (lv_at hl 4 rfl) ?_
  refine lv_iload hx hb dL_law_672 (lv_at hl 0 rfl) ?_
  refine lv_iconst (v := nI 2) hx hb dL_law_674 (ic_2) ?_
  refine n_iadd hx hb dL_law_675 ?_
  refine n_sld hx hb hX hbl hbA hS (by omega) (by omega) dL_law_676 ?_
  refine lv_if_eq (tgt := 684) hx hb dL_law_677 (by decide) (fun con => ?_) (fun con => ?_)
  · refine lv_iconst (v := nI 0) hx hb dL_law_684 (ic_0) ?_
    refine lv_aload_n hx hb dL_law_685 rfl (lv_at hl 1 rfl) ?_
    refine k3_i (mc := 1) (ms := 6) (wa := (wM r cI cZ cJ th k V C A T B P OR n PR ST li w WK so sp CT FW)) (wc := ((wX q cI cZ cJ k V C T B P A n PR ST li w WK so sp CT SC TA) ++ [(qo, .inl (cJ, 1, .inr (.inl O)))])) (wb := []) (vx_runSW (As := [.ref (q 0), .int (xs ((4 * jj) + 1)), .int (nI 0), .ref qo]) (rest := []) ⟨hx, hb, hml, hown, hts⟩ (c_L_product l hst D q qo cI cZ cJ k V C T B P A n PR ST li w WK so sp CT SC TA O H.size (xs ((4 * jj) + 1)) 0 hI.hn10 (by decide)) (vx_cwSW 4 hts gL_law_L_product rfl rfl rfl hd_L_product.2 ⟨(Nat.le_of_ble_eq_true rfl), (Nat.le_of_ble_eq_true rfl)⟩) (pre_N (wa := (wM r cI cZ cJ th k V C A T B P OR n PR ST li w WK so sp CT FW)) (wc := ((wX q cI cZ cJ k V C T B P A n PR ST li w WK so sp CT SC TA) ++ [(qo, .inl (cJ, 1, .inr (.inl O)))])) (wb := []) hP hK hD hS hA hZ hg hn) rfl rfl hl.1 rfl (lv_room (Nat.le_of_ble_eq_true rfl)) dL_law_686 ⟨(show (27 + 8 * jj) + 1 ≤ 601024 by omega), (show (20244 + 64 * jj) + 6 ≤ 7293034 by omega)⟩) hP hD hS hA (fun rr u H locs hp hP hD hS => ?_)
    rcases u with u | kk
    · replace hp : rr = nI 0 ∧ (u < n ∧ (xs ((4 * jj) + 1)) = nI u) := hp
      obtain ⟨rfl, hp⟩ := hp
      have hP : va_P D vwCl ((wM r cI cZ cJ th k V C A T B P OR n PR ST li w WK so sp CT FW) ++ ((wX q cI cZ cJ k V C T B P A n PR ST li w WK so sp CT SC TA) ++ [(qo, .inl (cJ, 1, .inr (.inl (vp_updL O 0 ((nI (if 0 = 0 then PR u else ST u)).toInt64)))))])) H := hP
      have hD : va_D (lA s) ((wM r cI cZ cJ th k V C A T B P OR n PR ST li w WK so sp CT FW) ++ ((wX q cI cZ cJ k V C T B P A n PR ST li w WK so sp CT SC TA) ++ [(qo, .inl (cJ, 1, .inr (.inl (vp_updL O 0 ((nI (if 0 = 0 then PR u else ST u)).toInt64)))))])) := hD
      refine lv_istore (lv' := [(5, .int (nI 0)), (4, .int (nI (4 * jj))), (3, .ref qo), (2, .ref (r 0)), (1, .ref (q 0)), (0, .ref b)]) hx hb dL_law_689 hl (by decide) rfl (fun ls hl => ?_)
      refine lv_aload_n hx hb dL_law_691 rfl (lv_at hl 3 rfl) ?_
      refine lv_aload_n hx hb dL_law_692 rfl (lv_at hl 5 rfl) ?_
      refine lv_iload hx hb dL_law_693 (lv_at hl 1 rfl) ?_
      refine lv_iconst (v := nI 1) hx hb dL_law_695 (ic_1) ?_
      refine n_iadd hx hb dL_law_696 ?_
      refine n_sld hx hb hX hbl hbA hS (by omega) (by omega) dL_law_697 ?_
      refine lv_aload_n hx hb dL_law_698 rfl (lv_at hl 5 rfl) ?_
      refine lv_iload hx hb dL_law_699 (lv_at hl 1 rfl) ?_
      refine lv_iconst (v := nI 2) hx hb dL_law_701 (ic_2) ?_
      refine n_iadd hx hb dL_law_702 ?_
      refine n_sld hx hb hX hbl hbA hS (by omega) (by omega) dL_law_703 ?_
      refine lv_if_eq (tgt := 711) hx hb dL_law_704 (by decide) (fun _ => ?_) (fun h => absurd con h)
      refine lv_iconst (v := nI 0) hx hb dL_law_711 (ic_0) ?_
      refine k3_i (mc := 0) (ms := 0) (wa := []) (wc := (wM r cI cZ cJ th k V C A T B P OR n PR ST li w WK so sp CT FW)) (wb := ((wX q cI cZ cJ k V C T B P A n PR ST li w WK so sp CT SC TA) ++ [(qo, .inl (cJ, 1, .inr (.inl (vp_updL O 0 ((nI (if 0 = 0 then PR u else ST u)).toInt64)))))])) (va_runV (As := [.int (xs ((4 * jj) + 1)), .int (nI 0)]) (rest := []) ⟨hx, hb, hml, hown, hts⟩ (c_X1_product l hst D r cI cZ cJ th k V C A T B P OR n PR ST li w WK so sp CT FW H.size (xs ((4 * jj) + 1)) 0 hI.hn10 (by decide)) (cwV 2 hts gL_law_X1_product rfl rfl rfl hd_X1_product ⟨(Nat.le_of_ble_eq_true rfl), (Nat.le_of_ble_eq_true rfl)⟩) (pre_V3 (wa := []) (wc := (wM r cI cZ cJ th k V C A T B P OR n PR ST li w WK so sp CT FW)) (wb := ((wX q cI cZ cJ k V C T B P A n PR ST li w WK so sp CT SC TA) ++ [(qo, .inl (cJ, 1, .inr (.inl (vp_updL O 0 ((nI (if 0 = 0 then PR u else ST u)).toInt64)))))])) hP hK hD hS hA hZ hg 0 (ci := 1) rfl rfl) rfl rfl hl.1 rfl (lv_room (Nat.le_of_ble_eq_true rfl)) dL_law_712 ⟨(show ((27 + 8 * jj) + 1) + 0 ≤ 601024 by omega), (show ((20244 + 64 * jj) + 6) + 0 ≤ 7293034 by omega)⟩) hP hD hS hA (fun rr u2 H locs hq hP hD hS => ?_)
      obtain ⟨v0, v1⟩ := u2
      replace hq : rr = nI v0 ∧ ((v1 = 0 ∧ ∃ i, i < n ∧ (xs ((4 * jj) + 1)) = nI i ∧ v0 = if 0 = 0 then PR i else ST i) ∨ (v1 = 1 ∧ ¬ rg (xs ((4 * jj) + 1)) 0 n)) := hq
      obtain ⟨hr9, hq⟩ := hq
      replace hr9 := hr9.symm
      subst hr9
      have hP : va_P D vwCl ((wM r cI cZ cJ v1 k V C A T B P OR n PR ST li w WK so sp CT FW) ++ ((wX q cI cZ cJ k V C T B P A n PR ST li w WK so sp CT SC TA) ++ [(qo, .inl (cJ, 1, .inr (.inl (vp_updL O 0 ((nI (if 0 = 0 then PR u else ST u)).toInt64)))))])) H := hP
      have hD : va_D (lA s) ((wM r cI cZ cJ v1 k V C A T B P OR n PR ST li w WK so sp CT FW) ++ ((wX q cI cZ cJ k V C T B P A n PR ST li w WK so sp CT SC TA) ++ [(qo, .inl (cJ, 1, .inr (.inl (vp_updL O 0 ((nI (if 0 = 0 then PR u else ST u)).toInt64)))))])) := hD
      obtain ⟨e0, e1⟩ := q_product_0 hI.hn10 hp hq
      have e0 := e0.symm
      subst e0
      have e1 := e1.symm
      subst e1
      refine lv_istore (lv' := [(6, .int (nI (if 0 = 0 then PR u else ST u))), (5, .int (nI 0)), (4, .int (nI (4 * jj))), (3, .ref qo), (2, .ref (r 0)), (1, .ref (q 0)), (0, .ref b)]) hx hb dL_law_715 hl (by decide) rfl (fun ls hl => ?_)
      refine lv_aload_n hx hb dL_law_717 rfl (lv_at hl 4 rfl) ?_
      refine k3_i (mc := 0) (ms := 0) (wa := []) (wc := (wM r cI cZ cJ 0 k V C A T B P OR n PR ST li w WK so sp CT FW)) (wb := ((wX q cI cZ cJ k V C T B P A n PR ST li w WK so sp CT SC TA) ++ [(qo, .inl (cJ, 1, .inr (.inl (vp_updL O 0 ((nI (if 0 = 0 then PR u else ST u)).toInt64)))))])) (va_runV (As := []) (rest := []) ⟨hx, hb, hml, hown, hts⟩ (c_X1_thrown l hst D r cI cZ cJ 0 k V C A T B P OR n PR ST li w WK so sp CT FW H.size  ) (cwV 0 hts gL_law_X1_thrown rfl rfl rfl hd_X1_thrown ⟨(Nat.le_of_ble_eq_true rfl), (Nat.le_of_ble_eq_true rfl)⟩) (pre_V3 (wa := []) (wc := (wM r cI cZ cJ 0 k V C A T B P OR n PR ST li w WK so sp CT FW)) (wb := ((wX q cI cZ cJ k V C T B P A n PR ST li w WK so sp CT SC TA) ++ [(qo, .inl (cJ, 1, .inr (.inl (vp_updL O 0 ((nI (if 0 = 0 then PR u else ST u)).toInt64)))))])) hP hK hD hS hA hZ hg 0 (ci := 1) rfl rfl) rfl rfl hl.1 rfl (lv_room (Nat.le_of_ble_eq_true rfl)) dL_law_718 ⟨(show (((27 + 8 * jj) + 1) + 0) + 0 ≤ 601024 by omega), (show (((20244 + 64 * jj) + 6) + 0) + 0 ≤ 7293034 by omega)⟩) hP hD hS hA (fun rr u2 H locs hq hP hD hS => ?_)
      replace hq : rr = nI 0 := hq
      subst hq
      have hP : va_P D vwCl ((wM r cI cZ cJ 0 k V C A T B P OR n PR ST li w WK so sp CT FW) ++ ((wX q cI cZ cJ k V C T B P A n PR ST li w WK so sp CT SC TA) ++ [(qo, .inl (cJ, 1, .inr (.inl (vp_updL O 0 ((nI (if 0 = 0 then PR u else ST u)).toInt64)))))])) H := hP
      have hD : va_D (lA s) ((wM r cI cZ cJ 0 k V C A T B P OR n PR ST li w WK so sp CT FW) ++ ((wX q cI cZ cJ k V C T B P A n PR ST li w WK so sp CT SC TA) ++ [(qo, .inl (cJ, 1, .inr (.inl (vp_updL O 0 ((nI (if 0 = 0 then PR u else ST u)).toInt64)))))])) := hD
      refine lv_iload hx hb dL_law_721 (lv_at hl 1 rfl) ?_
      refine lv_icmp_eq (tgt := 728) hx hb dL_law_723 (by decide) (fun _ => ?_) (fun h => absurd rfl h)
      refine lv_iload hx hb dL_law_728 (lv_at hl 1 rfl) ?_
      refine n_if_ne (tgt := 745) hx hb (by decide) dL_law_730 (by decide) (fun c730 => ?_) (fun c730 => ?_)
      · exact absurd c730 (by decide)
      · refine lv_aload_n hx hb dL_law_733 rfl (lv_at hl 3 rfl) ?_
        refine lv_iconst (v := nI 0) hx hb dL_law_734 (ic_0) ?_
        refine n_lald hx hb hK hP 26 2 rfl rfl (by decide) (by decide) dL_law_735 ?_
        refine n_topl (show (vp_updL O 0 ((nI (if 0 = 0 then PR u else ST u)).toInt64)) 0 = (nI (if 0 = 0 then PR u else ST u)).toInt64 from updL_s) ?_
        refine lv_iload hx hb dL_law_736 (lv_at hl 0 rfl) ?_
        refine lv_i2l hx hb dL_law_738 rfl ?_
        refine n_lcmp_eq (tgt := 745) hx hb dL_law_739 dL_law_740 (by decide) (fun _ => ?_) (fun h => absurd rfl h)
        refine lv_goto (tgt := 1433) hx hb dL_law_745 (by decide) ?_
        refine W.widen (k := 27 + 8 * (jj + 1)) (n := 20244 + 64 * (jj + 1)) (by omega) (by omega) ?_
        exact hN 0 k V C T B P A OR n PR ST li w WK so sp CT SC TA FW (vp_updL O 0 ((nI (if 0 = 0 then PR u else ST u)).toInt64)) _ _ hI hP hD hS ls (lv_sub hl [2, 3, 4, 5, 6] rfl)
    · replace hp : rr = nI kk ∧ ((kk = 1 ∧ (¬ rg (xs ((4 * jj) + 1)) 0 n))) := hp
      obtain ⟨rfl, hp⟩ := hp
      have hP : va_P D vwCl ((wM r cI cZ cJ th k V C A T B P OR n PR ST li w WK so sp CT FW) ++ ((wX q cI cZ cJ k V C T B P A n PR ST li w WK so sp CT SC TA) ++ [(qo, .inl (cJ, 1, .inr (.inl O)))])) H := hP
      have hD : va_D (lA s) ((wM r cI cZ cJ th k V C A T B P OR n PR ST li w WK so sp CT FW) ++ ((wX q cI cZ cJ k V C T B P A n PR ST li w WK so sp CT SC TA) ++ [(qo, .inl (cJ, 1, .inr (.inl O)))])) := hD
      obtain ⟨rfl, hp⟩ := hp
      refine lv_istore (lv' := [(5, .int (nI 1)), (4, .int (nI (4 * jj))), (3, .ref qo), (2, .ref (r 0)), (1, .ref (q 0)), (0, .ref b)]) hx hb dL_law_689 hl (by decide) rfl (fun ls hl => ?_)
      refine lv_aload_n hx hb dL_law_691 rfl (lv_at hl 3 rfl) ?_
      refine lv_aload_n hx hb dL_law_692 rfl (lv_at hl 5 rfl) ?_
      refine lv_iload hx hb dL_law_693 (lv_at hl 1 rfl) ?_
      refine lv_iconst (v := nI 1) hx hb dL_law_695 (ic_1) ?_
      refine n_iadd hx hb dL_law_696 ?_
      refine n_sld hx hb hX hbl hbA hS (by omega) (by omega) dL_law_697 ?_
      refine lv_aload_n hx hb dL_law_698 rfl (lv_at hl 5 rfl) ?_
      refine lv_iload hx hb dL_law_699 (lv_at hl 1 rfl) ?_
      refine lv_iconst (v := nI 2) hx hb dL_law_701 (ic_2) ?_
      refine n_iadd hx hb dL_law_702 ?_
      refine n_sld hx hb hX hbl hbA hS (by omega) (by omega) dL_law_703 ?_
      refine lv_if_eq (tgt := 711) hx hb dL_law_704 (by decide) (fun _ => ?_) (fun h => absurd con h)
      refine lv_iconst (v := nI 0) hx hb dL_law_711 (ic_0) ?_
      refine k3_i (mc := 0) (ms := 0) (wa := []) (wc := (wM r cI cZ cJ th k V C A T B P OR n PR ST li w WK so sp CT FW)) (wb := ((wX q cI cZ cJ k V C T B P A n PR ST li w WK so sp CT SC TA) ++ [(qo, .inl (cJ, 1, .inr (.inl O)))])) (va_runV (As := [.int (xs ((4 * jj) + 1)), .int (nI 0)]) (rest := []) ⟨hx, hb, hml, hown, hts⟩ (c_X1_product l hst D r cI cZ cJ th k V C A T B P OR n PR ST li w WK so sp CT FW H.size (xs ((4 * jj) + 1)) 0 hI.hn10 (by decide)) (cwV 2 hts gL_law_X1_product rfl rfl rfl hd_X1_product ⟨(Nat.le_of_ble_eq_true rfl), (Nat.le_of_ble_eq_true rfl)⟩) (pre_V3 (wa := []) (wc := (wM r cI cZ cJ th k V C A T B P OR n PR ST li w WK so sp CT FW)) (wb := ((wX q cI cZ cJ k V C T B P A n PR ST li w WK so sp CT SC TA) ++ [(qo, .inl (cJ, 1, .inr (.inl O)))])) hP hK hD hS hA hZ hg 0 (ci := 1) rfl rfl) rfl rfl hl.1 rfl (lv_room (Nat.le_of_ble_eq_true rfl)) dL_law_712 ⟨(show ((27 + 8 * jj) + 1) + 0 ≤ 601024 by omega), (show ((20244 + 64 * jj) + 6) + 0 ≤ 7293034 by omega)⟩) hP hD hS hA (fun rr u2 H locs hq hP hD hS => ?_)
      obtain ⟨v0, v1⟩ := u2
      replace hq : rr = nI v0 ∧ ((v1 = 0 ∧ ∃ i, i < n ∧ (xs ((4 * jj) + 1)) = nI i ∧ v0 = if 0 = 0 then PR i else ST i) ∨ (v1 = 1 ∧ ¬ rg (xs ((4 * jj) + 1)) 0 n)) := hq
      obtain ⟨hr9, hq⟩ := hq
      replace hr9 := hr9.symm
      subst hr9
      have hP : va_P D vwCl ((wM r cI cZ cJ v1 k V C A T B P OR n PR ST li w WK so sp CT FW) ++ ((wX q cI cZ cJ k V C T B P A n PR ST li w WK so sp CT SC TA) ++ [(qo, .inl (cJ, 1, .inr (.inl O)))])) H := hP
      have hD : va_D (lA s) ((wM r cI cZ cJ v1 k V C A T B P OR n PR ST li w WK so sp CT FW) ++ ((wX q cI cZ cJ k V C T B P A n PR ST li w WK so sp CT SC TA) ++ [(qo, .inl (cJ, 1, .inr (.inl O)))])) := hD
      have e0 := q_product_1 hI.hn10 hp hq
      have e0 := e0.symm
      subst e0
      refine lv_istore (lv' := [(6, .int (nI v0)), (5, .int (nI 1)), (4, .int (nI (4 * jj))), (3, .ref qo), (2, .ref (r 0)), (1, .ref (q 0)), (0, .ref b)]) hx hb dL_law_715 hl (by decide) rfl (fun ls hl => ?_)
      refine lv_aload_n hx hb dL_law_717 rfl (lv_at hl 4 rfl) ?_
      refine k3_i (mc := 0) (ms := 0) (wa := []) (wc := (wM r cI cZ cJ 1 k V C A T B P OR n PR ST li w WK so sp CT FW)) (wb := ((wX q cI cZ cJ k V C T B P A n PR ST li w WK so sp CT SC TA) ++ [(qo, .inl (cJ, 1, .inr (.inl O)))])) (va_runV (As := []) (rest := []) ⟨hx, hb, hml, hown, hts⟩ (c_X1_thrown l hst D r cI cZ cJ 1 k V C A T B P OR n PR ST li w WK so sp CT FW H.size  ) (cwV 0 hts gL_law_X1_thrown rfl rfl rfl hd_X1_thrown ⟨(Nat.le_of_ble_eq_true rfl), (Nat.le_of_ble_eq_true rfl)⟩) (pre_V3 (wa := []) (wc := (wM r cI cZ cJ 1 k V C A T B P OR n PR ST li w WK so sp CT FW)) (wb := ((wX q cI cZ cJ k V C T B P A n PR ST li w WK so sp CT SC TA) ++ [(qo, .inl (cJ, 1, .inr (.inl O)))])) hP hK hD hS hA hZ hg 0 (ci := 1) rfl rfl) rfl rfl hl.1 rfl (lv_room (Nat.le_of_ble_eq_true rfl)) dL_law_718 ⟨(show (((27 + 8 * jj) + 1) + 0) + 0 ≤ 601024 by omega), (show (((20244 + 64 * jj) + 6) + 0) + 0 ≤ 7293034 by omega)⟩) hP hD hS hA (fun rr u2 H locs hq hP hD hS => ?_)
      replace hq : rr = nI 1 := hq
      subst hq
      have hP : va_P D vwCl ((wM r cI cZ cJ 1 k V C A T B P OR n PR ST li w WK so sp CT FW) ++ ((wX q cI cZ cJ k V C T B P A n PR ST li w WK so sp CT SC TA) ++ [(qo, .inl (cJ, 1, .inr (.inl O)))])) H := hP
      have hD : va_D (lA s) ((wM r cI cZ cJ 1 k V C A T B P OR n PR ST li w WK so sp CT FW) ++ ((wX q cI cZ cJ k V C T B P A n PR ST li w WK so sp CT SC TA) ++ [(qo, .inl (cJ, 1, .inr (.inl O)))])) := hD
      refine lv_iload hx hb dL_law_721 (lv_at hl 1 rfl) ?_
      refine lv_icmp_eq (tgt := 728) hx hb dL_law_723 (by decide) (fun _ => ?_) (fun h => absurd rfl h)
      refine lv_iload hx hb dL_law_728 (lv_at hl 1 rfl) ?_
      refine n_if_ne (tgt := 745) hx hb (by decide) dL_law_730 (by decide) (fun c730 => ?_) (fun c730 => ?_)
      · refine lv_goto (tgt := 1433) hx hb dL_law_745 (by decide) ?_
        refine W.widen (k := 27 + 8 * (jj + 1)) (n := 20244 + 64 * (jj + 1)) (by omega) (by omega) ?_
        exact hN 1 k V C T B P A OR n PR ST li w WK so sp CT SC TA FW O _ _ hI hP hD hS ls (lv_sub hl [2, 3, 4, 5, 6] rfl)
      · exact absurd c730 (by decide)
  · refine lv_iconst (v := nI 1) hx hb dL_law_680 (ic_1) ?_
    refine lv_goto (tgt := 685) hx hb dL_law_681 (by decide) ?_
    refine lv_aload_n hx hb dL_law_685 rfl (lv_at hl 1 rfl) ?_
    refine k3_i (mc := 1) (ms := 6) (wa := (wM r cI cZ cJ th k V C A T B P OR n PR ST li w WK so sp CT FW)) (wc := ((wX q cI cZ cJ k V C T B P A n PR ST li w WK so sp CT SC TA) ++ [(qo, .inl (cJ, 1, .inr (.inl O)))])) (wb := []) (vx_runSW (As := [.ref (q 0), .int (xs ((4 * jj) + 1)), .int (nI 1), .ref qo]) (rest := []) ⟨hx, hb, hml, hown, hts⟩ (c_L_product l hst D q qo cI cZ cJ k V C T B P A n PR ST li w WK so sp CT SC TA O H.size (xs ((4 * jj) + 1)) 1 hI.hn10 (by decide)) (vx_cwSW 4 hts gL_law_L_product rfl rfl rfl hd_L_product.2 ⟨(Nat.le_of_ble_eq_true rfl), (Nat.le_of_ble_eq_true rfl)⟩) (pre_N (wa := (wM r cI cZ cJ th k V C A T B P OR n PR ST li w WK so sp CT FW)) (wc := ((wX q cI cZ cJ k V C T B P A n PR ST li w WK so sp CT SC TA) ++ [(qo, .inl (cJ, 1, .inr (.inl O)))])) (wb := []) hP hK hD hS hA hZ hg hn) rfl rfl hl.1 rfl (lv_room (Nat.le_of_ble_eq_true rfl)) dL_law_686 ⟨(show (27 + 8 * jj) + 1 ≤ 601024 by omega), (show (20244 + 64 * jj) + 6 ≤ 7293034 by omega)⟩) hP hD hS hA (fun rr u H locs hp hP hD hS => ?_)
    rcases u with u | kk
    · replace hp : rr = nI 0 ∧ (u < n ∧ (xs ((4 * jj) + 1)) = nI u) := hp
      obtain ⟨rfl, hp⟩ := hp
      have hP : va_P D vwCl ((wM r cI cZ cJ th k V C A T B P OR n PR ST li w WK so sp CT FW) ++ ((wX q cI cZ cJ k V C T B P A n PR ST li w WK so sp CT SC TA) ++ [(qo, .inl (cJ, 1, .inr (.inl (vp_updL O 0 ((nI (if 1 = 0 then PR u else ST u)).toInt64)))))])) H := hP
      have hD : va_D (lA s) ((wM r cI cZ cJ th k V C A T B P OR n PR ST li w WK so sp CT FW) ++ ((wX q cI cZ cJ k V C T B P A n PR ST li w WK so sp CT SC TA) ++ [(qo, .inl (cJ, 1, .inr (.inl (vp_updL O 0 ((nI (if 1 = 0 then PR u else ST u)).toInt64)))))])) := hD
      refine lv_istore (lv' := [(5, .int (nI 0)), (4, .int (nI (4 * jj))), (3, .ref qo), (2, .ref (r 0)), (1, .ref (q 0)), (0, .ref b)]) hx hb dL_law_689 hl (by decide) rfl (fun ls hl => ?_)
      refine lv_aload_n hx hb dL_law_691 rfl (lv_at hl 3 rfl) ?_
      refine lv_aload_n hx hb dL_law_692 rfl (lv_at hl 5 rfl) ?_
      refine lv_iload hx hb dL_law_693 (lv_at hl 1 rfl) ?_
      refine lv_iconst (v := nI 1) hx hb dL_law_695 (ic_1) ?_
      refine n_iadd hx hb dL_law_696 ?_
      refine n_sld hx hb hX hbl hbA hS (by omega) (by omega) dL_law_697 ?_
      refine lv_aload_n hx hb dL_law_698 rfl (lv_at hl 5 rfl) ?_
      refine lv_iload hx hb dL_law_699 (lv_at hl 1 rfl) ?_
      refine lv_iconst (v := nI 2) hx hb dL_law_701 (ic_2) ?_
      refine n_iadd hx hb dL_law_702 ?_
      refine n_sld hx hb hX hbl hbA hS (by omega) (by omega) dL_law_703 ?_
      refine lv_if_eq (tgt := 711) hx hb dL_law_704 (by decide) (fun h => absurd h con) (fun _ => ?_)
      refine lv_iconst (v := nI 1) hx hb dL_law_707 (ic_1) ?_
      refine lv_goto (tgt := 712) hx hb dL_law_708 (by decide) ?_
      refine k3_i (mc := 0) (ms := 0) (wa := []) (wc := (wM r cI cZ cJ th k V C A T B P OR n PR ST li w WK so sp CT FW)) (wb := ((wX q cI cZ cJ k V C T B P A n PR ST li w WK so sp CT SC TA) ++ [(qo, .inl (cJ, 1, .inr (.inl (vp_updL O 0 ((nI (if 1 = 0 then PR u else ST u)).toInt64)))))])) (va_runV (As := [.int (xs ((4 * jj) + 1)), .int (nI 1)]) (rest := []) ⟨hx, hb, hml, hown, hts⟩ (c_X1_product l hst D r cI cZ cJ th k V C A T B P OR n PR ST li w WK so sp CT FW H.size (xs ((4 * jj) + 1)) 1 hI.hn10 (by decide)) (cwV 2 hts gL_law_X1_product rfl rfl rfl hd_X1_product ⟨(Nat.le_of_ble_eq_true rfl), (Nat.le_of_ble_eq_true rfl)⟩) (pre_V3 (wa := []) (wc := (wM r cI cZ cJ th k V C A T B P OR n PR ST li w WK so sp CT FW)) (wb := ((wX q cI cZ cJ k V C T B P A n PR ST li w WK so sp CT SC TA) ++ [(qo, .inl (cJ, 1, .inr (.inl (vp_updL O 0 ((nI (if 1 = 0 then PR u else ST u)).toInt64)))))])) hP hK hD hS hA hZ hg 0 (ci := 1) rfl rfl) rfl rfl hl.1 rfl (lv_room (Nat.le_of_ble_eq_true rfl)) dL_law_712 ⟨(show ((27 + 8 * jj) + 1) + 0 ≤ 601024 by omega), (show ((20244 + 64 * jj) + 6) + 0 ≤ 7293034 by omega)⟩) hP hD hS hA (fun rr u2 H locs hq hP hD hS => ?_)
      obtain ⟨v0, v1⟩ := u2
      replace hq : rr = nI v0 ∧ ((v1 = 0 ∧ ∃ i, i < n ∧ (xs ((4 * jj) + 1)) = nI i ∧ v0 = if 1 = 0 then PR i else ST i) ∨ (v1 = 1 ∧ ¬ rg (xs ((4 * jj) + 1)) 0 n)) := hq
      obtain ⟨hr9, hq⟩ := hq
      replace hr9 := hr9.symm
      subst hr9
      have hP : va_P D vwCl ((wM r cI cZ cJ v1 k V C A T B P OR n PR ST li w WK so sp CT FW) ++ ((wX q cI cZ cJ k V C T B P A n PR ST li w WK so sp CT SC TA) ++ [(qo, .inl (cJ, 1, .inr (.inl (vp_updL O 0 ((nI (if 1 = 0 then PR u else ST u)).toInt64)))))])) H := hP
      have hD : va_D (lA s) ((wM r cI cZ cJ v1 k V C A T B P OR n PR ST li w WK so sp CT FW) ++ ((wX q cI cZ cJ k V C T B P A n PR ST li w WK so sp CT SC TA) ++ [(qo, .inl (cJ, 1, .inr (.inl (vp_updL O 0 ((nI (if 1 = 0 then PR u else ST u)).toInt64)))))])) := hD
      obtain ⟨e0, e1⟩ := q_product_0 hI.hn10 hp hq
      have e0 := e0.symm
      subst e0
      have e1 := e1.symm
      subst e1
      refine lv_istore (lv' := [(6, .int (nI (if 1 = 0 then PR u else ST u))), (5, .int (nI 0)), (4, .int (nI (4 * jj))), (3, .ref qo), (2, .ref (r 0)), (1, .ref (q 0)), (0, .ref b)]) hx hb dL_law_715 hl (by decide) rfl (fun ls hl => ?_)
      refine lv_aload_n hx hb dL_law_717 rfl (lv_at hl 4 rfl) ?_
      refine k3_i (mc := 0) (ms := 0) (wa := []) (wc := (wM r cI cZ cJ 0 k V C A T B P OR n PR ST li w WK so sp CT FW)) (wb := ((wX q cI cZ cJ k V C T B P A n PR ST li w WK so sp CT SC TA) ++ [(qo, .inl (cJ, 1, .inr (.inl (vp_updL O 0 ((nI (if 1 = 0 then PR u else ST u)).toInt64)))))])) (va_runV (As := []) (rest := []) ⟨hx, hb, hml, hown, hts⟩ (c_X1_thrown l hst D r cI cZ cJ 0 k V C A T B P OR n PR ST li w WK so sp CT FW H.size  ) (cwV 0 hts gL_law_X1_thrown rfl rfl rfl hd_X1_thrown ⟨(Nat.le_of_ble_eq_true rfl), (Nat.le_of_ble_eq_true rfl)⟩) (pre_V3 (wa := []) (wc := (wM r cI cZ cJ 0 k V C A T B P OR n PR ST li w WK so sp CT FW)) (wb := ((wX q cI cZ cJ k V C T B P A n PR ST li w WK so sp CT SC TA) ++ [(qo, .inl (cJ, 1, .inr (.inl (vp_updL O 0 ((nI (if 1 = 0 then PR u else ST u)).toInt64)))))])) hP hK hD hS hA hZ hg 0 (ci := 1) rfl rfl) rfl rfl hl.1 rfl (lv_room (Nat.le_of_ble_eq_true rfl)) dL_law_718 ⟨(show (((27 + 8 * jj) + 1) + 0) + 0 ≤ 601024 by omega), (show (((20244 + 64 * jj) + 6) + 0) + 0 ≤ 7293034 by omega)⟩) hP hD hS hA (fun rr u2 H locs hq hP hD hS => ?_)
      replace hq : rr = nI 0 := hq
      subst hq
      have hP : va_P D vwCl ((wM r cI cZ cJ 0 k V C A T B P OR n PR ST li w WK so sp CT FW) ++ ((wX q cI cZ cJ k V C T B P A n PR ST li w WK so sp CT SC TA) ++ [(qo, .inl (cJ, 1, .inr (.inl (vp_updL O 0 ((nI (if 1 = 0 then PR u else ST u)).toInt64)))))])) H := hP
      have hD : va_D (lA s) ((wM r cI cZ cJ 0 k V C A T B P OR n PR ST li w WK so sp CT FW) ++ ((wX q cI cZ cJ k V C T B P A n PR ST li w WK so sp CT SC TA) ++ [(qo, .inl (cJ, 1, .inr (.inl (vp_updL O 0 ((nI (if 1 = 0 then PR u else ST u)).toInt64)))))])) := hD
      refine lv_iload hx hb dL_law_721 (lv_at hl 1 rfl) ?_
      refine lv_icmp_eq (tgt := 728) hx hb dL_law_723 (by decide) (fun _ => ?_) (fun h => absurd rfl h)
      refine lv_iload hx hb dL_law_728 (lv_at hl 1 rfl) ?_
      refine n_if_ne (tgt := 745) hx hb (by decide) dL_law_730 (by decide) (fun c730 => ?_) (fun c730 => ?_)
      · exact absurd c730 (by decide)
      · refine lv_aload_n hx hb dL_law_733 rfl (lv_at hl 3 rfl) ?_
        refine lv_iconst (v := nI 0) hx hb dL_law_734 (ic_0) ?_
        refine n_lald hx hb hK hP 26 2 rfl rfl (by decide) (by decide) dL_law_735 ?_
        refine n_topl (show (vp_updL O 0 ((nI (if 1 = 0 then PR u else ST u)).toInt64)) 0 = (nI (if 1 = 0 then PR u else ST u)).toInt64 from updL_s) ?_
        refine lv_iload hx hb dL_law_736 (lv_at hl 0 rfl) ?_
        refine lv_i2l hx hb dL_law_738 rfl ?_
        refine n_lcmp_eq (tgt := 745) hx hb dL_law_739 dL_law_740 (by decide) (fun _ => ?_) (fun h => absurd rfl h)
        refine lv_goto (tgt := 1433) hx hb dL_law_745 (by decide) ?_
        refine W.widen (k := 27 + 8 * (jj + 1)) (n := 20244 + 64 * (jj + 1)) (by omega) (by omega) ?_
        exact hN 0 k V C T B P A OR n PR ST li w WK so sp CT SC TA FW (vp_updL O 0 ((nI (if 1 = 0 then PR u else ST u)).toInt64)) _ _ hI hP hD hS ls (lv_sub hl [2, 3, 4, 5, 6] rfl)
    · replace hp : rr = nI kk ∧ ((kk = 1 ∧ (¬ rg (xs ((4 * jj) + 1)) 0 n))) := hp
      obtain ⟨rfl, hp⟩ := hp
      have hP : va_P D vwCl ((wM r cI cZ cJ th k V C A T B P OR n PR ST li w WK so sp CT FW) ++ ((wX q cI cZ cJ k V C T B P A n PR ST li w WK so sp CT SC TA) ++ [(qo, .inl (cJ, 1, .inr (.inl O)))])) H := hP
      have hD : va_D (lA s) ((wM r cI cZ cJ th k V C A T B P OR n PR ST li w WK so sp CT FW) ++ ((wX q cI cZ cJ k V C T B P A n PR ST li w WK so sp CT SC TA) ++ [(qo, .inl (cJ, 1, .inr (.inl O)))])) := hD
      obtain ⟨rfl, hp⟩ := hp
      refine lv_istore (lv' := [(5, .int (nI 1)), (4, .int (nI (4 * jj))), (3, .ref qo), (2, .ref (r 0)), (1, .ref (q 0)), (0, .ref b)]) hx hb dL_law_689 hl (by decide) rfl (fun ls hl => ?_)
      refine lv_aload_n hx hb dL_law_691 rfl (lv_at hl 3 rfl) ?_
      refine lv_aload_n hx hb dL_law_692 rfl (lv_at hl 5 rfl) ?_
      refine lv_iload hx hb dL_law_693 (lv_at hl 1 rfl) ?_
      refine lv_iconst (v := nI 1) hx hb dL_law_695 (ic_1) ?_
      refine n_iadd hx hb dL_law_696 ?_
      refine n_sld hx hb hX hbl hbA hS (by omega) (by omega) dL_law_697 ?_
      refine lv_aload_n hx hb dL_law_698 rfl (lv_at hl 5 rfl) ?_
      refine lv_iload hx hb dL_law_699 (lv_at hl 1 rfl) ?_
      refine lv_iconst (v := nI 2) hx hb dL_law_701 (ic_2) ?_
      refine n_iadd hx hb dL_law_702 ?_
      refine n_sld hx hb hX hbl hbA hS (by omega) (by omega) dL_law_703 ?_
      refine lv_if_eq (tgt := 711) hx hb dL_law_704 (by decide) (fun h => absurd h con) (fun _ => ?_)
      refine lv_iconst (v := nI 1) hx hb dL_law_707 (ic_1) ?_
      refine lv_goto (tgt := 712) hx hb dL_law_708 (by decide) ?_
      refine k3_i (mc := 0) (ms := 0) (wa := []) (wc := (wM r cI cZ cJ th k V C A T B P OR n PR ST li w WK so sp CT FW)) (wb := ((wX q cI cZ cJ k V C T B P A n PR ST li w WK so sp CT SC TA) ++ [(qo, .inl (cJ, 1, .inr (.inl O)))])) (va_runV (As := [.int (xs ((4 * jj) + 1)), .int (nI 1)]) (rest := []) ⟨hx, hb, hml, hown, hts⟩ (c_X1_product l hst D r cI cZ cJ th k V C A T B P OR n PR ST li w WK so sp CT FW H.size (xs ((4 * jj) + 1)) 1 hI.hn10 (by decide)) (cwV 2 hts gL_law_X1_product rfl rfl rfl hd_X1_product ⟨(Nat.le_of_ble_eq_true rfl), (Nat.le_of_ble_eq_true rfl)⟩) (pre_V3 (wa := []) (wc := (wM r cI cZ cJ th k V C A T B P OR n PR ST li w WK so sp CT FW)) (wb := ((wX q cI cZ cJ k V C T B P A n PR ST li w WK so sp CT SC TA) ++ [(qo, .inl (cJ, 1, .inr (.inl O)))])) hP hK hD hS hA hZ hg 0 (ci := 1) rfl rfl) rfl rfl hl.1 rfl (lv_room (Nat.le_of_ble_eq_true rfl)) dL_law_712 ⟨(show ((27 + 8 * jj) + 1) + 0 ≤ 601024 by omega), (show ((20244 + 64 * jj) + 6) + 0 ≤ 7293034 by omega)⟩) hP hD hS hA (fun rr u2 H locs hq hP hD hS => ?_)
      obtain ⟨v0, v1⟩ := u2
      replace hq : rr = nI v0 ∧ ((v1 = 0 ∧ ∃ i, i < n ∧ (xs ((4 * jj) + 1)) = nI i ∧ v0 = if 1 = 0 then PR i else ST i) ∨ (v1 = 1 ∧ ¬ rg (xs ((4 * jj) + 1)) 0 n)) := hq
      obtain ⟨hr9, hq⟩ := hq
      replace hr9 := hr9.symm
      subst hr9
      have hP : va_P D vwCl ((wM r cI cZ cJ v1 k V C A T B P OR n PR ST li w WK so sp CT FW) ++ ((wX q cI cZ cJ k V C T B P A n PR ST li w WK so sp CT SC TA) ++ [(qo, .inl (cJ, 1, .inr (.inl O)))])) H := hP
      have hD : va_D (lA s) ((wM r cI cZ cJ v1 k V C A T B P OR n PR ST li w WK so sp CT FW) ++ ((wX q cI cZ cJ k V C T B P A n PR ST li w WK so sp CT SC TA) ++ [(qo, .inl (cJ, 1, .inr (.inl O)))])) := hD
      have e0 := q_product_1 hI.hn10 hp hq
      have e0 := e0.symm
      subst e0
      refine lv_istore (lv' := [(6, .int (nI v0)), (5, .int (nI 1)), (4, .int (nI (4 * jj))), (3, .ref qo), (2, .ref (r 0)), (1, .ref (q 0)), (0, .ref b)]) hx hb dL_law_715 hl (by decide) rfl (fun ls hl => ?_)
      refine lv_aload_n hx hb dL_law_717 rfl (lv_at hl 4 rfl) ?_
      refine k3_i (mc := 0) (ms := 0) (wa := []) (wc := (wM r cI cZ cJ 1 k V C A T B P OR n PR ST li w WK so sp CT FW)) (wb := ((wX q cI cZ cJ k V C T B P A n PR ST li w WK so sp CT SC TA) ++ [(qo, .inl (cJ, 1, .inr (.inl O)))])) (va_runV (As := []) (rest := []) ⟨hx, hb, hml, hown, hts⟩ (c_X1_thrown l hst D r cI cZ cJ 1 k V C A T B P OR n PR ST li w WK so sp CT FW H.size  ) (cwV 0 hts gL_law_X1_thrown rfl rfl rfl hd_X1_thrown ⟨(Nat.le_of_ble_eq_true rfl), (Nat.le_of_ble_eq_true rfl)⟩) (pre_V3 (wa := []) (wc := (wM r cI cZ cJ 1 k V C A T B P OR n PR ST li w WK so sp CT FW)) (wb := ((wX q cI cZ cJ k V C T B P A n PR ST li w WK so sp CT SC TA) ++ [(qo, .inl (cJ, 1, .inr (.inl O)))])) hP hK hD hS hA hZ hg 0 (ci := 1) rfl rfl) rfl rfl hl.1 rfl (lv_room (Nat.le_of_ble_eq_true rfl)) dL_law_718 ⟨(show (((27 + 8 * jj) + 1) + 0) + 0 ≤ 601024 by omega), (show (((20244 + 64 * jj) + 6) + 0) + 0 ≤ 7293034 by omega)⟩) hP hD hS hA (fun rr u2 H locs hq hP hD hS => ?_)
      replace hq : rr = nI 1 := hq
      subst hq
      have hP : va_P D vwCl ((wM r cI cZ cJ 1 k V C A T B P OR n PR ST li w WK so sp CT FW) ++ ((wX q cI cZ cJ k V C T B P A n PR ST li w WK so sp CT SC TA) ++ [(qo, .inl (cJ, 1, .inr (.inl O)))])) H := hP
      have hD : va_D (lA s) ((wM r cI cZ cJ 1 k V C A T B P OR n PR ST li w WK so sp CT FW) ++ ((wX q cI cZ cJ k V C T B P A n PR ST li w WK so sp CT SC TA) ++ [(qo, .inl (cJ, 1, .inr (.inl O)))])) := hD
      refine lv_iload hx hb dL_law_721 (lv_at hl 1 rfl) ?_
      refine lv_icmp_eq (tgt := 728) hx hb dL_law_723 (by decide) (fun _ => ?_) (fun h => absurd rfl h)
      refine lv_iload hx hb dL_law_728 (lv_at hl 1 rfl) ?_
      refine n_if_ne (tgt := 745) hx hb (by decide) dL_law_730 (by decide) (fun c730 => ?_) (fun c730 => ?_)
      · refine lv_goto (tgt := 1433) hx hb dL_law_745 (by decide) ?_
        refine W.widen (k := 27 + 8 * (jj + 1)) (n := 20244 + 64 * (jj + 1)) (by omega) (by omega) ?_
        exact hN 1 k V C T B P A OR n PR ST li w WK so sp CT SC TA FW O _ _ hI hP hD hS ls (lv_sub hl [2, 3, 4, 5, 6] rfl)
      · exact absurd c730 (by decide)

set_option maxHeartbeats 8000000 in
set_option maxRecDepth 100000 in
theorem lw_insert (hst : l.stackTraces = false) (hc : Lc p s m meth c b L xs D cI cZ cJ) {r q : Nat → Nat} {qo jj : Nat} (hj : 4 * jj + 4 ≤ L) {th : Nat} {k : Nat} {V : Nat → Nat} {C : Nat → Nat} {T : Nat → Nat} {B : Nat → Nat} {P : Nat → Nat} {A : Nat → Nat} {OR : Nat → Nat} {n : Nat} {PR : Nat → Nat} {ST : Nat → Nat} {li : Nat} {w : Nat} {WK : Nat → Nat} {so : Nat} {sp : Nat} {CT : Nat → Int64} {SC : Nat → Int} {TA : Nat → Nat} {FW : Nat → Nat} {O : Nat → Int64} {H : Heap} {locs : List Loc} (hI : IV k V C T A OR n PR ST li w WK so sp) (hP : va_P D vwCl (wL r q qo cI cZ cJ th k V C T B P A OR n PR ST li w WK so sp CT SC TA FW O) H) (hD : va_D (lA s) (wL r q qo cI cZ cJ th k V C T B P A OR n PR ST li w WK so sp CT SC TA FW O)) (hS : va_S (lA s) s.heap H locs) {ls : Array Slot} (hl : lv_has ls 9 [(4, .int (nI (4 * jj))), (3, .ref qo), (2, .ref (r 0)), (1, .ref (q 0)), (0, .ref b)]) (hN : Nx p l e s m below meth c b D r q qo cI cZ cJ Q jj) : W p l e room_1 s m #[Value.ref b] below meth c H locs (27 + 8 * jj) (20244 + 64 * jj) Q (F0 m 748 ls []) := by
  obtain ⟨hx, hb, hr, hml, hown, hts, hX, hbl, hlocks, hK, hZ, hg, hn, hL⟩ := hc
  have hA : ∀ q9 : Nat, s.heap.size ≤ q9 → lA s q9 := fun _ h => h
  have hbA : ¬ lA s b := Nat.not_le.mpr hbl
  have hP : va_P D vwCl ((wM r cI cZ cJ th k V C A T B P OR n PR ST li w WK so sp CT FW) ++ ((wX q cI cZ cJ k V C T B P A n PR ST li w WK so sp CT SC TA) ++ [(qo, .inl (cJ, 1, .inr (.inl O)))])) H := hP
  have hD : va_D (lA s) ((wM r cI cZ cJ th k V C A T B P OR n PR ST li w WK so sp CT FW) ++ ((wX q cI cZ cJ k V C T B P A n PR ST li w WK so sp CT SC TA) ++ [(qo, .inl (cJ, 1, .inr (.inl O)))])) := hD
  refine lv_aload_n hx hb dL_law_748 rfl (lv_at hl 3 rfl) ?_
  refine lv_aload_n hx hb dL_law_749 rfl (lv_at hl 4 rfl) ?_
  refine lv_iload hx hb dL_law_750 (lv_at hl 0 rfl) ?_
  refine lv_iconst (v := nI 1) hx hb dL_law_752 (ic_1) ?_
  refine n_iadd hx hb dL_law_753 ?_
  refine n_sld hx hb hX hbl hbA hS (by omega) (by omega) dL_law_754 ?_
  refine lv_aload_n hx hb dL_law_755 rfl (lv_at hl 1 rfl) ?_
  refine k3_i (mc := 1) (ms := 6) (wa := (wM r cI cZ cJ th k V C A T B P OR n PR ST li w WK so sp CT FW)) (wc := ((wX q cI cZ cJ k V C T B P A n PR ST li w WK so sp CT SC TA) ++ [(qo, .inl (cJ, 1, .inr (.inl O)))])) (wb := []) (vx_runSW (As := [.ref (q 0), .int (xs ((4 * jj) + 1)), .ref qo]) (rest := []) ⟨hx, hb, hml, hown, hts⟩ (c_L_insert l hst D q qo cI cZ cJ k V C T B P A n PR ST li w WK so sp CT SC TA O H.size (xs ((4 * jj) + 1)) hI.hk8 hI.hV hI.hA1 hI.hw12 hI.hWK hI.hli) (vx_cwSW 3 hts gL_law_L_insert rfl rfl rfl hd_L_insert.2 ⟨(Nat.le_of_ble_eq_true rfl), (Nat.le_of_ble_eq_true rfl)⟩) (pre_N (wa := (wM r cI cZ cJ th k V C A T B P OR n PR ST li w WK so sp CT FW)) (wc := ((wX q cI cZ cJ k V C T B P A n PR ST li w WK so sp CT SC TA) ++ [(qo, .inl (cJ, 1, .inr (.inl O)))])) (wb := []) hP hK hD hS hA hZ hg hn) rfl rfl hl.1 rfl (lv_room (Nat.le_of_ble_eq_true rfl)) dL_law_756 ⟨(show (27 + 8 * jj) + 1 ≤ 601024 by omega), (show (20244 + 64 * jj) + 6 ≤ 7293034 by omega)⟩) hP hD hS hA (fun rr u H locs hp hP hD hS => ?_)
  rcases u with u | kk
  · replace hp : rr = nI 0 ∧ (u.1 < k ∧ (xs ((4 * jj) + 1)) = nI u.1 ∧ insP k V A li w WK CT u.1 u.2.2.1 u.2.2.2.1 u.2.2.2.2 u.2.1) := hp
    obtain ⟨rfl, hp⟩ := hp
    have hP : va_P D vwCl ((wM r cI cZ cJ th k V C A T B P OR n PR ST li w WK so sp CT FW) ++ ((wX q cI cZ cJ k V C T B P A n PR ST li u.2.2.1 u.2.2.2.1 so sp u.2.2.2.2 SC TA) ++ [(qo, .inl (cJ, 1, .inr (.inl (vp_updL O 0 ((nI u.2.1).toInt64)))))])) H := hP
    have hD : va_D (lA s) ((wM r cI cZ cJ th k V C A T B P OR n PR ST li w WK so sp CT FW) ++ ((wX q cI cZ cJ k V C T B P A n PR ST li u.2.2.1 u.2.2.2.1 so sp u.2.2.2.2 SC TA) ++ [(qo, .inl (cJ, 1, .inr (.inl (vp_updL O 0 ((nI u.2.1).toInt64)))))])) := hD
    refine lv_istore (lv' := [(5, .int (nI 0)), (4, .int (nI (4 * jj))), (3, .ref qo), (2, .ref (r 0)), (1, .ref (q 0)), (0, .ref b)]) hx hb dL_law_759 hl (by decide) rfl (fun ls hl => ?_)
    refine lv_aload_n hx hb dL_law_761 rfl (lv_at hl 3 rfl) ?_
    refine lv_aload_n hx hb dL_law_762 rfl (lv_at hl 5 rfl) ?_
    refine lv_iload hx hb dL_law_763 (lv_at hl 1 rfl) ?_
    refine lv_iconst (v := nI 1) hx hb dL_law_765 (ic_1) ?_
    refine n_iadd hx hb dL_law_766 ?_
    refine n_sld hx hb hX hbl hbA hS (by omega) (by omega) dL_law_767 ?_
    refine k3_i (mc := 0) (ms := 0) (wa := []) (wc := (wM r cI cZ cJ th k V C A T B P OR n PR ST li w WK so sp CT FW)) (wb := ((wX q cI cZ cJ k V C T B P A n PR ST li u.2.2.1 u.2.2.2.1 so sp u.2.2.2.2 SC TA) ++ [(qo, .inl (cJ, 1, .inr (.inl (vp_updL O 0 ((nI u.2.1).toInt64)))))])) (va_runV (As := [.int (xs ((4 * jj) + 1))]) (rest := []) ⟨hx, hb, hml, hown, hts⟩ (c_X1_insert l hst D r cI cZ cJ th k V C A T B P OR n PR ST li w WK so sp CT FW H.size (xs ((4 * jj) + 1)) hI.hk8 hI.hV hI.hA1 hI.hw12 hI.hWK hI.hli) (cwV 1 hts gL_law_X1_insert rfl rfl rfl hd_X1_insert ⟨(Nat.le_of_ble_eq_true rfl), (Nat.le_of_ble_eq_true rfl)⟩) (pre_V3 (wa := []) (wc := (wM r cI cZ cJ th k V C A T B P OR n PR ST li w WK so sp CT FW)) (wb := ((wX q cI cZ cJ k V C T B P A n PR ST li u.2.2.1 u.2.2.2.1 so sp u.2.2.2.2 SC TA) ++ [(qo, .inl (cJ, 1, .inr (.inl (vp_updL O 0 ((nI u.2.1).toInt64)))))])) hP hK hD hS hA hZ hg 0 (ci := 1) rfl rfl) rfl rfl hl.1 rfl (lv_room (Nat.le_of_ble_eq_true rfl)) dL_law_768 ⟨(show ((27 + 8 * jj) + 1) + 0 ≤ 601024 by omega), (show ((20244 + 64 * jj) + 6) + 0 ≤ 7293034 by omega)⟩) hP hD hS hA (fun rr u2 H locs hq hP hD hS => ?_)
    obtain ⟨v0, v1, v2, v3, v4⟩ := u2
    replace hq : rr = nI v0 ∧ ((v1 = 0 ∧ ∃ i, i < k ∧ (xs ((4 * jj) + 1)) = nI i ∧ insP k V A li w WK CT i v2 v3 v4 v0) ∨ (v1 = 1 ∧ ¬ rg (xs ((4 * jj) + 1)) 0 k ∧ v2 = w ∧ v3 = WK ∧ v4 = CT)) := hq
    obtain ⟨hr9, hq⟩ := hq
    replace hr9 := hr9.symm
    subst hr9
    have hP : va_P D vwCl ((wM r cI cZ cJ v1 k V C A T B P OR n PR ST li v2 v3 so sp v4 FW) ++ ((wX q cI cZ cJ k V C T B P A n PR ST li u.2.2.1 u.2.2.2.1 so sp u.2.2.2.2 SC TA) ++ [(qo, .inl (cJ, 1, .inr (.inl (vp_updL O 0 ((nI u.2.1).toInt64)))))])) H := hP
    have hD : va_D (lA s) ((wM r cI cZ cJ v1 k V C A T B P OR n PR ST li v2 v3 so sp v4 FW) ++ ((wX q cI cZ cJ k V C T B P A n PR ST li u.2.2.1 u.2.2.2.1 so sp u.2.2.2.2 SC TA) ++ [(qo, .inl (cJ, 1, .inr (.inl (vp_updL O 0 ((nI u.2.1).toInt64)))))])) := hD
    obtain ⟨e0, e1, f0, f1, f2⟩ := q_insert_0 hI.hk8 hp hq
    have e0 := e0.symm
    subst e0
    have e1 := e1.symm
    subst e1
    have f0 := f0.symm
    subst f0
    have f1 := f1.symm
    subst f1
    have f2 := f2.symm
    subst f2
    have hI2 := iv_insert hI hp.1 hp.2.2
    refine lv_istore (lv' := [(6, .int (nI u.2.1)), (5, .int (nI 0)), (4, .int (nI (4 * jj))), (3, .ref qo), (2, .ref (r 0)), (1, .ref (q 0)), (0, .ref b)]) hx hb dL_law_771 hl (by decide) rfl (fun ls hl => ?_)
    refine lv_aload_n hx hb dL_law_773 rfl (lv_at hl 4 rfl) ?_
    refine k3_i (mc := 0) (ms := 0) (wa := []) (wc := (wM r cI cZ cJ 0 k V C A T B P OR n PR ST li u.2.2.1 u.2.2.2.1 so sp u.2.2.2.2 FW)) (wb := ((wX q cI cZ cJ k V C T B P A n PR ST li u.2.2.1 u.2.2.2.1 so sp u.2.2.2.2 SC TA) ++ [(qo, .inl (cJ, 1, .inr (.inl (vp_updL O 0 ((nI u.2.1).toInt64)))))])) (va_runV (As := []) (rest := []) ⟨hx, hb, hml, hown, hts⟩ (c_X1_thrown l hst D r cI cZ cJ 0 k V C A T B P OR n PR ST li u.2.2.1 u.2.2.2.1 so sp u.2.2.2.2 FW H.size  ) (cwV 0 hts gL_law_X1_thrown rfl rfl rfl hd_X1_thrown ⟨(Nat.le_of_ble_eq_true rfl), (Nat.le_of_ble_eq_true rfl)⟩) (pre_V3 (wa := []) (wc := (wM r cI cZ cJ 0 k V C A T B P OR n PR ST li u.2.2.1 u.2.2.2.1 so sp u.2.2.2.2 FW)) (wb := ((wX q cI cZ cJ k V C T B P A n PR ST li u.2.2.1 u.2.2.2.1 so sp u.2.2.2.2 SC TA) ++ [(qo, .inl (cJ, 1, .inr (.inl (vp_updL O 0 ((nI u.2.1).toInt64)))))])) hP hK hD hS hA hZ hg 0 (ci := 1) rfl rfl) rfl rfl hl.1 rfl (lv_room (Nat.le_of_ble_eq_true rfl)) dL_law_774 ⟨(show (((27 + 8 * jj) + 1) + 0) + 0 ≤ 601024 by omega), (show (((20244 + 64 * jj) + 6) + 0) + 0 ≤ 7293034 by omega)⟩) hP hD hS hA (fun rr u2 H locs hq hP hD hS => ?_)
    replace hq : rr = nI 0 := hq
    subst hq
    have hP : va_P D vwCl ((wM r cI cZ cJ 0 k V C A T B P OR n PR ST li u.2.2.1 u.2.2.2.1 so sp u.2.2.2.2 FW) ++ ((wX q cI cZ cJ k V C T B P A n PR ST li u.2.2.1 u.2.2.2.1 so sp u.2.2.2.2 SC TA) ++ [(qo, .inl (cJ, 1, .inr (.inl (vp_updL O 0 ((nI u.2.1).toInt64)))))])) H := hP
    have hD : va_D (lA s) ((wM r cI cZ cJ 0 k V C A T B P OR n PR ST li u.2.2.1 u.2.2.2.1 so sp u.2.2.2.2 FW) ++ ((wX q cI cZ cJ k V C T B P A n PR ST li u.2.2.1 u.2.2.2.1 so sp u.2.2.2.2 SC TA) ++ [(qo, .inl (cJ, 1, .inr (.inl (vp_updL O 0 ((nI u.2.1).toInt64)))))])) := hD
    refine lv_iload hx hb dL_law_777 (lv_at hl 1 rfl) ?_
    refine lv_icmp_eq (tgt := 784) hx hb dL_law_779 (by decide) (fun _ => ?_) (fun h => absurd rfl h)
    refine lv_iload hx hb dL_law_784 (lv_at hl 1 rfl) ?_
    refine n_if_ne (tgt := 801) hx hb (by decide) dL_law_786 (by decide) (fun c786 => ?_) (fun c786 => ?_)
    · exact absurd c786 (by decide)
    · refine lv_aload_n hx hb dL_law_789 rfl (lv_at hl 3 rfl) ?_
      refine lv_iconst (v := nI 0) hx hb dL_law_790 (ic_0) ?_
      refine n_lald hx hb hK hP 26 2 rfl rfl (by decide) (by decide) dL_law_791 ?_
      refine n_topl (show (vp_updL O 0 ((nI u.2.1).toInt64)) 0 = (nI u.2.1).toInt64 from updL_s) ?_
      refine lv_iload hx hb dL_law_792 (lv_at hl 0 rfl) ?_
      refine lv_i2l hx hb dL_law_794 rfl ?_
      refine n_lcmp_eq (tgt := 801) hx hb dL_law_795 dL_law_796 (by decide) (fun _ => ?_) (fun h => absurd rfl h)
      refine lv_goto (tgt := 1433) hx hb dL_law_801 (by decide) ?_
      refine W.widen (k := 27 + 8 * (jj + 1)) (n := 20244 + 64 * (jj + 1)) (by omega) (by omega) ?_
      exact hN 0 k V C T B P A OR n PR ST li u.2.2.1 u.2.2.2.1 so sp u.2.2.2.2 SC TA FW (vp_updL O 0 ((nI u.2.1).toInt64)) _ _ hI2 hP hD hS ls (lv_sub hl [2, 3, 4, 5, 6] rfl)
  · replace hp : rr = nI kk ∧ ((kk = 1 ∧ (¬ rg (xs ((4 * jj) + 1)) 0 k))) := hp
    obtain ⟨rfl, hp⟩ := hp
    have hP : va_P D vwCl ((wM r cI cZ cJ th k V C A T B P OR n PR ST li w WK so sp CT FW) ++ ((wX q cI cZ cJ k V C T B P A n PR ST li w WK so sp CT SC TA) ++ [(qo, .inl (cJ, 1, .inr (.inl O)))])) H := hP
    have hD : va_D (lA s) ((wM r cI cZ cJ th k V C A T B P OR n PR ST li w WK so sp CT FW) ++ ((wX q cI cZ cJ k V C T B P A n PR ST li w WK so sp CT SC TA) ++ [(qo, .inl (cJ, 1, .inr (.inl O)))])) := hD
    obtain ⟨rfl, hp⟩ := hp
    refine lv_istore (lv' := [(5, .int (nI 1)), (4, .int (nI (4 * jj))), (3, .ref qo), (2, .ref (r 0)), (1, .ref (q 0)), (0, .ref b)]) hx hb dL_law_759 hl (by decide) rfl (fun ls hl => ?_)
    refine lv_aload_n hx hb dL_law_761 rfl (lv_at hl 3 rfl) ?_
    refine lv_aload_n hx hb dL_law_762 rfl (lv_at hl 5 rfl) ?_
    refine lv_iload hx hb dL_law_763 (lv_at hl 1 rfl) ?_
    refine lv_iconst (v := nI 1) hx hb dL_law_765 (ic_1) ?_
    refine n_iadd hx hb dL_law_766 ?_
    refine n_sld hx hb hX hbl hbA hS (by omega) (by omega) dL_law_767 ?_
    refine k3_i (mc := 0) (ms := 0) (wa := []) (wc := (wM r cI cZ cJ th k V C A T B P OR n PR ST li w WK so sp CT FW)) (wb := ((wX q cI cZ cJ k V C T B P A n PR ST li w WK so sp CT SC TA) ++ [(qo, .inl (cJ, 1, .inr (.inl O)))])) (va_runV (As := [.int (xs ((4 * jj) + 1))]) (rest := []) ⟨hx, hb, hml, hown, hts⟩ (c_X1_insert l hst D r cI cZ cJ th k V C A T B P OR n PR ST li w WK so sp CT FW H.size (xs ((4 * jj) + 1)) hI.hk8 hI.hV hI.hA1 hI.hw12 hI.hWK hI.hli) (cwV 1 hts gL_law_X1_insert rfl rfl rfl hd_X1_insert ⟨(Nat.le_of_ble_eq_true rfl), (Nat.le_of_ble_eq_true rfl)⟩) (pre_V3 (wa := []) (wc := (wM r cI cZ cJ th k V C A T B P OR n PR ST li w WK so sp CT FW)) (wb := ((wX q cI cZ cJ k V C T B P A n PR ST li w WK so sp CT SC TA) ++ [(qo, .inl (cJ, 1, .inr (.inl O)))])) hP hK hD hS hA hZ hg 0 (ci := 1) rfl rfl) rfl rfl hl.1 rfl (lv_room (Nat.le_of_ble_eq_true rfl)) dL_law_768 ⟨(show ((27 + 8 * jj) + 1) + 0 ≤ 601024 by omega), (show ((20244 + 64 * jj) + 6) + 0 ≤ 7293034 by omega)⟩) hP hD hS hA (fun rr u2 H locs hq hP hD hS => ?_)
    obtain ⟨v0, v1, v2, v3, v4⟩ := u2
    replace hq : rr = nI v0 ∧ ((v1 = 0 ∧ ∃ i, i < k ∧ (xs ((4 * jj) + 1)) = nI i ∧ insP k V A li w WK CT i v2 v3 v4 v0) ∨ (v1 = 1 ∧ ¬ rg (xs ((4 * jj) + 1)) 0 k ∧ v2 = w ∧ v3 = WK ∧ v4 = CT)) := hq
    obtain ⟨hr9, hq⟩ := hq
    replace hr9 := hr9.symm
    subst hr9
    have hP : va_P D vwCl ((wM r cI cZ cJ v1 k V C A T B P OR n PR ST li v2 v3 so sp v4 FW) ++ ((wX q cI cZ cJ k V C T B P A n PR ST li w WK so sp CT SC TA) ++ [(qo, .inl (cJ, 1, .inr (.inl O)))])) H := hP
    have hD : va_D (lA s) ((wM r cI cZ cJ v1 k V C A T B P OR n PR ST li v2 v3 so sp v4 FW) ++ ((wX q cI cZ cJ k V C T B P A n PR ST li w WK so sp CT SC TA) ++ [(qo, .inl (cJ, 1, .inr (.inl O)))])) := hD
    obtain ⟨e0, f0, f1, f2⟩ := q_insert_1 hI.hk8 hp hq
    have e0 := e0.symm
    subst e0
    have f0 := f0.symm
    subst f0
    have f1 := f1.symm
    subst f1
    have f2 := f2.symm
    subst f2
    refine lv_istore (lv' := [(6, .int (nI v0)), (5, .int (nI 1)), (4, .int (nI (4 * jj))), (3, .ref qo), (2, .ref (r 0)), (1, .ref (q 0)), (0, .ref b)]) hx hb dL_law_771 hl (by decide) rfl (fun ls hl => ?_)
    refine lv_aload_n hx hb dL_law_773 rfl (lv_at hl 4 rfl) ?_
    refine k3_i (mc := 0) (ms := 0) (wa := []) (wc := (wM r cI cZ cJ 1 k V C A T B P OR n PR ST li w WK so sp CT FW)) (wb := ((wX q cI cZ cJ k V C T B P A n PR ST li w WK so sp CT SC TA) ++ [(qo, .inl (cJ, 1, .inr (.inl O)))])) (va_runV (As := []) (rest := []) ⟨hx, hb, hml, hown, hts⟩ (c_X1_thrown l hst D r cI cZ cJ 1 k V C A T B P OR n PR ST li w WK so sp CT FW H.size  ) (cwV 0 hts gL_law_X1_thrown rfl rfl rfl hd_X1_thrown ⟨(Nat.le_of_ble_eq_true rfl), (Nat.le_of_ble_eq_true rfl)⟩) (pre_V3 (wa := []) (wc := (wM r cI cZ cJ 1 k V C A T B P OR n PR ST li w WK so sp CT FW)) (wb := ((wX q cI cZ cJ k V C T B P A n PR ST li w WK so sp CT SC TA) ++ [(qo, .inl (cJ, 1, .inr (.inl O)))])) hP hK hD hS hA hZ hg 0 (ci := 1) rfl rfl) rfl rfl hl.1 rfl (lv_room (Nat.le_of_ble_eq_true rfl)) dL_law_774 ⟨(show (((27 + 8 * jj) + 1) + 0) + 0 ≤ 601024 by omega), (show (((20244 + 64 * jj) + 6) + 0) + 0 ≤ 7293034 by omega)⟩) hP hD hS hA (fun rr u2 H locs hq hP hD hS => ?_)
    replace hq : rr = nI 1 := hq
    subst hq
    have hP : va_P D vwCl ((wM r cI cZ cJ 1 k V C A T B P OR n PR ST li w WK so sp CT FW) ++ ((wX q cI cZ cJ k V C T B P A n PR ST li w WK so sp CT SC TA) ++ [(qo, .inl (cJ, 1, .inr (.inl O)))])) H := hP
    have hD : va_D (lA s) ((wM r cI cZ cJ 1 k V C A T B P OR n PR ST li w WK so sp CT FW) ++ ((wX q cI cZ cJ k V C T B P A n PR ST li w WK so sp CT SC TA) ++ [(qo, .inl (cJ, 1, .inr (.inl O)))])) := hD
    refine lv_iload hx hb dL_law_777 (lv_at hl 1 rfl) ?_
    refine lv_icmp_eq (tgt := 784) hx hb dL_law_779 (by decide) (fun _ => ?_) (fun h => absurd rfl h)
    refine lv_iload hx hb dL_law_784 (lv_at hl 1 rfl) ?_
    refine n_if_ne (tgt := 801) hx hb (by decide) dL_law_786 (by decide) (fun c786 => ?_) (fun c786 => ?_)
    · refine lv_goto (tgt := 1433) hx hb dL_law_801 (by decide) ?_
      refine W.widen (k := 27 + 8 * (jj + 1)) (n := 20244 + 64 * (jj + 1)) (by omega) (by omega) ?_
      exact hN 1 k V C T B P A OR n PR ST li w WK so sp CT SC TA FW O _ _ hI hP hD hS ls (lv_sub hl [2, 3, 4, 5, 6] rfl)
    · exact absurd c786 (by decide)

set_option maxHeartbeats 8000000 in
set_option maxRecDepth 100000 in
theorem lw_cancel (hst : l.stackTraces = false) (hc : Lc p s m meth c b L xs D cI cZ cJ) {r q : Nat → Nat} {qo jj : Nat} (hj : 4 * jj + 4 ≤ L) {th : Nat} {k : Nat} {V : Nat → Nat} {C : Nat → Nat} {T : Nat → Nat} {B : Nat → Nat} {P : Nat → Nat} {A : Nat → Nat} {OR : Nat → Nat} {n : Nat} {PR : Nat → Nat} {ST : Nat → Nat} {li : Nat} {w : Nat} {WK : Nat → Nat} {so : Nat} {sp : Nat} {CT : Nat → Int64} {SC : Nat → Int} {TA : Nat → Nat} {FW : Nat → Nat} {O : Nat → Int64} {H : Heap} {locs : List Loc} (hI : IV k V C T A OR n PR ST li w WK so sp) (hP : va_P D vwCl (wL r q qo cI cZ cJ th k V C T B P A OR n PR ST li w WK so sp CT SC TA FW O) H) (hD : va_D (lA s) (wL r q qo cI cZ cJ th k V C T B P A OR n PR ST li w WK so sp CT SC TA FW O)) (hS : va_S (lA s) s.heap H locs) {ls : Array Slot} (hl : lv_has ls 9 [(4, .int (nI (4 * jj))), (3, .ref qo), (2, .ref (r 0)), (1, .ref (q 0)), (0, .ref b)]) (hN : Nx p l e s m below meth c b D r q qo cI cZ cJ Q jj) : W p l e room_1 s m #[Value.ref b] below meth c H locs (27 + 8 * jj) (20244 + 64 * jj) Q (F0 m 804 ls []) := by
  obtain ⟨hx, hb, hr, hml, hown, hts, hX, hbl, hlocks, hK, hZ, hg, hn, hL⟩ := hc
  have hA : ∀ q9 : Nat, s.heap.size ≤ q9 → lA s q9 := fun _ h => h
  have hbA : ¬ lA s b := Nat.not_le.mpr hbl
  have hP : va_P D vwCl ((wM r cI cZ cJ th k V C A T B P OR n PR ST li w WK so sp CT FW) ++ ((wX q cI cZ cJ k V C T B P A n PR ST li w WK so sp CT SC TA) ++ [(qo, .inl (cJ, 1, .inr (.inl O)))])) H := hP
  have hD : va_D (lA s) ((wM r cI cZ cJ th k V C A T B P OR n PR ST li w WK so sp CT FW) ++ ((wX q cI cZ cJ k V C T B P A n PR ST li w WK so sp CT SC TA) ++ [(qo, .inl (cJ, 1, .inr (.inl O)))])) := hD
  refine lv_aload_n hx hb dL_law_804 rfl (lv_at hl 3 rfl) ?_
  refine k3_i (mc := 0) (ms := 0) (wa := (wM r cI cZ cJ th k V C A T B P OR n PR ST li w WK so sp CT FW)) (wc := (wX q cI cZ cJ k V C T B P A n PR ST li w WK so sp CT SC TA)) (wb := [(qo, .inl (cJ, 1, .inr (.inl O)))]) (va_runV (As := []) (rest := []) ⟨hx, hb, hml, hown, hts⟩ (c_X0_cancel l hst D q cI cZ cJ k V C T B P A n PR ST li w WK so sp CT SC TA H.size hI.hw12 hI.hk8 hI.hWK hI.hV) (cwV 0 hts gL_law_X0_cancel rfl rfl rfl hd_X0_cancel ⟨(Nat.le_of_ble_eq_true rfl), (Nat.le_of_ble_eq_true rfl)⟩) (pre_V3 (wa := (wM r cI cZ cJ th k V C A T B P OR n PR ST li w WK so sp CT FW)) (wc := (wX q cI cZ cJ k V C T B P A n PR ST li w WK so sp CT SC TA)) (wb := [(qo, .inl (cJ, 1, .inr (.inl O)))]) hP hK hD hS hA hZ hg 0 (ci := 0) rfl rfl) rfl rfl hl.1 rfl (lv_room (Nat.le_of_ble_eq_true rfl)) dL_law_805 ⟨(show (27 + 8 * jj) + 0 ≤ 601024 by omega), (show (20244 + 64 * jj) + 0 ≤ 7293034 by omega)⟩) hP hD hS hA (fun rr u H locs hp hP hD hS => ?_)
  replace hp : rr = nI (cr V WK w) := hp
  subst hp
  have hP : va_P D vwCl ((wM r cI cZ cJ th k V C A T B P OR n PR ST li w WK so sp CT FW) ++ ((wX q cI cZ cJ k V C T B P A n PR ST li 0 WK so sp (vp_updL CT 1 (CT 1 + lZ ((cr V WK w : Nat) : Int))) SC TA) ++ [(qo, .inl (cJ, 1, .inr (.inl O)))])) H := hP
  have hD : va_D (lA s) ((wM r cI cZ cJ th k V C A T B P OR n PR ST li w WK so sp CT FW) ++ ((wX q cI cZ cJ k V C T B P A n PR ST li 0 WK so sp (vp_updL CT 1 (CT 1 + lZ ((cr V WK w : Nat) : Int))) SC TA) ++ [(qo, .inl (cJ, 1, .inr (.inl O)))])) := hD
  refine lv_aload_n hx hb dL_law_808 rfl (lv_at hl 2 rfl) ?_
  refine k3_i (mc := 0) (ms := 0) (wa := []) (wc := (wM r cI cZ cJ th k V C A T B P OR n PR ST li w WK so sp CT FW)) (wb := ((wX q cI cZ cJ k V C T B P A n PR ST li 0 WK so sp (vp_updL CT 1 (CT 1 + lZ ((cr V WK w : Nat) : Int))) SC TA) ++ [(qo, .inl (cJ, 1, .inr (.inl O)))])) (va_runV (As := []) (rest := [.int (nI (cr V WK w))]) ⟨hx, hb, hml, hown, hts⟩ (c_X1_cancel l hst D r cI cZ cJ th k V C A T B P OR n PR ST li w WK so sp CT FW H.size  hI.hk8 hI.hw12 hI.hWK hI.hV) (cwV 0 hts gL_law_X1_cancel rfl rfl rfl hd_X1_cancel ⟨(Nat.le_of_ble_eq_true rfl), (Nat.le_of_ble_eq_true rfl)⟩) (pre_V3 (wa := []) (wc := (wM r cI cZ cJ th k V C A T B P OR n PR ST li w WK so sp CT FW)) (wb := ((wX q cI cZ cJ k V C T B P A n PR ST li 0 WK so sp (vp_updL CT 1 (CT 1 + lZ ((cr V WK w : Nat) : Int))) SC TA) ++ [(qo, .inl (cJ, 1, .inr (.inl O)))])) hP hK hD hS hA hZ hg 0 (ci := 1) rfl rfl) rfl rfl hl.1 rfl (lv_room (Nat.le_of_ble_eq_true rfl)) dL_law_809 ⟨(show ((27 + 8 * jj) + 0) + 0 ≤ 601024 by omega), (show ((20244 + 64 * jj) + 0) + 0 ≤ 7293034 by omega)⟩) hP hD hS hA (fun rr u2 H locs hq hP hD hS => ?_)
  replace hq : rr = nI (cr V WK w) := hq
  subst hq
  have hP : va_P D vwCl ((wM r cI cZ cJ 0 k V C A T B P OR n PR ST li 0 WK so sp (vp_updL CT 1 (CT 1 + lZ ((cr V WK w : Nat) : Int))) FW) ++ ((wX q cI cZ cJ k V C T B P A n PR ST li 0 WK so sp (vp_updL CT 1 (CT 1 + lZ ((cr V WK w : Nat) : Int))) SC TA) ++ [(qo, .inl (cJ, 1, .inr (.inl O)))])) H := hP
  have hD : va_D (lA s) ((wM r cI cZ cJ 0 k V C A T B P OR n PR ST li 0 WK so sp (vp_updL CT 1 (CT 1 + lZ ((cr V WK w : Nat) : Int))) FW) ++ ((wX q cI cZ cJ k V C T B P A n PR ST li 0 WK so sp (vp_updL CT 1 (CT 1 + lZ ((cr V WK w : Nat) : Int))) SC TA) ++ [(qo, .inl (cJ, 1, .inr (.inl O)))])) := hD
  have hI2 := iv_cancel hI
  refine lv_icmp_eq (tgt := 1433) hx hb dL_law_812 (by decide) (fun _ => ?_) (fun h => absurd rfl h)
  refine W.widen (k := 27 + 8 * (jj + 1)) (n := 20244 + 64 * (jj + 1)) (by omega) (by omega) ?_
  exact hN 0 k V C T B P A OR n PR ST li 0 WK so sp (vp_updL CT 1 (CT 1 + lZ ((cr V WK w : Nat) : Int))) SC TA FW O _ _ hI2 hP hD hS ls (lv_sub hl [0, 1, 2, 3, 4] rfl)

set_option maxHeartbeats 8000000 in
set_option maxRecDepth 100000 in
theorem lw_buy (hst : l.stackTraces = false) (hc : Lc p s m meth c b L xs D cI cZ cJ) {r q : Nat → Nat} {qo jj : Nat} (hj : 4 * jj + 4 ≤ L) {th : Nat} {k : Nat} {V : Nat → Nat} {C : Nat → Nat} {T : Nat → Nat} {B : Nat → Nat} {P : Nat → Nat} {A : Nat → Nat} {OR : Nat → Nat} {n : Nat} {PR : Nat → Nat} {ST : Nat → Nat} {li : Nat} {w : Nat} {WK : Nat → Nat} {so : Nat} {sp : Nat} {CT : Nat → Int64} {SC : Nat → Int} {TA : Nat → Nat} {FW : Nat → Nat} {O : Nat → Int64} {H : Heap} {locs : List Loc} (hI : IV k V C T A OR n PR ST li w WK so sp) (hP : va_P D vwCl (wL r q qo cI cZ cJ th k V C T B P A OR n PR ST li w WK so sp CT SC TA FW O) H) (hD : va_D (lA s) (wL r q qo cI cZ cJ th k V C T B P A OR n PR ST li w WK so sp CT SC TA FW O)) (hS : va_S (lA s) s.heap H locs) {ls : Array Slot} (hl : lv_has ls 9 [(4, .int (nI (4 * jj))), (3, .ref qo), (2, .ref (r 0)), (1, .ref (q 0)), (0, .ref b)]) (hN : Nx p l e s m below meth c b D r q qo cI cZ cJ Q jj) : W p l e room_1 s m #[Value.ref b] below meth c H locs (27 + 8 * jj) (20244 + 64 * jj) Q (F0 m 817 ls []) := by
  obtain ⟨hx, hb, hr, hml, hown, hts, hX, hbl, hlocks, hK, hZ, hg, hn, hL⟩ := hc
  have hA : ∀ q9 : Nat, s.heap.size ≤ q9 → lA s q9 := fun _ h => h
  have hbA : ¬ lA s b := Nat.not_le.mpr hbl
  have hP : va_P D vwCl ((wM r cI cZ cJ th k V C A T B P OR n PR ST li w WK so sp CT FW) ++ ((wX q cI cZ cJ k V C T B P A n PR ST li w WK so sp CT SC TA) ++ [(qo, .inl (cJ, 1, .inr (.inl O)))])) H := hP
  have hD : va_D (lA s) ((wM r cI cZ cJ th k V C A T B P OR n PR ST li w WK so sp CT FW) ++ ((wX q cI cZ cJ k V C T B P A n PR ST li w WK so sp CT SC TA) ++ [(qo, .inl (cJ, 1, .inr (.inl O)))])) := hD
  refine lv_aload_n hx hb dL_law_817 rfl (lv_at hl 3 rfl) ?_
  refine lv_aload_n hx hb dL_law_818 rfl (lv_at hl 4 rfl) ?_
  refine lv_iload hx hb dL_law_819 (lv_at hl 0 rfl) ?_
  refine lv_iconst (v := nI 1) hx hb dL_law_821 (ic_1) ?_
  refine n_iadd hx hb dL_law_822 ?_
  refine n_sld hx hb hX hbl hbA hS (by omega) (by omega) dL_law_823 ?_
  refine lv_aload_n hx hb dL_law_824 rfl (lv_at hl 1 rfl) ?_
  refine k3_i (mc := 1) (ms := 6) (wa := (wM r cI cZ cJ th k V C A T B P OR n PR ST li w WK so sp CT FW)) (wc := ((wX q cI cZ cJ k V C T B P A n PR ST li w WK so sp CT SC TA) ++ [(qo, .inl (cJ, 1, .inr (.inl O)))])) (wb := []) (vx_runSW (As := [.ref (q 0), .int (xs ((4 * jj) + 1)), .ref qo]) (rest := []) ⟨hx, hb, hml, hown, hts⟩ (c_L_buy l hst D q qo cI cZ cJ k V C T B P A n PR ST li w WK so sp CT SC TA O H.size (xs ((4 * jj) + 1)) hI.hk8 hI.hV hI.hC hI.hVd hI.hn10 hI.hPR hI.hw12 hI.hWK hI.hcr) (vx_cwSW 3 hts gL_law_L_buy rfl rfl rfl hd_L_buy.2 ⟨(Nat.le_of_ble_eq_true rfl), (Nat.le_of_ble_eq_true rfl)⟩) (pre_N (wa := (wM r cI cZ cJ th k V C A T B P OR n PR ST li w WK so sp CT FW)) (wc := ((wX q cI cZ cJ k V C T B P A n PR ST li w WK so sp CT SC TA) ++ [(qo, .inl (cJ, 1, .inr (.inl O)))])) (wb := []) hP hK hD hS hA hZ hg hn) rfl rfl hl.1 rfl (lv_room (Nat.le_of_ble_eq_true rfl)) dL_law_825 ⟨(show (27 + 8 * jj) + 1 ≤ 601024 by omega), (show (20244 + 64 * jj) + 6 ≤ 7293034 by omega)⟩) hP hD hS hA (fun rr u H locs hp hP hD hS => ?_)
  rcases u with u | kk
  · replace hp : rr = nI 0 ∧ (u.1 < n ∧ (xs ((4 * jj) + 1)) = nI u.1 ∧ buyP k V C T B P PR ST w WK so sp CT u.1 u.2.1 u.2.2.1 u.2.2.2.1 u.2.2.2.2.1 u.2.2.2.2.2.1 u.2.2.2.2.2.2.1 u.2.2.2.2.2.2.2.1 u.2.2.2.2.2.2.2.2.1 u.2.2.2.2.2.2.2.2.2.1) := hp
    obtain ⟨rfl, hp⟩ := hp
    have hP : va_P D vwCl ((wM r cI cZ cJ th k V C A T B P OR n PR ST li w WK so sp CT FW) ++ ((wX q cI cZ cJ k V C u.2.2.1 u.2.2.2.1 u.2.2.2.2.1 A n PR u.2.2.2.2.2.2.1 li u.2.2.2.2.2.1 WK u.2.2.2.2.2.2.2.1 u.2.2.2.2.2.2.2.2.1 u.2.2.2.2.2.2.2.2.2.1 u.2.2.2.2.2.2.2.2.2.2.1 u.2.2.2.2.2.2.2.2.2.2.2) ++ [(qo, .inl (cJ, 1, .inr (.inl (vp_updL O 0 ((nI u.2.1).toInt64)))))])) H := hP
    have hD : va_D (lA s) ((wM r cI cZ cJ th k V C A T B P OR n PR ST li w WK so sp CT FW) ++ ((wX q cI cZ cJ k V C u.2.2.1 u.2.2.2.1 u.2.2.2.2.1 A n PR u.2.2.2.2.2.2.1 li u.2.2.2.2.2.1 WK u.2.2.2.2.2.2.2.1 u.2.2.2.2.2.2.2.2.1 u.2.2.2.2.2.2.2.2.2.1 u.2.2.2.2.2.2.2.2.2.2.1 u.2.2.2.2.2.2.2.2.2.2.2) ++ [(qo, .inl (cJ, 1, .inr (.inl (vp_updL O 0 ((nI u.2.1).toInt64)))))])) := hD
    refine lv_istore (lv' := [(5, .int (nI 0)), (4, .int (nI (4 * jj))), (3, .ref qo), (2, .ref (r 0)), (1, .ref (q 0)), (0, .ref b)]) hx hb dL_law_828 hl (by decide) rfl (fun ls hl => ?_)
    refine lv_aload_n hx hb dL_law_830 rfl (lv_at hl 3 rfl) ?_
    refine lv_aload_n hx hb dL_law_831 rfl (lv_at hl 5 rfl) ?_
    refine lv_iload hx hb dL_law_832 (lv_at hl 1 rfl) ?_
    refine lv_iconst (v := nI 1) hx hb dL_law_834 (ic_1) ?_
    refine n_iadd hx hb dL_law_835 ?_
    refine n_sld hx hb hX hbl hbA hS (by omega) (by omega) dL_law_836 ?_
    refine k3_i (mc := 2) (ms := 16) (wa := []) (wc := (wM r cI cZ cJ th k V C A T B P OR n PR ST li w WK so sp CT FW)) (wb := ((wX q cI cZ cJ k V C u.2.2.1 u.2.2.2.1 u.2.2.2.2.1 A n PR u.2.2.2.2.2.2.1 li u.2.2.2.2.2.1 WK u.2.2.2.2.2.2.2.1 u.2.2.2.2.2.2.2.2.1 u.2.2.2.2.2.2.2.2.2.1 u.2.2.2.2.2.2.2.2.2.2.1 u.2.2.2.2.2.2.2.2.2.2.2) ++ [(qo, .inl (cJ, 1, .inr (.inl (vp_updL O 0 ((nI u.2.1).toInt64)))))])) (va_runV (As := [.int (xs ((4 * jj) + 1))]) (rest := []) ⟨hx, hb, hml, hown, hts⟩ (c_X1_buy l hst D r cI cZ cJ th k V C A T B P OR n PR ST li w WK so sp CT FW H.size (xs ((4 * jj) + 1)) hI.hk8 hI.hV hI.hC hI.hOR hI.hn10 hI.hPR hI.hw12 hI.hWK hI.hcr) (cwV 1 hts gL_law_X1_buy rfl rfl rfl hd_X1_buy ⟨(Nat.le_of_ble_eq_true rfl), (Nat.le_of_ble_eq_true rfl)⟩) (pre_V3 (wa := []) (wc := (wM r cI cZ cJ th k V C A T B P OR n PR ST li w WK so sp CT FW)) (wb := ((wX q cI cZ cJ k V C u.2.2.1 u.2.2.2.1 u.2.2.2.2.1 A n PR u.2.2.2.2.2.2.1 li u.2.2.2.2.2.1 WK u.2.2.2.2.2.2.2.1 u.2.2.2.2.2.2.2.2.1 u.2.2.2.2.2.2.2.2.2.1 u.2.2.2.2.2.2.2.2.2.2.1 u.2.2.2.2.2.2.2.2.2.2.2) ++ [(qo, .inl (cJ, 1, .inr (.inl (vp_updL O 0 ((nI u.2.1).toInt64)))))])) hP hK hD hS hA hZ hg 0 (ci := 1) rfl rfl) rfl rfl hl.1 rfl (lv_room (Nat.le_of_ble_eq_true rfl)) dL_law_837 ⟨(show ((27 + 8 * jj) + 1) + 2 ≤ 601024 by omega), (show ((20244 + 64 * jj) + 6) + 16 ≤ 7293034 by omega)⟩) hP hD hS hA (fun rr u2 H locs hq hP hD hS => ?_)
    obtain ⟨v0, v1, v2, v3, v4, v5, v6, v7, v8, v9, v10⟩ := u2
    replace hq : rr = nI v0 ∧ ((v1 = 1 ∧ ¬ rg (xs ((4 * jj) + 1)) 0 n ∧ v2 = T ∧ v3 = B ∧ v4 = P ∧ v5 = w ∧ v6 = ST ∧ v7 = so ∧ v8 = sp ∧ v9 = CT) ∨ (v1 = 0 ∧ ∃ j, j < n ∧ (xs ((4 * jj) + 1)) = nI j ∧ buyP k V C T B P PR ST w WK so sp CT j v0 v2 v3 v4 v5 v6 v7 v8 v9)) := hq
    obtain ⟨hr9, hq⟩ := hq
    replace hr9 := hr9.symm
    subst hr9
    have hP : va_P D vwCl ((wM r cI cZ cJ v1 k V C A v2 v3 v4 OR n PR v6 li v5 WK v7 v8 v9 v10) ++ ((wX q cI cZ cJ k V C u.2.2.1 u.2.2.2.1 u.2.2.2.2.1 A n PR u.2.2.2.2.2.2.1 li u.2.2.2.2.2.1 WK u.2.2.2.2.2.2.2.1 u.2.2.2.2.2.2.2.2.1 u.2.2.2.2.2.2.2.2.2.1 u.2.2.2.2.2.2.2.2.2.2.1 u.2.2.2.2.2.2.2.2.2.2.2) ++ [(qo, .inl (cJ, 1, .inr (.inl (vp_updL O 0 ((nI u.2.1).toInt64)))))])) H := hP
    have hD : va_D (lA s) ((wM r cI cZ cJ v1 k V C A v2 v3 v4 OR n PR v6 li v5 WK v7 v8 v9 v10) ++ ((wX q cI cZ cJ k V C u.2.2.1 u.2.2.2.1 u.2.2.2.2.1 A n PR u.2.2.2.2.2.2.1 li u.2.2.2.2.2.1 WK u.2.2.2.2.2.2.2.1 u.2.2.2.2.2.2.2.2.1 u.2.2.2.2.2.2.2.2.2.1 u.2.2.2.2.2.2.2.2.2.2.1 u.2.2.2.2.2.2.2.2.2.2.2) ++ [(qo, .inl (cJ, 1, .inr (.inl (vp_updL O 0 ((nI u.2.1).toInt64)))))])) := hD
    obtain ⟨e0, e1, f0, f1, f2, f3, f4, f5, f6, f7⟩ := q_buy_0 hI.hn10 hp hq
    have e0 := e0.symm
    subst e0
    have e1 := e1.symm
    subst e1
    have f0 := f0.symm
    subst f0
    have f1 := f1.symm
    subst f1
    have f2 := f2.symm
    subst f2
    have f3 := f3.symm
    subst f3
    have f4 := f4.symm
    subst f4
    have f5 := f5.symm
    subst f5
    have f6 := f6.symm
    subst f6
    have f7 := f7.symm
    subst f7
    have hI2 := iv_buy hI hp.1 hp.2.2
    refine lv_istore (lv' := [(6, .int (nI u.2.1)), (5, .int (nI 0)), (4, .int (nI (4 * jj))), (3, .ref qo), (2, .ref (r 0)), (1, .ref (q 0)), (0, .ref b)]) hx hb dL_law_840 hl (by decide) rfl (fun ls hl => ?_)
    refine lv_aload_n hx hb dL_law_842 rfl (lv_at hl 4 rfl) ?_
    refine k3_i (mc := 0) (ms := 0) (wa := []) (wc := (wM r cI cZ cJ 0 k V C A u.2.2.1 u.2.2.2.1 u.2.2.2.2.1 OR n PR u.2.2.2.2.2.2.1 li u.2.2.2.2.2.1 WK u.2.2.2.2.2.2.2.1 u.2.2.2.2.2.2.2.2.1 u.2.2.2.2.2.2.2.2.2.1 v10)) (wb := ((wX q cI cZ cJ k V C u.2.2.1 u.2.2.2.1 u.2.2.2.2.1 A n PR u.2.2.2.2.2.2.1 li u.2.2.2.2.2.1 WK u.2.2.2.2.2.2.2.1 u.2.2.2.2.2.2.2.2.1 u.2.2.2.2.2.2.2.2.2.1 u.2.2.2.2.2.2.2.2.2.2.1 u.2.2.2.2.2.2.2.2.2.2.2) ++ [(qo, .inl (cJ, 1, .inr (.inl (vp_updL O 0 ((nI u.2.1).toInt64)))))])) (va_runV (As := []) (rest := []) ⟨hx, hb, hml, hown, hts⟩ (c_X1_thrown l hst D r cI cZ cJ 0 k V C A u.2.2.1 u.2.2.2.1 u.2.2.2.2.1 OR n PR u.2.2.2.2.2.2.1 li u.2.2.2.2.2.1 WK u.2.2.2.2.2.2.2.1 u.2.2.2.2.2.2.2.2.1 u.2.2.2.2.2.2.2.2.2.1 v10 H.size  ) (cwV 0 hts gL_law_X1_thrown rfl rfl rfl hd_X1_thrown ⟨(Nat.le_of_ble_eq_true rfl), (Nat.le_of_ble_eq_true rfl)⟩) (pre_V3 (wa := []) (wc := (wM r cI cZ cJ 0 k V C A u.2.2.1 u.2.2.2.1 u.2.2.2.2.1 OR n PR u.2.2.2.2.2.2.1 li u.2.2.2.2.2.1 WK u.2.2.2.2.2.2.2.1 u.2.2.2.2.2.2.2.2.1 u.2.2.2.2.2.2.2.2.2.1 v10)) (wb := ((wX q cI cZ cJ k V C u.2.2.1 u.2.2.2.1 u.2.2.2.2.1 A n PR u.2.2.2.2.2.2.1 li u.2.2.2.2.2.1 WK u.2.2.2.2.2.2.2.1 u.2.2.2.2.2.2.2.2.1 u.2.2.2.2.2.2.2.2.2.1 u.2.2.2.2.2.2.2.2.2.2.1 u.2.2.2.2.2.2.2.2.2.2.2) ++ [(qo, .inl (cJ, 1, .inr (.inl (vp_updL O 0 ((nI u.2.1).toInt64)))))])) hP hK hD hS hA hZ hg 0 (ci := 1) rfl rfl) rfl rfl hl.1 rfl (lv_room (Nat.le_of_ble_eq_true rfl)) dL_law_843 ⟨(show (((27 + 8 * jj) + 1) + 2) + 0 ≤ 601024 by omega), (show (((20244 + 64 * jj) + 6) + 16) + 0 ≤ 7293034 by omega)⟩) hP hD hS hA (fun rr u2 H locs hq hP hD hS => ?_)
    replace hq : rr = nI 0 := hq
    subst hq
    have hP : va_P D vwCl ((wM r cI cZ cJ 0 k V C A u.2.2.1 u.2.2.2.1 u.2.2.2.2.1 OR n PR u.2.2.2.2.2.2.1 li u.2.2.2.2.2.1 WK u.2.2.2.2.2.2.2.1 u.2.2.2.2.2.2.2.2.1 u.2.2.2.2.2.2.2.2.2.1 v10) ++ ((wX q cI cZ cJ k V C u.2.2.1 u.2.2.2.1 u.2.2.2.2.1 A n PR u.2.2.2.2.2.2.1 li u.2.2.2.2.2.1 WK u.2.2.2.2.2.2.2.1 u.2.2.2.2.2.2.2.2.1 u.2.2.2.2.2.2.2.2.2.1 u.2.2.2.2.2.2.2.2.2.2.1 u.2.2.2.2.2.2.2.2.2.2.2) ++ [(qo, .inl (cJ, 1, .inr (.inl (vp_updL O 0 ((nI u.2.1).toInt64)))))])) H := hP
    have hD : va_D (lA s) ((wM r cI cZ cJ 0 k V C A u.2.2.1 u.2.2.2.1 u.2.2.2.2.1 OR n PR u.2.2.2.2.2.2.1 li u.2.2.2.2.2.1 WK u.2.2.2.2.2.2.2.1 u.2.2.2.2.2.2.2.2.1 u.2.2.2.2.2.2.2.2.2.1 v10) ++ ((wX q cI cZ cJ k V C u.2.2.1 u.2.2.2.1 u.2.2.2.2.1 A n PR u.2.2.2.2.2.2.1 li u.2.2.2.2.2.1 WK u.2.2.2.2.2.2.2.1 u.2.2.2.2.2.2.2.2.1 u.2.2.2.2.2.2.2.2.2.1 u.2.2.2.2.2.2.2.2.2.2.1 u.2.2.2.2.2.2.2.2.2.2.2) ++ [(qo, .inl (cJ, 1, .inr (.inl (vp_updL O 0 ((nI u.2.1).toInt64)))))])) := hD
    refine lv_iload hx hb dL_law_846 (lv_at hl 1 rfl) ?_
    refine lv_icmp_eq (tgt := 853) hx hb dL_law_848 (by decide) (fun _ => ?_) (fun h => absurd rfl h)
    refine lv_iload hx hb dL_law_853 (lv_at hl 1 rfl) ?_
    refine n_if_ne (tgt := 870) hx hb (by decide) dL_law_855 (by decide) (fun c855 => ?_) (fun c855 => ?_)
    · exact absurd c855 (by decide)
    · refine lv_aload_n hx hb dL_law_858 rfl (lv_at hl 3 rfl) ?_
      refine lv_iconst (v := nI 0) hx hb dL_law_859 (ic_0) ?_
      refine n_lald hx hb hK hP 26 2 rfl rfl (by decide) (by decide) dL_law_860 ?_
      refine n_topl (show (vp_updL O 0 ((nI u.2.1).toInt64)) 0 = (nI u.2.1).toInt64 from updL_s) ?_
      refine lv_iload hx hb dL_law_861 (lv_at hl 0 rfl) ?_
      refine lv_i2l hx hb dL_law_863 rfl ?_
      refine n_lcmp_eq (tgt := 870) hx hb dL_law_864 dL_law_865 (by decide) (fun _ => ?_) (fun h => absurd rfl h)
      refine lv_goto (tgt := 1433) hx hb dL_law_870 (by decide) ?_
      refine W.widen (k := 27 + 8 * (jj + 1)) (n := 20244 + 64 * (jj + 1)) (by omega) (by omega) ?_
      exact hN 0 k V C u.2.2.1 u.2.2.2.1 u.2.2.2.2.1 A OR n PR u.2.2.2.2.2.2.1 li u.2.2.2.2.2.1 WK u.2.2.2.2.2.2.2.1 u.2.2.2.2.2.2.2.2.1 u.2.2.2.2.2.2.2.2.2.1 u.2.2.2.2.2.2.2.2.2.2.1 u.2.2.2.2.2.2.2.2.2.2.2 v10 (vp_updL O 0 ((nI u.2.1).toInt64)) _ _ hI2 hP hD hS ls (lv_sub hl [2, 3, 4, 5, 6] rfl)
  · replace hp : rr = nI kk ∧ ((kk = 1 ∧ (¬ rg (xs ((4 * jj) + 1)) 0 n))) := hp
    obtain ⟨rfl, hp⟩ := hp
    have hP : va_P D vwCl ((wM r cI cZ cJ th k V C A T B P OR n PR ST li w WK so sp CT FW) ++ ((wX q cI cZ cJ k V C T B P A n PR ST li w WK so sp CT SC TA) ++ [(qo, .inl (cJ, 1, .inr (.inl O)))])) H := hP
    have hD : va_D (lA s) ((wM r cI cZ cJ th k V C A T B P OR n PR ST li w WK so sp CT FW) ++ ((wX q cI cZ cJ k V C T B P A n PR ST li w WK so sp CT SC TA) ++ [(qo, .inl (cJ, 1, .inr (.inl O)))])) := hD
    obtain ⟨rfl, hp⟩ := hp
    refine lv_istore (lv' := [(5, .int (nI 1)), (4, .int (nI (4 * jj))), (3, .ref qo), (2, .ref (r 0)), (1, .ref (q 0)), (0, .ref b)]) hx hb dL_law_828 hl (by decide) rfl (fun ls hl => ?_)
    refine lv_aload_n hx hb dL_law_830 rfl (lv_at hl 3 rfl) ?_
    refine lv_aload_n hx hb dL_law_831 rfl (lv_at hl 5 rfl) ?_
    refine lv_iload hx hb dL_law_832 (lv_at hl 1 rfl) ?_
    refine lv_iconst (v := nI 1) hx hb dL_law_834 (ic_1) ?_
    refine n_iadd hx hb dL_law_835 ?_
    refine n_sld hx hb hX hbl hbA hS (by omega) (by omega) dL_law_836 ?_
    refine k3_i (mc := 2) (ms := 16) (wa := []) (wc := (wM r cI cZ cJ th k V C A T B P OR n PR ST li w WK so sp CT FW)) (wb := ((wX q cI cZ cJ k V C T B P A n PR ST li w WK so sp CT SC TA) ++ [(qo, .inl (cJ, 1, .inr (.inl O)))])) (va_runV (As := [.int (xs ((4 * jj) + 1))]) (rest := []) ⟨hx, hb, hml, hown, hts⟩ (c_X1_buy l hst D r cI cZ cJ th k V C A T B P OR n PR ST li w WK so sp CT FW H.size (xs ((4 * jj) + 1)) hI.hk8 hI.hV hI.hC hI.hOR hI.hn10 hI.hPR hI.hw12 hI.hWK hI.hcr) (cwV 1 hts gL_law_X1_buy rfl rfl rfl hd_X1_buy ⟨(Nat.le_of_ble_eq_true rfl), (Nat.le_of_ble_eq_true rfl)⟩) (pre_V3 (wa := []) (wc := (wM r cI cZ cJ th k V C A T B P OR n PR ST li w WK so sp CT FW)) (wb := ((wX q cI cZ cJ k V C T B P A n PR ST li w WK so sp CT SC TA) ++ [(qo, .inl (cJ, 1, .inr (.inl O)))])) hP hK hD hS hA hZ hg 0 (ci := 1) rfl rfl) rfl rfl hl.1 rfl (lv_room (Nat.le_of_ble_eq_true rfl)) dL_law_837 ⟨(show ((27 + 8 * jj) + 1) + 2 ≤ 601024 by omega), (show ((20244 + 64 * jj) + 6) + 16 ≤ 7293034 by omega)⟩) hP hD hS hA (fun rr u2 H locs hq hP hD hS => ?_)
    obtain ⟨v0, v1, v2, v3, v4, v5, v6, v7, v8, v9, v10⟩ := u2
    replace hq : rr = nI v0 ∧ ((v1 = 1 ∧ ¬ rg (xs ((4 * jj) + 1)) 0 n ∧ v2 = T ∧ v3 = B ∧ v4 = P ∧ v5 = w ∧ v6 = ST ∧ v7 = so ∧ v8 = sp ∧ v9 = CT) ∨ (v1 = 0 ∧ ∃ j, j < n ∧ (xs ((4 * jj) + 1)) = nI j ∧ buyP k V C T B P PR ST w WK so sp CT j v0 v2 v3 v4 v5 v6 v7 v8 v9)) := hq
    obtain ⟨hr9, hq⟩ := hq
    replace hr9 := hr9.symm
    subst hr9
    have hP : va_P D vwCl ((wM r cI cZ cJ v1 k V C A v2 v3 v4 OR n PR v6 li v5 WK v7 v8 v9 v10) ++ ((wX q cI cZ cJ k V C T B P A n PR ST li w WK so sp CT SC TA) ++ [(qo, .inl (cJ, 1, .inr (.inl O)))])) H := hP
    have hD : va_D (lA s) ((wM r cI cZ cJ v1 k V C A v2 v3 v4 OR n PR v6 li v5 WK v7 v8 v9 v10) ++ ((wX q cI cZ cJ k V C T B P A n PR ST li w WK so sp CT SC TA) ++ [(qo, .inl (cJ, 1, .inr (.inl O)))])) := hD
    obtain ⟨e0, f0, f1, f2, f3, f4, f5, f6, f7⟩ := q_buy_1 hI.hn10 hp hq
    have e0 := e0.symm
    subst e0
    have f0 := f0.symm
    subst f0
    have f1 := f1.symm
    subst f1
    have f2 := f2.symm
    subst f2
    have f3 := f3.symm
    subst f3
    have f4 := f4.symm
    subst f4
    have f5 := f5.symm
    subst f5
    have f6 := f6.symm
    subst f6
    have f7 := f7.symm
    subst f7
    refine lv_istore (lv' := [(6, .int (nI v0)), (5, .int (nI 1)), (4, .int (nI (4 * jj))), (3, .ref qo), (2, .ref (r 0)), (1, .ref (q 0)), (0, .ref b)]) hx hb dL_law_840 hl (by decide) rfl (fun ls hl => ?_)
    refine lv_aload_n hx hb dL_law_842 rfl (lv_at hl 4 rfl) ?_
    refine k3_i (mc := 0) (ms := 0) (wa := []) (wc := (wM r cI cZ cJ 1 k V C A T B P OR n PR ST li w WK so sp CT v10)) (wb := ((wX q cI cZ cJ k V C T B P A n PR ST li w WK so sp CT SC TA) ++ [(qo, .inl (cJ, 1, .inr (.inl O)))])) (va_runV (As := []) (rest := []) ⟨hx, hb, hml, hown, hts⟩ (c_X1_thrown l hst D r cI cZ cJ 1 k V C A T B P OR n PR ST li w WK so sp CT v10 H.size  ) (cwV 0 hts gL_law_X1_thrown rfl rfl rfl hd_X1_thrown ⟨(Nat.le_of_ble_eq_true rfl), (Nat.le_of_ble_eq_true rfl)⟩) (pre_V3 (wa := []) (wc := (wM r cI cZ cJ 1 k V C A T B P OR n PR ST li w WK so sp CT v10)) (wb := ((wX q cI cZ cJ k V C T B P A n PR ST li w WK so sp CT SC TA) ++ [(qo, .inl (cJ, 1, .inr (.inl O)))])) hP hK hD hS hA hZ hg 0 (ci := 1) rfl rfl) rfl rfl hl.1 rfl (lv_room (Nat.le_of_ble_eq_true rfl)) dL_law_843 ⟨(show (((27 + 8 * jj) + 1) + 2) + 0 ≤ 601024 by omega), (show (((20244 + 64 * jj) + 6) + 16) + 0 ≤ 7293034 by omega)⟩) hP hD hS hA (fun rr u2 H locs hq hP hD hS => ?_)
    replace hq : rr = nI 1 := hq
    subst hq
    have hP : va_P D vwCl ((wM r cI cZ cJ 1 k V C A T B P OR n PR ST li w WK so sp CT v10) ++ ((wX q cI cZ cJ k V C T B P A n PR ST li w WK so sp CT SC TA) ++ [(qo, .inl (cJ, 1, .inr (.inl O)))])) H := hP
    have hD : va_D (lA s) ((wM r cI cZ cJ 1 k V C A T B P OR n PR ST li w WK so sp CT v10) ++ ((wX q cI cZ cJ k V C T B P A n PR ST li w WK so sp CT SC TA) ++ [(qo, .inl (cJ, 1, .inr (.inl O)))])) := hD
    refine lv_iload hx hb dL_law_846 (lv_at hl 1 rfl) ?_
    refine lv_icmp_eq (tgt := 853) hx hb dL_law_848 (by decide) (fun _ => ?_) (fun h => absurd rfl h)
    refine lv_iload hx hb dL_law_853 (lv_at hl 1 rfl) ?_
    refine n_if_ne (tgt := 870) hx hb (by decide) dL_law_855 (by decide) (fun c855 => ?_) (fun c855 => ?_)
    · refine lv_goto (tgt := 1433) hx hb dL_law_870 (by decide) ?_
      refine W.widen (k := 27 + 8 * (jj + 1)) (n := 20244 + 64 * (jj + 1)) (by omega) (by omega) ?_
      exact hN 1 k V C T B P A OR n PR ST li w WK so sp CT SC TA v10 O _ _ hI hP hD hS ls (lv_sub hl [2, 3, 4, 5, 6] rfl)
    · exact absurd c855 (by decide)

set_option maxHeartbeats 8000000 in
set_option maxRecDepth 100000 in
theorem lw_refund (hst : l.stackTraces = false) (hc : Lc p s m meth c b L xs D cI cZ cJ) {r q : Nat → Nat} {qo jj : Nat} (hj : 4 * jj + 4 ≤ L) {th : Nat} {k : Nat} {V : Nat → Nat} {C : Nat → Nat} {T : Nat → Nat} {B : Nat → Nat} {P : Nat → Nat} {A : Nat → Nat} {OR : Nat → Nat} {n : Nat} {PR : Nat → Nat} {ST : Nat → Nat} {li : Nat} {w : Nat} {WK : Nat → Nat} {so : Nat} {sp : Nat} {CT : Nat → Int64} {SC : Nat → Int} {TA : Nat → Nat} {FW : Nat → Nat} {O : Nat → Int64} {H : Heap} {locs : List Loc} (hI : IV k V C T A OR n PR ST li w WK so sp) (hP : va_P D vwCl (wL r q qo cI cZ cJ th k V C T B P A OR n PR ST li w WK so sp CT SC TA FW O) H) (hD : va_D (lA s) (wL r q qo cI cZ cJ th k V C T B P A OR n PR ST li w WK so sp CT SC TA FW O)) (hS : va_S (lA s) s.heap H locs) {ls : Array Slot} (hl : lv_has ls 9 [(4, .int (nI (4 * jj))), (3, .ref qo), (2, .ref (r 0)), (1, .ref (q 0)), (0, .ref b)]) (hN : Nx p l e s m below meth c b D r q qo cI cZ cJ Q jj) : W p l e room_1 s m #[Value.ref b] below meth c H locs (27 + 8 * jj) (20244 + 64 * jj) Q (F0 m 873 ls []) := by
  obtain ⟨hx, hb, hr, hml, hown, hts, hX, hbl, hlocks, hK, hZ, hg, hn, hL⟩ := hc
  have hA : ∀ q9 : Nat, s.heap.size ≤ q9 → lA s q9 := fun _ h => h
  have hbA : ¬ lA s b := Nat.not_le.mpr hbl
  have hP : va_P D vwCl ((wM r cI cZ cJ th k V C A T B P OR n PR ST li w WK so sp CT FW) ++ ((wX q cI cZ cJ k V C T B P A n PR ST li w WK so sp CT SC TA) ++ [(qo, .inl (cJ, 1, .inr (.inl O)))])) H := hP
  have hD : va_D (lA s) ((wM r cI cZ cJ th k V C A T B P OR n PR ST li w WK so sp CT FW) ++ ((wX q cI cZ cJ k V C T B P A n PR ST li w WK so sp CT SC TA) ++ [(qo, .inl (cJ, 1, .inr (.inl O)))])) := hD
  refine lv_aload_n hx hb dL_law_873 rfl (lv_at hl 3 rfl) ?_
  refine lv_aload_n hx hb dL_law_874 rfl (lv_at hl 1 rfl) ?_
  refine k3_i (mc := 1) (ms := 6) (wa := (wM r cI cZ cJ th k V C A T B P OR n PR ST li w WK so sp CT FW)) (wc := ((wX q cI cZ cJ k V C T B P A n PR ST li w WK so sp CT SC TA) ++ [(qo, .inl (cJ, 1, .inr (.inl O)))])) (wb := []) (vx_runSW (As := [.ref (q 0), .ref qo]) (rest := []) ⟨hx, hb, hml, hown, hts⟩ (c_L_refund l hst D q qo cI cZ cJ k V C T B P A n PR ST li w WK so sp CT SC TA O H.size  hI.hk8 hI.hV hI.hC hI.hVd hI.hn10 hI.hPR hI.hso) (vx_cwSW 2 hts gL_law_L_refund rfl rfl rfl hd_L_refund.2 ⟨(Nat.le_of_ble_eq_true rfl), (Nat.le_of_ble_eq_true rfl)⟩) (pre_N (wa := (wM r cI cZ cJ th k V C A T B P OR n PR ST li w WK so sp CT FW)) (wc := ((wX q cI cZ cJ k V C T B P A n PR ST li w WK so sp CT SC TA) ++ [(qo, .inl (cJ, 1, .inr (.inl O)))])) (wb := []) hP hK hD hS hA hZ hg hn) rfl rfl hl.1 rfl (lv_room (Nat.le_of_ble_eq_true rfl)) dL_law_875 ⟨(show (27 + 8 * jj) + 1 ≤ 601024 by omega), (show (20244 + 64 * jj) + 6 ≤ 7293034 by omega)⟩) hP hD hS hA (fun rr u H locs hp hP hD hS => ?_)
  rcases u with u | kk
  · replace hp : rr = nI 0 ∧ (so ≠ 4294967295 ∧ so < n ∧ refP k V T P ST so sp CT u.1 u.2.1 u.2.2.1 u.2.2.2.1 u.2.2.2.2.1 u.2.2.2.2.2.1) := hp
    obtain ⟨rfl, hp⟩ := hp
    have hP : va_P D vwCl ((wM r cI cZ cJ th k V C A T B P OR n PR ST li w WK so sp CT FW) ++ ((wX q cI cZ cJ k V C u.2.1 B u.2.2.1 A n PR u.2.2.2.1 li w WK u.2.2.2.2.1 sp u.2.2.2.2.2.1 u.2.2.2.2.2.2 TA) ++ [(qo, .inl (cJ, 1, .inr (.inl (vp_updL O 0 (lZ (((u.1 : Nat)) : Int))))))])) H := hP
    have hD : va_D (lA s) ((wM r cI cZ cJ th k V C A T B P OR n PR ST li w WK so sp CT FW) ++ ((wX q cI cZ cJ k V C u.2.1 B u.2.2.1 A n PR u.2.2.2.1 li w WK u.2.2.2.2.1 sp u.2.2.2.2.2.1 u.2.2.2.2.2.2 TA) ++ [(qo, .inl (cJ, 1, .inr (.inl (vp_updL O 0 (lZ (((u.1 : Nat)) : Int))))))])) := hD
    refine lv_istore (lv' := [(5, .int (nI 0)), (4, .int (nI (4 * jj))), (3, .ref qo), (2, .ref (r 0)), (1, .ref (q 0)), (0, .ref b)]) hx hb dL_law_878 hl (by decide) rfl (fun ls hl => ?_)
    refine lv_aload_n hx hb dL_law_880 rfl (lv_at hl 3 rfl) ?_
    refine k3_i (mc := 0) (ms := 0) (wa := []) (wc := (wM r cI cZ cJ th k V C A T B P OR n PR ST li w WK so sp CT FW)) (wb := ((wX q cI cZ cJ k V C u.2.1 B u.2.2.1 A n PR u.2.2.2.1 li w WK u.2.2.2.2.1 sp u.2.2.2.2.2.1 u.2.2.2.2.2.2 TA) ++ [(qo, .inl (cJ, 1, .inr (.inl (vp_updL O 0 (lZ (((u.1 : Nat)) : Int))))))])) (va_runV (As := []) (rest := []) ⟨hx, hb, hml, hown, hts⟩ (c_X1_refund l hst D r cI cZ cJ th k V C A T B P OR n PR ST li w WK so sp CT FW H.size  hI.hk8 hI.hV hI.hC hI.hOR hI.hn10 hI.hPR hI.hso) (cwV 0 hts gL_law_X1_refund rfl rfl rfl hd_X1_refund ⟨(Nat.le_of_ble_eq_true rfl), (Nat.le_of_ble_eq_true rfl)⟩) (pre_V3 (wa := []) (wc := (wM r cI cZ cJ th k V C A T B P OR n PR ST li w WK so sp CT FW)) (wb := ((wX q cI cZ cJ k V C u.2.1 B u.2.2.1 A n PR u.2.2.2.1 li w WK u.2.2.2.2.1 sp u.2.2.2.2.2.1 u.2.2.2.2.2.2 TA) ++ [(qo, .inl (cJ, 1, .inr (.inl (vp_updL O 0 (lZ (((u.1 : Nat)) : Int))))))])) hP hK hD hS hA hZ hg 0 (ci := 1) rfl rfl) rfl rfl hl.1 rfl (lv_room (Nat.le_of_ble_eq_true rfl)) dL_law_881 ⟨(show ((27 + 8 * jj) + 1) + 0 ≤ 601024 by omega), (show ((20244 + 64 * jj) + 6) + 0 ≤ 7293034 by omega)⟩) hP hD hS hA (fun rr u2 H locs hq hP hD hS => ?_)
    obtain ⟨v0, v1, v2, v3, v4, v5, v6, v7⟩ := u2
    replace hq : rr = nI v0 ∧ ((v1 = 1 ∧ so = 4294967295 ∧ v0 = 0 ∧ v2 = T ∧ v3 = P ∧ v4 = ST ∧ v5 = so ∧ v6 = CT) ∨ (v1 = 0 ∧ so ≠ 4294967295 ∧ so < n ∧ refP k V T P ST so sp CT v0 v2 v3 v4 v5 v6)) := hq
    obtain ⟨hr9, hq⟩ := hq
    replace hr9 := hr9.symm
    subst hr9
    have hP : va_P D vwCl ((wM r cI cZ cJ v1 k V C A v2 B v3 OR n PR v4 li w WK v5 sp v6 v7) ++ ((wX q cI cZ cJ k V C u.2.1 B u.2.2.1 A n PR u.2.2.2.1 li w WK u.2.2.2.2.1 sp u.2.2.2.2.2.1 u.2.2.2.2.2.2 TA) ++ [(qo, .inl (cJ, 1, .inr (.inl (vp_updL O 0 (lZ (((u.1 : Nat)) : Int))))))])) H := hP
    have hD : va_D (lA s) ((wM r cI cZ cJ v1 k V C A v2 B v3 OR n PR v4 li w WK v5 sp v6 v7) ++ ((wX q cI cZ cJ k V C u.2.1 B u.2.2.1 A n PR u.2.2.2.1 li w WK u.2.2.2.2.1 sp u.2.2.2.2.2.1 u.2.2.2.2.2.2 TA) ++ [(qo, .inl (cJ, 1, .inr (.inl (vp_updL O 0 (lZ (((u.1 : Nat)) : Int))))))])) := hD
    obtain ⟨e0, e1, f0, f1, f2, f3, f4⟩ := q_refund_0  hp hq
    have e0 := e0.symm
    subst e0
    have e1 := e1.symm
    subst e1
    have f0 := f0.symm
    subst f0
    have f1 := f1.symm
    subst f1
    have f2 := f2.symm
    subst f2
    have f3 := f3.symm
    subst f3
    have f4 := f4.symm
    subst f4
    have hI2 := iv_refund hI hp.2.1 hp.2.2
    refine lv_istore (lv' := [(6, .int (nI u.1)), (5, .int (nI 0)), (4, .int (nI (4 * jj))), (3, .ref qo), (2, .ref (r 0)), (1, .ref (q 0)), (0, .ref b)]) hx hb dL_law_884 hl (by decide) rfl (fun ls hl => ?_)
    refine lv_aload_n hx hb dL_law_886 rfl (lv_at hl 4 rfl) ?_
    refine k3_i (mc := 0) (ms := 0) (wa := []) (wc := (wM r cI cZ cJ 0 k V C A u.2.1 B u.2.2.1 OR n PR u.2.2.2.1 li w WK u.2.2.2.2.1 sp u.2.2.2.2.2.1 v7)) (wb := ((wX q cI cZ cJ k V C u.2.1 B u.2.2.1 A n PR u.2.2.2.1 li w WK u.2.2.2.2.1 sp u.2.2.2.2.2.1 u.2.2.2.2.2.2 TA) ++ [(qo, .inl (cJ, 1, .inr (.inl (vp_updL O 0 (lZ (((u.1 : Nat)) : Int))))))])) (va_runV (As := []) (rest := []) ⟨hx, hb, hml, hown, hts⟩ (c_X1_thrown l hst D r cI cZ cJ 0 k V C A u.2.1 B u.2.2.1 OR n PR u.2.2.2.1 li w WK u.2.2.2.2.1 sp u.2.2.2.2.2.1 v7 H.size  ) (cwV 0 hts gL_law_X1_thrown rfl rfl rfl hd_X1_thrown ⟨(Nat.le_of_ble_eq_true rfl), (Nat.le_of_ble_eq_true rfl)⟩) (pre_V3 (wa := []) (wc := (wM r cI cZ cJ 0 k V C A u.2.1 B u.2.2.1 OR n PR u.2.2.2.1 li w WK u.2.2.2.2.1 sp u.2.2.2.2.2.1 v7)) (wb := ((wX q cI cZ cJ k V C u.2.1 B u.2.2.1 A n PR u.2.2.2.1 li w WK u.2.2.2.2.1 sp u.2.2.2.2.2.1 u.2.2.2.2.2.2 TA) ++ [(qo, .inl (cJ, 1, .inr (.inl (vp_updL O 0 (lZ (((u.1 : Nat)) : Int))))))])) hP hK hD hS hA hZ hg 0 (ci := 1) rfl rfl) rfl rfl hl.1 rfl (lv_room (Nat.le_of_ble_eq_true rfl)) dL_law_887 ⟨(show (((27 + 8 * jj) + 1) + 0) + 0 ≤ 601024 by omega), (show (((20244 + 64 * jj) + 6) + 0) + 0 ≤ 7293034 by omega)⟩) hP hD hS hA (fun rr u2 H locs hq hP hD hS => ?_)
    replace hq : rr = nI 0 := hq
    subst hq
    have hP : va_P D vwCl ((wM r cI cZ cJ 0 k V C A u.2.1 B u.2.2.1 OR n PR u.2.2.2.1 li w WK u.2.2.2.2.1 sp u.2.2.2.2.2.1 v7) ++ ((wX q cI cZ cJ k V C u.2.1 B u.2.2.1 A n PR u.2.2.2.1 li w WK u.2.2.2.2.1 sp u.2.2.2.2.2.1 u.2.2.2.2.2.2 TA) ++ [(qo, .inl (cJ, 1, .inr (.inl (vp_updL O 0 (lZ (((u.1 : Nat)) : Int))))))])) H := hP
    have hD : va_D (lA s) ((wM r cI cZ cJ 0 k V C A u.2.1 B u.2.2.1 OR n PR u.2.2.2.1 li w WK u.2.2.2.2.1 sp u.2.2.2.2.2.1 v7) ++ ((wX q cI cZ cJ k V C u.2.1 B u.2.2.1 A n PR u.2.2.2.1 li w WK u.2.2.2.2.1 sp u.2.2.2.2.2.1 u.2.2.2.2.2.2 TA) ++ [(qo, .inl (cJ, 1, .inr (.inl (vp_updL O 0 (lZ (((u.1 : Nat)) : Int))))))])) := hD
    refine lv_iload hx hb dL_law_890 (lv_at hl 1 rfl) ?_
    refine lv_icmp_eq (tgt := 897) hx hb dL_law_892 (by decide) (fun _ => ?_) (fun h => absurd rfl h)
    refine lv_iload hx hb dL_law_897 (lv_at hl 1 rfl) ?_
    refine n_if_ne (tgt := 921) hx hb (by decide) dL_law_899 (by decide) (fun c899 => ?_) (fun c899 => ?_)
    · exact absurd c899 (by decide)
    · refine lv_aload_n hx hb dL_law_902 rfl (lv_at hl 3 rfl) ?_
      refine lv_iconst (v := nI 0) hx hb dL_law_903 (ic_0) ?_
      refine n_lald hx hb hK hP 26 2 rfl rfl (by decide) (by decide) dL_law_904 ?_
      refine n_topl (show (vp_updL O 0 (lZ (((u.1 : Nat)) : Int))) 0 = lZ (((u.1 : Nat)) : Int) from updL_s) ?_
      refine lv_iload hx hb dL_law_905 (lv_at hl 0 rfl) ?_
      have hbd : u.1 ≤ 1 := by rcases hp.2.2 with h | h <;> omega
      refine n_if_eq (tgt := 914) hx hb (by omega) dL_law_907 (by decide) (fun cq => ?_) (fun cq => ?_)
      · have cq : u.1 = 0 := by omega
        refine lv_lconst (v := lZ 0) hx hb dL_law_914 (by decide) ?_
        refine n_topl (show lZ 0 = lZ (((u.1 : Nat)) : Int) from by rw [cq]; rfl) ?_
        refine n_lcmp_eq (tgt := 921) hx hb dL_law_915 dL_law_916 (by decide) (fun _ => ?_) (fun h => absurd rfl h)
        refine lv_goto (tgt := 1433) hx hb dL_law_921 (by decide) ?_
        refine W.widen (k := 27 + 8 * (jj + 1)) (n := 20244 + 64 * (jj + 1)) (by omega) (by omega) ?_
        exact hN 0 k V C u.2.1 B u.2.2.1 A OR n PR u.2.2.2.1 li w WK u.2.2.2.2.1 sp u.2.2.2.2.2.1 u.2.2.2.2.2.2 TA v7 (vp_updL O 0 (lZ (((u.1 : Nat)) : Int))) _ _ hI2 hP hD hS ls (lv_sub hl [2, 3, 4, 5, 6] rfl)
      · have cq : u.1 = 1 := by omega
        refine lv_lconst (v := lZ 1) hx hb dL_law_910 (by decide) ?_
        refine n_topl (show lZ 1 = lZ (((u.1 : Nat)) : Int) from by rw [cq]; rfl) ?_
        refine lv_goto (tgt := 915) hx hb dL_law_911 (by decide) ?_
        refine n_lcmp_eq (tgt := 921) hx hb dL_law_915 dL_law_916 (by decide) (fun _ => ?_) (fun h => absurd rfl h)
        refine lv_goto (tgt := 1433) hx hb dL_law_921 (by decide) ?_
        refine W.widen (k := 27 + 8 * (jj + 1)) (n := 20244 + 64 * (jj + 1)) (by omega) (by omega) ?_
        exact hN 0 k V C u.2.1 B u.2.2.1 A OR n PR u.2.2.2.1 li w WK u.2.2.2.2.1 sp u.2.2.2.2.2.1 u.2.2.2.2.2.2 TA v7 (vp_updL O 0 (lZ (((u.1 : Nat)) : Int))) _ _ hI2 hP hD hS ls (lv_sub hl [2, 3, 4, 5, 6] rfl)
  · replace hp : rr = nI kk ∧ ((kk = 1 ∧ (so = 4294967295))) := hp
    obtain ⟨rfl, hp⟩ := hp
    have hP : va_P D vwCl ((wM r cI cZ cJ th k V C A T B P OR n PR ST li w WK so sp CT FW) ++ ((wX q cI cZ cJ k V C T B P A n PR ST li w WK so sp CT SC TA) ++ [(qo, .inl (cJ, 1, .inr (.inl O)))])) H := hP
    have hD : va_D (lA s) ((wM r cI cZ cJ th k V C A T B P OR n PR ST li w WK so sp CT FW) ++ ((wX q cI cZ cJ k V C T B P A n PR ST li w WK so sp CT SC TA) ++ [(qo, .inl (cJ, 1, .inr (.inl O)))])) := hD
    obtain ⟨rfl, hp⟩ := hp
    refine lv_istore (lv' := [(5, .int (nI 1)), (4, .int (nI (4 * jj))), (3, .ref qo), (2, .ref (r 0)), (1, .ref (q 0)), (0, .ref b)]) hx hb dL_law_878 hl (by decide) rfl (fun ls hl => ?_)
    refine lv_aload_n hx hb dL_law_880 rfl (lv_at hl 3 rfl) ?_
    refine k3_i (mc := 0) (ms := 0) (wa := []) (wc := (wM r cI cZ cJ th k V C A T B P OR n PR ST li w WK so sp CT FW)) (wb := ((wX q cI cZ cJ k V C T B P A n PR ST li w WK so sp CT SC TA) ++ [(qo, .inl (cJ, 1, .inr (.inl O)))])) (va_runV (As := []) (rest := []) ⟨hx, hb, hml, hown, hts⟩ (c_X1_refund l hst D r cI cZ cJ th k V C A T B P OR n PR ST li w WK so sp CT FW H.size  hI.hk8 hI.hV hI.hC hI.hOR hI.hn10 hI.hPR hI.hso) (cwV 0 hts gL_law_X1_refund rfl rfl rfl hd_X1_refund ⟨(Nat.le_of_ble_eq_true rfl), (Nat.le_of_ble_eq_true rfl)⟩) (pre_V3 (wa := []) (wc := (wM r cI cZ cJ th k V C A T B P OR n PR ST li w WK so sp CT FW)) (wb := ((wX q cI cZ cJ k V C T B P A n PR ST li w WK so sp CT SC TA) ++ [(qo, .inl (cJ, 1, .inr (.inl O)))])) hP hK hD hS hA hZ hg 0 (ci := 1) rfl rfl) rfl rfl hl.1 rfl (lv_room (Nat.le_of_ble_eq_true rfl)) dL_law_881 ⟨(show ((27 + 8 * jj) + 1) + 0 ≤ 601024 by omega), (show ((20244 + 64 * jj) + 6) + 0 ≤ 7293034 by omega)⟩) hP hD hS hA (fun rr u2 H locs hq hP hD hS => ?_)
    obtain ⟨v0, v1, v2, v3, v4, v5, v6, v7⟩ := u2
    replace hq : rr = nI v0 ∧ ((v1 = 1 ∧ so = 4294967295 ∧ v0 = 0 ∧ v2 = T ∧ v3 = P ∧ v4 = ST ∧ v5 = so ∧ v6 = CT) ∨ (v1 = 0 ∧ so ≠ 4294967295 ∧ so < n ∧ refP k V T P ST so sp CT v0 v2 v3 v4 v5 v6)) := hq
    obtain ⟨hr9, hq⟩ := hq
    replace hr9 := hr9.symm
    subst hr9
    have hP : va_P D vwCl ((wM r cI cZ cJ v1 k V C A v2 B v3 OR n PR v4 li w WK v5 sp v6 v7) ++ ((wX q cI cZ cJ k V C T B P A n PR ST li w WK so sp CT SC TA) ++ [(qo, .inl (cJ, 1, .inr (.inl O)))])) H := hP
    have hD : va_D (lA s) ((wM r cI cZ cJ v1 k V C A v2 B v3 OR n PR v4 li w WK v5 sp v6 v7) ++ ((wX q cI cZ cJ k V C T B P A n PR ST li w WK so sp CT SC TA) ++ [(qo, .inl (cJ, 1, .inr (.inl O)))])) := hD
    obtain ⟨e0, f0, f1, f2, f3, f4⟩ := q_refund_1  hp hq
    have e0 := e0.symm
    subst e0
    have f0 := f0.symm
    subst f0
    have f1 := f1.symm
    subst f1
    have f2 := f2.symm
    subst f2
    have f3 := f3.symm
    subst f3
    have f4 := f4.symm
    subst f4
    refine lv_istore (lv' := [(6, .int (nI v0)), (5, .int (nI 1)), (4, .int (nI (4 * jj))), (3, .ref qo), (2, .ref (r 0)), (1, .ref (q 0)), (0, .ref b)]) hx hb dL_law_884 hl (by decide) rfl (fun ls hl => ?_)
    refine lv_aload_n hx hb dL_law_886 rfl (lv_at hl 4 rfl) ?_
    refine k3_i (mc := 0) (ms := 0) (wa := []) (wc := (wM r cI cZ cJ 1 k V C A T B P OR n PR ST li w WK so sp CT v7)) (wb := ((wX q cI cZ cJ k V C T B P A n PR ST li w WK so sp CT SC TA) ++ [(qo, .inl (cJ, 1, .inr (.inl O)))])) (va_runV (As := []) (rest := []) ⟨hx, hb, hml, hown, hts⟩ (c_X1_thrown l hst D r cI cZ cJ 1 k V C A T B P OR n PR ST li w WK so sp CT v7 H.size  ) (cwV 0 hts gL_law_X1_thrown rfl rfl rfl hd_X1_thrown ⟨(Nat.le_of_ble_eq_true rfl), (Nat.le_of_ble_eq_true rfl)⟩) (pre_V3 (wa := []) (wc := (wM r cI cZ cJ 1 k V C A T B P OR n PR ST li w WK so sp CT v7)) (wb := ((wX q cI cZ cJ k V C T B P A n PR ST li w WK so sp CT SC TA) ++ [(qo, .inl (cJ, 1, .inr (.inl O)))])) hP hK hD hS hA hZ hg 0 (ci := 1) rfl rfl) rfl rfl hl.1 rfl (lv_room (Nat.le_of_ble_eq_true rfl)) dL_law_887 ⟨(show (((27 + 8 * jj) + 1) + 0) + 0 ≤ 601024 by omega), (show (((20244 + 64 * jj) + 6) + 0) + 0 ≤ 7293034 by omega)⟩) hP hD hS hA (fun rr u2 H locs hq hP hD hS => ?_)
    replace hq : rr = nI 1 := hq
    subst hq
    have hP : va_P D vwCl ((wM r cI cZ cJ 1 k V C A T B P OR n PR ST li w WK so sp CT v7) ++ ((wX q cI cZ cJ k V C T B P A n PR ST li w WK so sp CT SC TA) ++ [(qo, .inl (cJ, 1, .inr (.inl O)))])) H := hP
    have hD : va_D (lA s) ((wM r cI cZ cJ 1 k V C A T B P OR n PR ST li w WK so sp CT v7) ++ ((wX q cI cZ cJ k V C T B P A n PR ST li w WK so sp CT SC TA) ++ [(qo, .inl (cJ, 1, .inr (.inl O)))])) := hD
    refine lv_iload hx hb dL_law_890 (lv_at hl 1 rfl) ?_
    refine lv_icmp_eq (tgt := 897) hx hb dL_law_892 (by decide) (fun _ => ?_) (fun h => absurd rfl h)
    refine lv_iload hx hb dL_law_897 (lv_at hl 1 rfl) ?_
    refine n_if_ne (tgt := 921) hx hb (by decide) dL_law_899 (by decide) (fun c899 => ?_) (fun c899 => ?_)
    · refine lv_goto (tgt := 1433) hx hb dL_law_921 (by decide) ?_
      refine W.widen (k := 27 + 8 * (jj + 1)) (n := 20244 + 64 * (jj + 1)) (by omega) (by omega) ?_
      exact hN 1 k V C T B P A OR n PR ST li w WK so sp CT SC TA v7 O _ _ hI hP hD hS ls (lv_sub hl [2, 3, 4, 5, 6] rfl)
    · exact absurd c899 (by decide)

set_option maxHeartbeats 8000000 in
set_option maxRecDepth 100000 in
theorem lw_credit (hst : l.stackTraces = false) (hc : Lc p s m meth c b L xs D cI cZ cJ) {r q : Nat → Nat} {qo jj : Nat} (hj : 4 * jj + 4 ≤ L) {th : Nat} {k : Nat} {V : Nat → Nat} {C : Nat → Nat} {T : Nat → Nat} {B : Nat → Nat} {P : Nat → Nat} {A : Nat → Nat} {OR : Nat → Nat} {n : Nat} {PR : Nat → Nat} {ST : Nat → Nat} {li : Nat} {w : Nat} {WK : Nat → Nat} {so : Nat} {sp : Nat} {CT : Nat → Int64} {SC : Nat → Int} {TA : Nat → Nat} {FW : Nat → Nat} {O : Nat → Int64} {H : Heap} {locs : List Loc} (hI : IV k V C T A OR n PR ST li w WK so sp) (hP : va_P D vwCl (wL r q qo cI cZ cJ th k V C T B P A OR n PR ST li w WK so sp CT SC TA FW O) H) (hD : va_D (lA s) (wL r q qo cI cZ cJ th k V C T B P A OR n PR ST li w WK so sp CT SC TA FW O)) (hS : va_S (lA s) s.heap H locs) {ls : Array Slot} (hl : lv_has ls 9 [(4, .int (nI (4 * jj))), (3, .ref qo), (2, .ref (r 0)), (1, .ref (q 0)), (0, .ref b)]) (hN : Nx p l e s m below meth c b D r q qo cI cZ cJ Q jj) : W p l e room_1 s m #[Value.ref b] below meth c H locs (27 + 8 * jj) (20244 + 64 * jj) Q (F0 m 924 ls []) := by
  obtain ⟨hx, hb, hr, hml, hown, hts, hX, hbl, hlocks, hK, hZ, hg, hn, hL⟩ := hc
  have hA : ∀ q9 : Nat, s.heap.size ≤ q9 → lA s q9 := fun _ h => h
  have hbA : ¬ lA s b := Nat.not_le.mpr hbl
  have hP : va_P D vwCl ((wM r cI cZ cJ th k V C A T B P OR n PR ST li w WK so sp CT FW) ++ ((wX q cI cZ cJ k V C T B P A n PR ST li w WK so sp CT SC TA) ++ [(qo, .inl (cJ, 1, .inr (.inl O)))])) H := hP
  have hD : va_D (lA s) ((wM r cI cZ cJ th k V C A T B P OR n PR ST li w WK so sp CT FW) ++ ((wX q cI cZ cJ k V C T B P A n PR ST li w WK so sp CT SC TA) ++ [(qo, .inl (cJ, 1, .inr (.inl O)))])) := hD
  refine lv_aload_n hx hb dL_law_924 rfl (lv_at hl 3 rfl) ?_
  refine k3_i (mc := 0) (ms := 0) (wa := (wM r cI cZ cJ th k V C A T B P OR n PR ST li w WK so sp CT FW)) (wc := (wX q cI cZ cJ k V C T B P A n PR ST li w WK so sp CT SC TA)) (wb := [(qo, .inl (cJ, 1, .inr (.inl O)))]) (va_runV (As := []) (rest := []) ⟨hx, hb, hml, hown, hts⟩ (c_X0_credit l hst D q cI cZ cJ k V C T B P A n PR ST li w WK so sp CT SC TA H.size hI.hw12 hI.hk8 hI.hWK hI.hV) (cwV 0 hts gL_law_X0_credit rfl rfl rfl hd_X0_credit ⟨(Nat.le_of_ble_eq_true rfl), (Nat.le_of_ble_eq_true rfl)⟩) (pre_V3 (wa := (wM r cI cZ cJ th k V C A T B P OR n PR ST li w WK so sp CT FW)) (wc := (wX q cI cZ cJ k V C T B P A n PR ST li w WK so sp CT SC TA)) (wb := [(qo, .inl (cJ, 1, .inr (.inl O)))]) hP hK hD hS hA hZ hg 0 (ci := 0) rfl rfl) rfl rfl hl.1 rfl (lv_room (Nat.le_of_ble_eq_true rfl)) dL_law_925 ⟨(show (27 + 8 * jj) + 0 ≤ 601024 by omega), (show (20244 + 64 * jj) + 0 ≤ 7293034 by omega)⟩) hP hD hS hA (fun rr u H locs hp hP hD hS => ?_)
  replace hp : rr = nI (crk V WK w k) := hp
  subst hp
  have hP : va_P D vwCl ((wM r cI cZ cJ th k V C A T B P OR n PR ST li w WK so sp CT FW) ++ ((wX q cI cZ cJ k V C T B P A n PR ST li w WK so sp CT SC TA) ++ [(qo, .inl (cJ, 1, .inr (.inl O)))])) H := hP
  have hD : va_D (lA s) ((wM r cI cZ cJ th k V C A T B P OR n PR ST li w WK so sp CT FW) ++ ((wX q cI cZ cJ k V C T B P A n PR ST li w WK so sp CT SC TA) ++ [(qo, .inl (cJ, 1, .inr (.inl O)))])) := hD
  refine n_top (congrArg nI (crk_cr V WK k w hI.hWK)) ?_
  refine lv_aload_n hx hb dL_law_928 rfl (lv_at hl 2 rfl) ?_
  refine k3_i (mc := 0) (ms := 0) (wa := []) (wc := (wM r cI cZ cJ th k V C A T B P OR n PR ST li w WK so sp CT FW)) (wb := ((wX q cI cZ cJ k V C T B P A n PR ST li w WK so sp CT SC TA) ++ [(qo, .inl (cJ, 1, .inr (.inl O)))])) (va_runV (As := []) (rest := [.int (nI (cr V WK w))]) ⟨hx, hb, hml, hown, hts⟩ (c_X1_credit l hst D r cI cZ cJ th k V C A T B P OR n PR ST li w WK so sp CT FW H.size  hI.hk8 hI.hw12 hI.hWK hI.hV) (cwV 0 hts gL_law_X1_credit rfl rfl rfl hd_X1_credit ⟨(Nat.le_of_ble_eq_true rfl), (Nat.le_of_ble_eq_true rfl)⟩) (pre_V3 (wa := []) (wc := (wM r cI cZ cJ th k V C A T B P OR n PR ST li w WK so sp CT FW)) (wb := ((wX q cI cZ cJ k V C T B P A n PR ST li w WK so sp CT SC TA) ++ [(qo, .inl (cJ, 1, .inr (.inl O)))])) hP hK hD hS hA hZ hg 0 (ci := 1) rfl rfl) rfl rfl hl.1 rfl (lv_room (Nat.le_of_ble_eq_true rfl)) dL_law_929 ⟨(show ((27 + 8 * jj) + 0) + 0 ≤ 601024 by omega), (show ((20244 + 64 * jj) + 0) + 0 ≤ 7293034 by omega)⟩) hP hD hS hA (fun rr u2 H locs hq hP hD hS => ?_)
  replace hq : rr = nI (cr V WK w) := hq
  subst hq
  have hP : va_P D vwCl ((wM r cI cZ cJ 0 k V C A T B P OR n PR ST li w WK so sp CT FW) ++ ((wX q cI cZ cJ k V C T B P A n PR ST li w WK so sp CT SC TA) ++ [(qo, .inl (cJ, 1, .inr (.inl O)))])) H := hP
  have hD : va_D (lA s) ((wM r cI cZ cJ 0 k V C A T B P OR n PR ST li w WK so sp CT FW) ++ ((wX q cI cZ cJ k V C T B P A n PR ST li w WK so sp CT SC TA) ++ [(qo, .inl (cJ, 1, .inr (.inl O)))])) := hD
  refine lv_icmp_eq (tgt := 1433) hx hb dL_law_932 (by decide) (fun _ => ?_) (fun h => absurd rfl h)
  refine W.widen (k := 27 + 8 * (jj + 1)) (n := 20244 + 64 * (jj + 1)) (by omega) (by omega) ?_
  exact hN 0 k V C T B P A OR n PR ST li w WK so sp CT SC TA FW O _ _ hI hP hD hS ls (lv_sub hl [0, 1, 2, 3, 4] rfl)

set_option maxHeartbeats 8000000 in
set_option maxRecDepth 100000 in
theorem lw_escrow (hst : l.stackTraces = false) (hc : Lc p s m meth c b L xs D cI cZ cJ) {r q : Nat → Nat} {qo jj : Nat} (hj : 4 * jj + 4 ≤ L) {th : Nat} {k : Nat} {V : Nat → Nat} {C : Nat → Nat} {T : Nat → Nat} {B : Nat → Nat} {P : Nat → Nat} {A : Nat → Nat} {OR : Nat → Nat} {n : Nat} {PR : Nat → Nat} {ST : Nat → Nat} {li : Nat} {w : Nat} {WK : Nat → Nat} {so : Nat} {sp : Nat} {CT : Nat → Int64} {SC : Nat → Int} {TA : Nat → Nat} {FW : Nat → Nat} {O : Nat → Int64} {H : Heap} {locs : List Loc} (hI : IV k V C T A OR n PR ST li w WK so sp) (hP : va_P D vwCl (wL r q qo cI cZ cJ th k V C T B P A OR n PR ST li w WK so sp CT SC TA FW O) H) (hD : va_D (lA s) (wL r q qo cI cZ cJ th k V C T B P A OR n PR ST li w WK so sp CT SC TA FW O)) (hS : va_S (lA s) s.heap H locs) {ls : Array Slot} (hl : lv_has ls 9 [(4, .int (nI (4 * jj))), (3, .ref qo), (2, .ref (r 0)), (1, .ref (q 0)), (0, .ref b)]) (hN : Nx p l e s m below meth c b D r q qo cI cZ cJ Q jj) : W p l e room_1 s m #[Value.ref b] below meth c H locs (27 + 8 * jj) (20244 + 64 * jj) Q (F0 m 937 ls []) := by
  obtain ⟨hx, hb, hr, hml, hown, hts, hX, hbl, hlocks, hK, hZ, hg, hn, hL⟩ := hc
  have hA : ∀ q9 : Nat, s.heap.size ≤ q9 → lA s q9 := fun _ h => h
  have hbA : ¬ lA s b := Nat.not_le.mpr hbl
  have hP : va_P D vwCl ((wM r cI cZ cJ th k V C A T B P OR n PR ST li w WK so sp CT FW) ++ ((wX q cI cZ cJ k V C T B P A n PR ST li w WK so sp CT SC TA) ++ [(qo, .inl (cJ, 1, .inr (.inl O)))])) H := hP
  have hD : va_D (lA s) ((wM r cI cZ cJ th k V C A T B P OR n PR ST li w WK so sp CT FW) ++ ((wX q cI cZ cJ k V C T B P A n PR ST li w WK so sp CT SC TA) ++ [(qo, .inl (cJ, 1, .inr (.inl O)))])) := hD
  refine lv_aload_n hx hb dL_law_937 rfl (lv_at hl 3 rfl) ?_
  refine lv_aload_n hx hb dL_law_938 rfl (lv_at hl 4 rfl) ?_
  refine lv_iload hx hb dL_law_939 (lv_at hl 0 rfl) ?_
  refine lv_iconst (v := nI 1) hx hb dL_law_941 (ic_1) ?_
  refine n_iadd hx hb dL_law_942 ?_
  refine n_sld hx hb hX hbl hbA hS (by omega) (by omega) dL_law_943 ?_
  refine lv_aload_n hx hb dL_law_944 rfl (lv_at hl 1 rfl) ?_
  refine k3_i (mc := 1) (ms := 6) (wa := (wM r cI cZ cJ th k V C A T B P OR n PR ST li w WK so sp CT FW)) (wc := ((wX q cI cZ cJ k V C T B P A n PR ST li w WK so sp CT SC TA) ++ [(qo, .inl (cJ, 1, .inr (.inl O)))])) (wb := []) (vx_runSW (As := [.ref (q 0), .int (xs ((4 * jj) + 1)), .ref qo]) (rest := []) ⟨hx, hb, hml, hown, hts⟩ (c_L_escrow l hst D q qo cI cZ cJ k V C T B P A n PR ST li w WK so sp CT SC TA O H.size (xs ((4 * jj) + 1)) hI.hw12) (vx_cwSW 3 hts gL_law_L_escrow rfl rfl rfl hd_L_escrow.2 ⟨(Nat.le_of_ble_eq_true rfl), (Nat.le_of_ble_eq_true rfl)⟩) (pre_N (wa := (wM r cI cZ cJ th k V C A T B P OR n PR ST li w WK so sp CT FW)) (wc := ((wX q cI cZ cJ k V C T B P A n PR ST li w WK so sp CT SC TA) ++ [(qo, .inl (cJ, 1, .inr (.inl O)))])) (wb := []) hP hK hD hS hA hZ hg hn) rfl rfl hl.1 rfl (lv_room (Nat.le_of_ble_eq_true rfl)) dL_law_945 ⟨(show (27 + 8 * jj) + 1 ≤ 601024 by omega), (show (20244 + 64 * jj) + 6 ≤ 7293034 by omega)⟩) hP hD hS hA (fun rr u H locs hp hP hD hS => ?_)
  rcases u with u | kk
  · replace hp : rr = nI 0 ∧ (u < w ∧ (xs ((4 * jj) + 1)) = nI u) := hp
    obtain ⟨rfl, hp⟩ := hp
    have hP : va_P D vwCl ((wM r cI cZ cJ th k V C A T B P OR n PR ST li w WK so sp CT FW) ++ ((wX q cI cZ cJ k V C T B P A n PR ST li w WK so sp CT SC TA) ++ [(qo, .inl (cJ, 1, .inr (.inl (vp_updL O 0 ((nI (WK u)).toInt64)))))])) H := hP
    have hD : va_D (lA s) ((wM r cI cZ cJ th k V C A T B P OR n PR ST li w WK so sp CT FW) ++ ((wX q cI cZ cJ k V C T B P A n PR ST li w WK so sp CT SC TA) ++ [(qo, .inl (cJ, 1, .inr (.inl (vp_updL O 0 ((nI (WK u)).toInt64)))))])) := hD
    refine lv_istore (lv' := [(5, .int (nI 0)), (4, .int (nI (4 * jj))), (3, .ref qo), (2, .ref (r 0)), (1, .ref (q 0)), (0, .ref b)]) hx hb dL_law_948 hl (by decide) rfl (fun ls hl => ?_)
    refine lv_aload_n hx hb dL_law_950 rfl (lv_at hl 3 rfl) ?_
    refine lv_aload_n hx hb dL_law_951 rfl (lv_at hl 5 rfl) ?_
    refine lv_iload hx hb dL_law_952 (lv_at hl 1 rfl) ?_
    refine lv_iconst (v := nI 1) hx hb dL_law_954 (ic_1) ?_
    refine n_iadd hx hb dL_law_955 ?_
    refine n_sld hx hb hX hbl hbA hS (by omega) (by omega) dL_law_956 ?_
    refine k3_i (mc := 0) (ms := 0) (wa := []) (wc := (wM r cI cZ cJ th k V C A T B P OR n PR ST li w WK so sp CT FW)) (wb := ((wX q cI cZ cJ k V C T B P A n PR ST li w WK so sp CT SC TA) ++ [(qo, .inl (cJ, 1, .inr (.inl (vp_updL O 0 ((nI (WK u)).toInt64)))))])) (va_runV (As := [.int (xs ((4 * jj) + 1))]) (rest := []) ⟨hx, hb, hml, hown, hts⟩ (c_X1_escrow l hst D r cI cZ cJ th k V C A T B P OR n PR ST li w WK so sp CT FW H.size (xs ((4 * jj) + 1)) hI.hw12) (cwV 1 hts gL_law_X1_escrow rfl rfl rfl hd_X1_escrow ⟨(Nat.le_of_ble_eq_true rfl), (Nat.le_of_ble_eq_true rfl)⟩) (pre_V3 (wa := []) (wc := (wM r cI cZ cJ th k V C A T B P OR n PR ST li w WK so sp CT FW)) (wb := ((wX q cI cZ cJ k V C T B P A n PR ST li w WK so sp CT SC TA) ++ [(qo, .inl (cJ, 1, .inr (.inl (vp_updL O 0 ((nI (WK u)).toInt64)))))])) hP hK hD hS hA hZ hg 0 (ci := 1) rfl rfl) rfl rfl hl.1 rfl (lv_room (Nat.le_of_ble_eq_true rfl)) dL_law_957 ⟨(show ((27 + 8 * jj) + 1) + 0 ≤ 601024 by omega), (show ((20244 + 64 * jj) + 6) + 0 ≤ 7293034 by omega)⟩) hP hD hS hA (fun rr u2 H locs hq hP hD hS => ?_)
    obtain ⟨v0, v1⟩ := u2
    replace hq : rr = nI v0 ∧ ((v1 = 0 ∧ ∃ i, i < w ∧ (xs ((4 * jj) + 1)) = nI i ∧ v0 = WK i) ∨ (v1 = 1 ∧ ¬ rg (xs ((4 * jj) + 1)) 0 w)) := hq
    obtain ⟨hr9, hq⟩ := hq
    replace hr9 := hr9.symm
    subst hr9
    have hP : va_P D vwCl ((wM r cI cZ cJ v1 k V C A T B P OR n PR ST li w WK so sp CT FW) ++ ((wX q cI cZ cJ k V C T B P A n PR ST li w WK so sp CT SC TA) ++ [(qo, .inl (cJ, 1, .inr (.inl (vp_updL O 0 ((nI (WK u)).toInt64)))))])) H := hP
    have hD : va_D (lA s) ((wM r cI cZ cJ v1 k V C A T B P OR n PR ST li w WK so sp CT FW) ++ ((wX q cI cZ cJ k V C T B P A n PR ST li w WK so sp CT SC TA) ++ [(qo, .inl (cJ, 1, .inr (.inl (vp_updL O 0 ((nI (WK u)).toInt64)))))])) := hD
    obtain ⟨e0, e1⟩ := q_escrow_0 hI.hw12 hp hq
    have e0 := e0.symm
    subst e0
    have e1 := e1.symm
    subst e1
    refine lv_istore (lv' := [(6, .int (nI (WK u))), (5, .int (nI 0)), (4, .int (nI (4 * jj))), (3, .ref qo), (2, .ref (r 0)), (1, .ref (q 0)), (0, .ref b)]) hx hb dL_law_960 hl (by decide) rfl (fun ls hl => ?_)
    refine lv_aload_n hx hb dL_law_962 rfl (lv_at hl 4 rfl) ?_
    refine k3_i (mc := 0) (ms := 0) (wa := []) (wc := (wM r cI cZ cJ 0 k V C A T B P OR n PR ST li w WK so sp CT FW)) (wb := ((wX q cI cZ cJ k V C T B P A n PR ST li w WK so sp CT SC TA) ++ [(qo, .inl (cJ, 1, .inr (.inl (vp_updL O 0 ((nI (WK u)).toInt64)))))])) (va_runV (As := []) (rest := []) ⟨hx, hb, hml, hown, hts⟩ (c_X1_thrown l hst D r cI cZ cJ 0 k V C A T B P OR n PR ST li w WK so sp CT FW H.size  ) (cwV 0 hts gL_law_X1_thrown rfl rfl rfl hd_X1_thrown ⟨(Nat.le_of_ble_eq_true rfl), (Nat.le_of_ble_eq_true rfl)⟩) (pre_V3 (wa := []) (wc := (wM r cI cZ cJ 0 k V C A T B P OR n PR ST li w WK so sp CT FW)) (wb := ((wX q cI cZ cJ k V C T B P A n PR ST li w WK so sp CT SC TA) ++ [(qo, .inl (cJ, 1, .inr (.inl (vp_updL O 0 ((nI (WK u)).toInt64)))))])) hP hK hD hS hA hZ hg 0 (ci := 1) rfl rfl) rfl rfl hl.1 rfl (lv_room (Nat.le_of_ble_eq_true rfl)) dL_law_963 ⟨(show (((27 + 8 * jj) + 1) + 0) + 0 ≤ 601024 by omega), (show (((20244 + 64 * jj) + 6) + 0) + 0 ≤ 7293034 by omega)⟩) hP hD hS hA (fun rr u2 H locs hq hP hD hS => ?_)
    replace hq : rr = nI 0 := hq
    subst hq
    have hP : va_P D vwCl ((wM r cI cZ cJ 0 k V C A T B P OR n PR ST li w WK so sp CT FW) ++ ((wX q cI cZ cJ k V C T B P A n PR ST li w WK so sp CT SC TA) ++ [(qo, .inl (cJ, 1, .inr (.inl (vp_updL O 0 ((nI (WK u)).toInt64)))))])) H := hP
    have hD : va_D (lA s) ((wM r cI cZ cJ 0 k V C A T B P OR n PR ST li w WK so sp CT FW) ++ ((wX q cI cZ cJ k V C T B P A n PR ST li w WK so sp CT SC TA) ++ [(qo, .inl (cJ, 1, .inr (.inl (vp_updL O 0 ((nI (WK u)).toInt64)))))])) := hD
    refine lv_iload hx hb dL_law_966 (lv_at hl 1 rfl) ?_
    refine lv_icmp_eq (tgt := 973) hx hb dL_law_968 (by decide) (fun _ => ?_) (fun h => absurd rfl h)
    refine lv_iload hx hb dL_law_973 (lv_at hl 1 rfl) ?_
    refine n_if_ne (tgt := 990) hx hb (by decide) dL_law_975 (by decide) (fun c975 => ?_) (fun c975 => ?_)
    · exact absurd c975 (by decide)
    · refine lv_aload_n hx hb dL_law_978 rfl (lv_at hl 3 rfl) ?_
      refine lv_iconst (v := nI 0) hx hb dL_law_979 (ic_0) ?_
      refine n_lald hx hb hK hP 26 2 rfl rfl (by decide) (by decide) dL_law_980 ?_
      refine n_topl (show (vp_updL O 0 ((nI (WK u)).toInt64)) 0 = (nI (WK u)).toInt64 from updL_s) ?_
      refine lv_iload hx hb dL_law_981 (lv_at hl 0 rfl) ?_
      refine lv_i2l hx hb dL_law_983 rfl ?_
      refine n_lcmp_eq (tgt := 990) hx hb dL_law_984 dL_law_985 (by decide) (fun _ => ?_) (fun h => absurd rfl h)
      refine lv_goto (tgt := 1433) hx hb dL_law_990 (by decide) ?_
      refine W.widen (k := 27 + 8 * (jj + 1)) (n := 20244 + 64 * (jj + 1)) (by omega) (by omega) ?_
      exact hN 0 k V C T B P A OR n PR ST li w WK so sp CT SC TA FW (vp_updL O 0 ((nI (WK u)).toInt64)) _ _ hI hP hD hS ls (lv_sub hl [2, 3, 4, 5, 6] rfl)
  · replace hp : rr = nI kk ∧ ((kk = 1 ∧ (¬ rg (xs ((4 * jj) + 1)) 0 w))) := hp
    obtain ⟨rfl, hp⟩ := hp
    have hP : va_P D vwCl ((wM r cI cZ cJ th k V C A T B P OR n PR ST li w WK so sp CT FW) ++ ((wX q cI cZ cJ k V C T B P A n PR ST li w WK so sp CT SC TA) ++ [(qo, .inl (cJ, 1, .inr (.inl O)))])) H := hP
    have hD : va_D (lA s) ((wM r cI cZ cJ th k V C A T B P OR n PR ST li w WK so sp CT FW) ++ ((wX q cI cZ cJ k V C T B P A n PR ST li w WK so sp CT SC TA) ++ [(qo, .inl (cJ, 1, .inr (.inl O)))])) := hD
    obtain ⟨rfl, hp⟩ := hp
    refine lv_istore (lv' := [(5, .int (nI 1)), (4, .int (nI (4 * jj))), (3, .ref qo), (2, .ref (r 0)), (1, .ref (q 0)), (0, .ref b)]) hx hb dL_law_948 hl (by decide) rfl (fun ls hl => ?_)
    refine lv_aload_n hx hb dL_law_950 rfl (lv_at hl 3 rfl) ?_
    refine lv_aload_n hx hb dL_law_951 rfl (lv_at hl 5 rfl) ?_
    refine lv_iload hx hb dL_law_952 (lv_at hl 1 rfl) ?_
    refine lv_iconst (v := nI 1) hx hb dL_law_954 (ic_1) ?_
    refine n_iadd hx hb dL_law_955 ?_
    refine n_sld hx hb hX hbl hbA hS (by omega) (by omega) dL_law_956 ?_
    refine k3_i (mc := 0) (ms := 0) (wa := []) (wc := (wM r cI cZ cJ th k V C A T B P OR n PR ST li w WK so sp CT FW)) (wb := ((wX q cI cZ cJ k V C T B P A n PR ST li w WK so sp CT SC TA) ++ [(qo, .inl (cJ, 1, .inr (.inl O)))])) (va_runV (As := [.int (xs ((4 * jj) + 1))]) (rest := []) ⟨hx, hb, hml, hown, hts⟩ (c_X1_escrow l hst D r cI cZ cJ th k V C A T B P OR n PR ST li w WK so sp CT FW H.size (xs ((4 * jj) + 1)) hI.hw12) (cwV 1 hts gL_law_X1_escrow rfl rfl rfl hd_X1_escrow ⟨(Nat.le_of_ble_eq_true rfl), (Nat.le_of_ble_eq_true rfl)⟩) (pre_V3 (wa := []) (wc := (wM r cI cZ cJ th k V C A T B P OR n PR ST li w WK so sp CT FW)) (wb := ((wX q cI cZ cJ k V C T B P A n PR ST li w WK so sp CT SC TA) ++ [(qo, .inl (cJ, 1, .inr (.inl O)))])) hP hK hD hS hA hZ hg 0 (ci := 1) rfl rfl) rfl rfl hl.1 rfl (lv_room (Nat.le_of_ble_eq_true rfl)) dL_law_957 ⟨(show ((27 + 8 * jj) + 1) + 0 ≤ 601024 by omega), (show ((20244 + 64 * jj) + 6) + 0 ≤ 7293034 by omega)⟩) hP hD hS hA (fun rr u2 H locs hq hP hD hS => ?_)
    obtain ⟨v0, v1⟩ := u2
    replace hq : rr = nI v0 ∧ ((v1 = 0 ∧ ∃ i, i < w ∧ (xs ((4 * jj) + 1)) = nI i ∧ v0 = WK i) ∨ (v1 = 1 ∧ ¬ rg (xs ((4 * jj) + 1)) 0 w)) := hq
    obtain ⟨hr9, hq⟩ := hq
    replace hr9 := hr9.symm
    subst hr9
    have hP : va_P D vwCl ((wM r cI cZ cJ v1 k V C A T B P OR n PR ST li w WK so sp CT FW) ++ ((wX q cI cZ cJ k V C T B P A n PR ST li w WK so sp CT SC TA) ++ [(qo, .inl (cJ, 1, .inr (.inl O)))])) H := hP
    have hD : va_D (lA s) ((wM r cI cZ cJ v1 k V C A T B P OR n PR ST li w WK so sp CT FW) ++ ((wX q cI cZ cJ k V C T B P A n PR ST li w WK so sp CT SC TA) ++ [(qo, .inl (cJ, 1, .inr (.inl O)))])) := hD
    have e0 := q_escrow_1 hI.hw12 hp hq
    have e0 := e0.symm
    subst e0
    refine lv_istore (lv' := [(6, .int (nI v0)), (5, .int (nI 1)), (4, .int (nI (4 * jj))), (3, .ref qo), (2, .ref (r 0)), (1, .ref (q 0)), (0, .ref b)]) hx hb dL_law_960 hl (by decide) rfl (fun ls hl => ?_)
    refine lv_aload_n hx hb dL_law_962 rfl (lv_at hl 4 rfl) ?_
    refine k3_i (mc := 0) (ms := 0) (wa := []) (wc := (wM r cI cZ cJ 1 k V C A T B P OR n PR ST li w WK so sp CT FW)) (wb := ((wX q cI cZ cJ k V C T B P A n PR ST li w WK so sp CT SC TA) ++ [(qo, .inl (cJ, 1, .inr (.inl O)))])) (va_runV (As := []) (rest := []) ⟨hx, hb, hml, hown, hts⟩ (c_X1_thrown l hst D r cI cZ cJ 1 k V C A T B P OR n PR ST li w WK so sp CT FW H.size  ) (cwV 0 hts gL_law_X1_thrown rfl rfl rfl hd_X1_thrown ⟨(Nat.le_of_ble_eq_true rfl), (Nat.le_of_ble_eq_true rfl)⟩) (pre_V3 (wa := []) (wc := (wM r cI cZ cJ 1 k V C A T B P OR n PR ST li w WK so sp CT FW)) (wb := ((wX q cI cZ cJ k V C T B P A n PR ST li w WK so sp CT SC TA) ++ [(qo, .inl (cJ, 1, .inr (.inl O)))])) hP hK hD hS hA hZ hg 0 (ci := 1) rfl rfl) rfl rfl hl.1 rfl (lv_room (Nat.le_of_ble_eq_true rfl)) dL_law_963 ⟨(show (((27 + 8 * jj) + 1) + 0) + 0 ≤ 601024 by omega), (show (((20244 + 64 * jj) + 6) + 0) + 0 ≤ 7293034 by omega)⟩) hP hD hS hA (fun rr u2 H locs hq hP hD hS => ?_)
    replace hq : rr = nI 1 := hq
    subst hq
    have hP : va_P D vwCl ((wM r cI cZ cJ 1 k V C A T B P OR n PR ST li w WK so sp CT FW) ++ ((wX q cI cZ cJ k V C T B P A n PR ST li w WK so sp CT SC TA) ++ [(qo, .inl (cJ, 1, .inr (.inl O)))])) H := hP
    have hD : va_D (lA s) ((wM r cI cZ cJ 1 k V C A T B P OR n PR ST li w WK so sp CT FW) ++ ((wX q cI cZ cJ k V C T B P A n PR ST li w WK so sp CT SC TA) ++ [(qo, .inl (cJ, 1, .inr (.inl O)))])) := hD
    refine lv_iload hx hb dL_law_966 (lv_at hl 1 rfl) ?_
    refine lv_icmp_eq (tgt := 973) hx hb dL_law_968 (by decide) (fun _ => ?_) (fun h => absurd rfl h)
    refine lv_iload hx hb dL_law_973 (lv_at hl 1 rfl) ?_
    refine n_if_ne (tgt := 990) hx hb (by decide) dL_law_975 (by decide) (fun c975 => ?_) (fun c975 => ?_)
    · refine lv_goto (tgt := 1433) hx hb dL_law_990 (by decide) ?_
      refine W.widen (k := 27 + 8 * (jj + 1)) (n := 20244 + 64 * (jj + 1)) (by omega) (by omega) ?_
      exact hN 1 k V C T B P A OR n PR ST li w WK so sp CT SC TA FW O _ _ hI hP hD hS ls (lv_sub hl [2, 3, 4, 5, 6] rfl)
    · exact absurd c975 (by decide)

set_option maxHeartbeats 8000000 in
set_option maxRecDepth 100000 in
theorem lw_coins (hst : l.stackTraces = false) (hc : Lc p s m meth c b L xs D cI cZ cJ) {r q : Nat → Nat} {qo jj : Nat} (hj : 4 * jj + 4 ≤ L) {th : Nat} {k : Nat} {V : Nat → Nat} {C : Nat → Nat} {T : Nat → Nat} {B : Nat → Nat} {P : Nat → Nat} {A : Nat → Nat} {OR : Nat → Nat} {n : Nat} {PR : Nat → Nat} {ST : Nat → Nat} {li : Nat} {w : Nat} {WK : Nat → Nat} {so : Nat} {sp : Nat} {CT : Nat → Int64} {SC : Nat → Int} {TA : Nat → Nat} {FW : Nat → Nat} {O : Nat → Int64} {H : Heap} {locs : List Loc} (hI : IV k V C T A OR n PR ST li w WK so sp) (hP : va_P D vwCl (wL r q qo cI cZ cJ th k V C T B P A OR n PR ST li w WK so sp CT SC TA FW O) H) (hD : va_D (lA s) (wL r q qo cI cZ cJ th k V C T B P A OR n PR ST li w WK so sp CT SC TA FW O)) (hS : va_S (lA s) s.heap H locs) {ls : Array Slot} (hl : lv_has ls 9 [(4, .int (nI (4 * jj))), (3, .ref qo), (2, .ref (r 0)), (1, .ref (q 0)), (0, .ref b)]) (hN : Nx p l e s m below meth c b D r q qo cI cZ cJ Q jj) : W p l e room_1 s m #[Value.ref b] below meth c H locs (27 + 8 * jj) (20244 + 64 * jj) Q (F0 m 993 ls []) := by
  obtain ⟨hx, hb, hr, hml, hown, hts, hX, hbl, hlocks, hK, hZ, hg, hn, hL⟩ := hc
  have hA : ∀ q9 : Nat, s.heap.size ≤ q9 → lA s q9 := fun _ h => h
  have hbA : ¬ lA s b := Nat.not_le.mpr hbl
  have hP : va_P D vwCl ((wM r cI cZ cJ th k V C A T B P OR n PR ST li w WK so sp CT FW) ++ ((wX q cI cZ cJ k V C T B P A n PR ST li w WK so sp CT SC TA) ++ [(qo, .inl (cJ, 1, .inr (.inl O)))])) H := hP
  have hD : va_D (lA s) ((wM r cI cZ cJ th k V C A T B P OR n PR ST li w WK so sp CT FW) ++ ((wX q cI cZ cJ k V C T B P A n PR ST li w WK so sp CT SC TA) ++ [(qo, .inl (cJ, 1, .inr (.inl O)))])) := hD
  refine lv_aload_n hx hb dL_law_993 rfl (lv_at hl 3 rfl) ?_
  refine lv_aload_n hx hb dL_law_994 rfl (lv_at hl 4 rfl) ?_
  refine lv_iload hx hb dL_law_995 (lv_at hl 0 rfl) ?_
  refine lv_iconst (v := nI 1) hx hb dL_law_997 (ic_1) ?_
  refine n_iadd hx hb dL_law_998 ?_
  refine n_sld hx hb hX hbl hbA hS (by omega) (by omega) dL_law_999 ?_
  refine lv_aload_n hx hb dL_law_1000 rfl (lv_at hl 4 rfl) ?_
  refine lv_iload hx hb dL_law_1001 (lv_at hl 0 rfl) ?_
  refine lv_iconst (v := nI 2) hx hb dL_law_1003 (ic_2) ?_
  refine n_iadd hx hb dL_law_1004 ?_
  refine n_sld hx hb hX hbl hbA hS (by omega) (by omega) dL_law_1005 ?_
  refine lv_aload_n hx hb dL_law_1006 rfl (lv_at hl 1 rfl) ?_
  refine k3_i (mc := 2) (ms := 12) (wa := (wM r cI cZ cJ th k V C A T B P OR n PR ST li w WK so sp CT FW)) (wc := ((wX q cI cZ cJ k V C T B P A n PR ST li w WK so sp CT SC TA) ++ [(qo, .inl (cJ, 1, .inr (.inl O)))])) (wb := []) (vx_runSW (As := [.ref (q 0), .int (xs ((4 * jj) + 1)), .int (xs ((4 * jj) + 2)), .ref qo]) (rest := []) ⟨hx, hb, hml, hown, hts⟩ (c_L_coins l hst D q qo cI cZ cJ k V C T B P A n PR ST li w WK so sp CT SC TA O H.size (xs ((4 * jj) + 1)) (xs ((4 * jj) + 2)) hI.hk8) (vx_cwSW 4 hts gL_law_L_coins rfl rfl rfl hd_L_coins.2 ⟨(Nat.le_of_ble_eq_true rfl), (Nat.le_of_ble_eq_true rfl)⟩) (pre_N (wa := (wM r cI cZ cJ th k V C A T B P OR n PR ST li w WK so sp CT FW)) (wc := ((wX q cI cZ cJ k V C T B P A n PR ST li w WK so sp CT SC TA) ++ [(qo, .inl (cJ, 1, .inr (.inl O)))])) (wb := []) hP hK hD hS hA hZ hg hn) rfl rfl hl.1 rfl (lv_room (Nat.le_of_ble_eq_true rfl)) dL_law_1007 ⟨(show (27 + 8 * jj) + 2 ≤ 601024 by omega), (show (20244 + 64 * jj) + 12 ≤ 7293034 by omega)⟩) hP hD hS hA (fun rr u H locs hp hP hD hS => ?_)
  rcases u with u | kk
  · replace hp : rr = nI 0 ∧ (u.1 < k ∧ u.2 < 4 ∧ (xs ((4 * jj) + 1)) = nI u.1 ∧ (xs ((4 * jj) + 2)) = nI u.2) := hp
    obtain ⟨rfl, hp⟩ := hp
    have hP : va_P D vwCl ((wM r cI cZ cJ th k V C A T B P OR n PR ST li w WK so sp CT FW) ++ ((wX q cI cZ cJ k V C T B P A n PR ST li w WK so sp CT SC TA) ++ [(qo, .inl (cJ, 1, .inr (.inl (vp_updL O 0 ((nI (tld V T B P u.1 u.2)).toInt64)))))])) H := hP
    have hD : va_D (lA s) ((wM r cI cZ cJ th k V C A T B P OR n PR ST li w WK so sp CT FW) ++ ((wX q cI cZ cJ k V C T B P A n PR ST li w WK so sp CT SC TA) ++ [(qo, .inl (cJ, 1, .inr (.inl (vp_updL O 0 ((nI (tld V T B P u.1 u.2)).toInt64)))))])) := hD
    refine lv_istore (lv' := [(5, .int (nI 0)), (4, .int (nI (4 * jj))), (3, .ref qo), (2, .ref (r 0)), (1, .ref (q 0)), (0, .ref b)]) hx hb dL_law_1010 hl (by decide) rfl (fun ls hl => ?_)
    refine lv_aload_n hx hb dL_law_1012 rfl (lv_at hl 3 rfl) ?_
    refine lv_aload_n hx hb dL_law_1013 rfl (lv_at hl 5 rfl) ?_
    refine lv_iload hx hb dL_law_1014 (lv_at hl 1 rfl) ?_
    refine lv_iconst (v := nI 1) hx hb dL_law_1016 (ic_1) ?_
    refine n_iadd hx hb dL_law_1017 ?_
    refine n_sld hx hb hX hbl hbA hS (by omega) (by omega) dL_law_1018 ?_
    refine lv_aload_n hx hb dL_law_1019 rfl (lv_at hl 5 rfl) ?_
    refine lv_iload hx hb dL_law_1020 (lv_at hl 1 rfl) ?_
    refine lv_iconst (v := nI 2) hx hb dL_law_1022 (ic_2) ?_
    refine n_iadd hx hb dL_law_1023 ?_
    refine n_sld hx hb hX hbl hbA hS (by omega) (by omega) dL_law_1024 ?_
    refine k3_i (mc := 0) (ms := 0) (wa := []) (wc := (wM r cI cZ cJ th k V C A T B P OR n PR ST li w WK so sp CT FW)) (wb := ((wX q cI cZ cJ k V C T B P A n PR ST li w WK so sp CT SC TA) ++ [(qo, .inl (cJ, 1, .inr (.inl (vp_updL O 0 ((nI (tld V T B P u.1 u.2)).toInt64)))))])) (va_runV (As := [.int (xs ((4 * jj) + 1)), .int (xs ((4 * jj) + 2))]) (rest := []) ⟨hx, hb, hml, hown, hts⟩ (c_X1_coins l hst D r cI cZ cJ th k V C A T B P OR n PR ST li w WK so sp CT FW H.size (xs ((4 * jj) + 1)) (xs ((4 * jj) + 2)) hI.hk8) (cwV 2 hts gL_law_X1_coins rfl rfl rfl hd_X1_coins ⟨(Nat.le_of_ble_eq_true rfl), (Nat.le_of_ble_eq_true rfl)⟩) (pre_V3 (wa := []) (wc := (wM r cI cZ cJ th k V C A T B P OR n PR ST li w WK so sp CT FW)) (wb := ((wX q cI cZ cJ k V C T B P A n PR ST li w WK so sp CT SC TA) ++ [(qo, .inl (cJ, 1, .inr (.inl (vp_updL O 0 ((nI (tld V T B P u.1 u.2)).toInt64)))))])) hP hK hD hS hA hZ hg 0 (ci := 1) rfl rfl) rfl rfl hl.1 rfl (lv_room (Nat.le_of_ble_eq_true rfl)) dL_law_1025 ⟨(show ((27 + 8 * jj) + 2) + 0 ≤ 601024 by omega), (show ((20244 + 64 * jj) + 12) + 0 ≤ 7293034 by omega)⟩) hP hD hS hA (fun rr u2 H locs hq hP hD hS => ?_)
    obtain ⟨v0, v1⟩ := u2
    replace hq : rr = nI v0 ∧ ((v1 = 0 ∧ ∃ i j, i < k ∧ j < 4 ∧ (xs ((4 * jj) + 1)) = nI i ∧ (xs ((4 * jj) + 2)) = nI j ∧ v0 = tld V T B P i j) ∨ (v1 = 1 ∧ ¬ (rg (xs ((4 * jj) + 1)) 0 k ∧ rg (xs ((4 * jj) + 2)) 0 4))) := hq
    obtain ⟨hr9, hq⟩ := hq
    replace hr9 := hr9.symm
    subst hr9
    have hP : va_P D vwCl ((wM r cI cZ cJ v1 k V C A T B P OR n PR ST li w WK so sp CT FW) ++ ((wX q cI cZ cJ k V C T B P A n PR ST li w WK so sp CT SC TA) ++ [(qo, .inl (cJ, 1, .inr (.inl (vp_updL O 0 ((nI (tld V T B P u.1 u.2)).toInt64)))))])) H := hP
    have hD : va_D (lA s) ((wM r cI cZ cJ v1 k V C A T B P OR n PR ST li w WK so sp CT FW) ++ ((wX q cI cZ cJ k V C T B P A n PR ST li w WK so sp CT SC TA) ++ [(qo, .inl (cJ, 1, .inr (.inl (vp_updL O 0 ((nI (tld V T B P u.1 u.2)).toInt64)))))])) := hD
    obtain ⟨e0, e1⟩ := q_coins_0 hI.hk8 hp hq
    have e0 := e0.symm
    subst e0
    have e1 := e1.symm
    subst e1
    refine lv_istore (lv' := [(6, .int (nI (tld V T B P u.1 u.2))), (5, .int (nI 0)), (4, .int (nI (4 * jj))), (3, .ref qo), (2, .ref (r 0)), (1, .ref (q 0)), (0, .ref b)]) hx hb dL_law_1028 hl (by decide) rfl (fun ls hl => ?_)
    refine lv_aload_n hx hb dL_law_1030 rfl (lv_at hl 4 rfl) ?_
    refine k3_i (mc := 0) (ms := 0) (wa := []) (wc := (wM r cI cZ cJ 0 k V C A T B P OR n PR ST li w WK so sp CT FW)) (wb := ((wX q cI cZ cJ k V C T B P A n PR ST li w WK so sp CT SC TA) ++ [(qo, .inl (cJ, 1, .inr (.inl (vp_updL O 0 ((nI (tld V T B P u.1 u.2)).toInt64)))))])) (va_runV (As := []) (rest := []) ⟨hx, hb, hml, hown, hts⟩ (c_X1_thrown l hst D r cI cZ cJ 0 k V C A T B P OR n PR ST li w WK so sp CT FW H.size  ) (cwV 0 hts gL_law_X1_thrown rfl rfl rfl hd_X1_thrown ⟨(Nat.le_of_ble_eq_true rfl), (Nat.le_of_ble_eq_true rfl)⟩) (pre_V3 (wa := []) (wc := (wM r cI cZ cJ 0 k V C A T B P OR n PR ST li w WK so sp CT FW)) (wb := ((wX q cI cZ cJ k V C T B P A n PR ST li w WK so sp CT SC TA) ++ [(qo, .inl (cJ, 1, .inr (.inl (vp_updL O 0 ((nI (tld V T B P u.1 u.2)).toInt64)))))])) hP hK hD hS hA hZ hg 0 (ci := 1) rfl rfl) rfl rfl hl.1 rfl (lv_room (Nat.le_of_ble_eq_true rfl)) dL_law_1031 ⟨(show (((27 + 8 * jj) + 2) + 0) + 0 ≤ 601024 by omega), (show (((20244 + 64 * jj) + 12) + 0) + 0 ≤ 7293034 by omega)⟩) hP hD hS hA (fun rr u2 H locs hq hP hD hS => ?_)
    replace hq : rr = nI 0 := hq
    subst hq
    have hP : va_P D vwCl ((wM r cI cZ cJ 0 k V C A T B P OR n PR ST li w WK so sp CT FW) ++ ((wX q cI cZ cJ k V C T B P A n PR ST li w WK so sp CT SC TA) ++ [(qo, .inl (cJ, 1, .inr (.inl (vp_updL O 0 ((nI (tld V T B P u.1 u.2)).toInt64)))))])) H := hP
    have hD : va_D (lA s) ((wM r cI cZ cJ 0 k V C A T B P OR n PR ST li w WK so sp CT FW) ++ ((wX q cI cZ cJ k V C T B P A n PR ST li w WK so sp CT SC TA) ++ [(qo, .inl (cJ, 1, .inr (.inl (vp_updL O 0 ((nI (tld V T B P u.1 u.2)).toInt64)))))])) := hD
    refine lv_iload hx hb dL_law_1034 (lv_at hl 1 rfl) ?_
    refine lv_icmp_eq (tgt := 1041) hx hb dL_law_1036 (by decide) (fun _ => ?_) (fun h => absurd rfl h)
    refine lv_iload hx hb dL_law_1041 (lv_at hl 1 rfl) ?_
    refine n_if_ne (tgt := 1058) hx hb (by decide) dL_law_1043 (by decide) (fun c1043 => ?_) (fun c1043 => ?_)
    · exact absurd c1043 (by decide)
    · refine lv_aload_n hx hb dL_law_1046 rfl (lv_at hl 3 rfl) ?_
      refine lv_iconst (v := nI 0) hx hb dL_law_1047 (ic_0) ?_
      refine n_lald hx hb hK hP 26 2 rfl rfl (by decide) (by decide) dL_law_1048 ?_
      refine n_topl (show (vp_updL O 0 ((nI (tld V T B P u.1 u.2)).toInt64)) 0 = (nI (tld V T B P u.1 u.2)).toInt64 from updL_s) ?_
      refine lv_iload hx hb dL_law_1049 (lv_at hl 0 rfl) ?_
      refine lv_i2l hx hb dL_law_1051 rfl ?_
      refine n_lcmp_eq (tgt := 1058) hx hb dL_law_1052 dL_law_1053 (by decide) (fun _ => ?_) (fun h => absurd rfl h)
      refine lv_goto (tgt := 1433) hx hb dL_law_1058 (by decide) ?_
      refine W.widen (k := 27 + 8 * (jj + 1)) (n := 20244 + 64 * (jj + 1)) (by omega) (by omega) ?_
      exact hN 0 k V C T B P A OR n PR ST li w WK so sp CT SC TA FW (vp_updL O 0 ((nI (tld V T B P u.1 u.2)).toInt64)) _ _ hI hP hD hS ls (lv_sub hl [2, 3, 4, 5, 6] rfl)
  · replace hp : rr = nI kk ∧ ((kk = 1 ∧ (¬ (rg (xs ((4 * jj) + 1)) 0 k ∧ rg (xs ((4 * jj) + 2)) 0 4)))) := hp
    obtain ⟨rfl, hp⟩ := hp
    have hP : va_P D vwCl ((wM r cI cZ cJ th k V C A T B P OR n PR ST li w WK so sp CT FW) ++ ((wX q cI cZ cJ k V C T B P A n PR ST li w WK so sp CT SC TA) ++ [(qo, .inl (cJ, 1, .inr (.inl O)))])) H := hP
    have hD : va_D (lA s) ((wM r cI cZ cJ th k V C A T B P OR n PR ST li w WK so sp CT FW) ++ ((wX q cI cZ cJ k V C T B P A n PR ST li w WK so sp CT SC TA) ++ [(qo, .inl (cJ, 1, .inr (.inl O)))])) := hD
    obtain ⟨rfl, hp⟩ := hp
    refine lv_istore (lv' := [(5, .int (nI 1)), (4, .int (nI (4 * jj))), (3, .ref qo), (2, .ref (r 0)), (1, .ref (q 0)), (0, .ref b)]) hx hb dL_law_1010 hl (by decide) rfl (fun ls hl => ?_)
    refine lv_aload_n hx hb dL_law_1012 rfl (lv_at hl 3 rfl) ?_
    refine lv_aload_n hx hb dL_law_1013 rfl (lv_at hl 5 rfl) ?_
    refine lv_iload hx hb dL_law_1014 (lv_at hl 1 rfl) ?_
    refine lv_iconst (v := nI 1) hx hb dL_law_1016 (ic_1) ?_
    refine n_iadd hx hb dL_law_1017 ?_
    refine n_sld hx hb hX hbl hbA hS (by omega) (by omega) dL_law_1018 ?_
    refine lv_aload_n hx hb dL_law_1019 rfl (lv_at hl 5 rfl) ?_
    refine lv_iload hx hb dL_law_1020 (lv_at hl 1 rfl) ?_
    refine lv_iconst (v := nI 2) hx hb dL_law_1022 (ic_2) ?_
    refine n_iadd hx hb dL_law_1023 ?_
    refine n_sld hx hb hX hbl hbA hS (by omega) (by omega) dL_law_1024 ?_
    refine k3_i (mc := 0) (ms := 0) (wa := []) (wc := (wM r cI cZ cJ th k V C A T B P OR n PR ST li w WK so sp CT FW)) (wb := ((wX q cI cZ cJ k V C T B P A n PR ST li w WK so sp CT SC TA) ++ [(qo, .inl (cJ, 1, .inr (.inl O)))])) (va_runV (As := [.int (xs ((4 * jj) + 1)), .int (xs ((4 * jj) + 2))]) (rest := []) ⟨hx, hb, hml, hown, hts⟩ (c_X1_coins l hst D r cI cZ cJ th k V C A T B P OR n PR ST li w WK so sp CT FW H.size (xs ((4 * jj) + 1)) (xs ((4 * jj) + 2)) hI.hk8) (cwV 2 hts gL_law_X1_coins rfl rfl rfl hd_X1_coins ⟨(Nat.le_of_ble_eq_true rfl), (Nat.le_of_ble_eq_true rfl)⟩) (pre_V3 (wa := []) (wc := (wM r cI cZ cJ th k V C A T B P OR n PR ST li w WK so sp CT FW)) (wb := ((wX q cI cZ cJ k V C T B P A n PR ST li w WK so sp CT SC TA) ++ [(qo, .inl (cJ, 1, .inr (.inl O)))])) hP hK hD hS hA hZ hg 0 (ci := 1) rfl rfl) rfl rfl hl.1 rfl (lv_room (Nat.le_of_ble_eq_true rfl)) dL_law_1025 ⟨(show ((27 + 8 * jj) + 2) + 0 ≤ 601024 by omega), (show ((20244 + 64 * jj) + 12) + 0 ≤ 7293034 by omega)⟩) hP hD hS hA (fun rr u2 H locs hq hP hD hS => ?_)
    obtain ⟨v0, v1⟩ := u2
    replace hq : rr = nI v0 ∧ ((v1 = 0 ∧ ∃ i j, i < k ∧ j < 4 ∧ (xs ((4 * jj) + 1)) = nI i ∧ (xs ((4 * jj) + 2)) = nI j ∧ v0 = tld V T B P i j) ∨ (v1 = 1 ∧ ¬ (rg (xs ((4 * jj) + 1)) 0 k ∧ rg (xs ((4 * jj) + 2)) 0 4))) := hq
    obtain ⟨hr9, hq⟩ := hq
    replace hr9 := hr9.symm
    subst hr9
    have hP : va_P D vwCl ((wM r cI cZ cJ v1 k V C A T B P OR n PR ST li w WK so sp CT FW) ++ ((wX q cI cZ cJ k V C T B P A n PR ST li w WK so sp CT SC TA) ++ [(qo, .inl (cJ, 1, .inr (.inl O)))])) H := hP
    have hD : va_D (lA s) ((wM r cI cZ cJ v1 k V C A T B P OR n PR ST li w WK so sp CT FW) ++ ((wX q cI cZ cJ k V C T B P A n PR ST li w WK so sp CT SC TA) ++ [(qo, .inl (cJ, 1, .inr (.inl O)))])) := hD
    have e0 := q_coins_1 hI.hk8 hp hq
    have e0 := e0.symm
    subst e0
    refine lv_istore (lv' := [(6, .int (nI v0)), (5, .int (nI 1)), (4, .int (nI (4 * jj))), (3, .ref qo), (2, .ref (r 0)), (1, .ref (q 0)), (0, .ref b)]) hx hb dL_law_1028 hl (by decide) rfl (fun ls hl => ?_)
    refine lv_aload_n hx hb dL_law_1030 rfl (lv_at hl 4 rfl) ?_
    refine k3_i (mc := 0) (ms := 0) (wa := []) (wc := (wM r cI cZ cJ 1 k V C A T B P OR n PR ST li w WK so sp CT FW)) (wb := ((wX q cI cZ cJ k V C T B P A n PR ST li w WK so sp CT SC TA) ++ [(qo, .inl (cJ, 1, .inr (.inl O)))])) (va_runV (As := []) (rest := []) ⟨hx, hb, hml, hown, hts⟩ (c_X1_thrown l hst D r cI cZ cJ 1 k V C A T B P OR n PR ST li w WK so sp CT FW H.size  ) (cwV 0 hts gL_law_X1_thrown rfl rfl rfl hd_X1_thrown ⟨(Nat.le_of_ble_eq_true rfl), (Nat.le_of_ble_eq_true rfl)⟩) (pre_V3 (wa := []) (wc := (wM r cI cZ cJ 1 k V C A T B P OR n PR ST li w WK so sp CT FW)) (wb := ((wX q cI cZ cJ k V C T B P A n PR ST li w WK so sp CT SC TA) ++ [(qo, .inl (cJ, 1, .inr (.inl O)))])) hP hK hD hS hA hZ hg 0 (ci := 1) rfl rfl) rfl rfl hl.1 rfl (lv_room (Nat.le_of_ble_eq_true rfl)) dL_law_1031 ⟨(show (((27 + 8 * jj) + 2) + 0) + 0 ≤ 601024 by omega), (show (((20244 + 64 * jj) + 12) + 0) + 0 ≤ 7293034 by omega)⟩) hP hD hS hA (fun rr u2 H locs hq hP hD hS => ?_)
    replace hq : rr = nI 1 := hq
    subst hq
    have hP : va_P D vwCl ((wM r cI cZ cJ 1 k V C A T B P OR n PR ST li w WK so sp CT FW) ++ ((wX q cI cZ cJ k V C T B P A n PR ST li w WK so sp CT SC TA) ++ [(qo, .inl (cJ, 1, .inr (.inl O)))])) H := hP
    have hD : va_D (lA s) ((wM r cI cZ cJ 1 k V C A T B P OR n PR ST li w WK so sp CT FW) ++ ((wX q cI cZ cJ k V C T B P A n PR ST li w WK so sp CT SC TA) ++ [(qo, .inl (cJ, 1, .inr (.inl O)))])) := hD
    refine lv_iload hx hb dL_law_1034 (lv_at hl 1 rfl) ?_
    refine lv_icmp_eq (tgt := 1041) hx hb dL_law_1036 (by decide) (fun _ => ?_) (fun h => absurd rfl h)
    refine lv_iload hx hb dL_law_1041 (lv_at hl 1 rfl) ?_
    refine n_if_ne (tgt := 1058) hx hb (by decide) dL_law_1043 (by decide) (fun c1043 => ?_) (fun c1043 => ?_)
    · refine lv_goto (tgt := 1433) hx hb dL_law_1058 (by decide) ?_
      refine W.widen (k := 27 + 8 * (jj + 1)) (n := 20244 + 64 * (jj + 1)) (by omega) (by omega) ?_
      exact hN 1 k V C T B P A OR n PR ST li w WK so sp CT SC TA FW O _ _ hI hP hD hS ls (lv_sub hl [2, 3, 4, 5, 6] rfl)
    · exact absurd c1043 (by decide)

set_option maxHeartbeats 8000000 in
set_option maxRecDepth 100000 in
theorem lw_fewest (hst : l.stackTraces = false) (hc : Lc p s m meth c b L xs D cI cZ cJ) {r q : Nat → Nat} {qo jj : Nat} (hj : 4 * jj + 4 ≤ L) {th : Nat} {k : Nat} {V : Nat → Nat} {C : Nat → Nat} {T : Nat → Nat} {B : Nat → Nat} {P : Nat → Nat} {A : Nat → Nat} {OR : Nat → Nat} {n : Nat} {PR : Nat → Nat} {ST : Nat → Nat} {li : Nat} {w : Nat} {WK : Nat → Nat} {so : Nat} {sp : Nat} {CT : Nat → Int64} {SC : Nat → Int} {TA : Nat → Nat} {FW : Nat → Nat} {O : Nat → Int64} {H : Heap} {locs : List Loc} (hI : IV k V C T A OR n PR ST li w WK so sp) (hP : va_P D vwCl (wL r q qo cI cZ cJ th k V C T B P A OR n PR ST li w WK so sp CT SC TA FW O) H) (hD : va_D (lA s) (wL r q qo cI cZ cJ th k V C T B P A OR n PR ST li w WK so sp CT SC TA FW O)) (hS : va_S (lA s) s.heap H locs) {ls : Array Slot} (hl : lv_has ls 9 [(4, .int (nI (4 * jj))), (3, .ref qo), (2, .ref (r 0)), (1, .ref (q 0)), (0, .ref b)]) (hN : Nx p l e s m below meth c b D r q qo cI cZ cJ Q jj) : W p l e room_1 s m #[Value.ref b] below meth c H locs (27 + 8 * jj) (20244 + 64 * jj) Q (F0 m 1061 ls []) := by
  obtain ⟨hx, hb, hr, hml, hown, hts, hX, hbl, hlocks, hK, hZ, hg, hn, hL⟩ := hc
  have hA : ∀ q9 : Nat, s.heap.size ≤ q9 → lA s q9 := fun _ h => h
  have hbA : ¬ lA s b := Nat.not_le.mpr hbl
  have hP : va_P D vwCl ((wM r cI cZ cJ th k V C A T B P OR n PR ST li w WK so sp CT FW) ++ ((wX q cI cZ cJ k V C T B P A n PR ST li w WK so sp CT SC TA) ++ [(qo, .inl (cJ, 1, .inr (.inl O)))])) H := hP
  have hD : va_D (lA s) ((wM r cI cZ cJ th k V C A T B P OR n PR ST li w WK so sp CT FW) ++ ((wX q cI cZ cJ k V C T B P A n PR ST li w WK so sp CT SC TA) ++ [(qo, .inl (cJ, 1, .inr (.inl O)))])) := hD
  refine lv_aload_n hx hb dL_law_1061 rfl (lv_at hl 3 rfl) ?_
  refine lv_aload_n hx hb dL_law_1062 rfl (lv_at hl 4 rfl) ?_
  refine lv_iload hx hb dL_law_1063 (lv_at hl 0 rfl) ?_
  refine lv_iconst (v := nI 1) hx hb dL_law_1065 (ic_1) ?_
  refine n_iadd hx hb dL_law_1066 ?_
  refine n_sld hx hb hX hbl hbA hS (by omega) (by omega) dL_law_1067 ?_
  refine lv_aload_n hx hb dL_law_1068 rfl (lv_at hl 1 rfl) ?_
  refine k3_i (mc := 1) (ms := 6) (wa := (wM r cI cZ cJ th k V C A T B P OR n PR ST li w WK so sp CT FW)) (wc := ((wX q cI cZ cJ k V C T B P A n PR ST li w WK so sp CT SC TA) ++ [(qo, .inl (cJ, 1, .inr (.inl O)))])) (wb := []) (vx_runSW (As := [.ref (q 0), .int (xs ((4 * jj) + 1)), .ref qo]) (rest := []) ⟨hx, hb, hml, hown, hts⟩ (c_L_fewest l hst D q qo cI cZ cJ k V C T B P A n PR ST li w WK so sp CT SC TA O H.size (xs ((4 * jj) + 1)) hI.hk8 hI.hV hI.hC) (vx_cwSW 3 hts gL_law_L_fewest rfl rfl rfl hd_L_fewest.2 ⟨(Nat.le_of_ble_eq_true rfl), (Nat.le_of_ble_eq_true rfl)⟩) (pre_N (wa := (wM r cI cZ cJ th k V C A T B P OR n PR ST li w WK so sp CT FW)) (wc := ((wX q cI cZ cJ k V C T B P A n PR ST li w WK so sp CT SC TA) ++ [(qo, .inl (cJ, 1, .inr (.inl O)))])) (wb := []) hP hK hD hS hA hZ hg hn) rfl rfl hl.1 rfl (lv_room (Nat.le_of_ble_eq_true rfl)) dL_law_1069 ⟨(show (27 + 8 * jj) + 1 ≤ 601024 by omega), (show (20244 + 64 * jj) + 6 ≤ 7293034 by omega)⟩) hP hD hS hA (fun rr u H locs hp hP hD hS => ?_)
  rcases u with u | kk
  · replace hp : rr = nI 0 ∧ (u.1 < 2001 ∧ (xs ((4 * jj) + 1)) = nI u.1 ∧ fwR T V k u.1 u.2.1) := hp
    obtain ⟨rfl, hp⟩ := hp
    have hP : va_P D vwCl ((wM r cI cZ cJ th k V C A T B P OR n PR ST li w WK so sp CT FW) ++ ((wX q cI cZ cJ k V C T B P A n PR ST li w WK so sp CT u.2.2 TA) ++ [(qo, .inl (cJ, 1, .inr (.inl (vp_updL O 0 ((nI u.2.1).toInt64)))))])) H := hP
    have hD : va_D (lA s) ((wM r cI cZ cJ th k V C A T B P OR n PR ST li w WK so sp CT FW) ++ ((wX q cI cZ cJ k V C T B P A n PR ST li w WK so sp CT u.2.2 TA) ++ [(qo, .inl (cJ, 1, .inr (.inl (vp_updL O 0 ((nI u.2.1).toInt64)))))])) := hD
    refine lv_istore (lv' := [(5, .int (nI 0)), (4, .int (nI (4 * jj))), (3, .ref qo), (2, .ref (r 0)), (1, .ref (q 0)), (0, .ref b)]) hx hb dL_law_1072 hl (by decide) rfl (fun ls hl => ?_)
    refine lv_aload_n hx hb dL_law_1074 rfl (lv_at hl 3 rfl) ?_
    refine lv_aload_n hx hb dL_law_1075 rfl (lv_at hl 5 rfl) ?_
    refine lv_iload hx hb dL_law_1076 (lv_at hl 1 rfl) ?_
    refine lv_iconst (v := nI 1) hx hb dL_law_1078 (ic_1) ?_
    refine n_iadd hx hb dL_law_1079 ?_
    refine n_sld hx hb hX hbl hbA hS (by omega) (by omega) dL_law_1080 ?_
    refine k3_i (mc := 0) (ms := 0) (wa := []) (wc := (wM r cI cZ cJ th k V C A T B P OR n PR ST li w WK so sp CT FW)) (wb := ((wX q cI cZ cJ k V C T B P A n PR ST li w WK so sp CT u.2.2 TA) ++ [(qo, .inl (cJ, 1, .inr (.inl (vp_updL O 0 ((nI u.2.1).toInt64)))))])) (va_runV (As := [.int (xs ((4 * jj) + 1))]) (rest := []) ⟨hx, hb, hml, hown, hts⟩ (c_X1_fewest l hst D r cI cZ cJ th k V C A T B P OR n PR ST li w WK so sp CT FW H.size (xs ((4 * jj) + 1)) hI.hk8 hI.hV hI.hC hI.hOR) (cwV 1 hts gL_law_X1_fewest rfl rfl rfl hd_X1_fewest ⟨(Nat.le_of_ble_eq_true rfl), (Nat.le_of_ble_eq_true rfl)⟩) (pre_V3 (wa := []) (wc := (wM r cI cZ cJ th k V C A T B P OR n PR ST li w WK so sp CT FW)) (wb := ((wX q cI cZ cJ k V C T B P A n PR ST li w WK so sp CT u.2.2 TA) ++ [(qo, .inl (cJ, 1, .inr (.inl (vp_updL O 0 ((nI u.2.1).toInt64)))))])) hP hK hD hS hA hZ hg 0 (ci := 1) rfl rfl) rfl rfl hl.1 rfl (lv_room (Nat.le_of_ble_eq_true rfl)) dL_law_1081 ⟨(show ((27 + 8 * jj) + 1) + 0 ≤ 601024 by omega), (show ((20244 + 64 * jj) + 6) + 0 ≤ 7293034 by omega)⟩) hP hD hS hA (fun rr u2 H locs hq hP hD hS => ?_)
    obtain ⟨v0, v1, v2⟩ := u2
    replace hq : rr = nI v0 ∧ ((v1 = 0 ∧ ∃ i, i < 2001 ∧ (xs ((4 * jj) + 1)) = nI i ∧ fwR T V k i v0) ∨ (v1 = 1 ∧ ¬ rg (xs ((4 * jj) + 1)) 0 2001)) := hq
    obtain ⟨hr9, hq⟩ := hq
    replace hr9 := hr9.symm
    subst hr9
    have hP : va_P D vwCl ((wM r cI cZ cJ v1 k V C A T B P OR n PR ST li w WK so sp CT v2) ++ ((wX q cI cZ cJ k V C T B P A n PR ST li w WK so sp CT u.2.2 TA) ++ [(qo, .inl (cJ, 1, .inr (.inl (vp_updL O 0 ((nI u.2.1).toInt64)))))])) H := hP
    have hD : va_D (lA s) ((wM r cI cZ cJ v1 k V C A T B P OR n PR ST li w WK so sp CT v2) ++ ((wX q cI cZ cJ k V C T B P A n PR ST li w WK so sp CT u.2.2 TA) ++ [(qo, .inl (cJ, 1, .inr (.inl (vp_updL O 0 ((nI u.2.1).toInt64)))))])) := hD
    obtain ⟨e0, e1⟩ := q_fewest_0  hp hq
    have e0 := e0.symm
    subst e0
    have e1 := e1.symm
    subst e1
    refine lv_istore (lv' := [(6, .int (nI u.2.1)), (5, .int (nI 0)), (4, .int (nI (4 * jj))), (3, .ref qo), (2, .ref (r 0)), (1, .ref (q 0)), (0, .ref b)]) hx hb dL_law_1084 hl (by decide) rfl (fun ls hl => ?_)
    refine lv_aload_n hx hb dL_law_1086 rfl (lv_at hl 4 rfl) ?_
    refine k3_i (mc := 0) (ms := 0) (wa := []) (wc := (wM r cI cZ cJ 0 k V C A T B P OR n PR ST li w WK so sp CT v2)) (wb := ((wX q cI cZ cJ k V C T B P A n PR ST li w WK so sp CT u.2.2 TA) ++ [(qo, .inl (cJ, 1, .inr (.inl (vp_updL O 0 ((nI u.2.1).toInt64)))))])) (va_runV (As := []) (rest := []) ⟨hx, hb, hml, hown, hts⟩ (c_X1_thrown l hst D r cI cZ cJ 0 k V C A T B P OR n PR ST li w WK so sp CT v2 H.size  ) (cwV 0 hts gL_law_X1_thrown rfl rfl rfl hd_X1_thrown ⟨(Nat.le_of_ble_eq_true rfl), (Nat.le_of_ble_eq_true rfl)⟩) (pre_V3 (wa := []) (wc := (wM r cI cZ cJ 0 k V C A T B P OR n PR ST li w WK so sp CT v2)) (wb := ((wX q cI cZ cJ k V C T B P A n PR ST li w WK so sp CT u.2.2 TA) ++ [(qo, .inl (cJ, 1, .inr (.inl (vp_updL O 0 ((nI u.2.1).toInt64)))))])) hP hK hD hS hA hZ hg 0 (ci := 1) rfl rfl) rfl rfl hl.1 rfl (lv_room (Nat.le_of_ble_eq_true rfl)) dL_law_1087 ⟨(show (((27 + 8 * jj) + 1) + 0) + 0 ≤ 601024 by omega), (show (((20244 + 64 * jj) + 6) + 0) + 0 ≤ 7293034 by omega)⟩) hP hD hS hA (fun rr u2 H locs hq hP hD hS => ?_)
    replace hq : rr = nI 0 := hq
    subst hq
    have hP : va_P D vwCl ((wM r cI cZ cJ 0 k V C A T B P OR n PR ST li w WK so sp CT v2) ++ ((wX q cI cZ cJ k V C T B P A n PR ST li w WK so sp CT u.2.2 TA) ++ [(qo, .inl (cJ, 1, .inr (.inl (vp_updL O 0 ((nI u.2.1).toInt64)))))])) H := hP
    have hD : va_D (lA s) ((wM r cI cZ cJ 0 k V C A T B P OR n PR ST li w WK so sp CT v2) ++ ((wX q cI cZ cJ k V C T B P A n PR ST li w WK so sp CT u.2.2 TA) ++ [(qo, .inl (cJ, 1, .inr (.inl (vp_updL O 0 ((nI u.2.1).toInt64)))))])) := hD
    refine lv_iload hx hb dL_law_1090 (lv_at hl 1 rfl) ?_
    refine lv_icmp_eq (tgt := 1097) hx hb dL_law_1092 (by decide) (fun _ => ?_) (fun h => absurd rfl h)
    refine lv_iload hx hb dL_law_1097 (lv_at hl 1 rfl) ?_
    refine n_if_ne (tgt := 1114) hx hb (by decide) dL_law_1099 (by decide) (fun c1099 => ?_) (fun c1099 => ?_)
    · exact absurd c1099 (by decide)
    · refine lv_aload_n hx hb dL_law_1102 rfl (lv_at hl 3 rfl) ?_
      refine lv_iconst (v := nI 0) hx hb dL_law_1103 (ic_0) ?_
      refine n_lald hx hb hK hP 26 2 rfl rfl (by decide) (by decide) dL_law_1104 ?_
      refine n_topl (show (vp_updL O 0 ((nI u.2.1).toInt64)) 0 = (nI u.2.1).toInt64 from updL_s) ?_
      refine lv_iload hx hb dL_law_1105 (lv_at hl 0 rfl) ?_
      refine lv_i2l hx hb dL_law_1107 rfl ?_
      refine n_lcmp_eq (tgt := 1114) hx hb dL_law_1108 dL_law_1109 (by decide) (fun _ => ?_) (fun h => absurd rfl h)
      refine lv_goto (tgt := 1433) hx hb dL_law_1114 (by decide) ?_
      refine W.widen (k := 27 + 8 * (jj + 1)) (n := 20244 + 64 * (jj + 1)) (by omega) (by omega) ?_
      exact hN 0 k V C T B P A OR n PR ST li w WK so sp CT u.2.2 TA v2 (vp_updL O 0 ((nI u.2.1).toInt64)) _ _ hI hP hD hS ls (lv_sub hl [2, 3, 4, 5, 6] rfl)
  · replace hp : rr = nI kk ∧ ((kk = 1 ∧ (¬ rg (xs ((4 * jj) + 1)) 0 2001))) := hp
    obtain ⟨rfl, hp⟩ := hp
    have hP : va_P D vwCl ((wM r cI cZ cJ th k V C A T B P OR n PR ST li w WK so sp CT FW) ++ ((wX q cI cZ cJ k V C T B P A n PR ST li w WK so sp CT SC TA) ++ [(qo, .inl (cJ, 1, .inr (.inl O)))])) H := hP
    have hD : va_D (lA s) ((wM r cI cZ cJ th k V C A T B P OR n PR ST li w WK so sp CT FW) ++ ((wX q cI cZ cJ k V C T B P A n PR ST li w WK so sp CT SC TA) ++ [(qo, .inl (cJ, 1, .inr (.inl O)))])) := hD
    obtain ⟨rfl, hp⟩ := hp
    refine lv_istore (lv' := [(5, .int (nI 1)), (4, .int (nI (4 * jj))), (3, .ref qo), (2, .ref (r 0)), (1, .ref (q 0)), (0, .ref b)]) hx hb dL_law_1072 hl (by decide) rfl (fun ls hl => ?_)
    refine lv_aload_n hx hb dL_law_1074 rfl (lv_at hl 3 rfl) ?_
    refine lv_aload_n hx hb dL_law_1075 rfl (lv_at hl 5 rfl) ?_
    refine lv_iload hx hb dL_law_1076 (lv_at hl 1 rfl) ?_
    refine lv_iconst (v := nI 1) hx hb dL_law_1078 (ic_1) ?_
    refine n_iadd hx hb dL_law_1079 ?_
    refine n_sld hx hb hX hbl hbA hS (by omega) (by omega) dL_law_1080 ?_
    refine k3_i (mc := 0) (ms := 0) (wa := []) (wc := (wM r cI cZ cJ th k V C A T B P OR n PR ST li w WK so sp CT FW)) (wb := ((wX q cI cZ cJ k V C T B P A n PR ST li w WK so sp CT SC TA) ++ [(qo, .inl (cJ, 1, .inr (.inl O)))])) (va_runV (As := [.int (xs ((4 * jj) + 1))]) (rest := []) ⟨hx, hb, hml, hown, hts⟩ (c_X1_fewest l hst D r cI cZ cJ th k V C A T B P OR n PR ST li w WK so sp CT FW H.size (xs ((4 * jj) + 1)) hI.hk8 hI.hV hI.hC hI.hOR) (cwV 1 hts gL_law_X1_fewest rfl rfl rfl hd_X1_fewest ⟨(Nat.le_of_ble_eq_true rfl), (Nat.le_of_ble_eq_true rfl)⟩) (pre_V3 (wa := []) (wc := (wM r cI cZ cJ th k V C A T B P OR n PR ST li w WK so sp CT FW)) (wb := ((wX q cI cZ cJ k V C T B P A n PR ST li w WK so sp CT SC TA) ++ [(qo, .inl (cJ, 1, .inr (.inl O)))])) hP hK hD hS hA hZ hg 0 (ci := 1) rfl rfl) rfl rfl hl.1 rfl (lv_room (Nat.le_of_ble_eq_true rfl)) dL_law_1081 ⟨(show ((27 + 8 * jj) + 1) + 0 ≤ 601024 by omega), (show ((20244 + 64 * jj) + 6) + 0 ≤ 7293034 by omega)⟩) hP hD hS hA (fun rr u2 H locs hq hP hD hS => ?_)
    obtain ⟨v0, v1, v2⟩ := u2
    replace hq : rr = nI v0 ∧ ((v1 = 0 ∧ ∃ i, i < 2001 ∧ (xs ((4 * jj) + 1)) = nI i ∧ fwR T V k i v0) ∨ (v1 = 1 ∧ ¬ rg (xs ((4 * jj) + 1)) 0 2001)) := hq
    obtain ⟨hr9, hq⟩ := hq
    replace hr9 := hr9.symm
    subst hr9
    have hP : va_P D vwCl ((wM r cI cZ cJ v1 k V C A T B P OR n PR ST li w WK so sp CT v2) ++ ((wX q cI cZ cJ k V C T B P A n PR ST li w WK so sp CT SC TA) ++ [(qo, .inl (cJ, 1, .inr (.inl O)))])) H := hP
    have hD : va_D (lA s) ((wM r cI cZ cJ v1 k V C A T B P OR n PR ST li w WK so sp CT v2) ++ ((wX q cI cZ cJ k V C T B P A n PR ST li w WK so sp CT SC TA) ++ [(qo, .inl (cJ, 1, .inr (.inl O)))])) := hD
    have e0 := q_fewest_1  hp hq
    have e0 := e0.symm
    subst e0
    refine lv_istore (lv' := [(6, .int (nI v0)), (5, .int (nI 1)), (4, .int (nI (4 * jj))), (3, .ref qo), (2, .ref (r 0)), (1, .ref (q 0)), (0, .ref b)]) hx hb dL_law_1084 hl (by decide) rfl (fun ls hl => ?_)
    refine lv_aload_n hx hb dL_law_1086 rfl (lv_at hl 4 rfl) ?_
    refine k3_i (mc := 0) (ms := 0) (wa := []) (wc := (wM r cI cZ cJ 1 k V C A T B P OR n PR ST li w WK so sp CT v2)) (wb := ((wX q cI cZ cJ k V C T B P A n PR ST li w WK so sp CT SC TA) ++ [(qo, .inl (cJ, 1, .inr (.inl O)))])) (va_runV (As := []) (rest := []) ⟨hx, hb, hml, hown, hts⟩ (c_X1_thrown l hst D r cI cZ cJ 1 k V C A T B P OR n PR ST li w WK so sp CT v2 H.size  ) (cwV 0 hts gL_law_X1_thrown rfl rfl rfl hd_X1_thrown ⟨(Nat.le_of_ble_eq_true rfl), (Nat.le_of_ble_eq_true rfl)⟩) (pre_V3 (wa := []) (wc := (wM r cI cZ cJ 1 k V C A T B P OR n PR ST li w WK so sp CT v2)) (wb := ((wX q cI cZ cJ k V C T B P A n PR ST li w WK so sp CT SC TA) ++ [(qo, .inl (cJ, 1, .inr (.inl O)))])) hP hK hD hS hA hZ hg 0 (ci := 1) rfl rfl) rfl rfl hl.1 rfl (lv_room (Nat.le_of_ble_eq_true rfl)) dL_law_1087 ⟨(show (((27 + 8 * jj) + 1) + 0) + 0 ≤ 601024 by omega), (show (((20244 + 64 * jj) + 6) + 0) + 0 ≤ 7293034 by omega)⟩) hP hD hS hA (fun rr u2 H locs hq hP hD hS => ?_)
    replace hq : rr = nI 1 := hq
    subst hq
    have hP : va_P D vwCl ((wM r cI cZ cJ 1 k V C A T B P OR n PR ST li w WK so sp CT v2) ++ ((wX q cI cZ cJ k V C T B P A n PR ST li w WK so sp CT SC TA) ++ [(qo, .inl (cJ, 1, .inr (.inl O)))])) H := hP
    have hD : va_D (lA s) ((wM r cI cZ cJ 1 k V C A T B P OR n PR ST li w WK so sp CT v2) ++ ((wX q cI cZ cJ k V C T B P A n PR ST li w WK so sp CT SC TA) ++ [(qo, .inl (cJ, 1, .inr (.inl O)))])) := hD
    refine lv_iload hx hb dL_law_1090 (lv_at hl 1 rfl) ?_
    refine lv_icmp_eq (tgt := 1097) hx hb dL_law_1092 (by decide) (fun _ => ?_) (fun h => absurd rfl h)
    refine lv_iload hx hb dL_law_1097 (lv_at hl 1 rfl) ?_
    refine n_if_ne (tgt := 1114) hx hb (by decide) dL_law_1099 (by decide) (fun c1099 => ?_) (fun c1099 => ?_)
    · refine lv_goto (tgt := 1433) hx hb dL_law_1114 (by decide) ?_
      refine W.widen (k := 27 + 8 * (jj + 1)) (n := 20244 + 64 * (jj + 1)) (by omega) (by omega) ?_
      exact hN 1 k V C T B P A OR n PR ST li w WK so sp CT SC TA v2 O _ _ hI hP hD hS ls (lv_sub hl [2, 3, 4, 5, 6] rfl)
    · exact absurd c1099 (by decide)

set_option maxHeartbeats 8000000 in
set_option maxRecDepth 100000 in
theorem lw_part (hst : l.stackTraces = false) (hc : Lc p s m meth c b L xs D cI cZ cJ) {r q : Nat → Nat} {qo jj : Nat} (hj : 4 * jj + 4 ≤ L) {th : Nat} {k : Nat} {V : Nat → Nat} {C : Nat → Nat} {T : Nat → Nat} {B : Nat → Nat} {P : Nat → Nat} {A : Nat → Nat} {OR : Nat → Nat} {n : Nat} {PR : Nat → Nat} {ST : Nat → Nat} {li : Nat} {w : Nat} {WK : Nat → Nat} {so : Nat} {sp : Nat} {CT : Nat → Int64} {SC : Nat → Int} {TA : Nat → Nat} {FW : Nat → Nat} {O : Nat → Int64} {H : Heap} {locs : List Loc} (hI : IV k V C T A OR n PR ST li w WK so sp) (hP : va_P D vwCl (wL r q qo cI cZ cJ th k V C T B P A OR n PR ST li w WK so sp CT SC TA FW O) H) (hD : va_D (lA s) (wL r q qo cI cZ cJ th k V C T B P A OR n PR ST li w WK so sp CT SC TA FW O)) (hS : va_S (lA s) s.heap H locs) {ls : Array Slot} (hl : lv_has ls 9 [(4, .int (nI (4 * jj))), (3, .ref qo), (2, .ref (r 0)), (1, .ref (q 0)), (0, .ref b)]) (hN : Nx p l e s m below meth c b D r q qo cI cZ cJ Q jj) : W p l e room_1 s m #[Value.ref b] below meth c H locs (27 + 8 * jj) (20244 + 64 * jj) Q (F0 m 1117 ls []) := by
  obtain ⟨hx, hb, hr, hml, hown, hts, hX, hbl, hlocks, hK, hZ, hg, hn, hL⟩ := hc
  have hA : ∀ q9 : Nat, s.heap.size ≤ q9 → lA s q9 := fun _ h => h
  have hbA : ¬ lA s b := Nat.not_le.mpr hbl
  have hP : va_P D vwCl ((wM r cI cZ cJ th k V C A T B P OR n PR ST li w WK so sp CT FW) ++ ((wX q cI cZ cJ k V C T B P A n PR ST li w WK so sp CT SC TA) ++ [(qo, .inl (cJ, 1, .inr (.inl O)))])) H := hP
  have hD : va_D (lA s) ((wM r cI cZ cJ th k V C A T B P OR n PR ST li w WK so sp CT FW) ++ ((wX q cI cZ cJ k V C T B P A n PR ST li w WK so sp CT SC TA) ++ [(qo, .inl (cJ, 1, .inr (.inl O)))])) := hD
  refine lv_aload_n hx hb dL_law_1117 rfl (lv_at hl 3 rfl) ?_
  refine lv_aload_n hx hb dL_law_1118 rfl (lv_at hl 4 rfl) ?_
  refine lv_iload hx hb dL_law_1119 (lv_at hl 0 rfl) ?_
  refine lv_iconst (v := nI 1) hx hb dL_law_1121 (ic_1) ?_
  refine n_iadd hx hb dL_law_1122 ?_
  refine n_sld hx hb hX hbl hbA hS (by omega) (by omega) dL_law_1123 ?_
  refine lv_aload_n hx hb dL_law_1124 rfl (lv_at hl 4 rfl) ?_
  refine lv_iload hx hb dL_law_1125 (lv_at hl 0 rfl) ?_
  refine lv_iconst (v := nI 2) hx hb dL_law_1127 (ic_2) ?_
  refine n_iadd hx hb dL_law_1128 ?_
  refine n_sld hx hb hX hbl hbA hS (by omega) (by omega) dL_law_1129 ?_
  refine lv_aload_n hx hb dL_law_1130 rfl (lv_at hl 1 rfl) ?_
  refine k3_i (mc := 2) (ms := 12) (wa := (wM r cI cZ cJ th k V C A T B P OR n PR ST li w WK so sp CT FW)) (wc := ((wX q cI cZ cJ k V C T B P A n PR ST li w WK so sp CT SC TA) ++ [(qo, .inl (cJ, 1, .inr (.inl O)))])) (wb := []) (vx_runSW (As := [.ref (q 0), .int (xs ((4 * jj) + 1)), .int (xs ((4 * jj) + 2)), .ref qo]) (rest := []) ⟨hx, hb, hml, hown, hts⟩ (c_L_part l hst D q qo cI cZ cJ k V C T B P A n PR ST li w WK so sp CT SC TA O H.size (xs ((4 * jj) + 1)) (xs ((4 * jj) + 2)) hI.hk8 hI.hV hI.hC) (vx_cwSW 4 hts gL_law_L_part rfl rfl rfl hd_L_part.2 ⟨(Nat.le_of_ble_eq_true rfl), (Nat.le_of_ble_eq_true rfl)⟩) (pre_N (wa := (wM r cI cZ cJ th k V C A T B P OR n PR ST li w WK so sp CT FW)) (wc := ((wX q cI cZ cJ k V C T B P A n PR ST li w WK so sp CT SC TA) ++ [(qo, .inl (cJ, 1, .inr (.inl O)))])) (wb := []) hP hK hD hS hA hZ hg hn) rfl rfl hl.1 rfl (lv_room (Nat.le_of_ble_eq_true rfl)) dL_law_1131 ⟨(show (27 + 8 * jj) + 2 ≤ 601024 by omega), (show (20244 + 64 * jj) + 12 ≤ 7293034 by omega)⟩) hP hD hS hA (fun rr u H locs hp hP hD hS => ?_)
  rcases u with u | kk
  · replace hp : rr = nI 0 ∧ (u.1 < 2001 ∧ u.2.1 < k ∧ (xs ((4 * jj) + 1)) = nI u.1 ∧ (xs ((4 * jj) + 2)) = nI u.2.1 ∧ ptR T V k u.1 u.2.1 u.2.2.1) := hp
    obtain ⟨rfl, hp⟩ := hp
    have hP : va_P D vwCl ((wM r cI cZ cJ th k V C A T B P OR n PR ST li w WK so sp CT FW) ++ ((wX q cI cZ cJ k V C T B P A n PR ST li w WK so sp CT u.2.2.2 TA) ++ [(qo, .inl (cJ, 1, .inr (.inl (vp_updL O 0 ((nI u.2.2.1).toInt64)))))])) H := hP
    have hD : va_D (lA s) ((wM r cI cZ cJ th k V C A T B P OR n PR ST li w WK so sp CT FW) ++ ((wX q cI cZ cJ k V C T B P A n PR ST li w WK so sp CT u.2.2.2 TA) ++ [(qo, .inl (cJ, 1, .inr (.inl (vp_updL O 0 ((nI u.2.2.1).toInt64)))))])) := hD
    refine lv_istore (lv' := [(5, .int (nI 0)), (4, .int (nI (4 * jj))), (3, .ref qo), (2, .ref (r 0)), (1, .ref (q 0)), (0, .ref b)]) hx hb dL_law_1134 hl (by decide) rfl (fun ls hl => ?_)
    refine lv_aload_n hx hb dL_law_1136 rfl (lv_at hl 3 rfl) ?_
    refine lv_aload_n hx hb dL_law_1137 rfl (lv_at hl 5 rfl) ?_
    refine lv_iload hx hb dL_law_1138 (lv_at hl 1 rfl) ?_
    refine lv_iconst (v := nI 1) hx hb dL_law_1140 (ic_1) ?_
    refine n_iadd hx hb dL_law_1141 ?_
    refine n_sld hx hb hX hbl hbA hS (by omega) (by omega) dL_law_1142 ?_
    refine lv_aload_n hx hb dL_law_1143 rfl (lv_at hl 5 rfl) ?_
    refine lv_iload hx hb dL_law_1144 (lv_at hl 1 rfl) ?_
    refine lv_iconst (v := nI 2) hx hb dL_law_1146 (ic_2) ?_
    refine n_iadd hx hb dL_law_1147 ?_
    refine n_sld hx hb hX hbl hbA hS (by omega) (by omega) dL_law_1148 ?_
    refine k3_i (mc := 0) (ms := 0) (wa := []) (wc := (wM r cI cZ cJ th k V C A T B P OR n PR ST li w WK so sp CT FW)) (wb := ((wX q cI cZ cJ k V C T B P A n PR ST li w WK so sp CT u.2.2.2 TA) ++ [(qo, .inl (cJ, 1, .inr (.inl (vp_updL O 0 ((nI u.2.2.1).toInt64)))))])) (va_runV (As := [.int (xs ((4 * jj) + 1)), .int (xs ((4 * jj) + 2))]) (rest := []) ⟨hx, hb, hml, hown, hts⟩ (c_X1_part l hst D r cI cZ cJ th k V C A T B P OR n PR ST li w WK so sp CT FW H.size (xs ((4 * jj) + 1)) (xs ((4 * jj) + 2)) hI.hk8 hI.hV hI.hC hI.hOR) (cwV 2 hts gL_law_X1_part rfl rfl rfl hd_X1_part ⟨(Nat.le_of_ble_eq_true rfl), (Nat.le_of_ble_eq_true rfl)⟩) (pre_V3 (wa := []) (wc := (wM r cI cZ cJ th k V C A T B P OR n PR ST li w WK so sp CT FW)) (wb := ((wX q cI cZ cJ k V C T B P A n PR ST li w WK so sp CT u.2.2.2 TA) ++ [(qo, .inl (cJ, 1, .inr (.inl (vp_updL O 0 ((nI u.2.2.1).toInt64)))))])) hP hK hD hS hA hZ hg 0 (ci := 1) rfl rfl) rfl rfl hl.1 rfl (lv_room (Nat.le_of_ble_eq_true rfl)) dL_law_1149 ⟨(show ((27 + 8 * jj) + 2) + 0 ≤ 601024 by omega), (show ((20244 + 64 * jj) + 12) + 0 ≤ 7293034 by omega)⟩) hP hD hS hA (fun rr u2 H locs hq hP hD hS => ?_)
    obtain ⟨v0, v1, v2⟩ := u2
    replace hq : rr = nI v0 ∧ ((v1 = 0 ∧ ∃ i j, i < 2001 ∧ j < k ∧ (xs ((4 * jj) + 1)) = nI i ∧ (xs ((4 * jj) + 2)) = nI j ∧ ptR T V k i j v0) ∨ (v1 = 1 ∧ ¬ rg (xs ((4 * jj) + 1)) 0 2001) ∨ (v1 = 2 ∧ rg (xs ((4 * jj) + 1)) 0 2001 ∧ ¬ rg (xs ((4 * jj) + 2)) 0 k)) := hq
    obtain ⟨hr9, hq⟩ := hq
    replace hr9 := hr9.symm
    subst hr9
    have hP : va_P D vwCl ((wM r cI cZ cJ v1 k V C A T B P OR n PR ST li w WK so sp CT v2) ++ ((wX q cI cZ cJ k V C T B P A n PR ST li w WK so sp CT u.2.2.2 TA) ++ [(qo, .inl (cJ, 1, .inr (.inl (vp_updL O 0 ((nI u.2.2.1).toInt64)))))])) H := hP
    have hD : va_D (lA s) ((wM r cI cZ cJ v1 k V C A T B P OR n PR ST li w WK so sp CT v2) ++ ((wX q cI cZ cJ k V C T B P A n PR ST li w WK so sp CT u.2.2.2 TA) ++ [(qo, .inl (cJ, 1, .inr (.inl (vp_updL O 0 ((nI u.2.2.1).toInt64)))))])) := hD
    obtain ⟨e0, e1⟩ := q_part_0 hI.hk8 hp hq
    have e0 := e0.symm
    subst e0
    have e1 := e1.symm
    subst e1
    refine lv_istore (lv' := [(6, .int (nI u.2.2.1)), (5, .int (nI 0)), (4, .int (nI (4 * jj))), (3, .ref qo), (2, .ref (r 0)), (1, .ref (q 0)), (0, .ref b)]) hx hb dL_law_1152 hl (by decide) rfl (fun ls hl => ?_)
    refine lv_aload_n hx hb dL_law_1154 rfl (lv_at hl 4 rfl) ?_
    refine k3_i (mc := 0) (ms := 0) (wa := []) (wc := (wM r cI cZ cJ 0 k V C A T B P OR n PR ST li w WK so sp CT v2)) (wb := ((wX q cI cZ cJ k V C T B P A n PR ST li w WK so sp CT u.2.2.2 TA) ++ [(qo, .inl (cJ, 1, .inr (.inl (vp_updL O 0 ((nI u.2.2.1).toInt64)))))])) (va_runV (As := []) (rest := []) ⟨hx, hb, hml, hown, hts⟩ (c_X1_thrown l hst D r cI cZ cJ 0 k V C A T B P OR n PR ST li w WK so sp CT v2 H.size  ) (cwV 0 hts gL_law_X1_thrown rfl rfl rfl hd_X1_thrown ⟨(Nat.le_of_ble_eq_true rfl), (Nat.le_of_ble_eq_true rfl)⟩) (pre_V3 (wa := []) (wc := (wM r cI cZ cJ 0 k V C A T B P OR n PR ST li w WK so sp CT v2)) (wb := ((wX q cI cZ cJ k V C T B P A n PR ST li w WK so sp CT u.2.2.2 TA) ++ [(qo, .inl (cJ, 1, .inr (.inl (vp_updL O 0 ((nI u.2.2.1).toInt64)))))])) hP hK hD hS hA hZ hg 0 (ci := 1) rfl rfl) rfl rfl hl.1 rfl (lv_room (Nat.le_of_ble_eq_true rfl)) dL_law_1155 ⟨(show (((27 + 8 * jj) + 2) + 0) + 0 ≤ 601024 by omega), (show (((20244 + 64 * jj) + 12) + 0) + 0 ≤ 7293034 by omega)⟩) hP hD hS hA (fun rr u2 H locs hq hP hD hS => ?_)
    replace hq : rr = nI 0 := hq
    subst hq
    have hP : va_P D vwCl ((wM r cI cZ cJ 0 k V C A T B P OR n PR ST li w WK so sp CT v2) ++ ((wX q cI cZ cJ k V C T B P A n PR ST li w WK so sp CT u.2.2.2 TA) ++ [(qo, .inl (cJ, 1, .inr (.inl (vp_updL O 0 ((nI u.2.2.1).toInt64)))))])) H := hP
    have hD : va_D (lA s) ((wM r cI cZ cJ 0 k V C A T B P OR n PR ST li w WK so sp CT v2) ++ ((wX q cI cZ cJ k V C T B P A n PR ST li w WK so sp CT u.2.2.2 TA) ++ [(qo, .inl (cJ, 1, .inr (.inl (vp_updL O 0 ((nI u.2.2.1).toInt64)))))])) := hD
    refine lv_iload hx hb dL_law_1158 (lv_at hl 1 rfl) ?_
    refine lv_icmp_eq (tgt := 1165) hx hb dL_law_1160 (by decide) (fun _ => ?_) (fun h => absurd rfl h)
    refine lv_iload hx hb dL_law_1165 (lv_at hl 1 rfl) ?_
    refine n_if_ne (tgt := 1182) hx hb (by decide) dL_law_1167 (by decide) (fun c1167 => ?_) (fun c1167 => ?_)
    · exact absurd c1167 (by decide)
    · refine lv_aload_n hx hb dL_law_1170 rfl (lv_at hl 3 rfl) ?_
      refine lv_iconst (v := nI 0) hx hb dL_law_1171 (ic_0) ?_
      refine n_lald hx hb hK hP 26 2 rfl rfl (by decide) (by decide) dL_law_1172 ?_
      refine n_topl (show (vp_updL O 0 ((nI u.2.2.1).toInt64)) 0 = (nI u.2.2.1).toInt64 from updL_s) ?_
      refine lv_iload hx hb dL_law_1173 (lv_at hl 0 rfl) ?_
      refine lv_i2l hx hb dL_law_1175 rfl ?_
      refine n_lcmp_eq (tgt := 1182) hx hb dL_law_1176 dL_law_1177 (by decide) (fun _ => ?_) (fun h => absurd rfl h)
      refine lv_goto (tgt := 1433) hx hb dL_law_1182 (by decide) ?_
      refine W.widen (k := 27 + 8 * (jj + 1)) (n := 20244 + 64 * (jj + 1)) (by omega) (by omega) ?_
      exact hN 0 k V C T B P A OR n PR ST li w WK so sp CT u.2.2.2 TA v2 (vp_updL O 0 ((nI u.2.2.1).toInt64)) _ _ hI hP hD hS ls (lv_sub hl [2, 3, 4, 5, 6] rfl)
  · replace hp : rr = nI kk ∧ ((kk = 1 ∧ (¬ rg (xs ((4 * jj) + 1)) 0 2001)) ∨ (kk = 2 ∧ (rg (xs ((4 * jj) + 1)) 0 2001 ∧ ¬ rg (xs ((4 * jj) + 2)) 0 k))) := hp
    obtain ⟨rfl, hp⟩ := hp
    have hP : va_P D vwCl ((wM r cI cZ cJ th k V C A T B P OR n PR ST li w WK so sp CT FW) ++ ((wX q cI cZ cJ k V C T B P A n PR ST li w WK so sp CT SC TA) ++ [(qo, .inl (cJ, 1, .inr (.inl O)))])) H := hP
    have hD : va_D (lA s) ((wM r cI cZ cJ th k V C A T B P OR n PR ST li w WK so sp CT FW) ++ ((wX q cI cZ cJ k V C T B P A n PR ST li w WK so sp CT SC TA) ++ [(qo, .inl (cJ, 1, .inr (.inl O)))])) := hD
    rcases hp with ⟨rfl, hp⟩ | ⟨rfl, hp⟩
    · refine lv_istore (lv' := [(5, .int (nI 1)), (4, .int (nI (4 * jj))), (3, .ref qo), (2, .ref (r 0)), (1, .ref (q 0)), (0, .ref b)]) hx hb dL_law_1134 hl (by decide) rfl (fun ls hl => ?_)
      refine lv_aload_n hx hb dL_law_1136 rfl (lv_at hl 3 rfl) ?_
      refine lv_aload_n hx hb dL_law_1137 rfl (lv_at hl 5 rfl) ?_
      refine lv_iload hx hb dL_law_1138 (lv_at hl 1 rfl) ?_
      refine lv_iconst (v := nI 1) hx hb dL_law_1140 (ic_1) ?_
      refine n_iadd hx hb dL_law_1141 ?_
      refine n_sld hx hb hX hbl hbA hS (by omega) (by omega) dL_law_1142 ?_
      refine lv_aload_n hx hb dL_law_1143 rfl (lv_at hl 5 rfl) ?_
      refine lv_iload hx hb dL_law_1144 (lv_at hl 1 rfl) ?_
      refine lv_iconst (v := nI 2) hx hb dL_law_1146 (ic_2) ?_
      refine n_iadd hx hb dL_law_1147 ?_
      refine n_sld hx hb hX hbl hbA hS (by omega) (by omega) dL_law_1148 ?_
      refine k3_i (mc := 0) (ms := 0) (wa := []) (wc := (wM r cI cZ cJ th k V C A T B P OR n PR ST li w WK so sp CT FW)) (wb := ((wX q cI cZ cJ k V C T B P A n PR ST li w WK so sp CT SC TA) ++ [(qo, .inl (cJ, 1, .inr (.inl O)))])) (va_runV (As := [.int (xs ((4 * jj) + 1)), .int (xs ((4 * jj) + 2))]) (rest := []) ⟨hx, hb, hml, hown, hts⟩ (c_X1_part l hst D r cI cZ cJ th k V C A T B P OR n PR ST li w WK so sp CT FW H.size (xs ((4 * jj) + 1)) (xs ((4 * jj) + 2)) hI.hk8 hI.hV hI.hC hI.hOR) (cwV 2 hts gL_law_X1_part rfl rfl rfl hd_X1_part ⟨(Nat.le_of_ble_eq_true rfl), (Nat.le_of_ble_eq_true rfl)⟩) (pre_V3 (wa := []) (wc := (wM r cI cZ cJ th k V C A T B P OR n PR ST li w WK so sp CT FW)) (wb := ((wX q cI cZ cJ k V C T B P A n PR ST li w WK so sp CT SC TA) ++ [(qo, .inl (cJ, 1, .inr (.inl O)))])) hP hK hD hS hA hZ hg 0 (ci := 1) rfl rfl) rfl rfl hl.1 rfl (lv_room (Nat.le_of_ble_eq_true rfl)) dL_law_1149 ⟨(show ((27 + 8 * jj) + 2) + 0 ≤ 601024 by omega), (show ((20244 + 64 * jj) + 12) + 0 ≤ 7293034 by omega)⟩) hP hD hS hA (fun rr u2 H locs hq hP hD hS => ?_)
      obtain ⟨v0, v1, v2⟩ := u2
      replace hq : rr = nI v0 ∧ ((v1 = 0 ∧ ∃ i j, i < 2001 ∧ j < k ∧ (xs ((4 * jj) + 1)) = nI i ∧ (xs ((4 * jj) + 2)) = nI j ∧ ptR T V k i j v0) ∨ (v1 = 1 ∧ ¬ rg (xs ((4 * jj) + 1)) 0 2001) ∨ (v1 = 2 ∧ rg (xs ((4 * jj) + 1)) 0 2001 ∧ ¬ rg (xs ((4 * jj) + 2)) 0 k)) := hq
      obtain ⟨hr9, hq⟩ := hq
      replace hr9 := hr9.symm
      subst hr9
      have hP : va_P D vwCl ((wM r cI cZ cJ v1 k V C A T B P OR n PR ST li w WK so sp CT v2) ++ ((wX q cI cZ cJ k V C T B P A n PR ST li w WK so sp CT SC TA) ++ [(qo, .inl (cJ, 1, .inr (.inl O)))])) H := hP
      have hD : va_D (lA s) ((wM r cI cZ cJ v1 k V C A T B P OR n PR ST li w WK so sp CT v2) ++ ((wX q cI cZ cJ k V C T B P A n PR ST li w WK so sp CT SC TA) ++ [(qo, .inl (cJ, 1, .inr (.inl O)))])) := hD
      have e0 := q_part_1 hI.hk8 hp hq
      have e0 := e0.symm
      subst e0
      refine lv_istore (lv' := [(6, .int (nI v0)), (5, .int (nI 1)), (4, .int (nI (4 * jj))), (3, .ref qo), (2, .ref (r 0)), (1, .ref (q 0)), (0, .ref b)]) hx hb dL_law_1152 hl (by decide) rfl (fun ls hl => ?_)
      refine lv_aload_n hx hb dL_law_1154 rfl (lv_at hl 4 rfl) ?_
      refine k3_i (mc := 0) (ms := 0) (wa := []) (wc := (wM r cI cZ cJ 1 k V C A T B P OR n PR ST li w WK so sp CT v2)) (wb := ((wX q cI cZ cJ k V C T B P A n PR ST li w WK so sp CT SC TA) ++ [(qo, .inl (cJ, 1, .inr (.inl O)))])) (va_runV (As := []) (rest := []) ⟨hx, hb, hml, hown, hts⟩ (c_X1_thrown l hst D r cI cZ cJ 1 k V C A T B P OR n PR ST li w WK so sp CT v2 H.size  ) (cwV 0 hts gL_law_X1_thrown rfl rfl rfl hd_X1_thrown ⟨(Nat.le_of_ble_eq_true rfl), (Nat.le_of_ble_eq_true rfl)⟩) (pre_V3 (wa := []) (wc := (wM r cI cZ cJ 1 k V C A T B P OR n PR ST li w WK so sp CT v2)) (wb := ((wX q cI cZ cJ k V C T B P A n PR ST li w WK so sp CT SC TA) ++ [(qo, .inl (cJ, 1, .inr (.inl O)))])) hP hK hD hS hA hZ hg 0 (ci := 1) rfl rfl) rfl rfl hl.1 rfl (lv_room (Nat.le_of_ble_eq_true rfl)) dL_law_1155 ⟨(show (((27 + 8 * jj) + 2) + 0) + 0 ≤ 601024 by omega), (show (((20244 + 64 * jj) + 12) + 0) + 0 ≤ 7293034 by omega)⟩) hP hD hS hA (fun rr u2 H locs hq hP hD hS => ?_)
      replace hq : rr = nI 1 := hq
      subst hq
      have hP : va_P D vwCl ((wM r cI cZ cJ 1 k V C A T B P OR n PR ST li w WK so sp CT v2) ++ ((wX q cI cZ cJ k V C T B P A n PR ST li w WK so sp CT SC TA) ++ [(qo, .inl (cJ, 1, .inr (.inl O)))])) H := hP
      have hD : va_D (lA s) ((wM r cI cZ cJ 1 k V C A T B P OR n PR ST li w WK so sp CT v2) ++ ((wX q cI cZ cJ k V C T B P A n PR ST li w WK so sp CT SC TA) ++ [(qo, .inl (cJ, 1, .inr (.inl O)))])) := hD
      refine lv_iload hx hb dL_law_1158 (lv_at hl 1 rfl) ?_
      refine lv_icmp_eq (tgt := 1165) hx hb dL_law_1160 (by decide) (fun _ => ?_) (fun h => absurd rfl h)
      refine lv_iload hx hb dL_law_1165 (lv_at hl 1 rfl) ?_
      refine n_if_ne (tgt := 1182) hx hb (by decide) dL_law_1167 (by decide) (fun c1167 => ?_) (fun c1167 => ?_)
      · refine lv_goto (tgt := 1433) hx hb dL_law_1182 (by decide) ?_
        refine W.widen (k := 27 + 8 * (jj + 1)) (n := 20244 + 64 * (jj + 1)) (by omega) (by omega) ?_
        exact hN 1 k V C T B P A OR n PR ST li w WK so sp CT SC TA v2 O _ _ hI hP hD hS ls (lv_sub hl [2, 3, 4, 5, 6] rfl)
      · exact absurd c1167 (by decide)
    · refine lv_istore (lv' := [(5, .int (nI 2)), (4, .int (nI (4 * jj))), (3, .ref qo), (2, .ref (r 0)), (1, .ref (q 0)), (0, .ref b)]) hx hb dL_law_1134 hl (by decide) rfl (fun ls hl => ?_)
      refine lv_aload_n hx hb dL_law_1136 rfl (lv_at hl 3 rfl) ?_
      refine lv_aload_n hx hb dL_law_1137 rfl (lv_at hl 5 rfl) ?_
      refine lv_iload hx hb dL_law_1138 (lv_at hl 1 rfl) ?_
      refine lv_iconst (v := nI 1) hx hb dL_law_1140 (ic_1) ?_
      refine n_iadd hx hb dL_law_1141 ?_
      refine n_sld hx hb hX hbl hbA hS (by omega) (by omega) dL_law_1142 ?_
      refine lv_aload_n hx hb dL_law_1143 rfl (lv_at hl 5 rfl) ?_
      refine lv_iload hx hb dL_law_1144 (lv_at hl 1 rfl) ?_
      refine lv_iconst (v := nI 2) hx hb dL_law_1146 (ic_2) ?_
      refine n_iadd hx hb dL_law_1147 ?_
      refine n_sld hx hb hX hbl hbA hS (by omega) (by omega) dL_law_1148 ?_
      refine k3_i (mc := 0) (ms := 0) (wa := []) (wc := (wM r cI cZ cJ th k V C A T B P OR n PR ST li w WK so sp CT FW)) (wb := ((wX q cI cZ cJ k V C T B P A n PR ST li w WK so sp CT SC TA) ++ [(qo, .inl (cJ, 1, .inr (.inl O)))])) (va_runV (As := [.int (xs ((4 * jj) + 1)), .int (xs ((4 * jj) + 2))]) (rest := []) ⟨hx, hb, hml, hown, hts⟩ (c_X1_part l hst D r cI cZ cJ th k V C A T B P OR n PR ST li w WK so sp CT FW H.size (xs ((4 * jj) + 1)) (xs ((4 * jj) + 2)) hI.hk8 hI.hV hI.hC hI.hOR) (cwV 2 hts gL_law_X1_part rfl rfl rfl hd_X1_part ⟨(Nat.le_of_ble_eq_true rfl), (Nat.le_of_ble_eq_true rfl)⟩) (pre_V3 (wa := []) (wc := (wM r cI cZ cJ th k V C A T B P OR n PR ST li w WK so sp CT FW)) (wb := ((wX q cI cZ cJ k V C T B P A n PR ST li w WK so sp CT SC TA) ++ [(qo, .inl (cJ, 1, .inr (.inl O)))])) hP hK hD hS hA hZ hg 0 (ci := 1) rfl rfl) rfl rfl hl.1 rfl (lv_room (Nat.le_of_ble_eq_true rfl)) dL_law_1149 ⟨(show ((27 + 8 * jj) + 2) + 0 ≤ 601024 by omega), (show ((20244 + 64 * jj) + 12) + 0 ≤ 7293034 by omega)⟩) hP hD hS hA (fun rr u2 H locs hq hP hD hS => ?_)
      obtain ⟨v0, v1, v2⟩ := u2
      replace hq : rr = nI v0 ∧ ((v1 = 0 ∧ ∃ i j, i < 2001 ∧ j < k ∧ (xs ((4 * jj) + 1)) = nI i ∧ (xs ((4 * jj) + 2)) = nI j ∧ ptR T V k i j v0) ∨ (v1 = 1 ∧ ¬ rg (xs ((4 * jj) + 1)) 0 2001) ∨ (v1 = 2 ∧ rg (xs ((4 * jj) + 1)) 0 2001 ∧ ¬ rg (xs ((4 * jj) + 2)) 0 k)) := hq
      obtain ⟨hr9, hq⟩ := hq
      replace hr9 := hr9.symm
      subst hr9
      have hP : va_P D vwCl ((wM r cI cZ cJ v1 k V C A T B P OR n PR ST li w WK so sp CT v2) ++ ((wX q cI cZ cJ k V C T B P A n PR ST li w WK so sp CT SC TA) ++ [(qo, .inl (cJ, 1, .inr (.inl O)))])) H := hP
      have hD : va_D (lA s) ((wM r cI cZ cJ v1 k V C A T B P OR n PR ST li w WK so sp CT v2) ++ ((wX q cI cZ cJ k V C T B P A n PR ST li w WK so sp CT SC TA) ++ [(qo, .inl (cJ, 1, .inr (.inl O)))])) := hD
      have e0 := q_part_2 hI.hk8 hp hq
      have e0 := e0.symm
      subst e0
      refine lv_istore (lv' := [(6, .int (nI v0)), (5, .int (nI 2)), (4, .int (nI (4 * jj))), (3, .ref qo), (2, .ref (r 0)), (1, .ref (q 0)), (0, .ref b)]) hx hb dL_law_1152 hl (by decide) rfl (fun ls hl => ?_)
      refine lv_aload_n hx hb dL_law_1154 rfl (lv_at hl 4 rfl) ?_
      refine k3_i (mc := 0) (ms := 0) (wa := []) (wc := (wM r cI cZ cJ 2 k V C A T B P OR n PR ST li w WK so sp CT v2)) (wb := ((wX q cI cZ cJ k V C T B P A n PR ST li w WK so sp CT SC TA) ++ [(qo, .inl (cJ, 1, .inr (.inl O)))])) (va_runV (As := []) (rest := []) ⟨hx, hb, hml, hown, hts⟩ (c_X1_thrown l hst D r cI cZ cJ 2 k V C A T B P OR n PR ST li w WK so sp CT v2 H.size  ) (cwV 0 hts gL_law_X1_thrown rfl rfl rfl hd_X1_thrown ⟨(Nat.le_of_ble_eq_true rfl), (Nat.le_of_ble_eq_true rfl)⟩) (pre_V3 (wa := []) (wc := (wM r cI cZ cJ 2 k V C A T B P OR n PR ST li w WK so sp CT v2)) (wb := ((wX q cI cZ cJ k V C T B P A n PR ST li w WK so sp CT SC TA) ++ [(qo, .inl (cJ, 1, .inr (.inl O)))])) hP hK hD hS hA hZ hg 0 (ci := 1) rfl rfl) rfl rfl hl.1 rfl (lv_room (Nat.le_of_ble_eq_true rfl)) dL_law_1155 ⟨(show (((27 + 8 * jj) + 2) + 0) + 0 ≤ 601024 by omega), (show (((20244 + 64 * jj) + 12) + 0) + 0 ≤ 7293034 by omega)⟩) hP hD hS hA (fun rr u2 H locs hq hP hD hS => ?_)
      replace hq : rr = nI 2 := hq
      subst hq
      have hP : va_P D vwCl ((wM r cI cZ cJ 2 k V C A T B P OR n PR ST li w WK so sp CT v2) ++ ((wX q cI cZ cJ k V C T B P A n PR ST li w WK so sp CT SC TA) ++ [(qo, .inl (cJ, 1, .inr (.inl O)))])) H := hP
      have hD : va_D (lA s) ((wM r cI cZ cJ 2 k V C A T B P OR n PR ST li w WK so sp CT v2) ++ ((wX q cI cZ cJ k V C T B P A n PR ST li w WK so sp CT SC TA) ++ [(qo, .inl (cJ, 1, .inr (.inl O)))])) := hD
      refine lv_iload hx hb dL_law_1158 (lv_at hl 1 rfl) ?_
      refine lv_icmp_eq (tgt := 1165) hx hb dL_law_1160 (by decide) (fun _ => ?_) (fun h => absurd rfl h)
      refine lv_iload hx hb dL_law_1165 (lv_at hl 1 rfl) ?_
      refine n_if_ne (tgt := 1182) hx hb (by decide) dL_law_1167 (by decide) (fun c1167 => ?_) (fun c1167 => ?_)
      · refine lv_goto (tgt := 1433) hx hb dL_law_1182 (by decide) ?_
        refine W.widen (k := 27 + 8 * (jj + 1)) (n := 20244 + 64 * (jj + 1)) (by omega) (by omega) ?_
        exact hN 2 k V C T B P A OR n PR ST li w WK so sp CT SC TA v2 O _ _ hI hP hD hS ls (lv_sub hl [2, 3, 4, 5, 6] rfl)
      · exact absurd c1167 (by decide)

set_option maxHeartbeats 8000000 in
set_option maxRecDepth 100000 in
theorem lw_below (hst : l.stackTraces = false) (hc : Lc p s m meth c b L xs D cI cZ cJ) {r q : Nat → Nat} {qo jj : Nat} (hj : 4 * jj + 4 ≤ L) {th : Nat} {k : Nat} {V : Nat → Nat} {C : Nat → Nat} {T : Nat → Nat} {B : Nat → Nat} {P : Nat → Nat} {A : Nat → Nat} {OR : Nat → Nat} {n : Nat} {PR : Nat → Nat} {ST : Nat → Nat} {li : Nat} {w : Nat} {WK : Nat → Nat} {so : Nat} {sp : Nat} {CT : Nat → Int64} {SC : Nat → Int} {TA : Nat → Nat} {FW : Nat → Nat} {O : Nat → Int64} {H : Heap} {locs : List Loc} (hI : IV k V C T A OR n PR ST li w WK so sp) (hP : va_P D vwCl (wL r q qo cI cZ cJ th k V C T B P A OR n PR ST li w WK so sp CT SC TA FW O) H) (hD : va_D (lA s) (wL r q qo cI cZ cJ th k V C T B P A OR n PR ST li w WK so sp CT SC TA FW O)) (hS : va_S (lA s) s.heap H locs) {ls : Array Slot} (hl : lv_has ls 9 [(4, .int (nI (4 * jj))), (3, .ref qo), (2, .ref (r 0)), (1, .ref (q 0)), (0, .ref b)]) (hN : Nx p l e s m below meth c b D r q qo cI cZ cJ Q jj) : W p l e room_1 s m #[Value.ref b] below meth c H locs (27 + 8 * jj) (20244 + 64 * jj) Q (F0 m 1185 ls []) := by
  obtain ⟨hx, hb, hr, hml, hown, hts, hX, hbl, hlocks, hK, hZ, hg, hn, hL⟩ := hc
  have hA : ∀ q9 : Nat, s.heap.size ≤ q9 → lA s q9 := fun _ h => h
  have hbA : ¬ lA s b := Nat.not_le.mpr hbl
  have hP : va_P D vwCl ((wM r cI cZ cJ th k V C A T B P OR n PR ST li w WK so sp CT FW) ++ ((wX q cI cZ cJ k V C T B P A n PR ST li w WK so sp CT SC TA) ++ [(qo, .inl (cJ, 1, .inr (.inl O)))])) H := hP
  have hD : va_D (lA s) ((wM r cI cZ cJ th k V C A T B P OR n PR ST li w WK so sp CT FW) ++ ((wX q cI cZ cJ k V C T B P A n PR ST li w WK so sp CT SC TA) ++ [(qo, .inl (cJ, 1, .inr (.inl O)))])) := hD
  refine lv_aload_n hx hb dL_law_1185 rfl (lv_at hl 3 rfl) ?_
  refine lv_aload_n hx hb dL_law_1186 rfl (lv_at hl 4 rfl) ?_
  refine lv_iload hx hb dL_law_1187 (lv_at hl 0 rfl) ?_
  refine lv_iconst (v := nI 1) hx hb dL_law_1189 (ic_1) ?_
  refine n_iadd hx hb dL_law_1190 ?_
  refine n_sld hx hb hX hbl hbA hS (by omega) (by omega) dL_law_1191 ?_
  refine lv_aload_n hx hb dL_law_1192 rfl (lv_at hl 1 rfl) ?_
  refine k3_i (mc := 1) (ms := 6) (wa := (wM r cI cZ cJ th k V C A T B P OR n PR ST li w WK so sp CT FW)) (wc := ((wX q cI cZ cJ k V C T B P A n PR ST li w WK so sp CT SC TA) ++ [(qo, .inl (cJ, 1, .inr (.inl O)))])) (wb := []) (vx_runSW (As := [.ref (q 0), .int (xs ((4 * jj) + 1)), .ref qo]) (rest := []) ⟨hx, hb, hml, hown, hts⟩ (c_L_below l hst D q qo cI cZ cJ k V C T B P A n PR ST li w WK so sp CT SC TA O H.size (xs ((4 * jj) + 1)) hI.hk8 hI.hV hI.hC) (vx_cwSW 3 hts gL_law_L_below rfl rfl rfl hd_L_below.2 ⟨(Nat.le_of_ble_eq_true rfl), (Nat.le_of_ble_eq_true rfl)⟩) (pre_N (wa := (wM r cI cZ cJ th k V C A T B P OR n PR ST li w WK so sp CT FW)) (wc := ((wX q cI cZ cJ k V C T B P A n PR ST li w WK so sp CT SC TA) ++ [(qo, .inl (cJ, 1, .inr (.inl O)))])) (wb := []) hP hK hD hS hA hZ hg hn) rfl rfl hl.1 rfl (lv_room (Nat.le_of_ble_eq_true rfl)) dL_law_1193 ⟨(show (27 + 8 * jj) + 1 ≤ 601024 by omega), (show (20244 + 64 * jj) + 6 ≤ 7293034 by omega)⟩) hP hD hS hA (fun rr u H locs hp hP hD hS => ?_)
  rcases u with u | kk
  · replace hp : rr = nI 0 ∧ (u.1 < 2001 ∧ (xs ((4 * jj) + 1)) = nI u.1 ∧ blR T V k u.1 u.2.1) := hp
    obtain ⟨rfl, hp⟩ := hp
    have hP : va_P D vwCl ((wM r cI cZ cJ th k V C A T B P OR n PR ST li w WK so sp CT FW) ++ ((wX q cI cZ cJ k V C T B P A n PR ST li w WK so sp CT u.2.2 TA) ++ [(qo, .inl (cJ, 1, .inr (.inl (vp_updL O 0 ((nI u.2.1).toInt64)))))])) H := hP
    have hD : va_D (lA s) ((wM r cI cZ cJ th k V C A T B P OR n PR ST li w WK so sp CT FW) ++ ((wX q cI cZ cJ k V C T B P A n PR ST li w WK so sp CT u.2.2 TA) ++ [(qo, .inl (cJ, 1, .inr (.inl (vp_updL O 0 ((nI u.2.1).toInt64)))))])) := hD
    refine lv_istore (lv' := [(5, .int (nI 0)), (4, .int (nI (4 * jj))), (3, .ref qo), (2, .ref (r 0)), (1, .ref (q 0)), (0, .ref b)]) hx hb dL_law_1196 hl (by decide) rfl (fun ls hl => ?_)
    refine lv_aload_n hx hb dL_law_1198 rfl (lv_at hl 3 rfl) ?_
    refine lv_aload_n hx hb dL_law_1199 rfl (lv_at hl 5 rfl) ?_
    refine lv_iload hx hb dL_law_1200 (lv_at hl 1 rfl) ?_
    refine lv_iconst (v := nI 1) hx hb dL_law_1202 (ic_1) ?_
    refine n_iadd hx hb dL_law_1203 ?_
    refine n_sld hx hb hX hbl hbA hS (by omega) (by omega) dL_law_1204 ?_
    refine k3_i (mc := 0) (ms := 0) (wa := []) (wc := (wM r cI cZ cJ th k V C A T B P OR n PR ST li w WK so sp CT FW)) (wb := ((wX q cI cZ cJ k V C T B P A n PR ST li w WK so sp CT u.2.2 TA) ++ [(qo, .inl (cJ, 1, .inr (.inl (vp_updL O 0 ((nI u.2.1).toInt64)))))])) (va_runV (As := [.int (xs ((4 * jj) + 1))]) (rest := []) ⟨hx, hb, hml, hown, hts⟩ (c_X1_below l hst D r cI cZ cJ th k V C A T B P OR n PR ST li w WK so sp CT FW H.size (xs ((4 * jj) + 1)) hI.hk8 hI.hV hI.hC hI.hOR) (cwV 1 hts gL_law_X1_below rfl rfl rfl hd_X1_below ⟨(Nat.le_of_ble_eq_true rfl), (Nat.le_of_ble_eq_true rfl)⟩) (pre_V3 (wa := []) (wc := (wM r cI cZ cJ th k V C A T B P OR n PR ST li w WK so sp CT FW)) (wb := ((wX q cI cZ cJ k V C T B P A n PR ST li w WK so sp CT u.2.2 TA) ++ [(qo, .inl (cJ, 1, .inr (.inl (vp_updL O 0 ((nI u.2.1).toInt64)))))])) hP hK hD hS hA hZ hg 0 (ci := 1) rfl rfl) rfl rfl hl.1 rfl (lv_room (Nat.le_of_ble_eq_true rfl)) dL_law_1205 ⟨(show ((27 + 8 * jj) + 1) + 0 ≤ 601024 by omega), (show ((20244 + 64 * jj) + 6) + 0 ≤ 7293034 by omega)⟩) hP hD hS hA (fun rr u2 H locs hq hP hD hS => ?_)
    obtain ⟨v0, v1, v2⟩ := u2
    replace hq : rr = nI v0 ∧ ((v1 = 0 ∧ ∃ i, i < 2001 ∧ (xs ((4 * jj) + 1)) = nI i ∧ blR T V k i v0) ∨ (v1 = 1 ∧ ¬ rg (xs ((4 * jj) + 1)) 0 2001)) := hq
    obtain ⟨hr9, hq⟩ := hq
    replace hr9 := hr9.symm
    subst hr9
    have hP : va_P D vwCl ((wM r cI cZ cJ v1 k V C A T B P OR n PR ST li w WK so sp CT v2) ++ ((wX q cI cZ cJ k V C T B P A n PR ST li w WK so sp CT u.2.2 TA) ++ [(qo, .inl (cJ, 1, .inr (.inl (vp_updL O 0 ((nI u.2.1).toInt64)))))])) H := hP
    have hD : va_D (lA s) ((wM r cI cZ cJ v1 k V C A T B P OR n PR ST li w WK so sp CT v2) ++ ((wX q cI cZ cJ k V C T B P A n PR ST li w WK so sp CT u.2.2 TA) ++ [(qo, .inl (cJ, 1, .inr (.inl (vp_updL O 0 ((nI u.2.1).toInt64)))))])) := hD
    obtain ⟨e0, e1⟩ := q_below_0  hp hq
    have e0 := e0.symm
    subst e0
    have e1 := e1.symm
    subst e1
    refine lv_istore (lv' := [(6, .int (nI u.2.1)), (5, .int (nI 0)), (4, .int (nI (4 * jj))), (3, .ref qo), (2, .ref (r 0)), (1, .ref (q 0)), (0, .ref b)]) hx hb dL_law_1208 hl (by decide) rfl (fun ls hl => ?_)
    refine lv_aload_n hx hb dL_law_1210 rfl (lv_at hl 4 rfl) ?_
    refine k3_i (mc := 0) (ms := 0) (wa := []) (wc := (wM r cI cZ cJ 0 k V C A T B P OR n PR ST li w WK so sp CT v2)) (wb := ((wX q cI cZ cJ k V C T B P A n PR ST li w WK so sp CT u.2.2 TA) ++ [(qo, .inl (cJ, 1, .inr (.inl (vp_updL O 0 ((nI u.2.1).toInt64)))))])) (va_runV (As := []) (rest := []) ⟨hx, hb, hml, hown, hts⟩ (c_X1_thrown l hst D r cI cZ cJ 0 k V C A T B P OR n PR ST li w WK so sp CT v2 H.size  ) (cwV 0 hts gL_law_X1_thrown rfl rfl rfl hd_X1_thrown ⟨(Nat.le_of_ble_eq_true rfl), (Nat.le_of_ble_eq_true rfl)⟩) (pre_V3 (wa := []) (wc := (wM r cI cZ cJ 0 k V C A T B P OR n PR ST li w WK so sp CT v2)) (wb := ((wX q cI cZ cJ k V C T B P A n PR ST li w WK so sp CT u.2.2 TA) ++ [(qo, .inl (cJ, 1, .inr (.inl (vp_updL O 0 ((nI u.2.1).toInt64)))))])) hP hK hD hS hA hZ hg 0 (ci := 1) rfl rfl) rfl rfl hl.1 rfl (lv_room (Nat.le_of_ble_eq_true rfl)) dL_law_1211 ⟨(show (((27 + 8 * jj) + 1) + 0) + 0 ≤ 601024 by omega), (show (((20244 + 64 * jj) + 6) + 0) + 0 ≤ 7293034 by omega)⟩) hP hD hS hA (fun rr u2 H locs hq hP hD hS => ?_)
    replace hq : rr = nI 0 := hq
    subst hq
    have hP : va_P D vwCl ((wM r cI cZ cJ 0 k V C A T B P OR n PR ST li w WK so sp CT v2) ++ ((wX q cI cZ cJ k V C T B P A n PR ST li w WK so sp CT u.2.2 TA) ++ [(qo, .inl (cJ, 1, .inr (.inl (vp_updL O 0 ((nI u.2.1).toInt64)))))])) H := hP
    have hD : va_D (lA s) ((wM r cI cZ cJ 0 k V C A T B P OR n PR ST li w WK so sp CT v2) ++ ((wX q cI cZ cJ k V C T B P A n PR ST li w WK so sp CT u.2.2 TA) ++ [(qo, .inl (cJ, 1, .inr (.inl (vp_updL O 0 ((nI u.2.1).toInt64)))))])) := hD
    refine lv_iload hx hb dL_law_1214 (lv_at hl 1 rfl) ?_
    refine lv_icmp_eq (tgt := 1221) hx hb dL_law_1216 (by decide) (fun _ => ?_) (fun h => absurd rfl h)
    refine lv_iload hx hb dL_law_1221 (lv_at hl 1 rfl) ?_
    refine n_if_ne (tgt := 1238) hx hb (by decide) dL_law_1223 (by decide) (fun c1223 => ?_) (fun c1223 => ?_)
    · exact absurd c1223 (by decide)
    · refine lv_aload_n hx hb dL_law_1226 rfl (lv_at hl 3 rfl) ?_
      refine lv_iconst (v := nI 0) hx hb dL_law_1227 (ic_0) ?_
      refine n_lald hx hb hK hP 26 2 rfl rfl (by decide) (by decide) dL_law_1228 ?_
      refine n_topl (show (vp_updL O 0 ((nI u.2.1).toInt64)) 0 = (nI u.2.1).toInt64 from updL_s) ?_
      refine lv_iload hx hb dL_law_1229 (lv_at hl 0 rfl) ?_
      refine lv_i2l hx hb dL_law_1231 rfl ?_
      refine n_lcmp_eq (tgt := 1238) hx hb dL_law_1232 dL_law_1233 (by decide) (fun _ => ?_) (fun h => absurd rfl h)
      refine lv_goto (tgt := 1433) hx hb dL_law_1238 (by decide) ?_
      refine W.widen (k := 27 + 8 * (jj + 1)) (n := 20244 + 64 * (jj + 1)) (by omega) (by omega) ?_
      exact hN 0 k V C T B P A OR n PR ST li w WK so sp CT u.2.2 TA v2 (vp_updL O 0 ((nI u.2.1).toInt64)) _ _ hI hP hD hS ls (lv_sub hl [2, 3, 4, 5, 6] rfl)
  · replace hp : rr = nI kk ∧ ((kk = 1 ∧ (¬ rg (xs ((4 * jj) + 1)) 0 2001))) := hp
    obtain ⟨rfl, hp⟩ := hp
    have hP : va_P D vwCl ((wM r cI cZ cJ th k V C A T B P OR n PR ST li w WK so sp CT FW) ++ ((wX q cI cZ cJ k V C T B P A n PR ST li w WK so sp CT SC TA) ++ [(qo, .inl (cJ, 1, .inr (.inl O)))])) H := hP
    have hD : va_D (lA s) ((wM r cI cZ cJ th k V C A T B P OR n PR ST li w WK so sp CT FW) ++ ((wX q cI cZ cJ k V C T B P A n PR ST li w WK so sp CT SC TA) ++ [(qo, .inl (cJ, 1, .inr (.inl O)))])) := hD
    obtain ⟨rfl, hp⟩ := hp
    refine lv_istore (lv' := [(5, .int (nI 1)), (4, .int (nI (4 * jj))), (3, .ref qo), (2, .ref (r 0)), (1, .ref (q 0)), (0, .ref b)]) hx hb dL_law_1196 hl (by decide) rfl (fun ls hl => ?_)
    refine lv_aload_n hx hb dL_law_1198 rfl (lv_at hl 3 rfl) ?_
    refine lv_aload_n hx hb dL_law_1199 rfl (lv_at hl 5 rfl) ?_
    refine lv_iload hx hb dL_law_1200 (lv_at hl 1 rfl) ?_
    refine lv_iconst (v := nI 1) hx hb dL_law_1202 (ic_1) ?_
    refine n_iadd hx hb dL_law_1203 ?_
    refine n_sld hx hb hX hbl hbA hS (by omega) (by omega) dL_law_1204 ?_
    refine k3_i (mc := 0) (ms := 0) (wa := []) (wc := (wM r cI cZ cJ th k V C A T B P OR n PR ST li w WK so sp CT FW)) (wb := ((wX q cI cZ cJ k V C T B P A n PR ST li w WK so sp CT SC TA) ++ [(qo, .inl (cJ, 1, .inr (.inl O)))])) (va_runV (As := [.int (xs ((4 * jj) + 1))]) (rest := []) ⟨hx, hb, hml, hown, hts⟩ (c_X1_below l hst D r cI cZ cJ th k V C A T B P OR n PR ST li w WK so sp CT FW H.size (xs ((4 * jj) + 1)) hI.hk8 hI.hV hI.hC hI.hOR) (cwV 1 hts gL_law_X1_below rfl rfl rfl hd_X1_below ⟨(Nat.le_of_ble_eq_true rfl), (Nat.le_of_ble_eq_true rfl)⟩) (pre_V3 (wa := []) (wc := (wM r cI cZ cJ th k V C A T B P OR n PR ST li w WK so sp CT FW)) (wb := ((wX q cI cZ cJ k V C T B P A n PR ST li w WK so sp CT SC TA) ++ [(qo, .inl (cJ, 1, .inr (.inl O)))])) hP hK hD hS hA hZ hg 0 (ci := 1) rfl rfl) rfl rfl hl.1 rfl (lv_room (Nat.le_of_ble_eq_true rfl)) dL_law_1205 ⟨(show ((27 + 8 * jj) + 1) + 0 ≤ 601024 by omega), (show ((20244 + 64 * jj) + 6) + 0 ≤ 7293034 by omega)⟩) hP hD hS hA (fun rr u2 H locs hq hP hD hS => ?_)
    obtain ⟨v0, v1, v2⟩ := u2
    replace hq : rr = nI v0 ∧ ((v1 = 0 ∧ ∃ i, i < 2001 ∧ (xs ((4 * jj) + 1)) = nI i ∧ blR T V k i v0) ∨ (v1 = 1 ∧ ¬ rg (xs ((4 * jj) + 1)) 0 2001)) := hq
    obtain ⟨hr9, hq⟩ := hq
    replace hr9 := hr9.symm
    subst hr9
    have hP : va_P D vwCl ((wM r cI cZ cJ v1 k V C A T B P OR n PR ST li w WK so sp CT v2) ++ ((wX q cI cZ cJ k V C T B P A n PR ST li w WK so sp CT SC TA) ++ [(qo, .inl (cJ, 1, .inr (.inl O)))])) H := hP
    have hD : va_D (lA s) ((wM r cI cZ cJ v1 k V C A T B P OR n PR ST li w WK so sp CT v2) ++ ((wX q cI cZ cJ k V C T B P A n PR ST li w WK so sp CT SC TA) ++ [(qo, .inl (cJ, 1, .inr (.inl O)))])) := hD
    have e0 := q_below_1  hp hq
    have e0 := e0.symm
    subst e0
    refine lv_istore (lv' := [(6, .int (nI v0)), (5, .int (nI 1)), (4, .int (nI (4 * jj))), (3, .ref qo), (2, .ref (r 0)), (1, .ref (q 0)), (0, .ref b)]) hx hb dL_law_1208 hl (by decide) rfl (fun ls hl => ?_)
    refine lv_aload_n hx hb dL_law_1210 rfl (lv_at hl 4 rfl) ?_
    refine k3_i (mc := 0) (ms := 0) (wa := []) (wc := (wM r cI cZ cJ 1 k V C A T B P OR n PR ST li w WK so sp CT v2)) (wb := ((wX q cI cZ cJ k V C T B P A n PR ST li w WK so sp CT SC TA) ++ [(qo, .inl (cJ, 1, .inr (.inl O)))])) (va_runV (As := []) (rest := []) ⟨hx, hb, hml, hown, hts⟩ (c_X1_thrown l hst D r cI cZ cJ 1 k V C A T B P OR n PR ST li w WK so sp CT v2 H.size  ) (cwV 0 hts gL_law_X1_thrown rfl rfl rfl hd_X1_thrown ⟨(Nat.le_of_ble_eq_true rfl), (Nat.le_of_ble_eq_true rfl)⟩) (pre_V3 (wa := []) (wc := (wM r cI cZ cJ 1 k V C A T B P OR n PR ST li w WK so sp CT v2)) (wb := ((wX q cI cZ cJ k V C T B P A n PR ST li w WK so sp CT SC TA) ++ [(qo, .inl (cJ, 1, .inr (.inl O)))])) hP hK hD hS hA hZ hg 0 (ci := 1) rfl rfl) rfl rfl hl.1 rfl (lv_room (Nat.le_of_ble_eq_true rfl)) dL_law_1211 ⟨(show (((27 + 8 * jj) + 1) + 0) + 0 ≤ 601024 by omega), (show (((20244 + 64 * jj) + 6) + 0) + 0 ≤ 7293034 by omega)⟩) hP hD hS hA (fun rr u2 H locs hq hP hD hS => ?_)
    replace hq : rr = nI 1 := hq
    subst hq
    have hP : va_P D vwCl ((wM r cI cZ cJ 1 k V C A T B P OR n PR ST li w WK so sp CT v2) ++ ((wX q cI cZ cJ k V C T B P A n PR ST li w WK so sp CT SC TA) ++ [(qo, .inl (cJ, 1, .inr (.inl O)))])) H := hP
    have hD : va_D (lA s) ((wM r cI cZ cJ 1 k V C A T B P OR n PR ST li w WK so sp CT v2) ++ ((wX q cI cZ cJ k V C T B P A n PR ST li w WK so sp CT SC TA) ++ [(qo, .inl (cJ, 1, .inr (.inl O)))])) := hD
    refine lv_iload hx hb dL_law_1214 (lv_at hl 1 rfl) ?_
    refine lv_icmp_eq (tgt := 1221) hx hb dL_law_1216 (by decide) (fun _ => ?_) (fun h => absurd rfl h)
    refine lv_iload hx hb dL_law_1221 (lv_at hl 1 rfl) ?_
    refine n_if_ne (tgt := 1238) hx hb (by decide) dL_law_1223 (by decide) (fun c1223 => ?_) (fun c1223 => ?_)
    · refine lv_goto (tgt := 1433) hx hb dL_law_1238 (by decide) ?_
      refine W.widen (k := 27 + 8 * (jj + 1)) (n := 20244 + 64 * (jj + 1)) (by omega) (by omega) ?_
      exact hN 1 k V C T B P A OR n PR ST li w WK so sp CT SC TA v2 O _ _ hI hP hD hS ls (lv_sub hl [2, 3, 4, 5, 6] rfl)
    · exact absurd c1223 (by decide)

set_option maxHeartbeats 8000000 in
set_option maxRecDepth 100000 in
theorem lw_gaps (hst : l.stackTraces = false) (hc : Lc p s m meth c b L xs D cI cZ cJ) {r q : Nat → Nat} {qo jj : Nat} (hj : 4 * jj + 4 ≤ L) {th : Nat} {k : Nat} {V : Nat → Nat} {C : Nat → Nat} {T : Nat → Nat} {B : Nat → Nat} {P : Nat → Nat} {A : Nat → Nat} {OR : Nat → Nat} {n : Nat} {PR : Nat → Nat} {ST : Nat → Nat} {li : Nat} {w : Nat} {WK : Nat → Nat} {so : Nat} {sp : Nat} {CT : Nat → Int64} {SC : Nat → Int} {TA : Nat → Nat} {FW : Nat → Nat} {O : Nat → Int64} {H : Heap} {locs : List Loc} (hI : IV k V C T A OR n PR ST li w WK so sp) (hP : va_P D vwCl (wL r q qo cI cZ cJ th k V C T B P A OR n PR ST li w WK so sp CT SC TA FW O) H) (hD : va_D (lA s) (wL r q qo cI cZ cJ th k V C T B P A OR n PR ST li w WK so sp CT SC TA FW O)) (hS : va_S (lA s) s.heap H locs) {ls : Array Slot} (hl : lv_has ls 9 [(4, .int (nI (4 * jj))), (3, .ref qo), (2, .ref (r 0)), (1, .ref (q 0)), (0, .ref b)]) (hN : Nx p l e s m below meth c b D r q qo cI cZ cJ Q jj) : W p l e room_1 s m #[Value.ref b] below meth c H locs (27 + 8 * jj) (20244 + 64 * jj) Q (F0 m 1241 ls []) := by
  obtain ⟨hx, hb, hr, hml, hown, hts, hX, hbl, hlocks, hK, hZ, hg, hn, hL⟩ := hc
  have hA : ∀ q9 : Nat, s.heap.size ≤ q9 → lA s q9 := fun _ h => h
  have hbA : ¬ lA s b := Nat.not_le.mpr hbl
  have hP : va_P D vwCl ((wM r cI cZ cJ th k V C A T B P OR n PR ST li w WK so sp CT FW) ++ ((wX q cI cZ cJ k V C T B P A n PR ST li w WK so sp CT SC TA) ++ [(qo, .inl (cJ, 1, .inr (.inl O)))])) H := hP
  have hD : va_D (lA s) ((wM r cI cZ cJ th k V C A T B P OR n PR ST li w WK so sp CT FW) ++ ((wX q cI cZ cJ k V C T B P A n PR ST li w WK so sp CT SC TA) ++ [(qo, .inl (cJ, 1, .inr (.inl O)))])) := hD
  refine lv_aload_n hx hb dL_law_1241 rfl (lv_at hl 3 rfl) ?_
  refine lv_aload_n hx hb dL_law_1242 rfl (lv_at hl 4 rfl) ?_
  refine lv_iload hx hb dL_law_1243 (lv_at hl 0 rfl) ?_
  refine lv_iconst (v := nI 1) hx hb dL_law_1245 (ic_1) ?_
  refine n_iadd hx hb dL_law_1246 ?_
  refine n_sld hx hb hX hbl hbA hS (by omega) (by omega) dL_law_1247 ?_
  refine lv_aload_n hx hb dL_law_1248 rfl (lv_at hl 1 rfl) ?_
  refine k3_i (mc := 1) (ms := 6) (wa := (wM r cI cZ cJ th k V C A T B P OR n PR ST li w WK so sp CT FW)) (wc := ((wX q cI cZ cJ k V C T B P A n PR ST li w WK so sp CT SC TA) ++ [(qo, .inl (cJ, 1, .inr (.inl O)))])) (wb := []) (vx_runSW (As := [.ref (q 0), .int (xs ((4 * jj) + 1)), .ref qo]) (rest := []) ⟨hx, hb, hml, hown, hts⟩ (c_L_gaps l hst D q qo cI cZ cJ k V C T B P A n PR ST li w WK so sp CT SC TA O H.size (xs ((4 * jj) + 1)) hI.hk8 hI.hV hI.hC) (vx_cwSW 3 hts gL_law_L_gaps rfl rfl rfl hd_L_gaps.2 ⟨(Nat.le_of_ble_eq_true rfl), (Nat.le_of_ble_eq_true rfl)⟩) (pre_N (wa := (wM r cI cZ cJ th k V C A T B P OR n PR ST li w WK so sp CT FW)) (wc := ((wX q cI cZ cJ k V C T B P A n PR ST li w WK so sp CT SC TA) ++ [(qo, .inl (cJ, 1, .inr (.inl O)))])) (wb := []) hP hK hD hS hA hZ hg hn) rfl rfl hl.1 rfl (lv_room (Nat.le_of_ble_eq_true rfl)) dL_law_1249 ⟨(show (27 + 8 * jj) + 1 ≤ 601024 by omega), (show (20244 + 64 * jj) + 6 ≤ 7293034 by omega)⟩) hP hD hS hA (fun rr u H locs hp hP hD hS => ?_)
  rcases u with u | kk
  · replace hp : rr = nI 0 ∧ (u.1 < 2001 ∧ (xs ((4 * jj) + 1)) = nI u.1) := hp
    obtain ⟨rfl, hp⟩ := hp
    have hP : va_P D vwCl ((wM r cI cZ cJ th k V C A T B P OR n PR ST li w WK so sp CT FW) ++ ((wX q cI cZ cJ k V C T B P A n PR ST li w WK so sp CT u.2 TA) ++ [(qo, .inl (cJ, 1, .inr (.inl (vp_updL O 0 ((nI (gpR T V k u.1)).toInt64)))))])) H := hP
    have hD : va_D (lA s) ((wM r cI cZ cJ th k V C A T B P OR n PR ST li w WK so sp CT FW) ++ ((wX q cI cZ cJ k V C T B P A n PR ST li w WK so sp CT u.2 TA) ++ [(qo, .inl (cJ, 1, .inr (.inl (vp_updL O 0 ((nI (gpR T V k u.1)).toInt64)))))])) := hD
    refine lv_istore (lv' := [(5, .int (nI 0)), (4, .int (nI (4 * jj))), (3, .ref qo), (2, .ref (r 0)), (1, .ref (q 0)), (0, .ref b)]) hx hb dL_law_1252 hl (by decide) rfl (fun ls hl => ?_)
    refine lv_aload_n hx hb dL_law_1254 rfl (lv_at hl 3 rfl) ?_
    refine lv_aload_n hx hb dL_law_1255 rfl (lv_at hl 5 rfl) ?_
    refine lv_iload hx hb dL_law_1256 (lv_at hl 1 rfl) ?_
    refine lv_iconst (v := nI 1) hx hb dL_law_1258 (ic_1) ?_
    refine n_iadd hx hb dL_law_1259 ?_
    refine n_sld hx hb hX hbl hbA hS (by omega) (by omega) dL_law_1260 ?_
    refine k3_i (mc := 0) (ms := 0) (wa := []) (wc := (wM r cI cZ cJ th k V C A T B P OR n PR ST li w WK so sp CT FW)) (wb := ((wX q cI cZ cJ k V C T B P A n PR ST li w WK so sp CT u.2 TA) ++ [(qo, .inl (cJ, 1, .inr (.inl (vp_updL O 0 ((nI (gpR T V k u.1)).toInt64)))))])) (va_runV (As := [.int (xs ((4 * jj) + 1))]) (rest := []) ⟨hx, hb, hml, hown, hts⟩ (c_X1_gaps l hst D r cI cZ cJ th k V C A T B P OR n PR ST li w WK so sp CT FW H.size (xs ((4 * jj) + 1)) hI.hk8 hI.hV hI.hC hI.hOR) (cwV 1 hts gL_law_X1_gaps rfl rfl rfl hd_X1_gaps ⟨(Nat.le_of_ble_eq_true rfl), (Nat.le_of_ble_eq_true rfl)⟩) (pre_V3 (wa := []) (wc := (wM r cI cZ cJ th k V C A T B P OR n PR ST li w WK so sp CT FW)) (wb := ((wX q cI cZ cJ k V C T B P A n PR ST li w WK so sp CT u.2 TA) ++ [(qo, .inl (cJ, 1, .inr (.inl (vp_updL O 0 ((nI (gpR T V k u.1)).toInt64)))))])) hP hK hD hS hA hZ hg 0 (ci := 1) rfl rfl) rfl rfl hl.1 rfl (lv_room (Nat.le_of_ble_eq_true rfl)) dL_law_1261 ⟨(show ((27 + 8 * jj) + 1) + 0 ≤ 601024 by omega), (show ((20244 + 64 * jj) + 6) + 0 ≤ 7293034 by omega)⟩) hP hD hS hA (fun rr u2 H locs hq hP hD hS => ?_)
    obtain ⟨v0, v1, v2⟩ := u2
    replace hq : rr = nI v0 ∧ ((v1 = 0 ∧ ∃ i, i < 2001 ∧ (xs ((4 * jj) + 1)) = nI i ∧ v0 = gpR T V k i) ∨ (v1 = 1 ∧ ¬ rg (xs ((4 * jj) + 1)) 0 2001)) := hq
    obtain ⟨hr9, hq⟩ := hq
    replace hr9 := hr9.symm
    subst hr9
    have hP : va_P D vwCl ((wM r cI cZ cJ v1 k V C A T B P OR n PR ST li w WK so sp CT v2) ++ ((wX q cI cZ cJ k V C T B P A n PR ST li w WK so sp CT u.2 TA) ++ [(qo, .inl (cJ, 1, .inr (.inl (vp_updL O 0 ((nI (gpR T V k u.1)).toInt64)))))])) H := hP
    have hD : va_D (lA s) ((wM r cI cZ cJ v1 k V C A T B P OR n PR ST li w WK so sp CT v2) ++ ((wX q cI cZ cJ k V C T B P A n PR ST li w WK so sp CT u.2 TA) ++ [(qo, .inl (cJ, 1, .inr (.inl (vp_updL O 0 ((nI (gpR T V k u.1)).toInt64)))))])) := hD
    obtain ⟨e0, e1⟩ := q_gaps_0  hp hq
    have e0 := e0.symm
    subst e0
    have e1 := e1.symm
    subst e1
    refine lv_istore (lv' := [(6, .int (nI (gpR T V k u.1))), (5, .int (nI 0)), (4, .int (nI (4 * jj))), (3, .ref qo), (2, .ref (r 0)), (1, .ref (q 0)), (0, .ref b)]) hx hb dL_law_1264 hl (by decide) rfl (fun ls hl => ?_)
    refine lv_aload_n hx hb dL_law_1266 rfl (lv_at hl 4 rfl) ?_
    refine k3_i (mc := 0) (ms := 0) (wa := []) (wc := (wM r cI cZ cJ 0 k V C A T B P OR n PR ST li w WK so sp CT v2)) (wb := ((wX q cI cZ cJ k V C T B P A n PR ST li w WK so sp CT u.2 TA) ++ [(qo, .inl (cJ, 1, .inr (.inl (vp_updL O 0 ((nI (gpR T V k u.1)).toInt64)))))])) (va_runV (As := []) (rest := []) ⟨hx, hb, hml, hown, hts⟩ (c_X1_thrown l hst D r cI cZ cJ 0 k V C A T B P OR n PR ST li w WK so sp CT v2 H.size  ) (cwV 0 hts gL_law_X1_thrown rfl rfl rfl hd_X1_thrown ⟨(Nat.le_of_ble_eq_true rfl), (Nat.le_of_ble_eq_true rfl)⟩) (pre_V3 (wa := []) (wc := (wM r cI cZ cJ 0 k V C A T B P OR n PR ST li w WK so sp CT v2)) (wb := ((wX q cI cZ cJ k V C T B P A n PR ST li w WK so sp CT u.2 TA) ++ [(qo, .inl (cJ, 1, .inr (.inl (vp_updL O 0 ((nI (gpR T V k u.1)).toInt64)))))])) hP hK hD hS hA hZ hg 0 (ci := 1) rfl rfl) rfl rfl hl.1 rfl (lv_room (Nat.le_of_ble_eq_true rfl)) dL_law_1267 ⟨(show (((27 + 8 * jj) + 1) + 0) + 0 ≤ 601024 by omega), (show (((20244 + 64 * jj) + 6) + 0) + 0 ≤ 7293034 by omega)⟩) hP hD hS hA (fun rr u2 H locs hq hP hD hS => ?_)
    replace hq : rr = nI 0 := hq
    subst hq
    have hP : va_P D vwCl ((wM r cI cZ cJ 0 k V C A T B P OR n PR ST li w WK so sp CT v2) ++ ((wX q cI cZ cJ k V C T B P A n PR ST li w WK so sp CT u.2 TA) ++ [(qo, .inl (cJ, 1, .inr (.inl (vp_updL O 0 ((nI (gpR T V k u.1)).toInt64)))))])) H := hP
    have hD : va_D (lA s) ((wM r cI cZ cJ 0 k V C A T B P OR n PR ST li w WK so sp CT v2) ++ ((wX q cI cZ cJ k V C T B P A n PR ST li w WK so sp CT u.2 TA) ++ [(qo, .inl (cJ, 1, .inr (.inl (vp_updL O 0 ((nI (gpR T V k u.1)).toInt64)))))])) := hD
    refine lv_iload hx hb dL_law_1270 (lv_at hl 1 rfl) ?_
    refine lv_icmp_eq (tgt := 1277) hx hb dL_law_1272 (by decide) (fun _ => ?_) (fun h => absurd rfl h)
    refine lv_iload hx hb dL_law_1277 (lv_at hl 1 rfl) ?_
    refine n_if_ne (tgt := 1294) hx hb (by decide) dL_law_1279 (by decide) (fun c1279 => ?_) (fun c1279 => ?_)
    · exact absurd c1279 (by decide)
    · refine lv_aload_n hx hb dL_law_1282 rfl (lv_at hl 3 rfl) ?_
      refine lv_iconst (v := nI 0) hx hb dL_law_1283 (ic_0) ?_
      refine n_lald hx hb hK hP 26 2 rfl rfl (by decide) (by decide) dL_law_1284 ?_
      refine n_topl (show (vp_updL O 0 ((nI (gpR T V k u.1)).toInt64)) 0 = (nI (gpR T V k u.1)).toInt64 from updL_s) ?_
      refine lv_iload hx hb dL_law_1285 (lv_at hl 0 rfl) ?_
      refine lv_i2l hx hb dL_law_1287 rfl ?_
      refine n_lcmp_eq (tgt := 1294) hx hb dL_law_1288 dL_law_1289 (by decide) (fun _ => ?_) (fun h => absurd rfl h)
      refine lv_goto (tgt := 1433) hx hb dL_law_1294 (by decide) ?_
      refine W.widen (k := 27 + 8 * (jj + 1)) (n := 20244 + 64 * (jj + 1)) (by omega) (by omega) ?_
      exact hN 0 k V C T B P A OR n PR ST li w WK so sp CT u.2 TA v2 (vp_updL O 0 ((nI (gpR T V k u.1)).toInt64)) _ _ hI hP hD hS ls (lv_sub hl [2, 3, 4, 5, 6] rfl)
  · replace hp : rr = nI kk ∧ ((kk = 1 ∧ (¬ rg (xs ((4 * jj) + 1)) 0 2001))) := hp
    obtain ⟨rfl, hp⟩ := hp
    have hP : va_P D vwCl ((wM r cI cZ cJ th k V C A T B P OR n PR ST li w WK so sp CT FW) ++ ((wX q cI cZ cJ k V C T B P A n PR ST li w WK so sp CT SC TA) ++ [(qo, .inl (cJ, 1, .inr (.inl O)))])) H := hP
    have hD : va_D (lA s) ((wM r cI cZ cJ th k V C A T B P OR n PR ST li w WK so sp CT FW) ++ ((wX q cI cZ cJ k V C T B P A n PR ST li w WK so sp CT SC TA) ++ [(qo, .inl (cJ, 1, .inr (.inl O)))])) := hD
    obtain ⟨rfl, hp⟩ := hp
    refine lv_istore (lv' := [(5, .int (nI 1)), (4, .int (nI (4 * jj))), (3, .ref qo), (2, .ref (r 0)), (1, .ref (q 0)), (0, .ref b)]) hx hb dL_law_1252 hl (by decide) rfl (fun ls hl => ?_)
    refine lv_aload_n hx hb dL_law_1254 rfl (lv_at hl 3 rfl) ?_
    refine lv_aload_n hx hb dL_law_1255 rfl (lv_at hl 5 rfl) ?_
    refine lv_iload hx hb dL_law_1256 (lv_at hl 1 rfl) ?_
    refine lv_iconst (v := nI 1) hx hb dL_law_1258 (ic_1) ?_
    refine n_iadd hx hb dL_law_1259 ?_
    refine n_sld hx hb hX hbl hbA hS (by omega) (by omega) dL_law_1260 ?_
    refine k3_i (mc := 0) (ms := 0) (wa := []) (wc := (wM r cI cZ cJ th k V C A T B P OR n PR ST li w WK so sp CT FW)) (wb := ((wX q cI cZ cJ k V C T B P A n PR ST li w WK so sp CT SC TA) ++ [(qo, .inl (cJ, 1, .inr (.inl O)))])) (va_runV (As := [.int (xs ((4 * jj) + 1))]) (rest := []) ⟨hx, hb, hml, hown, hts⟩ (c_X1_gaps l hst D r cI cZ cJ th k V C A T B P OR n PR ST li w WK so sp CT FW H.size (xs ((4 * jj) + 1)) hI.hk8 hI.hV hI.hC hI.hOR) (cwV 1 hts gL_law_X1_gaps rfl rfl rfl hd_X1_gaps ⟨(Nat.le_of_ble_eq_true rfl), (Nat.le_of_ble_eq_true rfl)⟩) (pre_V3 (wa := []) (wc := (wM r cI cZ cJ th k V C A T B P OR n PR ST li w WK so sp CT FW)) (wb := ((wX q cI cZ cJ k V C T B P A n PR ST li w WK so sp CT SC TA) ++ [(qo, .inl (cJ, 1, .inr (.inl O)))])) hP hK hD hS hA hZ hg 0 (ci := 1) rfl rfl) rfl rfl hl.1 rfl (lv_room (Nat.le_of_ble_eq_true rfl)) dL_law_1261 ⟨(show ((27 + 8 * jj) + 1) + 0 ≤ 601024 by omega), (show ((20244 + 64 * jj) + 6) + 0 ≤ 7293034 by omega)⟩) hP hD hS hA (fun rr u2 H locs hq hP hD hS => ?_)
    obtain ⟨v0, v1, v2⟩ := u2
    replace hq : rr = nI v0 ∧ ((v1 = 0 ∧ ∃ i, i < 2001 ∧ (xs ((4 * jj) + 1)) = nI i ∧ v0 = gpR T V k i) ∨ (v1 = 1 ∧ ¬ rg (xs ((4 * jj) + 1)) 0 2001)) := hq
    obtain ⟨hr9, hq⟩ := hq
    replace hr9 := hr9.symm
    subst hr9
    have hP : va_P D vwCl ((wM r cI cZ cJ v1 k V C A T B P OR n PR ST li w WK so sp CT v2) ++ ((wX q cI cZ cJ k V C T B P A n PR ST li w WK so sp CT SC TA) ++ [(qo, .inl (cJ, 1, .inr (.inl O)))])) H := hP
    have hD : va_D (lA s) ((wM r cI cZ cJ v1 k V C A T B P OR n PR ST li w WK so sp CT v2) ++ ((wX q cI cZ cJ k V C T B P A n PR ST li w WK so sp CT SC TA) ++ [(qo, .inl (cJ, 1, .inr (.inl O)))])) := hD
    have e0 := q_gaps_1  hp hq
    have e0 := e0.symm
    subst e0
    refine lv_istore (lv' := [(6, .int (nI v0)), (5, .int (nI 1)), (4, .int (nI (4 * jj))), (3, .ref qo), (2, .ref (r 0)), (1, .ref (q 0)), (0, .ref b)]) hx hb dL_law_1264 hl (by decide) rfl (fun ls hl => ?_)
    refine lv_aload_n hx hb dL_law_1266 rfl (lv_at hl 4 rfl) ?_
    refine k3_i (mc := 0) (ms := 0) (wa := []) (wc := (wM r cI cZ cJ 1 k V C A T B P OR n PR ST li w WK so sp CT v2)) (wb := ((wX q cI cZ cJ k V C T B P A n PR ST li w WK so sp CT SC TA) ++ [(qo, .inl (cJ, 1, .inr (.inl O)))])) (va_runV (As := []) (rest := []) ⟨hx, hb, hml, hown, hts⟩ (c_X1_thrown l hst D r cI cZ cJ 1 k V C A T B P OR n PR ST li w WK so sp CT v2 H.size  ) (cwV 0 hts gL_law_X1_thrown rfl rfl rfl hd_X1_thrown ⟨(Nat.le_of_ble_eq_true rfl), (Nat.le_of_ble_eq_true rfl)⟩) (pre_V3 (wa := []) (wc := (wM r cI cZ cJ 1 k V C A T B P OR n PR ST li w WK so sp CT v2)) (wb := ((wX q cI cZ cJ k V C T B P A n PR ST li w WK so sp CT SC TA) ++ [(qo, .inl (cJ, 1, .inr (.inl O)))])) hP hK hD hS hA hZ hg 0 (ci := 1) rfl rfl) rfl rfl hl.1 rfl (lv_room (Nat.le_of_ble_eq_true rfl)) dL_law_1267 ⟨(show (((27 + 8 * jj) + 1) + 0) + 0 ≤ 601024 by omega), (show (((20244 + 64 * jj) + 6) + 0) + 0 ≤ 7293034 by omega)⟩) hP hD hS hA (fun rr u2 H locs hq hP hD hS => ?_)
    replace hq : rr = nI 1 := hq
    subst hq
    have hP : va_P D vwCl ((wM r cI cZ cJ 1 k V C A T B P OR n PR ST li w WK so sp CT v2) ++ ((wX q cI cZ cJ k V C T B P A n PR ST li w WK so sp CT SC TA) ++ [(qo, .inl (cJ, 1, .inr (.inl O)))])) H := hP
    have hD : va_D (lA s) ((wM r cI cZ cJ 1 k V C A T B P OR n PR ST li w WK so sp CT v2) ++ ((wX q cI cZ cJ k V C T B P A n PR ST li w WK so sp CT SC TA) ++ [(qo, .inl (cJ, 1, .inr (.inl O)))])) := hD
    refine lv_iload hx hb dL_law_1270 (lv_at hl 1 rfl) ?_
    refine lv_icmp_eq (tgt := 1277) hx hb dL_law_1272 (by decide) (fun _ => ?_) (fun h => absurd rfl h)
    refine lv_iload hx hb dL_law_1277 (lv_at hl 1 rfl) ?_
    refine n_if_ne (tgt := 1294) hx hb (by decide) dL_law_1279 (by decide) (fun c1279 => ?_) (fun c1279 => ?_)
    · refine lv_goto (tgt := 1433) hx hb dL_law_1294 (by decide) ?_
      refine W.widen (k := 27 + 8 * (jj + 1)) (n := 20244 + 64 * (jj + 1)) (by omega) (by omega) ?_
      exact hN 1 k V C T B P A OR n PR ST li w WK so sp CT SC TA v2 O _ _ hI hP hD hS ls (lv_sub hl [2, 3, 4, 5, 6] rfl)
    · exact absurd c1279 (by decide)

set_option maxHeartbeats 8000000 in
set_option maxRecDepth 100000 in
theorem lw_unit (hst : l.stackTraces = false) (hc : Lc p s m meth c b L xs D cI cZ cJ) {r q : Nat → Nat} {qo jj : Nat} (hj : 4 * jj + 4 ≤ L) {th : Nat} {k : Nat} {V : Nat → Nat} {C : Nat → Nat} {T : Nat → Nat} {B : Nat → Nat} {P : Nat → Nat} {A : Nat → Nat} {OR : Nat → Nat} {n : Nat} {PR : Nat → Nat} {ST : Nat → Nat} {li : Nat} {w : Nat} {WK : Nat → Nat} {so : Nat} {sp : Nat} {CT : Nat → Int64} {SC : Nat → Int} {TA : Nat → Nat} {FW : Nat → Nat} {O : Nat → Int64} {H : Heap} {locs : List Loc} (hI : IV k V C T A OR n PR ST li w WK so sp) (hP : va_P D vwCl (wL r q qo cI cZ cJ th k V C T B P A OR n PR ST li w WK so sp CT SC TA FW O) H) (hD : va_D (lA s) (wL r q qo cI cZ cJ th k V C T B P A OR n PR ST li w WK so sp CT SC TA FW O)) (hS : va_S (lA s) s.heap H locs) {ls : Array Slot} (hl : lv_has ls 9 [(4, .int (nI (4 * jj))), (3, .ref qo), (2, .ref (r 0)), (1, .ref (q 0)), (0, .ref b)]) (hN : Nx p l e s m below meth c b D r q qo cI cZ cJ Q jj) : W p l e room_1 s m #[Value.ref b] below meth c H locs (27 + 8 * jj) (20244 + 64 * jj) Q (F0 m 1297 ls []) := by
  obtain ⟨hx, hb, hr, hml, hown, hts, hX, hbl, hlocks, hK, hZ, hg, hn, hL⟩ := hc
  have hA : ∀ q9 : Nat, s.heap.size ≤ q9 → lA s q9 := fun _ h => h
  have hbA : ¬ lA s b := Nat.not_le.mpr hbl
  have hP : va_P D vwCl ((wM r cI cZ cJ th k V C A T B P OR n PR ST li w WK so sp CT FW) ++ ((wX q cI cZ cJ k V C T B P A n PR ST li w WK so sp CT SC TA) ++ [(qo, .inl (cJ, 1, .inr (.inl O)))])) H := hP
  have hD : va_D (lA s) ((wM r cI cZ cJ th k V C A T B P OR n PR ST li w WK so sp CT FW) ++ ((wX q cI cZ cJ k V C T B P A n PR ST li w WK so sp CT SC TA) ++ [(qo, .inl (cJ, 1, .inr (.inl O)))])) := hD
  refine lv_aload_n hx hb dL_law_1297 rfl (lv_at hl 3 rfl) ?_
  refine k3_i (mc := 0) (ms := 0) (wa := (wM r cI cZ cJ th k V C A T B P OR n PR ST li w WK so sp CT FW)) (wc := (wX q cI cZ cJ k V C T B P A n PR ST li w WK so sp CT SC TA)) (wb := [(qo, .inl (cJ, 1, .inr (.inl O)))]) (va_runV (As := []) (rest := []) ⟨hx, hb, hml, hown, hts⟩ (c_X0_unit l hst D q cI cZ cJ k V C T B P A n PR ST li w WK so sp CT SC TA H.size hI.hk8 hI.hV) (cwV 0 hts gL_law_X0_unit rfl rfl rfl hd_X0_unit ⟨(Nat.le_of_ble_eq_true rfl), (Nat.le_of_ble_eq_true rfl)⟩) (pre_V3 (wa := (wM r cI cZ cJ th k V C A T B P OR n PR ST li w WK so sp CT FW)) (wc := (wX q cI cZ cJ k V C T B P A n PR ST li w WK so sp CT SC TA)) (wb := [(qo, .inl (cJ, 1, .inr (.inl O)))]) hP hK hD hS hA hZ hg 0 (ci := 0) rfl rfl) rfl rfl hl.1 rfl (lv_room (Nat.le_of_ble_eq_true rfl)) dL_law_1298 ⟨(show (27 + 8 * jj) + 0 ≤ 601024 by omega), (show (20244 + 64 * jj) + 0 ≤ 7293034 by omega)⟩) hP hD hS hA (fun rr u H locs hp hP hD hS => ?_)
  replace hp : rr = nI (gu V k) := hp
  subst hp
  have hP : va_P D vwCl ((wM r cI cZ cJ th k V C A T B P OR n PR ST li w WK so sp CT FW) ++ ((wX q cI cZ cJ k V C T B P A n PR ST li w WK so sp CT SC TA) ++ [(qo, .inl (cJ, 1, .inr (.inl O)))])) H := hP
  have hD : va_D (lA s) ((wM r cI cZ cJ th k V C A T B P OR n PR ST li w WK so sp CT FW) ++ ((wX q cI cZ cJ k V C T B P A n PR ST li w WK so sp CT SC TA) ++ [(qo, .inl (cJ, 1, .inr (.inl O)))])) := hD
  refine lv_aload_n hx hb dL_law_1301 rfl (lv_at hl 2 rfl) ?_
  refine k3_i (mc := 0) (ms := 0) (wa := []) (wc := (wM r cI cZ cJ th k V C A T B P OR n PR ST li w WK so sp CT FW)) (wb := ((wX q cI cZ cJ k V C T B P A n PR ST li w WK so sp CT SC TA) ++ [(qo, .inl (cJ, 1, .inr (.inl O)))])) (va_runV (As := []) (rest := [.int (nI (gu V k))]) ⟨hx, hb, hml, hown, hts⟩ (c_X1_unit l hst D r cI cZ cJ th k V C A T B P OR n PR ST li w WK so sp CT FW H.size  hI.hk8 hI.hV) (cwV 0 hts gL_law_X1_unit rfl rfl rfl hd_X1_unit ⟨(Nat.le_of_ble_eq_true rfl), (Nat.le_of_ble_eq_true rfl)⟩) (pre_V3 (wa := []) (wc := (wM r cI cZ cJ th k V C A T B P OR n PR ST li w WK so sp CT FW)) (wb := ((wX q cI cZ cJ k V C T B P A n PR ST li w WK so sp CT SC TA) ++ [(qo, .inl (cJ, 1, .inr (.inl O)))])) hP hK hD hS hA hZ hg 0 (ci := 1) rfl rfl) rfl rfl hl.1 rfl (lv_room (Nat.le_of_ble_eq_true rfl)) dL_law_1302 ⟨(show ((27 + 8 * jj) + 0) + 0 ≤ 601024 by omega), (show ((20244 + 64 * jj) + 0) + 0 ≤ 7293034 by omega)⟩) hP hD hS hA (fun rr u2 H locs hq hP hD hS => ?_)
  replace hq : rr = nI (gu V k) := hq
  subst hq
  have hP : va_P D vwCl ((wM r cI cZ cJ 0 k V C A T B P OR n PR ST li w WK so sp CT FW) ++ ((wX q cI cZ cJ k V C T B P A n PR ST li w WK so sp CT SC TA) ++ [(qo, .inl (cJ, 1, .inr (.inl O)))])) H := hP
  have hD : va_D (lA s) ((wM r cI cZ cJ 0 k V C A T B P OR n PR ST li w WK so sp CT FW) ++ ((wX q cI cZ cJ k V C T B P A n PR ST li w WK so sp CT SC TA) ++ [(qo, .inl (cJ, 1, .inr (.inl O)))])) := hD
  refine lv_icmp_eq (tgt := 1433) hx hb dL_law_1305 (by decide) (fun _ => ?_) (fun h => absurd rfl h)
  refine W.widen (k := 27 + 8 * (jj + 1)) (n := 20244 + 64 * (jj + 1)) (by omega) (by omega) ?_
  exact hN 0 k V C T B P A OR n PR ST li w WK so sp CT SC TA FW O _ _ hI hP hD hS ls (lv_sub hl [0, 1, 2, 3, 4] rfl)

set_option maxHeartbeats 8000000 in
set_option maxRecDepth 100000 in
theorem lw_lamp (hst : l.stackTraces = false) (hc : Lc p s m meth c b L xs D cI cZ cJ) {r q : Nat → Nat} {qo jj : Nat} (hj : 4 * jj + 4 ≤ L) {th : Nat} {k : Nat} {V : Nat → Nat} {C : Nat → Nat} {T : Nat → Nat} {B : Nat → Nat} {P : Nat → Nat} {A : Nat → Nat} {OR : Nat → Nat} {n : Nat} {PR : Nat → Nat} {ST : Nat → Nat} {li : Nat} {w : Nat} {WK : Nat → Nat} {so : Nat} {sp : Nat} {CT : Nat → Int64} {SC : Nat → Int} {TA : Nat → Nat} {FW : Nat → Nat} {O : Nat → Int64} {H : Heap} {locs : List Loc} (hI : IV k V C T A OR n PR ST li w WK so sp) (hP : va_P D vwCl (wL r q qo cI cZ cJ th k V C T B P A OR n PR ST li w WK so sp CT SC TA FW O) H) (hD : va_D (lA s) (wL r q qo cI cZ cJ th k V C T B P A OR n PR ST li w WK so sp CT SC TA FW O)) (hS : va_S (lA s) s.heap H locs) {ls : Array Slot} (hl : lv_has ls 9 [(4, .int (nI (4 * jj))), (3, .ref qo), (2, .ref (r 0)), (1, .ref (q 0)), (0, .ref b)]) (hN : Nx p l e s m below meth c b D r q qo cI cZ cJ Q jj) : W p l e room_1 s m #[Value.ref b] below meth c H locs (27 + 8 * jj) (20244 + 64 * jj) Q (F0 m 1310 ls []) := by
  obtain ⟨hx, hb, hr, hml, hown, hts, hX, hbl, hlocks, hK, hZ, hg, hn, hL⟩ := hc
  have hA : ∀ q9 : Nat, s.heap.size ≤ q9 → lA s q9 := fun _ h => h
  have hbA : ¬ lA s b := Nat.not_le.mpr hbl
  have hP : va_P D vwCl ((wM r cI cZ cJ th k V C A T B P OR n PR ST li w WK so sp CT FW) ++ ((wX q cI cZ cJ k V C T B P A n PR ST li w WK so sp CT SC TA) ++ [(qo, .inl (cJ, 1, .inr (.inl O)))])) H := hP
  have hD : va_D (lA s) ((wM r cI cZ cJ th k V C A T B P OR n PR ST li w WK so sp CT FW) ++ ((wX q cI cZ cJ k V C T B P A n PR ST li w WK so sp CT SC TA) ++ [(qo, .inl (cJ, 1, .inr (.inl O)))])) := hD
  refine lv_aload_n hx hb dL_law_1310 rfl (lv_at hl 3 rfl) ?_
  refine k3_i (mc := 0) (ms := 0) (wa := (wM r cI cZ cJ th k V C A T B P OR n PR ST li w WK so sp CT FW)) (wc := (wX q cI cZ cJ k V C T B P A n PR ST li w WK so sp CT SC TA)) (wb := [(qo, .inl (cJ, 1, .inr (.inl O)))]) (va_runV (As := []) (rest := []) ⟨hx, hb, hml, hown, hts⟩ (c_X0_lamp l hst D q cI cZ cJ k V C T B P A n PR ST li w WK so sp CT SC TA H.size hI.hk8 hI.hV hI.hC hI.hA1 hI.hn10 hI.hPR) (cwV 0 hts gL_law_X0_lamp rfl rfl rfl hd_X0_lamp ⟨(Nat.le_of_ble_eq_true rfl), (Nat.le_of_ble_eq_true rfl)⟩) (pre_V3 (wa := (wM r cI cZ cJ th k V C A T B P OR n PR ST li w WK so sp CT FW)) (wc := (wX q cI cZ cJ k V C T B P A n PR ST li w WK so sp CT SC TA)) (wb := [(qo, .inl (cJ, 1, .inr (.inl O)))]) hP hK hD hS hA hZ hg 0 (ci := 0) rfl rfl) rfl rfl hl.1 rfl (lv_room (Nat.le_of_ble_eq_true rfl)) dL_law_1311 ⟨(show (27 + 8 * jj) + 0 ≤ 601024 by omega), (show (20244 + 64 * jj) + 0 ≤ 7293034 by omega)⟩) hP hD hS hA (fun rr u H locs hp hP hD hS => ?_)
  replace hp : rr = nI (b1 (∃ j, j < n ∧ ST j ≠ 0 ∧ ∃ i, i < k ∧ A i ≠ 0 ∧ nway T V k (ovp (PR j) (V i)))) := hp
  subst hp
  have hP : va_P D vwCl ((wM r cI cZ cJ th k V C A T B P OR n PR ST li w WK so sp CT FW) ++ ((wX q cI cZ cJ k V C T B P A n PR ST li w WK so sp CT u TA) ++ [(qo, .inl (cJ, 1, .inr (.inl O)))])) H := hP
  have hD : va_D (lA s) ((wM r cI cZ cJ th k V C A T B P OR n PR ST li w WK so sp CT FW) ++ ((wX q cI cZ cJ k V C T B P A n PR ST li w WK so sp CT u TA) ++ [(qo, .inl (cJ, 1, .inr (.inl O)))])) := hD
  refine lv_aload_n hx hb dL_law_1314 rfl (lv_at hl 2 rfl) ?_
  refine k3_i (mc := 0) (ms := 0) (wa := []) (wc := (wM r cI cZ cJ th k V C A T B P OR n PR ST li w WK so sp CT FW)) (wb := ((wX q cI cZ cJ k V C T B P A n PR ST li w WK so sp CT u TA) ++ [(qo, .inl (cJ, 1, .inr (.inl O)))])) (va_runV (As := []) (rest := [.int (nI (b1 (∃ j, j < n ∧ ST j ≠ 0 ∧ ∃ i, i < k ∧ A i ≠ 0 ∧ nway T V k (ovp (PR j) (V i)))))]) ⟨hx, hb, hml, hown, hts⟩ (c_X1_lamp l hst D r cI cZ cJ th k V C A T B P OR n PR ST li w WK so sp CT FW H.size  hI.hk8 hI.hV hI.hC hI.hOR hI.hA1 hI.hn10 hI.hPR) (cwV 0 hts gL_law_X1_lamp rfl rfl rfl hd_X1_lamp ⟨(Nat.le_of_ble_eq_true rfl), (Nat.le_of_ble_eq_true rfl)⟩) (pre_V3 (wa := []) (wc := (wM r cI cZ cJ th k V C A T B P OR n PR ST li w WK so sp CT FW)) (wb := ((wX q cI cZ cJ k V C T B P A n PR ST li w WK so sp CT u TA) ++ [(qo, .inl (cJ, 1, .inr (.inl O)))])) hP hK hD hS hA hZ hg 0 (ci := 1) rfl rfl) rfl rfl hl.1 rfl (lv_room (Nat.le_of_ble_eq_true rfl)) dL_law_1315 ⟨(show ((27 + 8 * jj) + 0) + 0 ≤ 601024 by omega), (show ((20244 + 64 * jj) + 0) + 0 ≤ 7293034 by omega)⟩) hP hD hS hA (fun rr u2 H locs hq hP hD hS => ?_)
  replace hq : rr = nI (b1 (∃ j, j < n ∧ ST j ≠ 0 ∧ ∃ i, i < k ∧ A i ≠ 0 ∧ nway T V k (ovp (PR j) (V i)))) := hq
  subst hq
  have hP : va_P D vwCl ((wM r cI cZ cJ 0 k V C A T B P OR n PR ST li w WK so sp CT u2) ++ ((wX q cI cZ cJ k V C T B P A n PR ST li w WK so sp CT u TA) ++ [(qo, .inl (cJ, 1, .inr (.inl O)))])) H := hP
  have hD : va_D (lA s) ((wM r cI cZ cJ 0 k V C A T B P OR n PR ST li w WK so sp CT u2) ++ ((wX q cI cZ cJ k V C T B P A n PR ST li w WK so sp CT u TA) ++ [(qo, .inl (cJ, 1, .inr (.inl O)))])) := hD
  refine lv_icmp_eq (tgt := 1433) hx hb dL_law_1318 (by decide) (fun _ => ?_) (fun h => absurd rfl h)
  refine W.widen (k := 27 + 8 * (jj + 1)) (n := 20244 + 64 * (jj + 1)) (by omega) (by omega) ?_
  exact hN 0 k V C T B P A OR n PR ST li w WK so sp CT u TA u2 O _ _ hI hP hD hS ls (lv_sub hl [0, 1, 2, 3, 4] rfl)

set_option maxHeartbeats 8000000 in
set_option maxRecDepth 100000 in
theorem lw_audit (hst : l.stackTraces = false) (hc : Lc p s m meth c b L xs D cI cZ cJ) {r q : Nat → Nat} {qo jj : Nat} (hj : 4 * jj + 4 ≤ L) {th : Nat} {k : Nat} {V : Nat → Nat} {C : Nat → Nat} {T : Nat → Nat} {B : Nat → Nat} {P : Nat → Nat} {A : Nat → Nat} {OR : Nat → Nat} {n : Nat} {PR : Nat → Nat} {ST : Nat → Nat} {li : Nat} {w : Nat} {WK : Nat → Nat} {so : Nat} {sp : Nat} {CT : Nat → Int64} {SC : Nat → Int} {TA : Nat → Nat} {FW : Nat → Nat} {O : Nat → Int64} {H : Heap} {locs : List Loc} (hI : IV k V C T A OR n PR ST li w WK so sp) (hP : va_P D vwCl (wL r q qo cI cZ cJ th k V C T B P A OR n PR ST li w WK so sp CT SC TA FW O) H) (hD : va_D (lA s) (wL r q qo cI cZ cJ th k V C T B P A OR n PR ST li w WK so sp CT SC TA FW O)) (hS : va_S (lA s) s.heap H locs) {ls : Array Slot} (hl : lv_has ls 9 [(4, .int (nI (4 * jj))), (3, .ref qo), (2, .ref (r 0)), (1, .ref (q 0)), (0, .ref b)]) (hN : Nx p l e s m below meth c b D r q qo cI cZ cJ Q jj) : W p l e room_1 s m #[Value.ref b] below meth c H locs (27 + 8 * jj) (20244 + 64 * jj) Q (F0 m 1323 ls []) := by
  obtain ⟨hx, hb, hr, hml, hown, hts, hX, hbl, hlocks, hK, hZ, hg, hn, hL⟩ := hc
  have hA : ∀ q9 : Nat, s.heap.size ≤ q9 → lA s q9 := fun _ h => h
  have hbA : ¬ lA s b := Nat.not_le.mpr hbl
  have hP : va_P D vwCl ((wM r cI cZ cJ th k V C A T B P OR n PR ST li w WK so sp CT FW) ++ ((wX q cI cZ cJ k V C T B P A n PR ST li w WK so sp CT SC TA) ++ [(qo, .inl (cJ, 1, .inr (.inl O)))])) H := hP
  have hD : va_D (lA s) ((wM r cI cZ cJ th k V C A T B P OR n PR ST li w WK so sp CT FW) ++ ((wX q cI cZ cJ k V C T B P A n PR ST li w WK so sp CT SC TA) ++ [(qo, .inl (cJ, 1, .inr (.inl O)))])) := hD
  refine lv_aload_n hx hb dL_law_1323 rfl (lv_at hl 3 rfl) ?_
  refine lv_aload_n hx hb dL_law_1324 rfl (lv_at hl 4 rfl) ?_
  refine lv_iload hx hb dL_law_1325 (lv_at hl 0 rfl) ?_
  refine lv_iconst (v := nI 1) hx hb dL_law_1327 (ic_1) ?_
  refine n_iadd hx hb dL_law_1328 ?_
  refine n_sld hx hb hX hbl hbA hS (by omega) (by omega) dL_law_1329 ?_
  refine lv_aload_n hx hb dL_law_1330 rfl (lv_at hl 1 rfl) ?_
  refine k3_i (mc := 1) (ms := 6) (wa := (wM r cI cZ cJ th k V C A T B P OR n PR ST li w WK so sp CT FW)) (wc := ((wX q cI cZ cJ k V C T B P A n PR ST li w WK so sp CT SC TA) ++ [(qo, .inl (cJ, 1, .inr (.inl O)))])) (wb := []) (vx_runSW (As := [.ref (q 0), .int (xs ((4 * jj) + 1)), .ref qo]) (rest := []) ⟨hx, hb, hml, hown, hts⟩ (c_L_audit l hst D q qo cI cZ cJ k V C T B P A n PR ST li w WK so sp CT SC TA O H.size (xs ((4 * jj) + 1)) ) (vx_cwSW 3 hts gL_law_L_audit rfl rfl rfl hd_L_audit.2 ⟨(Nat.le_of_ble_eq_true rfl), (Nat.le_of_ble_eq_true rfl)⟩) (pre_N (wa := (wM r cI cZ cJ th k V C A T B P OR n PR ST li w WK so sp CT FW)) (wc := ((wX q cI cZ cJ k V C T B P A n PR ST li w WK so sp CT SC TA) ++ [(qo, .inl (cJ, 1, .inr (.inl O)))])) (wb := []) hP hK hD hS hA hZ hg hn) rfl rfl hl.1 rfl (lv_room (Nat.le_of_ble_eq_true rfl)) dL_law_1331 ⟨(show (27 + 8 * jj) + 1 ≤ 601024 by omega), (show (20244 + 64 * jj) + 6 ≤ 7293034 by omega)⟩) hP hD hS hA (fun rr u H locs hp hP hD hS => ?_)
  rcases u with u | kk
  · replace hp : rr = nI 0 ∧ (u < 10 ∧ (xs ((4 * jj) + 1)) = nI u) := hp
    obtain ⟨rfl, hp⟩ := hp
    have hP : va_P D vwCl ((wM r cI cZ cJ th k V C A T B P OR n PR ST li w WK so sp CT FW) ++ ((wX q cI cZ cJ k V C T B P A n PR ST li w WK so sp CT SC TA) ++ [(qo, .inl (cJ, 1, .inr (.inl (vp_updL O 0 (CT u)))))])) H := hP
    have hD : va_D (lA s) ((wM r cI cZ cJ th k V C A T B P OR n PR ST li w WK so sp CT FW) ++ ((wX q cI cZ cJ k V C T B P A n PR ST li w WK so sp CT SC TA) ++ [(qo, .inl (cJ, 1, .inr (.inl (vp_updL O 0 (CT u)))))])) := hD
    refine lv_istore (lv' := [(5, .int (nI 0)), (4, .int (nI (4 * jj))), (3, .ref qo), (2, .ref (r 0)), (1, .ref (q 0)), (0, .ref b)]) hx hb dL_law_1334 hl (by decide) rfl (fun ls hl => ?_)
    refine lv_aload_n hx hb dL_law_1336 rfl (lv_at hl 3 rfl) ?_
    refine lv_aload_n hx hb dL_law_1337 rfl (lv_at hl 5 rfl) ?_
    refine lv_iload hx hb dL_law_1338 (lv_at hl 1 rfl) ?_
    refine lv_iconst (v := nI 1) hx hb dL_law_1340 (ic_1) ?_
    refine n_iadd hx hb dL_law_1341 ?_
    refine n_sld hx hb hX hbl hbA hS (by omega) (by omega) dL_law_1342 ?_
    refine k3_l (mc := 0) (ms := 0) (wa := []) (wc := (wM r cI cZ cJ th k V C A T B P OR n PR ST li w WK so sp CT FW)) (wb := ((wX q cI cZ cJ k V C T B P A n PR ST li w WK so sp CT SC TA) ++ [(qo, .inl (cJ, 1, .inr (.inl (vp_updL O 0 (CT u)))))])) (va_runV (As := [.int (xs ((4 * jj) + 1))]) (rest := []) ⟨hx, hb, hml, hown, hts⟩ (c_X1_audit l hst D r cI cZ cJ th k V C A T B P OR n PR ST li w WK so sp CT FW H.size (xs ((4 * jj) + 1)) ) (cwV 1 hts gL_law_X1_audit rfl rfl rfl hd_X1_audit ⟨(Nat.le_of_ble_eq_true rfl), (Nat.le_of_ble_eq_true rfl)⟩) (pre_V3 (wa := []) (wc := (wM r cI cZ cJ th k V C A T B P OR n PR ST li w WK so sp CT FW)) (wb := ((wX q cI cZ cJ k V C T B P A n PR ST li w WK so sp CT SC TA) ++ [(qo, .inl (cJ, 1, .inr (.inl (vp_updL O 0 (CT u)))))])) hP hK hD hS hA hZ hg 0 (ci := 1) rfl rfl) rfl rfl hl.1 rfl (lv_room (Nat.le_of_ble_eq_true rfl)) dL_law_1343 ⟨(show ((27 + 8 * jj) + 1) + 0 ≤ 601024 by omega), (show ((20244 + 64 * jj) + 6) + 0 ≤ 7293034 by omega)⟩) hP hD hS hA (fun rr u2 H locs hq hP hD hS => ?_)
    obtain ⟨v0, v1⟩ := u2
    replace hq : rr = v0 ∧ ((v1 = 0 ∧ ∃ i, i < 10 ∧ (xs ((4 * jj) + 1)) = nI i ∧ v0 = CT i) ∨ (v1 = 1 ∧ ¬ rg (xs ((4 * jj) + 1)) 0 10)) := hq
    obtain ⟨hr9, hq⟩ := hq
    replace hr9 := hr9.symm
    subst hr9
    have hP : va_P D vwCl ((wM r cI cZ cJ v1 k V C A T B P OR n PR ST li w WK so sp CT FW) ++ ((wX q cI cZ cJ k V C T B P A n PR ST li w WK so sp CT SC TA) ++ [(qo, .inl (cJ, 1, .inr (.inl (vp_updL O 0 (CT u)))))])) H := hP
    have hD : va_D (lA s) ((wM r cI cZ cJ v1 k V C A T B P OR n PR ST li w WK so sp CT FW) ++ ((wX q cI cZ cJ k V C T B P A n PR ST li w WK so sp CT SC TA) ++ [(qo, .inl (cJ, 1, .inr (.inl (vp_updL O 0 (CT u)))))])) := hD
    obtain ⟨e0, e1⟩ := q_audit_0  hp hq
    have e0 := e0.symm
    subst e0
    have e1 := e1.symm
    subst e1
    refine lv_lstore (lv' := [(6, .long (CT u)), (5, .int (nI 0)), (4, .int (nI (4 * jj))), (3, .ref qo), (2, .ref (r 0)), (1, .ref (q 0)), (0, .ref b)]) hx hb dL_law_1346 hl (by decide) rfl (fun ls hl => ?_)
    refine lv_aload_n hx hb dL_law_1348 rfl (lv_at hl 4 rfl) ?_
    refine k3_i (mc := 0) (ms := 0) (wa := []) (wc := (wM r cI cZ cJ 0 k V C A T B P OR n PR ST li w WK so sp CT FW)) (wb := ((wX q cI cZ cJ k V C T B P A n PR ST li w WK so sp CT SC TA) ++ [(qo, .inl (cJ, 1, .inr (.inl (vp_updL O 0 (CT u)))))])) (va_runV (As := []) (rest := []) ⟨hx, hb, hml, hown, hts⟩ (c_X1_thrown l hst D r cI cZ cJ 0 k V C A T B P OR n PR ST li w WK so sp CT FW H.size  ) (cwV 0 hts gL_law_X1_thrown rfl rfl rfl hd_X1_thrown ⟨(Nat.le_of_ble_eq_true rfl), (Nat.le_of_ble_eq_true rfl)⟩) (pre_V3 (wa := []) (wc := (wM r cI cZ cJ 0 k V C A T B P OR n PR ST li w WK so sp CT FW)) (wb := ((wX q cI cZ cJ k V C T B P A n PR ST li w WK so sp CT SC TA) ++ [(qo, .inl (cJ, 1, .inr (.inl (vp_updL O 0 (CT u)))))])) hP hK hD hS hA hZ hg 0 (ci := 1) rfl rfl) rfl rfl hl.1 rfl (lv_room (Nat.le_of_ble_eq_true rfl)) dL_law_1349 ⟨(show (((27 + 8 * jj) + 1) + 0) + 0 ≤ 601024 by omega), (show (((20244 + 64 * jj) + 6) + 0) + 0 ≤ 7293034 by omega)⟩) hP hD hS hA (fun rr u2 H locs hq hP hD hS => ?_)
    replace hq : rr = nI 0 := hq
    subst hq
    have hP : va_P D vwCl ((wM r cI cZ cJ 0 k V C A T B P OR n PR ST li w WK so sp CT FW) ++ ((wX q cI cZ cJ k V C T B P A n PR ST li w WK so sp CT SC TA) ++ [(qo, .inl (cJ, 1, .inr (.inl (vp_updL O 0 (CT u)))))])) H := hP
    have hD : va_D (lA s) ((wM r cI cZ cJ 0 k V C A T B P OR n PR ST li w WK so sp CT FW) ++ ((wX q cI cZ cJ k V C T B P A n PR ST li w WK so sp CT SC TA) ++ [(qo, .inl (cJ, 1, .inr (.inl (vp_updL O 0 (CT u)))))])) := hD
    refine lv_iload hx hb dL_law_1352 (lv_at hl 1 rfl) ?_
    refine lv_icmp_eq (tgt := 1359) hx hb dL_law_1354 (by decide) (fun _ => ?_) (fun h => absurd rfl h)
    refine lv_iload hx hb dL_law_1359 (lv_at hl 1 rfl) ?_
    refine n_if_ne (tgt := 1375) hx hb (by decide) dL_law_1361 (by decide) (fun c1361 => ?_) (fun c1361 => ?_)
    · exact absurd c1361 (by decide)
    · refine lv_aload_n hx hb dL_law_1364 rfl (lv_at hl 3 rfl) ?_
      refine lv_iconst (v := nI 0) hx hb dL_law_1365 (ic_0) ?_
      refine n_lald hx hb hK hP 26 2 rfl rfl (by decide) (by decide) dL_law_1366 ?_
      refine n_topl (show (vp_updL O 0 (CT u)) 0 = CT u from updL_s) ?_
      refine lv_lload hx hb dL_law_1367 (lv_at hl 0 rfl) ?_
      refine n_lcmp_eq (tgt := 1375) hx hb dL_law_1369 dL_law_1370 (by decide) (fun _ => ?_) (fun h => absurd rfl h)
      refine lv_goto (tgt := 1433) hx hb dL_law_1375 (by decide) ?_
      refine W.widen (k := 27 + 8 * (jj + 1)) (n := 20244 + 64 * (jj + 1)) (by omega) (by omega) ?_
      exact hN 0 k V C T B P A OR n PR ST li w WK so sp CT SC TA FW (vp_updL O 0 (CT u)) _ _ hI hP hD hS ls (lv_sub hl [2, 3, 4, 5, 6] rfl)
  · replace hp : rr = nI kk ∧ ((kk = 1 ∧ (¬ rg (xs ((4 * jj) + 1)) 0 10))) := hp
    obtain ⟨rfl, hp⟩ := hp
    have hP : va_P D vwCl ((wM r cI cZ cJ th k V C A T B P OR n PR ST li w WK so sp CT FW) ++ ((wX q cI cZ cJ k V C T B P A n PR ST li w WK so sp CT SC TA) ++ [(qo, .inl (cJ, 1, .inr (.inl O)))])) H := hP
    have hD : va_D (lA s) ((wM r cI cZ cJ th k V C A T B P OR n PR ST li w WK so sp CT FW) ++ ((wX q cI cZ cJ k V C T B P A n PR ST li w WK so sp CT SC TA) ++ [(qo, .inl (cJ, 1, .inr (.inl O)))])) := hD
    obtain ⟨rfl, hp⟩ := hp
    refine lv_istore (lv' := [(5, .int (nI 1)), (4, .int (nI (4 * jj))), (3, .ref qo), (2, .ref (r 0)), (1, .ref (q 0)), (0, .ref b)]) hx hb dL_law_1334 hl (by decide) rfl (fun ls hl => ?_)
    refine lv_aload_n hx hb dL_law_1336 rfl (lv_at hl 3 rfl) ?_
    refine lv_aload_n hx hb dL_law_1337 rfl (lv_at hl 5 rfl) ?_
    refine lv_iload hx hb dL_law_1338 (lv_at hl 1 rfl) ?_
    refine lv_iconst (v := nI 1) hx hb dL_law_1340 (ic_1) ?_
    refine n_iadd hx hb dL_law_1341 ?_
    refine n_sld hx hb hX hbl hbA hS (by omega) (by omega) dL_law_1342 ?_
    refine k3_l (mc := 0) (ms := 0) (wa := []) (wc := (wM r cI cZ cJ th k V C A T B P OR n PR ST li w WK so sp CT FW)) (wb := ((wX q cI cZ cJ k V C T B P A n PR ST li w WK so sp CT SC TA) ++ [(qo, .inl (cJ, 1, .inr (.inl O)))])) (va_runV (As := [.int (xs ((4 * jj) + 1))]) (rest := []) ⟨hx, hb, hml, hown, hts⟩ (c_X1_audit l hst D r cI cZ cJ th k V C A T B P OR n PR ST li w WK so sp CT FW H.size (xs ((4 * jj) + 1)) ) (cwV 1 hts gL_law_X1_audit rfl rfl rfl hd_X1_audit ⟨(Nat.le_of_ble_eq_true rfl), (Nat.le_of_ble_eq_true rfl)⟩) (pre_V3 (wa := []) (wc := (wM r cI cZ cJ th k V C A T B P OR n PR ST li w WK so sp CT FW)) (wb := ((wX q cI cZ cJ k V C T B P A n PR ST li w WK so sp CT SC TA) ++ [(qo, .inl (cJ, 1, .inr (.inl O)))])) hP hK hD hS hA hZ hg 0 (ci := 1) rfl rfl) rfl rfl hl.1 rfl (lv_room (Nat.le_of_ble_eq_true rfl)) dL_law_1343 ⟨(show ((27 + 8 * jj) + 1) + 0 ≤ 601024 by omega), (show ((20244 + 64 * jj) + 6) + 0 ≤ 7293034 by omega)⟩) hP hD hS hA (fun rr u2 H locs hq hP hD hS => ?_)
    obtain ⟨v0, v1⟩ := u2
    replace hq : rr = v0 ∧ ((v1 = 0 ∧ ∃ i, i < 10 ∧ (xs ((4 * jj) + 1)) = nI i ∧ v0 = CT i) ∨ (v1 = 1 ∧ ¬ rg (xs ((4 * jj) + 1)) 0 10)) := hq
    obtain ⟨hr9, hq⟩ := hq
    replace hr9 := hr9.symm
    subst hr9
    have hP : va_P D vwCl ((wM r cI cZ cJ v1 k V C A T B P OR n PR ST li w WK so sp CT FW) ++ ((wX q cI cZ cJ k V C T B P A n PR ST li w WK so sp CT SC TA) ++ [(qo, .inl (cJ, 1, .inr (.inl O)))])) H := hP
    have hD : va_D (lA s) ((wM r cI cZ cJ v1 k V C A T B P OR n PR ST li w WK so sp CT FW) ++ ((wX q cI cZ cJ k V C T B P A n PR ST li w WK so sp CT SC TA) ++ [(qo, .inl (cJ, 1, .inr (.inl O)))])) := hD
    have e0 := q_audit_1  hp hq
    have e0 := e0.symm
    subst e0
    refine lv_lstore (lv' := [(6, .long v0), (5, .int (nI 1)), (4, .int (nI (4 * jj))), (3, .ref qo), (2, .ref (r 0)), (1, .ref (q 0)), (0, .ref b)]) hx hb dL_law_1346 hl (by decide) rfl (fun ls hl => ?_)
    refine lv_aload_n hx hb dL_law_1348 rfl (lv_at hl 4 rfl) ?_
    refine k3_i (mc := 0) (ms := 0) (wa := []) (wc := (wM r cI cZ cJ 1 k V C A T B P OR n PR ST li w WK so sp CT FW)) (wb := ((wX q cI cZ cJ k V C T B P A n PR ST li w WK so sp CT SC TA) ++ [(qo, .inl (cJ, 1, .inr (.inl O)))])) (va_runV (As := []) (rest := []) ⟨hx, hb, hml, hown, hts⟩ (c_X1_thrown l hst D r cI cZ cJ 1 k V C A T B P OR n PR ST li w WK so sp CT FW H.size  ) (cwV 0 hts gL_law_X1_thrown rfl rfl rfl hd_X1_thrown ⟨(Nat.le_of_ble_eq_true rfl), (Nat.le_of_ble_eq_true rfl)⟩) (pre_V3 (wa := []) (wc := (wM r cI cZ cJ 1 k V C A T B P OR n PR ST li w WK so sp CT FW)) (wb := ((wX q cI cZ cJ k V C T B P A n PR ST li w WK so sp CT SC TA) ++ [(qo, .inl (cJ, 1, .inr (.inl O)))])) hP hK hD hS hA hZ hg 0 (ci := 1) rfl rfl) rfl rfl hl.1 rfl (lv_room (Nat.le_of_ble_eq_true rfl)) dL_law_1349 ⟨(show (((27 + 8 * jj) + 1) + 0) + 0 ≤ 601024 by omega), (show (((20244 + 64 * jj) + 6) + 0) + 0 ≤ 7293034 by omega)⟩) hP hD hS hA (fun rr u2 H locs hq hP hD hS => ?_)
    replace hq : rr = nI 1 := hq
    subst hq
    have hP : va_P D vwCl ((wM r cI cZ cJ 1 k V C A T B P OR n PR ST li w WK so sp CT FW) ++ ((wX q cI cZ cJ k V C T B P A n PR ST li w WK so sp CT SC TA) ++ [(qo, .inl (cJ, 1, .inr (.inl O)))])) H := hP
    have hD : va_D (lA s) ((wM r cI cZ cJ 1 k V C A T B P OR n PR ST li w WK so sp CT FW) ++ ((wX q cI cZ cJ k V C T B P A n PR ST li w WK so sp CT SC TA) ++ [(qo, .inl (cJ, 1, .inr (.inl O)))])) := hD
    refine lv_iload hx hb dL_law_1352 (lv_at hl 1 rfl) ?_
    refine lv_icmp_eq (tgt := 1359) hx hb dL_law_1354 (by decide) (fun _ => ?_) (fun h => absurd rfl h)
    refine lv_iload hx hb dL_law_1359 (lv_at hl 1 rfl) ?_
    refine n_if_ne (tgt := 1375) hx hb (by decide) dL_law_1361 (by decide) (fun c1361 => ?_) (fun c1361 => ?_)
    · refine lv_goto (tgt := 1433) hx hb dL_law_1375 (by decide) ?_
      refine W.widen (k := 27 + 8 * (jj + 1)) (n := 20244 + 64 * (jj + 1)) (by omega) (by omega) ?_
      exact hN 1 k V C T B P A OR n PR ST li w WK so sp CT SC TA FW O _ _ hI hP hD hS ls (lv_sub hl [2, 3, 4, 5, 6] rfl)
    · exact absurd c1361 (by decide)

set_option maxHeartbeats 8000000 in
set_option maxRecDepth 100000 in
theorem lw_digest (hst : l.stackTraces = false) (hc : Lc p s m meth c b L xs D cI cZ cJ) {r q : Nat → Nat} {qo jj : Nat} (hj : 4 * jj + 4 ≤ L) {th : Nat} {k : Nat} {V : Nat → Nat} {C : Nat → Nat} {T : Nat → Nat} {B : Nat → Nat} {P : Nat → Nat} {A : Nat → Nat} {OR : Nat → Nat} {n : Nat} {PR : Nat → Nat} {ST : Nat → Nat} {li : Nat} {w : Nat} {WK : Nat → Nat} {so : Nat} {sp : Nat} {CT : Nat → Int64} {SC : Nat → Int} {TA : Nat → Nat} {FW : Nat → Nat} {O : Nat → Int64} {H : Heap} {locs : List Loc} (hI : IV k V C T A OR n PR ST li w WK so sp) (hP : va_P D vwCl (wL r q qo cI cZ cJ th k V C T B P A OR n PR ST li w WK so sp CT SC TA FW O) H) (hD : va_D (lA s) (wL r q qo cI cZ cJ th k V C T B P A OR n PR ST li w WK so sp CT SC TA FW O)) (hS : va_S (lA s) s.heap H locs) {ls : Array Slot} (hl : lv_has ls 9 [(4, .int (nI (4 * jj))), (3, .ref qo), (2, .ref (r 0)), (1, .ref (q 0)), (0, .ref b)]) (hN : Nx p l e s m below meth c b D r q qo cI cZ cJ Q jj) : W p l e room_1 s m #[Value.ref b] below meth c H locs (27 + 8 * jj) (20244 + 64 * jj) Q (F0 m 1419 ls []) := by
  obtain ⟨hx, hb, hr, hml, hown, hts, hX, hbl, hlocks, hK, hZ, hg, hn, hL⟩ := hc
  have hA : ∀ q9 : Nat, s.heap.size ≤ q9 → lA s q9 := fun _ h => h
  have hbA : ¬ lA s b := Nat.not_le.mpr hbl
  have hP : va_P D vwCl ((wM r cI cZ cJ th k V C A T B P OR n PR ST li w WK so sp CT FW) ++ ((wX q cI cZ cJ k V C T B P A n PR ST li w WK so sp CT SC TA) ++ [(qo, .inl (cJ, 1, .inr (.inl O)))])) H := hP
  have hD : va_D (lA s) ((wM r cI cZ cJ th k V C A T B P OR n PR ST li w WK so sp CT FW) ++ ((wX q cI cZ cJ k V C T B P A n PR ST li w WK so sp CT SC TA) ++ [(qo, .inl (cJ, 1, .inr (.inl O)))])) := hD
  refine lv_aload_n hx hb dL_law_1419 rfl (lv_at hl 3 rfl) ?_
  refine k3_l (mc := 0) (ms := 0) (wa := (wM r cI cZ cJ th k V C A T B P OR n PR ST li w WK so sp CT FW)) (wc := (wX q cI cZ cJ k V C T B P A n PR ST li w WK so sp CT SC TA)) (wb := [(qo, .inl (cJ, 1, .inr (.inl O)))]) (va_runV (As := []) (rest := []) ⟨hx, hb, hml, hown, hts⟩ (c_X0_digest l hst D q cI cZ cJ k V C T B P A n PR ST li w WK so sp CT SC TA H.size hI.hk8 hI.hA1 hI.hn10 hI.hw12) (cwV 0 hts gL_law_X0_digest rfl rfl rfl hd_X0_digest ⟨(Nat.le_of_ble_eq_true rfl), (Nat.le_of_ble_eq_true rfl)⟩) (pre_V3 (wa := (wM r cI cZ cJ th k V C A T B P OR n PR ST li w WK so sp CT FW)) (wc := (wX q cI cZ cJ k V C T B P A n PR ST li w WK so sp CT SC TA)) (wb := [(qo, .inl (cJ, 1, .inr (.inl O)))]) hP hK hD hS hA hZ hg 0 (ci := 0) rfl rfl) rfl rfl hl.1 rfl (lv_room (Nat.le_of_ble_eq_true rfl)) dL_law_1420 ⟨(show (27 + 8 * jj) + 0 ≤ 601024 by omega), (show (20244 + 64 * jj) + 0 ≤ 7293034 by omega)⟩) hP hD hS hA (fun rr u H locs hp hP hD hS => ?_)
  replace hp : rr = dgs k V T B P A n PR ST li w WK CT := hp
  subst hp
  have hP : va_P D vwCl ((wM r cI cZ cJ th k V C A T B P OR n PR ST li w WK so sp CT FW) ++ ((wX q cI cZ cJ k V C T B P A n PR ST li w WK so sp CT SC TA) ++ [(qo, .inl (cJ, 1, .inr (.inl O)))])) H := hP
  have hD : va_D (lA s) ((wM r cI cZ cJ th k V C A T B P OR n PR ST li w WK so sp CT FW) ++ ((wX q cI cZ cJ k V C T B P A n PR ST li w WK so sp CT SC TA) ++ [(qo, .inl (cJ, 1, .inr (.inl O)))])) := hD
  refine lv_aload_n hx hb dL_law_1423 rfl (lv_at hl 2 rfl) ?_
  refine k3_l (mc := 0) (ms := 0) (wa := []) (wc := (wM r cI cZ cJ th k V C A T B P OR n PR ST li w WK so sp CT FW)) (wb := ((wX q cI cZ cJ k V C T B P A n PR ST li w WK so sp CT SC TA) ++ [(qo, .inl (cJ, 1, .inr (.inl O)))])) (va_runV (As := []) (rest := [.long (dgs k V T B P A n PR ST li w WK CT)]) ⟨hx, hb, hml, hown, hts⟩ (c_X1_digest l hst D r cI cZ cJ th k V C A T B P OR n PR ST li w WK so sp CT FW H.size  hI.hk8 hI.hA1 hI.hn10 hI.hw12) (cwV 0 hts gL_law_X1_digest rfl rfl rfl hd_X1_digest ⟨(Nat.le_of_ble_eq_true rfl), (Nat.le_of_ble_eq_true rfl)⟩) (pre_V3 (wa := []) (wc := (wM r cI cZ cJ th k V C A T B P OR n PR ST li w WK so sp CT FW)) (wb := ((wX q cI cZ cJ k V C T B P A n PR ST li w WK so sp CT SC TA) ++ [(qo, .inl (cJ, 1, .inr (.inl O)))])) hP hK hD hS hA hZ hg 0 (ci := 1) rfl rfl) rfl rfl hl.1 rfl (lv_room (Nat.le_of_ble_eq_true rfl)) dL_law_1424 ⟨(show ((27 + 8 * jj) + 0) + 0 ≤ 601024 by omega), (show ((20244 + 64 * jj) + 0) + 0 ≤ 7293034 by omega)⟩) hP hD hS hA (fun rr u2 H locs hq hP hD hS => ?_)
  replace hq : rr = dgs k V T B P A n PR ST li w WK CT := hq
  subst hq
  have hP : va_P D vwCl ((wM r cI cZ cJ 0 k V C A T B P OR n PR ST li w WK so sp CT FW) ++ ((wX q cI cZ cJ k V C T B P A n PR ST li w WK so sp CT SC TA) ++ [(qo, .inl (cJ, 1, .inr (.inl O)))])) H := hP
  have hD : va_D (lA s) ((wM r cI cZ cJ 0 k V C A T B P OR n PR ST li w WK so sp CT FW) ++ ((wX q cI cZ cJ k V C T B P A n PR ST li w WK so sp CT SC TA) ++ [(qo, .inl (cJ, 1, .inr (.inl O)))])) := hD
  refine n_lcmp_eq (tgt := 1433) hx hb dL_law_1427 dL_law_1428 (by decide) (fun _ => ?_) (fun h => absurd rfl h)
  refine W.widen (k := 27 + 8 * (jj + 1)) (n := 20244 + 64 * (jj + 1)) (by omega) (by omega) ?_
  exact hN 0 k V C T B P A OR n PR ST li w WK so sp CT SC TA FW O _ _ hI hP hD hS ls (lv_sub hl [0, 1, 2, 3, 4] rfl)

end LW
