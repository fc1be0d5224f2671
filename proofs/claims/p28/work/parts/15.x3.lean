set_option maxHeartbeats 4000000 in
set_option maxRecDepth 100000 in
theorem c_X0_addPackToWays (l : Launch) (hst : l.stackTraces = false) (D : va_G) (q : Nat → Nat) (cI cZ cJ : ClassId) (k : Nat) (V : Nat → Nat) (C : Nat → Nat) (T : Nat → Nat) (B : Nat → Nat) (P : Nat → Nat) (A : Nat → Nat) (n : Nat) (PR : Nat → Nat) (ST : Nat → Nat) (li : Nat) (w : Nat) (WK : Nat → Nat) (so : Nat) (sp : Nat) (CT : Nat → Int64) (SC : Nat → Int) (TA : Nat → Nat) (sz : Nat) (su : Nat) (sc : Int) (en : Nat) (hen : en ≤ 2000) (hs1 : 1 ≤ su) (su_lt : su < 2147483648) (hsc : -288230376151711744 ≤ sc ∧ sc ≤ 0) (hbd : ∀ a, a ≤ en → SC a = -4611686018427387904 ∨ (-288230376151711744 ≤ SC a ∧ SC a ≤ 0)) : Met l yX0_addPackToWays wsX0_addPackToWays ({ frames := 1, cells := 0, slots := 0, locals := 23 }) (va_Pc [.ref (q 0), .int (nI su), .long (lZ sc), .int (nI en)] (cxP D (ty3 cI cZ cJ) (wX q cI cZ cJ k V C T B P A n PR ST li w WK so sp CT SC TA) sz)) (va_Qv (fun (u : Nat → Int) => ∀ a, a ≤ en → u a = ap SC su sc a) (bW D (va_A (wX q cI cZ cJ k V C T B P A n PR ST li w WK so sp CT SC TA) sz) (fun u => (wX q cI cZ cJ k V C T B P A n PR ST li w WK so sp CT u TA))) (va_A (wX q cI cZ cJ k V C T B P A n PR ST li w WK so sp CT SC TA) sz)) 0 0 (va_A (wX q cI cZ cJ k V C T B P A n PR ST li w WK so sp CT SC TA) sz) := by
  refine Met.ofW (cc := cX0_addPackToWays) (maxL := 8) (ret := none) (by decide) rfl ?_
  intro p e s m args below meth c s₁ BB hml hv
  obtain ⟨hav, hsz, hP, hK, hD0, hZ, hg⟩ := hv
  subst hsz
  subst hav
  have hx := BB.exec
  have hb := BB.bytes
  have hr := BB.returns
  have hts := atoms_spec (ws := wsX0_addPackToWays) BB.pre
  have hown : s.vm.findClass RX0 = some m.cls := findClass_of_methodNamed BB.named
  have hlocks := BB.notSynchronized
  have hin : ∀ w ∈ wsX00, w ∈ wsX0_addPackToWays := fun w h => (List.mem_cons_of_mem _ (List.mem_append_right _ h))
  have hD := hD0.self (sz := s.heap.size)
  have hA : ∀ q9 : Nat, s.heap.size ≤ q9 → va_A (wX q cI cZ cJ k V C T B P A n PR ST li w WK so sp CT SC TA) s.heap.size q9 := fun _ h => Or.inr h
  have hl := lv_entry ([.ref (q 0), .int (nI su), .long (lZ sc), .int (nI en)]) (n := 8) (Nat.le_of_ble_eq_true rfl)
  rw [lg_entry_eq]
  generalize (lg_sl ([.ref (q 0), .int (nI su), .long (lZ sc), .int (nI en)]) ++ List.replicate (8 - (lg_sl ([.ref (q 0), .int (nI su), .long (lZ sc), .int (nI en)])).length) Slot.unset).toArray = ls at hl ⊢
  have hl : lv_has ls 8 [(0, .ref (q 0)), (1, .int (nI su)), (2, .long (lZ sc)), (4, .int (nI en))] := hl
  refine W_absR (fun R hR => ?_)
  have hR : R = ({ frames := 1, cells := 0, slots := 0, locals := 23 } : Room) := hR
  refine W_absQ (fun Q hQ => ?_)
  generalize ([.ref (q 0), .int (nI su), .long (lZ sc), .int (nI en)] : List Value).toArray = args at hts hQ ⊢
  generalize va_A (wX q cI cZ cJ k V C T B P A n PR ST li w WK so sp CT SC TA) s.heap.size = A9 at hD hZ hA hQ
  refine W_start hP (A := A9) (fun H locs hP hS => ?_)
  refine lv_iload hx hb dX0_addPackToWays_0 (lv_at hl 3 rfl) ?_
  refine lv_istore (lv' := [(5, .int (nI en)), (0, .ref (q 0)), (1, .int (nI su)), (2, .long (lZ sc)), (4, .int (nI en))]) hx hb dX0_addPackToWays_2 hl (by decide) rfl (fun ls hl => ?_)
  have lp_4 : ∀ (fu_4 : Nat) (am : Nat) (Sx : Nat → Int), am < fu_4 → (am ≤ en) → (∀ a, Sx a = if am < a ∧ a ≤ en then ap SC su sc a else SC a) → ∀ (H : Heap) (locs : List Loc), va_P D vwCl (wX q cI cZ cJ k V C T B P A n PR ST li w WK so sp CT Sx TA) H → va_D A9 (wX q cI cZ cJ k V C T B P A n PR ST li w WK so sp CT Sx TA) → va_S A9 s.heap H locs → ∀ ls : Array Slot, lv_has ls 8 [(5, .int (nI am)), (0, .ref (q 0)), (1, .int (nI su)), (2, .long (lZ sc)), (4, .int (nI en))] → W p l e R s m args below meth c H locs 0 0 Q (F0 m 4 ls []) := by
    intro fu_4
    induction fu_4 with
    | zero =>
      intro am Sx hfu_4
      exact absurd hfu_4 (Nat.not_lt_zero _)
    | succ fu_4 ih_4 =>
      intro am Sx hfu_4 ham hs H locs hP hD hS ls hl
      refine lv_iload hx hb dX0_addPackToWays_4 (lv_at hl 0 rfl) ?_
      refine lv_iload_n hx hb dX0_addPackToWays_6 rfl (lv_at hl 2 rfl) ?_
      refine n_icmp_lt (tgt := 57) hx hb (by omega) su_lt dX0_addPackToWays_7 (by decide) (fun c7 => ?_) (fun c7 => ?_)
      · subst hQ
        exact e_v Sx hx hb hr hlocks hS hP hD (ap_end hs c7) (Nat.le_of_ble_eq_true rfl) (Nat.le_of_ble_eq_true rfl) dX0_addPackToWays_57
      · have z1 := hbd am (by omega)
        have z2 := hbd (am - su) (by omega)
        refine lv_aload_n hx hb dX0_addPackToWays_10 rfl (lv_at hl 1 rfl) ?_
        refine gfX hx hb hts hin hown hK hP 16 (by decide) (List.mem_of_getElem? (i := 1) rfl) rfl rfl dX0_addPackToWays_11 ?_
        refine lv_iload hx hb dX0_addPackToWays_14 (lv_at hl 0 rfl) ?_
        refine lv_iload_n hx hb dX0_addPackToWays_16 rfl (lv_at hl 2 rfl) ?_
        refine n_isub hx hb c7 dX0_addPackToWays_17 ?_
        refine n_sald hx hb hK hP 11 2 rfl rfl (by omega) (by decide) dX0_addPackToWays_18 ?_
        refine n_topl (congrArg lZ (show Sx (am - su) = SC (am - su) by rw [hs, if_neg (by omega)])) ?_
        refine lv_lstore (lv' := [(6, .long (lZ (SC (am - su)))), (5, .int (nI am)), (0, .ref (q 0)), (1, .int (nI su)), (2, .long (lZ sc)), (4, .int (nI en))]) hx hb dX0_addPackToWays_19 hl (by decide) rfl (fun ls hl => ?_)
        refine lv_lload hx hb dX0_addPackToWays_21 (lv_at hl 0 rfl) ?_
        refine lv_ldc2 (v := (-4611686018427387904)) hx hb hown (hts _ (List.mem_of_getElem? (i := 2) rfl)) dX0_addPackToWays_23 (n_topl (show ((-4611686018427387904) : Int64) = lZ (-4611686018427387904) from by decide) ?_)
        refine n_lcmp_eq (tgt := 51) hx hb dX0_addPackToWays_26 dX0_addPackToWays_27 (by decide) (fun c26 => ?_) (fun c26 => ?_)
        · have c27 := (lZ_eq (by omega) (by omega) (by omega) (by omega)).mp c26
          have hs2 := ap_stepN hs (by omega) (fun q => q.2 c27)
          refine lv_iinc (v := nI (am - 1)) (lv' := [(5, .int (nI (am - 1))), (6, .long (lZ (SC (am - su)))), (0, .ref (q 0)), (1, .int (nI su)), (2, .long (lZ sc)), (4, .int (nI en))]) hx hb dX0_addPackToWays_51 hl (k := 1) rfl (ni_dec (by omega)) (by decide) rfl (fun ls hl => ?_)
          refine lv_goto (tgt := 4) hx hb dX0_addPackToWays_54 (by decide) ?_
          exact ih_4 (am - 1) Sx (by omega) (by omega) hs2 _ _ hP hD hS ls (lv_sub hl [0, 2, 3, 4, 5] rfl)
        · have c27 : SC (am - su) ≠ -4611686018427387904 := fun q => c26 (congrArg lZ q)
          have hs2 := ap_stepY hs (by omega) ⟨c7, c27⟩ ham
          refine lv_aload_n hx hb dX0_addPackToWays_30 rfl (lv_at hl 2 rfl) ?_
          refine gfX hx hb hts hin hown hK hP 16 (by decide) (List.mem_of_getElem? (i := 1) rfl) rfl rfl dX0_addPackToWays_31 ?_
          refine lv_iload hx hb dX0_addPackToWays_34 (lv_at hl 1 rfl) ?_
          refine lv_aload_n hx hb dX0_addPackToWays_36 rfl (lv_at hl 2 rfl) ?_
          refine gfX hx hb hts hin hown hK hP 16 (by decide) (List.mem_of_getElem? (i := 1) rfl) rfl rfl dX0_addPackToWays_37 ?_
          refine lv_iload hx hb dX0_addPackToWays_40 (lv_at hl 1 rfl) ?_
          refine n_sald hx hb hK hP 11 2 rfl rfl (by omega) (by decide) dX0_addPackToWays_42 ?_
          refine n_topl (congrArg lZ (show Sx am = SC am by rw [hs, if_neg (by omega)])) ?_
          refine lv_lload hx hb dX0_addPackToWays_43 (lv_at hl 0 rfl) ?_
          refine lv_lload_n hx hb dX0_addPackToWays_45 rfl (lv_at hl 4 rfl) ?_
          refine n_ladd hx hb dX0_addPackToWays_46 ?_
          refine va_mmax_long hx hb (hml.trans hl.1.symm) hown (hts _ (List.mem_of_getElem? (i := 3) rfl)) (hts _ (List.mem_of_getElem? (i := 4) rfl)) (hts _ (List.mem_of_getElem? (i := 5) rfl)) (hts _ (List.mem_of_getElem? (i := 6) rfl)) (by rw [hR]; exact Nat.le_of_ble_eq_true rfl) (by rw [hR]; exact Nat.le_of_ble_eq_true rfl) (by rw [hR]; exact Nat.le_of_ble_eq_true rfl) (by rw [hR]; exact Nat.le_of_ble_eq_true rfl) dX0_addPackToWays_47 (n_topl (lZ_max _ _ (by omega) (by omega) (by omega) (by omega)) ?_)
          refine n_sast (ws' := (wX q cI cZ cJ k V C T B P A n PR ST li w WK so sp CT (uz Sx am (max (SC am) ((SC (am - su)) + sc))) TA)) hx hb hK hP hD hS 11 2 rfl rfl (by omega) (by decide) rfl dX0_addPackToWays_50 (fun H locs hP hD hS => ?_)
          refine lv_iinc (v := nI (am - 1)) (lv' := [(5, .int (nI (am - 1))), (6, .long (lZ (SC (am - su)))), (0, .ref (q 0)), (1, .int (nI su)), (2, .long (lZ sc)), (4, .int (nI en))]) hx hb dX0_addPackToWays_51 hl (k := 1) rfl (ni_dec (by omega)) (by decide) rfl (fun ls hl => ?_)
          refine lv_goto (tgt := 4) hx hb dX0_addPackToWays_54 (by decide) ?_
          exact ih_4 (am - 1) (uz Sx am (max (SC am) ((SC (am - su)) + sc))) (by omega) (by omega) hs2 _ _ hP hD hS ls (lv_sub hl [0, 2, 3, 4, 5] rfl)
  exact lp_4 _ en SC (Nat.lt_succ_self _) (by omega) (fun a => (if_neg (by omega)).symm) _ _ hP hD hS ls (lv_sub hl [0, 1, 2, 3, 4] rfl)
theorem hd_X0_addPackToWays : yX0_addPackToWays.cls = RX0 ∧ yX0_addPackToWays.cls ≠ "java/lang/invoke/MethodHandle" ∧ yX0_addPackToWays.cls ≠ "java/lang/invoke/VarHandle" ∧ (parseMethodDescriptor yX0_addPackToWays.desc).map (fun d => d.parameters.length) = some 3 := by decide +kernel

set_option maxHeartbeats 4000000 in
set_option maxRecDepth 100000 in
theorem c_X0_addKindToWays (l : Launch) (hst : l.stackTraces = false) (D : va_G) (q : Nat → Nat) (cI cZ cJ : ClassId) (k : Nat) (V : Nat → Nat) (C : Nat → Nat) (T : Nat → Nat) (B : Nat → Nat) (P : Nat → Nat) (A : Nat → Nat) (n : Nat) (PR : Nat → Nat) (ST : Nat → Nat) (li : Nat) (w : Nat) (WK : Nat → Nat) (so : Nat) (sp : Nat) (CT : Nat → Int64) (SC : Nat → Int) (TA : Nat → Nat) (sz : Nat) (SS : Nat → Int → Prop) (kd : Nat) (mny : Nat) (en : Nat) (hk8 : k ≤ 8) (hV : ∀ i, i < k → 1 ≤ V i ∧ V i ≤ 500) (hen : en ≤ 2000) (hkd : kd < k) (hmny : mny ≤ 60) (hB : isB SC en SS) (hbx : bd (xt SS (V kd) (wg V k kd) mny)) : Met l yX0_addKindToWays wsX0_addKindToWays ({ frames := 2, cells := 0, slots := 0, locals := 50 }) (va_Pc [.ref (q 0), .int (nI kd), .int (nI mny), .int (nI en)] (cxP D (ty3 cI cZ cJ) (wX q cI cZ cJ k V C T B P A n PR ST li w WK so sp CT SC TA) sz)) (va_Qv (fun (u : Nat → Int) => isB u en (xt SS (V kd) (wg V k kd) mny)) (bW D (va_A (wX q cI cZ cJ k V C T B P A n PR ST li w WK so sp CT SC TA) sz) (fun u => (wX q cI cZ cJ k V C T B P A n PR ST li w WK so sp CT u TA))) (va_A (wX q cI cZ cJ k V C T B P A n PR ST li w WK so sp CT SC TA) sz)) 0 0 (va_A (wX q cI cZ cJ k V C T B P A n PR ST li w WK so sp CT SC TA) sz) := by
  refine Met.ofW (cc := cX0_addKindToWays) (maxL := 9) (ret := none) (by decide) rfl ?_
  intro p e s m args below meth c s₁ BB hml hv
  obtain ⟨hav, hsz, hP, hK, hD0, hZ, hg⟩ := hv
  subst hsz
  subst hav
  have hx := BB.exec
  have hb := BB.bytes
  have hr := BB.returns
  have hts := atoms_spec (ws := wsX0_addKindToWays) BB.pre
  have hown : s.vm.findClass RX0 = some m.cls := findClass_of_methodNamed BB.named
  have hlocks := BB.notSynchronized
  have hin : ∀ w ∈ wsX00, w ∈ wsX0_addKindToWays := fun w h => (List.mem_cons_of_mem _ (List.mem_append_right _ h))
  have hD := hD0.self (sz := s.heap.size)
  have hA : ∀ q9 : Nat, s.heap.size ≤ q9 → va_A (wX q cI cZ cJ k V C T B P A n PR ST li w WK so sp CT SC TA) s.heap.size q9 := fun _ h => Or.inr h
  have hl := lv_entry ([.ref (q 0), .int (nI kd), .int (nI mny), .int (nI en)]) (n := 9) (Nat.le_of_ble_eq_true rfl)
  rw [lg_entry_eq]
  generalize (lg_sl ([.ref (q 0), .int (nI kd), .int (nI mny), .int (nI en)]) ++ List.replicate (9 - (lg_sl ([.ref (q 0), .int (nI kd), .int (nI mny), .int (nI en)])).length) Slot.unset).toArray = ls at hl ⊢
  have hl : lv_has ls 9 [(0, .ref (q 0)), (1, .int (nI kd)), (2, .int (nI mny)), (3, .int (nI en))] := hl
  refine W_absR (fun R hR => ?_)
  have hR : R = ({ frames := 2, cells := 0, slots := 0, locals := 50 } : Room) := hR
  refine W_absQ (fun Q hQ => ?_)
  generalize ([.ref (q 0), .int (nI kd), .int (nI mny), .int (nI en)] : List Value).toArray = args at hts hQ ⊢
  generalize va_A (wX q cI cZ cJ k V C T B P A n PR ST li w WK so sp CT SC TA) s.heap.size = A9 at hD hZ hA hQ
  refine W_start hP (A := A9) (fun H locs hP hS => ?_)
  refine lv_lconst (v := lZ 1) hx hb dX0_addKindToWays_0 (by decide) ?_
  refine lv_aload_n hx hb dX0_addKindToWays_1 rfl (lv_at hl 0 rfl) ?_
  refine lv_iload_n hx hb dX0_addKindToWays_2 rfl (lv_at hl 1 rfl) ?_
  refine k_i (va_runV (As := [.int (nI kd)]) (rest := [.long (lZ 1)]) ⟨hx, hb, hml, hown, hts⟩ (c_X0_digitOf l hst D q cI cZ cJ k V C T B P A n PR ST li w WK so sp CT SC TA H.size kd hk8 hV hkd) (cwV 1 hts gX0_addKindToWays_X0_digitOf rfl rfl rfl hd_X0_digitOf ⟨(by rw [hR]; exact Nat.le_of_ble_eq_true rfl), (by rw [hR]; exact Nat.le_of_ble_eq_true rfl)⟩) (pre_V hP hK hD hS hA hZ hg 0 (ci := 0) rfl rfl) rfl rfl hl.1 rfl (lv_room (Nat.le_of_ble_eq_true rfl)) dX0_addKindToWays_3 ⟨(by rw [hR]; exact Nat.le_of_ble_eq_true rfl), (by rw [hR]; exact Nat.le_of_ble_eq_true rfl)⟩) hD hS hA (fun r_2 u_1 H locs hp_3 hP hD hS => ?_)
  subst hp_3
  refine lv_lshl hx hb dX0_addKindToWays_6 (lZ_shl _ (by have := lc_lt (V := V) hkd; omega)) ?_
  refine lv_ldc2 (v := (281474976710656)) hx hb hown (hts _ (List.mem_of_getElem? (i := 1) rfl)) dX0_addKindToWays_7 (n_topl (show ((281474976710656) : Int64) = lZ 281474976710656 from by decide) ?_)
  refine lv_lsub hx hb dX0_addKindToWays_10 (n_topl (lZ_sub _ _) ?_)
  refine n_topl (show lZ (2 ^ (lc V (V kd) k * 6) - 281474976710656) = lZ (wg V k kd) from rfl) ?_
  refine lv_lstore (lv' := [(4, .long (lZ (wg V k kd))), (0, .ref (q 0)), (1, .int (nI kd)), (2, .int (nI mny)), (3, .int (nI en))]) hx hb dX0_addKindToWays_11 hl (by decide) rfl (fun ls hl => ?_)
  refine lv_iload_n hx hb dX0_addKindToWays_13 rfl (lv_at hl 3 rfl) ?_
  refine lv_istore (lv' := [(6, .int (nI mny)), (4, .long (lZ (wg V k kd))), (0, .ref (q 0)), (1, .int (nI kd)), (2, .int (nI mny)), (3, .int (nI en))]) hx hb dX0_addKindToWays_14 hl (by decide) rfl (fun ls hl => ?_)
  refine lv_iconst (v := nI 1) hx hb dX0_addKindToWays_16 (ic_1) ?_
  refine lv_istore (lv' := [(7, .int (nI 1)), (6, .int (nI mny)), (4, .long (lZ (wg V k kd))), (0, .ref (q 0)), (1, .int (nI kd)), (2, .int (nI mny)), (3, .int (nI en))]) hx hb dX0_addKindToWays_17 hl (by decide) rfl (fun ls hl => ?_)
  have lp_19 : ∀ (fu_19 : Nat) (pk : Nat) (lf : Nat) (Sx : Nat → Int), 128 - pk < fu_19 → (1 ≤ pk ∧ pk ≤ 120) → (lf ≤ mny) → (lf = 0 ∨ mny - lf + 1 = pk) → (isB Sx en (xt SS (V kd) (wg V k kd) (mny - lf))) → ∀ (H : Heap) (locs : List Loc), va_P D vwCl (wX q cI cZ cJ k V C T B P A n PR ST li w WK so sp CT Sx TA) H → va_D A9 (wX q cI cZ cJ k V C T B P A n PR ST li w WK so sp CT Sx TA) → va_S A9 s.heap H locs → ∀ ls : Array Slot, lv_has ls 9 [(7, .int (nI pk)), (6, .int (nI lf)), (4, .long (lZ (wg V k kd))), (0, .ref (q 0)), (1, .int (nI kd)), (3, .int (nI en))] → W p l e R s m args below meth c H locs 0 0 Q (F0 m 19 ls []) := by
    intro fu_19
    induction fu_19 with
    | zero =>
      intro pk lf Sx hfu_19
      exact absurd hfu_19 (Nat.not_lt_zero _)
    | succ fu_19 ih_19 =>
      intro pk lf Sx hfu_19 hpk hlf hT hs H locs hP hD hS ls hl
      refine lv_iload hx hb dX0_addKindToWays_19 (lv_at hl 0 rfl) ?_
      refine lv_bipush (v := nI 60) hx hb dX0_addKindToWays_21 (by decide) ?_
      refine n_icmp_gt (tgt := 76) hx hb (by omega) (by omega) dX0_addKindToWays_23 (by decide) (fun c23 => ?_) (fun c23 => ?_)
      · subst hQ
        exact e_v Sx hx hb hr hlocks hS hP hD (by rw [show mny - lf = mny by omega] at hs; exact hs) (Nat.le_of_ble_eq_true rfl) (Nat.le_of_ble_eq_true rfl) dX0_addKindToWays_76
      · refine lv_iload hx hb dX0_addKindToWays_26 (lv_at hl 0 rfl) ?_
        refine lv_iload hx hb dX0_addKindToWays_28 (lv_at hl 1 rfl) ?_
        refine va_mmin hx hb (hml.trans hl.1.symm) hown (hts _ (List.mem_of_getElem? (i := 2) rfl)) (hts _ (List.mem_of_getElem? (i := 3) rfl)) (hts _ (List.mem_of_getElem? (i := 4) rfl)) (hts _ (List.mem_of_getElem? (i := 5) rfl)) (by rw [hR]; exact Nat.le_of_ble_eq_true rfl) (by rw [hR]; exact Nat.le_of_ble_eq_true rfl) (by rw [hR]; exact Nat.le_of_ble_eq_true rfl) (by rw [hR]; exact Nat.le_of_ble_eq_true rfl) dX0_addKindToWays_30 (n_top (nI_min _ _ (by omega) (by omega)) ?_)
        refine lv_istore (lv' := [(8, .int (nI (min pk lf))), (7, .int (nI pk)), (6, .int (nI lf)), (4, .long (lZ (wg V k kd))), (0, .ref (q 0)), (1, .int (nI kd)), (3, .int (nI en))]) hx hb dX0_addKindToWays_33 hl (by decide) rfl (fun ls hl => ?_)
        refine lv_iload hx hb dX0_addKindToWays_35 (lv_at hl 0 rfl) ?_
        refine n_if_le (tgt := 60) hx hb (by omega) dX0_addKindToWays_37 (by decide) (fun c37 => ?_) (fun c37 => ?_)
        · have hs2 : isB Sx en (xt SS (V kd) (wg V k kd) (mny - (lf - min pk lf))) := by rw [show mny - (lf - min pk lf) = mny - lf by omega]; exact hs
          refine lv_iload hx hb dX0_addKindToWays_60 (lv_at hl 2 rfl) ?_
          refine lv_iload hx hb dX0_addKindToWays_62 (lv_at hl 0 rfl) ?_
          refine n_isub hx hb (by omega) dX0_addKindToWays_64 ?_
          refine lv_istore (lv' := [(6, .int (nI (lf - (min pk lf)))), (8, .int (nI (min pk lf))), (7, .int (nI pk)), (4, .long (lZ (wg V k kd))), (0, .ref (q 0)), (1, .int (nI kd)), (3, .int (nI en))]) hx hb dX0_addKindToWays_65 hl (by decide) rfl (fun ls hl => ?_)
          refine lv_iload hx hb dX0_addKindToWays_67 (lv_at hl 2 rfl) ?_
          refine lv_iconst (v := nI 2) hx hb dX0_addKindToWays_69 (ic_2) ?_
          refine n_imul hx hb dX0_addKindToWays_70 ?_
          refine lv_istore (lv' := [(7, .int (nI (pk * 2))), (6, .int (nI (lf - (min pk lf)))), (8, .int (nI (min pk lf))), (4, .long (lZ (wg V k kd))), (0, .ref (q 0)), (1, .int (nI kd)), (3, .int (nI en))]) hx hb dX0_addKindToWays_71 hl (by decide) rfl (fun ls hl => ?_)
          refine lv_goto (tgt := 19) hx hb dX0_addKindToWays_73 (by decide) ?_
          exact ih_19 (pk * 2) (lf - (min pk lf)) Sx (by omega) (⟨by omega, by omega⟩) (by omega) (by omega) hs2 _ _ hP hD hS ls (lv_sub hl [0, 1, 3, 4, 5, 6] rfl)
        · have hwg := wg_bd (V := V) hk8 hkd
          have hsb : -288230376151711744 ≤ ((min pk lf : Nat) : Int) * wg V k kd ∧ ((min pk lf : Nat) : Int) * wg V k kd ≤ 0 := wmul_bd (by omega) hwg
          refine lv_aload_n hx hb dX0_addKindToWays_40 rfl (lv_at hl 4 rfl) ?_
          refine lv_iload hx hb dX0_addKindToWays_41 (lv_at hl 0 rfl) ?_
          refine lv_aload_n hx hb dX0_addKindToWays_43 rfl (lv_at hl 4 rfl) ?_
          refine gfX hx hb hts hin hown hK hP 1 (by decide) (List.mem_of_getElem? (i := 6) rfl) rfl rfl dX0_addKindToWays_44 ?_
          refine lv_iload_n hx hb dX0_addKindToWays_47 rfl (lv_at hl 5 rfl) ?_
          refine n_iald hx hb hK hP 1 0 rfl rfl (by omega) (by decide) dX0_addKindToWays_48 ?_
          refine n_imul hx hb dX0_addKindToWays_49 ?_
          refine lv_iload hx hb dX0_addKindToWays_50 (lv_at hl 0 rfl) ?_
          refine n_i2l hx hb (by omega) dX0_addKindToWays_52 ?_
          refine lv_lload hx hb dX0_addKindToWays_53 (lv_at hl 3 rfl) ?_
          refine n_lmul hx hb dX0_addKindToWays_55 ?_
          refine lv_iload_n hx hb dX0_addKindToWays_56 rfl (lv_at hl 6 rfl) ?_
          refine k_v (va_runV (As := [.int (nI ((min pk lf) * (V kd))), .long (lZ (((min pk lf : Nat) : Int) * (wg V k kd))), .int (nI en)]) (rest := []) ⟨hx, hb, hml, hown, hts⟩ (c_X0_addPackToWays l hst D q cI cZ cJ k V C T B P A n PR ST li w WK so sp CT Sx TA H.size ((min pk lf) * (V kd)) (((min pk lf : Nat) : Int) * (wg V k kd)) en hen (by have h2 := hV kd hkd; exact Nat.mul_pos (by omega) (by omega)) (by have h2 := hV kd hkd; have h3 : min pk lf * V kd ≤ 60 * 500 := Nat.mul_le_mul (by omega) (by omega); omega) hsb (isB_bd (bd_mono (by omega) hbx) hs)) (cwV 3 hts gX0_addKindToWays_X0_addPackToWays rfl rfl rfl hd_X0_addPackToWays ⟨(by rw [hR]; exact Nat.le_of_ble_eq_true rfl), (by rw [hR]; exact Nat.le_of_ble_eq_true rfl)⟩) (pre_V hP hK hD hS hA hZ hg 0 (ci := 0) rfl rfl) rfl rfl hl.1 rfl (lv_room (Nat.le_of_ble_eq_true rfl)) dX0_addKindToWays_57 ⟨(by rw [hR]; exact Nat.le_of_ble_eq_true rfl), (by rw [hR]; exact Nat.le_of_ble_eq_true rfl)⟩) hD hS hA (fun u_4 H locs hp_6 hP hD hS => ?_)
          have hs2 : isB u_4 en (xt SS (V kd) (wg V k kd) (mny - (lf - min pk lf))) := by
            rw [show mny - (lf - min pk lf) = (mny - lf) + min pk lf by omega]
            exact isB_pack (by omega) (bd_mono (by omega) hbx) hs hp_6
          refine lv_iload hx hb dX0_addKindToWays_60 (lv_at hl 2 rfl) ?_
          refine lv_iload hx hb dX0_addKindToWays_62 (lv_at hl 0 rfl) ?_
          refine n_isub hx hb (by omega) dX0_addKindToWays_64 ?_
          refine lv_istore (lv' := [(6, .int (nI (lf - (min pk lf)))), (8, .int (nI (min pk lf))), (7, .int (nI pk)), (4, .long (lZ (wg V k kd))), (0, .ref (q 0)), (1, .int (nI kd)), (3, .int (nI en))]) hx hb dX0_addKindToWays_65 hl (by decide) rfl (fun ls hl => ?_)
          refine lv_iload hx hb dX0_addKindToWays_67 (lv_at hl 2 rfl) ?_
          refine lv_iconst (v := nI 2) hx hb dX0_addKindToWays_69 (ic_2) ?_
          refine n_imul hx hb dX0_addKindToWays_70 ?_
          refine lv_istore (lv' := [(7, .int (nI (pk * 2))), (6, .int (nI (lf - (min pk lf)))), (8, .int (nI (min pk lf))), (4, .long (lZ (wg V k kd))), (0, .ref (q 0)), (1, .int (nI kd)), (3, .int (nI en))]) hx hb dX0_addKindToWays_71 hl (by decide) rfl (fun ls hl => ?_)
          refine lv_goto (tgt := 19) hx hb dX0_addKindToWays_73 (by decide) ?_
          exact ih_19 (pk * 2) (lf - (min pk lf)) u_4 (by omega) (⟨by omega, by omega⟩) (by omega) (by omega) hs2 _ _ hP hD hS ls (lv_sub hl [0, 1, 3, 4, 5, 6] rfl)
  exact lp_19 _ 1 mny SC (Nat.lt_succ_self _) (⟨by omega, by omega⟩) (by omega) (by omega) (by rw [Nat.sub_self]; exact isB_cong xt_0 hB) _ _ hP hD hS ls (lv_sub hl [0, 1, 2, 3, 4, 6] rfl)
theorem hd_X0_addKindToWays : yX0_addKindToWays.cls = RX0 ∧ yX0_addKindToWays.cls ≠ "java/lang/invoke/MethodHandle" ∧ yX0_addKindToWays.cls ≠ "java/lang/invoke/VarHandle" ∧ (parseMethodDescriptor yX0_addKindToWays.desc).map (fun d => d.parameters.length) = some 3 := by decide +kernel

set_option maxHeartbeats 4000000 in
set_option maxRecDepth 100000 in
theorem c_X0_scoreWays_T (l : Launch) (hst : l.stackTraces = false) (D : va_G) (q : Nat → Nat) (cI cZ cJ : ClassId) (k : Nat) (V : Nat → Nat) (C : Nat → Nat) (T : Nat → Nat) (B : Nat → Nat) (P : Nat → Nat) (A : Nat → Nat) (n : Nat) (PR : Nat → Nat) (ST : Nat → Nat) (li : Nat) (w : Nat) (WK : Nat → Nat) (so : Nat) (sp : Nat) (CT : Nat → Int64) (SC : Nat → Int) (TA : Nat → Nat) (sz : Nat) (mo : Nat) (hk8 : k ≤ 8) (hV : ∀ i, i < k → 1 ≤ V i ∧ V i ≤ 500) (hmo : mo ≤ 2000) (hF : ∀ i, i < k → T i ≤ 60) : Met l yX0_scoreWays wsX0_scoreWays ({ frames := 3, cells := 0, slots := 0, locals := 78 }) (va_Pc [.ref (q 0), .int (nI mo), .ref (q 3)] (cxP D (ty3 cI cZ cJ) (wX q cI cZ cJ k V C T B P A n PR ST li w WK so sp CT SC TA) sz)) (va_Qv (fun (u : Nat → Int) => isB u mo (wS T V (wg V k) k)) (bW D (va_A (wX q cI cZ cJ k V C T B P A n PR ST li w WK so sp CT SC TA) sz) (fun u => (wX q cI cZ cJ k V C T B P A n PR ST li w WK so sp CT u TA))) (va_A (wX q cI cZ cJ k V C T B P A n PR ST li w WK so sp CT SC TA) sz)) 0 0 (va_A (wX q cI cZ cJ k V C T B P A n PR ST li w WK so sp CT SC TA) sz) := by
  refine Met.ofW (cc := cX0_scoreWays) (maxL := 5) (ret := none) (by decide) rfl ?_
  intro p e s m args below meth c s₁ BB hml hv
  obtain ⟨hav, hsz, hP, hK, hD0, hZ, hg⟩ := hv
  subst hsz
  subst hav
  have hx := BB.exec
  have hb := BB.bytes
  have hr := BB.returns
  have hts := atoms_spec (ws := wsX0_scoreWays) BB.pre
  have hown : s.vm.findClass RX0 = some m.cls := findClass_of_methodNamed BB.named
  have hlocks := BB.notSynchronized
  have hin : ∀ w ∈ wsX00, w ∈ wsX0_scoreWays := fun w h => (List.mem_cons_of_mem _ (List.mem_append_right _ h))
  have hD := hD0.self (sz := s.heap.size)
  have hA : ∀ q9 : Nat, s.heap.size ≤ q9 → va_A (wX q cI cZ cJ k V C T B P A n PR ST li w WK so sp CT SC TA) s.heap.size q9 := fun _ h => Or.inr h
  have hl := lv_entry ([.ref (q 0), .int (nI mo), .ref (q 3)]) (n := 5) (Nat.le_of_ble_eq_true rfl)
  rw [lg_entry_eq]
  generalize (lg_sl ([.ref (q 0), .int (nI mo), .ref (q 3)]) ++ List.replicate (5 - (lg_sl ([.ref (q 0), .int (nI mo), .ref (q 3)])).length) Slot.unset).toArray = ls at hl ⊢
  have hl : lv_has ls 5 [(0, .ref (q 0)), (1, .int (nI mo)), (2, .ref (q 3))] := hl
  refine W_absR (fun R hR => ?_)
  have hR : R = ({ frames := 3, cells := 0, slots := 0, locals := 78 } : Room) := hR
  refine W_absQ (fun Q hQ => ?_)
  generalize ([.ref (q 0), .int (nI mo), .ref (q 3)] : List Value).toArray = args at hts hQ ⊢
  generalize va_A (wX q cI cZ cJ k V C T B P A n PR ST li w WK so sp CT SC TA) s.heap.size = A9 at hD hZ hA hQ
  refine W_start hP (A := A9) (fun H locs hP hS => ?_)
  refine lv_iload_n hx hb dX0_scoreWays_0 rfl (lv_at hl 1 rfl) ?_
  refine lv_sipush (v := nI 2000) hx hb dX0_scoreWays_1 (by decide) ?_
  refine va_mmin hx hb (hml.trans hl.1.symm) hown (hts _ (List.mem_of_getElem? (i := 1) rfl)) (hts _ (List.mem_of_getElem? (i := 2) rfl)) (hts _ (List.mem_of_getElem? (i := 3) rfl)) (hts _ (List.mem_of_getElem? (i := 4) rfl)) (by rw [hR]; exact Nat.le_of_ble_eq_true rfl) (by rw [hR]; exact Nat.le_of_ble_eq_true rfl) (by rw [hR]; exact Nat.le_of_ble_eq_true rfl) (by rw [hR]; exact Nat.le_of_ble_eq_true rfl) dX0_scoreWays_4 (n_top (nI_min _ _ (by omega) (by omega)) ?_)
  refine n_top (congrArg nI (show min mo 2000 = mo by omega)) ?_
  refine lv_istore_n (lv' := [(3, .int (nI mo)), (0, .ref (q 0)), (1, .int (nI mo)), (2, .ref (q 3))]) hx hb dX0_scoreWays_7 rfl hl (by decide) rfl (fun ls hl => ?_)
  refine lv_aload_n hx hb dX0_scoreWays_8 rfl (lv_at hl 1 rfl) ?_
  refine gfX hx hb hts hin hown hK hP 16 (by decide) (List.mem_of_getElem? (i := 5) rfl) rfl rfl dX0_scoreWays_9 ?_
  refine lv_iconst (v := nI 0) hx hb dX0_scoreWays_12 (ic_0) ?_
  refine lv_lconst (v := lZ 0) hx hb dX0_scoreWays_13 (by decide) ?_
  refine n_sast (ws' := (wX q cI cZ cJ k V C T B P A n PR ST li w WK so sp CT (uz SC 0 0) TA)) hx hb hK hP hD hS 11 2 rfl rfl (by omega) (by decide) rfl dX0_scoreWays_14 (fun H locs hP hD hS => ?_)
  refine lv_iconst (v := nI 1) hx hb dX0_scoreWays_15 (ic_1) ?_
  refine lv_istore (lv' := [(4, .int (nI 1)), (3, .int (nI mo)), (0, .ref (q 0)), (1, .int (nI mo)), (2, .ref (q 3))]) hx hb dX0_scoreWays_16 hl (by decide) rfl (fun ls hl => ?_)
  have lp_18 : ∀ (fu_18 : Nat) (am : Nat) (Sx : Nat → Int), mo + 1 - am < fu_18 → (1 ≤ am ∧ am ≤ mo + 1) → (Sx 0 = 0) → (∀ a, 1 ≤ a → a < am → Sx a = -4611686018427387904) → ∀ (H : Heap) (locs : List Loc), va_P D vwCl (wX q cI cZ cJ k V C T B P A n PR ST li w WK so sp CT Sx TA) H → va_D A9 (wX q cI cZ cJ k V C T B P A n PR ST li w WK so sp CT Sx TA) → va_S A9 s.heap H locs → ∀ ls : Array Slot, lv_has ls 5 [(4, .int (nI am)), (3, .int (nI mo)), (0, .ref (q 0)), (2, .ref (q 3))] → W p l e R s m args below meth c H locs 0 0 Q (F0 m 18 ls []) := by
    intro fu_18
    induction fu_18 with
    | zero =>
      intro am Sx hfu_18
      exact absurd hfu_18 (Nat.not_lt_zero _)
    | succ fu_18 ih_18 =>
      intro am Sx hfu_18 ham h00 hs H locs hP hD hS ls hl
      refine lv_iload hx hb dX0_scoreWays_18 (lv_at hl 0 rfl) ?_
      refine lv_iload_n hx hb dX0_scoreWays_20 rfl (lv_at hl 1 rfl) ?_
      refine n_icmp_gt (tgt := 40) hx hb (by omega) (by omega) dX0_scoreWays_21 (by decide) (fun c21 => ?_) (fun c21 => ?_)
      · refine lv_iconst (v := nI 0) hx hb dX0_scoreWays_40 (ic_0) ?_
        refine lv_istore (lv' := [(4, .int (nI 0)), (3, .int (nI mo)), (0, .ref (q 0)), (2, .ref (q 3))]) hx hb dX0_scoreWays_41 hl (by decide) rfl (fun ls hl => ?_)
        have lp_43 : ∀ (fu_43 : Nat) (i : Nat) (Sy : Nat → Int), k - i < fu_43 → (i ≤ k) → (isB Sy mo (wS T V (wg V k) i)) → ∀ (H : Heap) (locs : List Loc), va_P D vwCl (wX q cI cZ cJ k V C T B P A n PR ST li w WK so sp CT Sy TA) H → va_D A9 (wX q cI cZ cJ k V C T B P A n PR ST li w WK so sp CT Sy TA) → va_S A9 s.heap H locs → ∀ ls : Array Slot, lv_has ls 5 [(4, .int (nI i)), (3, .int (nI mo)), (0, .ref (q 0)), (2, .ref (q 3))] → W p l e R s m args below meth c H locs 0 0 Q (F0 m 43 ls []) := by
          intro fu_43
          induction fu_43 with
          | zero =>
            intro i Sy hfu_43
            exact absurd hfu_43 (Nat.not_lt_zero _)
          | succ fu_43 ih_43 =>
            intro i Sy hfu_43 hi hy H locs hP hD hS ls hl
            refine lv_iload hx hb dX0_scoreWays_43 (lv_at hl 0 rfl) ?_
            refine lv_aload_n hx hb dX0_scoreWays_45 rfl (lv_at hl 2 rfl) ?_
            refine gfX hx hb hts hin hown hK hP 0 (by decide) (List.mem_of_getElem? (i := 7) rfl) rfl rfl dX0_scoreWays_46 ?_
            refine n_icmp_ge (tgt := 69) hx hb (by omega) (by omega) dX0_scoreWays_49 (by decide) (fun c49 => ?_) (fun c49 => ?_)
            · have hik : k = i := by omega
              subst hik
              subst hQ
              exact e_v Sy hx hb hr hlocks hS hP hD hy (Nat.le_of_ble_eq_true rfl) (Nat.le_of_ble_eq_true rfl) dX0_scoreWays_69
            · refine lv_aload_n hx hb dX0_scoreWays_52 rfl (lv_at hl 2 rfl) ?_
              refine lv_iload hx hb dX0_scoreWays_53 (lv_at hl 0 rfl) ?_
              refine lv_aload_n hx hb dX0_scoreWays_55 rfl (lv_at hl 3 rfl) ?_
              refine lv_iload hx hb dX0_scoreWays_56 (lv_at hl 0 rfl) ?_
              refine n_iald hx hb hK hP 3 0 rfl rfl (by omega) (by decide) dX0_scoreWays_58 ?_
              refine lv_iload_n hx hb dX0_scoreWays_59 rfl (lv_at hl 1 rfl) ?_
              refine k_v (va_runV (As := [.int (nI i), .int (nI (T i)), .int (nI mo)]) (rest := []) ⟨hx, hb, hml, hown, hts⟩ (c_X0_addKindToWays l hst D q cI cZ cJ k V C T B P A n PR ST li w WK so sp CT Sy TA H.size (wS T V (wg V k) i) i (T i) mo hk8 hV hmo (by omega) (hF i (by omega)) hy (wS_bd8 hk8 hF (i + 1) (by omega))) (cwV 3 hts gX0_scoreWays_X0_addKindToWays rfl rfl rfl hd_X0_addKindToWays ⟨(by rw [hR]; exact Nat.le_of_ble_eq_true rfl), (by rw [hR]; exact Nat.le_of_ble_eq_true rfl)⟩) (pre_V hP hK hD hS hA hZ hg 0 (ci := 0) rfl rfl) rfl rfl hl.1 rfl (lv_room (Nat.le_of_ble_eq_true rfl)) dX0_scoreWays_60 ⟨(by rw [hR]; exact Nat.le_of_ble_eq_true rfl), (by rw [hR]; exact Nat.le_of_ble_eq_true rfl)⟩) hD hS hA (fun u_1 H locs hp_3 hP hD hS => ?_)
              have hy2 : isB u_1 mo (wS T V (wg V k) (i + 1)) := hp_3
              refine lv_iinc (v := nI (i + 1)) (lv' := [(4, .int (nI (i + 1))), (3, .int (nI mo)), (0, .ref (q 0)), (2, .ref (q 3))]) hx hb dX0_scoreWays_63 hl (k := 0) rfl (ni_inc _ 1) (by decide) rfl (fun ls hl => ?_)
              refine lv_goto (tgt := 43) hx hb dX0_scoreWays_66 (by decide) ?_
              exact ih_43 (i + 1) u_1 (by omega) (by omega) hy2 _ _ hP hD hS ls (lv_sub hl [0, 1, 2, 3] rfl)
        exact lp_43 _ 0 Sx (Nat.lt_succ_self _) (by omega) (isB_0 h00 (fun a h1 h2 => hs a h1 (by omega))) _ _ hP hD hS ls (lv_sub hl [0, 1, 2, 3] rfl)
      · refine lv_aload_n hx hb dX0_scoreWays_24 rfl (lv_at hl 2 rfl) ?_
        refine gfX hx hb hts hin hown hK hP 16 (by decide) (List.mem_of_getElem? (i := 5) rfl) rfl rfl dX0_scoreWays_25 ?_
        refine lv_iload hx hb dX0_scoreWays_28 (lv_at hl 0 rfl) ?_
        refine lv_ldc2 (v := (-4611686018427387904)) hx hb hown (hts _ (List.mem_of_getElem? (i := 6) rfl)) dX0_scoreWays_30 (n_topl (show ((-4611686018427387904) : Int64) = lZ (-4611686018427387904) from by decide) ?_)
        refine n_sast (ws' := (wX q cI cZ cJ k V C T B P A n PR ST li w WK so sp CT (uz Sx am (-4611686018427387904)) TA)) hx hb hK hP hD hS 11 2 rfl rfl (by omega) (by decide) rfl dX0_scoreWays_33 (fun H locs hP hD hS => ?_)
        refine lv_iinc (v := nI (am + 1)) (lv' := [(4, .int (nI (am + 1))), (3, .int (nI mo)), (0, .ref (q 0)), (2, .ref (q 3))]) hx hb dX0_scoreWays_34 hl (k := 0) rfl (ni_inc _ 1) (by decide) rfl (fun ls hl => ?_)
        refine lv_goto (tgt := 18) hx hb dX0_scoreWays_37 (by decide) ?_
        exact ih_18 (am + 1) (uz Sx am (-4611686018427387904)) (by omega) (⟨by omega, by omega⟩) (by rw [uz_n (by omega)]; exact h00) (fun a h1 h2 => by rcases Nat.lt_or_ge a am with h | h; (rw [uz_n (by omega)]; exact hs a h1 h); (rw [show a = am by omega]; exact uz_s)) _ _ hP hD hS ls (lv_sub hl [0, 1, 2, 3] rfl)
  exact lp_18 _ 1 (uz SC 0 0) (Nat.lt_succ_self _) (⟨by omega, by omega⟩) uz_s (fun a h1 h2 => absurd h1 (by omega)) _ _ hP hD hS ls (lv_sub hl [0, 1, 2, 4] rfl)
theorem hd_X0_scoreWays : yX0_scoreWays.cls = RX0 ∧ yX0_scoreWays.cls ≠ "java/lang/invoke/MethodHandle" ∧ yX0_scoreWays.cls ≠ "java/lang/invoke/VarHandle" ∧ (parseMethodDescriptor yX0_scoreWays.desc).map (fun d => d.parameters.length) = some 2 := by decide +kernel

set_option maxHeartbeats 4000000 in
set_option maxRecDepth 100000 in
theorem c_X0_scoreWays_A (l : Launch) (hst : l.stackTraces = false) (D : va_G) (q : Nat → Nat) (cI cZ cJ : ClassId) (k : Nat) (V : Nat → Nat) (C : Nat → Nat) (T : Nat → Nat) (B : Nat → Nat) (P : Nat → Nat) (A : Nat → Nat) (n : Nat) (PR : Nat → Nat) (ST : Nat → Nat) (li : Nat) (w : Nat) (WK : Nat → Nat) (so : Nat) (sp : Nat) (CT : Nat → Int64) (SC : Nat → Int) (TA : Nat → Nat) (sz : Nat) (mo : Nat) (hk8 : k ≤ 8) (hV : ∀ i, i < k → 1 ≤ V i ∧ V i ≤ 500) (hmo : mo ≤ 2000) (hF : ∀ i, i < k → TA i ≤ 60) : Met l yX0_scoreWays wsX0_scoreWays ({ frames := 3, cells := 0, slots := 0, locals := 78 }) (va_Pc [.ref (q 0), .int (nI mo), .ref (q 17)] (cxP D (ty3 cI cZ cJ) (wX q cI cZ cJ k V C T B P A n PR ST li w WK so sp CT SC TA) sz)) (va_Qv (fun (u : Nat → Int) => isB u mo (wS TA V (wg V k) k)) (bW D (va_A (wX q cI cZ cJ k V C T B P A n PR ST li w WK so sp CT SC TA) sz) (fun u => (wX q cI cZ cJ k V C T B P A n PR ST li w WK so sp CT u TA))) (va_A (wX q cI cZ cJ k V C T B P A n PR ST li w WK so sp CT SC TA) sz)) 0 0 (va_A (wX q cI cZ cJ k V C T B P A n PR ST li w WK so sp CT SC TA) sz) := by
  refine Met.ofW (cc := cX0_scoreWays) (maxL := 5) (ret := none) (by decide) rfl ?_
  intro p e s m args below meth c s₁ BB hml hv
  obtain ⟨hav, hsz, hP, hK, hD0, hZ, hg⟩ := hv
  subst hsz
  subst hav
  have hx := BB.exec
  have hb := BB.bytes
  have hr := BB.returns
  have hts := atoms_spec (ws := wsX0_scoreWays) BB.pre
  have hown : s.vm.findClass RX0 = some m.cls := findClass_of_methodNamed BB.named
  have hlocks := BB.notSynchronized
  have hin : ∀ w ∈ wsX00, w ∈ wsX0_scoreWays := fun w h => (List.mem_cons_of_mem _ (List.mem_append_right _ h))
  have hD := hD0.self (sz := s.heap.size)
  have hA : ∀ q9 : Nat, s.heap.size ≤ q9 → va_A (wX q cI cZ cJ k V C T B P A n PR ST li w WK so sp CT SC TA) s.heap.size q9 := fun _ h => Or.inr h
  have hl := lv_entry ([.ref (q 0), .int (nI mo), .ref (q 17)]) (n := 5) (Nat.le_of_ble_eq_true rfl)
  rw [lg_entry_eq]
  generalize (lg_sl ([.ref (q 0), .int (nI mo), .ref (q 17)]) ++ List.replicate (5 - (lg_sl ([.ref (q 0), .int (nI mo), .ref (q 17)])).length) Slot.unset).toArray = ls at hl ⊢
  have hl : lv_has ls 5 [(0, .ref (q 0)), (1, .int (nI mo)), (2, .ref (q 17))] := hl
  refine W_absR (fun R hR => ?_)
  have hR : R = ({ frames := 3, cells := 0, slots := 0, locals := 78 } : Room) := hR
  refine W_absQ (fun Q hQ => ?_)
  generalize ([.ref (q 0), .int (nI mo), .ref (q 17)] : List Value).toArray = args at hts hQ ⊢
  generalize va_A (wX q cI cZ cJ k V C T B P A n PR ST li w WK so sp CT SC TA) s.heap.size = A9 at hD hZ hA hQ
  refine W_start hP (A := A9) (fun H locs hP hS => ?_)
  refine lv_iload_n hx hb dX0_scoreWays_0 rfl (lv_at hl 1 rfl) ?_
  refine lv_sipush (v := nI 2000) hx hb dX0_scoreWays_1 (by decide) ?_
  refine va_mmin hx hb (hml.trans hl.1.symm) hown (hts _ (List.mem_of_getElem? (i := 1) rfl)) (hts _ (List.mem_of_getElem? (i := 2) rfl)) (hts _ (List.mem_of_getElem? (i := 3) rfl)) (hts _ (List.mem_of_getElem? (i := 4) rfl)) (by rw [hR]; exact Nat.le_of_ble_eq_true rfl) (by rw [hR]; exact Nat.le_of_ble_eq_true rfl) (by rw [hR]; exact Nat.le_of_ble_eq_true rfl) (by rw [hR]; exact Nat.le_of_ble_eq_true rfl) dX0_scoreWays_4 (n_top (nI_min _ _ (by omega) (by omega)) ?_)
  refine n_top (congrArg nI (show min mo 2000 = mo by omega)) ?_
  refine lv_istore_n (lv' := [(3, .int (nI mo)), (0, .ref (q 0)), (1, .int (nI mo)), (2, .ref (q 17))]) hx hb dX0_scoreWays_7 rfl hl (by decide) rfl (fun ls hl => ?_)
  refine lv_aload_n hx hb dX0_scoreWays_8 rfl (lv_at hl 1 rfl) ?_
  refine gfX hx hb hts hin hown hK hP 16 (by decide) (List.mem_of_getElem? (i := 5) rfl) rfl rfl dX0_scoreWays_9 ?_
  refine lv_iconst (v := nI 0) hx hb dX0_scoreWays_12 (ic_0) ?_
  refine lv_lconst (v := lZ 0) hx hb dX0_scoreWays_13 (by decide) ?_
  refine n_sast (ws' := (wX q cI cZ cJ k V C T B P A n PR ST li w WK so sp CT (uz SC 0 0) TA)) hx hb hK hP hD hS 11 2 rfl rfl (by omega) (by decide) rfl dX0_scoreWays_14 (fun H locs hP hD hS => ?_)
  refine lv_iconst (v := nI 1) hx hb dX0_scoreWays_15 (ic_1) ?_
  refine lv_istore (lv' := [(4, .int (nI 1)), (3, .int (nI mo)), (0, .ref (q 0)), (1, .int (nI mo)), (2, .ref (q 17))]) hx hb dX0_scoreWays_16 hl (by decide) rfl (fun ls hl => ?_)
  have lp_18 : ∀ (fu_18 : Nat) (am : Nat) (Sx : Nat → Int), mo + 1 - am < fu_18 → (1 ≤ am ∧ am ≤ mo + 1) → (Sx 0 = 0) → (∀ a, 1 ≤ a → a < am → Sx a = -4611686018427387904) → ∀ (H : Heap) (locs : List Loc), va_P D vwCl (wX q cI cZ cJ k V C T B P A n PR ST li w WK so sp CT Sx TA) H → va_D A9 (wX q cI cZ cJ k V C T B P A n PR ST li w WK so sp CT Sx TA) → va_S A9 s.heap H locs → ∀ ls : Array Slot, lv_has ls 5 [(4, .int (nI am)), (3, .int (nI mo)), (0, .ref (q 0)), (2, .ref (q 17))] → W p l e R s m args below meth c H locs 0 0 Q (F0 m 18 ls []) := by
    intro fu_18
    induction fu_18 with
    | zero =>
      intro am Sx hfu_18
      exact absurd hfu_18 (Nat.not_lt_zero _)
    | succ fu_18 ih_18 =>
      intro am Sx hfu_18 ham h00 hs H locs hP hD hS ls hl
      refine lv_iload hx hb dX0_scoreWays_18 (lv_at hl 0 rfl) ?_
      refine lv_iload_n hx hb dX0_scoreWays_20 rfl (lv_at hl 1 rfl) ?_
      refine n_icmp_gt (tgt := 40) hx hb (by omega) (by omega) dX0_scoreWays_21 (by decide) (fun c21 => ?_) (fun c21 => ?_)
      · refine lv_iconst (v := nI 0) hx hb dX0_scoreWays_40 (ic_0) ?_
        refine lv_istore (lv' := [(4, .int (nI 0)), (3, .int (nI mo)), (0, .ref (q 0)), (2, .ref (q 17))]) hx hb dX0_scoreWays_41 hl (by decide) rfl (fun ls hl => ?_)
        have lp_43 : ∀ (fu_43 : Nat) (i : Nat) (Sy : Nat → Int), k - i < fu_43 → (i ≤ k) → (isB Sy mo (wS TA V (wg V k) i)) → ∀ (H : Heap) (locs : List Loc), va_P D vwCl (wX q cI cZ cJ k V C T B P A n PR ST li w WK so sp CT Sy TA) H → va_D A9 (wX q cI cZ cJ k V C T B P A n PR ST li w WK so sp CT Sy TA) → va_S A9 s.heap H locs → ∀ ls : Array Slot, lv_has ls 5 [(4, .int (nI i)), (3, .int (nI mo)), (0, .ref (q 0)), (2, .ref (q 17))] → W p l e R s m args below meth c H locs 0 0 Q (F0 m 43 ls []) := by
          intro fu_43
          induction fu_43 with
          | zero =>
            intro i Sy hfu_43
            exact absurd hfu_43 (Nat.not_lt_zero _)
          | succ fu_43 ih_43 =>
            intro i Sy hfu_43 hi hy H locs hP hD hS ls hl
            refine lv_iload hx hb dX0_scoreWays_43 (lv_at hl 0 rfl) ?_
            refine lv_aload_n hx hb dX0_scoreWays_45 rfl (lv_at hl 2 rfl) ?_
            refine gfX hx hb hts hin hown hK hP 0 (by decide) (List.mem_of_getElem? (i := 7) rfl) rfl rfl dX0_scoreWays_46 ?_
            refine n_icmp_ge (tgt := 69) hx hb (by omega) (by omega) dX0_scoreWays_49 (by decide) (fun c49 => ?_) (fun c49 => ?_)
            · have hik : k = i := by omega
              subst hik
              subst hQ
              exact e_v Sy hx hb hr hlocks hS hP hD hy (Nat.le_of_ble_eq_true rfl) (Nat.le_of_ble_eq_true rfl) dX0_scoreWays_69
            · refine lv_aload_n hx hb dX0_scoreWays_52 rfl (lv_at hl 2 rfl) ?_
              refine lv_iload hx hb dX0_scoreWays_53 (lv_at hl 0 rfl) ?_
              refine lv_aload_n hx hb dX0_scoreWays_55 rfl (lv_at hl 3 rfl) ?_
              refine lv_iload hx hb dX0_scoreWays_56 (lv_at hl 0 rfl) ?_
              refine n_iald hx hb hK hP 12 0 rfl rfl (by omega) (by decide) dX0_scoreWays_58 ?_
              refine lv_iload_n hx hb dX0_scoreWays_59 rfl (lv_at hl 1 rfl) ?_
              refine k_v (va_runV (As := [.int (nI i), .int (nI (TA i)), .int (nI mo)]) (rest := []) ⟨hx, hb, hml, hown, hts⟩ (c_X0_addKindToWays l hst D q cI cZ cJ k V C T B P A n PR ST li w WK so sp CT Sy TA H.size (wS TA V (wg V k) i) i (TA i) mo hk8 hV hmo (by omega) (hF i (by omega)) hy (wS_bd8 hk8 hF (i + 1) (by omega))) (cwV 3 hts gX0_scoreWays_X0_addKindToWays rfl rfl rfl hd_X0_addKindToWays ⟨(by rw [hR]; exact Nat.le_of_ble_eq_true rfl), (by rw [hR]; exact Nat.le_of_ble_eq_true rfl)⟩) (pre_V hP hK hD hS hA hZ hg 0 (ci := 0) rfl rfl) rfl rfl hl.1 rfl (lv_room (Nat.le_of_ble_eq_true rfl)) dX0_scoreWays_60 ⟨(by rw [hR]; exact Nat.le_of_ble_eq_true rfl), (by rw [hR]; exact Nat.le_of_ble_eq_true rfl)⟩) hD hS hA (fun u_1 H locs hp_3 hP hD hS => ?_)
              have hy2 : isB u_1 mo (wS TA V (wg V k) (i + 1)) := hp_3
              refine lv_iinc (v := nI (i + 1)) (lv' := [(4, .int (nI (i + 1))), (3, .int (nI mo)), (0, .ref (q 0)), (2, .ref (q 17))]) hx hb dX0_scoreWays_63 hl (k := 0) rfl (ni_inc _ 1) (by decide) rfl (fun ls hl => ?_)
              refine lv_goto (tgt := 43) hx hb dX0_scoreWays_66 (by decide) ?_
              exact ih_43 (i + 1) u_1 (by omega) (by omega) hy2 _ _ hP hD hS ls (lv_sub hl [0, 1, 2, 3] rfl)
        exact lp_43 _ 0 Sx (Nat.lt_succ_self _) (by omega) (isB_0 h00 (fun a h1 h2 => hs a h1 (by omega))) _ _ hP hD hS ls (lv_sub hl [0, 1, 2, 3] rfl)
      · refine lv_aload_n hx hb dX0_scoreWays_24 rfl (lv_at hl 2 rfl) ?_
        refine gfX hx hb hts hin hown hK hP 16 (by decide) (List.mem_of_getElem? (i := 5) rfl) rfl rfl dX0_scoreWays_25 ?_
        refine lv_iload hx hb dX0_scoreWays_28 (lv_at hl 0 rfl) ?_
        refine lv_ldc2 (v := (-4611686018427387904)) hx hb hown (hts _ (List.mem_of_getElem? (i := 6) rfl)) dX0_scoreWays_30 (n_topl (show ((-4611686018427387904) : Int64) = lZ (-4611686018427387904) from by decide) ?_)
        refine n_sast (ws' := (wX q cI cZ cJ k V C T B P A n PR ST li w WK so sp CT (uz Sx am (-4611686018427387904)) TA)) hx hb hK hP hD hS 11 2 rfl rfl (by omega) (by decide) rfl dX0_scoreWays_33 (fun H locs hP hD hS => ?_)
        refine lv_iinc (v := nI (am + 1)) (lv' := [(4, .int (nI (am + 1))), (3, .int (nI mo)), (0, .ref (q 0)), (2, .ref (q 17))]) hx hb dX0_scoreWays_34 hl (k := 0) rfl (ni_inc _ 1) (by decide) rfl (fun ls hl => ?_)
        refine lv_goto (tgt := 18) hx hb dX0_scoreWays_37 (by decide) ?_
        exact ih_18 (am + 1) (uz Sx am (-4611686018427387904)) (by omega) (⟨by omega, by omega⟩) (by rw [uz_n (by omega)]; exact h00) (fun a h1 h2 => by rcases Nat.lt_or_ge a am with h | h; (rw [uz_n (by omega)]; exact hs a h1 h); (rw [show a = am by omega]; exact uz_s)) _ _ hP hD hS ls (lv_sub hl [0, 1, 2, 3] rfl)
  exact lp_18 _ 1 (uz SC 0 0) (Nat.lt_succ_self _) (⟨by omega, by omega⟩) uz_s (fun a h1 h2 => absurd h1 (by omega)) _ _ hP hD hS ls (lv_sub hl [0, 1, 2, 4] rfl)

set_option maxHeartbeats 4000000 in
set_option maxRecDepth 100000 in
theorem c_X0_scoreOf (l : Launch) (hst : l.stackTraces = false) (D : va_G) (q : Nat → Nat) (cI cZ cJ : ClassId) (k : Nat) (V : Nat → Nat) (C : Nat → Nat) (T : Nat → Nat) (B : Nat → Nat) (P : Nat → Nat) (A : Nat → Nat) (n : Nat) (PR : Nat → Nat) (ST : Nat → Nat) (li : Nat) (w : Nat) (WK : Nat → Nat) (so : Nat) (sp : Nat) (CT : Nat → Int64) (SC : Nat → Int) (TA : Nat → Nat) (sz : Nat) (am : Nat) (ham : am ≤ 2000) : Met l yX0_scoreOf wsX0_scoreOf ({ frames := 0, cells := 0, slots := 0, locals := 0 }) (va_Pc [.ref (q 0), .int (nI am)] (cxP D (ty3 cI cZ cJ) (wX q cI cZ cJ k V C T B P A n PR ST li w WK so sp CT SC TA) sz)) (va_Ql (fun r (_ : Unit) => r = lZ (SC am)) (bW D (va_A (wX q cI cZ cJ k V C T B P A n PR ST li w WK so sp CT SC TA) sz) (fun (_ : Unit) => (wX q cI cZ cJ k V C T B P A n PR ST li w WK so sp CT SC TA))) (va_A (wX q cI cZ cJ k V C T B P A n PR ST li w WK so sp CT SC TA) sz)) 0 0 (va_A (wX q cI cZ cJ k V C T B P A n PR ST li w WK so sp CT SC TA) sz) := by
  refine Met.ofW (cc := cX0_scoreOf) (maxL := 2) (ret := (some .long)) (by decide) rfl ?_
  intro p e s m args below meth c s₁ BB hml hv
  obtain ⟨hav, hsz, hP, hK, hD0, hZ, hg⟩ := hv
  subst hsz
  subst hav
  have hx := BB.exec
  have hb := BB.bytes
  have hr := BB.returns
  have hts := atoms_spec (ws := wsX0_scoreOf) BB.pre
  have hown : s.vm.findClass RX0 = some m.cls := findClass_of_methodNamed BB.named
  have hlocks := BB.notSynchronized
  have hin : ∀ w ∈ wsX00, w ∈ wsX0_scoreOf := fun w h => (List.mem_cons_of_mem _ (List.mem_append_right _ h))
  have hD := hD0.self (sz := s.heap.size)
  have hA : ∀ q9 : Nat, s.heap.size ≤ q9 → va_A (wX q cI cZ cJ k V C T B P A n PR ST li w WK so sp CT SC TA) s.heap.size q9 := fun _ h => Or.inr h
  have hl := lv_entry ([.ref (q 0), .int (nI am)]) (n := 2) (Nat.le_of_ble_eq_true rfl)
  rw [lg_entry_eq]
  generalize (lg_sl ([.ref (q 0), .int (nI am)]) ++ List.replicate (2 - (lg_sl ([.ref (q 0), .int (nI am)])).length) Slot.unset).toArray = ls at hl ⊢
  have hl : lv_has ls 2 [(0, .ref (q 0)), (1, .int (nI am))] := hl
  refine W_absR (fun R hR => ?_)
  have hR : R = ({ frames := 0, cells := 0, slots := 0, locals := 0 } : Room) := hR
  refine W_absQ (fun Q hQ => ?_)
  generalize ([.ref (q 0), .int (nI am)] : List Value).toArray = args at hts hQ ⊢
  generalize va_A (wX q cI cZ cJ k V C T B P A n PR ST li w WK so sp CT SC TA) s.heap.size = A9 at hD hZ hA hQ
  refine W_start hP (A := A9) (fun H locs hP hS => ?_)
  refine lv_iload_n hx hb dX0_scoreOf_0 rfl (lv_at hl 1 rfl) ?_
  refine n_if_lt (tgt := 11) hx hb (by omega) dX0_scoreOf_1 (by decide) ?_
  refine lv_iload_n hx hb dX0_scoreOf_4 rfl (lv_at hl 1 rfl) ?_
  refine lv_sipush (v := nI 2000) hx hb dX0_scoreOf_5 (by decide) ?_
  refine n_icmp_le (tgt := 17) hx hb (by omega) (by omega) dX0_scoreOf_8 (by decide) (fun c8 => ?_) (fun c8 => ?_)
  · refine lv_aload_n hx hb dX0_scoreOf_17 rfl (lv_at hl 0 rfl) ?_
    refine gfX hx hb hts hin hown hK hP 16 (by decide) (List.mem_of_getElem? (i := 2) rfl) rfl rfl dX0_scoreOf_18 ?_
    refine lv_iload_n hx hb dX0_scoreOf_21 rfl (lv_at hl 1 rfl) ?_
    refine n_sald hx hb hK hP 11 2 rfl rfl (by omega) (by decide) dX0_scoreOf_22 ?_
    subst hQ
    exact e_l () hx hb hr hlocks hS hP hD rfl (Nat.le_of_ble_eq_true rfl) (Nat.le_of_ble_eq_true rfl) dX0_scoreOf_23
  · exact absurd c8 (by omega)
theorem hd_X0_scoreOf : yX0_scoreOf.cls = RX0 ∧ yX0_scoreOf.cls ≠ "java/lang/invoke/MethodHandle" ∧ yX0_scoreOf.cls ≠ "java/lang/invoke/VarHandle" ∧ (parseMethodDescriptor yX0_scoreOf.desc).map (fun d => d.parameters.length) = some 1 := by decide +kernel

set_option maxHeartbeats 4000000 in
set_option maxRecDepth 100000 in
theorem c_X0_coinsInWay (l : Launch) (hst : l.stackTraces = false) (D : va_G) (q : Nat → Nat) (cI cZ cJ : ClassId) (k : Nat) (V : Nat → Nat) (C : Nat → Nat) (T : Nat → Nat) (B : Nat → Nat) (P : Nat → Nat) (A : Nat → Nat) (n : Nat) (PR : Nat → Nat) (ST : Nat → Nat) (li : Nat) (w : Nat) (WK : Nat → Nat) (so : Nat) (sp : Nat) (CT : Nat → Int64) (SC : Nat → Int) (TA : Nat → Nat) (sz : Nat) (wy : Int) (hwy : -288230376151711744 ≤ wy ∧ wy ≤ 0) : Met l yX0_coinsInWay wsX0_coinsInWay ({ frames := 0, cells := 0, slots := 0, locals := 0 }) (va_Pc [.long (lZ wy)] (cxP D (ty3 cI cZ cJ) (wX q cI cZ cJ k V C T B P A n PR ST li w WK so sp CT SC TA) sz)) (va_Qi (fun r (_ : Unit) => r = nI (cnz wy)) (bW D (va_A (wX q cI cZ cJ k V C T B P A n PR ST li w WK so sp CT SC TA) sz) (fun (_ : Unit) => (wX q cI cZ cJ k V C T B P A n PR ST li w WK so sp CT SC TA))) (va_A (wX q cI cZ cJ k V C T B P A n PR ST li w WK so sp CT SC TA) sz)) 0 0 (va_A (wX q cI cZ cJ k V C T B P A n PR ST li w WK so sp CT SC TA) sz) := by
  refine Met.ofW (cc := cX0_coinsInWay) (maxL := 2) (ret := (some .int)) (by decide) rfl ?_
  intro p e s m args below meth c s₁ BB hml hv
  obtain ⟨hav, hsz, hP, hK, hD0, hZ, hg⟩ := hv
  subst hsz
  subst hav
  have hx := BB.exec
  have hb := BB.bytes
  have hr := BB.returns
  have hts := atoms_spec (ws := wsX0_coinsInWay) BB.pre
  have hown : s.vm.findClass RX0 = some m.cls := findClass_of_methodNamed BB.named
  have hlocks := BB.notSynchronized
  have hD := hD0.self (sz := s.heap.size)
  have hA : ∀ q9 : Nat, s.heap.size ≤ q9 → va_A (wX q cI cZ cJ k V C T B P A n PR ST li w WK so sp CT SC TA) s.heap.size q9 := fun _ h => Or.inr h
  have hl := lv_entry ([.long (lZ wy)]) (n := 2) (Nat.le_of_ble_eq_true rfl)
  rw [lg_entry_eq]
  generalize (lg_sl ([.long (lZ wy)]) ++ List.replicate (2 - (lg_sl ([.long (lZ wy)])).length) Slot.unset).toArray = ls at hl ⊢
  have hl : lv_has ls 2 [(0, .long (lZ wy))] := hl
  refine W_absR (fun R hR => ?_)
  have hR : R = ({ frames := 0, cells := 0, slots := 0, locals := 0 } : Room) := hR
  refine W_absQ (fun Q hQ => ?_)
  generalize ([.long (lZ wy)] : List Value).toArray = args at hts hQ ⊢
  generalize va_A (wX q cI cZ cJ k V C T B P A n PR ST li w WK so sp CT SC TA) s.heap.size = A9 at hD hZ hA hQ
  refine W_start hP (A := A9) (fun H locs hP hS => ?_)
  refine lv_lload_n hx hb dX0_coinsInWay_0 rfl (lv_at hl 0 rfl) ?_
  refine lv_bipush (v := nI 48) hx hb dX0_coinsInWay_1 (by decide) ?_
  refine lv_lshr hx hb dX0_coinsInWay_3 (lZ_shr (by omega) (by omega) _ 48 (by decide)) ?_
  refine lv_lneg hx hb dX0_coinsInWay_4 (n_topl (lZ_neg _) ?_)
  refine lv_l2i hx hb dX0_coinsInWay_5 (lZ_i (by omega) (by omega)) ?_
  subst hQ
  exact e_i () hx hb hr hlocks hS hP hD rfl (Nat.le_of_ble_eq_true rfl) (Nat.le_of_ble_eq_true rfl) dX0_coinsInWay_6
theorem hd_X0_coinsInWay : yX0_coinsInWay.cls = RX0 ∧ yX0_coinsInWay.cls ≠ "java/lang/invoke/MethodHandle" ∧ yX0_coinsInWay.cls ≠ "java/lang/invoke/VarHandle" ∧ (parseMethodDescriptor yX0_coinsInWay.desc).map (fun d => d.parameters.length) = some 1 := by decide +kernel

set_option maxHeartbeats 4000000 in
set_option maxRecDepth 100000 in
theorem c_X0_coinsOfKindInWay (l : Launch) (hst : l.stackTraces = false) (D : va_G) (q : Nat → Nat) (cI cZ cJ : ClassId) (k : Nat) (V : Nat → Nat) (C : Nat → Nat) (T : Nat → Nat) (B : Nat → Nat) (P : Nat → Nat) (A : Nat → Nat) (n : Nat) (PR : Nat → Nat) (ST : Nat → Nat) (li : Nat) (w : Nat) (WK : Nat → Nat) (so : Nat) (sp : Nat) (CT : Nat → Int64) (SC : Nat → Int) (TA : Nat → Nat) (sz : Nat) (wy : Int) (kd : Nat) (hwy : -288230376151711744 ≤ wy ∧ wy ≤ 0) (hk8 : k ≤ 8) (hV : ∀ i, i < k → 1 ≤ V i ∧ V i ≤ 500) (hkd : kd < k) : Met l yX0_coinsOfKindInWay wsX0_coinsOfKindInWay ({ frames := 1, cells := 0, slots := 0, locals := 23 }) (va_Pc [.ref (q 0), .long (lZ wy), .int (nI kd)] (cxP D (ty3 cI cZ cJ) (wX q cI cZ cJ k V C T B P A n PR ST li w WK so sp CT SC TA) sz)) (va_Qi (fun r (_ : Unit) => r = nI (pz wy (lc V (V kd) k))) (bW D (va_A (wX q cI cZ cJ k V C T B P A n PR ST li w WK so sp CT SC TA) sz) (fun (_ : Unit) => (wX q cI cZ cJ k V C T B P A n PR ST li w WK so sp CT SC TA))) (va_A (wX q cI cZ cJ k V C T B P A n PR ST li w WK so sp CT SC TA) sz)) 0 0 (va_A (wX q cI cZ cJ k V C T B P A n PR ST li w WK so sp CT SC TA) sz) := by
  refine Met.ofW (cc := cX0_coinsOfKindInWay) (maxL := 4) (ret := (some .int)) (by decide) rfl ?_
  intro p e s m args below meth c s₁ BB hml hv
  obtain ⟨hav, hsz, hP, hK, hD0, hZ, hg⟩ := hv
  subst hsz
  subst hav
  have hx := BB.exec
  have hb := BB.bytes
  have hr := BB.returns
  have hts := atoms_spec (ws := wsX0_coinsOfKindInWay) BB.pre
  have hown : s.vm.findClass RX0 = some m.cls := findClass_of_methodNamed BB.named
  have hlocks := BB.notSynchronized
  have hin : ∀ w ∈ wsX00, w ∈ wsX0_coinsOfKindInWay := fun w h => (List.mem_cons_of_mem _ (List.mem_append_right _ h))
  have hD := hD0.self (sz := s.heap.size)
  have hA : ∀ q9 : Nat, s.heap.size ≤ q9 → va_A (wX q cI cZ cJ k V C T B P A n PR ST li w WK so sp CT SC TA) s.heap.size q9 := fun _ h => Or.inr h
  have hl := lv_entry ([.ref (q 0), .long (lZ wy), .int (nI kd)]) (n := 4) (Nat.le_of_ble_eq_true rfl)
  rw [lg_entry_eq]
  generalize (lg_sl ([.ref (q 0), .long (lZ wy), .int (nI kd)]) ++ List.replicate (4 - (lg_sl ([.ref (q 0), .long (lZ wy), .int (nI kd)])).length) Slot.unset).toArray = ls at hl ⊢
  have hl : lv_has ls 4 [(0, .ref (q 0)), (1, .long (lZ wy)), (3, .int (nI kd))] := hl
  refine W_absR (fun R hR => ?_)
  have hR : R = ({ frames := 1, cells := 0, slots := 0, locals := 23 } : Room) := hR
  refine W_absQ (fun Q hQ => ?_)
  generalize ([.ref (q 0), .long (lZ wy), .int (nI kd)] : List Value).toArray = args at hts hQ ⊢
  generalize va_A (wX q cI cZ cJ k V C T B P A n PR ST li w WK so sp CT SC TA) s.heap.size = A9 at hD hZ hA hQ
  refine W_start hP (A := A9) (fun H locs hP hS => ?_)
  refine lv_lload_n hx hb dX0_coinsOfKindInWay_0 rfl (lv_at hl 1 rfl) ?_
  refine lv_aload_n hx hb dX0_coinsOfKindInWay_1 rfl (lv_at hl 0 rfl) ?_
  refine lv_iload_n hx hb dX0_coinsOfKindInWay_2 rfl (lv_at hl 2 rfl) ?_
  refine k_i (va_runV (As := [.int (nI kd)]) (rest := [.long (lZ wy)]) ⟨hx, hb, hml, hown, hts⟩ (c_X0_digitOf l hst D q cI cZ cJ k V C T B P A n PR ST li w WK so sp CT SC TA H.size kd hk8 hV hkd) (cwV 1 hts gX0_coinsOfKindInWay_X0_digitOf rfl rfl rfl hd_X0_digitOf ⟨(by rw [hR]; exact Nat.le_of_ble_eq_true rfl), (by rw [hR]; exact Nat.le_of_ble_eq_true rfl)⟩) (pre_V hP hK hD hS hA hZ hg 0 (ci := 0) rfl rfl) rfl rfl hl.1 rfl (lv_room (Nat.le_of_ble_eq_true rfl)) dX0_coinsOfKindInWay_3 ⟨(by rw [hR]; exact Nat.le_of_ble_eq_true rfl), (by rw [hR]; exact Nat.le_of_ble_eq_true rfl)⟩) hD hS hA (fun r_2 u_1 H locs hp_3 hP hD hS => ?_)
  subst hp_3
  refine lv_lshr hx hb dX0_coinsOfKindInWay_6 (lZ_shr (by omega) (by omega) _ _ (shr_cnt _ (by have := lc_lt (V := V) hkd; omega))) ?_
  refine lv_ldc2 (v := (63)) hx hb hown (hts _ (List.mem_of_getElem? (i := 1) rfl)) dX0_coinsOfKindInWay_7 (n_topl (show ((63) : Int64) = lZ 63 from by decide) ?_)
  refine lv_land hx hb dX0_coinsOfKindInWay_10 (n_topl (lZ_and63 _) ?_)
  refine lv_l2i hx hb dX0_coinsOfKindInWay_11 (lZ_i (by omega) (by omega)) ?_
  subst hQ
  exact e_i () hx hb hr hlocks hS hP hD rfl (Nat.le_of_ble_eq_true rfl) (Nat.le_of_ble_eq_true rfl) dX0_coinsOfKindInWay_12
theorem hd_X0_coinsOfKindInWay : yX0_coinsOfKindInWay.cls = RX0 ∧ yX0_coinsOfKindInWay.cls ≠ "java/lang/invoke/MethodHandle" ∧ yX0_coinsOfKindInWay.cls ≠ "java/lang/invoke/VarHandle" ∧ (parseMethodDescriptor yX0_coinsOfKindInWay.desc).map (fun d => d.parameters.length) = some 2 := by decide +kernel

set_option maxHeartbeats 4000000 in
set_option maxRecDepth 100000 in
theorem c_X0_payOut (l : Launch) (hst : l.stackTraces = false) (D : va_G) (q : Nat → Nat) (cI cZ cJ : ClassId) (k : Nat) (V : Nat → Nat) (C : Nat → Nat) (T : Nat → Nat) (B : Nat → Nat) (P : Nat → Nat) (A : Nat → Nat) (n : Nat) (PR : Nat → Nat) (ST : Nat → Nat) (li : Nat) (w : Nat) (WK : Nat → Nat) (so : Nat) (sp : Nat) (CT : Nat → Int64) (SC : Nat → Int) (TA : Nat → Nat) (sz : Nat) (wy : Int) (hwy : -288230376151711744 ≤ wy ∧ wy ≤ 0) (hk8 : k ≤ 8) (hV : ∀ i, i < k → 1 ≤ V i ∧ V i ≤ 500) (hpz : ∀ i, i < k → pz wy (lc V (V i) k) ≤ T i) : Met l yX0_payOut wsX0_payOut ({ frames := 2, cells := 0, slots := 0, locals := 46 }) (va_Pc [.ref (q 0), .long (lZ wy)] (cxP D (ty3 cI cZ cJ) (wX q cI cZ cJ k V C T B P A n PR ST li w WK so sp CT SC TA) sz)) (va_Qv (fun (_ : Unit) => True) (bW D (va_A (wX q cI cZ cJ k V C T B P A n PR ST li w WK so sp CT SC TA) sz) (fun (_ : Unit) => (wX q cI cZ cJ k V C (pT T V k wy k) B (pP P V k wy k) A n PR ST li w WK so sp CT SC TA))) (va_A (wX q cI cZ cJ k V C T B P A n PR ST li w WK so sp CT SC TA) sz)) 0 0 (va_A (wX q cI cZ cJ k V C T B P A n PR ST li w WK so sp CT SC TA) sz) := by
  refine Met.ofW (cc := cX0_payOut) (maxL := 4) (ret := none) (by decide) rfl ?_
  intro p e s m args below meth c s₁ BB hml hv
  obtain ⟨hav, hsz, hP, hK, hD0, hZ, hg⟩ := hv
  subst hsz
  subst hav
  have hx := BB.exec
  have hb := BB.bytes
  have hr := BB.returns
  have hts := atoms_spec (ws := wsX0_payOut) BB.pre
  have hown : s.vm.findClass RX0 = some m.cls := findClass_of_methodNamed BB.named
  have hlocks := BB.notSynchronized
  have hin : ∀ w ∈ wsX00, w ∈ wsX0_payOut := fun w h => (List.mem_cons_of_mem _ (List.mem_append_right _ h))
  have hD := hD0.self (sz := s.heap.size)
  have hA : ∀ q9 : Nat, s.heap.size ≤ q9 → va_A (wX q cI cZ cJ k V C T B P A n PR ST li w WK so sp CT SC TA) s.heap.size q9 := fun _ h => Or.inr h
  have hl := lv_entry ([.ref (q 0), .long (lZ wy)]) (n := 4) (Nat.le_of_ble_eq_true rfl)
  rw [lg_entry_eq]
  generalize (lg_sl ([.ref (q 0), .long (lZ wy)]) ++ List.replicate (4 - (lg_sl ([.ref (q 0), .long (lZ wy)])).length) Slot.unset).toArray = ls at hl ⊢
  have hl : lv_has ls 4 [(0, .ref (q 0)), (1, .long (lZ wy))] := hl
  refine W_absR (fun R hR => ?_)
  have hR : R = ({ frames := 2, cells := 0, slots := 0, locals := 46 } : Room) := hR
  refine W_absQ (fun Q hQ => ?_)
  generalize ([.ref (q 0), .long (lZ wy)] : List Value).toArray = args at hts hQ ⊢
  generalize va_A (wX q cI cZ cJ k V C T B P A n PR ST li w WK so sp CT SC TA) s.heap.size = A9 at hD hZ hA hQ
  refine W_start hP (A := A9) (fun H locs hP hS => ?_)
  refine lv_iconst (v := nI 0) hx hb dX0_payOut_0 (ic_0) ?_
  refine lv_istore_n (lv' := [(3, .int (nI 0)), (0, .ref (q 0)), (1, .long (lZ wy))]) hx hb dX0_payOut_1 rfl hl (by decide) rfl (fun ls hl => ?_)
  have lp_2 : ∀ (fu_2 : Nat) (i : Nat), k - i < fu_2 → (i ≤ k) → ∀ (H : Heap) (locs : List Loc), va_P D vwCl (wX q cI cZ cJ k V C (pT T V k wy i) B (pP P V k wy i) A n PR ST li w WK so sp CT SC TA) H → va_D A9 (wX q cI cZ cJ k V C (pT T V k wy i) B (pP P V k wy i) A n PR ST li w WK so sp CT SC TA) → va_S A9 s.heap H locs → ∀ ls : Array Slot, lv_has ls 4 [(3, .int (nI i)), (0, .ref (q 0)), (1, .long (lZ wy))] → W p l e R s m args below meth c H locs 0 0 Q (F0 m 2 ls []) := by
    intro fu_2
    induction fu_2 with
    | zero =>
      intro i hfu_2
      exact absurd hfu_2 (Nat.not_lt_zero _)
    | succ fu_2 ih_2 =>
      intro i hfu_2 hi H locs hP hD hS ls hl
      refine lv_iload_n hx hb dX0_payOut_2 rfl (lv_at hl 0 rfl) ?_
      refine lv_aload_n hx hb dX0_payOut_3 rfl (lv_at hl 1 rfl) ?_
      refine gfX hx hb hts hin hown hK hP 0 (by decide) (List.mem_of_getElem? (i := 1) rfl) rfl rfl dX0_payOut_4 ?_
      refine n_icmp_ge (tgt := 43) hx hb (by omega) (by omega) dX0_payOut_7 (by decide) (fun c7 => ?_) (fun c7 => ?_)
      · have hik : k = i := by omega
        subst hik
        subst hQ
        exact e_v () hx hb hr hlocks hS hP hD trivial (Nat.le_of_ble_eq_true rfl) (Nat.le_of_ble_eq_true rfl) dX0_payOut_43
      · refine lv_aload_n hx hb dX0_payOut_10 rfl (lv_at hl 1 rfl) ?_
        refine gfX hx hb hts hin hown hK hP 5 (by decide) (List.mem_of_getElem? (i := 2) rfl) rfl rfl dX0_payOut_11 ?_
        refine lv_iload_n hx hb dX0_payOut_14 rfl (lv_at hl 0 rfl) ?_
        refine lv_aload_n hx hb dX0_payOut_15 rfl (lv_at hl 1 rfl) ?_
        refine lv_lload_n hx hb dX0_payOut_16 rfl (lv_at hl 2 rfl) ?_
        refine lv_iload_n hx hb dX0_payOut_17 rfl (lv_at hl 0 rfl) ?_
        refine k_i (va_runV (As := [.long (lZ wy), .int (nI i)]) (rest := [.int (nI i), .ref (q 5)]) ⟨hx, hb, hml, hown, hts⟩ (c_X0_coinsOfKindInWay l hst D q cI cZ cJ k V C (pT T V k wy i) B (pP P V k wy i) A n PR ST li w WK so sp CT SC TA H.size wy i hwy hk8 hV (by omega)) (cwV 2 hts gX0_payOut_X0_coinsOfKindInWay rfl rfl rfl hd_X0_coinsOfKindInWay ⟨(by rw [hR]; exact Nat.le_of_ble_eq_true rfl), (by rw [hR]; exact Nat.le_of_ble_eq_true rfl)⟩) (pre_V hP hK hD hS hA hZ hg 0 (ci := 0) rfl rfl) rfl rfl hl.1 rfl (lv_room (Nat.le_of_ble_eq_true rfl)) dX0_payOut_18 ⟨(by rw [hR]; exact Nat.le_of_ble_eq_true rfl), (by rw [hR]; exact Nat.le_of_ble_eq_true rfl)⟩) hD hS hA (fun r_2 u_1 H locs hp_3 hP hD hS => ?_)
        subst hp_3
        refine n_iast (ws' := (wX q cI cZ cJ k V C (pT T V k wy i) B (un (pP P V k wy i) i (pz wy (lc V (V i) k))) A n PR ST li w WK so sp CT SC TA)) hx hb hK hP hD hS 5 0 rfl rfl (by omega) (by decide) rfl dX0_payOut_21 (fun H locs hP hD hS => ?_)
        rw [show un (pP P V k wy i) i (pz wy (lc V (V i) k)) = pP P V k wy (i + 1) from pP_s P V k wy i] at hP hD
        refine lv_aload_n hx hb dX0_payOut_22 rfl (lv_at hl 1 rfl) ?_
        refine gfX hx hb hts hin hown hK hP 3 (by decide) (List.mem_of_getElem? (i := 3) rfl) rfl rfl dX0_payOut_23 ?_
        refine lv_iload_n hx hb dX0_payOut_26 rfl (lv_at hl 0 rfl) ?_
        refine lv_dup2_11 hx hb dX0_payOut_27 rfl rfl ?_
        refine n_iald hx hb hK hP 3 0 rfl rfl (by omega) (by decide) dX0_payOut_28 ?_
        refine n_top (congrArg nI (show (pT T V k wy i) i = T i from pT_at T V k wy i)) ?_
        refine lv_aload_n hx hb dX0_payOut_29 rfl (lv_at hl 1 rfl) ?_
        refine gfX hx hb hts hin hown hK hP 5 (by decide) (List.mem_of_getElem? (i := 2) rfl) rfl rfl dX0_payOut_30 ?_
        refine lv_iload_n hx hb dX0_payOut_33 rfl (lv_at hl 0 rfl) ?_
        refine n_iald hx hb hK hP 5 0 rfl rfl (by omega) (by decide) dX0_payOut_34 ?_
        refine n_top (congrArg nI (show (pP P V k wy (i + 1)) i = pz wy (lc V (V i) k) from pP_in P V k wy i)) ?_
        refine n_isub hx hb (hpz i (by omega)) dX0_payOut_35 ?_
        refine n_iast (ws' := (wX q cI cZ cJ k V C (un (pT T V k wy i) i ((T i) - (pz wy (lc V (V i) k)))) B (pP P V k wy (i + 1)) A n PR ST li w WK so sp CT SC TA)) hx hb hK hP hD hS 3 0 rfl rfl (by omega) (by decide) rfl dX0_payOut_36 (fun H locs hP hD hS => ?_)
        rw [show un (pT T V k wy i) i ((T i) - (pz wy (lc V (V i) k))) = pT T V k wy (i + 1) from pT_s T V k wy i] at hP hD
        refine lv_iinc (v := nI (i + 1)) (lv' := [(3, .int (nI (i + 1))), (0, .ref (q 0)), (1, .long (lZ wy))]) hx hb dX0_payOut_37 hl (k := 0) rfl (ni_inc _ 1) (by decide) rfl (fun ls hl => ?_)
        refine lv_goto (tgt := 2) hx hb dX0_payOut_40 (by decide) ?_
        exact ih_2 (i + 1) (by omega) (by omega) _ _ hP hD hS ls (lv_sub hl [0, 1, 2] rfl)
  rw [pP_0 P V k wy, pT_0 T V k wy] at hP hD
  exact lp_2 _ 0 (Nat.lt_succ_self _) (by omega) _ _ hP hD hS ls (lv_sub hl [0, 1, 2] rfl)
theorem hd_X0_payOut : yX0_payOut.cls = RX0 ∧ yX0_payOut.cls ≠ "java/lang/invoke/MethodHandle" ∧ yX0_payOut.cls ≠ "java/lang/invoke/VarHandle" ∧ (parseMethodDescriptor yX0_payOut.desc).map (fun d => d.parameters.length) = some 1 := by decide +kernel
