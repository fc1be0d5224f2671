set_option maxHeartbeats 4000000 in
set_option maxRecDepth 100000 in
theorem c_X1_unitNow (l : Launch) (hst : l.stackTraces = false) (D : va_G) (q : Nat → Nat) (cI cZ cJ : ClassId) (th : Nat) (k : Nat) (V : Nat → Nat) (C : Nat → Nat) (A : Nat → Nat) (T : Nat → Nat) (B : Nat → Nat) (P : Nat → Nat) (OR : Nat → Nat) (n : Nat) (PR : Nat → Nat) (ST : Nat → Nat) (li : Nat) (w : Nat) (WK : Nat → Nat) (so : Nat) (sp : Nat) (CT : Nat → Int64) (FW : Nat → Nat) (sz : Nat) (hk8 : k ≤ 8) (hV : ∀ i, i < k → 1 ≤ V i ∧ V i ≤ 500) : Met l yX1_unitNow wsX1_unitNow ({ frames := 0, cells := 0, slots := 0, locals := 0 }) (va_Pc [.ref (q 0)] (cxP D (ty3 cI cZ cJ) (wM q cI cZ cJ th k V C A T B P OR n PR ST li w WK so sp CT FW) sz)) (va_Qi (fun r (_ : Unit) => r = nI (gu V k)) (bW D (va_A (wM q cI cZ cJ th k V C A T B P OR n PR ST li w WK so sp CT FW) sz) (fun (_ : Unit) => (wM q cI cZ cJ th k V C A T B P OR n PR ST li w WK so sp CT FW))) (va_A (wM q cI cZ cJ th k V C A T B P OR n PR ST li w WK so sp CT FW) sz)) 0 0 (va_A (wM q cI cZ cJ th k V C A T B P OR n PR ST li w WK so sp CT FW) sz) := by
  refine Met.ofW (cc := cX1_unitNow) (maxL := 5) (ret := (some .int)) (by decide) rfl ?_
  intro p e s m args below meth c s₁ BB hml hv
  obtain ⟨hav, hsz, hP, hK, hD0, hZ, hg⟩ := hv
  subst hsz
  subst hav
  have hx := BB.exec
  have hb := BB.bytes
  have hr := BB.returns
  have hts := atoms_spec (ws := wsX1_unitNow) BB.pre
  have hown : s.vm.findClass RX1 = some m.cls := findClass_of_methodNamed BB.named
  have hlocks := BB.notSynchronized
  have hin : ∀ w ∈ wsX10, w ∈ wsX1_unitNow := fun w h => (List.mem_cons_of_mem _ (List.mem_append_right _ h))
  have hD := hD0.self (sz := s.heap.size)
  have hA : ∀ q9 : Nat, s.heap.size ≤ q9 → va_A (wM q cI cZ cJ th k V C A T B P OR n PR ST li w WK so sp CT FW) s.heap.size q9 := fun _ h => Or.inr h
  have hl := lv_entry ([.ref (q 0)]) (n := 5) (Nat.le_of_ble_eq_true rfl)
  rw [lg_entry_eq]
  generalize (lg_sl ([.ref (q 0)]) ++ List.replicate (5 - (lg_sl ([.ref (q 0)])).length) Slot.unset).toArray = ls at hl ⊢
  have hl : lv_has ls 5 [(0, .ref (q 0))] := hl
  refine W_absR (fun R hR => ?_)
  have hR : R = ({ frames := 0, cells := 0, slots := 0, locals := 0 } : Room) := hR
  refine W_absQ (fun Q hQ => ?_)
  generalize ([.ref (q 0)] : List Value).toArray = args at hts hQ ⊢
  generalize va_A (wM q cI cZ cJ th k V C A T B P OR n PR ST li w WK so sp CT FW) s.heap.size = A9 at hD hZ hA hQ
  refine W_start hP (A := A9) (fun H locs hP hS => ?_)
  refine lv_iconst (v := nI 0) hx hb dX1_unitNow_0 (ic_0) ?_
  refine lv_istore_n (lv' := [(1, .int (nI 0)), (0, .ref (q 0))]) hx hb dX1_unitNow_1 rfl hl (by decide) rfl (fun ls hl => ?_)
  refine lv_sipush (v := nI 500) hx hb dX1_unitNow_2 (by decide) ?_
  refine lv_istore_n (lv' := [(2, .int (nI 500)), (1, .int (nI 0)), (0, .ref (q 0))]) hx hb dX1_unitNow_5 rfl hl (by decide) rfl (fun ls hl => ?_)
  have lp_6 : ∀ (fu_6 : Nat) (cd : Nat) (uu : Nat), cd < fu_6 → (cd ≤ 500) → ((uu = 0 ∧ (0 < k → gu V k = fd V k cd)) ∨ (uu ≠ 0 ∧ uu ≤ 500 ∧ uu = gu V k)) → ∀ (H : Heap) (locs : List Loc), va_P D vwCl (wM q cI cZ cJ th k V C A T B P OR n PR ST li w WK so sp CT FW) H → va_D A9 (wM q cI cZ cJ th k V C A T B P OR n PR ST li w WK so sp CT FW) → va_S A9 s.heap H locs → ∀ ls : Array Slot, lv_has ls 5 [(2, .int (nI cd)), (1, .int (nI uu)), (0, .ref (q 0))] → W p l e R s m args below meth c H locs 0 0 Q (F0 m 6 ls []) := by
    intro fu_6
    induction fu_6 with
    | zero =>
      intro cd uu hfu_6
      exact absurd hfu_6 (Nat.not_lt_zero _)
    | succ fu_6 ih_6 =>
      intro cd uu hfu_6 hcd hu H locs hP hD hS ls hl
      refine lv_iload_n hx hb dX1_unitNow_6 rfl (lv_at hl 0 rfl) ?_
      refine n_if_le (tgt := 75) hx hb (by omega) dX1_unitNow_7 (by decide) (fun c7 => ?_) (fun c7 => ?_)
      · have hxu : cd = 0 ∨ k = 0 ∨ uu ≠ 0 := Or.inl c7
        refine lv_iload_n hx hb dX1_unitNow_75 rfl (lv_at hl 1 rfl) ?_
        subst hQ
        exact e_i () hx hb hr hlocks hS hP hD (congrArg nI (unit_res hu hxu)) (Nat.le_of_ble_eq_true rfl) (Nat.le_of_ble_eq_true rfl) dX1_unitNow_76
      · refine lv_aload_n hx hb dX1_unitNow_10 rfl (lv_at hl 2 rfl) ?_
        refine gfM hx hb hts hin hown hK hP 1 (by decide) (List.mem_of_getElem? (i := 1) rfl) rfl rfl dX1_unitNow_11 ?_
        refine n_if_le (tgt := 75) hx hb (by omega) dX1_unitNow_14 (by decide) (fun c14 => ?_) (fun c14 => ?_)
        · have hxu : cd = 0 ∨ k = 0 ∨ uu ≠ 0 := Or.inr (Or.inl c14)
          refine lv_iload_n hx hb dX1_unitNow_75 rfl (lv_at hl 1 rfl) ?_
          subst hQ
          exact e_i () hx hb hr hlocks hS hP hD (congrArg nI (unit_res hu hxu)) (Nat.le_of_ble_eq_true rfl) (Nat.le_of_ble_eq_true rfl) dX1_unitNow_76
        · refine lv_iload_n hx hb dX1_unitNow_17 rfl (lv_at hl 1 rfl) ?_
          refine n_if_ne (tgt := 75) hx hb (by omega) dX1_unitNow_18 (by decide) (fun c18 => ?_) (fun c18 => ?_)
          · have hxu : cd = 0 ∨ k = 0 ∨ uu ≠ 0 := Or.inr (Or.inr c18)
            refine lv_iload_n hx hb dX1_unitNow_75 rfl (lv_at hl 1 rfl) ?_
            subst hQ
            exact e_i () hx hb hr hlocks hS hP hD (congrArg nI (unit_res hu hxu)) (Nat.le_of_ble_eq_true rfl) (Nat.le_of_ble_eq_true rfl) dX1_unitNow_76
          · refine lv_iconst (v := nI 1) hx hb dX1_unitNow_21 (ic_1) ?_
            refine lv_istore_n (lv' := [(3, .int (nI 1)), (2, .int (nI cd)), (1, .int (nI uu)), (0, .ref (q 0))]) hx hb dX1_unitNow_22 rfl hl (by decide) rfl (fun ls hl => ?_)
            refine lv_iconst (v := nI 0) hx hb dX1_unitNow_23 (ic_0) ?_
            refine lv_istore (lv' := [(4, .int (nI 0)), (3, .int (nI 1)), (2, .int (nI cd)), (1, .int (nI uu)), (0, .ref (q 0))]) hx hb dX1_unitNow_24 hl (by decide) rfl (fun ls hl => ?_)
            have lp_26 : ∀ (fu_26 : Nat) (i : Nat) (iz : Nat), k - i < fu_26 → (i ≤ k) → (iz = dv V i cd) → ∀ (H : Heap) (locs : List Loc), va_P D vwCl (wM q cI cZ cJ th k V C A T B P OR n PR ST li w WK so sp CT FW) H → va_D A9 (wM q cI cZ cJ th k V C A T B P OR n PR ST li w WK so sp CT FW) → va_S A9 s.heap H locs → ∀ ls : Array Slot, lv_has ls 5 [(4, .int (nI i)), (3, .int (nI iz)), (2, .int (nI cd)), (1, .int (nI uu)), (0, .ref (q 0))] → W p l e R s m args below meth c H locs 0 0 Q (F0 m 26 ls []) := by
              intro fu_26
              induction fu_26 with
              | zero =>
                intro i iz hfu_26
                exact absurd hfu_26 (Nat.not_lt_zero _)
              | succ fu_26 ih_26 =>
                intro i iz hfu_26 hi hz H locs hP hD hS ls hl
                refine lv_iload hx hb dX1_unitNow_26 (lv_at hl 0 rfl) ?_
                refine lv_aload_n hx hb dX1_unitNow_28 rfl (lv_at hl 4 rfl) ?_
                refine gfM hx hb hts hin hown hK hP 1 (by decide) (List.mem_of_getElem? (i := 1) rfl) rfl rfl dX1_unitNow_29 ?_
                refine n_icmp_ge (tgt := 63) hx hb (by omega) (by omega) dX1_unitNow_32 (by decide) (fun c32 => ?_) (fun c32 => ?_)
                · refine lv_iload_n hx hb dX1_unitNow_63 rfl (lv_at hl 1 rfl) ?_
                  refine n_if_eq (tgt := 69) hx hb (by have := dv_le V i cd; omega) dX1_unitNow_64 (by decide) (fun c64 => ?_) (fun c64 => ?_)
                  · have hik : i = k := by omega
                    have hu2 : (uu = 0 ∧ (0 < k → gu V k = fd V k (cd - 1))) ∨ (uu ≠ 0 ∧ uu ≤ 500 ∧ uu = gu V k) := by
                      rcases hu with ⟨h1, h2⟩ | h1
                      · exact Or.inl ⟨h1, fun h => (h2 h).trans (fd_n (by omega) (by rw [← hik, ← hz]; omega))⟩
                      · exact absurd c18 h1.1
                    refine lv_iinc (v := nI (cd - 1)) (lv' := [(2, .int (nI (cd - 1))), (4, .int (nI i)), (3, .int (nI iz)), (1, .int (nI uu)), (0, .ref (q 0))]) hx hb dX1_unitNow_69 hl (k := 2) rfl (ni_dec (by omega)) (by decide) rfl (fun ls hl => ?_)
                    refine lv_goto (tgt := 6) hx hb dX1_unitNow_72 (by decide) ?_
                    exact ih_6 (cd - 1) uu (by omega) (by omega) hu2 _ _ hP hD hS ls (lv_sub hl [0, 3, 4] rfl)
                  · have hik : i = k := by omega
                    have hdl := dv_le V i cd
                    have hu2 : (cd = 0 ∧ (0 < k → gu V k = fd V k (cd - 1))) ∨ (cd ≠ 0 ∧ cd ≤ 500 ∧ cd = gu V k) := by
                      rcases hu with ⟨h1, h2⟩ | h1
                      · exact Or.inr ⟨by omega, by omega, ((h2 (by omega)).trans (fd_y (by omega) (by rw [← hik, ← hz]; omega))).symm⟩
                      · exact absurd c18 h1.1
                    refine lv_iload_n hx hb dX1_unitNow_67 rfl (lv_at hl 2 rfl) ?_
                    refine lv_istore_n (lv' := [(1, .int (nI cd)), (4, .int (nI i)), (3, .int (nI iz)), (2, .int (nI cd)), (0, .ref (q 0))]) hx hb dX1_unitNow_68 rfl hl (by decide) rfl (fun ls hl => ?_)
                    refine lv_iinc (v := nI (cd - 1)) (lv' := [(2, .int (nI (cd - 1))), (1, .int (nI cd)), (4, .int (nI i)), (3, .int (nI iz)), (0, .ref (q 0))]) hx hb dX1_unitNow_69 hl (k := 3) rfl (ni_dec (by omega)) (by decide) rfl (fun ls hl => ?_)
                    refine lv_goto (tgt := 6) hx hb dX1_unitNow_72 (by decide) ?_
                    exact ih_6 (cd - 1) cd (by omega) (by omega) hu2 _ _ hP hD hS ls (lv_sub hl [0, 1, 4] rfl)
                · refine lv_iload_n hx hb dX1_unitNow_35 rfl (lv_at hl 1 rfl) ?_
                  refine n_if_eq (tgt := 55) hx hb (by have := dv_le V i cd; omega) dX1_unitNow_36 (by decide) (fun c36 => ?_) (fun c36 => ?_)
                  · have hz2 : 0 = dv V (i + 1) cd := by rw [dv_s, if_neg (fun q => by omega)]
                    refine lv_iconst (v := nI 0) hx hb dX1_unitNow_55 (ic_0) ?_
                    refine lv_istore_n (lv' := [(3, .int (nI 0)), (4, .int (nI i)), (2, .int (nI cd)), (1, .int (nI uu)), (0, .ref (q 0))]) hx hb dX1_unitNow_56 rfl hl (by decide) rfl (fun ls hl => ?_)
                    refine lv_iinc (v := nI (i + 1)) (lv' := [(4, .int (nI (i + 1))), (3, .int (nI 0)), (2, .int (nI cd)), (1, .int (nI uu)), (0, .ref (q 0))]) hx hb dX1_unitNow_57 hl (k := 1) rfl (ni_inc _ 1) (by decide) rfl (fun ls hl => ?_)
                    refine lv_goto (tgt := 26) hx hb dX1_unitNow_60 (by decide) ?_
                    exact ih_26 (i + 1) 0 (by omega) (by omega) hz2 _ _ hP hD hS ls (lv_sub hl [0, 1, 2, 3, 4] rfl)
                  · refine lv_aload_n hx hb dX1_unitNow_39 rfl (lv_at hl 4 rfl) ?_
                    refine gfM hx hb hts hin hown hK hP 2 (by decide) (List.mem_of_getElem? (i := 2) rfl) rfl rfl dX1_unitNow_40 ?_
                    refine lv_iload hx hb dX1_unitNow_43 (lv_at hl 0 rfl) ?_
                    refine n_iald hx hb hK hP 1 0 rfl rfl (by omega) (by decide) dX1_unitNow_45 ?_
                    refine lv_iload_n hx hb dX1_unitNow_46 rfl (lv_at hl 2 rfl) ?_
                    refine n_irem hx hb (by have := hV i (by omega); omega) (by omega) (by omega) dX1_unitNow_47 ?_
                    refine n_if_ne (tgt := 55) hx hb (by have := hV i (by omega); have := Nat.mod_le (V i) cd; omega) dX1_unitNow_48 (by decide) (fun c48 => ?_) (fun c48 => ?_)
                    · have hz2 : 0 = dv V (i + 1) cd := by rw [dv_s, if_neg (fun q => c48 q.2)]
                      refine lv_iconst (v := nI 0) hx hb dX1_unitNow_55 (ic_0) ?_
                      refine lv_istore_n (lv' := [(3, .int (nI 0)), (4, .int (nI i)), (2, .int (nI cd)), (1, .int (nI uu)), (0, .ref (q 0))]) hx hb dX1_unitNow_56 rfl hl (by decide) rfl (fun ls hl => ?_)
                      refine lv_iinc (v := nI (i + 1)) (lv' := [(4, .int (nI (i + 1))), (3, .int (nI 0)), (2, .int (nI cd)), (1, .int (nI uu)), (0, .ref (q 0))]) hx hb dX1_unitNow_57 hl (k := 1) rfl (ni_inc _ 1) (by decide) rfl (fun ls hl => ?_)
                      refine lv_goto (tgt := 26) hx hb dX1_unitNow_60 (by decide) ?_
                      exact ih_26 (i + 1) 0 (by omega) (by omega) hz2 _ _ hP hD hS ls (lv_sub hl [0, 1, 2, 3, 4] rfl)
                    · have hdl := dv_le V i cd
                      have hz2 : 1 = dv V (i + 1) cd := by rw [dv_s, if_pos ⟨by omega, c48⟩]
                      refine lv_iconst (v := nI 1) hx hb dX1_unitNow_51 (ic_1) ?_
                      refine lv_goto (tgt := 56) hx hb dX1_unitNow_52 (by decide) ?_
                      refine lv_istore_n (lv' := [(3, .int (nI 1)), (4, .int (nI i)), (2, .int (nI cd)), (1, .int (nI uu)), (0, .ref (q 0))]) hx hb dX1_unitNow_56 rfl hl (by decide) rfl (fun ls hl => ?_)
                      refine lv_iinc (v := nI (i + 1)) (lv' := [(4, .int (nI (i + 1))), (3, .int (nI 1)), (2, .int (nI cd)), (1, .int (nI uu)), (0, .ref (q 0))]) hx hb dX1_unitNow_57 hl (k := 1) rfl (ni_inc _ 1) (by decide) rfl (fun ls hl => ?_)
                      refine lv_goto (tgt := 26) hx hb dX1_unitNow_60 (by decide) ?_
                      exact ih_26 (i + 1) 1 (by omega) (by omega) hz2 _ _ hP hD hS ls (lv_sub hl [0, 1, 2, 3, 4] rfl)
            exact lp_26 _ 0 1 (Nat.lt_succ_self _) (by omega) ((dv_y (fun j hj => absurd hj (Nat.not_lt_zero j))).symm) _ _ hP hD hS ls (lv_sub hl [0, 1, 2, 3, 4] rfl)
  exact lp_6 _ 500 0 (Nat.lt_succ_self _) (by omega) (Or.inl ⟨rfl, fun h => if_neg (by omega)⟩) _ _ hP hD hS ls (lv_sub hl [0, 1, 2] rfl)
theorem hd_X1_unitNow : yX1_unitNow.cls = RX1 ∧ yX1_unitNow.cls ≠ "java/lang/invoke/MethodHandle" ∧ yX1_unitNow.cls ≠ "java/lang/invoke/VarHandle" ∧ (parseMethodDescriptor yX1_unitNow.desc).map (fun d => d.parameters.length) = some 0 := by decide +kernel

set_option maxHeartbeats 4000000 in
set_option maxRecDepth 100000 in
theorem c_X1_tabulate (l : Launch) (hst : l.stackTraces = false) (D : va_G) (q : Nat → Nat) (cI cZ cJ : ClassId) (th : Nat) (k : Nat) (V : Nat → Nat) (C : Nat → Nat) (A : Nat → Nat) (T : Nat → Nat) (B : Nat → Nat) (P : Nat → Nat) (OR : Nat → Nat) (n : Nat) (PR : Nat → Nat) (ST : Nat → Nat) (li : Nat) (w : Nat) (WK : Nat → Nat) (so : Nat) (sp : Nat) (CT : Nat → Int64) (FW : Nat → Nat) (sz : Nat) (mo : Nat) (hk8 : k ≤ 8) (hV : ∀ i, i < k → 1 ≤ V i ∧ V i ≤ 500) (hC : ∀ i, i < k → C i ≤ 60 ∧ T i ≤ C i) (hOR : ordOK V OR k) (hmo : mo ≤ 2000) : Met l yX1_tabulate wsX1_tabulate ({ frames := 0, cells := 0, slots := 0, locals := 0 }) (va_Pc [.ref (q 0), .int (nI mo)] (cxP D (ty3 cI cZ cJ) (wM q cI cZ cJ th k V C A T B P OR n PR ST li w WK so sp CT FW) sz)) (va_Qv (fun (u : Nat → Nat) => ∀ n0, n0 ≤ k → ∀ b, b ≤ mo → isM (u (2001 * n0 + b)) T V OR n0 b) (bW D (va_A (wM q cI cZ cJ th k V C A T B P OR n PR ST li w WK so sp CT FW) sz) (fun u => (wM q cI cZ cJ th k V C A T B P OR n PR ST li w WK so sp CT u))) (va_A (wM q cI cZ cJ th k V C A T B P OR n PR ST li w WK so sp CT FW) sz)) 0 0 (va_A (wM q cI cZ cJ th k V C A T B P OR n PR ST li w WK so sp CT FW) sz) := by
  refine Met.ofW (cc := cX1_tabulate) (maxL := 10) (ret := none) (by decide) rfl ?_
  intro p e s m args below meth c s₁ BB hml hv
  obtain ⟨hav, hsz, hP, hK, hD0, hZ, hg⟩ := hv
  subst hsz
  subst hav
  have hx := BB.exec
  have hb := BB.bytes
  have hr := BB.returns
  have hts := atoms_spec (ws := wsX1_tabulate) BB.pre
  have hown : s.vm.findClass RX1 = some m.cls := findClass_of_methodNamed BB.named
  have hlocks := BB.notSynchronized
  have hin : ∀ w ∈ wsX10, w ∈ wsX1_tabulate := fun w h => (List.mem_cons_of_mem _ (List.mem_append_right _ h))
  have hD := hD0.self (sz := s.heap.size)
  have hA : ∀ q9 : Nat, s.heap.size ≤ q9 → va_A (wM q cI cZ cJ th k V C A T B P OR n PR ST li w WK so sp CT FW) s.heap.size q9 := fun _ h => Or.inr h
  have hl := lv_entry ([.ref (q 0), .int (nI mo)]) (n := 10) (Nat.le_of_ble_eq_true rfl)
  rw [lg_entry_eq]
  generalize (lg_sl ([.ref (q 0), .int (nI mo)]) ++ List.replicate (10 - (lg_sl ([.ref (q 0), .int (nI mo)])).length) Slot.unset).toArray = ls at hl ⊢
  have hl : lv_has ls 10 [(0, .ref (q 0)), (1, .int (nI mo))] := hl
  refine W_absR (fun R hR => ?_)
  have hR : R = ({ frames := 0, cells := 0, slots := 0, locals := 0 } : Room) := hR
  refine W_absQ (fun Q hQ => ?_)
  generalize ([.ref (q 0), .int (nI mo)] : List Value).toArray = args at hts hQ ⊢
  generalize va_A (wM q cI cZ cJ th k V C A T B P OR n PR ST li w WK so sp CT FW) s.heap.size = A9 at hD hZ hA hQ
  refine W_start hP (A := A9) (fun H locs hP hS => ?_)
  refine lv_iconst (v := nI 0) hx hb dX1_tabulate_0 (ic_0) ?_
  refine lv_istore_n (lv' := [(2, .int (nI 0)), (0, .ref (q 0)), (1, .int (nI mo))]) hx hb dX1_tabulate_1 rfl hl (by decide) rfl (fun ls hl => ?_)
  have lp_2 : ∀ (fu_2 : Nat) (am : Nat) (Fx : Nat → Nat), mo + 1 - am < fu_2 → (am ≤ mo + 1) → (∀ b, b < am → Fx b = if b = 0 then 0 else 4294967295) → ∀ (H : Heap) (locs : List Loc), va_P D vwCl (wM q cI cZ cJ th k V C A T B P OR n PR ST li w WK so sp CT Fx) H → va_D A9 (wM q cI cZ cJ th k V C A T B P OR n PR ST li w WK so sp CT Fx) → va_S A9 s.heap H locs → ∀ ls : Array Slot, lv_has ls 10 [(2, .int (nI am)), (0, .ref (q 0)), (1, .int (nI mo))] → W p l e R s m args below meth c H locs 0 0 Q (F0 m 2 ls []) := by
    intro fu_2
    induction fu_2 with
    | zero =>
      intro am Fx hfu_2
      exact absurd hfu_2 (Nat.not_lt_zero _)
    | succ fu_2 ih_2 =>
      intro am Fx hfu_2 ham hs H locs hP hD hS ls hl
      refine lv_iload_n hx hb dX1_tabulate_2 rfl (lv_at hl 0 rfl) ?_
      refine lv_iload_n hx hb dX1_tabulate_3 rfl (lv_at hl 2 rfl) ?_
      refine n_icmp_gt (tgt := 28) hx hb (by omega) (by omega) dX1_tabulate_4 (by decide) (fun c4 => ?_) (fun c4 => ?_)
      · refine lv_iconst (v := nI 1) hx hb dX1_tabulate_28 (ic_1) ?_
        refine lv_istore_n (lv' := [(2, .int (nI 1)), (0, .ref (q 0)), (1, .int (nI mo))]) hx hb dX1_tabulate_29 rfl hl (by decide) rfl (fun ls hl => ?_)
        have lp_30 : ∀ (fu_30 : Nat) (ro : Nat) (Fy : Nat → Nat), k + 1 - ro < fu_30 → (1 ≤ ro ∧ ro ≤ k + 1) → (∀ n0, n0 < ro → ∀ b, b ≤ mo → isM (Fy (2001 * n0 + b)) T V OR n0 b) → ∀ (H : Heap) (locs : List Loc), va_P D vwCl (wM q cI cZ cJ th k V C A T B P OR n PR ST li w WK so sp CT Fy) H → va_D A9 (wM q cI cZ cJ th k V C A T B P OR n PR ST li w WK so sp CT Fy) → va_S A9 s.heap H locs → ∀ ls : Array Slot, lv_has ls 10 [(2, .int (nI ro)), (0, .ref (q 0)), (1, .int (nI mo))] → W p l e R s m args below meth c H locs 0 0 Q (F0 m 30 ls []) := by
          intro fu_30
          induction fu_30 with
          | zero =>
            intro ro Fy hfu_30
            exact absurd hfu_30 (Nat.not_lt_zero _)
          | succ fu_30 ih_30 =>
            intro ro Fy hfu_30 hro hrw H locs hP hD hS ls hl
            refine lv_iload_n hx hb dX1_tabulate_30 rfl (lv_at hl 0 rfl) ?_
            refine lv_aload_n hx hb dX1_tabulate_31 rfl (lv_at hl 1 rfl) ?_
            refine gfM hx hb hts hin hown hK hP 1 (by decide) (List.mem_of_getElem? (i := 2) rfl) rfl rfl dX1_tabulate_32 ?_
            refine n_icmp_gt (tgt := 187) hx hb (by omega) (by omega) dX1_tabulate_35 (by decide) (fun c35 => ?_) (fun c35 => ?_)
            · subst hQ
              exact e_v Fy hx hb hr hlocks hS hP hD (fun n0 h0 b hb => hrw n0 (by omega) b hb) (Nat.le_of_ble_eq_true rfl) (Nat.le_of_ble_eq_true rfl) dX1_tabulate_187
            · refine lv_aload_n hx hb dX1_tabulate_38 rfl (lv_at hl 1 rfl) ?_
              refine gfM hx hb hts hin hown hK hP 2 (by decide) (List.mem_of_getElem? (i := 3) rfl) rfl rfl dX1_tabulate_39 ?_
              refine lv_aload_n hx hb dX1_tabulate_42 rfl (lv_at hl 1 rfl) ?_
              refine gfM hx hb hts hin hown hK hP 8 (by decide) (List.mem_of_getElem? (i := 4) rfl) rfl rfl dX1_tabulate_43 ?_
              refine lv_iload_n hx hb dX1_tabulate_46 rfl (lv_at hl 0 rfl) ?_
              refine lv_iconst (v := nI 1) hx hb dX1_tabulate_47 (ic_1) ?_
              refine n_isub hx hb hro.1 dX1_tabulate_48 ?_
              refine n_iald hx hb hK hP 7 0 rfl rfl (by omega) (by decide) dX1_tabulate_49 ?_
              have hOk := hOR.1 (ro - 1) (by omega)
              refine n_iald hx hb hK hP 1 0 rfl rfl (by have := hOR.1 (ro - 1) (by omega); omega) (by decide) dX1_tabulate_50 ?_
              refine lv_istore_n (lv' := [(3, .int (nI (V (OR (ro - 1))))), (2, .int (nI ro)), (0, .ref (q 0)), (1, .int (nI mo))]) hx hb dX1_tabulate_51 rfl hl (by decide) rfl (fun ls hl => ?_)
              refine lv_aload_n hx hb dX1_tabulate_52 rfl (lv_at hl 2 rfl) ?_
              refine gfM hx hb hts hin hown hK hP 5 (by decide) (List.mem_of_getElem? (i := 5) rfl) rfl rfl dX1_tabulate_53 ?_
              refine lv_aload_n hx hb dX1_tabulate_56 rfl (lv_at hl 2 rfl) ?_
              refine gfM hx hb hts hin hown hK hP 8 (by decide) (List.mem_of_getElem? (i := 4) rfl) rfl rfl dX1_tabulate_57 ?_
              refine lv_iload_n hx hb dX1_tabulate_60 rfl (lv_at hl 1 rfl) ?_
              refine lv_iconst (v := nI 1) hx hb dX1_tabulate_61 (ic_1) ?_
              refine n_isub hx hb hro.1 dX1_tabulate_62 ?_
              refine n_iald hx hb hK hP 7 0 rfl rfl (by omega) (by decide) dX1_tabulate_63 ?_
              refine n_iald hx hb hK hP 4 0 rfl rfl (by omega) (by decide) dX1_tabulate_64 ?_
              refine lv_istore (lv' := [(4, .int (nI (T (OR (ro - 1))))), (3, .int (nI (V (OR (ro - 1))))), (2, .int (nI ro)), (0, .ref (q 0)), (1, .int (nI mo))]) hx hb dX1_tabulate_65 hl (by decide) rfl (fun ls hl => ?_)
              refine lv_sipush (v := nI 2001) hx hb dX1_tabulate_67 (by decide) ?_
              refine lv_iload_n hx hb dX1_tabulate_70 rfl (lv_at hl 2 rfl) ?_
              refine n_imul hx hb dX1_tabulate_71 ?_
              refine lv_istore (lv' := [(5, .int (nI (2001 * ro))), (4, .int (nI (T (OR (ro - 1))))), (3, .int (nI (V (OR (ro - 1))))), (2, .int (nI ro)), (0, .ref (q 0)), (1, .int (nI mo))]) hx hb dX1_tabulate_72 hl (by decide) rfl (fun ls hl => ?_)
              refine lv_iconst (v := nI 0) hx hb dX1_tabulate_74 (ic_0) ?_
              refine lv_istore (lv' := [(6, .int (nI 0)), (5, .int (nI (2001 * ro))), (4, .int (nI (T (OR (ro - 1))))), (3, .int (nI (V (OR (ro - 1))))), (2, .int (nI ro)), (0, .ref (q 0)), (1, .int (nI mo))]) hx hb dX1_tabulate_75 hl (by decide) rfl (fun ls hl => ?_)
              have lp_77 : ∀ (fu_77 : Nat) (aa : Nat) (Fz : Nat → Nat), mo + 1 - aa < fu_77 → (aa ≤ mo + 1) → (∀ n0, n0 < ro → ∀ b, b ≤ mo → isM (Fz (2001 * n0 + b)) T V OR n0 b) → (∀ b, b < aa → isM (Fz (2001 * ro + b)) T V OR ro b) → ∀ (H : Heap) (locs : List Loc), va_P D vwCl (wM q cI cZ cJ th k V C A T B P OR n PR ST li w WK so sp CT Fz) H → va_D A9 (wM q cI cZ cJ th k V C A T B P OR n PR ST li w WK so sp CT Fz) → va_S A9 s.heap H locs → ∀ ls : Array Slot, lv_has ls 10 [(6, .int (nI aa)), (2, .int (nI ro)), (3, .int (nI (V (OR (ro - 1))))), (4, .int (nI (T (OR (ro - 1))))), (5, .int (nI (2001 * ro))), (0, .ref (q 0)), (1, .int (nI mo))] → W p l e R s m args below meth c H locs 0 0 Q (F0 m 77 ls []) := by
                intro fu_77
                induction fu_77 with
                | zero =>
                  intro aa Fz hfu_77
                  exact absurd hfu_77 (Nat.not_lt_zero _)
                | succ fu_77 ih_77 =>
                  intro aa Fz hfu_77 haa hz1 hz2 H locs hP hD hS ls hl
                  refine lv_iload hx hb dX1_tabulate_77 (lv_at hl 0 rfl) ?_
                  refine lv_iload_n hx hb dX1_tabulate_79 rfl (lv_at hl 6 rfl) ?_
                  refine n_icmp_gt (tgt := 181) hx hb (by omega) (by omega) dX1_tabulate_80 (by decide) (fun c80 => ?_) (fun c80 => ?_)
                  · refine lv_iinc (v := nI (ro + 1)) (lv' := [(2, .int (nI (ro + 1))), (6, .int (nI aa)), (3, .int (nI (V (OR (ro - 1))))), (4, .int (nI (T (OR (ro - 1))))), (5, .int (nI (2001 * ro))), (0, .ref (q 0)), (1, .int (nI mo))]) hx hb dX1_tabulate_181 hl (k := 1) rfl (ni_inc _ 1) (by decide) rfl (fun ls hl => ?_)
                    refine lv_goto (tgt := 30) hx hb dX1_tabulate_184 (by decide) ?_
                    exact ih_30 (ro + 1) Fz (by omega) (⟨by omega, by omega⟩) (fun n0 h0 b hb => by rcases Nat.lt_or_ge n0 ro with h | h; exact hz1 n0 h b hb; (rw [show n0 = ro by omega]; exact hz2 b (by omega))) _ _ hP hD hS ls (lv_sub hl [0, 5, 6] rfl)
                  · refine lv_iconst (v := nI 4294967295) hx hb dX1_tabulate_83 (by decide) ?_
                    refine lv_istore (lv' := [(7, .int (nI 4294967295)), (6, .int (nI aa)), (2, .int (nI ro)), (3, .int (nI (V (OR (ro - 1))))), (4, .int (nI (T (OR (ro - 1))))), (5, .int (nI (2001 * ro))), (0, .ref (q 0)), (1, .int (nI mo))]) hx hb dX1_tabulate_84 hl (by decide) rfl (fun ls hl => ?_)
                    refine lv_iconst (v := nI 0) hx hb dX1_tabulate_86 (ic_0) ?_
                    refine lv_istore (lv' := [(8, .int (nI 0)), (7, .int (nI 4294967295)), (6, .int (nI aa)), (2, .int (nI ro)), (3, .int (nI (V (OR (ro - 1))))), (4, .int (nI (T (OR (ro - 1))))), (5, .int (nI (2001 * ro))), (0, .ref (q 0)), (1, .int (nI mo))]) hx hb dX1_tabulate_87 hl (by decide) rfl (fun ls hl => ?_)
                    have lp_89 : ∀ (fu_89 : Nat) (ct : Nat) (le : Nat), T (OR (ro - 1)) + 1 - ct < fu_89 → (ct ≤ T (OR (ro - 1)) + 1) → (isL (fl Fz) (T (OR (ro - 1))) (V (OR (ro - 1))) (ro - 1) aa ct le) → ∀ (H : Heap) (locs : List Loc), va_P D vwCl (wM q cI cZ cJ th k V C A T B P OR n PR ST li w WK so sp CT Fz) H → va_D A9 (wM q cI cZ cJ th k V C A T B P OR n PR ST li w WK so sp CT Fz) → va_S A9 s.heap H locs → ∀ ls : Array Slot, lv_has ls 10 [(8, .int (nI ct)), (7, .int (nI le)), (6, .int (nI aa)), (2, .int (nI ro)), (3, .int (nI (V (OR (ro - 1))))), (4, .int (nI (T (OR (ro - 1))))), (5, .int (nI (2001 * ro))), (0, .ref (q 0)), (1, .int (nI mo))] → W p l e R s m args below meth c H locs 0 0 Q (F0 m 89 ls []) := by
                      intro fu_89
                      induction fu_89 with
                      | zero =>
                        intro ct le hfu_89
                        exact absurd hfu_89 (Nat.not_lt_zero _)
                      | succ fu_89 ih_89 =>
                        intro ct le hfu_89 hct hL H locs hP hD hS ls hl
                        have hOk := hOR.1 (ro - 1) (by omega)
                        have hVo := hV (OR (ro - 1)) hOk
                        have hCo := hC (OR (ro - 1)) hOk
                        have hcv : ct * (V (OR (ro - 1))) ≤ 61 * 500 := Nat.mul_le_mul (by omega) (by omega)
                        have hLb : le = 4294967295 ∨ le ≤ 600 := by rcases hL with h | h; exact Or.inl h.1; exact Or.inr (by omega)
                        refine lv_iload hx hb dX1_tabulate_89 (lv_at hl 0 rfl) ?_
                        refine lv_iload hx hb dX1_tabulate_91 (lv_at hl 5 rfl) ?_
                        refine n_icmp_gt (tgt := 163) hx hb (by omega) (by omega) dX1_tabulate_93 (by decide) (fun c93 => ?_) (fun c93 => ?_)
                        · have hnew : isM le T V OR ro aa := by
                            have h9 := isL_end hL (by omega) (fun c0 h1 h2 => by omega) (fun b hb => hz1 (ro - 1) (by omega) b (by omega))
                            rwa [show ro - 1 + 1 = ro by omega] at h9
                          refine lv_aload_n hx hb dX1_tabulate_163 rfl (lv_at hl 7 rfl) ?_
                          refine gfM hx hb hts hin hown hK hP 18 (by decide) (List.mem_of_getElem? (i := 1) rfl) rfl rfl dX1_tabulate_164 ?_
                          refine lv_iload hx hb dX1_tabulate_167 (lv_at hl 6 rfl) ?_
                          refine lv_iload hx hb dX1_tabulate_169 (lv_at hl 2 rfl) ?_
                          refine n_iadd hx hb dX1_tabulate_171 ?_
                          refine lv_iload hx hb dX1_tabulate_172 (lv_at hl 1 rfl) ?_
                          refine n_iast (ws' := (wM q cI cZ cJ th k V C A T B P OR n PR ST li w WK so sp CT (un Fz ((2001 * ro) + aa) le))) hx hb hK hP hD hS 12 0 rfl rfl (by omega) (by decide) rfl dX1_tabulate_174 (fun H locs hP hD hS => ?_)
                          refine lv_iinc (v := nI (aa + 1)) (lv' := [(6, .int (nI (aa + 1))), (8, .int (nI ct)), (7, .int (nI le)), (2, .int (nI ro)), (3, .int (nI (V (OR (ro - 1))))), (4, .int (nI (T (OR (ro - 1))))), (5, .int (nI (2001 * ro))), (0, .ref (q 0)), (1, .int (nI mo))]) hx hb dX1_tabulate_175 hl (k := 2) rfl (ni_inc _ 1) (by decide) rfl (fun ls hl => ?_)
                          refine lv_goto (tgt := 77) hx hb dX1_tabulate_178 (by decide) ?_
                          exact ih_77 (aa + 1) (un Fz ((2001 * ro) + aa) le) (by omega) (by omega) (fun n0 h0 b hb => by rw [un_n (by omega)]; exact hz1 n0 h0 b hb) (fun b hb => by rcases Nat.lt_or_ge b aa with h | h; (rw [un_n (by omega)]; exact hz2 b h); (rw [show b = aa by omega, un_s]; exact hnew)) _ _ hP hD hS ls (lv_sub hl [0, 3, 4, 5, 6, 7, 8] rfl)
                        · refine lv_iload hx hb dX1_tabulate_96 (lv_at hl 0 rfl) ?_
                          refine lv_iload_n hx hb dX1_tabulate_98 rfl (lv_at hl 4 rfl) ?_
                          refine n_imul hx hb dX1_tabulate_99 ?_
                          refine lv_iload hx hb dX1_tabulate_100 (lv_at hl 2 rfl) ?_
                          refine n_icmp_gt (tgt := 163) hx hb (by omega) (by omega) dX1_tabulate_102 (by decide) (fun c102 => ?_) (fun c102 => ?_)
                          · have hnew : isM le T V OR ro aa := by
                              have h9 := isL_end hL (by omega) (fun c0 h1 h2 => by rcases Nat.lt_or_ge c0 ct with h | h; exact h; exact absurd (Nat.mul_le_mul_right (V (OR (ro - 1))) h) (by omega)) (fun b hb => hz1 (ro - 1) (by omega) b (by omega))
                              rwa [show ro - 1 + 1 = ro by omega] at h9
                            refine lv_aload_n hx hb dX1_tabulate_163 rfl (lv_at hl 7 rfl) ?_
                            refine gfM hx hb hts hin hown hK hP 18 (by decide) (List.mem_of_getElem? (i := 1) rfl) rfl rfl dX1_tabulate_164 ?_
                            refine lv_iload hx hb dX1_tabulate_167 (lv_at hl 6 rfl) ?_
                            refine lv_iload hx hb dX1_tabulate_169 (lv_at hl 2 rfl) ?_
                            refine n_iadd hx hb dX1_tabulate_171 ?_
                            refine lv_iload hx hb dX1_tabulate_172 (lv_at hl 1 rfl) ?_
                            refine n_iast (ws' := (wM q cI cZ cJ th k V C A T B P OR n PR ST li w WK so sp CT (un Fz ((2001 * ro) + aa) le))) hx hb hK hP hD hS 12 0 rfl rfl (by omega) (by decide) rfl dX1_tabulate_174 (fun H locs hP hD hS => ?_)
                            refine lv_iinc (v := nI (aa + 1)) (lv' := [(6, .int (nI (aa + 1))), (8, .int (nI ct)), (7, .int (nI le)), (2, .int (nI ro)), (3, .int (nI (V (OR (ro - 1))))), (4, .int (nI (T (OR (ro - 1))))), (5, .int (nI (2001 * ro))), (0, .ref (q 0)), (1, .int (nI mo))]) hx hb dX1_tabulate_175 hl (k := 2) rfl (ni_inc _ 1) (by decide) rfl (fun ls hl => ?_)
                            refine lv_goto (tgt := 77) hx hb dX1_tabulate_178 (by decide) ?_
                            exact ih_77 (aa + 1) (un Fz ((2001 * ro) + aa) le) (by omega) (by omega) (fun n0 h0 b hb => by rw [un_n (by omega)]; exact hz1 n0 h0 b hb) (fun b hb => by rcases Nat.lt_or_ge b aa with h | h; (rw [un_n (by omega)]; exact hz2 b h); (rw [show b = aa by omega, un_s]; exact hnew)) _ _ hP hD hS ls (lv_sub hl [0, 3, 4, 5, 6, 7, 8] rfl)
                          · have hMb := isM_bd (hz1 (ro - 1) (by omega) (aa - ct * (V (OR (ro - 1)))) (by omega))
                            refine lv_aload_n hx hb dX1_tabulate_105 rfl (lv_at hl 7 rfl) ?_
                            refine gfM hx hb hts hin hown hK hP 18 (by decide) (List.mem_of_getElem? (i := 1) rfl) rfl rfl dX1_tabulate_106 ?_
                            refine lv_iload hx hb dX1_tabulate_109 (lv_at hl 6 rfl) ?_
                            refine lv_sipush (v := nI 2000) hx hb dX1_tabulate_111 (by decide) ?_
                            refine n_isub hx hb (by omega) dX1_tabulate_114 ?_
                            refine lv_iconst (v := nI 1) hx hb dX1_tabulate_115 (ic_1) ?_
                            refine n_isub hx hb (by omega) dX1_tabulate_116 ?_
                            refine lv_iload hx hb dX1_tabulate_117 (lv_at hl 2 rfl) ?_
                            refine n_iadd hx hb dX1_tabulate_119 ?_
                            refine lv_iload hx hb dX1_tabulate_120 (lv_at hl 0 rfl) ?_
                            refine lv_iload_n hx hb dX1_tabulate_122 rfl (lv_at hl 4 rfl) ?_
                            refine n_imul hx hb dX1_tabulate_123 ?_
                            refine n_isub hx hb (by omega) dX1_tabulate_124 ?_
                            refine n_top (congrArg nI (show ((((2001 * ro) - 2000) - 1) + aa) - (ct * (V (OR (ro - 1)))) = 2001 * (ro - 1) + (aa - ct * (V (OR (ro - 1)))) by omega)) ?_
                            refine n_iald hx hb hK hP 12 0 rfl rfl (by omega) (by decide) dX1_tabulate_125 ?_
                            refine lv_istore (lv' := [(9, .int (nI (Fz (2001 * (ro - 1) + (aa - ct * (V (OR (ro - 1)))))))), (8, .int (nI ct)), (7, .int (nI le)), (6, .int (nI aa)), (2, .int (nI ro)), (3, .int (nI (V (OR (ro - 1))))), (4, .int (nI (T (OR (ro - 1))))), (5, .int (nI (2001 * ro))), (0, .ref (q 0)), (1, .int (nI mo))]) hx hb dX1_tabulate_126 hl (by decide) rfl (fun ls hl => ?_)
                            refine lv_iload hx hb dX1_tabulate_128 (lv_at hl 0 rfl) ?_
                            refine lv_iconst (v := nI 4294967295) hx hb dX1_tabulate_130 (by decide) ?_
                            refine n_icmp_eq (tgt := 157) hx hb (by omega) (by omega) dX1_tabulate_131 (by decide) (fun c131 => ?_) (fun c131 => ?_)
                            · have hL2 := isL_skip hL (Or.inl c131)
                              refine lv_iinc (v := nI (ct + 1)) (lv' := [(8, .int (nI (ct + 1))), (9, .int (nI (Fz (2001 * (ro - 1) + (aa - ct * (V (OR (ro - 1)))))))), (7, .int (nI le)), (6, .int (nI aa)), (2, .int (nI ro)), (3, .int (nI (V (OR (ro - 1))))), (4, .int (nI (T (OR (ro - 1))))), (5, .int (nI (2001 * ro))), (0, .ref (q 0)), (1, .int (nI mo))]) hx hb dX1_tabulate_157 hl (k := 1) rfl (ni_inc _ 1) (by decide) rfl (fun ls hl => ?_)
                              refine lv_goto (tgt := 89) hx hb dX1_tabulate_160 (by decide) ?_
                              exact ih_89 (ct + 1) le (by omega) (by omega) hL2 _ _ hP hD hS ls (lv_sub hl [0, 2, 3, 4, 5, 6, 7, 8, 9] rfl)
                            · refine lv_iload hx hb dX1_tabulate_134 (lv_at hl 2 rfl) ?_
                              refine lv_iconst (v := nI 4294967295) hx hb dX1_tabulate_136 (by decide) ?_
                              refine n_icmp_eq (tgt := 150) hx hb (by omega) (by omega) dX1_tabulate_137 (by decide) (fun c137 => ?_) (fun c137 => ?_)
                              · have hL2 := isL_take hL (by omega) (by omega) (by omega) c102 c131 (hMb.resolve_left c131) (Or.inl c137)
                                refine lv_iload hx hb dX1_tabulate_150 (lv_at hl 0 rfl) ?_
                                refine lv_iload hx hb dX1_tabulate_152 (lv_at hl 1 rfl) ?_
                                refine n_iadd hx hb dX1_tabulate_154 ?_
                                refine lv_istore (lv' := [(7, .int (nI ((Fz (2001 * (ro - 1) + (aa - ct * (V (OR (ro - 1)))))) + ct))), (9, .int (nI (Fz (2001 * (ro - 1) + (aa - ct * (V (OR (ro - 1)))))))), (8, .int (nI ct)), (6, .int (nI aa)), (2, .int (nI ro)), (3, .int (nI (V (OR (ro - 1))))), (4, .int (nI (T (OR (ro - 1))))), (5, .int (nI (2001 * ro))), (0, .ref (q 0)), (1, .int (nI mo))]) hx hb dX1_tabulate_155 hl (by decide) rfl (fun ls hl => ?_)
                                refine lv_iinc (v := nI (ct + 1)) (lv' := [(8, .int (nI (ct + 1))), (7, .int (nI ((Fz (2001 * (ro - 1) + (aa - ct * (V (OR (ro - 1)))))) + ct))), (9, .int (nI (Fz (2001 * (ro - 1) + (aa - ct * (V (OR (ro - 1)))))))), (6, .int (nI aa)), (2, .int (nI ro)), (3, .int (nI (V (OR (ro - 1))))), (4, .int (nI (T (OR (ro - 1))))), (5, .int (nI (2001 * ro))), (0, .ref (q 0)), (1, .int (nI mo))]) hx hb dX1_tabulate_157 hl (k := 2) rfl (ni_inc _ 1) (by decide) rfl (fun ls hl => ?_)
                                refine lv_goto (tgt := 89) hx hb dX1_tabulate_160 (by decide) ?_
                                exact ih_89 (ct + 1) ((Fz (2001 * (ro - 1) + (aa - ct * (V (OR (ro - 1)))))) + ct) (by omega) (by omega) hL2 _ _ hP hD hS ls (lv_sub hl [0, 1, 3, 4, 5, 6, 7, 8, 9] rfl)
                              · refine lv_iload hx hb dX1_tabulate_140 (lv_at hl 0 rfl) ?_
                                refine lv_iload hx hb dX1_tabulate_142 (lv_at hl 1 rfl) ?_
                                refine n_iadd hx hb dX1_tabulate_144 ?_
                                refine lv_iload hx hb dX1_tabulate_145 (lv_at hl 2 rfl) ?_
                                refine n_icmp_ge (tgt := 157) hx hb (by omega) (by omega) dX1_tabulate_147 (by decide) (fun c147 => ?_) (fun c147 => ?_)
                                · have hL2 := isL_skip hL (Or.inr ⟨c137, c147⟩)
                                  refine lv_iinc (v := nI (ct + 1)) (lv' := [(8, .int (nI (ct + 1))), (9, .int (nI (Fz (2001 * (ro - 1) + (aa - ct * (V (OR (ro - 1)))))))), (7, .int (nI le)), (6, .int (nI aa)), (2, .int (nI ro)), (3, .int (nI (V (OR (ro - 1))))), (4, .int (nI (T (OR (ro - 1))))), (5, .int (nI (2001 * ro))), (0, .ref (q 0)), (1, .int (nI mo))]) hx hb dX1_tabulate_157 hl (k := 1) rfl (ni_inc _ 1) (by decide) rfl (fun ls hl => ?_)
                                  refine lv_goto (tgt := 89) hx hb dX1_tabulate_160 (by decide) ?_
                                  exact ih_89 (ct + 1) le (by omega) (by omega) hL2 _ _ hP hD hS ls (lv_sub hl [0, 2, 3, 4, 5, 6, 7, 8, 9] rfl)
                                · have hL2 := isL_take hL (by omega) (by omega) (by omega) c102 c131 (hMb.resolve_left c131) (Or.inr c147)
                                  refine lv_iload hx hb dX1_tabulate_150 (lv_at hl 0 rfl) ?_
                                  refine lv_iload hx hb dX1_tabulate_152 (lv_at hl 1 rfl) ?_
                                  refine n_iadd hx hb dX1_tabulate_154 ?_
                                  refine lv_istore (lv' := [(7, .int (nI ((Fz (2001 * (ro - 1) + (aa - ct * (V (OR (ro - 1)))))) + ct))), (9, .int (nI (Fz (2001 * (ro - 1) + (aa - ct * (V (OR (ro - 1)))))))), (8, .int (nI ct)), (6, .int (nI aa)), (2, .int (nI ro)), (3, .int (nI (V (OR (ro - 1))))), (4, .int (nI (T (OR (ro - 1))))), (5, .int (nI (2001 * ro))), (0, .ref (q 0)), (1, .int (nI mo))]) hx hb dX1_tabulate_155 hl (by decide) rfl (fun ls hl => ?_)
                                  refine lv_iinc (v := nI (ct + 1)) (lv' := [(8, .int (nI (ct + 1))), (7, .int (nI ((Fz (2001 * (ro - 1) + (aa - ct * (V (OR (ro - 1)))))) + ct))), (9, .int (nI (Fz (2001 * (ro - 1) + (aa - ct * (V (OR (ro - 1)))))))), (6, .int (nI aa)), (2, .int (nI ro)), (3, .int (nI (V (OR (ro - 1))))), (4, .int (nI (T (OR (ro - 1))))), (5, .int (nI (2001 * ro))), (0, .ref (q 0)), (1, .int (nI mo))]) hx hb dX1_tabulate_157 hl (k := 2) rfl (ni_inc _ 1) (by decide) rfl (fun ls hl => ?_)
                                  refine lv_goto (tgt := 89) hx hb dX1_tabulate_160 (by decide) ?_
                                  exact ih_89 (ct + 1) ((Fz (2001 * (ro - 1) + (aa - ct * (V (OR (ro - 1)))))) + ct) (by omega) (by omega) hL2 _ _ hP hD hS ls (lv_sub hl [0, 1, 3, 4, 5, 6, 7, 8, 9] rfl)
                    exact lp_89 _ 0 4294967295 (Nat.lt_succ_self _) (by omega) isL_0 _ _ hP hD hS ls (lv_sub hl [0, 1, 2, 3, 4, 5, 6, 7, 8] rfl)
              exact lp_77 _ 0 Fy (Nat.lt_succ_self _) (by omega) hrw (fun b hb => absurd hb (Nat.not_lt_zero b)) _ _ hP hD hS ls (lv_sub hl [0, 4, 3, 2, 1, 5, 6] rfl)
        exact lp_30 _ 1 Fx (Nat.lt_succ_self _) (⟨by omega, by omega⟩) (fun n0 h0 b hb => by rw [show n0 = 0 by omega, show 2001 * 0 + b = b by omega, hs b (by omega)]; exact isM_0 b) _ _ hP hD hS ls (lv_sub hl [0, 1, 2] rfl)
      · refine lv_aload_n hx hb dX1_tabulate_7 rfl (lv_at hl 1 rfl) ?_
        refine gfM hx hb hts hin hown hK hP 18 (by decide) (List.mem_of_getElem? (i := 1) rfl) rfl rfl dX1_tabulate_8 ?_
        refine lv_iload_n hx hb dX1_tabulate_11 rfl (lv_at hl 0 rfl) ?_
        refine lv_iload_n hx hb dX1_tabulate_12 rfl (lv_at hl 0 rfl) ?_
        refine n_if_ne (tgt := 20) hx hb (by omega) dX1_tabulate_13 (by decide) (fun c13 => ?_) (fun c13 => ?_)
        · have hval : (4294967295 : Nat) = if am = 0 then 0 else 4294967295 := by rw [if_neg c13]
          refine lv_iconst (v := nI 4294967295) hx hb dX1_tabulate_20 (by decide) ?_
          refine n_iast (ws' := (wM q cI cZ cJ th k V C A T B P OR n PR ST li w WK so sp CT (un Fx am 4294967295))) hx hb hK hP hD hS 12 0 rfl rfl (by omega) (by decide) rfl dX1_tabulate_21 (fun H locs hP hD hS => ?_)
          refine lv_iinc (v := nI (am + 1)) (lv' := [(2, .int (nI (am + 1))), (0, .ref (q 0)), (1, .int (nI mo))]) hx hb dX1_tabulate_22 hl (k := 0) rfl (ni_inc _ 1) (by decide) rfl (fun ls hl => ?_)
          refine lv_goto (tgt := 2) hx hb dX1_tabulate_25 (by decide) ?_
          exact ih_2 (am + 1) (un Fx am 4294967295) (by omega) (by omega) (fun b hb => by rcases Nat.lt_or_ge b am with h | h; (rw [un_n (by omega)]; exact hs b h); (rw [show b = am by omega, un_s]; exact hval)) _ _ hP hD hS ls (lv_sub hl [0, 1, 2] rfl)
        · have hval : (0 : Nat) = if am = 0 then 0 else 4294967295 := by rw [if_pos c13]
          refine lv_iconst (v := nI 0) hx hb dX1_tabulate_16 (ic_0) ?_
          refine lv_goto (tgt := 21) hx hb dX1_tabulate_17 (by decide) ?_
          refine n_iast (ws' := (wM q cI cZ cJ th k V C A T B P OR n PR ST li w WK so sp CT (un Fx am 0))) hx hb hK hP hD hS 12 0 rfl rfl (by omega) (by decide) rfl dX1_tabulate_21 (fun H locs hP hD hS => ?_)
          refine lv_iinc (v := nI (am + 1)) (lv' := [(2, .int (nI (am + 1))), (0, .ref (q 0)), (1, .int (nI mo))]) hx hb dX1_tabulate_22 hl (k := 0) rfl (ni_inc _ 1) (by decide) rfl (fun ls hl => ?_)
          refine lv_goto (tgt := 2) hx hb dX1_tabulate_25 (by decide) ?_
          exact ih_2 (am + 1) (un Fx am 0) (by omega) (by omega) (fun b hb => by rcases Nat.lt_or_ge b am with h | h; (rw [un_n (by omega)]; exact hs b h); (rw [show b = am by omega, un_s]; exact hval)) _ _ hP hD hS ls (lv_sub hl [0, 1, 2] rfl)
  exact lp_2 _ 0 FW (Nat.lt_succ_self _) (by omega) (fun b hb => absurd hb (Nat.not_lt_zero b)) _ _ hP hD hS ls (lv_sub hl [0, 1, 2] rfl)
theorem hd_X1_tabulate : yX1_tabulate.cls = RX1 ∧ yX1_tabulate.cls ≠ "java/lang/invoke/MethodHandle" ∧ yX1_tabulate.cls ≠ "java/lang/invoke/VarHandle" ∧ (parseMethodDescriptor yX1_tabulate.desc).map (fun d => d.parameters.length) = some 1 := by decide +kernel

set_option maxHeartbeats 4000000 in
set_option maxRecDepth 100000 in
theorem c_X1_inAll (l : Launch) (hst : l.stackTraces = false) (D : va_G) (q : Nat → Nat) (cI cZ cJ : ClassId) (th : Nat) (k : Nat) (V : Nat → Nat) (C : Nat → Nat) (A : Nat → Nat) (T : Nat → Nat) (B : Nat → Nat) (P : Nat → Nat) (OR : Nat → Nat) (n : Nat) (PR : Nat → Nat) (ST : Nat → Nat) (li : Nat) (w : Nat) (WK : Nat → Nat) (so : Nat) (sp : Nat) (CT : Nat → Int64) (FW : Nat → Nat) (sz : Nat) (am : Nat) (hk8 : k ≤ 8) (ham : am ≤ 2000) : Met l yX1_inAll wsX1_inAll ({ frames := 0, cells := 0, slots := 0, locals := 0 }) (va_Pc [.ref (q 0), .int (nI am)] (cxP D (ty3 cI cZ cJ) (wM q cI cZ cJ th k V C A T B P OR n PR ST li w WK so sp CT FW) sz)) (va_Qi (fun r (_ : Unit) => r = nI (FW (2001 * k + am))) (bW D (va_A (wM q cI cZ cJ th k V C A T B P OR n PR ST li w WK so sp CT FW) sz) (fun (_ : Unit) => (wM q cI cZ cJ th k V C A T B P OR n PR ST li w WK so sp CT FW))) (va_A (wM q cI cZ cJ th k V C A T B P OR n PR ST li w WK so sp CT FW) sz)) 0 0 (va_A (wM q cI cZ cJ th k V C A T B P OR n PR ST li w WK so sp CT FW) sz) := by
  refine Met.ofW (cc := cX1_inAll) (maxL := 2) (ret := (some .int)) (by decide) rfl ?_
  intro p e s m args below meth c s₁ BB hml hv
  obtain ⟨hav, hsz, hP, hK, hD0, hZ, hg⟩ := hv
  subst hsz
  subst hav
  have hx := BB.exec
  have hb := BB.bytes
  have hr := BB.returns
  have hts := atoms_spec (ws := wsX1_inAll) BB.pre
  have hown : s.vm.findClass RX1 = some m.cls := findClass_of_methodNamed BB.named
  have hlocks := BB.notSynchronized
  have hin : ∀ w ∈ wsX10, w ∈ wsX1_inAll := fun w h => (List.mem_cons_of_mem _ (List.mem_append_right _ h))
  have hD := hD0.self (sz := s.heap.size)
  have hA : ∀ q9 : Nat, s.heap.size ≤ q9 → va_A (wM q cI cZ cJ th k V C A T B P OR n PR ST li w WK so sp CT FW) s.heap.size q9 := fun _ h => Or.inr h
  have hl := lv_entry ([.ref (q 0), .int (nI am)]) (n := 2) (Nat.le_of_ble_eq_true rfl)
  rw [lg_entry_eq]
  generalize (lg_sl ([.ref (q 0), .int (nI am)]) ++ List.replicate (2 - (lg_sl ([.ref (q 0), .int (nI am)])).length) Slot.unset).toArray = ls at hl ⊢
  have hl : lv_has ls 2 [(0, .ref (q 0)), (1, .int (nI am))] := hl
  refine W_absR (fun R hR => ?_)
  have hR : R = ({ frames := 0, cells := 0, slots := 0, locals := 0 } : Room) := hR
  refine W_absQ (fun Q hQ => ?_)
  generalize ([.ref (q 0), .int (nI am)] : List Value).toArray = args at hts hQ ⊢
  generalize va_A (wM q cI cZ cJ th k V C A T B P OR n PR ST li w WK so sp CT FW) s.heap.size = A9 at hD hZ hA hQ
  refine W_start hP (A := A9) (fun H locs hP hS => ?_)
  refine lv_aload_n hx hb dX1_inAll_0 rfl (lv_at hl 0 rfl) ?_
  refine gfM hx hb hts hin hown hK hP 18 (by decide) (List.mem_of_getElem? (i := 1) rfl) rfl rfl dX1_inAll_1 ?_
  refine lv_sipush (v := nI 2001) hx hb dX1_inAll_4 (by decide) ?_
  refine lv_aload_n hx hb dX1_inAll_7 rfl (lv_at hl 0 rfl) ?_
  refine gfM hx hb hts hin hown hK hP 1 (by decide) (List.mem_of_getElem? (i := 2) rfl) rfl rfl dX1_inAll_8 ?_
  refine n_imul hx hb dX1_inAll_11 ?_
  refine lv_iload_n hx hb dX1_inAll_12 rfl (lv_at hl 1 rfl) ?_
  refine n_iadd hx hb dX1_inAll_13 ?_
  refine n_iald hx hb hK hP 12 0 rfl rfl (by omega) (by decide) dX1_inAll_14 ?_
  subst hQ
  exact e_i () hx hb hr hlocks hS hP hD rfl (Nat.le_of_ble_eq_true rfl) (Nat.le_of_ble_eq_true rfl) dX1_inAll_15
theorem hd_X1_inAll : yX1_inAll.cls = RX1 ∧ yX1_inAll.cls ≠ "java/lang/invoke/MethodHandle" ∧ yX1_inAll.cls ≠ "java/lang/invoke/VarHandle" ∧ (parseMethodDescriptor yX1_inAll.desc).map (fun d => d.parameters.length) = some 1 := by decide +kernel

set_option maxHeartbeats 4000000 in
set_option maxRecDepth 100000 in
theorem c_X1_partOf (l : Launch) (hst : l.stackTraces = false) (D : va_G) (q : Nat → Nat) (cI cZ cJ : ClassId) (th : Nat) (k : Nat) (V : Nat → Nat) (C : Nat → Nat) (A : Nat → Nat) (T : Nat → Nat) (B : Nat → Nat) (P : Nat → Nat) (OR : Nat → Nat) (n : Nat) (PR : Nat → Nat) (ST : Nat → Nat) (li : Nat) (w : Nat) (WK : Nat → Nat) (so : Nat) (sp : Nat) (CT : Nat → Int64) (FW : Nat → Nat) (sz : Nat) (gv : Nat → Nat) (am : Nat) (kd : Nat) (hk8 : k ≤ 8) (hV : ∀ i, i < k → 1 ≤ V i ∧ V i ≤ 500) (hC : ∀ i, i < k → C i ≤ 60 ∧ T i ≤ C i) (hOR : ordOK V OR k) (ham : am ≤ 2000) (hMt : ∀ n0, n0 ≤ k → ∀ b, b ≤ am → isM (FW (2001 * n0 + b)) T V OR n0 b) (hgv : isV (fl FW) T V OR k am gv) (hkd : kd < k) : Met l yX1_partOf wsX1_partOf ({ frames := 1, cells := 0, slots := 0, locals := 23 }) (va_Pc [.ref (q 0), .int (nI am), .int (nI kd)] (cxP D (ty3 cI cZ cJ) (wM q cI cZ cJ th k V C A T B P OR n PR ST li w WK so sp CT FW) sz)) (va_Qi (fun r (u : Nat) => r = nI u ∧ ∃ j, j < k ∧ OR j = kd ∧ u = gv j) (bW D (va_A (wM q cI cZ cJ th k V C A T B P OR n PR ST li w WK so sp CT FW) sz) (fun u => (wM q cI cZ cJ th k V C A T B P OR n PR ST li w WK so sp CT FW))) (va_A (wM q cI cZ cJ th k V C A T B P OR n PR ST li w WK so sp CT FW) sz)) 0 0 (va_A (wM q cI cZ cJ th k V C A T B P OR n PR ST li w WK so sp CT FW) sz) := by
  refine Met.ofW (cc := cX1_partOf) (maxL := 8) (ret := (some .int)) (by decide) rfl ?_
  intro p e s m args below meth c s₁ BB hml hv
  obtain ⟨hav, hsz, hP, hK, hD0, hZ, hg⟩ := hv
  subst hsz
  subst hav
  have hx := BB.exec
  have hb := BB.bytes
  have hr := BB.returns
  have hts := atoms_spec (ws := wsX1_partOf) BB.pre
  have hown : s.vm.findClass RX1 = some m.cls := findClass_of_methodNamed BB.named
  have hlocks := BB.notSynchronized
  have hin : ∀ w ∈ wsX10, w ∈ wsX1_partOf := fun w h => (List.mem_cons_of_mem _ (List.mem_append_right _ h))
  have hD := hD0.self (sz := s.heap.size)
  have hA : ∀ q9 : Nat, s.heap.size ≤ q9 → va_A (wM q cI cZ cJ th k V C A T B P OR n PR ST li w WK so sp CT FW) s.heap.size q9 := fun _ h => Or.inr h
  have hl := lv_entry ([.ref (q 0), .int (nI am), .int (nI kd)]) (n := 8) (Nat.le_of_ble_eq_true rfl)
  rw [lg_entry_eq]
  generalize (lg_sl ([.ref (q 0), .int (nI am), .int (nI kd)]) ++ List.replicate (8 - (lg_sl ([.ref (q 0), .int (nI am), .int (nI kd)])).length) Slot.unset).toArray = ls at hl ⊢
  have hl : lv_has ls 8 [(0, .ref (q 0)), (1, .int (nI am)), (2, .int (nI kd))] := hl
  refine W_absR (fun R hR => ?_)
  have hR : R = ({ frames := 1, cells := 0, slots := 0, locals := 23 } : Room) := hR
  refine W_absQ (fun Q hQ => ?_)
  generalize ([.ref (q 0), .int (nI am), .int (nI kd)] : List Value).toArray = args at hts hQ ⊢
  generalize va_A (wM q cI cZ cJ th k V C A T B P OR n PR ST li w WK so sp CT FW) s.heap.size = A9 at hD hZ hA hQ
  refine W_start hP (A := A9) (fun H locs hP hS => ?_)
  refine lv_iload_n hx hb dX1_partOf_0 rfl (lv_at hl 1 rfl) ?_
  refine lv_istore_n (lv' := [(3, .int (nI am)), (0, .ref (q 0)), (1, .int (nI am)), (2, .int (nI kd))]) hx hb dX1_partOf_1 rfl hl (by decide) rfl (fun ls hl => ?_)
  refine lv_aload_n hx hb dX1_partOf_2 rfl (lv_at hl 1 rfl) ?_
  refine gfM hx hb hts hin hown hK hP 1 (by decide) (List.mem_of_getElem? (i := 1) rfl) rfl rfl dX1_partOf_3 ?_
  refine lv_istore (lv' := [(4, .int (nI k)), (3, .int (nI am)), (0, .ref (q 0)), (1, .int (nI am)), (2, .int (nI kd))]) hx hb dX1_partOf_6 hl (by decide) rfl (fun ls hl => ?_)
  have lp_8 : ∀ (fu_8 : Nat) (ro : Nat) (lf : Nat), ro < fu_8 → (ro ≤ k) → (lf ≤ am) → (isV (fl FW) T V OR ro lf gv) → (∃ j, j < ro ∧ OR j = kd) → ∀ (H : Heap) (locs : List Loc), va_P D vwCl (wM q cI cZ cJ th k V C A T B P OR n PR ST li w WK so sp CT FW) H → va_D A9 (wM q cI cZ cJ th k V C A T B P OR n PR ST li w WK so sp CT FW) → va_S A9 s.heap H locs → ∀ ls : Array Slot, lv_has ls 8 [(4, .int (nI ro)), (3, .int (nI lf)), (0, .ref (q 0)), (1, .int (nI am)), (2, .int (nI kd))] → W p l e R s m args below meth c H locs 0 0 Q (F0 m 8 ls []) := by
    intro fu_8
    induction fu_8 with
    | zero =>
      intro ro lf hfu_8
      exact absurd hfu_8 (Nat.not_lt_zero _)
    | succ fu_8 ih_8 =>
      intro ro lf hfu_8 hro hlf hv hex H locs hP hD hS ls hl
      refine lv_iload hx hb dX1_partOf_8 (lv_at hl 0 rfl) ?_
      refine n_if_le (tgt := 153) hx hb (by omega) dX1_partOf_10 (by decide) (fun c10 => ?_) (fun c10 => ?_)
      · obtain ⟨j, hj1, -⟩ := hex
        refine lv_iconst (v := nI 0) hx hb dX1_partOf_153 (ic_0) ?_
        subst hQ
        exact e_i 0 hx hb hr hlocks hS hP hD (absurd hj1 (by omega)) (Nat.le_of_ble_eq_true rfl) (Nat.le_of_ble_eq_true rfl) dX1_partOf_154
      · have hv2 : isG (fl FW) T V OR (ro - 1) lf (gv (ro - 1)) ∧ isV (fl FW) T V OR (ro - 1) (lf - gv (ro - 1) * V (OR (ro - 1))) gv := by
          obtain ⟨r1, rfl⟩ : ∃ r1, ro = r1 + 1 := ⟨ro - 1, by omega⟩
          exact hv
        have hOk := hOR.1 (ro - 1) (by omega)
        have hVo := hV (OR (ro - 1)) hOk
        have hCo := hC (OR (ro - 1)) hOk
        have hq1 : gv (ro - 1) ≤ lf / V (OR (ro - 1)) := (Nat.le_div_iff_mul_le (by omega)).mpr hv2.1.2.1
        have hmi : gv (ro - 1) ≤ min (T (OR (ro - 1))) (lf / (V (OR (ro - 1)))) ∧ min (T (OR (ro - 1))) (lf / (V (OR (ro - 1)))) ≤ T (OR (ro - 1)) ∧ min (T (OR (ro - 1))) (lf / (V (OR (ro - 1)))) * (V (OR (ro - 1))) ≤ lf := ⟨by have := hv2.1.1; omega, by omega, Nat.le_trans (Nat.mul_le_mul_right _ (Nat.min_le_right _ _)) (Nat.div_mul_le_self _ _)⟩
        refine lv_aload_n hx hb dX1_partOf_13 rfl (lv_at hl 2 rfl) ?_
        refine gfM hx hb hts hin hown hK hP 2 (by decide) (List.mem_of_getElem? (i := 2) rfl) rfl rfl dX1_partOf_14 ?_
        refine lv_aload_n hx hb dX1_partOf_17 rfl (lv_at hl 2 rfl) ?_
        refine gfM hx hb hts hin hown hK hP 8 (by decide) (List.mem_of_getElem? (i := 3) rfl) rfl rfl dX1_partOf_18 ?_
        refine lv_iload hx hb dX1_partOf_21 (lv_at hl 0 rfl) ?_
        refine lv_iconst (v := nI 1) hx hb dX1_partOf_23 (ic_1) ?_
        refine n_isub hx hb (by omega) dX1_partOf_24 ?_
        refine n_iald hx hb hK hP 7 0 rfl rfl (by omega) (by decide) dX1_partOf_25 ?_
        refine n_iald hx hb hK hP 1 0 rfl rfl (by omega) (by decide) dX1_partOf_26 ?_
        refine lv_istore (lv' := [(5, .int (nI (V (OR (ro - 1))))), (4, .int (nI ro)), (3, .int (nI lf)), (0, .ref (q 0)), (1, .int (nI am)), (2, .int (nI kd))]) hx hb dX1_partOf_27 hl (by decide) rfl (fun ls hl => ?_)
        refine lv_sipush (v := nI 2001) hx hb dX1_partOf_29 (by decide) ?_
        refine lv_iload hx hb dX1_partOf_32 (lv_at hl 1 rfl) ?_
        refine lv_iconst (v := nI 1) hx hb dX1_partOf_34 (ic_1) ?_
        refine n_isub hx hb (by omega) dX1_partOf_35 ?_
        refine n_imul hx hb dX1_partOf_36 ?_
        refine lv_istore (lv' := [(6, .int (nI (2001 * (ro - 1)))), (5, .int (nI (V (OR (ro - 1))))), (4, .int (nI ro)), (3, .int (nI lf)), (0, .ref (q 0)), (1, .int (nI am)), (2, .int (nI kd))]) hx hb dX1_partOf_37 hl (by decide) rfl (fun ls hl => ?_)
        refine lv_aload_n hx hb dX1_partOf_39 rfl (lv_at hl 4 rfl) ?_
        refine gfM hx hb hts hin hown hK hP 5 (by decide) (List.mem_of_getElem? (i := 4) rfl) rfl rfl dX1_partOf_40 ?_
        refine lv_aload_n hx hb dX1_partOf_43 rfl (lv_at hl 4 rfl) ?_
        refine gfM hx hb hts hin hown hK hP 8 (by decide) (List.mem_of_getElem? (i := 3) rfl) rfl rfl dX1_partOf_44 ?_
        refine lv_iload hx hb dX1_partOf_47 (lv_at hl 2 rfl) ?_
        refine lv_iconst (v := nI 1) hx hb dX1_partOf_49 (ic_1) ?_
        refine n_isub hx hb (by omega) dX1_partOf_50 ?_
        refine n_iald hx hb hK hP 7 0 rfl rfl (by omega) (by decide) dX1_partOf_51 ?_
        refine n_iald hx hb hK hP 4 0 rfl rfl (by omega) (by decide) dX1_partOf_52 ?_
        refine lv_iload_n hx hb dX1_partOf_53 rfl (lv_at hl 3 rfl) ?_
        refine lv_iload hx hb dX1_partOf_54 (lv_at hl 1 rfl) ?_
        refine n_idiv hx hb (by omega) (by omega) (by omega) dX1_partOf_56 ?_
        refine va_mmin hx hb (hml.trans hl.1.symm) hown (hts _ (List.mem_of_getElem? (i := 5) rfl)) (hts _ (List.mem_of_getElem? (i := 6) rfl)) (hts _ (List.mem_of_getElem? (i := 7) rfl)) (hts _ (List.mem_of_getElem? (i := 8) rfl)) (by rw [hR]; exact Nat.le_of_ble_eq_true rfl) (by rw [hR]; exact Nat.le_of_ble_eq_true rfl) (by rw [hR]; exact Nat.le_of_ble_eq_true rfl) (by rw [hR]; exact Nat.le_of_ble_eq_true rfl) dX1_partOf_57 (n_top (nI_min _ _ (by omega) (by have := Nat.div_le_self lf (V (OR (ro - 1))); omega)) ?_)
        refine lv_istore (lv' := [(7, .int (nI (min (T (OR (ro - 1))) (lf / (V (OR (ro - 1))))))), (6, .int (nI (2001 * (ro - 1)))), (5, .int (nI (V (OR (ro - 1))))), (4, .int (nI ro)), (3, .int (nI lf)), (0, .ref (q 0)), (1, .int (nI am)), (2, .int (nI kd))]) hx hb dX1_partOf_60 hl (by decide) rfl (fun ls hl => ?_)
        have lp_62 : ∀ (fu_62 : Nat) (my : Nat), my < fu_62 → (gv (ro - 1) ≤ my ∧ my ≤ T (OR (ro - 1)) ∧ my * (V (OR (ro - 1))) ≤ lf) → ∀ (H : Heap) (locs : List Loc), va_P D vwCl (wM q cI cZ cJ th k V C A T B P OR n PR ST li w WK so sp CT FW) H → va_D A9 (wM q cI cZ cJ th k V C A T B P OR n PR ST li w WK so sp CT FW) → va_S A9 s.heap H locs → ∀ ls : Array Slot, lv_has ls 8 [(7, .int (nI my)), (5, .int (nI (V (OR (ro - 1))))), (6, .int (nI (2001 * (ro - 1)))), (4, .int (nI ro)), (3, .int (nI lf)), (0, .ref (q 0)), (1, .int (nI am)), (2, .int (nI kd))] → W p l e R s m args below meth c H locs 0 0 Q (F0 m 62 ls []) := by
          intro fu_62
          induction fu_62 with
          | zero =>
            intro my hfu_62
            exact absurd hfu_62 (Nat.not_lt_zero _)
          | succ fu_62 ih_62 =>
            intro my hfu_62 hmy H locs hP hD hS ls hl
            have hMb := isM_bd (hMt (ro - 1) (by omega) (lf - my * (V (OR (ro - 1)))) (by omega))
            have hMc := isM_bd (hMt ro (by omega) lf (by omega))
            refine lv_aload_n hx hb dX1_partOf_62 rfl (lv_at hl 5 rfl) ?_
            refine gfM hx hb hts hin hown hK hP 18 (by decide) (List.mem_of_getElem? (i := 9) rfl) rfl rfl dX1_partOf_63 ?_
            refine lv_iload hx hb dX1_partOf_66 (lv_at hl 2 rfl) ?_
            refine lv_iload_n hx hb dX1_partOf_68 rfl (lv_at hl 4 rfl) ?_
            refine n_iadd hx hb dX1_partOf_69 ?_
            refine lv_iload hx hb dX1_partOf_70 (lv_at hl 0 rfl) ?_
            refine lv_iload hx hb dX1_partOf_72 (lv_at hl 1 rfl) ?_
            refine n_imul hx hb dX1_partOf_74 ?_
            refine n_isub hx hb (by omega) dX1_partOf_75 ?_
            refine n_top (congrArg nI (show ((2001 * (ro - 1)) + lf) - (my * (V (OR (ro - 1)))) = 2001 * (ro - 1) + (lf - my * (V (OR (ro - 1)))) by omega)) ?_
            refine n_iald hx hb hK hP 12 0 rfl rfl (by omega) (by decide) dX1_partOf_76 ?_
            refine lv_iconst (v := nI 4294967295) hx hb dX1_partOf_77 (by decide) ?_
            refine n_icmp_eq (tgt := 117) hx hb (by omega) (by omega) dX1_partOf_78 (by decide) (fun c78 => ?_) (fun c78 => ?_)
            · have hne : my ≠ gv (ro - 1) := fun q => hv2.1.2.2.1.1 (by rw [← q]; exact c78)
              have hmy2 : gv (ro - 1) ≤ my - 1 ∧ my - 1 ≤ T (OR (ro - 1)) ∧ (my - 1) * (V (OR (ro - 1))) ≤ lf := ⟨by omega, by omega, Nat.le_trans (Nat.mul_le_mul_right _ (by omega)) hmy.2.2⟩
              refine lv_iinc (v := nI (my - 1)) (lv' := [(7, .int (nI (my - 1))), (5, .int (nI (V (OR (ro - 1))))), (6, .int (nI (2001 * (ro - 1)))), (4, .int (nI ro)), (3, .int (nI lf)), (0, .ref (q 0)), (1, .int (nI am)), (2, .int (nI kd))]) hx hb dX1_partOf_117 hl (k := 0) rfl (ni_dec (by omega)) (by decide) rfl (fun ls hl => ?_)
              refine lv_goto (tgt := 62) hx hb dX1_partOf_120 (by decide) ?_
              exact ih_62 (my - 1) (by omega) hmy2 _ _ hP hD hS ls (lv_sub hl [0, 1, 2, 3, 4, 5, 6, 7] rfl)
            · refine lv_aload_n hx hb dX1_partOf_81 rfl (lv_at hl 5 rfl) ?_
              refine gfM hx hb hts hin hown hK hP 18 (by decide) (List.mem_of_getElem? (i := 9) rfl) rfl rfl dX1_partOf_82 ?_
              refine lv_iload hx hb dX1_partOf_85 (lv_at hl 2 rfl) ?_
              refine lv_iload_n hx hb dX1_partOf_87 rfl (lv_at hl 4 rfl) ?_
              refine n_iadd hx hb dX1_partOf_88 ?_
              refine lv_iload hx hb dX1_partOf_89 (lv_at hl 0 rfl) ?_
              refine lv_iload hx hb dX1_partOf_91 (lv_at hl 1 rfl) ?_
              refine n_imul hx hb dX1_partOf_93 ?_
              refine n_isub hx hb (by omega) dX1_partOf_94 ?_
              refine n_top (congrArg nI (show ((2001 * (ro - 1)) + lf) - (my * (V (OR (ro - 1)))) = 2001 * (ro - 1) + (lf - my * (V (OR (ro - 1)))) by omega)) ?_
              refine n_iald hx hb hK hP 12 0 rfl rfl (by omega) (by decide) dX1_partOf_95 ?_
              refine lv_iload hx hb dX1_partOf_96 (lv_at hl 0 rfl) ?_
              refine n_iadd hx hb dX1_partOf_98 ?_
              refine lv_aload_n hx hb dX1_partOf_99 rfl (lv_at hl 5 rfl) ?_
              refine gfM hx hb hts hin hown hK hP 18 (by decide) (List.mem_of_getElem? (i := 9) rfl) rfl rfl dX1_partOf_100 ?_
              refine lv_iload hx hb dX1_partOf_103 (lv_at hl 2 rfl) ?_
              refine lv_sipush (v := nI 2000) hx hb dX1_partOf_105 (by decide) ?_
              refine n_iadd hx hb dX1_partOf_108 ?_
              refine lv_iconst (v := nI 1) hx hb dX1_partOf_109 (ic_1) ?_
              refine n_iadd hx hb dX1_partOf_110 ?_
              refine lv_iload_n hx hb dX1_partOf_111 rfl (lv_at hl 4 rfl) ?_
              refine n_iadd hx hb dX1_partOf_112 ?_
              refine n_top (congrArg nI (show (((2001 * (ro - 1)) + 2000) + 1) + lf = 2001 * ro + lf by omega)) ?_
              refine n_iald hx hb hK hP 12 0 rfl rfl (by omega) (by decide) dX1_partOf_113 ?_
              refine n_icmp_eq (tgt := 123) hx hb (by omega) (by omega) dX1_partOf_114 (by decide) (fun c114 => ?_) (fun c114 => ?_)
              · have heq : gv (ro - 1) = my := by
                  rcases Nat.lt_or_ge (gv (ro - 1)) my with h | h
                  · exact absurd ⟨c78, by rw [show ro - 1 + 1 = ro by omega]; exact c114⟩ (hv2.1.2.2.2 my h hmy.2.1 hmy.2.2)
                  · omega
                have hgle := hv2.1.2.1
                subst heq
                refine lv_aload_n hx hb dX1_partOf_123 rfl (lv_at hl 5 rfl) ?_
                refine gfM hx hb hts hin hown hK hP 8 (by decide) (List.mem_of_getElem? (i := 3) rfl) rfl rfl dX1_partOf_124 ?_
                refine lv_iload hx hb dX1_partOf_127 (lv_at hl 3 rfl) ?_
                refine lv_iconst (v := nI 1) hx hb dX1_partOf_129 (ic_1) ?_
                refine n_isub hx hb (by omega) dX1_partOf_130 ?_
                refine n_iald hx hb hK hP 7 0 rfl rfl (by omega) (by decide) dX1_partOf_131 ?_
                refine lv_iload_n hx hb dX1_partOf_132 rfl (lv_at hl 7 rfl) ?_
                refine n_icmp_ne (tgt := 139) hx hb (by omega) (by omega) dX1_partOf_133 (by decide) (fun c133 => ?_) (fun c133 => ?_)
                · have hex2 : ∃ j, j < ro - 1 ∧ OR j = kd := by
                    obtain ⟨j, h1, h2⟩ := hex
                    exact ⟨j, by rcases Nat.lt_or_ge j (ro - 1) with h | h; exact h; exact absurd (by rw [← h2, show j = ro - 1 by omega]) c133, h2⟩
                  refine lv_iload_n hx hb dX1_partOf_139 rfl (lv_at hl 4 rfl) ?_
                  refine lv_iload hx hb dX1_partOf_140 (lv_at hl 0 rfl) ?_
                  refine lv_iload hx hb dX1_partOf_142 (lv_at hl 1 rfl) ?_
                  refine n_imul hx hb dX1_partOf_144 ?_
                  refine n_isub hx hb (by omega) dX1_partOf_145 ?_
                  refine lv_istore_n (lv' := [(3, .int (nI (lf - ((gv (ro - 1)) * (V (OR (ro - 1))))))), (7, .int (nI (gv (ro - 1)))), (5, .int (nI (V (OR (ro - 1))))), (6, .int (nI (2001 * (ro - 1)))), (4, .int (nI ro)), (0, .ref (q 0)), (1, .int (nI am)), (2, .int (nI kd))]) hx hb dX1_partOf_146 rfl hl (by decide) rfl (fun ls hl => ?_)
                  refine lv_iinc (v := nI (ro - 1)) (lv' := [(4, .int (nI (ro - 1))), (3, .int (nI (lf - ((gv (ro - 1)) * (V (OR (ro - 1))))))), (7, .int (nI (gv (ro - 1)))), (5, .int (nI (V (OR (ro - 1))))), (6, .int (nI (2001 * (ro - 1)))), (0, .ref (q 0)), (1, .int (nI am)), (2, .int (nI kd))]) hx hb dX1_partOf_147 hl (k := 4) rfl (ni_dec (by omega)) (by decide) rfl (fun ls hl => ?_)
                  refine lv_goto (tgt := 8) hx hb dX1_partOf_150 (by decide) ?_
                  exact ih_8 (ro - 1) (lf - ((gv (ro - 1)) * (V (OR (ro - 1))))) (by omega) (by omega) (by omega) hv2.2 hex2 _ _ hP hD hS ls (lv_sub hl [0, 1, 5, 6, 7] rfl)
                · refine lv_iload hx hb dX1_partOf_136 (lv_at hl 0 rfl) ?_
                  subst hQ
                  exact e_i (gv (ro - 1)) hx hb hr hlocks hS hP hD (⟨rfl, ro - 1, by omega, c133, rfl⟩) (Nat.le_of_ble_eq_true rfl) (Nat.le_of_ble_eq_true rfl) dX1_partOf_138
              · have hne : my ≠ gv (ro - 1) := fun q => c114 (by have h9 := hv2.1.2.2.1.2; rw [← q, show ro - 1 + 1 = ro by omega] at h9; exact h9)
                have hmy2 : gv (ro - 1) ≤ my - 1 ∧ my - 1 ≤ T (OR (ro - 1)) ∧ (my - 1) * (V (OR (ro - 1))) ≤ lf := ⟨by omega, by omega, Nat.le_trans (Nat.mul_le_mul_right _ (by omega)) hmy.2.2⟩
                refine lv_iinc (v := nI (my - 1)) (lv' := [(7, .int (nI (my - 1))), (5, .int (nI (V (OR (ro - 1))))), (6, .int (nI (2001 * (ro - 1)))), (4, .int (nI ro)), (3, .int (nI lf)), (0, .ref (q 0)), (1, .int (nI am)), (2, .int (nI kd))]) hx hb dX1_partOf_117 hl (k := 0) rfl (ni_dec (by omega)) (by decide) rfl (fun ls hl => ?_)
                refine lv_goto (tgt := 62) hx hb dX1_partOf_120 (by decide) ?_
                exact ih_62 (my - 1) (by omega) hmy2 _ _ hP hD hS ls (lv_sub hl [0, 1, 2, 3, 4, 5, 6, 7] rfl)
        exact lp_62 _ (min (T (OR (ro - 1))) (lf / (V (OR (ro - 1))))) (Nat.lt_succ_self _) hmi _ _ hP hD hS ls (lv_sub hl [0, 2, 1, 3, 4, 5, 6, 7] rfl)
  exact lp_8 _ k am (Nat.lt_succ_self _) (by omega) (by omega) hgv (fb_onto hOR.1 (fun a b hab hb e => by have := ord_inj hOR a b (by omega) hb e; omega) hkd) _ _ hP hD hS ls (lv_sub hl [0, 1, 2, 3, 4] rfl)
theorem hd_X1_partOf : yX1_partOf.cls = RX1 ∧ yX1_partOf.cls ≠ "java/lang/invoke/MethodHandle" ∧ yX1_partOf.cls ≠ "java/lang/invoke/VarHandle" ∧ (parseMethodDescriptor yX1_partOf.desc).map (fun d => d.parameters.length) = some 2 := by decide +kernel

set_option maxHeartbeats 4000000 in
set_option maxRecDepth 100000 in
theorem c_X1_pay (l : Launch) (hst : l.stackTraces = false) (D : va_G) (q : Nat → Nat) (cI cZ cJ : ClassId) (th : Nat) (k : Nat) (V : Nat → Nat) (C : Nat → Nat) (A : Nat → Nat) (T : Nat → Nat) (B : Nat → Nat) (P : Nat → Nat) (OR : Nat → Nat) (n : Nat) (PR : Nat → Nat) (ST : Nat → Nat) (li : Nat) (w : Nat) (WK : Nat → Nat) (so : Nat) (sp : Nat) (CT : Nat → Int64) (FW : Nat → Nat) (sz : Nat) (am : Nat) (hk8 : k ≤ 8) (hV : ∀ i, i < k → 1 ≤ V i ∧ V i ≤ 500) (hC : ∀ i, i < k → C i ≤ 60 ∧ T i ≤ C i) (hOR : ordOK V OR k) (ham : am ≤ 2000) : Met l yX1_pay wsX1_pay ({ frames := 2, cells := 0, slots := 0, locals := 50 }) (va_Pc [.ref (q 0), .int (nI am)] (cxP D (ty3 cI cZ cJ) (wM q cI cZ cJ th k V C A T B P OR n PR ST li w WK so sp CT FW) sz)) (va_Qi (fun r (u : Nat × (Nat → Nat) × (Nat → Nat) × (Nat → Nat)) => r = nI u.1 ∧ ((nway T V k am ∧ u.1 = 0 ∧ u.2.1 = T ∧ u.2.2.1 = P) ∨ (u.1 = 1 ∧ ∃ z, bway T V k am z ∧ u.2.1 = pT T V k z k ∧ u.2.2.1 = pP P V k z k))) (bW D (va_A (wM q cI cZ cJ th k V C A T B P OR n PR ST li w WK so sp CT FW) sz) (fun u => (wM q cI cZ cJ th k V C A u.2.1 B u.2.2.1 OR n PR ST li w WK so sp CT u.2.2.2))) (va_A (wM q cI cZ cJ th k V C A T B P OR n PR ST li w WK so sp CT FW) sz)) 0 0 (va_A (wM q cI cZ cJ th k V C A T B P OR n PR ST li w WK so sp CT FW) sz) := by
  refine Met.ofW (cc := cX1_pay) (maxL := 3) (ret := (some .boolean)) (by decide) rfl ?_
  intro p e s m args below meth c s₁ BB hml hv
  obtain ⟨hav, hsz, hP, hK, hD0, hZ, hg⟩ := hv
  subst hsz
  subst hav
  have hx := BB.exec
  have hb := BB.bytes
  have hr := BB.returns
  have hts := atoms_spec (ws := wsX1_pay) BB.pre
  have hown : s.vm.findClass RX1 = some m.cls := findClass_of_methodNamed BB.named
  have hlocks := BB.notSynchronized
  have hin : ∀ w ∈ wsX10, w ∈ wsX1_pay := fun w h => (List.mem_cons_of_mem _ (List.mem_append_right _ h))
  have hD := hD0.self (sz := s.heap.size)
  have hA : ∀ q9 : Nat, s.heap.size ≤ q9 → va_A (wM q cI cZ cJ th k V C A T B P OR n PR ST li w WK so sp CT FW) s.heap.size q9 := fun _ h => Or.inr h
  have hl := lv_entry ([.ref (q 0), .int (nI am)]) (n := 3) (Nat.le_of_ble_eq_true rfl)
  rw [lg_entry_eq]
  generalize (lg_sl ([.ref (q 0), .int (nI am)]) ++ List.replicate (3 - (lg_sl ([.ref (q 0), .int (nI am)])).length) Slot.unset).toArray = ls at hl ⊢
  have hl : lv_has ls 3 [(0, .ref (q 0)), (1, .int (nI am))] := hl
  refine W_absR (fun R hR => ?_)
  have hR : R = ({ frames := 2, cells := 0, slots := 0, locals := 50 } : Room) := hR
  refine W_absQ (fun Q hQ => ?_)
  generalize ([.ref (q 0), .int (nI am)] : List Value).toArray = args at hts hQ ⊢
  generalize va_A (wM q cI cZ cJ th k V C A T B P OR n PR ST li w WK so sp CT FW) s.heap.size = A9 at hD hZ hA hQ
  refine W_start hP (A := A9) (fun H locs hP hS => ?_)
  refine lv_aload_n hx hb dX1_pay_0 rfl (lv_at hl 0 rfl) ?_
  refine lv_iload_n hx hb dX1_pay_1 rfl (lv_at hl 1 rfl) ?_
  refine k_v (va_runV (As := [.int (nI am)]) (rest := []) ⟨hx, hb, hml, hown, hts⟩ (c_X1_tabulate l hst D q cI cZ cJ th k V C A T B P OR n PR ST li w WK so sp CT FW H.size am hk8 hV hC hOR ham) (cwV 1 hts gX1_pay_X1_tabulate rfl rfl rfl hd_X1_tabulate ⟨(by rw [hR]; exact Nat.le_of_ble_eq_true rfl), (by rw [hR]; exact Nat.le_of_ble_eq_true rfl)⟩) (pre_V hP hK hD hS hA hZ hg 0 (ci := 1) rfl rfl) rfl rfl hl.1 rfl (lv_room (Nat.le_of_ble_eq_true rfl)) dX1_pay_2 ⟨(by rw [hR]; exact Nat.le_of_ble_eq_true rfl), (by rw [hR]; exact Nat.le_of_ble_eq_true rfl)⟩) hD hS hA (fun u_1 H locs hp_3 hP hD hS => ?_)
  have htb := hp_3
  have hbest := tab_best hk8 (fun i hi => by have := hC i hi; omega) hOR (F := fl u_1) (am := am) htb
  refine lv_aload_n hx hb dX1_pay_5 rfl (lv_at hl 0 rfl) ?_
  refine lv_iload_n hx hb dX1_pay_6 rfl (lv_at hl 1 rfl) ?_
  refine k_i (va_runV (As := [.int (nI am)]) (rest := []) ⟨hx, hb, hml, hown, hts⟩ (c_X1_inAll l hst D q cI cZ cJ th k V C A T B P OR n PR ST li w WK so sp CT u_1 H.size am hk8 ham) (cwV 1 hts gX1_pay_X1_inAll rfl rfl rfl hd_X1_inAll ⟨(by rw [hR]; exact Nat.le_of_ble_eq_true rfl), (by rw [hR]; exact Nat.le_of_ble_eq_true rfl)⟩) (pre_V hP hK hD hS hA hZ hg 0 (ci := 1) rfl rfl) rfl rfl hl.1 rfl (lv_room (Nat.le_of_ble_eq_true rfl)) dX1_pay_7 ⟨(by rw [hR]; exact Nat.le_of_ble_eq_true rfl), (by rw [hR]; exact Nat.le_of_ble_eq_true rfl)⟩) hD hS hA (fun r_5 u_4 H locs hp_6 hP hD hS => ?_)
  subst hp_6
  refine lv_iconst (v := nI 4294967295) hx hb dX1_pay_10 (by decide) ?_
  rcases hbest with ⟨hb0, hbn⟩ | ⟨hb0, hb1, gv, z, hg1, hbw, hbc, hbd⟩
  · have hb0 : u_1 (2001 * k + am) = 4294967295 := hb0
    refine n_icmp_ne (tgt := 16) hx hb (by omega) (by omega) dX1_pay_11 (by decide) (fun c11 => ?_) (fun c11 => ?_)
    · exact absurd hb0 c11
    · refine lv_iconst (v := nI 0) hx hb dX1_pay_14 (ic_0) ?_
      subst hQ
      exact e_z (0, T, P, u_1) hx hb hr hlocks hS (by omega) hP hD (⟨rfl, Or.inl ⟨hbn, rfl, rfl, rfl⟩⟩) (Nat.le_of_ble_eq_true rfl) (Nat.le_of_ble_eq_true rfl) dX1_pay_15
  · have hb0 : u_1 (2001 * k + am) ≠ 4294967295 := hb0
    have hb1 : u_1 (2001 * k + am) ≤ 480 := hb1
    refine n_icmp_ne (tgt := 16) hx hb (by omega) (by omega) dX1_pay_11 (by decide) (fun c11 => ?_) (fun c11 => ?_)
    · refine lv_iconst (v := nI 0) hx hb dX1_pay_16 (ic_0) ?_
      refine lv_istore_n (lv' := [(2, .int (nI 0)), (0, .ref (q 0)), (1, .int (nI am))]) hx hb dX1_pay_17 rfl hl (by decide) rfl (fun ls hl => ?_)
      have lp_18 : ∀ (fu_18 : Nat) (i : Nat), k - i < fu_18 → (i ≤ k) → ∀ (H : Heap) (locs : List Loc), va_P D vwCl (wM q cI cZ cJ th k V C A T B (pP P V k z i) OR n PR ST li w WK so sp CT u_1) H → va_D A9 (wM q cI cZ cJ th k V C A T B (pP P V k z i) OR n PR ST li w WK so sp CT u_1) → va_S A9 s.heap H locs → ∀ ls : Array Slot, lv_has ls 3 [(2, .int (nI i)), (0, .ref (q 0)), (1, .int (nI am))] → W p l e R s m args below meth c H locs 0 0 Q (F0 m 18 ls []) := by
        intro fu_18
        induction fu_18 with
        | zero =>
          intro i hfu_18
          exact absurd hfu_18 (Nat.not_lt_zero _)
        | succ fu_18 ih_18 =>
          intro i hfu_18 hi H locs hP hD hS ls hl
          refine lv_iload_n hx hb dX1_pay_18 rfl (lv_at hl 0 rfl) ?_
          refine lv_aload_n hx hb dX1_pay_19 rfl (lv_at hl 1 rfl) ?_
          refine gfM hx hb hts hin hown hK hP 1 (by decide) (List.mem_of_getElem? (i := 1) rfl) rfl rfl dX1_pay_20 ?_
          refine n_icmp_ge (tgt := 44) hx hb (by omega) (by omega) dX1_pay_23 (by decide) (fun c23 => ?_) (fun c23 => ?_)
          · have hik : k = i := by omega
            subst hik
            refine lv_iconst (v := nI 0) hx hb dX1_pay_44 (ic_0) ?_
            refine lv_istore_n (lv' := [(2, .int (nI 0)), (0, .ref (q 0)), (1, .int (nI am))]) hx hb dX1_pay_45 rfl hl (by decide) rfl (fun ls hl => ?_)
            have lp_46 : ∀ (fu_46 : Nat) (i2 : Nat), k - i2 < fu_46 → (i2 ≤ k) → ∀ (H : Heap) (locs : List Loc), va_P D vwCl (wM q cI cZ cJ th k V C A (pT T V k z i2) B (pP P V k z k) OR n PR ST li w WK so sp CT u_1) H → va_D A9 (wM q cI cZ cJ th k V C A (pT T V k z i2) B (pP P V k z k) OR n PR ST li w WK so sp CT u_1) → va_S A9 s.heap H locs → ∀ ls : Array Slot, lv_has ls 3 [(2, .int (nI i2)), (0, .ref (q 0)), (1, .int (nI am))] → W p l e R s m args below meth c H locs 0 0 Q (F0 m 46 ls []) := by
              intro fu_46
              induction fu_46 with
              | zero =>
                intro i2 hfu_46
                exact absurd hfu_46 (Nat.not_lt_zero _)
              | succ fu_46 ih_46 =>
                intro i2 hfu_46 hi2 H locs hP hD hS ls hl
                refine lv_iload_n hx hb dX1_pay_46 rfl (lv_at hl 0 rfl) ?_
                refine lv_aload_n hx hb dX1_pay_47 rfl (lv_at hl 1 rfl) ?_
                refine gfM hx hb hts hin hown hK hP 1 (by decide) (List.mem_of_getElem? (i := 1) rfl) rfl rfl dX1_pay_48 ?_
                refine n_icmp_ge (tgt := 75) hx hb (by omega) (by omega) dX1_pay_51 (by decide) (fun c51 => ?_) (fun c51 => ?_)
                · have hik : k = i2 := by omega
                  subst hik
                  refine lv_iconst (v := nI 1) hx hb dX1_pay_75 (ic_1) ?_
                  subst hQ
                  exact e_z (1, pT T V k z k, pP P V k z k, u_1) hx hb hr hlocks hS (by omega) hP hD (⟨rfl, Or.inr ⟨rfl, z, hbw, rfl, rfl⟩⟩) (Nat.le_of_ble_eq_true rfl) (Nat.le_of_ble_eq_true rfl) dX1_pay_76
                · refine lv_aload_n hx hb dX1_pay_54 rfl (lv_at hl 1 rfl) ?_
                  refine gfM hx hb hts hin hown hK hP 5 (by decide) (List.mem_of_getElem? (i := 3) rfl) rfl rfl dX1_pay_55 ?_
                  refine lv_iload_n hx hb dX1_pay_58 rfl (lv_at hl 0 rfl) ?_
                  refine lv_dup2_11 hx hb dX1_pay_59 rfl rfl ?_
                  refine n_iald hx hb hK hP 4 0 rfl rfl (by omega) (by decide) dX1_pay_60 ?_
                  refine n_top (congrArg nI (show (pT T V k z i2) i2 = T i2 from pT_at T V k z i2)) ?_
                  refine lv_aload_n hx hb dX1_pay_61 rfl (lv_at hl 1 rfl) ?_
                  refine gfM hx hb hts hin hown hK hP 7 (by decide) (List.mem_of_getElem? (i := 2) rfl) rfl rfl dX1_pay_62 ?_
                  refine lv_iload_n hx hb dX1_pay_65 rfl (lv_at hl 0 rfl) ?_
                  refine n_iald hx hb hK hP 6 0 rfl rfl (by omega) (by decide) dX1_pay_66 ?_
                  refine n_top (congrArg nI (show (pP P V k z k) i2 = pz z (lc V (V i2) k) from if_pos (by omega))) ?_
                  refine n_isub hx hb (pz_le hk8 (fun i hi => by have := hC i hi; omega) (ord_vinj hOR) hbw.1 i2 (by omega)) dX1_pay_67 ?_
                  refine n_iast (ws' := (wM q cI cZ cJ th k V C A (un (pT T V k z i2) i2 ((T i2) - (pz z (lc V (V i2) k)))) B (pP P V k z k) OR n PR ST li w WK so sp CT u_1)) hx hb hK hP hD hS 4 0 rfl rfl (by omega) (by decide) rfl dX1_pay_68 (fun H locs hP hD hS => ?_)
                  rw [show un (pT T V k z i2) i2 ((T i2) - (pz z (lc V (V i2) k))) = pT T V k z (i2 + 1) from pT_s T V k z i2] at hP hD
                  refine lv_iinc (v := nI (i2 + 1)) (lv' := [(2, .int (nI (i2 + 1))), (0, .ref (q 0)), (1, .int (nI am))]) hx hb dX1_pay_69 hl (k := 0) rfl (ni_inc _ 1) (by decide) rfl (fun ls hl => ?_)
                  refine lv_goto (tgt := 46) hx hb dX1_pay_72 (by decide) ?_
                  exact ih_46 (i2 + 1) (by omega) (by omega) _ _ hP hD hS ls (lv_sub hl [0, 1, 2] rfl)
            rw [pT_0 T V k z] at hP hD
            exact lp_46 _ 0 (Nat.lt_succ_self _) (by omega) _ _ hP hD hS ls (lv_sub hl [0, 1, 2] rfl)
          · refine lv_aload_n hx hb dX1_pay_26 rfl (lv_at hl 1 rfl) ?_
            refine gfM hx hb hts hin hown hK hP 7 (by decide) (List.mem_of_getElem? (i := 2) rfl) rfl rfl dX1_pay_27 ?_
            refine lv_iload_n hx hb dX1_pay_30 rfl (lv_at hl 0 rfl) ?_
            refine lv_aload_n hx hb dX1_pay_31 rfl (lv_at hl 1 rfl) ?_
            refine lv_iload_n hx hb dX1_pay_32 rfl (lv_at hl 2 rfl) ?_
            refine lv_iload_n hx hb dX1_pay_33 rfl (lv_at hl 0 rfl) ?_
            refine k_i (va_runV (As := [.int (nI am), .int (nI i)]) (rest := [.int (nI i), .ref (q 7)]) ⟨hx, hb, hml, hown, hts⟩ (c_X1_partOf l hst D q cI cZ cJ th k V C A T B (pP P V k z i) OR n PR ST li w WK so sp CT u_1 H.size gv am i hk8 hV hC hOR ham htb hg1 (by omega)) (cwV 2 hts gX1_pay_X1_partOf rfl rfl rfl hd_X1_partOf ⟨(by rw [hR]; exact Nat.le_of_ble_eq_true rfl), (by rw [hR]; exact Nat.le_of_ble_eq_true rfl)⟩) (pre_V hP hK hD hS hA hZ hg 0 (ci := 1) rfl rfl) rfl rfl hl.1 rfl (lv_room (Nat.le_of_ble_eq_true rfl)) dX1_pay_34 ⟨(by rw [hR]; exact Nat.le_of_ble_eq_true rfl), (by rw [hR]; exact Nat.le_of_ble_eq_true rfl)⟩) hD hS hA (fun r_8 u_7 H locs hp_9 hP hD hS => ?_)
            obtain ⟨rfl, hp_9⟩ := hp_9
            have hgj : u_7 = pz z (lc V (V i) k) := by
              obtain ⟨j, h1, h2, h3⟩ := hp_9
              rw [h3, ← hbd j h1, h2]
            refine n_iast (ws' := (wM q cI cZ cJ th k V C A T B (un (pP P V k z i) i u_7) OR n PR ST li w WK so sp CT u_1)) hx hb hK hP hD hS 6 0 rfl rfl (by omega) (by decide) rfl dX1_pay_37 (fun H locs hP hD hS => ?_)
            rw [show un (pP P V k z i) i u_7 = pP P V k z (i + 1) from by rw [hgj]; exact pP_s P V k z i] at hP hD
            refine lv_iinc (v := nI (i + 1)) (lv' := [(2, .int (nI (i + 1))), (0, .ref (q 0)), (1, .int (nI am))]) hx hb dX1_pay_38 hl (k := 0) rfl (ni_inc _ 1) (by decide) rfl (fun ls hl => ?_)
            refine lv_goto (tgt := 18) hx hb dX1_pay_41 (by decide) ?_
            exact ih_18 (i + 1) (by omega) (by omega) _ _ hP hD hS ls (lv_sub hl [0, 1, 2] rfl)
      rw [pP_0 P V k z] at hP hD
      exact lp_18 _ 0 (Nat.lt_succ_self _) (by omega) _ _ hP hD hS ls (lv_sub hl [0, 1, 2] rfl)
    · exact absurd c11 hb0
theorem hd_X1_pay : yX1_pay.cls = RX1 ∧ yX1_pay.cls ≠ "java/lang/invoke/MethodHandle" ∧ yX1_pay.cls ≠ "java/lang/invoke/VarHandle" ∧ (parseMethodDescriptor yX1_pay.desc).map (fun d => d.parameters.length) = some 1 := by decide +kernel
