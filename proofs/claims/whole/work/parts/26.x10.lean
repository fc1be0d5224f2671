set_option maxHeartbeats 4000000 in
set_option maxRecDepth 100000 in
theorem c_X1_buy (l : Launch) (hst : l.stackTraces = false) (D : va_G) (q : Nat → Nat) (cI cZ cJ : ClassId) (th : Nat) (k : Nat) (V : Nat → Nat) (C : Nat → Nat) (A : Nat → Nat) (T : Nat → Nat) (B : Nat → Nat) (P : Nat → Nat) (OR : Nat → Nat) (n : Nat) (PR : Nat → Nat) (ST : Nat → Nat) (li : Nat) (w : Nat) (WK : Nat → Nat) (so : Nat) (sp : Nat) (CT : Nat → Int64) (FW : Nat → Nat) (sz : Nat) (p0 : Int32) (hk8 : k ≤ 8) (hV : ∀ i, i < k → 1 ≤ V i ∧ V i ≤ 500) (hC : ∀ i, i < k → C i ≤ 60 ∧ T i ≤ C i) (hOR : ordOK V OR k) (hn10 : n ≤ 10) (hPR : ∀ j, j < n → 1 ≤ PR j ∧ PR j ≤ 2000 ∧ ST j ≤ 99) (hw12 : w ≤ 12) (hWK : ∀ j, j < w → WK j < k) (hcr : cr V WK w ≤ 2000) : Met l yX1_buy wsX1_buy ({ frames := 10, cells := 2, slots := 16, locals := 300 }) (va_Pc [.ref (q 0), .int p0] (cxP D (ty3 cI cZ cJ) (wM q cI cZ cJ th k V C A T B P OR n PR ST li w WK so sp CT FW) sz)) (va_Qi (fun r (u : Nat × Nat × (Nat → Nat) × (Nat → Nat) × (Nat → Nat) × Nat × (Nat → Nat) × Nat × Nat × (Nat → Int64) × (Nat → Nat)) => r = nI u.1 ∧ ((u.2.1 = 1 ∧ ¬ rg p0 0 n ∧ u.2.2.1 = T ∧ u.2.2.2.1 = B ∧ u.2.2.2.2.1 = P ∧ u.2.2.2.2.2.1 = w ∧ u.2.2.2.2.2.2.1 = ST ∧ u.2.2.2.2.2.2.2.1 = so ∧ u.2.2.2.2.2.2.2.2.1 = sp ∧ u.2.2.2.2.2.2.2.2.2.1 = CT) ∨ (u.2.1 = 0 ∧ ∃ j, j < n ∧ p0 = nI j ∧ buyP k V C T B P PR ST w WK so sp CT j u.1 u.2.2.1 u.2.2.2.1 u.2.2.2.2.1 u.2.2.2.2.2.1 u.2.2.2.2.2.2.1 u.2.2.2.2.2.2.2.1 u.2.2.2.2.2.2.2.2.1 u.2.2.2.2.2.2.2.2.2.1))) (bW D (va_A (wM q cI cZ cJ th k V C A T B P OR n PR ST li w WK so sp CT FW) sz) (fun u => (wM q cI cZ cJ u.2.1 k V C A u.2.2.1 u.2.2.2.1 u.2.2.2.2.1 OR n PR u.2.2.2.2.2.2.1 li u.2.2.2.2.2.1 WK u.2.2.2.2.2.2.2.1 u.2.2.2.2.2.2.2.2.1 u.2.2.2.2.2.2.2.2.2.1 u.2.2.2.2.2.2.2.2.2.2))) (va_A (wM q cI cZ cJ th k V C A T B P OR n PR ST li w WK so sp CT FW) sz)) 2 16 (va_A (wM q cI cZ cJ th k V C A T B P OR n PR ST li w WK so sp CT FW) sz) := by
  refine Met.ofW (cc := cX1_buy) (maxL := 6) (ret := (some .int)) (by decide) rfl ?_
  intro p e s m args below meth c s₁ BB hml hv
  obtain ⟨hav, hsz, hP, hK, hD0, hZ, hg⟩ := hv
  subst hsz
  subst hav
  have hx := BB.exec
  have hb := BB.bytes
  have hr := BB.returns
  have hts := atoms_spec (ws := wsX1_buy) BB.pre
  have hown : s.vm.findClass RX1 = some m.cls := findClass_of_methodNamed BB.named
  have hlocks := BB.notSynchronized
  have hin : ∀ w ∈ wsX10, w ∈ wsX1_buy := fun w h => (List.mem_cons_of_mem _ (List.mem_append_right _ h))
  have hD := hD0.self (sz := s.heap.size)
  have hA : ∀ q9 : Nat, s.heap.size ≤ q9 → va_A (wM q cI cZ cJ th k V C A T B P OR n PR ST li w WK so sp CT FW) s.heap.size q9 := fun _ h => Or.inr h
  have hl := lv_entry ([.ref (q 0), .int p0]) (n := 6) (Nat.le_of_ble_eq_true rfl)
  rw [lg_entry_eq]
  generalize (lg_sl ([.ref (q 0), .int p0]) ++ List.replicate (6 - (lg_sl ([.ref (q 0), .int p0])).length) Slot.unset).toArray = ls at hl ⊢
  have hl : lv_has ls 6 [(0, .ref (q 0)), (1, .int p0)] := hl
  refine W_absR (fun R hR => ?_)
  have hR : R = ({ frames := 10, cells := 2, slots := 16, locals := 300 } : Room) := hR
  refine W_absQ (fun Q hQ => ?_)
  generalize ([.ref (q 0), .int p0] : List Value).toArray = args at hts hQ ⊢
  generalize va_A (wM q cI cZ cJ th k V C A T B P OR n PR ST li w WK so sp CT FW) s.heap.size = A9 at hD hZ hA hQ
  refine W_start hP (A := A9) (fun H locs hP hS => ?_)
  refine lv_aload_n hx hb dX1_buy_0 rfl (lv_at hl 0 rfl) ?_
  refine lv_iconst (v := nI 0) hx hb dX1_buy_1 (ic_0) ?_
  refine pfM (ws' := (wM q cI cZ cJ 0 k V C A T B P OR n PR ST li w WK so sp CT FW)) hx hb hts hin hown hK hP hD hS 0 (by decide) (List.mem_of_getElem? (i := 1) rfl) rfl ⟨rfl, rfl⟩ rfl rfl dX1_buy_2 (fun H locs hP hD hS => ?_)
  refine lv_aload_n hx hb dX1_buy_5 rfl (lv_at hl 0 rfl) ?_
  refine lv_iload_n hx hb dX1_buy_6 rfl (lv_at hl 1 rfl) ?_
  refine k_i (va_runV (As := [.int p0]) (rest := []) ⟨hx, hb, hml, hown, hts⟩ (c_X1_isProduct l hst D q cI cZ cJ 0 k V C A T B P OR n PR ST li w WK so sp CT FW H.size p0 hn10) (cwV 1 hts gX1_buy_X1_isProduct rfl rfl rfl hd_X1_isProduct ⟨(by rw [hR]; exact Nat.le_of_ble_eq_true rfl), (by rw [hR]; exact Nat.le_of_ble_eq_true rfl)⟩) (pre_V hP hK hD hS hA hZ hg 0 (ci := 1) rfl rfl) rfl rfl hl.1 rfl (lv_room (Nat.le_of_ble_eq_true rfl)) dX1_buy_7 ⟨(by rw [hR]; exact Nat.le_of_ble_eq_true rfl), (by rw [hR]; exact Nat.le_of_ble_eq_true rfl)⟩) hD hS hA (fun r_2 u_1 H locs hp_3 hP hD hS => ?_)
  subst hp_3
  refine n_if_ne (tgt := 19) hx hb (by have := b1_le (rg p0 0 n); omega) dX1_buy_10 (by decide) (fun c10 => ?_) (fun c10 => ?_)
  · obtain ⟨j0, j0a, j0b, rfl⟩ := b1_of c10
    refine lv_aload_n hx hb dX1_buy_19 rfl (lv_at hl 0 rfl) ?_
    refine gfM hx hb hts hin hown hK hP 11 (by decide) (List.mem_of_getElem? (i := 2) rfl) rfl rfl dX1_buy_20 ?_
    refine lv_iload_n hx hb dX1_buy_23 rfl (lv_at hl 1 rfl) ?_
    refine n_iald hx hb hK hP 9 0 rfl rfl (by omega) (by decide) dX1_buy_24 ?_
    refine n_if_ne (tgt := 30) hx hb (by have := hPR j0 j0b; omega) dX1_buy_25 (by decide) (fun c25 => ?_) (fun c25 => ?_)
    · refine lv_aload_n hx hb dX1_buy_30 rfl (lv_at hl 0 rfl) ?_
      refine k_i (va_runV (As := []) (rest := []) ⟨hx, hb, hml, hown, hts⟩ (c_X1_creditNow l hst D q cI cZ cJ 0 k V C A T B P OR n PR ST li w WK so sp CT FW H.size hk8 hw12 hWK hV) (cwV 0 hts gX1_buy_X1_creditNow rfl rfl rfl hd_X1_creditNow ⟨(by rw [hR]; exact Nat.le_of_ble_eq_true rfl), (by rw [hR]; exact Nat.le_of_ble_eq_true rfl)⟩) (pre_V hP hK hD hS hA hZ hg 0 (ci := 1) rfl rfl) rfl rfl hl.1 rfl (lv_room (Nat.le_of_ble_eq_true rfl)) dX1_buy_31 ⟨(by rw [hR]; exact Nat.le_of_ble_eq_true rfl), (by rw [hR]; exact Nat.le_of_ble_eq_true rfl)⟩) hD hS hA (fun r_5 u_4 H locs hp_6 hP hD hS => ?_)
      subst hp_6
      refine lv_aload_n hx hb dX1_buy_34 rfl (lv_at hl 0 rfl) ?_
      refine gfM hx hb hts hin hown hK hP 10 (by decide) (List.mem_of_getElem? (i := 3) rfl) rfl rfl dX1_buy_35 ?_
      refine lv_iload_n hx hb dX1_buy_38 rfl (lv_at hl 1 rfl) ?_
      refine n_iald hx hb hK hP 8 0 rfl rfl (by omega) (by decide) dX1_buy_39 ?_
      rcases Nat.lt_or_ge (cr V WK w) (PR j0) with hlt | hge
      · refine lv_isub hx hb dX1_buy_40 ?_
        refine lv_istore_n (lv' := [(2, .int (nI (cr V WK w) - nI (PR j0))), (0, .ref (q 0)), (1, .int (nI j0))]) hx hb dX1_buy_41 rfl hl (by decide) rfl (fun ls hl => ?_)
        refine lv_iload_n hx hb dX1_buy_42 rfl (lv_at hl 0 rfl) ?_
        refine lv_if_ge (tgt := 48) hx hb dX1_buy_43 (by decide) (fun c43 => ?_) (fun c43 => ?_)
        · exact absurd c43 (fun q => by have z := pk_sneg (a := cr V WK w) (b := PR j0) (by have := hPR j0 j0b; omega) hlt; rw [Int32.lt_iff_toInt_lt, Int32.toInt_zero] at z; rw [Int32.le_iff_toInt_le, Int32.toInt_zero] at q; omega)
        · refine lv_iconst (v := nI 2) hx hb dX1_buy_46 (ic_2) ?_
          subst hQ
          exact e_i (2, 0, T, B, P, w, ST, so, sp, CT, FW) hx hb hr hlocks hS hP hD (⟨rfl, Or.inr ⟨rfl, j0, j0b, rfl, Or.inl ⟨⟨rfl, rfl, rfl, rfl, rfl, rfl, rfl, rfl⟩, Or.inr (Or.inl ⟨c25, hlt, rfl⟩)⟩⟩⟩) (Nat.le_of_ble_eq_true rfl) (Nat.le_of_ble_eq_true rfl) dX1_buy_47
      · refine n_isub hx hb hge dX1_buy_40 ?_
        refine lv_istore_n (lv' := [(2, .int (nI ((cr V WK w) - (PR j0)))), (0, .ref (q 0)), (1, .int (nI j0))]) hx hb dX1_buy_41 rfl hl (by decide) rfl (fun ls hl => ?_)
        refine lv_iload_n hx hb dX1_buy_42 rfl (lv_at hl 0 rfl) ?_
        refine n_if_ge (tgt := 48) hx hb (by omega) dX1_buy_43 (by decide) ?_
        refine lv_aload_n hx hb dX1_buy_48 rfl (lv_at hl 1 rfl) ?_
        refine gfM hx hb hts hin hown hK hP 5 (by decide) (List.mem_of_getElem? (i := 4) rfl) rfl rfl dX1_buy_49 ?_
        have hnI : s.vm.findClass "[I" = some cI := by
          have h := (hK.2 0 (cI, .int) rfl).2
          exact h
        refine va_clone (ty := .int) hx hb (hml.trans hl.1.symm) hown (hts _ (List.mem_of_getElem? (i := 5) rfl)) (hts _ (List.mem_of_getElem? (i := 6) rfl)) (hts _ (List.mem_of_getElem? (i := 7) rfl)) (hts _ (List.mem_of_getElem? (i := 8) rfl)) (hts _ (List.mem_of_getElem? (i := 9) rfl)) hg.2.2.2.2.2.2.2 hK hP hD hS hA 4 0 rfl rfl hnI fit_rI (by rw [hR]; exact Nat.le_of_ble_eq_true rfl) (by rw [hR]; exact Nat.le_of_ble_eq_true rfl) (by rw [hR]; exact Nat.le_of_ble_eq_true rfl) (by rw [hR]; exact Nat.le_of_ble_eq_true rfl) dX1_buy_52 (fun qt H _ hP hD hS => ?_)
        have hP : va_P D vwCl ((wM q cI cZ cJ 0 k V C A T B P OR n PR ST li w WK so sp CT FW) ++ [(qt, .inl (cI, 8, .inl (rI T)))]) H := hP
        have hD : va_D A9 ((wM q cI cZ cJ 0 k V C A T B P OR n PR ST li w WK so sp CT FW) ++ [(qt, .inl (cI, 8, .inl (rI T)))]) := hD
        refine va_castA hx hb hown (hts _ (List.mem_of_getElem? (i := 10) rfl)) hP 13 rfl hnI dX1_buy_55 ?_
        refine lv_astore_n (lv' := [(3, .ref qt), (2, .int (nI ((cr V WK w) - (PR j0)))), (0, .ref (q 0)), (1, .int (nI j0))]) hx hb dX1_buy_58 rfl hl (by decide) rfl (fun ls hl => ?_)
        refine lv_aload_n hx hb dX1_buy_59 rfl (lv_at hl 2 rfl) ?_
        refine gfM hx hb hts hin hown hK hP 6 (by decide) (List.mem_of_getElem? (i := 11) rfl) rfl rfl dX1_buy_60 ?_
        refine va_clone (ty := .int) hx hb (hml.trans hl.1.symm) hown (hts _ (List.mem_of_getElem? (i := 5) rfl)) (hts _ (List.mem_of_getElem? (i := 6) rfl)) (hts _ (List.mem_of_getElem? (i := 7) rfl)) (hts _ (List.mem_of_getElem? (i := 8) rfl)) (hts _ (List.mem_of_getElem? (i := 9) rfl)) hg.2.2.2.2.2.2.2 hK hP hD hS hA 5 0 rfl rfl hnI fit_rI (by rw [hR]; exact Nat.le_of_ble_eq_true rfl) (by rw [hR]; exact Nat.le_of_ble_eq_true rfl) (by rw [hR]; exact Nat.le_of_ble_eq_true rfl) (by rw [hR]; exact Nat.le_of_ble_eq_true rfl) dX1_buy_63 (fun qb H _ hP hD hS => ?_)
        have hP : va_P D vwCl ((wM q cI cZ cJ 0 k V C A T B P OR n PR ST li w WK so sp CT FW) ++ [(qt, .inl (cI, 8, .inl (rI T))), (qb, .inl (cI, 8, .inl (rI B)))]) H := hP
        have hD : va_D A9 ((wM q cI cZ cJ 0 k V C A T B P OR n PR ST li w WK so sp CT FW) ++ [(qt, .inl (cI, 8, .inl (rI T))), (qb, .inl (cI, 8, .inl (rI B)))]) := hD
        refine va_castA hx hb hown (hts _ (List.mem_of_getElem? (i := 10) rfl)) hP 14 rfl hnI dX1_buy_66 ?_
        refine lv_astore (lv' := [(4, .ref qb), (3, .ref qt), (2, .int (nI ((cr V WK w) - (PR j0)))), (0, .ref (q 0)), (1, .int (nI j0))]) hx hb dX1_buy_69 hl (by decide) rfl (fun ls hl => ?_)
        refine lv_iconst (v := nI 0) hx hb dX1_buy_71 (ic_0) ?_
        refine lv_istore (lv' := [(5, .int (nI 0)), (4, .ref qb), (3, .ref qt), (2, .int (nI ((cr V WK w) - (PR j0)))), (0, .ref (q 0)), (1, .int (nI j0))]) hx hb dX1_buy_72 hl (by decide) rfl (fun ls hl => ?_)
        have lp_74 : ∀ (fu_74 : Nat) (j : Nat), w - j < fu_74 → (j ≤ w) → ∀ (H : Heap) (locs : List Loc), va_P D vwCl ((wM q cI cZ cJ 0 k V C A (dT C T WK j k) (dB C T B WK j k) P OR n PR ST li w WK so sp CT FW) ++ [(qt, .inl (cI, 8, .inl (rI T))), (qb, .inl (cI, 8, .inl (rI B)))]) H → va_D A9 ((wM q cI cZ cJ 0 k V C A (dT C T WK j k) (dB C T B WK j k) P OR n PR ST li w WK so sp CT FW) ++ [(qt, .inl (cI, 8, .inl (rI T))), (qb, .inl (cI, 8, .inl (rI B)))]) → va_S A9 s.heap H locs → ∀ ls : Array Slot, lv_has ls 6 [(5, .int (nI j)), (3, .ref qt), (4, .ref qb), (0, .ref (q 0)), (1, .int (nI j0)), (2, .int (nI (cr V WK w - PR j0)))] → W p l e R s m args below meth c H locs ((0 + 1) + 1) ((0 + 8) + 8) Q (F0 m 74 ls []) := by
          intro fu_74
          induction fu_74 with
          | zero =>
            intro j hfu_74
            exact absurd hfu_74 (Nat.not_lt_zero _)
          | succ fu_74 ih_74 =>
            intro j hfu_74 hj H locs hP hD hS ls hl
            refine lv_iload hx hb dX1_buy_74 (lv_at hl 0 rfl) ?_
            refine lv_aload_n hx hb dX1_buy_76 rfl (lv_at hl 3 rfl) ?_
            refine gfM hx hb hts hin hown hK hP 13 (by decide) (List.mem_of_getElem? (i := 12) rfl) rfl rfl dX1_buy_77 ?_
            refine n_icmp_ge (tgt := 151) hx hb (by omega) (by omega) dX1_buy_80 (by decide) (fun c80 => ?_) (fun c80 => ?_)
            · have hjw : w = j := by omega
              subst hjw
              refine lv_aload_n hx hb dX1_buy_151 rfl (lv_at hl 3 rfl) ?_
              refine lv_iload_n hx hb dX1_buy_152 rfl (lv_at hl 5 rfl) ?_
              refine k3_i (wa := []) (wc := (wM q cI cZ cJ 0 k V C A (dT C T WK w k) (dB C T B WK w k) P OR n PR ST li w WK so sp CT FW)) (wb := [(qt, .inl (cI, 8, .inl (rI T))), (qb, .inl (cI, 8, .inl (rI B)))]) (va_runV (As := [.int (nI (cr V WK w - PR j0))]) (rest := []) ⟨hx, hb, hml, hown, hts⟩ (c_X1_pay l hst D q cI cZ cJ 0 k V C A (dT C T WK w k) (dB C T B WK w k) P OR n PR ST li w WK so sp CT FW H.size (cr V WK w - PR j0) hk8 hV (fun i hi => ⟨(hC i hi).1, dT_le hC i hi⟩) hOR (by omega)) (cwV 1 hts gX1_buy_X1_pay rfl rfl rfl hd_X1_pay ⟨(by rw [hR]; exact Nat.le_of_ble_eq_true rfl), (by rw [hR]; exact Nat.le_of_ble_eq_true rfl)⟩) (pre_V3 (wa := []) (wc := (wM q cI cZ cJ 0 k V C A (dT C T WK w k) (dB C T B WK w k) P OR n PR ST li w WK so sp CT FW)) (wb := [(qt, .inl (cI, 8, .inl (rI T))), (qb, .inl (cI, 8, .inl (rI B)))]) hP hK hD hS hA hZ hg 0 (ci := 1) rfl rfl) rfl rfl hl.1 rfl (lv_room (Nat.le_of_ble_eq_true rfl)) dX1_buy_153 ⟨(by rw [hR]; exact Nat.le_of_ble_eq_true rfl), (by rw [hR]; exact Nat.le_of_ble_eq_true rfl)⟩) hP hD hS hA (fun r_8 u_7 H locs hp_9 hP hD hS => ?_)
              have hP : va_P D vwCl ((wM q cI cZ cJ 0 k V C A u_7.2.1 (dB C T B WK w k) u_7.2.2.1 OR n PR ST li w WK so sp CT u_7.2.2.2) ++ [(qt, .inl (cI, 8, .inl (rI T))), (qb, .inl (cI, 8, .inl (rI B)))]) H := hP
              have hD : va_D A9 ((wM q cI cZ cJ 0 k V C A u_7.2.1 (dB C T B WK w k) u_7.2.2.1 OR n PR ST li w WK so sp CT u_7.2.2.2) ++ [(qt, .inl (cI, 8, .inl (rI T))), (qb, .inl (cI, 8, .inl (rI B)))]) := hD
              obtain ⟨rfl, hp_9⟩ := hp_9
              obtain ⟨r5, T5, P5, F5⟩ := u_7
              dsimp only at hp_9 hP hD
              show W p l e R s m args below meth c H locs ((0 + 1) + 1) ((0 + 8) + 8) Q (F0 m 156 ls [.int (nI r5)])
              rcases hp_9 with ⟨hnw, h5, h6, h7⟩ | ⟨h5, z, hbw, h6, h7⟩
              · replace h5 := h5.symm
                replace h6 := h6.symm
                replace h7 := h7.symm
                subst h5
                subst h6
                subst h7
                refine n_if_ne (tgt := 200) hx hb (by decide) dX1_buy_156 (by decide) (fun c156 => ?_) (fun c156 => ?_)
                · exact absurd c156 (by decide)
                · refine lv_iconst (v := nI 0) hx hb dX1_buy_159 (ic_0) ?_
                  refine lv_istore (lv' := [(5, .int (nI 0)), (3, .ref qt), (4, .ref qb), (0, .ref (q 0)), (1, .int (nI j0)), (2, .int (nI (cr V WK w - PR j0)))]) hx hb dX1_buy_160 hl (by decide) rfl (fun ls hl => ?_)
                  have lp_162 : ∀ (fu_162 : Nat) (i : Nat), 8 - i < fu_162 → (i ≤ 8) → ∀ (H : Heap) (locs : List Loc), va_P D vwCl ((wM q cI cZ cJ 0 k V C A (mx T (dT C T WK w k) i) (mx B (dB C T B WK w k) i) P OR n PR ST li w WK so sp CT F5) ++ [(qt, .inl (cI, 8, .inl (rI T))), (qb, .inl (cI, 8, .inl (rI B)))]) H → va_D A9 ((wM q cI cZ cJ 0 k V C A (mx T (dT C T WK w k) i) (mx B (dB C T B WK w k) i) P OR n PR ST li w WK so sp CT F5) ++ [(qt, .inl (cI, 8, .inl (rI T))), (qb, .inl (cI, 8, .inl (rI B)))]) → va_S A9 s.heap H locs → ∀ ls : Array Slot, lv_has ls 6 [(5, .int (nI i)), (3, .ref qt), (4, .ref qb), (0, .ref (q 0)), (1, .int (nI j0))] → W p l e R s m args below meth c H locs ((0 + 1) + 1) ((0 + 8) + 8) Q (F0 m 162 ls []) := by
                    intro fu_162
                    induction fu_162 with
                    | zero =>
                      intro i hfu_162
                      exact absurd hfu_162 (Nat.not_lt_zero _)
                    | succ fu_162 ih_162 =>
                      intro i hfu_162 hi H locs hP hD hS ls hl
                      refine lv_iload hx hb dX1_buy_162 (lv_at hl 0 rfl) ?_
                      refine lv_bipush (v := nI 8) hx hb dX1_buy_164 (by decide) ?_
                      refine n_icmp_ge (tgt := 198) hx hb (by omega) (by omega) dX1_buy_166 (by decide) (fun c166 => ?_) (fun c166 => ?_)
                      · have h8 : 8 = i := by omega
                        subst h8
                        rw [mx_T hk8, mx_B hk8] at hP hD
                        refine lv_iconst (v := nI 3) hx hb dX1_buy_198 (ic_3) ?_
                        subst hQ
                        exact e_i (3, 0, T, B, P, w, ST, so, sp, CT, F5) hx hb hr hlocks hS (va_P_l (u := (wM q cI cZ cJ 0 k V C A T B P OR n PR ST li w WK so sp CT F5)) (v := [(qt, .inl (cI, 8, .inl (rI T))), (qb, .inl (cI, 8, .inl (rI B)))]) hP) (va_D_l (u := (wM q cI cZ cJ 0 k V C A T B P OR n PR ST li w WK so sp CT F5)) (v := [(qt, .inl (cI, 8, .inl (rI T))), (qb, .inl (cI, 8, .inl (rI B)))]) hD) (⟨rfl, Or.inr ⟨rfl, j0, j0b, rfl, Or.inl ⟨⟨rfl, rfl, rfl, rfl, rfl, rfl, rfl, rfl⟩, Or.inr (Or.inr ⟨c25, hge, hnw, rfl⟩)⟩⟩⟩) (Nat.le_of_ble_eq_true rfl) (Nat.le_of_ble_eq_true rfl) dX1_buy_199
                      · refine lv_aload_n hx hb dX1_buy_169 rfl (lv_at hl 3 rfl) ?_
                        refine gfM hx hb hts hin hown hK hP 5 (by decide) (List.mem_of_getElem? (i := 4) rfl) rfl rfl dX1_buy_170 ?_
                        refine lv_iload hx hb dX1_buy_173 (lv_at hl 0 rfl) ?_
                        refine lv_aload_n hx hb dX1_buy_175 rfl (lv_at hl 1 rfl) ?_
                        refine lv_iload hx hb dX1_buy_176 (lv_at hl 0 rfl) ?_
                        refine n_iald hx hb hK hP 13 0 rfl rfl (by omega) (by decide) dX1_buy_178 ?_
                        refine n_iast (ws' := ((wM q cI cZ cJ 0 k V C A (un (mx T (dT C T WK w k) i) i (T i)) (mx B (dB C T B WK w k) i) P OR n PR ST li w WK so sp CT F5) ++ [(qt, .inl (cI, 8, .inl (rI T))), (qb, .inl (cI, 8, .inl (rI B)))])) hx hb hK hP hD hS 4 0 rfl rfl (by omega) (by decide) rfl dX1_buy_179 (fun H locs hP hD hS => ?_)
                        rw [show un (mx T (dT C T WK w k) i) i (T i) = mx T (dT C T WK w k) (i + 1) from mx_s T (dT C T WK w k) i] at hP hD
                        refine lv_aload_n hx hb dX1_buy_180 rfl (lv_at hl 3 rfl) ?_
                        refine gfM hx hb hts hin hown hK hP 6 (by decide) (List.mem_of_getElem? (i := 11) rfl) rfl rfl dX1_buy_181 ?_
                        refine lv_iload hx hb dX1_buy_184 (lv_at hl 0 rfl) ?_
                        refine lv_aload hx hb dX1_buy_186 (lv_at hl 2 rfl) ?_
                        refine lv_iload hx hb dX1_buy_188 (lv_at hl 0 rfl) ?_
                        refine n_iald hx hb hK hP 14 0 rfl rfl (by omega) (by decide) dX1_buy_190 ?_
                        refine n_iast (ws' := ((wM q cI cZ cJ 0 k V C A (mx T (dT C T WK w k) (i + 1)) (un (mx B (dB C T B WK w k) i) i (B i)) P OR n PR ST li w WK so sp CT F5) ++ [(qt, .inl (cI, 8, .inl (rI T))), (qb, .inl (cI, 8, .inl (rI B)))])) hx hb hK hP hD hS 5 0 rfl rfl (by omega) (by decide) rfl dX1_buy_191 (fun H locs hP hD hS => ?_)
                        rw [show un (mx B (dB C T B WK w k) i) i (B i) = mx B (dB C T B WK w k) (i + 1) from mx_s B (dB C T B WK w k) i] at hP hD
                        refine lv_iinc (v := nI (i + 1)) (lv' := [(5, .int (nI (i + 1))), (3, .ref qt), (4, .ref qb), (0, .ref (q 0)), (1, .int (nI j0))]) hx hb dX1_buy_192 hl (k := 0) rfl (ni_inc _ 1) (by decide) rfl (fun ls hl => ?_)
                        refine lv_goto (tgt := 162) hx hb dX1_buy_195 (by decide) ?_
                        exact ih_162 (i + 1) (by omega) (by omega) _ _ hP hD hS ls (lv_sub hl [0, 1, 2, 3, 4] rfl)
                  have hP : va_P D vwCl ((wM q cI cZ cJ 0 k V C A (mx T (dT C T WK w k) 0) (mx B (dB C T B WK w k) 0) P OR n PR ST li w WK so sp CT F5) ++ [(qt, .inl (cI, 8, .inl (rI T))), (qb, .inl (cI, 8, .inl (rI B)))]) H := by rw [← mx_0 T (dT C T WK w k), ← mx_0 B (dB C T B WK w k)]; exact hP
                  have hD : va_D A9 ((wM q cI cZ cJ 0 k V C A (mx T (dT C T WK w k) 0) (mx B (dB C T B WK w k) 0) P OR n PR ST li w WK so sp CT F5) ++ [(qt, .inl (cI, 8, .inl (rI T))), (qb, .inl (cI, 8, .inl (rI B)))]) := by rw [← mx_0 T (dT C T WK w k), ← mx_0 B (dB C T B WK w k)]; exact hD
                  exact lp_162 _ 0 (Nat.lt_succ_self _) (by omega) _ _ hP hD hS ls (lv_sub hl [0, 1, 2, 3, 4] rfl)
              · replace h5 := h5.symm
                replace h6 := h6.symm
                replace h7 := h7.symm
                subst h5
                subst h6
                subst h7
                refine n_if_ne (tgt := 200) hx hb (by decide) dX1_buy_156 (by decide) (fun c156 => ?_) (fun c156 => ?_)
                · refine lv_aload_n hx hb dX1_buy_200 rfl (lv_at hl 3 rfl) ?_
                  refine lv_iconst (v := nI 0) hx hb dX1_buy_201 (ic_0) ?_
                  refine pfM (ws' := ((wM q cI cZ cJ 0 k V C A (pT (dT C T WK w k) V k z k) (dB C T B WK w k) (pP P V k z k) OR n PR ST li 0 WK so sp CT F5) ++ [(qt, .inl (cI, 8, .inl (rI T))), (qb, .inl (cI, 8, .inl (rI B)))])) hx hb hts hin hown hK hP hD hS 13 (by decide) (List.mem_of_getElem? (i := 12) rfl) rfl ⟨rfl, rfl⟩ rfl rfl dX1_buy_202 (fun H locs hP hD hS => ?_)
                  refine lv_aload_n hx hb dX1_buy_205 rfl (lv_at hl 3 rfl) ?_
                  refine gfM hx hb hts hin hown hK hP 11 (by decide) (List.mem_of_getElem? (i := 2) rfl) rfl rfl dX1_buy_206 ?_
                  refine lv_iload_n hx hb dX1_buy_209 rfl (lv_at hl 4 rfl) ?_
                  refine lv_dup2_11 hx hb dX1_buy_210 rfl rfl ?_
                  refine n_iald hx hb hK hP 9 0 rfl rfl (by omega) (by decide) dX1_buy_211 ?_
                  refine lv_iconst (v := nI 1) hx hb dX1_buy_212 (ic_1) ?_
                  refine n_isub hx hb (by have := hPR j0 j0b; omega) dX1_buy_213 ?_
                  refine n_iast (ws' := ((wM q cI cZ cJ 0 k V C A (pT (dT C T WK w k) V k z k) (dB C T B WK w k) (pP P V k z k) OR n PR (un ST j0 ((ST j0) - 1)) li 0 WK so sp CT F5) ++ [(qt, .inl (cI, 8, .inl (rI T))), (qb, .inl (cI, 8, .inl (rI B)))])) hx hb hK hP hD hS 9 0 rfl rfl (by omega) (by decide) rfl dX1_buy_214 (fun H locs hP hD hS => ?_)
                  refine lv_aload_n hx hb dX1_buy_215 rfl (lv_at hl 3 rfl) ?_
                  refine lv_iload_n hx hb dX1_buy_216 rfl (lv_at hl 4 rfl) ?_
                  refine pfM (ws' := ((wM q cI cZ cJ 0 k V C A (pT (dT C T WK w k) V k z k) (dB C T B WK w k) (pP P V k z k) OR n PR (un ST j0 ((ST j0) - 1)) li 0 WK j0 sp CT F5) ++ [(qt, .inl (cI, 8, .inl (rI T))), (qb, .inl (cI, 8, .inl (rI B)))])) hx hb hts hin hown hK hP hD hS 15 (by decide) (List.mem_of_getElem? (i := 15) rfl) rfl ⟨rfl, rfl⟩ rfl rfl dX1_buy_217 (fun H locs hP hD hS => ?_)
                  refine lv_aload_n hx hb dX1_buy_220 rfl (lv_at hl 3 rfl) ?_
                  refine lv_aload_n hx hb dX1_buy_221 rfl (lv_at hl 3 rfl) ?_
                  refine gfM hx hb hts hin hown hK hP 10 (by decide) (List.mem_of_getElem? (i := 3) rfl) rfl rfl dX1_buy_222 ?_
                  refine lv_iload_n hx hb dX1_buy_225 rfl (lv_at hl 4 rfl) ?_
                  refine n_iald hx hb hK hP 8 0 rfl rfl (by omega) (by decide) dX1_buy_226 ?_
                  refine pfM (ws' := ((wM q cI cZ cJ 0 k V C A (pT (dT C T WK w k) V k z k) (dB C T B WK w k) (pP P V k z k) OR n PR (un ST j0 ((ST j0) - 1)) li 0 WK j0 (PR j0) CT F5) ++ [(qt, .inl (cI, 8, .inl (rI T))), (qb, .inl (cI, 8, .inl (rI B)))])) hx hb hts hin hown hK hP hD hS 16 (by decide) (List.mem_of_getElem? (i := 16) rfl) rfl ⟨rfl, rfl⟩ rfl rfl dX1_buy_227 (fun H locs hP hD hS => ?_)
                  refine lv_aload_n hx hb dX1_buy_230 rfl (lv_at hl 3 rfl) ?_
                  refine gfM hx hb hts hin hown hK hP 17 (by decide) (List.mem_of_getElem? (i := 17) rfl) rfl rfl dX1_buy_231 ?_
                  refine lv_iconst (v := nI 2) hx hb dX1_buy_234 (ic_2) ?_
                  refine lv_dup2_11 hx hb dX1_buy_235 rfl rfl ?_
                  refine n_lald hx hb hK hP 11 2 rfl rfl (by omega) (by decide) dX1_buy_236 ?_
                  refine lv_iload_n hx hb dX1_buy_237 rfl (lv_at hl 5 rfl) ?_
                  refine n_i2l hx hb (by omega) dX1_buy_238 ?_
                  refine lv_ladd hx hb dX1_buy_239 ?_
                  refine n_last (ws' := ((wM q cI cZ cJ 0 k V C A (pT (dT C T WK w k) V k z k) (dB C T B WK w k) (pP P V k z k) OR n PR (un ST j0 ((ST j0) - 1)) li 0 WK j0 (PR j0) (vp_updL CT 2 ((CT 2) + (lZ ((cr V WK w - PR j0 : Nat) : Int)))) F5) ++ [(qt, .inl (cI, 8, .inl (rI T))), (qb, .inl (cI, 8, .inl (rI B)))])) hx hb hK hP hD hS 11 2 rfl rfl (by omega) (by decide) rfl dX1_buy_240 (fun H locs hP hD hS => ?_)
                  refine lv_aload_n hx hb dX1_buy_241 rfl (lv_at hl 3 rfl) ?_
                  refine gfM hx hb hts hin hown hK hP 17 (by decide) (List.mem_of_getElem? (i := 17) rfl) rfl rfl dX1_buy_242 ?_
                  refine lv_bipush (v := nI 7) hx hb dX1_buy_245 (by decide) ?_
                  refine lv_dup2_11 hx hb dX1_buy_247 rfl rfl ?_
                  refine n_lald hx hb hK hP 11 2 rfl rfl (by omega) (by decide) dX1_buy_248 ?_
                  refine lv_aload_n hx hb dX1_buy_249 rfl (lv_at hl 3 rfl) ?_
                  refine gfM hx hb hts hin hown hK hP 16 (by decide) (List.mem_of_getElem? (i := 16) rfl) rfl rfl dX1_buy_250 ?_
                  refine n_i2l hx hb (by have := hPR j0 j0b; omega) dX1_buy_253 ?_
                  refine lv_ladd hx hb dX1_buy_254 ?_
                  refine n_last (ws' := ((wM q cI cZ cJ 0 k V C A (pT (dT C T WK w k) V k z k) (dB C T B WK w k) (pP P V k z k) OR n PR (un ST j0 ((ST j0) - 1)) li 0 WK j0 (PR j0) (vp_updL (vp_updL CT 2 ((CT 2) + (lZ ((cr V WK w - PR j0 : Nat) : Int)))) 7 (((vp_updL CT 2 ((CT 2) + (lZ ((cr V WK w - PR j0 : Nat) : Int)))) 7) + (lZ ((PR j0 : Nat) : Int)))) F5) ++ [(qt, .inl (cI, 8, .inl (rI T))), (qb, .inl (cI, 8, .inl (rI B)))])) hx hb hK hP hD hS 11 2 rfl rfl (by omega) (by decide) rfl dX1_buy_255 (fun H locs hP hD hS => ?_)
                  refine lv_aload_n hx hb dX1_buy_256 rfl (lv_at hl 3 rfl) ?_
                  refine gfM hx hb hts hin hown hK hP 17 (by decide) (List.mem_of_getElem? (i := 17) rfl) rfl rfl dX1_buy_257 ?_
                  refine lv_bipush (v := nI 8) hx hb dX1_buy_260 (by decide) ?_
                  refine lv_dup2_11 hx hb dX1_buy_262 rfl rfl ?_
                  refine n_lald hx hb hK hP 11 2 rfl rfl (by omega) (by decide) dX1_buy_263 ?_
                  refine lv_lconst (v := lZ 1) hx hb dX1_buy_264 (by decide) ?_
                  refine lv_ladd hx hb dX1_buy_265 ?_
                  refine n_last (ws' := ((wM q cI cZ cJ 0 k V C A (pT (dT C T WK w k) V k z k) (dB C T B WK w k) (pP P V k z k) OR n PR (un ST j0 ((ST j0) - 1)) li 0 WK j0 (PR j0) (vp_updL (vp_updL (vp_updL CT 2 ((CT 2) + (lZ ((cr V WK w - PR j0 : Nat) : Int)))) 7 (((vp_updL CT 2 ((CT 2) + (lZ ((cr V WK w - PR j0 : Nat) : Int)))) 7) + (lZ ((PR j0 : Nat) : Int)))) 8 (((vp_updL (vp_updL CT 2 ((CT 2) + (lZ ((cr V WK w - PR j0 : Nat) : Int)))) 7 (((vp_updL CT 2 ((CT 2) + (lZ ((cr V WK w - PR j0 : Nat) : Int)))) 7) + (lZ ((PR j0 : Nat) : Int)))) 8) + (lZ 1))) F5) ++ [(qt, .inl (cI, 8, .inl (rI T))), (qb, .inl (cI, 8, .inl (rI B)))])) hx hb hK hP hD hS 11 2 rfl rfl (by omega) (by decide) rfl dX1_buy_266 (fun H locs hP hD hS => ?_)
                  refine lv_aload_n hx hb dX1_buy_267 rfl (lv_at hl 3 rfl) ?_
                  refine gfM hx hb hts hin hown hK hP 17 (by decide) (List.mem_of_getElem? (i := 17) rfl) rfl rfl dX1_buy_268 ?_
                  refine lv_bipush (v := nI 9) hx hb dX1_buy_271 (by decide) ?_
                  refine lv_dup2_11 hx hb dX1_buy_273 rfl rfl ?_
                  refine n_lald hx hb hK hP 11 2 rfl rfl (by omega) (by decide) dX1_buy_274 ?_
                  refine lv_iload_n hx hb dX1_buy_275 rfl (lv_at hl 5 rfl) ?_
                  refine n_if_ne (tgt := 283) hx hb (by omega) dX1_buy_276 (by decide) (fun c276 => ?_) (fun c276 => ?_)
                  · have hcs : vp_updL (vp_updL (vp_updL (vp_updL CT 2 ((CT 2) + (lZ ((cr V WK w - PR j0 : Nat) : Int)))) 7 (((vp_updL CT 2 ((CT 2) + (lZ ((cr V WK w - PR j0 : Nat) : Int)))) 7) + (lZ ((PR j0 : Nat) : Int)))) 8 (((vp_updL (vp_updL CT 2 ((CT 2) + (lZ ((cr V WK w - PR j0 : Nat) : Int)))) 7 (((vp_updL CT 2 ((CT 2) + (lZ ((cr V WK w - PR j0 : Nat) : Int)))) 7) + (lZ ((PR j0 : Nat) : Int)))) 8) + (lZ 1))) 9 ((vp_updL (vp_updL (vp_updL CT 2 ((CT 2) + (lZ ((cr V WK w - PR j0 : Nat) : Int)))) 7 (((vp_updL CT 2 ((CT 2) + (lZ ((cr V WK w - PR j0 : Nat) : Int)))) 7) + (lZ ((PR j0 : Nat) : Int)))) 8 (((vp_updL (vp_updL CT 2 ((CT 2) + (lZ ((cr V WK w - PR j0 : Nat) : Int)))) 7 (((vp_updL CT 2 ((CT 2) + (lZ ((cr V WK w - PR j0 : Nat) : Int)))) 7) + (lZ ((PR j0 : Nat) : Int)))) 8) + (lZ 1))) 9 + lZ 0) = cs CT (PR j0) (cr V WK w - PR j0) := (updL_0 _ _).trans (by unfold cs; exact (if_neg c276).symm)
                    refine lv_lconst (v := lZ 0) hx hb dX1_buy_283 (by decide) ?_
                    refine lv_ladd hx hb dX1_buy_284 ?_
                    refine n_last (ws' := ((wM q cI cZ cJ 0 k V C A (pT (dT C T WK w k) V k z k) (dB C T B WK w k) (pP P V k z k) OR n PR (un ST j0 ((ST j0) - 1)) li 0 WK j0 (PR j0) (vp_updL (vp_updL (vp_updL (vp_updL CT 2 ((CT 2) + (lZ ((cr V WK w - PR j0 : Nat) : Int)))) 7 (((vp_updL CT 2 ((CT 2) + (lZ ((cr V WK w - PR j0 : Nat) : Int)))) 7) + (lZ ((PR j0 : Nat) : Int)))) 8 (((vp_updL (vp_updL CT 2 ((CT 2) + (lZ ((cr V WK w - PR j0 : Nat) : Int)))) 7 (((vp_updL CT 2 ((CT 2) + (lZ ((cr V WK w - PR j0 : Nat) : Int)))) 7) + (lZ ((PR j0 : Nat) : Int)))) 8) + (lZ 1))) 9 (((vp_updL (vp_updL (vp_updL CT 2 ((CT 2) + (lZ ((cr V WK w - PR j0 : Nat) : Int)))) 7 (((vp_updL CT 2 ((CT 2) + (lZ ((cr V WK w - PR j0 : Nat) : Int)))) 7) + (lZ ((PR j0 : Nat) : Int)))) 8 (((vp_updL (vp_updL CT 2 ((CT 2) + (lZ ((cr V WK w - PR j0 : Nat) : Int)))) 7 (((vp_updL CT 2 ((CT 2) + (lZ ((cr V WK w - PR j0 : Nat) : Int)))) 7) + (lZ ((PR j0 : Nat) : Int)))) 8) + (lZ 1))) 9) + (lZ 0))) F5) ++ [(qt, .inl (cI, 8, .inl (rI T))), (qb, .inl (cI, 8, .inl (rI B)))])) hx hb hK hP hD hS 11 2 rfl rfl (by omega) (by decide) rfl dX1_buy_285 (fun H locs hP hD hS => ?_)
                    refine lv_iconst (v := nI 0) hx hb dX1_buy_286 (ic_0) ?_
                    subst hQ
                    exact e_i (0, 0, pT (dT C T WK w k) V k z k, dB C T B WK w k, pP P V k z k, 0, un ST j0 ((ST j0) - 1), j0, PR j0, vp_updL (vp_updL (vp_updL (vp_updL CT 2 ((CT 2) + (lZ ((cr V WK w - PR j0 : Nat) : Int)))) 7 (((vp_updL CT 2 ((CT 2) + (lZ ((cr V WK w - PR j0 : Nat) : Int)))) 7) + (lZ ((PR j0 : Nat) : Int)))) 8 (((vp_updL (vp_updL CT 2 ((CT 2) + (lZ ((cr V WK w - PR j0 : Nat) : Int)))) 7 (((vp_updL CT 2 ((CT 2) + (lZ ((cr V WK w - PR j0 : Nat) : Int)))) 7) + (lZ ((PR j0 : Nat) : Int)))) 8) + (lZ 1))) 9 (((vp_updL (vp_updL (vp_updL CT 2 ((CT 2) + (lZ ((cr V WK w - PR j0 : Nat) : Int)))) 7 (((vp_updL CT 2 ((CT 2) + (lZ ((cr V WK w - PR j0 : Nat) : Int)))) 7) + (lZ ((PR j0 : Nat) : Int)))) 8 (((vp_updL (vp_updL CT 2 ((CT 2) + (lZ ((cr V WK w - PR j0 : Nat) : Int)))) 7 (((vp_updL CT 2 ((CT 2) + (lZ ((cr V WK w - PR j0 : Nat) : Int)))) 7) + (lZ ((PR j0 : Nat) : Int)))) 8) + (lZ 1))) 9) + (lZ 0)), F5) hx hb hr hlocks hS (va_P_l (u := (wM q cI cZ cJ 0 k V C A (pT (dT C T WK w k) V k z k) (dB C T B WK w k) (pP P V k z k) OR n PR (un ST j0 ((ST j0) - 1)) li 0 WK j0 (PR j0) (vp_updL (vp_updL (vp_updL (vp_updL CT 2 ((CT 2) + (lZ ((cr V WK w - PR j0 : Nat) : Int)))) 7 (((vp_updL CT 2 ((CT 2) + (lZ ((cr V WK w - PR j0 : Nat) : Int)))) 7) + (lZ ((PR j0 : Nat) : Int)))) 8 (((vp_updL (vp_updL CT 2 ((CT 2) + (lZ ((cr V WK w - PR j0 : Nat) : Int)))) 7 (((vp_updL CT 2 ((CT 2) + (lZ ((cr V WK w - PR j0 : Nat) : Int)))) 7) + (lZ ((PR j0 : Nat) : Int)))) 8) + (lZ 1))) 9 (((vp_updL (vp_updL (vp_updL CT 2 ((CT 2) + (lZ ((cr V WK w - PR j0 : Nat) : Int)))) 7 (((vp_updL CT 2 ((CT 2) + (lZ ((cr V WK w - PR j0 : Nat) : Int)))) 7) + (lZ ((PR j0 : Nat) : Int)))) 8 (((vp_updL (vp_updL CT 2 ((CT 2) + (lZ ((cr V WK w - PR j0 : Nat) : Int)))) 7 (((vp_updL CT 2 ((CT 2) + (lZ ((cr V WK w - PR j0 : Nat) : Int)))) 7) + (lZ ((PR j0 : Nat) : Int)))) 8) + (lZ 1))) 9) + (lZ 0))) F5)) (v := [(qt, .inl (cI, 8, .inl (rI T))), (qb, .inl (cI, 8, .inl (rI B)))]) hP) (va_D_l (u := (wM q cI cZ cJ 0 k V C A (pT (dT C T WK w k) V k z k) (dB C T B WK w k) (pP P V k z k) OR n PR (un ST j0 ((ST j0) - 1)) li 0 WK j0 (PR j0) (vp_updL (vp_updL (vp_updL (vp_updL CT 2 ((CT 2) + (lZ ((cr V WK w - PR j0 : Nat) : Int)))) 7 (((vp_updL CT 2 ((CT 2) + (lZ ((cr V WK w - PR j0 : Nat) : Int)))) 7) + (lZ ((PR j0 : Nat) : Int)))) 8 (((vp_updL (vp_updL CT 2 ((CT 2) + (lZ ((cr V WK w - PR j0 : Nat) : Int)))) 7 (((vp_updL CT 2 ((CT 2) + (lZ ((cr V WK w - PR j0 : Nat) : Int)))) 7) + (lZ ((PR j0 : Nat) : Int)))) 8) + (lZ 1))) 9 (((vp_updL (vp_updL (vp_updL CT 2 ((CT 2) + (lZ ((cr V WK w - PR j0 : Nat) : Int)))) 7 (((vp_updL CT 2 ((CT 2) + (lZ ((cr V WK w - PR j0 : Nat) : Int)))) 7) + (lZ ((PR j0 : Nat) : Int)))) 8 (((vp_updL (vp_updL CT 2 ((CT 2) + (lZ ((cr V WK w - PR j0 : Nat) : Int)))) 7 (((vp_updL CT 2 ((CT 2) + (lZ ((cr V WK w - PR j0 : Nat) : Int)))) 7) + (lZ ((PR j0 : Nat) : Int)))) 8) + (lZ 1))) 9) + (lZ 0))) F5)) (v := [(qt, .inl (cI, 8, .inl (rI T))), (qb, .inl (cI, 8, .inl (rI B)))]) hD) (⟨rfl, Or.inr ⟨rfl, j0, j0b, rfl, Or.inr ⟨c25, hge, rfl, z, hbw, rfl, rfl, rfl, rfl, rfl, rfl, rfl, hcs⟩⟩⟩) (Nat.le_of_ble_eq_true rfl) (Nat.le_of_ble_eq_true rfl) dX1_buy_287
                  · have hcs : vp_updL (vp_updL (vp_updL (vp_updL CT 2 ((CT 2) + (lZ ((cr V WK w - PR j0 : Nat) : Int)))) 7 (((vp_updL CT 2 ((CT 2) + (lZ ((cr V WK w - PR j0 : Nat) : Int)))) 7) + (lZ ((PR j0 : Nat) : Int)))) 8 (((vp_updL (vp_updL CT 2 ((CT 2) + (lZ ((cr V WK w - PR j0 : Nat) : Int)))) 7 (((vp_updL CT 2 ((CT 2) + (lZ ((cr V WK w - PR j0 : Nat) : Int)))) 7) + (lZ ((PR j0 : Nat) : Int)))) 8) + (lZ 1))) 9 ((vp_updL (vp_updL (vp_updL CT 2 ((CT 2) + (lZ ((cr V WK w - PR j0 : Nat) : Int)))) 7 (((vp_updL CT 2 ((CT 2) + (lZ ((cr V WK w - PR j0 : Nat) : Int)))) 7) + (lZ ((PR j0 : Nat) : Int)))) 8 (((vp_updL (vp_updL CT 2 ((CT 2) + (lZ ((cr V WK w - PR j0 : Nat) : Int)))) 7 (((vp_updL CT 2 ((CT 2) + (lZ ((cr V WK w - PR j0 : Nat) : Int)))) 7) + (lZ ((PR j0 : Nat) : Int)))) 8) + (lZ 1))) 9 + lZ 1) = cs CT (PR j0) (cr V WK w - PR j0) := by unfold cs; exact (if_pos c276).symm
                    refine lv_lconst (v := lZ 1) hx hb dX1_buy_279 (by decide) ?_
                    refine lv_goto (tgt := 284) hx hb dX1_buy_280 (by decide) ?_
                    refine lv_ladd hx hb dX1_buy_284 ?_
                    refine n_last (ws' := ((wM q cI cZ cJ 0 k V C A (pT (dT C T WK w k) V k z k) (dB C T B WK w k) (pP P V k z k) OR n PR (un ST j0 ((ST j0) - 1)) li 0 WK j0 (PR j0) (vp_updL (vp_updL (vp_updL (vp_updL CT 2 ((CT 2) + (lZ ((cr V WK w - PR j0 : Nat) : Int)))) 7 (((vp_updL CT 2 ((CT 2) + (lZ ((cr V WK w - PR j0 : Nat) : Int)))) 7) + (lZ ((PR j0 : Nat) : Int)))) 8 (((vp_updL (vp_updL CT 2 ((CT 2) + (lZ ((cr V WK w - PR j0 : Nat) : Int)))) 7 (((vp_updL CT 2 ((CT 2) + (lZ ((cr V WK w - PR j0 : Nat) : Int)))) 7) + (lZ ((PR j0 : Nat) : Int)))) 8) + (lZ 1))) 9 (((vp_updL (vp_updL (vp_updL CT 2 ((CT 2) + (lZ ((cr V WK w - PR j0 : Nat) : Int)))) 7 (((vp_updL CT 2 ((CT 2) + (lZ ((cr V WK w - PR j0 : Nat) : Int)))) 7) + (lZ ((PR j0 : Nat) : Int)))) 8 (((vp_updL (vp_updL CT 2 ((CT 2) + (lZ ((cr V WK w - PR j0 : Nat) : Int)))) 7 (((vp_updL CT 2 ((CT 2) + (lZ ((cr V WK w - PR j0 : Nat) : Int)))) 7) + (lZ ((PR j0 : Nat) : Int)))) 8) + (lZ 1))) 9) + (lZ 1))) F5) ++ [(qt, .inl (cI, 8, .inl (rI T))), (qb, .inl (cI, 8, .inl (rI B)))])) hx hb hK hP hD hS 11 2 rfl rfl (by omega) (by decide) rfl dX1_buy_285 (fun H locs hP hD hS => ?_)
                    refine lv_iconst (v := nI 0) hx hb dX1_buy_286 (ic_0) ?_
                    subst hQ
                    exact e_i (0, 0, pT (dT C T WK w k) V k z k, dB C T B WK w k, pP P V k z k, 0, un ST j0 ((ST j0) - 1), j0, PR j0, vp_updL (vp_updL (vp_updL (vp_updL CT 2 ((CT 2) + (lZ ((cr V WK w - PR j0 : Nat) : Int)))) 7 (((vp_updL CT 2 ((CT 2) + (lZ ((cr V WK w - PR j0 : Nat) : Int)))) 7) + (lZ ((PR j0 : Nat) : Int)))) 8 (((vp_updL (vp_updL CT 2 ((CT 2) + (lZ ((cr V WK w - PR j0 : Nat) : Int)))) 7 (((vp_updL CT 2 ((CT 2) + (lZ ((cr V WK w - PR j0 : Nat) : Int)))) 7) + (lZ ((PR j0 : Nat) : Int)))) 8) + (lZ 1))) 9 (((vp_updL (vp_updL (vp_updL CT 2 ((CT 2) + (lZ ((cr V WK w - PR j0 : Nat) : Int)))) 7 (((vp_updL CT 2 ((CT 2) + (lZ ((cr V WK w - PR j0 : Nat) : Int)))) 7) + (lZ ((PR j0 : Nat) : Int)))) 8 (((vp_updL (vp_updL CT 2 ((CT 2) + (lZ ((cr V WK w - PR j0 : Nat) : Int)))) 7 (((vp_updL CT 2 ((CT 2) + (lZ ((cr V WK w - PR j0 : Nat) : Int)))) 7) + (lZ ((PR j0 : Nat) : Int)))) 8) + (lZ 1))) 9) + (lZ 1)), F5) hx hb hr hlocks hS (va_P_l (u := (wM q cI cZ cJ 0 k V C A (pT (dT C T WK w k) V k z k) (dB C T B WK w k) (pP P V k z k) OR n PR (un ST j0 ((ST j0) - 1)) li 0 WK j0 (PR j0) (vp_updL (vp_updL (vp_updL (vp_updL CT 2 ((CT 2) + (lZ ((cr V WK w - PR j0 : Nat) : Int)))) 7 (((vp_updL CT 2 ((CT 2) + (lZ ((cr V WK w - PR j0 : Nat) : Int)))) 7) + (lZ ((PR j0 : Nat) : Int)))) 8 (((vp_updL (vp_updL CT 2 ((CT 2) + (lZ ((cr V WK w - PR j0 : Nat) : Int)))) 7 (((vp_updL CT 2 ((CT 2) + (lZ ((cr V WK w - PR j0 : Nat) : Int)))) 7) + (lZ ((PR j0 : Nat) : Int)))) 8) + (lZ 1))) 9 (((vp_updL (vp_updL (vp_updL CT 2 ((CT 2) + (lZ ((cr V WK w - PR j0 : Nat) : Int)))) 7 (((vp_updL CT 2 ((CT 2) + (lZ ((cr V WK w - PR j0 : Nat) : Int)))) 7) + (lZ ((PR j0 : Nat) : Int)))) 8 (((vp_updL (vp_updL CT 2 ((CT 2) + (lZ ((cr V WK w - PR j0 : Nat) : Int)))) 7 (((vp_updL CT 2 ((CT 2) + (lZ ((cr V WK w - PR j0 : Nat) : Int)))) 7) + (lZ ((PR j0 : Nat) : Int)))) 8) + (lZ 1))) 9) + (lZ 1))) F5)) (v := [(qt, .inl (cI, 8, .inl (rI T))), (qb, .inl (cI, 8, .inl (rI B)))]) hP) (va_D_l (u := (wM q cI cZ cJ 0 k V C A (pT (dT C T WK w k) V k z k) (dB C T B WK w k) (pP P V k z k) OR n PR (un ST j0 ((ST j0) - 1)) li 0 WK j0 (PR j0) (vp_updL (vp_updL (vp_updL (vp_updL CT 2 ((CT 2) + (lZ ((cr V WK w - PR j0 : Nat) : Int)))) 7 (((vp_updL CT 2 ((CT 2) + (lZ ((cr V WK w - PR j0 : Nat) : Int)))) 7) + (lZ ((PR j0 : Nat) : Int)))) 8 (((vp_updL (vp_updL CT 2 ((CT 2) + (lZ ((cr V WK w - PR j0 : Nat) : Int)))) 7 (((vp_updL CT 2 ((CT 2) + (lZ ((cr V WK w - PR j0 : Nat) : Int)))) 7) + (lZ ((PR j0 : Nat) : Int)))) 8) + (lZ 1))) 9 (((vp_updL (vp_updL (vp_updL CT 2 ((CT 2) + (lZ ((cr V WK w - PR j0 : Nat) : Int)))) 7 (((vp_updL CT 2 ((CT 2) + (lZ ((cr V WK w - PR j0 : Nat) : Int)))) 7) + (lZ ((PR j0 : Nat) : Int)))) 8 (((vp_updL (vp_updL CT 2 ((CT 2) + (lZ ((cr V WK w - PR j0 : Nat) : Int)))) 7 (((vp_updL CT 2 ((CT 2) + (lZ ((cr V WK w - PR j0 : Nat) : Int)))) 7) + (lZ ((PR j0 : Nat) : Int)))) 8) + (lZ 1))) 9) + (lZ 1))) F5)) (v := [(qt, .inl (cI, 8, .inl (rI T))), (qb, .inl (cI, 8, .inl (rI B)))]) hD) (⟨rfl, Or.inr ⟨rfl, j0, j0b, rfl, Or.inr ⟨c25, hge, rfl, z, hbw, rfl, rfl, rfl, rfl, rfl, rfl, rfl, hcs⟩⟩⟩) (Nat.le_of_ble_eq_true rfl) (Nat.le_of_ble_eq_true rfl) dX1_buy_287
                · exact absurd c156 (by decide)
            · have hWj := hWK j (by omega)
              have hCj := hC (WK j) hWj
              have hDj := dT_le (WK := WK) (w := j) hC (WK j) hWj
              refine lv_aload_n hx hb dX1_buy_83 rfl (lv_at hl 3 rfl) ?_
              refine gfM hx hb hts hin hown hK hP 5 (by decide) (List.mem_of_getElem? (i := 4) rfl) rfl rfl dX1_buy_84 ?_
              refine lv_aload_n hx hb dX1_buy_87 rfl (lv_at hl 3 rfl) ?_
              refine gfM hx hb hts hin hown hK hP 14 (by decide) (List.mem_of_getElem? (i := 13) rfl) rfl rfl dX1_buy_88 ?_
              refine lv_iload hx hb dX1_buy_91 (lv_at hl 0 rfl) ?_
              refine n_iald hx hb hK hP 10 0 rfl rfl (by omega) (by decide) dX1_buy_93 ?_
              refine n_iald hx hb hK hP 4 0 rfl rfl (by omega) (by decide) dX1_buy_94 ?_
              refine lv_aload_n hx hb dX1_buy_95 rfl (lv_at hl 3 rfl) ?_
              refine gfM hx hb hts hin hown hK hP 3 (by decide) (List.mem_of_getElem? (i := 14) rfl) rfl rfl dX1_buy_96 ?_
              refine lv_aload_n hx hb dX1_buy_99 rfl (lv_at hl 3 rfl) ?_
              refine gfM hx hb hts hin hown hK hP 14 (by decide) (List.mem_of_getElem? (i := 13) rfl) rfl rfl dX1_buy_100 ?_
              refine lv_iload hx hb dX1_buy_103 (lv_at hl 0 rfl) ?_
              refine n_iald hx hb hK hP 10 0 rfl rfl (by omega) (by decide) dX1_buy_105 ?_
              refine n_iald hx hb hK hP 2 0 rfl rfl (by omega) (by decide) dX1_buy_106 ?_
              refine n_icmp_ge (tgt := 129) hx hb (by omega) (by omega) dX1_buy_107 (by decide) (fun c107 => ?_) (fun c107 => ?_)
              · refine lv_aload_n hx hb dX1_buy_129 rfl (lv_at hl 3 rfl) ?_
                refine gfM hx hb hts hin hown hK hP 6 (by decide) (List.mem_of_getElem? (i := 11) rfl) rfl rfl dX1_buy_130 ?_
                refine lv_aload_n hx hb dX1_buy_133 rfl (lv_at hl 3 rfl) ?_
                refine gfM hx hb hts hin hown hK hP 14 (by decide) (List.mem_of_getElem? (i := 13) rfl) rfl rfl dX1_buy_134 ?_
                refine lv_iload hx hb dX1_buy_137 (lv_at hl 0 rfl) ?_
                refine n_iald hx hb hK hP 10 0 rfl rfl (by omega) (by decide) dX1_buy_139 ?_
                refine lv_dup2_11 hx hb dX1_buy_140 rfl rfl ?_
                refine n_iald hx hb hK hP 5 0 rfl rfl (by omega) (by decide) dX1_buy_141 ?_
                refine lv_iconst (v := nI 1) hx hb dX1_buy_142 (ic_1) ?_
                refine n_iadd hx hb dX1_buy_143 ?_
                refine n_iast (ws' := ((wM q cI cZ cJ 0 k V C A (dT C T WK j k) (un (dB C T B WK j k) (WK j) (((dB C T B WK j k) (WK j)) + 1)) P OR n PR ST li w WK so sp CT FW) ++ [(qt, .inl (cI, 8, .inl (rI T))), (qb, .inl (cI, 8, .inl (rI B)))])) hx hb hK hP hD hS 5 0 rfl rfl (by omega) (by decide) rfl dX1_buy_144 (fun H locs hP hD hS => ?_)
                rw [show un (dB C T B WK j k) (WK j) (((dB C T B WK j k) (WK j)) + 1) = dB C T B WK (j + 1) k from dB_w2 hWj hCj.2 c107] at hP hD
                refine lv_iinc (v := nI (j + 1)) (lv' := [(5, .int (nI (j + 1))), (3, .ref qt), (4, .ref qb), (0, .ref (q 0)), (1, .int (nI j0)), (2, .int (nI (cr V WK w - PR j0)))]) hx hb dX1_buy_145 hl (k := 0) rfl (ni_inc _ 1) (by decide) rfl (fun ls hl => ?_)
                refine lv_goto (tgt := 74) hx hb dX1_buy_148 (by decide) ?_
                have hP : va_P D vwCl ((wM q cI cZ cJ 0 k V C A (dT C T WK (j + 1) k) (dB C T B WK (j + 1) k) P OR n PR ST li w WK so sp CT FW) ++ [(qt, .inl (cI, 8, .inl (rI T))), (qb, .inl (cI, 8, .inl (rI B)))]) H := by rw [← dT_w2 hWj hCj.2 c107]; exact hP
                have hD : va_D A9 ((wM q cI cZ cJ 0 k V C A (dT C T WK (j + 1) k) (dB C T B WK (j + 1) k) P OR n PR ST li w WK so sp CT FW) ++ [(qt, .inl (cI, 8, .inl (rI T))), (qb, .inl (cI, 8, .inl (rI B)))]) := by rw [← dT_w2 hWj hCj.2 c107]; exact hD
                exact ih_74 (j + 1) (by omega) (by omega) _ _ hP hD hS ls (lv_sub hl [0, 1, 2, 3, 4, 5] rfl)
              · refine lv_aload_n hx hb dX1_buy_110 rfl (lv_at hl 3 rfl) ?_
                refine gfM hx hb hts hin hown hK hP 5 (by decide) (List.mem_of_getElem? (i := 4) rfl) rfl rfl dX1_buy_111 ?_
                refine lv_aload_n hx hb dX1_buy_114 rfl (lv_at hl 3 rfl) ?_
                refine gfM hx hb hts hin hown hK hP 14 (by decide) (List.mem_of_getElem? (i := 13) rfl) rfl rfl dX1_buy_115 ?_
                refine lv_iload hx hb dX1_buy_118 (lv_at hl 0 rfl) ?_
                refine n_iald hx hb hK hP 10 0 rfl rfl (by omega) (by decide) dX1_buy_120 ?_
                refine lv_dup2_11 hx hb dX1_buy_121 rfl rfl ?_
                refine n_iald hx hb hK hP 4 0 rfl rfl (by omega) (by decide) dX1_buy_122 ?_
                refine lv_iconst (v := nI 1) hx hb dX1_buy_123 (ic_1) ?_
                refine n_iadd hx hb dX1_buy_124 ?_
                refine n_iast (ws' := ((wM q cI cZ cJ 0 k V C A (un (dT C T WK j k) (WK j) (((dT C T WK j k) (WK j)) + 1)) (dB C T B WK j k) P OR n PR ST li w WK so sp CT FW) ++ [(qt, .inl (cI, 8, .inl (rI T))), (qb, .inl (cI, 8, .inl (rI B)))])) hx hb hK hP hD hS 4 0 rfl rfl (by omega) (by decide) rfl dX1_buy_125 (fun H locs hP hD hS => ?_)
                rw [show un (dT C T WK j k) (WK j) (((dT C T WK j k) (WK j)) + 1) = dT C T WK (j + 1) k from dT_w1 hWj hCj.2 c107] at hP hD
                refine lv_goto (tgt := 145) hx hb dX1_buy_126 (by decide) ?_
                refine lv_iinc (v := nI (j + 1)) (lv' := [(5, .int (nI (j + 1))), (3, .ref qt), (4, .ref qb), (0, .ref (q 0)), (1, .int (nI j0)), (2, .int (nI (cr V WK w - PR j0)))]) hx hb dX1_buy_145 hl (k := 0) rfl (ni_inc _ 1) (by decide) rfl (fun ls hl => ?_)
                refine lv_goto (tgt := 74) hx hb dX1_buy_148 (by decide) ?_
                have hP : va_P D vwCl ((wM q cI cZ cJ 0 k V C A (dT C T WK (j + 1) k) (dB C T B WK (j + 1) k) P OR n PR ST li w WK so sp CT FW) ++ [(qt, .inl (cI, 8, .inl (rI T))), (qb, .inl (cI, 8, .inl (rI B)))]) H := by rw [← dB_w1 hWj hCj.2 c107]; exact hP
                have hD : va_D A9 ((wM q cI cZ cJ 0 k V C A (dT C T WK (j + 1) k) (dB C T B WK (j + 1) k) P OR n PR ST li w WK so sp CT FW) ++ [(qt, .inl (cI, 8, .inl (rI T))), (qb, .inl (cI, 8, .inl (rI B)))]) := by rw [← dB_w1 hWj hCj.2 c107]; exact hD
                exact ih_74 (j + 1) (by omega) (by omega) _ _ hP hD hS ls (lv_sub hl [0, 1, 2, 3, 4, 5] rfl)
        have hP : va_P D vwCl ((wM q cI cZ cJ 0 k V C A (dT C T WK 0 k) (dB C T B WK 0 k) P OR n PR ST li w WK so sp CT FW) ++ [(qt, .inl (cI, 8, .inl (rI T))), (qb, .inl (cI, 8, .inl (rI B)))]) H := by rw [← dT_00 C T WK k, ← dB_00 C T B WK k]; exact hP
        have hD : va_D A9 ((wM q cI cZ cJ 0 k V C A (dT C T WK 0 k) (dB C T B WK 0 k) P OR n PR ST li w WK so sp CT FW) ++ [(qt, .inl (cI, 8, .inl (rI T))), (qb, .inl (cI, 8, .inl (rI B)))]) := by rw [← dT_00 C T WK k, ← dB_00 C T B WK k]; exact hD
        exact lp_74 _ 0 (Nat.lt_succ_self _) (by omega) _ _ hP hD hS ls (lv_sub hl [0, 2, 1, 4, 5, 3] rfl)
    · refine lv_iconst (v := nI 1) hx hb dX1_buy_28 (ic_1) ?_
      subst hQ
      exact e_i (1, 0, T, B, P, w, ST, so, sp, CT, FW) hx hb hr hlocks hS hP hD (⟨rfl, Or.inr ⟨rfl, j0, j0b, rfl, Or.inl ⟨⟨rfl, rfl, rfl, rfl, rfl, rfl, rfl, rfl⟩, Or.inl ⟨c25, rfl⟩⟩⟩⟩) (Nat.le_of_ble_eq_true rfl) (Nat.le_of_ble_eq_true rfl) dX1_buy_29
  · refine lv_aload_n hx hb dX1_buy_13 rfl (lv_at hl 0 rfl) ?_
    refine lv_iconst (v := nI 1) hx hb dX1_buy_14 (ic_1) ?_
    refine k_i (va_runV (As := [.int (nI 1)]) (rest := []) ⟨hx, hb, hml, hown, hts⟩ (c_X1_fail l hst D q cI cZ cJ 0 k V C A T B P OR n PR ST li w WK so sp CT FW H.size 1) (cwV 1 hts gX1_buy_X1_fail rfl rfl rfl hd_X1_fail ⟨(by rw [hR]; exact Nat.le_of_ble_eq_true rfl), (by rw [hR]; exact Nat.le_of_ble_eq_true rfl)⟩) (pre_V hP hK hD hS hA hZ hg 0 (ci := 1) rfl rfl) rfl rfl hl.1 rfl (lv_room (Nat.le_of_ble_eq_true rfl)) dX1_buy_15 ⟨(by rw [hR]; exact Nat.le_of_ble_eq_true rfl), (by rw [hR]; exact Nat.le_of_ble_eq_true rfl)⟩) hD hS hA (fun r_11 u_10 H locs hp_12 hP hD hS => ?_)
    subst hp_12
    subst hQ
    exact e_i (0, 1, T, B, P, w, ST, so, sp, CT, FW) hx hb hr hlocks hS hP hD (⟨rfl, Or.inl ⟨rfl, b1_no c10, rfl, rfl, rfl, rfl, rfl, rfl, rfl, rfl⟩⟩) (Nat.le_of_ble_eq_true rfl) (Nat.le_of_ble_eq_true rfl) dX1_buy_18
theorem hd_X1_buy : yX1_buy.cls = RX1 ∧ yX1_buy.cls ≠ "java/lang/invoke/MethodHandle" ∧ yX1_buy.cls ≠ "java/lang/invoke/VarHandle" ∧ (parseMethodDescriptor yX1_buy.desc).map (fun d => d.parameters.length) = some 1 := by decide +kernel
