set_option maxHeartbeats 4000000 in
set_option maxRecDepth 100000 in
theorem c_X1_fewest (l : Launch) (hst : l.stackTraces = false) (D : va_G) (q : Nat → Nat) (cI cZ cJ : ClassId) (th : Nat) (k : Nat) (V : Nat → Nat) (C : Nat → Nat) (A : Nat → Nat) (T : Nat → Nat) (B : Nat → Nat) (P : Nat → Nat) (OR : Nat → Nat) (n : Nat) (PR : Nat → Nat) (ST : Nat → Nat) (li : Nat) (w : Nat) (WK : Nat → Nat) (so : Nat) (sp : Nat) (CT : Nat → Int64) (FW : Nat → Nat) (sz : Nat) (p0 : Int32) (hk8 : k ≤ 8) (hV : ∀ i, i < k → 1 ≤ V i ∧ V i ≤ 500) (hC : ∀ i, i < k → C i ≤ 60 ∧ T i ≤ C i) (hOR : ordOK V OR k) : Met l yX1_fewest wsX1_fewest ({ frames := 1, cells := 0, slots := 0, locals := 29 }) (va_Pc [.ref (q 0), .int p0] (cxP D (ty3 cI cZ cJ) (wM q cI cZ cJ th k V C A T B P OR n PR ST li w WK so sp CT FW) sz)) (va_Qi (fun r (u : Nat × Nat × (Nat → Nat)) => r = nI u.1 ∧ ((u.2.1 = 0 ∧ ∃ i, i < 2001 ∧ p0 = nI i ∧ fwR T V k i u.1) ∨ (u.2.1 = 1 ∧ ¬ rg p0 0 2001))) (bW D (va_A (wM q cI cZ cJ th k V C A T B P OR n PR ST li w WK so sp CT FW) sz) (fun u => (wM q cI cZ cJ u.2.1 k V C A T B P OR n PR ST li w WK so sp CT u.2.2))) (va_A (wM q cI cZ cJ th k V C A T B P OR n PR ST li w WK so sp CT FW) sz)) 0 0 (va_A (wM q cI cZ cJ th k V C A T B P OR n PR ST li w WK so sp CT FW) sz) := by
  refine Met.ofW (cc := cX1_fewest) (maxL := 2) (ret := (some .int)) (by decide) rfl ?_
  intro p e s m args below meth c s₁ BB hml hv
  obtain ⟨hav, hsz, hP, hK, hD0, hZ, hg⟩ := hv
  subst hsz
  subst hav
  have hx := BB.exec
  have hb := BB.bytes
  have hr := BB.returns
  have hts := atoms_spec (ws := wsX1_fewest) BB.pre
  have hown : s.vm.findClass RX1 = some m.cls := findClass_of_methodNamed BB.named
  have hlocks := BB.notSynchronized
  have hin : ∀ w ∈ wsX10, w ∈ wsX1_fewest := fun w h => (List.mem_cons_of_mem _ (List.mem_append_right _ h))
  have hD := hD0.self (sz := s.heap.size)
  have hA : ∀ q9 : Nat, s.heap.size ≤ q9 → va_A (wM q cI cZ cJ th k V C A T B P OR n PR ST li w WK so sp CT FW) s.heap.size q9 := fun _ h => Or.inr h
  have hl := lv_entry ([.ref (q 0), .int p0]) (n := 2) (Nat.le_of_ble_eq_true rfl)
  rw [lg_entry_eq]
  generalize (lg_sl ([.ref (q 0), .int p0]) ++ List.replicate (2 - (lg_sl ([.ref (q 0), .int p0])).length) Slot.unset).toArray = ls at hl ⊢
  have hl : lv_has ls 2 [(0, .ref (q 0)), (1, .int p0)] := hl
  refine W_absR (fun R hR => ?_)
  have hR : R = ({ frames := 1, cells := 0, slots := 0, locals := 29 } : Room) := hR
  refine W_absQ (fun Q hQ => ?_)
  generalize ([.ref (q 0), .int p0] : List Value).toArray = args at hts hQ ⊢
  generalize va_A (wM q cI cZ cJ th k V C A T B P OR n PR ST li w WK so sp CT FW) s.heap.size = A9 at hD hZ hA hQ
  refine W_start hP (A := A9) (fun H locs hP hS => ?_)
  refine lv_aload_n hx hb dX1_fewest_0 rfl (lv_at hl 0 rfl) ?_
  refine lv_iconst (v := nI 0) hx hb dX1_fewest_1 (ic_0) ?_
  refine pfM (ws' := (wM q cI cZ cJ 0 k V C A T B P OR n PR ST li w WK so sp CT FW)) hx hb hts hin hown hK hP hD hS 0 (by decide) (List.mem_of_getElem? (i := 1) rfl) rfl ⟨rfl, rfl⟩ rfl rfl dX1_fewest_2 (fun H locs hP hD hS => ?_)
  refine lv_iload_n hx hb dX1_fewest_5 rfl (lv_at hl 1 rfl) ?_
  refine k_i (va_runS (As := [.int p0]) (rest := []) ⟨hx, hb, hml, hown, hts⟩ (c_X1_isAmount l hst D q cI cZ cJ 0 k V C A T B P OR n PR ST li w WK so sp CT FW H.size p0) (va_cwS 1 hts gX1_fewest_X1_isAmount rfl rfl rfl hd_X1_isAmount.2 ⟨(by rw [hR]; exact Nat.le_of_ble_eq_true rfl), (by rw [hR]; exact Nat.le_of_ble_eq_true rfl)⟩) (pre_S hP hK hD hS hA hZ hg) rfl rfl hl.1 rfl (lv_room (Nat.le_of_ble_eq_true rfl)) dX1_fewest_6 ⟨(by rw [hR]; exact Nat.le_of_ble_eq_true rfl), (by rw [hR]; exact Nat.le_of_ble_eq_true rfl)⟩) hD hS hA (fun r_2 u_1 H locs hp_3 hP hD hS => ?_)
  subst hp_3
  refine n_if_ne (tgt := 18) hx hb (by have := b1_le (rg p0 0 2001); omega) dX1_fewest_9 (by decide) (fun c9 => ?_) (fun c9 => ?_)
  · obtain ⟨j0, j0a, j0b, rfl⟩ := b1_of c9
    refine lv_aload_n hx hb dX1_fewest_18 rfl (lv_at hl 0 rfl) ?_
    refine lv_iload_n hx hb dX1_fewest_19 rfl (lv_at hl 1 rfl) ?_
    refine k_v (va_runV (As := [.int (nI j0)]) (rest := []) ⟨hx, hb, hml, hown, hts⟩ (c_X1_tabulate l hst D q cI cZ cJ 0 k V C A T B P OR n PR ST li w WK so sp CT FW H.size j0 hk8 hV hC hOR (by omega)) (cwV 1 hts gX1_fewest_X1_tabulate rfl rfl rfl hd_X1_tabulate ⟨(by rw [hR]; exact Nat.le_of_ble_eq_true rfl), (by rw [hR]; exact Nat.le_of_ble_eq_true rfl)⟩) (pre_V hP hK hD hS hA hZ hg 0 (ci := 1) rfl rfl) rfl rfl hl.1 rfl (lv_room (Nat.le_of_ble_eq_true rfl)) dX1_fewest_20 ⟨(by rw [hR]; exact Nat.le_of_ble_eq_true rfl), (by rw [hR]; exact Nat.le_of_ble_eq_true rfl)⟩) hD hS hA (fun u_4 H locs hp_6 hP hD hS => ?_)
    have htb := hp_6
    have hbest := tab_best hk8 (fun i hi => by have := hC i hi; omega) hOR (F := fl u_4) (am := j0) htb
    refine lv_aload_n hx hb dX1_fewest_23 rfl (lv_at hl 0 rfl) ?_
    refine lv_iload_n hx hb dX1_fewest_24 rfl (lv_at hl 1 rfl) ?_
    refine k_i (va_runV (As := [.int (nI j0)]) (rest := []) ⟨hx, hb, hml, hown, hts⟩ (c_X1_inAll l hst D q cI cZ cJ 0 k V C A T B P OR n PR ST li w WK so sp CT u_4 H.size j0 hk8 (by omega)) (cwV 1 hts gX1_fewest_X1_inAll rfl rfl rfl hd_X1_inAll ⟨(by rw [hR]; exact Nat.le_of_ble_eq_true rfl), (by rw [hR]; exact Nat.le_of_ble_eq_true rfl)⟩) (pre_V hP hK hD hS hA hZ hg 0 (ci := 1) rfl rfl) rfl rfl hl.1 rfl (lv_room (Nat.le_of_ble_eq_true rfl)) dX1_fewest_25 ⟨(by rw [hR]; exact Nat.le_of_ble_eq_true rfl), (by rw [hR]; exact Nat.le_of_ble_eq_true rfl)⟩) hD hS hA (fun r_8 u_7 H locs hp_9 hP hD hS => ?_)
    subst hp_9
    subst hQ
    exact e_i (u_4 (2001 * k + j0), 0, u_4) hx hb hr hlocks hS hP hD (⟨rfl, Or.inl ⟨rfl, j0, j0b, rfl, hbest.elim (fun h => Or.inl ⟨h.2, h.1⟩) (fun ⟨h1, h2, gv, z, hg1, hbw, hbc, hbd⟩ => Or.inr ⟨z, hbw, hbc.symm⟩)⟩⟩) (Nat.le_of_ble_eq_true rfl) (Nat.le_of_ble_eq_true rfl) dX1_fewest_28
  · refine lv_aload_n hx hb dX1_fewest_12 rfl (lv_at hl 0 rfl) ?_
    refine lv_iconst (v := nI 1) hx hb dX1_fewest_13 (ic_1) ?_
    refine k_i (va_runV (As := [.int (nI 1)]) (rest := []) ⟨hx, hb, hml, hown, hts⟩ (c_X1_fail l hst D q cI cZ cJ 0 k V C A T B P OR n PR ST li w WK so sp CT FW H.size 1) (cwV 1 hts gX1_fewest_X1_fail rfl rfl rfl hd_X1_fail ⟨(by rw [hR]; exact Nat.le_of_ble_eq_true rfl), (by rw [hR]; exact Nat.le_of_ble_eq_true rfl)⟩) (pre_V hP hK hD hS hA hZ hg 0 (ci := 1) rfl rfl) rfl rfl hl.1 rfl (lv_room (Nat.le_of_ble_eq_true rfl)) dX1_fewest_14 ⟨(by rw [hR]; exact Nat.le_of_ble_eq_true rfl), (by rw [hR]; exact Nat.le_of_ble_eq_true rfl)⟩) hD hS hA (fun r_11 u_10 H locs hp_12 hP hD hS => ?_)
    subst hp_12
    subst hQ
    exact e_i (0, 1, FW) hx hb hr hlocks hS hP hD (⟨rfl, Or.inr ⟨rfl, b1_no c9⟩⟩) (Nat.le_of_ble_eq_true rfl) (Nat.le_of_ble_eq_true rfl) dX1_fewest_17
theorem hd_X1_fewest : yX1_fewest.cls = RX1 ∧ yX1_fewest.cls ≠ "java/lang/invoke/MethodHandle" ∧ yX1_fewest.cls ≠ "java/lang/invoke/VarHandle" ∧ (parseMethodDescriptor yX1_fewest.desc).map (fun d => d.parameters.length) = some 1 := by decide +kernel

set_option maxHeartbeats 4000000 in
set_option maxRecDepth 100000 in
theorem c_X1_part (l : Launch) (hst : l.stackTraces = false) (D : va_G) (q : Nat → Nat) (cI cZ cJ : ClassId) (th : Nat) (k : Nat) (V : Nat → Nat) (C : Nat → Nat) (A : Nat → Nat) (T : Nat → Nat) (B : Nat → Nat) (P : Nat → Nat) (OR : Nat → Nat) (n : Nat) (PR : Nat → Nat) (ST : Nat → Nat) (li : Nat) (w : Nat) (WK : Nat → Nat) (so : Nat) (sp : Nat) (CT : Nat → Int64) (FW : Nat → Nat) (sz : Nat) (p0 : Int32) (p1 : Int32) (hk8 : k ≤ 8) (hV : ∀ i, i < k → 1 ≤ V i ∧ V i ≤ 500) (hC : ∀ i, i < k → C i ≤ 60 ∧ T i ≤ C i) (hOR : ordOK V OR k) : Met l yX1_part wsX1_part ({ frames := 2, cells := 0, slots := 0, locals := 50 }) (va_Pc [.ref (q 0), .int p0, .int p1] (cxP D (ty3 cI cZ cJ) (wM q cI cZ cJ th k V C A T B P OR n PR ST li w WK so sp CT FW) sz)) (va_Qi (fun r (u : Nat × Nat × (Nat → Nat)) => r = nI u.1 ∧ ((u.2.1 = 0 ∧ ∃ i j, i < 2001 ∧ j < k ∧ p0 = nI i ∧ p1 = nI j ∧ ptR T V k i j u.1) ∨ (u.2.1 = 1 ∧ ¬ rg p0 0 2001) ∨ (u.2.1 = 2 ∧ rg p0 0 2001 ∧ ¬ rg p1 0 k))) (bW D (va_A (wM q cI cZ cJ th k V C A T B P OR n PR ST li w WK so sp CT FW) sz) (fun u => (wM q cI cZ cJ u.2.1 k V C A T B P OR n PR ST li w WK so sp CT u.2.2))) (va_A (wM q cI cZ cJ th k V C A T B P OR n PR ST li w WK so sp CT FW) sz)) 0 0 (va_A (wM q cI cZ cJ th k V C A T B P OR n PR ST li w WK so sp CT FW) sz) := by
  refine Met.ofW (cc := cX1_part) (maxL := 3) (ret := (some .int)) (by decide) rfl ?_
  intro p e s m args below meth c s₁ BB hml hv
  obtain ⟨hav, hsz, hP, hK, hD0, hZ, hg⟩ := hv
  subst hsz
  subst hav
  have hx := BB.exec
  have hb := BB.bytes
  have hr := BB.returns
  have hts := atoms_spec (ws := wsX1_part) BB.pre
  have hown : s.vm.findClass RX1 = some m.cls := findClass_of_methodNamed BB.named
  have hlocks := BB.notSynchronized
  have hin : ∀ w ∈ wsX10, w ∈ wsX1_part := fun w h => (List.mem_cons_of_mem _ (List.mem_append_right _ h))
  have hD := hD0.self (sz := s.heap.size)
  have hA : ∀ q9 : Nat, s.heap.size ≤ q9 → va_A (wM q cI cZ cJ th k V C A T B P OR n PR ST li w WK so sp CT FW) s.heap.size q9 := fun _ h => Or.inr h
  have hl := lv_entry ([.ref (q 0), .int p0, .int p1]) (n := 3) (Nat.le_of_ble_eq_true rfl)
  rw [lg_entry_eq]
  generalize (lg_sl ([.ref (q 0), .int p0, .int p1]) ++ List.replicate (3 - (lg_sl ([.ref (q 0), .int p0, .int p1])).length) Slot.unset).toArray = ls at hl ⊢
  have hl : lv_has ls 3 [(0, .ref (q 0)), (1, .int p0), (2, .int p1)] := hl
  refine W_absR (fun R hR => ?_)
  have hR : R = ({ frames := 2, cells := 0, slots := 0, locals := 50 } : Room) := hR
  refine W_absQ (fun Q hQ => ?_)
  generalize ([.ref (q 0), .int p0, .int p1] : List Value).toArray = args at hts hQ ⊢
  generalize va_A (wM q cI cZ cJ th k V C A T B P OR n PR ST li w WK so sp CT FW) s.heap.size = A9 at hD hZ hA hQ
  refine W_start hP (A := A9) (fun H locs hP hS => ?_)
  refine lv_aload_n hx hb dX1_part_0 rfl (lv_at hl 0 rfl) ?_
  refine lv_iconst (v := nI 0) hx hb dX1_part_1 (ic_0) ?_
  refine pfM (ws' := (wM q cI cZ cJ 0 k V C A T B P OR n PR ST li w WK so sp CT FW)) hx hb hts hin hown hK hP hD hS 0 (by decide) (List.mem_of_getElem? (i := 1) rfl) rfl ⟨rfl, rfl⟩ rfl rfl dX1_part_2 (fun H locs hP hD hS => ?_)
  refine lv_iload_n hx hb dX1_part_5 rfl (lv_at hl 1 rfl) ?_
  refine k_i (va_runS (As := [.int p0]) (rest := []) ⟨hx, hb, hml, hown, hts⟩ (c_X1_isAmount l hst D q cI cZ cJ 0 k V C A T B P OR n PR ST li w WK so sp CT FW H.size p0) (va_cwS 1 hts gX1_part_X1_isAmount rfl rfl rfl hd_X1_isAmount.2 ⟨(by rw [hR]; exact Nat.le_of_ble_eq_true rfl), (by rw [hR]; exact Nat.le_of_ble_eq_true rfl)⟩) (pre_S hP hK hD hS hA hZ hg) rfl rfl hl.1 rfl (lv_room (Nat.le_of_ble_eq_true rfl)) dX1_part_6 ⟨(by rw [hR]; exact Nat.le_of_ble_eq_true rfl), (by rw [hR]; exact Nat.le_of_ble_eq_true rfl)⟩) hD hS hA (fun r_2 u_1 H locs hp_3 hP hD hS => ?_)
  subst hp_3
  refine n_if_ne (tgt := 18) hx hb (by have := b1_le (rg p0 0 2001); omega) dX1_part_9 (by decide) (fun c9 => ?_) (fun c9 => ?_)
  · obtain ⟨j0, j0a, j0b, rfl⟩ := b1_of c9
    refine lv_aload_n hx hb dX1_part_18 rfl (lv_at hl 0 rfl) ?_
    refine lv_iload_n hx hb dX1_part_19 rfl (lv_at hl 2 rfl) ?_
    refine k_i (va_runV (As := [.int p1]) (rest := []) ⟨hx, hb, hml, hown, hts⟩ (c_X1_isKind l hst D q cI cZ cJ 0 k V C A T B P OR n PR ST li w WK so sp CT FW H.size p1 hk8) (cwV 1 hts gX1_part_X1_isKind rfl rfl rfl hd_X1_isKind ⟨(by rw [hR]; exact Nat.le_of_ble_eq_true rfl), (by rw [hR]; exact Nat.le_of_ble_eq_true rfl)⟩) (pre_V hP hK hD hS hA hZ hg 0 (ci := 1) rfl rfl) rfl rfl hl.1 rfl (lv_room (Nat.le_of_ble_eq_true rfl)) dX1_part_20 ⟨(by rw [hR]; exact Nat.le_of_ble_eq_true rfl), (by rw [hR]; exact Nat.le_of_ble_eq_true rfl)⟩) hD hS hA (fun r_5 u_4 H locs hp_6 hP hD hS => ?_)
    subst hp_6
    refine n_if_ne (tgt := 32) hx hb (by have := b1_le (rg p1 0 k); omega) dX1_part_23 (by decide) (fun c23 => ?_) (fun c23 => ?_)
    · obtain ⟨j1, j1a, j1b, rfl⟩ := b1_of c23
      refine lv_aload_n hx hb dX1_part_32 rfl (lv_at hl 0 rfl) ?_
      refine lv_iload_n hx hb dX1_part_33 rfl (lv_at hl 1 rfl) ?_
      refine k_v (va_runV (As := [.int (nI j0)]) (rest := []) ⟨hx, hb, hml, hown, hts⟩ (c_X1_tabulate l hst D q cI cZ cJ 0 k V C A T B P OR n PR ST li w WK so sp CT FW H.size j0 hk8 hV hC hOR (by omega)) (cwV 1 hts gX1_part_X1_tabulate rfl rfl rfl hd_X1_tabulate ⟨(by rw [hR]; exact Nat.le_of_ble_eq_true rfl), (by rw [hR]; exact Nat.le_of_ble_eq_true rfl)⟩) (pre_V hP hK hD hS hA hZ hg 0 (ci := 1) rfl rfl) rfl rfl hl.1 rfl (lv_room (Nat.le_of_ble_eq_true rfl)) dX1_part_34 ⟨(by rw [hR]; exact Nat.le_of_ble_eq_true rfl), (by rw [hR]; exact Nat.le_of_ble_eq_true rfl)⟩) hD hS hA (fun u_7 H locs hp_9 hP hD hS => ?_)
      have htb := hp_9
      have hbest := tab_best hk8 (fun i hi => by have := hC i hi; omega) hOR (F := fl u_7) (am := j0) htb
      refine lv_aload_n hx hb dX1_part_37 rfl (lv_at hl 0 rfl) ?_
      refine lv_iload_n hx hb dX1_part_38 rfl (lv_at hl 1 rfl) ?_
      refine k_i (va_runV (As := [.int (nI j0)]) (rest := []) ⟨hx, hb, hml, hown, hts⟩ (c_X1_inAll l hst D q cI cZ cJ 0 k V C A T B P OR n PR ST li w WK so sp CT u_7 H.size j0 hk8 (by omega)) (cwV 1 hts gX1_part_X1_inAll rfl rfl rfl hd_X1_inAll ⟨(by rw [hR]; exact Nat.le_of_ble_eq_true rfl), (by rw [hR]; exact Nat.le_of_ble_eq_true rfl)⟩) (pre_V hP hK hD hS hA hZ hg 0 (ci := 1) rfl rfl) rfl rfl hl.1 rfl (lv_room (Nat.le_of_ble_eq_true rfl)) dX1_part_39 ⟨(by rw [hR]; exact Nat.le_of_ble_eq_true rfl), (by rw [hR]; exact Nat.le_of_ble_eq_true rfl)⟩) hD hS hA (fun r_11 u_10 H locs hp_12 hP hD hS => ?_)
      subst hp_12
      refine lv_iconst (v := nI 4294967295) hx hb dX1_part_42 (by decide) ?_
      rcases hbest with ⟨hb0, hbn⟩ | ⟨hb0, hb1, gv, z, hg1, hbw, hbc, hbd⟩
      · have hb0 : u_7 (2001 * k + j0) = 4294967295 := hb0
        refine n_icmp_ne (tgt := 50) hx hb (by omega) (by omega) dX1_part_43 (by decide) (fun c43 => ?_) (fun c43 => ?_)
        · exact absurd hb0 c43
        · refine lv_iconst (v := nI 4294967295) hx hb dX1_part_46 (by decide) ?_
          refine lv_goto (tgt := 56) hx hb dX1_part_47 (by decide) ?_
          subst hQ
          exact e_i (4294967295, 0, u_7) hx hb hr hlocks hS hP hD (⟨rfl, Or.inl ⟨rfl, j0, j1, j0b, j1b, rfl, rfl, Or.inl ⟨hbn, rfl⟩⟩⟩) (Nat.le_of_ble_eq_true rfl) (Nat.le_of_ble_eq_true rfl) dX1_part_56
      · have hb0 : u_7 (2001 * k + j0) ≠ 4294967295 := hb0
        have hb1 : u_7 (2001 * k + j0) ≤ 480 := hb1
        refine n_icmp_ne (tgt := 50) hx hb (by omega) (by omega) dX1_part_43 (by decide) (fun c43 => ?_) (fun c43 => ?_)
        · refine lv_aload_n hx hb dX1_part_50 rfl (lv_at hl 0 rfl) ?_
          refine lv_iload_n hx hb dX1_part_51 rfl (lv_at hl 1 rfl) ?_
          refine lv_iload_n hx hb dX1_part_52 rfl (lv_at hl 2 rfl) ?_
          refine k_i (va_runV (As := [.int (nI j0), .int (nI j1)]) (rest := []) ⟨hx, hb, hml, hown, hts⟩ (c_X1_partOf l hst D q cI cZ cJ 0 k V C A T B P OR n PR ST li w WK so sp CT u_7 H.size gv j0 j1 hk8 hV hC hOR (by omega) htb hg1 j1b) (cwV 2 hts gX1_part_X1_partOf rfl rfl rfl hd_X1_partOf ⟨(by rw [hR]; exact Nat.le_of_ble_eq_true rfl), (by rw [hR]; exact Nat.le_of_ble_eq_true rfl)⟩) (pre_V hP hK hD hS hA hZ hg 0 (ci := 1) rfl rfl) rfl rfl hl.1 rfl (lv_room (Nat.le_of_ble_eq_true rfl)) dX1_part_53 ⟨(by rw [hR]; exact Nat.le_of_ble_eq_true rfl), (by rw [hR]; exact Nat.le_of_ble_eq_true rfl)⟩) hD hS hA (fun r_14 u_13 H locs hp_15 hP hD hS => ?_)
          obtain ⟨rfl, hp_15⟩ := hp_15
          have hgj : u_13 = pz z (lc V (V j1) k) := by
            obtain ⟨j, h1, h2, h3⟩ := hp_15
            rw [h3, ← hbd j h1, h2]
          subst hQ
          exact e_i (u_13, 0, u_7) hx hb hr hlocks hS hP hD (⟨rfl, Or.inl ⟨rfl, j0, j1, j0b, j1b, rfl, rfl, Or.inr ⟨z, hbw, hgj⟩⟩⟩) (Nat.le_of_ble_eq_true rfl) (Nat.le_of_ble_eq_true rfl) dX1_part_56
        · exact absurd c43 hb0
    · refine lv_aload_n hx hb dX1_part_26 rfl (lv_at hl 0 rfl) ?_
      refine lv_iconst (v := nI 2) hx hb dX1_part_27 (ic_2) ?_
      refine k_i (va_runV (As := [.int (nI 2)]) (rest := []) ⟨hx, hb, hml, hown, hts⟩ (c_X1_fail l hst D q cI cZ cJ 0 k V C A T B P OR n PR ST li w WK so sp CT FW H.size 2) (cwV 1 hts gX1_part_X1_fail rfl rfl rfl hd_X1_fail ⟨(by rw [hR]; exact Nat.le_of_ble_eq_true rfl), (by rw [hR]; exact Nat.le_of_ble_eq_true rfl)⟩) (pre_V hP hK hD hS hA hZ hg 0 (ci := 1) rfl rfl) rfl rfl hl.1 rfl (lv_room (Nat.le_of_ble_eq_true rfl)) dX1_part_28 ⟨(by rw [hR]; exact Nat.le_of_ble_eq_true rfl), (by rw [hR]; exact Nat.le_of_ble_eq_true rfl)⟩) hD hS hA (fun r_17 u_16 H locs hp_18 hP hD hS => ?_)
      subst hp_18
      subst hQ
      exact e_i (0, 2, FW) hx hb hr hlocks hS hP hD (⟨rfl, Or.inr (Or.inr ⟨rfl, ⟨j0, j0a, j0b, rfl⟩, b1_no c23⟩)⟩) (Nat.le_of_ble_eq_true rfl) (Nat.le_of_ble_eq_true rfl) dX1_part_31
  · refine lv_aload_n hx hb dX1_part_12 rfl (lv_at hl 0 rfl) ?_
    refine lv_iconst (v := nI 1) hx hb dX1_part_13 (ic_1) ?_
    refine k_i (va_runV (As := [.int (nI 1)]) (rest := []) ⟨hx, hb, hml, hown, hts⟩ (c_X1_fail l hst D q cI cZ cJ 0 k V C A T B P OR n PR ST li w WK so sp CT FW H.size 1) (cwV 1 hts gX1_part_X1_fail rfl rfl rfl hd_X1_fail ⟨(by rw [hR]; exact Nat.le_of_ble_eq_true rfl), (by rw [hR]; exact Nat.le_of_ble_eq_true rfl)⟩) (pre_V hP hK hD hS hA hZ hg 0 (ci := 1) rfl rfl) rfl rfl hl.1 rfl (lv_room (Nat.le_of_ble_eq_true rfl)) dX1_part_14 ⟨(by rw [hR]; exact Nat.le_of_ble_eq_true rfl), (by rw [hR]; exact Nat.le_of_ble_eq_true rfl)⟩) hD hS hA (fun r_20 u_19 H locs hp_21 hP hD hS => ?_)
    subst hp_21
    subst hQ
    exact e_i (0, 1, FW) hx hb hr hlocks hS hP hD (⟨rfl, Or.inr (Or.inl ⟨rfl, b1_no c9⟩)⟩) (Nat.le_of_ble_eq_true rfl) (Nat.le_of_ble_eq_true rfl) dX1_part_17
theorem hd_X1_part : yX1_part.cls = RX1 ∧ yX1_part.cls ≠ "java/lang/invoke/MethodHandle" ∧ yX1_part.cls ≠ "java/lang/invoke/VarHandle" ∧ (parseMethodDescriptor yX1_part.desc).map (fun d => d.parameters.length) = some 2 := by decide +kernel

set_option maxHeartbeats 4000000 in
set_option maxRecDepth 100000 in
theorem c_X1_below (l : Launch) (hst : l.stackTraces = false) (D : va_G) (q : Nat → Nat) (cI cZ cJ : ClassId) (th : Nat) (k : Nat) (V : Nat → Nat) (C : Nat → Nat) (A : Nat → Nat) (T : Nat → Nat) (B : Nat → Nat) (P : Nat → Nat) (OR : Nat → Nat) (n : Nat) (PR : Nat → Nat) (ST : Nat → Nat) (li : Nat) (w : Nat) (WK : Nat → Nat) (so : Nat) (sp : Nat) (CT : Nat → Int64) (FW : Nat → Nat) (sz : Nat) (p0 : Int32) (hk8 : k ≤ 8) (hV : ∀ i, i < k → 1 ≤ V i ∧ V i ≤ 500) (hC : ∀ i, i < k → C i ≤ 60 ∧ T i ≤ C i) (hOR : ordOK V OR k) : Met l yX1_below wsX1_below ({ frames := 1, cells := 0, slots := 0, locals := 29 }) (va_Pc [.ref (q 0), .int p0] (cxP D (ty3 cI cZ cJ) (wM q cI cZ cJ th k V C A T B P OR n PR ST li w WK so sp CT FW) sz)) (va_Qi (fun r (u : Nat × Nat × (Nat → Nat)) => r = nI u.1 ∧ ((u.2.1 = 0 ∧ ∃ i, i < 2001 ∧ p0 = nI i ∧ blR T V k i u.1) ∨ (u.2.1 = 1 ∧ ¬ rg p0 0 2001))) (bW D (va_A (wM q cI cZ cJ th k V C A T B P OR n PR ST li w WK so sp CT FW) sz) (fun u => (wM q cI cZ cJ u.2.1 k V C A T B P OR n PR ST li w WK so sp CT u.2.2))) (va_A (wM q cI cZ cJ th k V C A T B P OR n PR ST li w WK so sp CT FW) sz)) 0 0 (va_A (wM q cI cZ cJ th k V C A T B P OR n PR ST li w WK so sp CT FW) sz) := by
  refine Met.ofW (cc := cX1_below) (maxL := 3) (ret := (some .int)) (by decide) rfl ?_
  intro p e s m args below meth c s₁ BB hml hv
  obtain ⟨hav, hsz, hP, hK, hD0, hZ, hg⟩ := hv
  subst hsz
  subst hav
  have hx := BB.exec
  have hb := BB.bytes
  have hr := BB.returns
  have hts := atoms_spec (ws := wsX1_below) BB.pre
  have hown : s.vm.findClass RX1 = some m.cls := findClass_of_methodNamed BB.named
  have hlocks := BB.notSynchronized
  have hin : ∀ w ∈ wsX10, w ∈ wsX1_below := fun w h => (List.mem_cons_of_mem _ (List.mem_append_right _ h))
  have hD := hD0.self (sz := s.heap.size)
  have hA : ∀ q9 : Nat, s.heap.size ≤ q9 → va_A (wM q cI cZ cJ th k V C A T B P OR n PR ST li w WK so sp CT FW) s.heap.size q9 := fun _ h => Or.inr h
  have hl := lv_entry ([.ref (q 0), .int p0]) (n := 3) (Nat.le_of_ble_eq_true rfl)
  rw [lg_entry_eq]
  generalize (lg_sl ([.ref (q 0), .int p0]) ++ List.replicate (3 - (lg_sl ([.ref (q 0), .int p0])).length) Slot.unset).toArray = ls at hl ⊢
  have hl : lv_has ls 3 [(0, .ref (q 0)), (1, .int p0)] := hl
  refine W_absR (fun R hR => ?_)
  have hR : R = ({ frames := 1, cells := 0, slots := 0, locals := 29 } : Room) := hR
  refine W_absQ (fun Q hQ => ?_)
  generalize ([.ref (q 0), .int p0] : List Value).toArray = args at hts hQ ⊢
  generalize va_A (wM q cI cZ cJ th k V C A T B P OR n PR ST li w WK so sp CT FW) s.heap.size = A9 at hD hZ hA hQ
  refine W_start hP (A := A9) (fun H locs hP hS => ?_)
  refine lv_aload_n hx hb dX1_below_0 rfl (lv_at hl 0 rfl) ?_
  refine lv_iconst (v := nI 0) hx hb dX1_below_1 (ic_0) ?_
  refine pfM (ws' := (wM q cI cZ cJ 0 k V C A T B P OR n PR ST li w WK so sp CT FW)) hx hb hts hin hown hK hP hD hS 0 (by decide) (List.mem_of_getElem? (i := 1) rfl) rfl ⟨rfl, rfl⟩ rfl rfl dX1_below_2 (fun H locs hP hD hS => ?_)
  refine lv_iload_n hx hb dX1_below_5 rfl (lv_at hl 1 rfl) ?_
  refine k_i (va_runS (As := [.int p0]) (rest := []) ⟨hx, hb, hml, hown, hts⟩ (c_X1_isAmount l hst D q cI cZ cJ 0 k V C A T B P OR n PR ST li w WK so sp CT FW H.size p0) (va_cwS 1 hts gX1_below_X1_isAmount rfl rfl rfl hd_X1_isAmount.2 ⟨(by rw [hR]; exact Nat.le_of_ble_eq_true rfl), (by rw [hR]; exact Nat.le_of_ble_eq_true rfl)⟩) (pre_S hP hK hD hS hA hZ hg) rfl rfl hl.1 rfl (lv_room (Nat.le_of_ble_eq_true rfl)) dX1_below_6 ⟨(by rw [hR]; exact Nat.le_of_ble_eq_true rfl), (by rw [hR]; exact Nat.le_of_ble_eq_true rfl)⟩) hD hS hA (fun r_2 u_1 H locs hp_3 hP hD hS => ?_)
  subst hp_3
  refine n_if_ne (tgt := 18) hx hb (by have := b1_le (rg p0 0 2001); omega) dX1_below_9 (by decide) (fun c9 => ?_) (fun c9 => ?_)
  · obtain ⟨j0, j0a, j0b, rfl⟩ := b1_of c9
    refine lv_aload_n hx hb dX1_below_18 rfl (lv_at hl 0 rfl) ?_
    refine lv_iload_n hx hb dX1_below_19 rfl (lv_at hl 1 rfl) ?_
    refine k_v (va_runV (As := [.int (nI j0)]) (rest := []) ⟨hx, hb, hml, hown, hts⟩ (c_X1_tabulate l hst D q cI cZ cJ 0 k V C A T B P OR n PR ST li w WK so sp CT FW H.size j0 hk8 hV hC hOR (by omega)) (cwV 1 hts gX1_below_X1_tabulate rfl rfl rfl hd_X1_tabulate ⟨(by rw [hR]; exact Nat.le_of_ble_eq_true rfl), (by rw [hR]; exact Nat.le_of_ble_eq_true rfl)⟩) (pre_V hP hK hD hS hA hZ hg 0 (ci := 1) rfl rfl) rfl rfl hl.1 rfl (lv_room (Nat.le_of_ble_eq_true rfl)) dX1_below_20 ⟨(by rw [hR]; exact Nat.le_of_ble_eq_true rfl), (by rw [hR]; exact Nat.le_of_ble_eq_true rfl)⟩) hD hS hA (fun u_4 H locs hp_6 hP hD hS => ?_)
    have htb := hp_6
    refine lv_iload_n hx hb dX1_below_23 rfl (lv_at hl 1 rfl) ?_
    refine lv_istore_n (lv' := [(2, .int (nI j0)), (0, .ref (q 0)), (1, .int (nI j0))]) hx hb dX1_below_24 rfl hl (by decide) rfl (fun ls hl => ?_)
    have lp_25 : ∀ (fu_25 : Nat) (fo : Nat), fo < fu_25 → (fo ≤ j0) → (∀ b, fo < b → b ≤ j0 → nway T V k b) → ∀ (H : Heap) (locs : List Loc), va_P D vwCl (wM q cI cZ cJ 0 k V C A T B P OR n PR ST li w WK so sp CT u_4) H → va_D A9 (wM q cI cZ cJ 0 k V C A T B P OR n PR ST li w WK so sp CT u_4) → va_S A9 s.heap H locs → ∀ ls : Array Slot, lv_has ls 3 [(2, .int (nI fo)), (0, .ref (q 0))] → W p l e R s m args below meth c H locs 0 0 Q (F0 m 25 ls []) := by
      intro fu_25
      induction fu_25 with
      | zero =>
        intro fo hfu_25
        exact absurd hfu_25 (Nat.not_lt_zero _)
      | succ fu_25 ih_25 =>
        intro fo hfu_25 hfo hs H locs hP hD hS ls hl
        refine lv_aload_n hx hb dX1_below_25 rfl (lv_at hl 1 rfl) ?_
        refine lv_iload_n hx hb dX1_below_26 rfl (lv_at hl 0 rfl) ?_
        refine k_i (va_runV (As := [.int (nI fo)]) (rest := []) ⟨hx, hb, hml, hown, hts⟩ (c_X1_inAll l hst D q cI cZ cJ 0 k V C A T B P OR n PR ST li w WK so sp CT u_4 H.size fo hk8 (by omega)) (cwV 1 hts gX1_below_X1_inAll rfl rfl rfl hd_X1_inAll ⟨(by rw [hR]; exact Nat.le_of_ble_eq_true rfl), (by rw [hR]; exact Nat.le_of_ble_eq_true rfl)⟩) (pre_V hP hK hD hS hA hZ hg 0 (ci := 1) rfl rfl) rfl rfl hl.1 rfl (lv_room (Nat.le_of_ble_eq_true rfl)) dX1_below_27 ⟨(by rw [hR]; exact Nat.le_of_ble_eq_true rfl), (by rw [hR]; exact Nat.le_of_ble_eq_true rfl)⟩) hD hS hA (fun r_8 u_7 H locs hp_9 hP hD hS => ?_)
        subst hp_9
        have hbest := tab_best hk8 (fun i hi => by have := hC i hi; omega) hOR (F := fl u_4) (am := fo) (fun n0 h0 b hb => htb n0 h0 b (by omega))
        refine lv_iconst (v := nI 4294967295) hx hb dX1_below_30 (by decide) ?_
        rcases hbest with ⟨hb0, hbn⟩ | ⟨hb0, hb1, gv, z, hg1, hbw, hbc, hbd⟩
        · have hb0 : u_4 (2001 * k + fo) = 4294967295 := hb0
          have hfp : 1 ≤ fo := by rcases Nat.eq_zero_or_pos fo with h | h; (rw [h] at hbn; exact absurd hbn nway_0); exact h
          refine n_icmp_ne (tgt := 40) hx hb (by omega) (by omega) dX1_below_31 (by decide) (fun c31 => ?_) (fun c31 => ?_)
          · exact absurd hb0 c31
          · refine lv_iinc (v := nI (fo - 1)) (lv' := [(2, .int (nI (fo - 1))), (0, .ref (q 0))]) hx hb dX1_below_34 hl (k := 0) rfl (ni_dec (by omega)) (by decide) rfl (fun ls hl => ?_)
            refine lv_goto (tgt := 25) hx hb dX1_below_37 (by decide) ?_
            exact ih_25 (fo - 1) (by omega) (by omega) (fun b h1 h2 => by rcases Nat.lt_or_ge fo b with h | h; exact hs b h h2; (rw [show b = fo by omega]; exact hbn)) _ _ hP hD hS ls (lv_sub hl [0, 1] rfl)
        · have hb0 : u_4 (2001 * k + fo) ≠ 4294967295 := hb0
          have hb1 : u_4 (2001 * k + fo) ≤ 480 := hb1
          have hyw : ¬ nway T V k fo := fun h => h z hbw.1
          refine n_icmp_ne (tgt := 40) hx hb (by omega) (by omega) dX1_below_31 (by decide) (fun c31 => ?_) (fun c31 => ?_)
          · refine lv_iload_n hx hb dX1_below_40 rfl (lv_at hl 0 rfl) ?_
            subst hQ
            exact e_i (fo, 0, u_4) hx hb hr hlocks hS hP hD (⟨rfl, Or.inl ⟨rfl, j0, j0b, rfl, hfo, hyw, hs⟩⟩) (Nat.le_of_ble_eq_true rfl) (Nat.le_of_ble_eq_true rfl) dX1_below_41
          · exact absurd c31 hb0
    exact lp_25 _ j0 (Nat.lt_succ_self _) (by omega) (fun b h1 h2 => absurd h1 (by omega)) _ _ hP hD hS ls (lv_sub hl [0, 1] rfl)
  · refine lv_aload_n hx hb dX1_below_12 rfl (lv_at hl 0 rfl) ?_
    refine lv_iconst (v := nI 1) hx hb dX1_below_13 (ic_1) ?_
    refine k_i (va_runV (As := [.int (nI 1)]) (rest := []) ⟨hx, hb, hml, hown, hts⟩ (c_X1_fail l hst D q cI cZ cJ 0 k V C A T B P OR n PR ST li w WK so sp CT FW H.size 1) (cwV 1 hts gX1_below_X1_fail rfl rfl rfl hd_X1_fail ⟨(by rw [hR]; exact Nat.le_of_ble_eq_true rfl), (by rw [hR]; exact Nat.le_of_ble_eq_true rfl)⟩) (pre_V hP hK hD hS hA hZ hg 0 (ci := 1) rfl rfl) rfl rfl hl.1 rfl (lv_room (Nat.le_of_ble_eq_true rfl)) dX1_below_14 ⟨(by rw [hR]; exact Nat.le_of_ble_eq_true rfl), (by rw [hR]; exact Nat.le_of_ble_eq_true rfl)⟩) hD hS hA (fun r_11 u_10 H locs hp_12 hP hD hS => ?_)
    subst hp_12
    subst hQ
    exact e_i (0, 1, FW) hx hb hr hlocks hS hP hD (⟨rfl, Or.inr ⟨rfl, b1_no c9⟩⟩) (Nat.le_of_ble_eq_true rfl) (Nat.le_of_ble_eq_true rfl) dX1_below_17
theorem hd_X1_below : yX1_below.cls = RX1 ∧ yX1_below.cls ≠ "java/lang/invoke/MethodHandle" ∧ yX1_below.cls ≠ "java/lang/invoke/VarHandle" ∧ (parseMethodDescriptor yX1_below.desc).map (fun d => d.parameters.length) = some 1 := by decide +kernel

set_option maxHeartbeats 4000000 in
set_option maxRecDepth 100000 in
theorem c_X1_unit (l : Launch) (hst : l.stackTraces = false) (D : va_G) (q : Nat → Nat) (cI cZ cJ : ClassId) (th : Nat) (k : Nat) (V : Nat → Nat) (C : Nat → Nat) (A : Nat → Nat) (T : Nat → Nat) (B : Nat → Nat) (P : Nat → Nat) (OR : Nat → Nat) (n : Nat) (PR : Nat → Nat) (ST : Nat → Nat) (li : Nat) (w : Nat) (WK : Nat → Nat) (so : Nat) (sp : Nat) (CT : Nat → Int64) (FW : Nat → Nat) (sz : Nat) (hk8 : k ≤ 8) (hV : ∀ i, i < k → 1 ≤ V i ∧ V i ≤ 500) : Met l yX1_unit wsX1_unit ({ frames := 1, cells := 0, slots := 0, locals := 24 }) (va_Pc [.ref (q 0)] (cxP D (ty3 cI cZ cJ) (wM q cI cZ cJ th k V C A T B P OR n PR ST li w WK so sp CT FW) sz)) (va_Qi (fun r (_ : Unit) => r = nI (gu V k)) (bW D (va_A (wM q cI cZ cJ th k V C A T B P OR n PR ST li w WK so sp CT FW) sz) (fun (_ : Unit) => (wM q cI cZ cJ 0 k V C A T B P OR n PR ST li w WK so sp CT FW))) (va_A (wM q cI cZ cJ th k V C A T B P OR n PR ST li w WK so sp CT FW) sz)) 0 0 (va_A (wM q cI cZ cJ th k V C A T B P OR n PR ST li w WK so sp CT FW) sz) := by
  refine Met.ofW (cc := cX1_unit) (maxL := 1) (ret := (some .int)) (by decide) rfl ?_
  intro p e s m args below meth c s₁ BB hml hv
  obtain ⟨hav, hsz, hP, hK, hD0, hZ, hg⟩ := hv
  subst hsz
  subst hav
  have hx := BB.exec
  have hb := BB.bytes
  have hr := BB.returns
  have hts := atoms_spec (ws := wsX1_unit) BB.pre
  have hown : s.vm.findClass RX1 = some m.cls := findClass_of_methodNamed BB.named
  have hlocks := BB.notSynchronized
  have hin : ∀ w ∈ wsX10, w ∈ wsX1_unit := fun w h => (List.mem_cons_of_mem _ (List.mem_append_right _ h))
  have hD := hD0.self (sz := s.heap.size)
  have hA : ∀ q9 : Nat, s.heap.size ≤ q9 → va_A (wM q cI cZ cJ th k V C A T B P OR n PR ST li w WK so sp CT FW) s.heap.size q9 := fun _ h => Or.inr h
  have hl := lv_entry ([.ref (q 0)]) (n := 1) (Nat.le_of_ble_eq_true rfl)
  rw [lg_entry_eq]
  generalize (lg_sl ([.ref (q 0)]) ++ List.replicate (1 - (lg_sl ([.ref (q 0)])).length) Slot.unset).toArray = ls at hl ⊢
  have hl : lv_has ls 1 [(0, .ref (q 0))] := hl
  refine W_absR (fun R hR => ?_)
  have hR : R = ({ frames := 1, cells := 0, slots := 0, locals := 24 } : Room) := hR
  refine W_absQ (fun Q hQ => ?_)
  generalize ([.ref (q 0)] : List Value).toArray = args at hts hQ ⊢
  generalize va_A (wM q cI cZ cJ th k V C A T B P OR n PR ST li w WK so sp CT FW) s.heap.size = A9 at hD hZ hA hQ
  refine W_start hP (A := A9) (fun H locs hP hS => ?_)
  refine lv_aload_n hx hb dX1_unit_0 rfl (lv_at hl 0 rfl) ?_
  refine lv_iconst (v := nI 0) hx hb dX1_unit_1 (ic_0) ?_
  refine pfM (ws' := (wM q cI cZ cJ 0 k V C A T B P OR n PR ST li w WK so sp CT FW)) hx hb hts hin hown hK hP hD hS 0 (by decide) (List.mem_of_getElem? (i := 1) rfl) rfl ⟨rfl, rfl⟩ rfl rfl dX1_unit_2 (fun H locs hP hD hS => ?_)
  refine lv_aload_n hx hb dX1_unit_5 rfl (lv_at hl 0 rfl) ?_
  refine k_i (va_runV (As := []) (rest := []) ⟨hx, hb, hml, hown, hts⟩ (c_X1_unitNow l hst D q cI cZ cJ 0 k V C A T B P OR n PR ST li w WK so sp CT FW H.size hk8 hV) (cwV 0 hts gX1_unit_X1_unitNow rfl rfl rfl hd_X1_unitNow ⟨(by rw [hR]; exact Nat.le_of_ble_eq_true rfl), (by rw [hR]; exact Nat.le_of_ble_eq_true rfl)⟩) (pre_V hP hK hD hS hA hZ hg 0 (ci := 1) rfl rfl) rfl rfl hl.1 rfl (lv_room (Nat.le_of_ble_eq_true rfl)) dX1_unit_6 ⟨(by rw [hR]; exact Nat.le_of_ble_eq_true rfl), (by rw [hR]; exact Nat.le_of_ble_eq_true rfl)⟩) hD hS hA (fun r_2 u_1 H locs hp_3 hP hD hS => ?_)
  subst hp_3
  subst hQ
  exact e_i () hx hb hr hlocks hS hP hD rfl (Nat.le_of_ble_eq_true rfl) (Nat.le_of_ble_eq_true rfl) dX1_unit_9
theorem hd_X1_unit : yX1_unit.cls = RX1 ∧ yX1_unit.cls ≠ "java/lang/invoke/MethodHandle" ∧ yX1_unit.cls ≠ "java/lang/invoke/VarHandle" ∧ (parseMethodDescriptor yX1_unit.desc).map (fun d => d.parameters.length) = some 0 := by decide +kernel

set_option maxHeartbeats 4000000 in
set_option maxRecDepth 100000 in
theorem c_X1_gaps (l : Launch) (hst : l.stackTraces = false) (D : va_G) (q : Nat → Nat) (cI cZ cJ : ClassId) (th : Nat) (k : Nat) (V : Nat → Nat) (C : Nat → Nat) (A : Nat → Nat) (T : Nat → Nat) (B : Nat → Nat) (P : Nat → Nat) (OR : Nat → Nat) (n : Nat) (PR : Nat → Nat) (ST : Nat → Nat) (li : Nat) (w : Nat) (WK : Nat → Nat) (so : Nat) (sp : Nat) (CT : Nat → Int64) (FW : Nat → Nat) (sz : Nat) (p0 : Int32) (hk8 : k ≤ 8) (hV : ∀ i, i < k → 1 ≤ V i ∧ V i ≤ 500) (hC : ∀ i, i < k → C i ≤ 60 ∧ T i ≤ C i) (hOR : ordOK V OR k) : Met l yX1_gaps wsX1_gaps ({ frames := 1, cells := 0, slots := 0, locals := 29 }) (va_Pc [.ref (q 0), .int p0] (cxP D (ty3 cI cZ cJ) (wM q cI cZ cJ th k V C A T B P OR n PR ST li w WK so sp CT FW) sz)) (va_Qi (fun r (u : Nat × Nat × (Nat → Nat)) => r = nI u.1 ∧ ((u.2.1 = 0 ∧ ∃ i, i < 2001 ∧ p0 = nI i ∧ u.1 = gpR T V k i) ∨ (u.2.1 = 1 ∧ ¬ rg p0 0 2001))) (bW D (va_A (wM q cI cZ cJ th k V C A T B P OR n PR ST li w WK so sp CT FW) sz) (fun u => (wM q cI cZ cJ u.2.1 k V C A T B P OR n PR ST li w WK so sp CT u.2.2))) (va_A (wM q cI cZ cJ th k V C A T B P OR n PR ST li w WK so sp CT FW) sz)) 0 0 (va_A (wM q cI cZ cJ th k V C A T B P OR n PR ST li w WK so sp CT FW) sz) := by
  refine Met.ofW (cc := cX1_gaps) (maxL := 5) (ret := (some .int)) (by decide) rfl ?_
  intro p e s m args below meth c s₁ BB hml hv
  obtain ⟨hav, hsz, hP, hK, hD0, hZ, hg⟩ := hv
  subst hsz
  subst hav
  have hx := BB.exec
  have hb := BB.bytes
  have hr := BB.returns
  have hts := atoms_spec (ws := wsX1_gaps) BB.pre
  have hown : s.vm.findClass RX1 = some m.cls := findClass_of_methodNamed BB.named
  have hlocks := BB.notSynchronized
  have hin : ∀ w ∈ wsX10, w ∈ wsX1_gaps := fun w h => (List.mem_cons_of_mem _ (List.mem_append_right _ h))
  have hD := hD0.self (sz := s.heap.size)
  have hA : ∀ q9 : Nat, s.heap.size ≤ q9 → va_A (wM q cI cZ cJ th k V C A T B P OR n PR ST li w WK so sp CT FW) s.heap.size q9 := fun _ h => Or.inr h
  have hl := lv_entry ([.ref (q 0), .int p0]) (n := 5) (Nat.le_of_ble_eq_true rfl)
  rw [lg_entry_eq]
  generalize (lg_sl ([.ref (q 0), .int p0]) ++ List.replicate (5 - (lg_sl ([.ref (q 0), .int p0])).length) Slot.unset).toArray = ls at hl ⊢
  have hl : lv_has ls 5 [(0, .ref (q 0)), (1, .int p0)] := hl
  refine W_absR (fun R hR => ?_)
  have hR : R = ({ frames := 1, cells := 0, slots := 0, locals := 29 } : Room) := hR
  refine W_absQ (fun Q hQ => ?_)
  generalize ([.ref (q 0), .int p0] : List Value).toArray = args at hts hQ ⊢
  generalize va_A (wM q cI cZ cJ th k V C A T B P OR n PR ST li w WK so sp CT FW) s.heap.size = A9 at hD hZ hA hQ
  refine W_start hP (A := A9) (fun H locs hP hS => ?_)
  refine lv_aload_n hx hb dX1_gaps_0 rfl (lv_at hl 0 rfl) ?_
  refine lv_iconst (v := nI 0) hx hb dX1_gaps_1 (ic_0) ?_
  refine pfM (ws' := (wM q cI cZ cJ 0 k V C A T B P OR n PR ST li w WK so sp CT FW)) hx hb hts hin hown hK hP hD hS 0 (by decide) (List.mem_of_getElem? (i := 1) rfl) rfl ⟨rfl, rfl⟩ rfl rfl dX1_gaps_2 (fun H locs hP hD hS => ?_)
  refine lv_iload_n hx hb dX1_gaps_5 rfl (lv_at hl 1 rfl) ?_
  refine k_i (va_runS (As := [.int p0]) (rest := []) ⟨hx, hb, hml, hown, hts⟩ (c_X1_isAmount l hst D q cI cZ cJ 0 k V C A T B P OR n PR ST li w WK so sp CT FW H.size p0) (va_cwS 1 hts gX1_gaps_X1_isAmount rfl rfl rfl hd_X1_isAmount.2 ⟨(by rw [hR]; exact Nat.le_of_ble_eq_true rfl), (by rw [hR]; exact Nat.le_of_ble_eq_true rfl)⟩) (pre_S hP hK hD hS hA hZ hg) rfl rfl hl.1 rfl (lv_room (Nat.le_of_ble_eq_true rfl)) dX1_gaps_6 ⟨(by rw [hR]; exact Nat.le_of_ble_eq_true rfl), (by rw [hR]; exact Nat.le_of_ble_eq_true rfl)⟩) hD hS hA (fun r_2 u_1 H locs hp_3 hP hD hS => ?_)
  subst hp_3
  refine n_if_ne (tgt := 18) hx hb (by have := b1_le (rg p0 0 2001); omega) dX1_gaps_9 (by decide) (fun c9 => ?_) (fun c9 => ?_)
  · obtain ⟨j0, j0a, j0b, rfl⟩ := b1_of c9
    refine lv_aload_n hx hb dX1_gaps_18 rfl (lv_at hl 0 rfl) ?_
    refine lv_iload_n hx hb dX1_gaps_19 rfl (lv_at hl 1 rfl) ?_
    refine k_v (va_runV (As := [.int (nI j0)]) (rest := []) ⟨hx, hb, hml, hown, hts⟩ (c_X1_tabulate l hst D q cI cZ cJ 0 k V C A T B P OR n PR ST li w WK so sp CT FW H.size j0 hk8 hV hC hOR (by omega)) (cwV 1 hts gX1_gaps_X1_tabulate rfl rfl rfl hd_X1_tabulate ⟨(by rw [hR]; exact Nat.le_of_ble_eq_true rfl), (by rw [hR]; exact Nat.le_of_ble_eq_true rfl)⟩) (pre_V hP hK hD hS hA hZ hg 0 (ci := 1) rfl rfl) rfl rfl hl.1 rfl (lv_room (Nat.le_of_ble_eq_true rfl)) dX1_gaps_20 ⟨(by rw [hR]; exact Nat.le_of_ble_eq_true rfl), (by rw [hR]; exact Nat.le_of_ble_eq_true rfl)⟩) hD hS hA (fun u_4 H locs hp_6 hP hD hS => ?_)
    have htb := hp_6
    refine lv_aload_n hx hb dX1_gaps_23 rfl (lv_at hl 0 rfl) ?_
    refine k_i (va_runV (As := []) (rest := []) ⟨hx, hb, hml, hown, hts⟩ (c_X1_unitNow l hst D q cI cZ cJ 0 k V C A T B P OR n PR ST li w WK so sp CT u_4 H.size hk8 hV) (cwV 0 hts gX1_gaps_X1_unitNow rfl rfl rfl hd_X1_unitNow ⟨(by rw [hR]; exact Nat.le_of_ble_eq_true rfl), (by rw [hR]; exact Nat.le_of_ble_eq_true rfl)⟩) (pre_V hP hK hD hS hA hZ hg 0 (ci := 1) rfl rfl) rfl rfl hl.1 rfl (lv_room (Nat.le_of_ble_eq_true rfl)) dX1_gaps_24 ⟨(by rw [hR]; exact Nat.le_of_ble_eq_true rfl), (by rw [hR]; exact Nat.le_of_ble_eq_true rfl)⟩) hD hS hA (fun r_8 u_7 H locs hp_9 hP hD hS => ?_)
    subst hp_9
    have hgl : gu V k ≤ 500 := by unfold gu; split; omega; exact fd_le V k 500
    refine lv_istore_n (lv' := [(2, .int (nI (gu V k))), (0, .ref (q 0)), (1, .int (nI j0))]) hx hb dX1_gaps_27 rfl hl (by decide) rfl (fun ls hl => ?_)
    refine lv_iconst (v := nI 0) hx hb dX1_gaps_28 (ic_0) ?_
    refine lv_istore_n (lv' := [(3, .int (nI 0)), (2, .int (nI (gu V k))), (0, .ref (q 0)), (1, .int (nI j0))]) hx hb dX1_gaps_29 rfl hl (by decide) rfl (fun ls hl => ?_)
    refine lv_iload_n hx hb dX1_gaps_30 rfl (lv_at hl 1 rfl) ?_
    refine lv_istore (lv' := [(4, .int (nI (gu V k))), (3, .int (nI 0)), (2, .int (nI (gu V k))), (0, .ref (q 0)), (1, .int (nI j0))]) hx hb dX1_gaps_31 hl (by decide) rfl (fun ls hl => ?_)
    have lp_33 : ∀ (fu_33 : Nat) (aa : Nat) (gp : Nat), 2501 - aa < fu_33 → (aa ≤ 2500) → (gu V k = 0 → gp = 0) → (1 ≤ gu V k → aa % gu V k = 0 ∧ gu V k ≤ aa ∧ gp = gpc (fun b => b % gu V k = 0 ∧ nway T V k b) (aa - gu V k) ∧ aa - gu V k ≤ j0) → ∀ (H : Heap) (locs : List Loc), va_P D vwCl (wM q cI cZ cJ 0 k V C A T B P OR n PR ST li w WK so sp CT u_4) H → va_D A9 (wM q cI cZ cJ 0 k V C A T B P OR n PR ST li w WK so sp CT u_4) → va_S A9 s.heap H locs → ∀ ls : Array Slot, lv_has ls 5 [(4, .int (nI aa)), (3, .int (nI gp)), (2, .int (nI (gu V k))), (0, .ref (q 0)), (1, .int (nI j0))] → W p l e R s m args below meth c H locs 0 0 Q (F0 m 33 ls []) := by
      intro fu_33
      induction fu_33 with
      | zero =>
        intro aa gp hfu_33
        exact absurd hfu_33 (Nat.not_lt_zero _)
      | succ fu_33 ih_33 =>
        intro aa gp hfu_33 haa hg0 hg1 H locs hP hD hS ls hl
        refine lv_iload hx hb dX1_gaps_33 (lv_at hl 0 rfl) ?_
        refine lv_iload_n hx hb dX1_gaps_35 rfl (lv_at hl 4 rfl) ?_
        refine n_icmp_gt (tgt := 70) hx hb (by omega) (by omega) dX1_gaps_36 (by decide) (fun c36 => ?_) (fun c36 => ?_)
        · have hres : gp = gpR T V k j0 := by
            unfold gpR
            by_cases h0 : gu V k < 1
            · rw [if_pos h0]; exact hg0 (by omega)
            · obtain ⟨h1, h2, h3, h3b⟩ := hg1 (by omega)
              rw [if_neg h0, h3]
              exact (gpc_gap (P := (fun b => b % gu V k = 0 ∧ nway T V k b)) (by omega) (fun b h4 h5 h6 => mod_gap (by omega) h1 h2 h4 (by omega) h6.1)).symm
          refine lv_iload_n hx hb dX1_gaps_70 rfl (lv_at hl 1 rfl) ?_
          subst hQ
          exact e_i (gp, 0, u_4) hx hb hr hlocks hS hP hD (⟨rfl, Or.inl ⟨rfl, j0, j0b, rfl, hres⟩⟩) (Nat.le_of_ble_eq_true rfl) (Nat.le_of_ble_eq_true rfl) dX1_gaps_71
        · refine lv_iload_n hx hb dX1_gaps_39 rfl (lv_at hl 2 rfl) ?_
          refine n_if_le (tgt := 70) hx hb (by omega) dX1_gaps_40 (by decide) (fun c40 => ?_) (fun c40 => ?_)
          · have hres : gp = gpR T V k j0 := by unfold gpR; rw [if_pos (by omega)]; exact hg0 (by omega)
            refine lv_iload_n hx hb dX1_gaps_70 rfl (lv_at hl 1 rfl) ?_
            subst hQ
            exact e_i (gp, 0, u_4) hx hb hr hlocks hS hP hD (⟨rfl, Or.inl ⟨rfl, j0, j0b, rfl, hres⟩⟩) (Nat.le_of_ble_eq_true rfl) (Nat.le_of_ble_eq_true rfl) dX1_gaps_71
          · obtain ⟨h1, h2, h3, h3b⟩ := hg1 (by omega)
            have hgap := gpc_gap (P := (fun b => b % gu V k = 0 ∧ nway T V k b)) (lo := aa - gu V k) (hi := aa - 1) (by omega) (fun b h4 h5 h6 => mod_gap (by omega) h1 h2 h4 (by omega) h6.1)
            refine lv_iload_n hx hb dX1_gaps_43 rfl (lv_at hl 1 rfl) ?_
            refine lv_aload_n hx hb dX1_gaps_44 rfl (lv_at hl 3 rfl) ?_
            refine lv_iload hx hb dX1_gaps_45 (lv_at hl 0 rfl) ?_
            refine k_i (va_runV (As := [.int (nI aa)]) (rest := [.int (nI gp)]) ⟨hx, hb, hml, hown, hts⟩ (c_X1_inAll l hst D q cI cZ cJ 0 k V C A T B P OR n PR ST li w WK so sp CT u_4 H.size aa hk8 (by omega)) (cwV 1 hts gX1_gaps_X1_inAll rfl rfl rfl hd_X1_inAll ⟨(by rw [hR]; exact Nat.le_of_ble_eq_true rfl), (by rw [hR]; exact Nat.le_of_ble_eq_true rfl)⟩) (pre_V hP hK hD hS hA hZ hg 0 (ci := 1) rfl rfl) rfl rfl hl.1 rfl (lv_room (Nat.le_of_ble_eq_true rfl)) dX1_gaps_47 ⟨(by rw [hR]; exact Nat.le_of_ble_eq_true rfl), (by rw [hR]; exact Nat.le_of_ble_eq_true rfl)⟩) hD hS hA (fun r_11 u_10 H locs hp_12 hP hD hS => ?_)
            subst hp_12
            have hbest := tab_best hk8 (fun i hi => by have := hC i hi; omega) hOR (F := fl u_4) (am := aa) (fun n0 h0 b hb => htb n0 h0 b (by omega))
            refine lv_iconst (v := nI 4294967295) hx hb dX1_gaps_50 (by decide) ?_
            rcases hbest with ⟨hb0, hbn⟩ | ⟨hb0, hb1, gv, z, hg1, hbw, hbc, hbd⟩
            · have hb0 : u_4 (2001 * k + aa) = 4294967295 := hb0
              have hcnt : gp + 1 = gpc (fun b => b % gu V k = 0 ∧ nway T V k b) aa := by rw [gpc_y' (by omega) ⟨h1, hbn⟩, hgap, h3]
              refine n_icmp_ne (tgt := 58) hx hb (by omega) (by omega) dX1_gaps_51 (by decide) (fun c51 => ?_) (fun c51 => ?_)
              · exact absurd hb0 c51
              · refine lv_iconst (v := nI 1) hx hb dX1_gaps_54 (ic_1) ?_
                refine lv_goto (tgt := 59) hx hb dX1_gaps_55 (by decide) ?_
                refine n_iadd hx hb dX1_gaps_59 ?_
                refine lv_istore_n (lv' := [(3, .int (nI (gp + 1))), (4, .int (nI aa)), (2, .int (nI (gu V k))), (0, .ref (q 0)), (1, .int (nI j0))]) hx hb dX1_gaps_60 rfl hl (by decide) rfl (fun ls hl => ?_)
                refine lv_iload hx hb dX1_gaps_61 (lv_at hl 1 rfl) ?_
                refine lv_iload_n hx hb dX1_gaps_63 rfl (lv_at hl 2 rfl) ?_
                refine n_iadd hx hb dX1_gaps_64 ?_
                refine lv_istore (lv' := [(4, .int (nI (aa + (gu V k)))), (3, .int (nI (gp + 1))), (2, .int (nI (gu V k))), (0, .ref (q 0)), (1, .int (nI j0))]) hx hb dX1_gaps_65 hl (by decide) rfl (fun ls hl => ?_)
                refine lv_goto (tgt := 33) hx hb dX1_gaps_67 (by decide) ?_
                exact ih_33 (aa + (gu V k)) (gp + 1) (by omega) (by omega) (fun h => absurd h (by omega)) (fun h => ⟨by rw [Nat.add_mod_right]; exact h1, by omega, by rw [Nat.add_sub_cancel]; exact hcnt, by omega⟩) _ _ hP hD hS ls (lv_sub hl [0, 1, 2, 3, 4] rfl)
            · have hb0 : u_4 (2001 * k + aa) ≠ 4294967295 := hb0
              have hb1 : u_4 (2001 * k + aa) ≤ 480 := hb1
              have hcnt : gp + 0 = gpc (fun b => b % gu V k = 0 ∧ nway T V k b) aa := by rw [gpc_n' (by omega) (fun h => h.2 z hbw.1), hgap, h3]; rfl
              refine n_icmp_ne (tgt := 58) hx hb (by omega) (by omega) dX1_gaps_51 (by decide) (fun c51 => ?_) (fun c51 => ?_)
              · refine lv_iconst (v := nI 0) hx hb dX1_gaps_58 (ic_0) ?_
                refine n_iadd hx hb dX1_gaps_59 ?_
                refine lv_istore_n (lv' := [(3, .int (nI (gp + 0))), (4, .int (nI aa)), (2, .int (nI (gu V k))), (0, .ref (q 0)), (1, .int (nI j0))]) hx hb dX1_gaps_60 rfl hl (by decide) rfl (fun ls hl => ?_)
                refine lv_iload hx hb dX1_gaps_61 (lv_at hl 1 rfl) ?_
                refine lv_iload_n hx hb dX1_gaps_63 rfl (lv_at hl 2 rfl) ?_
                refine n_iadd hx hb dX1_gaps_64 ?_
                refine lv_istore (lv' := [(4, .int (nI (aa + (gu V k)))), (3, .int (nI (gp + 0))), (2, .int (nI (gu V k))), (0, .ref (q 0)), (1, .int (nI j0))]) hx hb dX1_gaps_65 hl (by decide) rfl (fun ls hl => ?_)
                refine lv_goto (tgt := 33) hx hb dX1_gaps_67 (by decide) ?_
                exact ih_33 (aa + (gu V k)) (gp + 0) (by omega) (by omega) (fun h => absurd h (by omega)) (fun h => ⟨by rw [Nat.add_mod_right]; exact h1, by omega, by rw [Nat.add_sub_cancel]; exact hcnt, by omega⟩) _ _ hP hD hS ls (lv_sub hl [0, 1, 2, 3, 4] rfl)
              · exact absurd c51 hb0
    exact lp_33 _ (gu V k) 0 (Nat.lt_succ_self _) (by omega) (fun _ => rfl) (fun h => ⟨Nat.mod_self _, Nat.le_refl _, by rw [Nat.sub_self]; rfl, by omega⟩) _ _ hP hD hS ls (lv_sub hl [0, 1, 2, 3, 4] rfl)
  · refine lv_aload_n hx hb dX1_gaps_12 rfl (lv_at hl 0 rfl) ?_
    refine lv_iconst (v := nI 1) hx hb dX1_gaps_13 (ic_1) ?_
    refine k_i (va_runV (As := [.int (nI 1)]) (rest := []) ⟨hx, hb, hml, hown, hts⟩ (c_X1_fail l hst D q cI cZ cJ 0 k V C A T B P OR n PR ST li w WK so sp CT FW H.size 1) (cwV 1 hts gX1_gaps_X1_fail rfl rfl rfl hd_X1_fail ⟨(by rw [hR]; exact Nat.le_of_ble_eq_true rfl), (by rw [hR]; exact Nat.le_of_ble_eq_true rfl)⟩) (pre_V hP hK hD hS hA hZ hg 0 (ci := 1) rfl rfl) rfl rfl hl.1 rfl (lv_room (Nat.le_of_ble_eq_true rfl)) dX1_gaps_14 ⟨(by rw [hR]; exact Nat.le_of_ble_eq_true rfl), (by rw [hR]; exact Nat.le_of_ble_eq_true rfl)⟩) hD hS hA (fun r_14 u_13 H locs hp_15 hP hD hS => ?_)
    subst hp_15
    subst hQ
    exact e_i (0, 1, FW) hx hb hr hlocks hS hP hD (⟨rfl, Or.inr ⟨rfl, b1_no c9⟩⟩) (Nat.le_of_ble_eq_true rfl) (Nat.le_of_ble_eq_true rfl) dX1_gaps_17
theorem hd_X1_gaps : yX1_gaps.cls = RX1 ∧ yX1_gaps.cls ≠ "java/lang/invoke/MethodHandle" ∧ yX1_gaps.cls ≠ "java/lang/invoke/VarHandle" ∧ (parseMethodDescriptor yX1_gaps.desc).map (fun d => d.parameters.length) = some 1 := by decide +kernel

set_option maxHeartbeats 4000000 in
set_option maxRecDepth 100000 in
theorem c_X1_lamp (l : Launch) (hst : l.stackTraces = false) (D : va_G) (q : Nat → Nat) (cI cZ cJ : ClassId) (th : Nat) (k : Nat) (V : Nat → Nat) (C : Nat → Nat) (A : Nat → Nat) (T : Nat → Nat) (B : Nat → Nat) (P : Nat → Nat) (OR : Nat → Nat) (n : Nat) (PR : Nat → Nat) (ST : Nat → Nat) (li : Nat) (w : Nat) (WK : Nat → Nat) (so : Nat) (sp : Nat) (CT : Nat → Int64) (FW : Nat → Nat) (sz : Nat) (hk8 : k ≤ 8) (hV : ∀ i, i < k → 1 ≤ V i ∧ V i ≤ 500) (hC : ∀ i, i < k → C i ≤ 60 ∧ T i ≤ C i) (hOR : ordOK V OR k) (hA1 : ∀ i, i < k → A i ≤ 1) (hn10 : n ≤ 10) (hPR : ∀ j, j < n → 1 ≤ PR j ∧ PR j ≤ 2000 ∧ ST j ≤ 99) : Met l yX1_lamp wsX1_lamp ({ frames := 1, cells := 0, slots := 0, locals := 29 }) (va_Pc [.ref (q 0)] (cxP D (ty3 cI cZ cJ) (wM q cI cZ cJ th k V C A T B P OR n PR ST li w WK so sp CT FW) sz)) (va_Qi (fun r (u : Nat → Nat) => r = nI (b1 (∃ j, j < n ∧ ST j ≠ 0 ∧ ∃ i, i < k ∧ A i ≠ 0 ∧ nway T V k (ovp (PR j) (V i))))) (bW D (va_A (wM q cI cZ cJ th k V C A T B P OR n PR ST li w WK so sp CT FW) sz) (fun u => (wM q cI cZ cJ 0 k V C A T B P OR n PR ST li w WK so sp CT u))) (va_A (wM q cI cZ cJ th k V C A T B P OR n PR ST li w WK so sp CT FW) sz)) 0 0 (va_A (wM q cI cZ cJ th k V C A T B P OR n PR ST li w WK so sp CT FW) sz) := by
  refine Met.ofW (cc := cX1_lamp) (maxL := 5) (ret := (some .boolean)) (by decide) rfl ?_
  intro p e s m args below meth c s₁ BB hml hv
  obtain ⟨hav, hsz, hP, hK, hD0, hZ, hg⟩ := hv
  subst hsz
  subst hav
  have hx := BB.exec
  have hb := BB.bytes
  have hr := BB.returns
  have hts := atoms_spec (ws := wsX1_lamp) BB.pre
  have hown : s.vm.findClass RX1 = some m.cls := findClass_of_methodNamed BB.named
  have hlocks := BB.notSynchronized
  have hin : ∀ w ∈ wsX10, w ∈ wsX1_lamp := fun w h => (List.mem_cons_of_mem _ (List.mem_append_right _ h))
  have hD := hD0.self (sz := s.heap.size)
  have hA : ∀ q9 : Nat, s.heap.size ≤ q9 → va_A (wM q cI cZ cJ th k V C A T B P OR n PR ST li w WK so sp CT FW) s.heap.size q9 := fun _ h => Or.inr h
  have hl := lv_entry ([.ref (q 0)]) (n := 5) (Nat.le_of_ble_eq_true rfl)
  rw [lg_entry_eq]
  generalize (lg_sl ([.ref (q 0)]) ++ List.replicate (5 - (lg_sl ([.ref (q 0)])).length) Slot.unset).toArray = ls at hl ⊢
  have hl : lv_has ls 5 [(0, .ref (q 0))] := hl
  refine W_absR (fun R hR => ?_)
  have hR : R = ({ frames := 1, cells := 0, slots := 0, locals := 29 } : Room) := hR
  refine W_absQ (fun Q hQ => ?_)
  generalize ([.ref (q 0)] : List Value).toArray = args at hts hQ ⊢
  generalize va_A (wM q cI cZ cJ th k V C A T B P OR n PR ST li w WK so sp CT FW) s.heap.size = A9 at hD hZ hA hQ
  refine W_start hP (A := A9) (fun H locs hP hS => ?_)
  refine lv_aload_n hx hb dX1_lamp_0 rfl (lv_at hl 0 rfl) ?_
  refine lv_iconst (v := nI 0) hx hb dX1_lamp_1 (ic_0) ?_
  refine pfM (ws' := (wM q cI cZ cJ 0 k V C A T B P OR n PR ST li w WK so sp CT FW)) hx hb hts hin hown hK hP hD hS 0 (by decide) (List.mem_of_getElem? (i := 1) rfl) rfl ⟨rfl, rfl⟩ rfl rfl dX1_lamp_2 (fun H locs hP hD hS => ?_)
  refine lv_aload_n hx hb dX1_lamp_5 rfl (lv_at hl 0 rfl) ?_
  refine lv_sipush (v := nI 500) hx hb dX1_lamp_6 (by decide) ?_
  refine k_v (va_runV (As := [.int (nI 500)]) (rest := []) ⟨hx, hb, hml, hown, hts⟩ (c_X1_tabulate l hst D q cI cZ cJ 0 k V C A T B P OR n PR ST li w WK so sp CT FW H.size 500 hk8 hV hC hOR (by omega)) (cwV 1 hts gX1_lamp_X1_tabulate rfl rfl rfl hd_X1_tabulate ⟨(by rw [hR]; exact Nat.le_of_ble_eq_true rfl), (by rw [hR]; exact Nat.le_of_ble_eq_true rfl)⟩) (pre_V hP hK hD hS hA hZ hg 0 (ci := 1) rfl rfl) rfl rfl hl.1 rfl (lv_room (Nat.le_of_ble_eq_true rfl)) dX1_lamp_9 ⟨(by rw [hR]; exact Nat.le_of_ble_eq_true rfl), (by rw [hR]; exact Nat.le_of_ble_eq_true rfl)⟩) hD hS hA (fun u_1 H locs hp_3 hP hD hS => ?_)
  have htb := hp_3
  refine lv_iconst (v := nI 0) hx hb dX1_lamp_12 (ic_0) ?_
  refine lv_istore_n (lv' := [(1, .int (nI 0)), (0, .ref (q 0))]) hx hb dX1_lamp_13 rfl hl (by decide) rfl (fun ls hl => ?_)
  refine lv_iconst (v := nI 0) hx hb dX1_lamp_14 (ic_0) ?_
  refine lv_istore_n (lv' := [(2, .int (nI 0)), (1, .int (nI 0)), (0, .ref (q 0))]) hx hb dX1_lamp_15 rfl hl (by decide) rfl (fun ls hl => ?_)
  have lp_16 : ∀ (fu_16 : Nat) (pj : Nat) (iz : Nat), n - pj < fu_16 → (pj ≤ n) → (iz = b1 (∃ j, j < pj ∧ ST j ≠ 0 ∧ ∃ i, i < k ∧ A i ≠ 0 ∧ nway T V k (ovp (PR j) (V i)))) → ∀ (H : Heap) (locs : List Loc), va_P D vwCl (wM q cI cZ cJ 0 k V C A T B P OR n PR ST li w WK so sp CT u_1) H → va_D A9 (wM q cI cZ cJ 0 k V C A T B P OR n PR ST li w WK so sp CT u_1) → va_S A9 s.heap H locs → ∀ ls : Array Slot, lv_has ls 5 [(2, .int (nI pj)), (1, .int (nI iz)), (0, .ref (q 0))] → W p l e R s m args below meth c H locs 0 0 Q (F0 m 16 ls []) := by
    intro fu_16
    induction fu_16 with
    | zero =>
      intro pj iz hfu_16
      exact absurd hfu_16 (Nat.not_lt_zero _)
    | succ fu_16 ih_16 =>
      intro pj iz hfu_16 hpj hz H locs hP hD hS ls hl
      refine lv_iload_n hx hb dX1_lamp_16 rfl (lv_at hl 0 rfl) ?_
      refine lv_aload_n hx hb dX1_lamp_17 rfl (lv_at hl 2 rfl) ?_
      refine gfM hx hb hts hin hown hK hP 9 (by decide) (List.mem_of_getElem? (i := 2) rfl) rfl rfl dX1_lamp_18 ?_
      refine n_icmp_ge (tgt := 125) hx hb (by omega) (by omega) dX1_lamp_21 (by decide) (fun c21 => ?_) (fun c21 => ?_)
      · refine lv_iload_n hx hb dX1_lamp_125 rfl (lv_at hl 1 rfl) ?_
        subst hQ
        exact e_z u_1 hx hb hr hlocks hS (by rw [hz]; exact b1_le _) hP hD (by rw [hz, show pj = n by omega]) (Nat.le_of_ble_eq_true rfl) (Nat.le_of_ble_eq_true rfl) dX1_lamp_126
      · refine lv_iconst (v := nI 0) hx hb dX1_lamp_24 (ic_0) ?_
        refine lv_istore_n (lv' := [(3, .int (nI 0)), (2, .int (nI pj)), (1, .int (nI iz)), (0, .ref (q 0))]) hx hb dX1_lamp_25 rfl hl (by decide) rfl (fun ls hl => ?_)
        have lp_26 : ∀ (fu_26 : Nat) (ii : Nat) (iy : Nat), k - ii < fu_26 → (ii ≤ k) → (iy = b1 ((∃ j, j < pj ∧ ST j ≠ 0 ∧ ∃ i, i < k ∧ A i ≠ 0 ∧ nway T V k (ovp (PR j) (V i))) ∨ (ST pj ≠ 0 ∧ ∃ i, i < ii ∧ A i ≠ 0 ∧ nway T V k (ovp (PR pj) (V i))))) → ∀ (H : Heap) (locs : List Loc), va_P D vwCl (wM q cI cZ cJ 0 k V C A T B P OR n PR ST li w WK so sp CT u_1) H → va_D A9 (wM q cI cZ cJ 0 k V C A T B P OR n PR ST li w WK so sp CT u_1) → va_S A9 s.heap H locs → ∀ ls : Array Slot, lv_has ls 5 [(3, .int (nI ii)), (1, .int (nI iy)), (2, .int (nI pj)), (0, .ref (q 0))] → W p l e R s m args below meth c H locs 0 0 Q (F0 m 26 ls []) := by
          intro fu_26
          induction fu_26 with
          | zero =>
            intro ii iy hfu_26
            exact absurd hfu_26 (Nat.not_lt_zero _)
          | succ fu_26 ih_26 =>
            intro ii iy hfu_26 hii hy H locs hP hD hS ls hl
            refine lv_iload_n hx hb dX1_lamp_26 rfl (lv_at hl 0 rfl) ?_
            refine lv_aload_n hx hb dX1_lamp_27 rfl (lv_at hl 3 rfl) ?_
            refine gfM hx hb hts hin hown hK hP 1 (by decide) (List.mem_of_getElem? (i := 3) rfl) rfl rfl dX1_lamp_28 ?_
            refine n_icmp_ge (tgt := 119) hx hb (by omega) (by omega) dX1_lamp_31 (by decide) (fun c31 => ?_) (fun c31 => ?_)
            · refine lv_iinc (v := nI (pj + 1)) (lv' := [(2, .int (nI (pj + 1))), (3, .int (nI ii)), (1, .int (nI iy)), (0, .ref (q 0))]) hx hb dX1_lamp_119 hl (k := 2) rfl (ni_inc _ 1) (by decide) rfl (fun ls hl => ?_)
              refine lv_goto (tgt := 16) hx hb dX1_lamp_122 (by decide) ?_
              exact ih_16 (pj + 1) iy (by omega) (by omega) (by rw [hy, show ii = k by omega]; exact b1_c (lamp_s (k := k) (PP := fun j => ST j ≠ 0 ∧ ∃ i, i < k ∧ A i ≠ 0 ∧ nway T V k (ovp (PR j) (V i))))) _ _ hP hD hS ls (lv_sub hl [0, 2, 3] rfl)
            · refine lv_aload_n hx hb dX1_lamp_34 rfl (lv_at hl 3 rfl) ?_
              refine gfM hx hb hts hin hown hK hP 11 (by decide) (List.mem_of_getElem? (i := 4) rfl) rfl rfl dX1_lamp_35 ?_
              refine lv_iload_n hx hb dX1_lamp_38 rfl (lv_at hl 2 rfl) ?_
              refine n_iald hx hb hK hP 9 0 rfl rfl (by omega) (by decide) dX1_lamp_39 ?_
              refine n_if_eq (tgt := 113) hx hb (by have := hPR pj (by omega); omega) dX1_lamp_40 (by decide) (fun c40 => ?_) (fun c40 => ?_)
              · have hy2 : iy = b1 ((∃ j, j < pj ∧ ST j ≠ 0 ∧ ∃ i, i < k ∧ A i ≠ 0 ∧ nway T V k (ovp (PR j) (V i))) ∨ (ST pj ≠ 0 ∧ ∃ i, i < ii + 1 ∧ A i ≠ 0 ∧ nway T V k (ovp (PR pj) (V i)))) := by rw [hy]; exact b1_c ⟨fun h => h.elim Or.inl (fun q => absurd c40 q.1), fun h => h.elim Or.inl (fun q => absurd c40 q.1)⟩
                refine lv_iinc (v := nI (ii + 1)) (lv' := [(3, .int (nI (ii + 1))), (1, .int (nI iy)), (2, .int (nI pj)), (0, .ref (q 0))]) hx hb dX1_lamp_113 hl (k := 0) rfl (ni_inc _ 1) (by decide) rfl (fun ls hl => ?_)
                refine lv_goto (tgt := 26) hx hb dX1_lamp_116 (by decide) ?_
                exact ih_26 (ii + 1) iy (by omega) (by omega) hy2 _ _ hP hD hS ls (lv_sub hl [0, 1, 2, 3] rfl)
              · refine lv_aload_n hx hb dX1_lamp_43 rfl (lv_at hl 3 rfl) ?_
                refine gfM hx hb hts hin hown hK hP 4 (by decide) (List.mem_of_getElem? (i := 5) rfl) rfl rfl dX1_lamp_44 ?_
                refine lv_iload_n hx hb dX1_lamp_47 rfl (lv_at hl 0 rfl) ?_
                refine n_zald hx hb hK hP 3 1 rfl rfl (by omega) (by decide) dX1_lamp_48 ?_
                refine n_if_ne (tgt := 55) hx hb (by have := hA1 ii (by omega); omega) dX1_lamp_49 (by decide) (fun c49 => ?_) (fun c49 => ?_)
                · have hVi := hV ii (by omega)
                  have hPj := hPR pj (by omega)
                  have hov := ovp_ref (pr := PR pj) (v := V ii) hVi.1
                  have hol := ovp_le (pr := PR pj) hVi.1 hVi.2
                  refine lv_aload_n hx hb dX1_lamp_55 rfl (lv_at hl 3 rfl) ?_
                  refine gfM hx hb hts hin hown hK hP 10 (by decide) (List.mem_of_getElem? (i := 6) rfl) rfl rfl dX1_lamp_56 ?_
                  refine lv_iload_n hx hb dX1_lamp_59 rfl (lv_at hl 2 rfl) ?_
                  refine n_iald hx hb hK hP 8 0 rfl rfl (by omega) (by decide) dX1_lamp_60 ?_
                  refine lv_aload_n hx hb dX1_lamp_61 rfl (lv_at hl 3 rfl) ?_
                  refine gfM hx hb hts hin hown hK hP 2 (by decide) (List.mem_of_getElem? (i := 7) rfl) rfl rfl dX1_lamp_62 ?_
                  refine lv_iload_n hx hb dX1_lamp_65 rfl (lv_at hl 0 rfl) ?_
                  refine n_iald hx hb hK hP 1 0 rfl rfl (by omega) (by decide) dX1_lamp_66 ?_
                  refine n_iadd hx hb dX1_lamp_67 ?_
                  refine lv_iconst (v := nI 1) hx hb dX1_lamp_68 (ic_1) ?_
                  refine n_isub hx hb (by omega) dX1_lamp_69 ?_
                  refine lv_aload_n hx hb dX1_lamp_70 rfl (lv_at hl 3 rfl) ?_
                  refine gfM hx hb hts hin hown hK hP 2 (by decide) (List.mem_of_getElem? (i := 7) rfl) rfl rfl dX1_lamp_71 ?_
                  refine lv_iload_n hx hb dX1_lamp_74 rfl (lv_at hl 0 rfl) ?_
                  refine n_iald hx hb hK hP 1 0 rfl rfl (by omega) (by decide) dX1_lamp_75 ?_
                  refine n_idiv hx hb (by omega) (by omega) (by omega) dX1_lamp_76 ?_
                  refine lv_istore (lv' := [(4, .int (nI ((((PR pj) + (V ii)) - 1) / (V ii)))), (3, .int (nI ii)), (1, .int (nI iy)), (2, .int (nI pj)), (0, .ref (q 0))]) hx hb dX1_lamp_77 hl (by decide) rfl (fun ls hl => ?_)
                  have hyl : iy ≤ 1 := by rw [hy]; exact b1_le _
                  refine lv_iload_n hx hb dX1_lamp_79 rfl (lv_at hl 2 rfl) ?_
                  refine n_if_ne (tgt := 107) hx hb (by omega) dX1_lamp_80 (by decide) (fun c80 => ?_) (fun c80 => ?_)
                  · have hy2 : 1 = b1 ((∃ j, j < pj ∧ ST j ≠ 0 ∧ ∃ i, i < k ∧ A i ≠ 0 ∧ nway T V k (ovp (PR j) (V i))) ∨ (ST pj ≠ 0 ∧ ∃ i, i < ii + 1 ∧ A i ≠ 0 ∧ nway T V k (ovp (PR pj) (V i)))) := by
                      have h9 : (∃ j, j < pj ∧ ST j ≠ 0 ∧ ∃ i, i < k ∧ A i ≠ 0 ∧ nway T V k (ovp (PR j) (V i))) ∨ (ST pj ≠ 0 ∧ ∃ i, i < ii ∧ A i ≠ 0 ∧ nway T V k (ovp (PR pj) (V i))) := b1_of (by rw [← hy]; exact c80)
                      exact (b1_y (h9.elim Or.inl (fun q => Or.inr ⟨q.1, (fun ⟨i, a1, a2⟩ => ⟨i, by omega, a2⟩ : (∃ i, i < ii ∧ A i ≠ 0 ∧ nway T V k (ovp (PR pj) (V i))) → ∃ i, i < ii + 1 ∧ A i ≠ 0 ∧ nway T V k (ovp (PR pj) (V i))) q.2⟩))).symm
                    refine lv_iconst (v := nI 1) hx hb dX1_lamp_107 (ic_1) ?_
                    refine lv_goto (tgt := 112) hx hb dX1_lamp_108 (by decide) ?_
                    refine lv_istore_n (lv' := [(1, .int (nI 1)), (4, .int (nI ((((PR pj) + (V ii)) - 1) / (V ii)))), (3, .int (nI ii)), (2, .int (nI pj)), (0, .ref (q 0))]) hx hb dX1_lamp_112 rfl hl (by decide) rfl (fun ls hl => ?_)
                    refine lv_iinc (v := nI (ii + 1)) (lv' := [(3, .int (nI (ii + 1))), (1, .int (nI 1)), (4, .int (nI ((((PR pj) + (V ii)) - 1) / (V ii)))), (2, .int (nI pj)), (0, .ref (q 0))]) hx hb dX1_lamp_113 hl (k := 2) rfl (ni_inc _ 1) (by decide) rfl (fun ls hl => ?_)
                    refine lv_goto (tgt := 26) hx hb dX1_lamp_116 (by decide) ?_
                    exact ih_26 (ii + 1) 1 (by omega) (by omega) hy2 _ _ hP hD hS ls (lv_sub hl [0, 1, 3, 4] rfl)
                  · refine lv_aload_n hx hb dX1_lamp_83 rfl (lv_at hl 4 rfl) ?_
                    refine lv_iload hx hb dX1_lamp_84 (lv_at hl 0 rfl) ?_
                    refine lv_aload_n hx hb dX1_lamp_86 rfl (lv_at hl 4 rfl) ?_
                    refine gfM hx hb hts hin hown hK hP 2 (by decide) (List.mem_of_getElem? (i := 7) rfl) rfl rfl dX1_lamp_87 ?_
                    refine lv_iload_n hx hb dX1_lamp_90 rfl (lv_at hl 1 rfl) ?_
                    refine n_iald hx hb hK hP 1 0 rfl rfl (by omega) (by decide) dX1_lamp_91 ?_
                    refine n_imul hx hb dX1_lamp_92 ?_
                    refine lv_aload_n hx hb dX1_lamp_93 rfl (lv_at hl 4 rfl) ?_
                    refine gfM hx hb hts hin hown hK hP 10 (by decide) (List.mem_of_getElem? (i := 6) rfl) rfl rfl dX1_lamp_94 ?_
                    refine lv_iload_n hx hb dX1_lamp_97 rfl (lv_at hl 3 rfl) ?_
                    refine n_iald hx hb hK hP 8 0 rfl rfl (by omega) (by decide) dX1_lamp_98 ?_
                    refine n_isub hx hb hov.1 dX1_lamp_99 ?_
                    refine n_top (congrArg nI (show (((((PR pj) + (V ii)) - 1) / (V ii)) * (V ii)) - (PR pj) = ovp (PR pj) (V ii) from hov.2)) ?_
                    refine k_i (va_runV (As := [.int (nI (ovp (PR pj) (V ii)))]) (rest := []) ⟨hx, hb, hml, hown, hts⟩ (c_X1_inAll l hst D q cI cZ cJ 0 k V C A T B P OR n PR ST li w WK so sp CT u_1 H.size (ovp (PR pj) (V ii)) hk8 (by omega)) (cwV 1 hts gX1_lamp_X1_inAll rfl rfl rfl hd_X1_inAll ⟨(by rw [hR]; exact Nat.le_of_ble_eq_true rfl), (by rw [hR]; exact Nat.le_of_ble_eq_true rfl)⟩) (pre_V hP hK hD hS hA hZ hg 0 (ci := 1) rfl rfl) rfl rfl hl.1 rfl (lv_room (Nat.le_of_ble_eq_true rfl)) dX1_lamp_100 ⟨(by rw [hR]; exact Nat.le_of_ble_eq_true rfl), (by rw [hR]; exact Nat.le_of_ble_eq_true rfl)⟩) hD hS hA (fun r_5 u_4 H locs hp_6 hP hD hS => ?_)
                    subst hp_6
                    have hbest := tab_best hk8 (fun i hi => by have := hC i hi; omega) hOR (F := fl u_1) (am := ovp (PR pj) (V ii)) (fun n0 h0 b hb => htb n0 h0 b (by omega))
                    refine lv_iconst (v := nI 4294967295) hx hb dX1_lamp_103 (by decide) ?_
                    rcases hbest with ⟨hb0, hbn⟩ | ⟨hb0, hb1, gv, z, hg1, hbw, hbc, hbd⟩
                    · have hb0 : u_1 (2001 * k + (ovp (PR pj) (V ii))) = 4294967295 := hb0
                      have hy2 : 1 = b1 ((∃ j, j < pj ∧ ST j ≠ 0 ∧ ∃ i, i < k ∧ A i ≠ 0 ∧ nway T V k (ovp (PR j) (V i))) ∨ (ST pj ≠ 0 ∧ ∃ i, i < ii + 1 ∧ A i ≠ 0 ∧ nway T V k (ovp (PR pj) (V i)))) := (b1_y (Or.inr ⟨c40, ii, by omega, c49, hbn⟩)).symm
                      refine n_icmp_ne (tgt := 111) hx hb (by omega) (by omega) dX1_lamp_104 (by decide) (fun c104 => ?_) (fun c104 => ?_)
                      · exact absurd hb0 c104
                      · refine lv_iconst (v := nI 1) hx hb dX1_lamp_107 (ic_1) ?_
                        refine lv_goto (tgt := 112) hx hb dX1_lamp_108 (by decide) ?_
                        refine lv_istore_n (lv' := [(1, .int (nI 1)), (4, .int (nI ((((PR pj) + (V ii)) - 1) / (V ii)))), (3, .int (nI ii)), (2, .int (nI pj)), (0, .ref (q 0))]) hx hb dX1_lamp_112 rfl hl (by decide) rfl (fun ls hl => ?_)
                        refine lv_iinc (v := nI (ii + 1)) (lv' := [(3, .int (nI (ii + 1))), (1, .int (nI 1)), (4, .int (nI ((((PR pj) + (V ii)) - 1) / (V ii)))), (2, .int (nI pj)), (0, .ref (q 0))]) hx hb dX1_lamp_113 hl (k := 2) rfl (ni_inc _ 1) (by decide) rfl (fun ls hl => ?_)
                        refine lv_goto (tgt := 26) hx hb dX1_lamp_116 (by decide) ?_
                        exact ih_26 (ii + 1) 1 (by omega) (by omega) hy2 _ _ hP hD hS ls (lv_sub hl [0, 1, 3, 4] rfl)
                    · have hb0 : u_1 (2001 * k + (ovp (PR pj) (V ii))) ≠ 4294967295 := hb0
                      have hb1 : u_1 (2001 * k + (ovp (PR pj) (V ii))) ≤ 480 := hb1
                      have hy2 : 0 = b1 ((∃ j, j < pj ∧ ST j ≠ 0 ∧ ∃ i, i < k ∧ A i ≠ 0 ∧ nway T V k (ovp (PR j) (V i))) ∨ (ST pj ≠ 0 ∧ ∃ i, i < ii + 1 ∧ A i ≠ 0 ∧ nway T V k (ovp (PR pj) (V i)))) := c80.symm.trans (hy.trans (b1_c (lamp_i (f := fun i => A i ≠ 0) (g := fun i => nway T V k (ovp (PR pj) (V i))) (fun h => h.2 z hbw.1))))
                      refine n_icmp_ne (tgt := 111) hx hb (by omega) (by omega) dX1_lamp_104 (by decide) (fun c104 => ?_) (fun c104 => ?_)
                      · refine lv_iconst (v := nI 0) hx hb dX1_lamp_111 (ic_0) ?_
                        refine lv_istore_n (lv' := [(1, .int (nI 0)), (4, .int (nI ((((PR pj) + (V ii)) - 1) / (V ii)))), (3, .int (nI ii)), (2, .int (nI pj)), (0, .ref (q 0))]) hx hb dX1_lamp_112 rfl hl (by decide) rfl (fun ls hl => ?_)
                        refine lv_iinc (v := nI (ii + 1)) (lv' := [(3, .int (nI (ii + 1))), (1, .int (nI 0)), (4, .int (nI ((((PR pj) + (V ii)) - 1) / (V ii)))), (2, .int (nI pj)), (0, .ref (q 0))]) hx hb dX1_lamp_113 hl (k := 2) rfl (ni_inc _ 1) (by decide) rfl (fun ls hl => ?_)
                        refine lv_goto (tgt := 26) hx hb dX1_lamp_116 (by decide) ?_
                        exact ih_26 (ii + 1) 0 (by omega) (by omega) hy2 _ _ hP hD hS ls (lv_sub hl [0, 1, 3, 4] rfl)
                      · exact absurd c104 hb0
                · have hy2 : iy = b1 ((∃ j, j < pj ∧ ST j ≠ 0 ∧ ∃ i, i < k ∧ A i ≠ 0 ∧ nway T V k (ovp (PR j) (V i))) ∨ (ST pj ≠ 0 ∧ ∃ i, i < ii + 1 ∧ A i ≠ 0 ∧ nway T V k (ovp (PR pj) (V i)))) := by rw [hy]; exact b1_c (lamp_i (fun h => h.1 c49))
                  refine lv_goto (tgt := 113) hx hb dX1_lamp_52 (by decide) ?_
                  refine lv_iinc (v := nI (ii + 1)) (lv' := [(3, .int (nI (ii + 1))), (1, .int (nI iy)), (2, .int (nI pj)), (0, .ref (q 0))]) hx hb dX1_lamp_113 hl (k := 0) rfl (ni_inc _ 1) (by decide) rfl (fun ls hl => ?_)
                  refine lv_goto (tgt := 26) hx hb dX1_lamp_116 (by decide) ?_
                  exact ih_26 (ii + 1) iy (by omega) (by omega) hy2 _ _ hP hD hS ls (lv_sub hl [0, 1, 2, 3] rfl)
        exact lp_26 _ 0 iz (Nat.lt_succ_self _) (by omega) (by rw [hz]; exact b1_c ⟨fun h => Or.inl h, fun h => h.elim (fun q => q) (fun q => absurd q.2 (fun ⟨i, h, _⟩ => Nat.not_lt_zero i h))⟩) _ _ hP hD hS ls (lv_sub hl [0, 2, 1, 3] rfl)
  exact lp_16 _ 0 0 (Nat.lt_succ_self _) (by omega) ((b1_n (fun ⟨j, h, _⟩ => Nat.not_lt_zero j h)).symm) _ _ hP hD hS ls (lv_sub hl [0, 1, 2] rfl)
theorem hd_X1_lamp : yX1_lamp.cls = RX1 ∧ yX1_lamp.cls ≠ "java/lang/invoke/MethodHandle" ∧ yX1_lamp.cls ≠ "java/lang/invoke/VarHandle" ∧ (parseMethodDescriptor yX1_lamp.desc).map (fun d => d.parameters.length) = some 0 := by decide +kernel

set_option maxHeartbeats 4000000 in
set_option maxRecDepth 100000 in
theorem c_X1_digest (l : Launch) (hst : l.stackTraces = false) (D : va_G) (q : Nat → Nat) (cI cZ cJ : ClassId) (th : Nat) (k : Nat) (V : Nat → Nat) (C : Nat → Nat) (A : Nat → Nat) (T : Nat → Nat) (B : Nat → Nat) (P : Nat → Nat) (OR : Nat → Nat) (n : Nat) (PR : Nat → Nat) (ST : Nat → Nat) (li : Nat) (w : Nat) (WK : Nat → Nat) (so : Nat) (sp : Nat) (CT : Nat → Int64) (FW : Nat → Nat) (sz : Nat) (hk8 : k ≤ 8) (hA1 : ∀ i, i < k → A i ≤ 1) (hn10 : n ≤ 10) (hw12 : w ≤ 12) : Met l yX1_digest wsX1_digest ({ frames := 1, cells := 0, slots := 0, locals := 22 }) (va_Pc [.ref (q 0)] (cxP D (ty3 cI cZ cJ) (wM q cI cZ cJ th k V C A T B P OR n PR ST li w WK so sp CT FW) sz)) (va_Ql (fun r (_ : Unit) => r = dgs k V T B P A n PR ST li w WK CT) (bW D (va_A (wM q cI cZ cJ th k V C A T B P OR n PR ST li w WK so sp CT FW) sz) (fun (_ : Unit) => (wM q cI cZ cJ 0 k V C A T B P OR n PR ST li w WK so sp CT FW))) (va_A (wM q cI cZ cJ th k V C A T B P OR n PR ST li w WK so sp CT FW) sz)) 0 0 (va_A (wM q cI cZ cJ th k V C A T B P OR n PR ST li w WK so sp CT FW) sz) := by
  refine Met.ofW (cc := cX1_digest) (maxL := 8) (ret := (some .long)) (by decide) rfl ?_
  intro p e s m args below meth c s₁ BB hml hv
  obtain ⟨hav, hsz, hP, hK, hD0, hZ, hg⟩ := hv
  subst hsz
  subst hav
  have hx := BB.exec
  have hb := BB.bytes
  have hr := BB.returns
  have hts := atoms_spec (ws := wsX1_digest) BB.pre
  have hown : s.vm.findClass RX1 = some m.cls := findClass_of_methodNamed BB.named
  have hlocks := BB.notSynchronized
  have hin : ∀ w ∈ wsX10, w ∈ wsX1_digest := fun w h => (List.mem_cons_of_mem _ (List.mem_append_right _ h))
  have hD := hD0.self (sz := s.heap.size)
  have hA : ∀ q9 : Nat, s.heap.size ≤ q9 → va_A (wM q cI cZ cJ th k V C A T B P OR n PR ST li w WK so sp CT FW) s.heap.size q9 := fun _ h => Or.inr h
  have hl := lv_entry ([.ref (q 0)]) (n := 8) (Nat.le_of_ble_eq_true rfl)
  rw [lg_entry_eq]
  generalize (lg_sl ([.ref (q 0)]) ++ List.replicate (8 - (lg_sl ([.ref (q 0)])).length) Slot.unset).toArray = ls at hl ⊢
  have hl : lv_has ls 8 [(0, .ref (q 0))] := hl
  refine W_absR (fun R hR => ?_)
  have hR : R = ({ frames := 1, cells := 0, slots := 0, locals := 22 } : Room) := hR
  refine W_absQ (fun Q hQ => ?_)
  generalize ([.ref (q 0)] : List Value).toArray = args at hts hQ ⊢
  generalize va_A (wM q cI cZ cJ th k V C A T B P OR n PR ST li w WK so sp CT FW) s.heap.size = A9 at hD hZ hA hQ
  refine W_start hP (A := A9) (fun H locs hP hS => ?_)
  refine lv_aload_n hx hb dX1_digest_0 rfl (lv_at hl 0 rfl) ?_
  refine lv_iconst (v := nI 0) hx hb dX1_digest_1 (ic_0) ?_
  refine pfM (ws' := (wM q cI cZ cJ 0 k V C A T B P OR n PR ST li w WK so sp CT FW)) hx hb hts hin hown hK hP hD hS 0 (by decide) (List.mem_of_getElem? (i := 1) rfl) rfl ⟨rfl, rfl⟩ rfl rfl dX1_digest_2 (fun H locs hP hD hS => ?_)
  refine lv_ldc2 (v := (5611)) hx hb hown (hts _ (List.mem_of_getElem? (i := 2) rfl)) dX1_digest_5 (n_topl (show ((5611) : Int64) = lZ 5611 from by decide) ?_)
  refine lv_aload_n hx hb dX1_digest_8 rfl (lv_at hl 0 rfl) ?_
  refine gfM hx hb hts hin hown hK hP 1 (by decide) (List.mem_of_getElem? (i := 3) rfl) rfl rfl dX1_digest_9 ?_
  refine lv_i2l hx hb dX1_digest_12 rfl ?_
  refine lv_ladd hx hb dX1_digest_13 ?_
  refine lv_lstore_n (lv' := [(1, .long ((lZ 5611) + ((nI k).toInt64))), (0, .ref (q 0))]) hx hb dX1_digest_14 rfl hl (by decide) rfl (fun ls hl => ?_)
  refine lv_iconst (v := nI 0) hx hb dX1_digest_15 (ic_0) ?_
  refine lv_istore_n (lv' := [(3, .int (nI 0)), (1, .long ((lZ 5611) + ((nI k).toInt64))), (0, .ref (q 0))]) hx hb dX1_digest_16 rfl hl (by decide) rfl (fun ls hl => ?_)
  have lp_17 : ∀ (fu_17 : Nat) (i : Nat) (d : Int64), k - i < fu_17 → (i ≤ k) → (d = dgK V T B P A (hD31 (lZ 181) (nI k).toInt64) i) → ∀ (H : Heap) (locs : List Loc), va_P D vwCl (wM q cI cZ cJ 0 k V C A T B P OR n PR ST li w WK so sp CT FW) H → va_D A9 (wM q cI cZ cJ 0 k V C A T B P OR n PR ST li w WK so sp CT FW) → va_S A9 s.heap H locs → ∀ ls : Array Slot, lv_has ls 8 [(3, .int (nI i)), (1, .long d), (0, .ref (q 0))] → W p l e R s m args below meth c H locs 0 0 Q (F0 m 17 ls []) := by
    intro fu_17
    induction fu_17 with
    | zero =>
      intro i d hfu_17
      exact absurd hfu_17 (Nat.not_lt_zero _)
    | succ fu_17 ih_17 =>
      intro i d hfu_17 hi hs H locs hP hD hS ls hl
      refine lv_iload_n hx hb dX1_digest_17 rfl (lv_at hl 0 rfl) ?_
      refine lv_aload_n hx hb dX1_digest_18 rfl (lv_at hl 2 rfl) ?_
      refine gfM hx hb hts hin hown hK hP 1 (by decide) (List.mem_of_getElem? (i := 3) rfl) rfl rfl dX1_digest_19 ?_
      refine n_icmp_ge (tgt := 82) hx hb (by omega) (by omega) dX1_digest_22 (by decide) (fun c22 => ?_) (fun c22 => ?_)
      · refine lv_lload_n hx hb dX1_digest_82 rfl (lv_at hl 1 rfl) ?_
        refine lv_ldc2 (v := (31)) hx hb hown (hts _ (List.mem_of_getElem? (i := 4) rfl)) dX1_digest_83 (n_topl (show ((31) : Int64) = lZ 31 from by decide) ?_)
        refine lv_lmul hx hb dX1_digest_86 ?_
        refine lv_aload_n hx hb dX1_digest_87 rfl (lv_at hl 2 rfl) ?_
        refine gfM hx hb hts hin hown hK hP 12 (by decide) (List.mem_of_getElem? (i := 6) rfl) rfl rfl dX1_digest_88 ?_
        refine lv_i2l hx hb dX1_digest_91 rfl ?_
        refine lv_ladd hx hb dX1_digest_92 ?_
        refine lv_ldc2 (v := (31)) hx hb hown (hts _ (List.mem_of_getElem? (i := 4) rfl)) dX1_digest_93 (n_topl (show ((31) : Int64) = lZ 31 from by decide) ?_)
        refine lv_lmul hx hb dX1_digest_96 ?_
        refine lv_aload_n hx hb dX1_digest_97 rfl (lv_at hl 2 rfl) ?_
        refine gfM hx hb hts hin hown hK hP 9 (by decide) (List.mem_of_getElem? (i := 7) rfl) rfl rfl dX1_digest_98 ?_
        refine lv_i2l hx hb dX1_digest_101 rfl ?_
        refine lv_ladd hx hb dX1_digest_102 ?_
        refine lv_lstore_n (lv' := [(1, .long ((((d * (lZ 31)) + ((nI li).toInt64)) * (lZ 31)) + ((nI n).toInt64))), (3, .int (nI i)), (0, .ref (q 0))]) hx hb dX1_digest_103 rfl hl (by decide) rfl (fun ls hl => ?_)
        refine lv_iconst (v := nI 0) hx hb dX1_digest_104 (ic_0) ?_
        refine lv_istore_n (lv' := [(3, .int (nI 0)), (1, .long ((((d * (lZ 31)) + ((nI li).toInt64)) * (lZ 31)) + ((nI n).toInt64))), (0, .ref (q 0))]) hx hb dX1_digest_105 rfl hl (by decide) rfl (fun ls hl => ?_)
        have lp_106 : ∀ (fu_106 : Nat) (j : Nat) (e1 : Int64), n - j < fu_106 → (j ≤ n) → (e1 = dgP PR ST (hD31 (hD31 (dgK V T B P A (hD31 (lZ 181) (nI k).toInt64) k) (nI li).toInt64) (nI n).toInt64) j) → ∀ (H : Heap) (locs : List Loc), va_P D vwCl (wM q cI cZ cJ 0 k V C A T B P OR n PR ST li w WK so sp CT FW) H → va_D A9 (wM q cI cZ cJ 0 k V C A T B P OR n PR ST li w WK so sp CT FW) → va_S A9 s.heap H locs → ∀ ls : Array Slot, lv_has ls 8 [(3, .int (nI j)), (1, .long e1), (0, .ref (q 0))] → W p l e R s m args below meth c H locs 0 0 Q (F0 m 106 ls []) := by
          intro fu_106
          induction fu_106 with
          | zero =>
            intro j e1 hfu_106
            exact absurd hfu_106 (Nat.not_lt_zero _)
          | succ fu_106 ih_106 =>
            intro j e1 hfu_106 hj hp1 H locs hP hD hS ls hl
            refine lv_iload_n hx hb dX1_digest_106 rfl (lv_at hl 0 rfl) ?_
            refine lv_aload_n hx hb dX1_digest_107 rfl (lv_at hl 2 rfl) ?_
            refine gfM hx hb hts hin hown hK hP 9 (by decide) (List.mem_of_getElem? (i := 7) rfl) rfl rfl dX1_digest_108 ?_
            refine n_icmp_ge (tgt := 146) hx hb (by omega) (by omega) dX1_digest_111 (by decide) (fun c111 => ?_) (fun c111 => ?_)
            · refine lv_lload_n hx hb dX1_digest_146 rfl (lv_at hl 1 rfl) ?_
              refine lv_ldc2 (v := (31)) hx hb hown (hts _ (List.mem_of_getElem? (i := 4) rfl)) dX1_digest_147 (n_topl (show ((31) : Int64) = lZ 31 from by decide) ?_)
              refine lv_lmul hx hb dX1_digest_150 ?_
              refine lv_aload_n hx hb dX1_digest_151 rfl (lv_at hl 2 rfl) ?_
              refine gfM hx hb hts hin hown hK hP 13 (by decide) (List.mem_of_getElem? (i := 10) rfl) rfl rfl dX1_digest_152 ?_
              refine lv_i2l hx hb dX1_digest_155 rfl ?_
              refine lv_ladd hx hb dX1_digest_156 ?_
              refine lv_lstore_n (lv' := [(1, .long ((e1 * (lZ 31)) + ((nI w).toInt64))), (3, .int (nI j)), (0, .ref (q 0))]) hx hb dX1_digest_157 rfl hl (by decide) rfl (fun ls hl => ?_)
              refine lv_iconst (v := nI 0) hx hb dX1_digest_158 (ic_0) ?_
              refine lv_istore_n (lv' := [(3, .int (nI 0)), (1, .long ((e1 * (lZ 31)) + ((nI w).toInt64))), (0, .ref (q 0))]) hx hb dX1_digest_159 rfl hl (by decide) rfl (fun ls hl => ?_)
              have lp_160 : ∀ (fu_160 : Nat) (j2 : Nat) (e2 : Int64), w - j2 < fu_160 → (j2 ≤ w) → (e2 = dgW WK (hD31 (dgP PR ST (hD31 (hD31 (dgK V T B P A (hD31 (lZ 181) (nI k).toInt64) k) (nI li).toInt64) (nI n).toInt64) n) (nI w).toInt64) j2) → ∀ (H : Heap) (locs : List Loc), va_P D vwCl (wM q cI cZ cJ 0 k V C A T B P OR n PR ST li w WK so sp CT FW) H → va_D A9 (wM q cI cZ cJ 0 k V C A T B P OR n PR ST li w WK so sp CT FW) → va_S A9 s.heap H locs → ∀ ls : Array Slot, lv_has ls 8 [(3, .int (nI j2)), (1, .long e2), (0, .ref (q 0))] → W p l e R s m args below meth c H locs 0 0 Q (F0 m 160 ls []) := by
                intro fu_160
                induction fu_160 with
                | zero =>
                  intro j2 e2 hfu_160
                  exact absurd hfu_160 (Nat.not_lt_zero _)
                | succ fu_160 ih_160 =>
                  intro j2 e2 hfu_160 hj2 hp2 H locs hP hD hS ls hl
                  refine lv_iload_n hx hb dX1_digest_160 rfl (lv_at hl 0 rfl) ?_
                  refine lv_aload_n hx hb dX1_digest_161 rfl (lv_at hl 2 rfl) ?_
                  refine gfM hx hb hts hin hown hK hP 13 (by decide) (List.mem_of_getElem? (i := 10) rfl) rfl rfl dX1_digest_162 ?_
                  refine n_icmp_ge (tgt := 188) hx hb (by omega) (by omega) dX1_digest_165 (by decide) (fun c165 => ?_) (fun c165 => ?_)
                  · refine lv_aload_n hx hb dX1_digest_188 rfl (lv_at hl 2 rfl) ?_
                    refine gfM hx hb hts hin hown hK hP 17 (by decide) (List.mem_of_getElem? (i := 12) rfl) rfl rfl dX1_digest_189 ?_
                    refine lv_astore_n (lv' := [(3, .ref (q 17)), (1, .long e2), (0, .ref (q 0))]) hx hb dX1_digest_192 rfl hl (by decide) rfl (fun ls hl => ?_)
                    refine lv_aload_n hx hb dX1_digest_193 rfl (lv_at hl 0 rfl) ?_
                    refine va_alen (v := nI 10) hx hb hK hP 11 2 rfl rfl rfl dX1_digest_194 ?_
                    refine lv_istore (lv' := [(4, .int (nI 10)), (3, .ref (q 17)), (1, .long e2), (0, .ref (q 0))]) hx hb dX1_digest_195 hl (by decide) rfl (fun ls hl => ?_)
                    refine lv_iconst (v := nI 0) hx hb dX1_digest_197 (ic_0) ?_
                    refine lv_istore (lv' := [(5, .int (nI 0)), (4, .int (nI 10)), (3, .ref (q 17)), (1, .long e2), (0, .ref (q 0))]) hx hb dX1_digest_198 hl (by decide) rfl (fun ls hl => ?_)
                    have lp_200 : ∀ (fu_200 : Nat) (j3 : Nat) (e3 : Int64), 10 - j3 < fu_200 → (j3 ≤ 10) → (e3 = dgC CT (dgW WK (hD31 (dgP PR ST (hD31 (hD31 (dgK V T B P A (hD31 (lZ 181) (nI k).toInt64) k) (nI li).toInt64) (nI n).toInt64) n) (nI w).toInt64) w) j3) → ∀ (H : Heap) (locs : List Loc), va_P D vwCl (wM q cI cZ cJ 0 k V C A T B P OR n PR ST li w WK so sp CT FW) H → va_D A9 (wM q cI cZ cJ 0 k V C A T B P OR n PR ST li w WK so sp CT FW) → va_S A9 s.heap H locs → ∀ ls : Array Slot, lv_has ls 8 [(5, .int (nI j3)), (1, .long e3), (3, .ref (q 17)), (4, .int (nI 10)), (0, .ref (q 0))] → W p l e R s m args below meth c H locs 0 0 Q (F0 m 200 ls []) := by
                      intro fu_200
                      induction fu_200 with
                      | zero =>
                        intro j3 e3 hfu_200
                        exact absurd hfu_200 (Nat.not_lt_zero _)
                      | succ fu_200 ih_200 =>
                        intro j3 e3 hfu_200 hj3 hp3 H locs hP hD hS ls hl
                        refine lv_iload hx hb dX1_digest_200 (lv_at hl 0 rfl) ?_
                        refine lv_iload hx hb dX1_digest_202 (lv_at hl 3 rfl) ?_
                        refine n_icmp_ge (tgt := 228) hx hb (by omega) (by omega) dX1_digest_204 (by decide) (fun c204 => ?_) (fun c204 => ?_)
                        · refine lv_lload_n hx hb dX1_digest_228 rfl (lv_at hl 1 rfl) ?_
                          subst hQ
                          exact e_l () hx hb hr hlocks hS hP hD (by rw [hp3, show j3 = 10 by omega]; rfl) (Nat.le_of_ble_eq_true rfl) (Nat.le_of_ble_eq_true rfl) dX1_digest_229
                        · refine lv_aload_n hx hb dX1_digest_207 rfl (lv_at hl 2 rfl) ?_
                          refine lv_iload hx hb dX1_digest_208 (lv_at hl 0 rfl) ?_
                          refine n_lald hx hb hK hP 11 2 rfl rfl (by omega) (by decide) dX1_digest_210 ?_
                          refine lv_lstore (lv' := [(6, .long (CT j3)), (5, .int (nI j3)), (1, .long e3), (3, .ref (q 17)), (4, .int (nI 10)), (0, .ref (q 0))]) hx hb dX1_digest_211 hl (by decide) rfl (fun ls hl => ?_)
                          refine lv_lload_n hx hb dX1_digest_213 rfl (lv_at hl 2 rfl) ?_
                          refine lv_ldc2 (v := (31)) hx hb hown (hts _ (List.mem_of_getElem? (i := 4) rfl)) dX1_digest_214 (n_topl (show ((31) : Int64) = lZ 31 from by decide) ?_)
                          refine lv_lmul hx hb dX1_digest_217 ?_
                          refine lv_lload hx hb dX1_digest_218 (lv_at hl 0 rfl) ?_
                          refine lv_ladd hx hb dX1_digest_220 ?_
                          refine lv_lstore_n (lv' := [(1, .long ((e3 * (lZ 31)) + (CT j3))), (6, .long (CT j3)), (5, .int (nI j3)), (3, .ref (q 17)), (4, .int (nI 10)), (0, .ref (q 0))]) hx hb dX1_digest_221 rfl hl (by decide) rfl (fun ls hl => ?_)
                          refine lv_iinc (v := nI (j3 + 1)) (lv' := [(5, .int (nI (j3 + 1))), (1, .long ((e3 * (lZ 31)) + (CT j3))), (6, .long (CT j3)), (3, .ref (q 17)), (4, .int (nI 10)), (0, .ref (q 0))]) hx hb dX1_digest_222 hl (k := 2) rfl (ni_inc _ 1) (by decide) rfl (fun ls hl => ?_)
                          refine lv_goto (tgt := 200) hx hb dX1_digest_225 (by decide) ?_
                          exact ih_200 (j3 + 1) ((e3 * (lZ 31)) + (CT j3)) (by omega) (by omega) (by rw [hp3]; rfl) _ _ hP hD hS ls (lv_sub hl [0, 1, 3, 4, 5] rfl)
                    exact lp_200 _ 0 e2 (Nat.lt_succ_self _) (by omega) (by rw [hp2, show j2 = w by omega]; rfl) _ _ hP hD hS ls (lv_sub hl [0, 3, 2, 1, 4] rfl)
                  · refine lv_lload_n hx hb dX1_digest_168 rfl (lv_at hl 1 rfl) ?_
                    refine lv_ldc2 (v := (31)) hx hb hown (hts _ (List.mem_of_getElem? (i := 4) rfl)) dX1_digest_169 (n_topl (show ((31) : Int64) = lZ 31 from by decide) ?_)
                    refine lv_lmul hx hb dX1_digest_172 ?_
                    refine lv_aload_n hx hb dX1_digest_173 rfl (lv_at hl 2 rfl) ?_
                    refine gfM hx hb hts hin hown hK hP 14 (by decide) (List.mem_of_getElem? (i := 11) rfl) rfl rfl dX1_digest_174 ?_
                    refine lv_iload_n hx hb dX1_digest_177 rfl (lv_at hl 0 rfl) ?_
                    refine n_iald hx hb hK hP 10 0 rfl rfl (by omega) (by decide) dX1_digest_178 ?_
                    refine lv_i2l hx hb dX1_digest_179 rfl ?_
                    refine lv_ladd hx hb dX1_digest_180 ?_
                    refine lv_lstore_n (lv' := [(1, .long ((e2 * (lZ 31)) + ((nI (WK j2)).toInt64))), (3, .int (nI j2)), (0, .ref (q 0))]) hx hb dX1_digest_181 rfl hl (by decide) rfl (fun ls hl => ?_)
                    refine lv_iinc (v := nI (j2 + 1)) (lv' := [(3, .int (nI (j2 + 1))), (1, .long ((e2 * (lZ 31)) + ((nI (WK j2)).toInt64))), (0, .ref (q 0))]) hx hb dX1_digest_182 hl (k := 1) rfl (ni_inc _ 1) (by decide) rfl (fun ls hl => ?_)
                    refine lv_goto (tgt := 160) hx hb dX1_digest_185 (by decide) ?_
                    exact ih_160 (j2 + 1) ((e2 * (lZ 31)) + ((nI (WK j2)).toInt64)) (by omega) (by omega) (by rw [hp2]; rfl) _ _ hP hD hS ls (lv_sub hl [0, 1, 2] rfl)
              exact lp_160 _ 0 ((e1 * (lZ 31)) + ((nI w).toInt64)) (Nat.lt_succ_self _) (by omega) (by rw [hp1, show j = n by omega]; rfl) _ _ hP hD hS ls (lv_sub hl [0, 1, 2] rfl)
            · refine lv_lload_n hx hb dX1_digest_114 rfl (lv_at hl 1 rfl) ?_
              refine lv_ldc2 (v := (31)) hx hb hown (hts _ (List.mem_of_getElem? (i := 4) rfl)) dX1_digest_115 (n_topl (show ((31) : Int64) = lZ 31 from by decide) ?_)
              refine lv_lmul hx hb dX1_digest_118 ?_
              refine lv_aload_n hx hb dX1_digest_119 rfl (lv_at hl 2 rfl) ?_
              refine gfM hx hb hts hin hown hK hP 10 (by decide) (List.mem_of_getElem? (i := 8) rfl) rfl rfl dX1_digest_120 ?_
              refine lv_iload_n hx hb dX1_digest_123 rfl (lv_at hl 0 rfl) ?_
              refine n_iald hx hb hK hP 8 0 rfl rfl (by omega) (by decide) dX1_digest_124 ?_
              refine lv_i2l hx hb dX1_digest_125 rfl ?_
              refine lv_ladd hx hb dX1_digest_126 ?_
              refine lv_ldc2 (v := (31)) hx hb hown (hts _ (List.mem_of_getElem? (i := 4) rfl)) dX1_digest_127 (n_topl (show ((31) : Int64) = lZ 31 from by decide) ?_)
              refine lv_lmul hx hb dX1_digest_130 ?_
              refine lv_aload_n hx hb dX1_digest_131 rfl (lv_at hl 2 rfl) ?_
              refine gfM hx hb hts hin hown hK hP 11 (by decide) (List.mem_of_getElem? (i := 9) rfl) rfl rfl dX1_digest_132 ?_
              refine lv_iload_n hx hb dX1_digest_135 rfl (lv_at hl 0 rfl) ?_
              refine n_iald hx hb hK hP 9 0 rfl rfl (by omega) (by decide) dX1_digest_136 ?_
              refine lv_i2l hx hb dX1_digest_137 rfl ?_
              refine lv_ladd hx hb dX1_digest_138 ?_
              refine lv_lstore_n (lv' := [(1, .long ((((e1 * (lZ 31)) + ((nI (PR j)).toInt64)) * (lZ 31)) + ((nI (ST j)).toInt64))), (3, .int (nI j)), (0, .ref (q 0))]) hx hb dX1_digest_139 rfl hl (by decide) rfl (fun ls hl => ?_)
              refine lv_iinc (v := nI (j + 1)) (lv' := [(3, .int (nI (j + 1))), (1, .long ((((e1 * (lZ 31)) + ((nI (PR j)).toInt64)) * (lZ 31)) + ((nI (ST j)).toInt64))), (0, .ref (q 0))]) hx hb dX1_digest_140 hl (k := 1) rfl (ni_inc _ 1) (by decide) rfl (fun ls hl => ?_)
              refine lv_goto (tgt := 106) hx hb dX1_digest_143 (by decide) ?_
              exact ih_106 (j + 1) ((((e1 * (lZ 31)) + ((nI (PR j)).toInt64)) * (lZ 31)) + ((nI (ST j)).toInt64)) (by omega) (by omega) (by rw [hp1]; rfl) _ _ hP hD hS ls (lv_sub hl [0, 1, 2] rfl)
        exact lp_106 _ 0 ((((d * (lZ 31)) + ((nI li).toInt64)) * (lZ 31)) + ((nI n).toInt64)) (Nat.lt_succ_self _) (by omega) (by rw [hs, show i = k by omega]; rfl) _ _ hP hD hS ls (lv_sub hl [0, 1, 2] rfl)
      · refine lv_iconst (v := nI 0) hx hb dX1_digest_25 (ic_0) ?_
        refine lv_istore (lv' := [(4, .int (nI 0)), (3, .int (nI i)), (1, .long d), (0, .ref (q 0))]) hx hb dX1_digest_26 hl (by decide) rfl (fun ls hl => ?_)
        have lp_28 : ∀ (fu_28 : Nat) (wh : Nat) (dd : Int64), 4 - wh < fu_28 → (wh ≤ 4) → (dd = dgI V T B P i d wh) → ∀ (H : Heap) (locs : List Loc), va_P D vwCl (wM q cI cZ cJ 0 k V C A T B P OR n PR ST li w WK so sp CT FW) H → va_D A9 (wM q cI cZ cJ 0 k V C A T B P OR n PR ST li w WK so sp CT FW) → va_S A9 s.heap H locs → ∀ ls : Array Slot, lv_has ls 8 [(4, .int (nI wh)), (1, .long dd), (3, .int (nI i)), (0, .ref (q 0))] → W p l e R s m args below meth c H locs 0 0 Q (F0 m 28 ls []) := by
          intro fu_28
          induction fu_28 with
          | zero =>
            intro wh dd hfu_28
            exact absurd hfu_28 (Nat.not_lt_zero _)
          | succ fu_28 ih_28 =>
            intro wh dd hfu_28 hwh4 hs1 H locs hP hD hS ls hl
            refine lv_iload hx hb dX1_digest_28 (lv_at hl 0 rfl) ?_
            refine lv_iconst (v := nI 4) hx hb dX1_digest_30 (ic_4) ?_
            refine n_icmp_ge (tgt := 55) hx hb (by omega) (by omega) dX1_digest_31 (by decide) (fun c31 => ?_) (fun c31 => ?_)
            · refine lv_lload_n hx hb dX1_digest_55 rfl (lv_at hl 1 rfl) ?_
              refine lv_ldc2 (v := (31)) hx hb hown (hts _ (List.mem_of_getElem? (i := 4) rfl)) dX1_digest_56 (n_topl (show ((31) : Int64) = lZ 31 from by decide) ?_)
              refine lv_lmul hx hb dX1_digest_59 ?_
              refine lv_aload_n hx hb dX1_digest_60 rfl (lv_at hl 3 rfl) ?_
              refine gfM hx hb hts hin hown hK hP 4 (by decide) (List.mem_of_getElem? (i := 5) rfl) rfl rfl dX1_digest_61 ?_
              refine lv_iload_n hx hb dX1_digest_64 rfl (lv_at hl 2 rfl) ?_
              refine n_zald hx hb hK hP 3 1 rfl rfl (by omega) (by decide) dX1_digest_65 ?_
              refine n_if_eq (tgt := 73) hx hb (by have := hA1 i (by omega); omega) dX1_digest_66 (by decide) (fun c66 => ?_) (fun c66 => ?_)
              · have hs2 : dd * (lZ 31) + (lZ 0) = dgK V T B P A (hD31 (lZ 181) (nI k).toInt64) (i + 1) := by rw [hs1, show wh = 4 by omega, hs]; show _ = hD31 _ (lZ ((A i : Nat) : Int)); rw [show A i = 0 from c66]; rfl
                refine lv_lconst (v := lZ 0) hx hb dX1_digest_73 (by decide) ?_
                refine lv_ladd hx hb dX1_digest_74 ?_
                refine lv_lstore_n (lv' := [(1, .long ((dd * (lZ 31)) + (lZ 0))), (4, .int (nI wh)), (3, .int (nI i)), (0, .ref (q 0))]) hx hb dX1_digest_75 rfl hl (by decide) rfl (fun ls hl => ?_)
                refine lv_iinc (v := nI (i + 1)) (lv' := [(3, .int (nI (i + 1))), (1, .long ((dd * (lZ 31)) + (lZ 0))), (4, .int (nI wh)), (0, .ref (q 0))]) hx hb dX1_digest_76 hl (k := 2) rfl (ni_inc _ 1) (by decide) rfl (fun ls hl => ?_)
                refine lv_goto (tgt := 17) hx hb dX1_digest_79 (by decide) ?_
                exact ih_17 (i + 1) ((dd * (lZ 31)) + (lZ 0)) (by omega) (by omega) hs2 _ _ hP hD hS ls (lv_sub hl [0, 1, 3] rfl)
              · have hs2 : dd * (lZ 31) + (lZ 1) = dgK V T B P A (hD31 (lZ 181) (nI k).toInt64) (i + 1) := by rw [hs1, show wh = 4 by omega, hs]; show _ = hD31 _ (lZ ((A i : Nat) : Int)); rw [show A i = 1 by have := hA1 i (by omega); omega]; rfl
                refine lv_lconst (v := lZ 1) hx hb dX1_digest_69 (by decide) ?_
                refine lv_goto (tgt := 74) hx hb dX1_digest_70 (by decide) ?_
                refine lv_ladd hx hb dX1_digest_74 ?_
                refine lv_lstore_n (lv' := [(1, .long ((dd * (lZ 31)) + (lZ 1))), (4, .int (nI wh)), (3, .int (nI i)), (0, .ref (q 0))]) hx hb dX1_digest_75 rfl hl (by decide) rfl (fun ls hl => ?_)
                refine lv_iinc (v := nI (i + 1)) (lv' := [(3, .int (nI (i + 1))), (1, .long ((dd * (lZ 31)) + (lZ 1))), (4, .int (nI wh)), (0, .ref (q 0))]) hx hb dX1_digest_76 hl (k := 2) rfl (ni_inc _ 1) (by decide) rfl (fun ls hl => ?_)
                refine lv_goto (tgt := 17) hx hb dX1_digest_79 (by decide) ?_
                exact ih_17 (i + 1) ((dd * (lZ 31)) + (lZ 1)) (by omega) (by omega) hs2 _ _ hP hD hS ls (lv_sub hl [0, 1, 3] rfl)
            · refine lv_lload_n hx hb dX1_digest_34 rfl (lv_at hl 1 rfl) ?_
              refine lv_ldc2 (v := (31)) hx hb hown (hts _ (List.mem_of_getElem? (i := 4) rfl)) dX1_digest_35 (n_topl (show ((31) : Int64) = lZ 31 from by decide) ?_)
              refine lv_lmul hx hb dX1_digest_38 ?_
              refine lv_aload_n hx hb dX1_digest_39 rfl (lv_at hl 3 rfl) ?_
              refine lv_iload_n hx hb dX1_digest_40 rfl (lv_at hl 2 rfl) ?_
              refine lv_iload hx hb dX1_digest_41 (lv_at hl 0 rfl) ?_
              refine k_i (va_runV (As := [.int (nI i), .int (nI wh)]) (rest := [.long (dd * (lZ 31))]) ⟨hx, hb, hml, hown, hts⟩ (c_X1_told l hst D q cI cZ cJ 0 k V C A T B P OR n PR ST li w WK so sp CT FW H.size i wh hk8 (by omega) (by omega)) (cwV 2 hts gX1_digest_X1_told rfl rfl rfl hd_X1_told ⟨(by rw [hR]; exact Nat.le_of_ble_eq_true rfl), (by rw [hR]; exact Nat.le_of_ble_eq_true rfl)⟩) (pre_V hP hK hD hS hA hZ hg 0 (ci := 1) rfl rfl) rfl rfl hl.1 rfl (lv_room (Nat.le_of_ble_eq_true rfl)) dX1_digest_43 ⟨(by rw [hR]; exact Nat.le_of_ble_eq_true rfl), (by rw [hR]; exact Nat.le_of_ble_eq_true rfl)⟩) hD hS hA (fun r_2 u_1 H locs hp_3 hP hD hS => ?_)
              subst hp_3
              refine lv_i2l hx hb dX1_digest_46 rfl ?_
              refine lv_ladd hx hb dX1_digest_47 ?_
              refine lv_lstore_n (lv' := [(1, .long ((dd * (lZ 31)) + ((nI (tld V T B P i wh)).toInt64))), (4, .int (nI wh)), (3, .int (nI i)), (0, .ref (q 0))]) hx hb dX1_digest_48 rfl hl (by decide) rfl (fun ls hl => ?_)
              refine lv_iinc (v := nI (wh + 1)) (lv' := [(4, .int (nI (wh + 1))), (1, .long ((dd * (lZ 31)) + ((nI (tld V T B P i wh)).toInt64))), (3, .int (nI i)), (0, .ref (q 0))]) hx hb dX1_digest_49 hl (k := 1) rfl (ni_inc _ 1) (by decide) rfl (fun ls hl => ?_)
              refine lv_goto (tgt := 28) hx hb dX1_digest_52 (by decide) ?_
              exact ih_28 (wh + 1) ((dd * (lZ 31)) + ((nI (tld V T B P i wh)).toInt64)) (by omega) (by omega) (by rw [hs1]; rfl) _ _ hP hD hS ls (lv_sub hl [0, 1, 2, 3] rfl)
        exact lp_28 _ 0 d (Nat.lt_succ_self _) (by omega) rfl _ _ hP hD hS ls (lv_sub hl [0, 2, 1, 3] rfl)
  exact lp_17 _ 0 ((lZ 5611) + ((nI k).toInt64)) (Nat.lt_succ_self _) (by omega) (by rw [show (lZ 5611 : Int64) = lZ 181 * lZ 31 by decide]; rfl) _ _ hP hD hS ls (lv_sub hl [0, 1, 2] rfl)
theorem hd_X1_digest : yX1_digest.cls = RX1 ∧ yX1_digest.cls ≠ "java/lang/invoke/MethodHandle" ∧ yX1_digest.cls ≠ "java/lang/invoke/VarHandle" ∧ (parseMethodDescriptor yX1_digest.desc).map (fun d => d.parameters.length) = some 0 := by decide +kernel
