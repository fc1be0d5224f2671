set_option maxHeartbeats 4000000 in
set_option maxRecDepth 100000 in
theorem c_X0_fill (l : Launch) (hst : l.stackTraces = false) (D : va_G) (q : Nat → Nat) (cI cZ cJ : ClassId) (k : Nat) (V : Nat → Nat) (C : Nat → Nat) (T : Nat → Nat) (B : Nat → Nat) (P : Nat → Nat) (A : Nat → Nat) (n : Nat) (PR : Nat → Nat) (ST : Nat → Nat) (li : Nat) (w : Nat) (WK : Nat → Nat) (so : Nat) (sp : Nat) (CT : Nat → Int64) (SC : Nat → Int) (TA : Nat → Nat) (sz : Nat) (p0 : Int32) (p1 : Int32) (hk8 : k ≤ 8) (hV : ∀ i, i < k → 1 ≤ V i ∧ V i ≤ 500) (hC : ∀ i, i < k → C i ≤ 60 ∧ T i ≤ C i) : vx_Met l yX0_fill wsX0_fill ({ frames := 7, cells := 2, slots := 12, locals := 111 }) (va_Pc [.ref (q 0), .int p0, .int p1] (cxP D (ty3 cI cZ cJ) (wX q cI cZ cJ k V C T B P A n PR ST li w WK so sp CT SC TA) sz)) (va_Qi (fun r (u : Nat × Nat) => r = nI (u.2 - min u.2 (C u.1 - T u.1)) ∧ u.1 < k ∧ u.2 < 61 ∧ p0 = nI u.1 ∧ p1 = nI u.2) (bW D (va_A (wX q cI cZ cJ k V C T B P A n PR ST li w WK so sp CT SC TA) sz) (fun u => (wX q cI cZ cJ k V C (un T u.1 (T u.1 + min u.2 (C u.1 - T u.1))) B P A n PR ST li w WK so sp (vp_updL CT 4 (CT 4 + lZ ((min u.2 (C u.1 - T u.1) * V u.1 : Nat) : Int))) SC TA))) (va_A (wX q cI cZ cJ k V C T B P A n PR ST li w WK so sp CT SC TA) sz)) (xX D (fun E => (E = eIB ∧ ¬ rg p0 0 k) ∨ (E = eIA ∧ rg p0 0 k ∧ ¬ rg p1 0 61)) (wX q cI cZ cJ k V C T B P A n PR ST li w WK so sp CT SC TA) (va_A (wX q cI cZ cJ k V C T B P A n PR ST li w WK so sp CT SC TA) sz)) 2 12 (va_A (wX q cI cZ cJ k V C T B P A n PR ST li w WK so sp CT SC TA) sz) := by
  refine vx_ofW (cc := cX0_fill) (maxL := 4) (ret := (some .int)) (by decide) rfl ?_
  intro p e s m args below meth c s₁ BB hml hout hv
  obtain ⟨hav, hsz, hP, hK, hD0, hZ, hg⟩ := hv
  subst hsz
  subst hav
  have hx := BB.exec
  have hb := BB.bytes
  have hr := BB.returns
  have hts := atoms_spec (ws := wsX0_fill) BB.pre
  have hown : s.vm.findClass RX0 = some m.cls := findClass_of_methodNamed BB.named
  have hlocks := BB.notSynchronized
  have hin : ∀ w ∈ wsX00, w ∈ wsX0_fill := fun w h => (List.mem_cons_of_mem _ (List.mem_append_left _ (List.mem_append_left _ (List.mem_append_right _ h))))
  have hD := hD0.self (sz := s.heap.size)
  have hA : ∀ q9 : Nat, s.heap.size ≤ q9 → va_A (wX q cI cZ cJ k V C T B P A n PR ST li w WK so sp CT SC TA) s.heap.size q9 := fun _ h => Or.inr h
  have hl := lv_entry ([.ref (q 0), .int p0, .int p1]) (n := 4) (Nat.le_of_ble_eq_true rfl)
  rw [lg_entry_eq]
  generalize (lg_sl ([.ref (q 0), .int p0, .int p1]) ++ List.replicate (4 - (lg_sl ([.ref (q 0), .int p0, .int p1])).length) Slot.unset).toArray = ls at hl ⊢
  have hl : lv_has ls 4 [(0, .ref (q 0)), (1, .int p0), (2, .int p1)] := hl
  refine W_absR (fun R hR => ?_)
  have hR : R = ({ frames := 7, cells := 2, slots := 12, locals := 111 } : Room) := hR
  refine W_absQ (fun Q hQ => ?_)
  generalize ([.ref (q 0), .int p0, .int p1] : List Value).toArray = args at hts hQ ⊢
  generalize va_A (wX q cI cZ cJ k V C T B P A n PR ST li w WK so sp CT SC TA) s.heap.size = A9 at hD hZ hA hQ
  refine W_start hP (A := A9) (fun H locs hP hS => ?_)
  refine lv_aload_n hx hb dX0_fill_0 rfl (lv_at hl 0 rfl) ?_
  refine lv_iload_n hx hb dX0_fill_1 rfl (lv_at hl 1 rfl) ?_
  subst hQ
  refine kx_v (vx_runV (As := [.int p0]) (rest := []) ⟨hx, hb, hml, hown, hts⟩ (c_X0_checkKind l hst D q cI cZ cJ k V C T B P A n PR ST li w WK so sp CT SC TA H.size p0 hk8) (cwV 1 hts gX0_fill_X0_checkKind rfl rfl rfl hd_X0_checkKind ⟨(by rw [hR]; exact Nat.le_of_ble_eq_true rfl), (by rw [hR]; exact Nat.le_of_ble_eq_true rfl)⟩) (pre_V hP hK hD hS hA hZ hg 0 (ci := 0) rfl rfl) rfl rfl hl.1 rfl (lv_room (Nat.le_of_ble_eq_true rfl)) dX0_fill_2 ⟨(by rw [hR]; exact Nat.le_of_ble_eq_true rfl), (by rw [hR]; exact Nat.le_of_ble_eq_true rfl)⟩) hD hS hA rfl (fun E h => Or.inl h) hout hlocks (Nat.le_of_ble_eq_true rfl) (Nat.le_of_ble_eq_true rfl) (fun u_1 H locs hp_3 hP hD hS => ?_)
  refine W_absQ (fun Q hQ => ?_)
  obtain ⟨j0, j0a, j0b, rfl⟩ := hp_3
  refine lv_iload_n hx hb dX0_fill_5 rfl (lv_at hl 2 rfl) ?_
  subst hQ
  refine kx_v (vx_runS (As := [.int p1]) (rest := []) ⟨hx, hb, hml, hown, hts⟩ (c_X0_checkMany l hst D q cI cZ cJ k V C T B P A n PR ST li w WK so sp CT SC TA H.size p1) (va_cwS 1 hts gX0_fill_X0_checkMany rfl rfl rfl hd_X0_checkMany.2 ⟨(by rw [hR]; exact Nat.le_of_ble_eq_true rfl), (by rw [hR]; exact Nat.le_of_ble_eq_true rfl)⟩) (pre_S hP hK hD hS hA hZ hg) rfl rfl hl.1 rfl (lv_room (Nat.le_of_ble_eq_true rfl)) dX0_fill_6 ⟨(by rw [hR]; exact Nat.le_of_ble_eq_true rfl), (by rw [hR]; exact Nat.le_of_ble_eq_true rfl)⟩) hD hS hA rfl (fun E h => Or.inr ⟨h.1, ⟨j0, j0a, j0b, rfl⟩, h.2⟩) hout hlocks (Nat.le_of_ble_eq_true rfl) (Nat.le_of_ble_eq_true rfl) (fun u_4 H locs hp_6 hP hD hS => ?_)
  refine W_absQ (fun Q hQ => ?_)
  obtain ⟨j1, j1a, j1b, rfl⟩ := hp_6
  refine lv_iload_n hx hb dX0_fill_9 rfl (lv_at hl 2 rfl) ?_
  refine lv_aload_n hx hb dX0_fill_10 rfl (lv_at hl 0 rfl) ?_
  refine gfX hx hb hts hin hown hK hP 2 (by decide) (List.mem_of_getElem? (i := 1) rfl) rfl rfl dX0_fill_11 ?_
  refine lv_iload_n hx hb dX0_fill_14 rfl (lv_at hl 1 rfl) ?_
  refine n_iald hx hb hK hP 2 0 rfl rfl (by omega) (by decide) dX0_fill_15 ?_
  refine lv_aload_n hx hb dX0_fill_16 rfl (lv_at hl 0 rfl) ?_
  refine gfX hx hb hts hin hown hK hP 3 (by decide) (List.mem_of_getElem? (i := 2) rfl) rfl rfl dX0_fill_17 ?_
  refine lv_iload_n hx hb dX0_fill_20 rfl (lv_at hl 1 rfl) ?_
  refine n_iald hx hb hK hP 3 0 rfl rfl (by omega) (by decide) dX0_fill_21 ?_
  refine n_isub hx hb (by have h1 := hC j0 j0b; omega) dX0_fill_22 ?_
  refine va_mmin hx hb (hml.trans hl.1.symm) hown (hts _ (List.mem_of_getElem? (i := 3) rfl)) (hts _ (List.mem_of_getElem? (i := 4) rfl)) (hts _ (List.mem_of_getElem? (i := 5) rfl)) (hts _ (List.mem_of_getElem? (i := 6) rfl)) (by rw [hR]; exact Nat.le_of_ble_eq_true rfl) (by rw [hR]; exact Nat.le_of_ble_eq_true rfl) (by rw [hR]; exact Nat.le_of_ble_eq_true rfl) (by rw [hR]; exact Nat.le_of_ble_eq_true rfl) dX0_fill_23 (n_top (nI_min _ _ (by omega) (by have h1 := hC j0 j0b; omega)) ?_)
  refine lv_istore_n (lv' := [(3, .int (nI (min j1 ((C j0) - (T j0))))), (0, .ref (q 0)), (1, .int (nI j0)), (2, .int (nI j1))]) hx hb dX0_fill_26 rfl hl (by decide) rfl (fun ls hl => ?_)
  refine lv_aload_n hx hb dX0_fill_27 rfl (lv_at hl 1 rfl) ?_
  refine gfX hx hb hts hin hown hK hP 3 (by decide) (List.mem_of_getElem? (i := 2) rfl) rfl rfl dX0_fill_28 ?_
  refine lv_iload_n hx hb dX0_fill_31 rfl (lv_at hl 2 rfl) ?_
  refine lv_dup2_11 hx hb dX0_fill_32 rfl rfl ?_
  refine n_iald hx hb hK hP 3 0 rfl rfl (by omega) (by decide) dX0_fill_33 ?_
  refine lv_iload_n hx hb dX0_fill_34 rfl (lv_at hl 0 rfl) ?_
  refine n_iadd hx hb dX0_fill_35 ?_
  refine n_iast (ws' := (wX q cI cZ cJ k V C (un T j0 ((T j0) + (min j1 ((C j0) - (T j0))))) B P A n PR ST li w WK so sp CT SC TA)) hx hb hK hP hD hS 3 0 rfl rfl (by omega) (by decide) rfl dX0_fill_36 (fun H locs hP hD hS => ?_)
  refine lv_aload_n hx hb dX0_fill_37 rfl (lv_at hl 1 rfl) ?_
  refine gfX hx hb hts hin hown hK hP 15 (by decide) (List.mem_of_getElem? (i := 7) rfl) rfl rfl dX0_fill_38 ?_
  refine lv_iconst (v := nI 4) hx hb dX0_fill_41 (ic_4) ?_
  refine lv_dup2_11 hx hb dX0_fill_42 rfl rfl ?_
  refine n_lald hx hb hK hP 10 2 rfl rfl (by omega) (by decide) dX0_fill_43 ?_
  refine lv_iload_n hx hb dX0_fill_44 rfl (lv_at hl 0 rfl) ?_
  refine lv_aload_n hx hb dX0_fill_45 rfl (lv_at hl 1 rfl) ?_
  refine gfX hx hb hts hin hown hK hP 1 (by decide) (List.mem_of_getElem? (i := 8) rfl) rfl rfl dX0_fill_46 ?_
  refine lv_iload_n hx hb dX0_fill_49 rfl (lv_at hl 2 rfl) ?_
  refine n_iald hx hb hK hP 1 0 rfl rfl (by omega) (by decide) dX0_fill_50 ?_
  refine n_imul hx hb dX0_fill_51 ?_
  refine n_i2l hx hb (by have h1 := hC j0 j0b; have h2 := hV j0 j0b; have h3 : min j1 (C j0 - T j0) * V j0 ≤ 60 * 500 := Nat.mul_le_mul (by omega) (by omega); omega) dX0_fill_52 ?_
  refine lv_ladd hx hb dX0_fill_53 ?_
  refine n_last (ws' := (wX q cI cZ cJ k V C (un T j0 ((T j0) + (min j1 ((C j0) - (T j0))))) B P A n PR ST li w WK so sp (vp_updL CT 4 ((CT 4) + (lZ (((min j1 ((C j0) - (T j0))) * (V j0) : Nat) : Int)))) SC TA)) hx hb hK hP hD hS 10 2 rfl rfl (by omega) (by decide) rfl dX0_fill_54 (fun H locs hP hD hS => ?_)
  refine lv_iload_n hx hb dX0_fill_55 rfl (lv_at hl 3 rfl) ?_
  refine lv_iload_n hx hb dX0_fill_56 rfl (lv_at hl 0 rfl) ?_
  refine n_isub hx hb (by omega) dX0_fill_57 ?_
  subst hQ
  exact vx_ret (e_i (j0, j1) hx hb hr hlocks hS hP hD (⟨rfl, j0b, j1b, rfl, rfl⟩) (Nat.le_of_ble_eq_true rfl) (Nat.le_of_ble_eq_true rfl) dX0_fill_58)
theorem hd_X0_fill : yX0_fill.cls = RX0 ∧ yX0_fill.cls ≠ "java/lang/invoke/MethodHandle" ∧ yX0_fill.cls ≠ "java/lang/invoke/VarHandle" ∧ (parseMethodDescriptor yX0_fill.desc).map (fun d => d.parameters.length) = some 2 := by decide +kernel

set_option maxHeartbeats 4000000 in
set_option maxRecDepth 100000 in
theorem c_X0_addProduct (l : Launch) (hst : l.stackTraces = false) (D : va_G) (q : Nat → Nat) (cI cZ cJ : ClassId) (k : Nat) (V : Nat → Nat) (C : Nat → Nat) (T : Nat → Nat) (B : Nat → Nat) (P : Nat → Nat) (A : Nat → Nat) (n : Nat) (PR : Nat → Nat) (ST : Nat → Nat) (li : Nat) (w : Nat) (WK : Nat → Nat) (so : Nat) (sp : Nat) (CT : Nat → Int64) (SC : Nat → Int) (TA : Nat → Nat) (sz : Nat) (p0 : Int32) (p1 : Int32) (hn10 : n ≤ 10) : vx_Met l yX0_addProduct wsX0_addProduct ({ frames := 7, cells := 2, slots := 12, locals := 111 }) (va_Pc [.ref (q 0), .int p0, .int p1] (cxP D (ty3 cI cZ cJ) (wX q cI cZ cJ k V C T B P A n PR ST li w WK so sp CT SC TA) sz)) (va_Qi (fun r (u : Nat × Nat) => r = nI n ∧ 1 ≤ u.1 ∧ u.1 < 2001 ∧ u.2 < 100 ∧ p0 = nI u.1 ∧ p1 = nI u.2 ∧ n < 10) (bW D (va_A (wX q cI cZ cJ k V C T B P A n PR ST li w WK so sp CT SC TA) sz) (fun u => (wX q cI cZ cJ k V C T B P A (n + 1) (un PR n u.1) (un ST n u.2) li w WK so sp CT SC TA))) (va_A (wX q cI cZ cJ k V C T B P A n PR ST li w WK so sp CT SC TA) sz)) (xX D (fun E => (E = eIA ∧ ¬ (rg p0 1 2001 ∧ rg p1 0 100)) ∨ (E = eIS ∧ (rg p0 1 2001 ∧ rg p1 0 100) ∧ ¬ n < 10)) (wX q cI cZ cJ k V C T B P A n PR ST li w WK so sp CT SC TA) (va_A (wX q cI cZ cJ k V C T B P A n PR ST li w WK so sp CT SC TA) sz)) 2 12 (va_A (wX q cI cZ cJ k V C T B P A n PR ST li w WK so sp CT SC TA) sz) := by
  refine vx_ofW (cc := cX0_addProduct) (maxL := 3) (ret := (some .int)) (by decide) rfl ?_
  intro p e s m args below meth c s₁ BB hml hout hv
  obtain ⟨hav, hsz, hP, hK, hD0, hZ, hg⟩ := hv
  subst hsz
  subst hav
  have hx := BB.exec
  have hb := BB.bytes
  have hr := BB.returns
  have hts := atoms_spec (ws := wsX0_addProduct) BB.pre
  have hown : s.vm.findClass RX0 = some m.cls := findClass_of_methodNamed BB.named
  have hlocks := BB.notSynchronized
  have hin : ∀ w ∈ wsX00, w ∈ wsX0_addProduct := fun w h => (List.mem_cons_of_mem _ (List.mem_append_left _ (List.mem_append_left _ (List.mem_append_right _ h))))
  have hD := hD0.self (sz := s.heap.size)
  have hA : ∀ q9 : Nat, s.heap.size ≤ q9 → va_A (wX q cI cZ cJ k V C T B P A n PR ST li w WK so sp CT SC TA) s.heap.size q9 := fun _ h => Or.inr h
  have hl := lv_entry ([.ref (q 0), .int p0, .int p1]) (n := 3) (Nat.le_of_ble_eq_true rfl)
  rw [lg_entry_eq]
  generalize (lg_sl ([.ref (q 0), .int p0, .int p1]) ++ List.replicate (3 - (lg_sl ([.ref (q 0), .int p0, .int p1])).length) Slot.unset).toArray = ls at hl ⊢
  have hl : lv_has ls 3 [(0, .ref (q 0)), (1, .int p0), (2, .int p1)] := hl
  refine W_absR (fun R hR => ?_)
  have hR : R = ({ frames := 7, cells := 2, slots := 12, locals := 111 } : Room) := hR
  refine W_absQ (fun Q hQ => ?_)
  generalize ([.ref (q 0), .int p0, .int p1] : List Value).toArray = args at hts hQ ⊢
  generalize va_A (wX q cI cZ cJ k V C T B P A n PR ST li w WK so sp CT SC TA) s.heap.size = A9 at hD hZ hA hQ
  refine W_start hP (A := A9) (fun H locs hP hS => ?_)
  refine lv_iload_n hx hb dX0_addProduct_0 rfl (lv_at hl 1 rfl) ?_
  refine lv_iload_n hx hb dX0_addProduct_1 rfl (lv_at hl 2 rfl) ?_
  subst hQ
  refine kx_v (vx_runS (As := [.int p0, .int p1]) (rest := []) ⟨hx, hb, hml, hown, hts⟩ (c_X0_checkPriceAndStock l hst D q cI cZ cJ k V C T B P A n PR ST li w WK so sp CT SC TA H.size p0 p1) (va_cwS 2 hts gX0_addProduct_X0_checkPriceAndStock rfl rfl rfl hd_X0_checkPriceAndStock.2 ⟨(by rw [hR]; exact Nat.le_of_ble_eq_true rfl), (by rw [hR]; exact Nat.le_of_ble_eq_true rfl)⟩) (pre_S hP hK hD hS hA hZ hg) rfl rfl hl.1 rfl (lv_room (Nat.le_of_ble_eq_true rfl)) dX0_addProduct_2 ⟨(by rw [hR]; exact Nat.le_of_ble_eq_true rfl), (by rw [hR]; exact Nat.le_of_ble_eq_true rfl)⟩) hD hS hA rfl (fun E h => Or.inl h) hout hlocks (Nat.le_of_ble_eq_true rfl) (Nat.le_of_ble_eq_true rfl) (fun u_1 H locs hp_3 hP hD hS => ?_)
  refine W_absQ (fun Q hQ => ?_)
  obtain ⟨⟨j0, j0a, j0b, rfl⟩, ⟨j1, j1a, j1b, rfl⟩⟩ := hp_3
  refine lv_aload_n hx hb dX0_addProduct_5 rfl (lv_at hl 0 rfl) ?_
  refine gfX hx hb hts hin hown hK hP 7 (by decide) (List.mem_of_getElem? (i := 3) rfl) rfl rfl dX0_addProduct_6 ?_
  refine lv_bipush (v := nI 10) hx hb dX0_addProduct_9 (by decide) ?_
  refine n_icmp_lt (tgt := 24) hx hb (by omega) (by omega) dX0_addProduct_11 (by decide) (fun c11 => ?_) (fun c11 => ?_)
  · refine lv_aload_n hx hb dX0_addProduct_24 rfl (lv_at hl 0 rfl) ?_
    refine gfX hx hb hts hin hown hK hP 8 (by decide) (List.mem_of_getElem? (i := 4) rfl) rfl rfl dX0_addProduct_25 ?_
    refine lv_aload_n hx hb dX0_addProduct_28 rfl (lv_at hl 0 rfl) ?_
    refine gfX hx hb hts hin hown hK hP 7 (by decide) (List.mem_of_getElem? (i := 3) rfl) rfl rfl dX0_addProduct_29 ?_
    refine lv_iload_n hx hb dX0_addProduct_32 rfl (lv_at hl 1 rfl) ?_
    refine n_iast (ws' := (wX q cI cZ cJ k V C T B P A n (un PR n j0) ST li w WK so sp CT SC TA)) hx hb hK hP hD hS 7 0 rfl rfl (by omega) (by decide) rfl dX0_addProduct_33 (fun H locs hP hD hS => ?_)
    refine lv_aload_n hx hb dX0_addProduct_34 rfl (lv_at hl 0 rfl) ?_
    refine gfX hx hb hts hin hown hK hP 9 (by decide) (List.mem_of_getElem? (i := 5) rfl) rfl rfl dX0_addProduct_35 ?_
    refine lv_aload_n hx hb dX0_addProduct_38 rfl (lv_at hl 0 rfl) ?_
    refine gfX hx hb hts hin hown hK hP 7 (by decide) (List.mem_of_getElem? (i := 3) rfl) rfl rfl dX0_addProduct_39 ?_
    refine lv_iload_n hx hb dX0_addProduct_42 rfl (lv_at hl 2 rfl) ?_
    refine n_iast (ws' := (wX q cI cZ cJ k V C T B P A n (un PR n j0) (un ST n j1) li w WK so sp CT SC TA)) hx hb hK hP hD hS 8 0 rfl rfl (by omega) (by decide) rfl dX0_addProduct_43 (fun H locs hP hD hS => ?_)
    refine lv_aload_n hx hb dX0_addProduct_44 rfl (lv_at hl 0 rfl) ?_
    refine lv_dup hx hb dX0_addProduct_45 rfl ?_
    refine gfX hx hb hts hin hown hK hP 7 (by decide) (List.mem_of_getElem? (i := 3) rfl) rfl rfl dX0_addProduct_46 ?_
    refine lv_iconst (v := nI 1) hx hb dX0_addProduct_49 (ic_1) ?_
    refine n_iadd hx hb dX0_addProduct_50 ?_
    refine pfX (ws' := (wX q cI cZ cJ k V C T B P A (n + 1) (un PR n j0) (un ST n j1) li w WK so sp CT SC TA)) hx hb hts hin hown hK hP hD hS 7 (by decide) (List.mem_of_getElem? (i := 3) rfl) rfl ⟨rfl, rfl⟩ rfl rfl dX0_addProduct_51 (fun H locs hP hD hS => ?_)
    refine lv_aload_n hx hb dX0_addProduct_54 rfl (lv_at hl 0 rfl) ?_
    refine gfX hx hb hts hin hown hK hP 7 (by decide) (List.mem_of_getElem? (i := 3) rfl) rfl rfl dX0_addProduct_55 ?_
    refine lv_iconst (v := nI 1) hx hb dX0_addProduct_58 (ic_1) ?_
    refine n_isub hx hb (by omega) dX0_addProduct_59 ?_
    refine n_top (congrArg nI (show (n + 1) - 1 = n by omega)) ?_
    subst hQ
    exact vx_ret (e_i (j0, j1) hx hb hr hlocks hS hP hD (⟨rfl, j0a, j0b, j1b, rfl, rfl, by omega⟩) (Nat.le_of_ble_eq_true rfl) (Nat.le_of_ble_eq_true rfl) dX0_addProduct_60)
  · subst hQ
    exact k_throw hx hb hst (cls := eIS) hown (by decide +kernel) (hts _ (List.mem_of_getElem? (i := 1) rfl)) (hts _ (List.mem_of_getElem? (i := 2) rfl)) (hg.1 (106, "there are 10 products") (by decide)) (k_hat (fun w h => hts w (List.mem_cons_of_mem _ (List.mem_append_left _ (List.mem_append_right _ h)))) (by decide +kernel) hg.2.2.1 hg) (by decide +kernel) hZ hS (hl.1.trans hml.symm) dX0_addProduct_14 dX0_addProduct_17 dX0_addProduct_18 dX0_addProduct_20 dX0_addProduct_23 hout (by rw [hR]; exact Nat.le_of_ble_eq_true rfl) (by rw [hR]; exact Nat.le_of_ble_eq_true rfl) (by rw [hR]; exact Nat.le_of_ble_eq_true rfl) (by rw [hR]; exact Nat.le_of_ble_eq_true rfl) hlocks hP hD (Or.inr ⟨rfl, ⟨⟨j0, j0a, j0b, rfl⟩, ⟨j1, j1a, j1b, rfl⟩⟩, by omega⟩) (Nat.le_of_ble_eq_true rfl) (Nat.le_of_ble_eq_true rfl)
theorem hd_X0_addProduct : yX0_addProduct.cls = RX0 ∧ yX0_addProduct.cls ≠ "java/lang/invoke/MethodHandle" ∧ yX0_addProduct.cls ≠ "java/lang/invoke/VarHandle" ∧ (parseMethodDescriptor yX0_addProduct.desc).map (fun d => d.parameters.length) = some 2 := by decide +kernel

set_option maxHeartbeats 4000000 in
set_option maxRecDepth 100000 in
theorem c_X0_cancel (l : Launch) (hst : l.stackTraces = false) (D : va_G) (q : Nat → Nat) (cI cZ cJ : ClassId) (k : Nat) (V : Nat → Nat) (C : Nat → Nat) (T : Nat → Nat) (B : Nat → Nat) (P : Nat → Nat) (A : Nat → Nat) (n : Nat) (PR : Nat → Nat) (ST : Nat → Nat) (li : Nat) (w : Nat) (WK : Nat → Nat) (so : Nat) (sp : Nat) (CT : Nat → Int64) (SC : Nat → Int) (TA : Nat → Nat) (sz : Nat) (hw12 : w ≤ 12) (hk8 : k ≤ 8) (hWK : ∀ j, j < w → WK j < k) (hV : ∀ i, i < k → 1 ≤ V i ∧ V i ≤ 500) : Met l yX0_cancel wsX0_cancel ({ frames := 2, cells := 0, slots := 0, locals := 45 }) (va_Pc [.ref (q 0)] (cxP D (ty3 cI cZ cJ) (wX q cI cZ cJ k V C T B P A n PR ST li w WK so sp CT SC TA) sz)) (va_Qi (fun r (_ : Unit) => r = nI (cr V WK w)) (bW D (va_A (wX q cI cZ cJ k V C T B P A n PR ST li w WK so sp CT SC TA) sz) (fun (_ : Unit) => (wX q cI cZ cJ k V C T B P A n PR ST li 0 WK so sp (vp_updL CT 1 (CT 1 + lZ ((cr V WK w : Nat) : Int))) SC TA))) (va_A (wX q cI cZ cJ k V C T B P A n PR ST li w WK so sp CT SC TA) sz)) 0 0 (va_A (wX q cI cZ cJ k V C T B P A n PR ST li w WK so sp CT SC TA) sz) := by
  refine Met.ofW (cc := cX0_cancel) (maxL := 2) (ret := (some .int)) (by decide) rfl ?_
  intro p e s m args below meth c s₁ BB hml hv
  obtain ⟨hav, hsz, hP, hK, hD0, hZ, hg⟩ := hv
  subst hsz
  subst hav
  have hx := BB.exec
  have hb := BB.bytes
  have hr := BB.returns
  have hts := atoms_spec (ws := wsX0_cancel) BB.pre
  have hown : s.vm.findClass RX0 = some m.cls := findClass_of_methodNamed BB.named
  have hlocks := BB.notSynchronized
  have hin : ∀ w ∈ wsX00, w ∈ wsX0_cancel := fun w h => (List.mem_cons_of_mem _ (List.mem_append_right _ h))
  have hD := hD0.self (sz := s.heap.size)
  have hA : ∀ q9 : Nat, s.heap.size ≤ q9 → va_A (wX q cI cZ cJ k V C T B P A n PR ST li w WK so sp CT SC TA) s.heap.size q9 := fun _ h => Or.inr h
  have hl := lv_entry ([.ref (q 0)]) (n := 2) (Nat.le_of_ble_eq_true rfl)
  rw [lg_entry_eq]
  generalize (lg_sl ([.ref (q 0)]) ++ List.replicate (2 - (lg_sl ([.ref (q 0)])).length) Slot.unset).toArray = ls at hl ⊢
  have hl : lv_has ls 2 [(0, .ref (q 0))] := hl
  refine W_absR (fun R hR => ?_)
  have hR : R = ({ frames := 2, cells := 0, slots := 0, locals := 45 } : Room) := hR
  refine W_absQ (fun Q hQ => ?_)
  generalize ([.ref (q 0)] : List Value).toArray = args at hts hQ ⊢
  generalize va_A (wX q cI cZ cJ k V C T B P A n PR ST li w WK so sp CT SC TA) s.heap.size = A9 at hD hZ hA hQ
  refine W_start hP (A := A9) (fun H locs hP hS => ?_)
  refine lv_aload_n hx hb dX0_cancel_0 rfl (lv_at hl 0 rfl) ?_
  refine k_i (va_runV (As := []) (rest := []) ⟨hx, hb, hml, hown, hts⟩ (c_X0_credit l hst D q cI cZ cJ k V C T B P A n PR ST li w WK so sp CT SC TA H.size hw12 hk8 hWK hV) (cwV 0 hts gX0_cancel_X0_credit rfl rfl rfl hd_X0_credit ⟨(by rw [hR]; exact Nat.le_of_ble_eq_true rfl), (by rw [hR]; exact Nat.le_of_ble_eq_true rfl)⟩) (pre_V hP hK hD hS hA hZ hg 0 (ci := 0) rfl rfl) rfl rfl hl.1 rfl (lv_room (Nat.le_of_ble_eq_true rfl)) dX0_cancel_1 ⟨(by rw [hR]; exact Nat.le_of_ble_eq_true rfl), (by rw [hR]; exact Nat.le_of_ble_eq_true rfl)⟩) hD hS hA (fun r_2 u_1 H locs hp_3 hP hD hS => ?_)
  subst hp_3
  rw [crk_cr V WK k w hWK]
  refine lv_istore_n (lv' := [(1, .int (nI (cr V WK w))), (0, .ref (q 0))]) hx hb dX0_cancel_4 rfl hl (by decide) rfl (fun ls hl => ?_)
  refine lv_aload_n hx hb dX0_cancel_5 rfl (lv_at hl 1 rfl) ?_
  refine lv_iconst (v := nI 0) hx hb dX0_cancel_6 (ic_0) ?_
  refine pfX (ws' := (wX q cI cZ cJ k V C T B P A n PR ST li 0 WK so sp CT SC TA)) hx hb hts hin hown hK hP hD hS 11 (by decide) (List.mem_of_getElem? (i := 1) rfl) rfl ⟨rfl, rfl⟩ rfl rfl dX0_cancel_7 (fun H locs hP hD hS => ?_)
  refine lv_aload_n hx hb dX0_cancel_10 rfl (lv_at hl 1 rfl) ?_
  refine gfX hx hb hts hin hown hK hP 15 (by decide) (List.mem_of_getElem? (i := 2) rfl) rfl rfl dX0_cancel_11 ?_
  refine lv_iconst (v := nI 1) hx hb dX0_cancel_14 (ic_1) ?_
  refine lv_dup2_11 hx hb dX0_cancel_15 rfl rfl ?_
  refine n_lald hx hb hK hP 10 2 rfl rfl (by omega) (by decide) dX0_cancel_16 ?_
  refine lv_iload_n hx hb dX0_cancel_17 rfl (lv_at hl 0 rfl) ?_
  refine n_i2l hx hb (by have := cr_le hw12 hWK hV; omega) dX0_cancel_18 ?_
  refine lv_ladd hx hb dX0_cancel_19 ?_
  refine n_last (ws' := (wX q cI cZ cJ k V C T B P A n PR ST li 0 WK so sp (vp_updL CT 1 ((CT 1) + (lZ ((cr V WK w : Nat) : Int)))) SC TA)) hx hb hK hP hD hS 10 2 rfl rfl (by omega) (by decide) rfl dX0_cancel_20 (fun H locs hP hD hS => ?_)
  refine lv_iload_n hx hb dX0_cancel_21 rfl (lv_at hl 0 rfl) ?_
  subst hQ
  exact e_i () hx hb hr hlocks hS hP hD rfl (Nat.le_of_ble_eq_true rfl) (Nat.le_of_ble_eq_true rfl) dX0_cancel_22
theorem hd_X0_cancel : yX0_cancel.cls = RX0 ∧ yX0_cancel.cls ≠ "java/lang/invoke/MethodHandle" ∧ yX0_cancel.cls ≠ "java/lang/invoke/VarHandle" ∧ (parseMethodDescriptor yX0_cancel.desc).map (fun d => d.parameters.length) = some 0 := by decide +kernel

set_option maxHeartbeats 4000000 in
set_option maxRecDepth 100000 in
theorem c_X0_toldOfKind (l : Launch) (hst : l.stackTraces = false) (D : va_G) (q : Nat → Nat) (cI cZ cJ : ClassId) (k : Nat) (V : Nat → Nat) (C : Nat → Nat) (T : Nat → Nat) (B : Nat → Nat) (P : Nat → Nat) (A : Nat → Nat) (n : Nat) (PR : Nat → Nat) (ST : Nat → Nat) (li : Nat) (w : Nat) (WK : Nat → Nat) (so : Nat) (sp : Nat) (CT : Nat → Int64) (SC : Nat → Int) (TA : Nat → Nat) (sz : Nat) (kd : Nat) (wh : Nat) (hk8 : k ≤ 8) (hkd : kd < 8) (hwh : wh < 4) : Met l yX0_toldOfKind wsX0_toldOfKind ({ frames := 0, cells := 0, slots := 0, locals := 0 }) (va_Pc [.ref (q 0), .int (nI kd), .int (nI wh)] (cxP D (ty3 cI cZ cJ) (wX q cI cZ cJ k V C T B P A n PR ST li w WK so sp CT SC TA) sz)) (va_Qi (fun r (_ : Unit) => r = nI (tld V T B P kd wh)) (bW D (va_A (wX q cI cZ cJ k V C T B P A n PR ST li w WK so sp CT SC TA) sz) (fun (_ : Unit) => (wX q cI cZ cJ k V C T B P A n PR ST li w WK so sp CT SC TA))) (va_A (wX q cI cZ cJ k V C T B P A n PR ST li w WK so sp CT SC TA) sz)) 0 0 (va_A (wX q cI cZ cJ k V C T B P A n PR ST li w WK so sp CT SC TA) sz) := by
  refine Met.ofW (cc := cX0_toldOfKind) (maxL := 3) (ret := (some .int)) (by decide) rfl ?_
  intro p e s m args below meth c s₁ BB hml hv
  obtain ⟨hav, hsz, hP, hK, hD0, hZ, hg⟩ := hv
  subst hsz
  subst hav
  have hx := BB.exec
  have hb := BB.bytes
  have hr := BB.returns
  have hts := atoms_spec (ws := wsX0_toldOfKind) BB.pre
  have hown : s.vm.findClass RX0 = some m.cls := findClass_of_methodNamed BB.named
  have hlocks := BB.notSynchronized
  have hin : ∀ w ∈ wsX00, w ∈ wsX0_toldOfKind := fun w h => (List.mem_cons_of_mem _ (List.mem_append_right _ h))
  have hD := hD0.self (sz := s.heap.size)
  have hA : ∀ q9 : Nat, s.heap.size ≤ q9 → va_A (wX q cI cZ cJ k V C T B P A n PR ST li w WK so sp CT SC TA) s.heap.size q9 := fun _ h => Or.inr h
  have hl := lv_entry ([.ref (q 0), .int (nI kd), .int (nI wh)]) (n := 3) (Nat.le_of_ble_eq_true rfl)
  rw [lg_entry_eq]
  generalize (lg_sl ([.ref (q 0), .int (nI kd), .int (nI wh)]) ++ List.replicate (3 - (lg_sl ([.ref (q 0), .int (nI kd), .int (nI wh)])).length) Slot.unset).toArray = ls at hl ⊢
  have hl : lv_has ls 3 [(0, .ref (q 0)), (1, .int (nI kd)), (2, .int (nI wh))] := hl
  refine W_absR (fun R hR => ?_)
  have hR : R = ({ frames := 0, cells := 0, slots := 0, locals := 0 } : Room) := hR
  refine W_absQ (fun Q hQ => ?_)
  generalize ([.ref (q 0), .int (nI kd), .int (nI wh)] : List Value).toArray = args at hts hQ ⊢
  generalize va_A (wX q cI cZ cJ k V C T B P A n PR ST li w WK so sp CT SC TA) s.heap.size = A9 at hD hZ hA hQ
  refine W_start hP (A := A9) (fun H locs hP hS => ?_)
  refine lv_iload_n hx hb dX0_toldOfKind_0 rfl (lv_at hl 2 rfl) ?_
  obtain rfl | rfl | rfl | rfl : wh = 0 ∨ wh = 1 ∨ wh = 2 ∨ wh = 3 := by omega
  · refine lv_tableIn (tgt := 32) hx hb dX0_toldOfKind_1 (by decide) (by decide) (off := 31) (by decide) (by decide) ?_
    refine lv_aload_n hx hb dX0_toldOfKind_32 rfl (lv_at hl 0 rfl) ?_
    refine gfX hx hb hts hin hown hK hP 1 (by decide) (List.mem_of_getElem? (i := 1) rfl) rfl rfl dX0_toldOfKind_33 ?_
    refine lv_iload_n hx hb dX0_toldOfKind_36 rfl (lv_at hl 1 rfl) ?_
    refine n_iald hx hb hK hP 1 0 rfl rfl (by omega) (by decide) dX0_toldOfKind_37 ?_
    subst hQ
    exact e_i () hx hb hr hlocks hS hP hD rfl (Nat.le_of_ble_eq_true rfl) (Nat.le_of_ble_eq_true rfl) dX0_toldOfKind_38
  · refine lv_tableIn (tgt := 39) hx hb dX0_toldOfKind_1 (by decide) (by decide) (off := 38) (by decide) (by decide) ?_
    refine lv_aload_n hx hb dX0_toldOfKind_39 rfl (lv_at hl 0 rfl) ?_
    refine gfX hx hb hts hin hown hK hP 3 (by decide) (List.mem_of_getElem? (i := 2) rfl) rfl rfl dX0_toldOfKind_40 ?_
    refine lv_iload_n hx hb dX0_toldOfKind_43 rfl (lv_at hl 1 rfl) ?_
    refine n_iald hx hb hK hP 3 0 rfl rfl (by omega) (by decide) dX0_toldOfKind_44 ?_
    subst hQ
    exact e_i () hx hb hr hlocks hS hP hD rfl (Nat.le_of_ble_eq_true rfl) (Nat.le_of_ble_eq_true rfl) dX0_toldOfKind_45
  · refine lv_tableIn (tgt := 46) hx hb dX0_toldOfKind_1 (by decide) (by decide) (off := 45) (by decide) (by decide) ?_
    refine lv_aload_n hx hb dX0_toldOfKind_46 rfl (lv_at hl 0 rfl) ?_
    refine gfX hx hb hts hin hown hK hP 4 (by decide) (List.mem_of_getElem? (i := 3) rfl) rfl rfl dX0_toldOfKind_47 ?_
    refine lv_iload_n hx hb dX0_toldOfKind_50 rfl (lv_at hl 1 rfl) ?_
    refine n_iald hx hb hK hP 4 0 rfl rfl (by omega) (by decide) dX0_toldOfKind_51 ?_
    subst hQ
    exact e_i () hx hb hr hlocks hS hP hD rfl (Nat.le_of_ble_eq_true rfl) (Nat.le_of_ble_eq_true rfl) dX0_toldOfKind_52
  · refine lv_tableIn (tgt := 53) hx hb dX0_toldOfKind_1 (by decide) (by decide) (off := 52) (by decide) (by decide) ?_
    refine lv_aload_n hx hb dX0_toldOfKind_53 rfl (lv_at hl 0 rfl) ?_
    refine gfX hx hb hts hin hown hK hP 5 (by decide) (List.mem_of_getElem? (i := 4) rfl) rfl rfl dX0_toldOfKind_54 ?_
    refine lv_iload_n hx hb dX0_toldOfKind_57 rfl (lv_at hl 1 rfl) ?_
    refine n_iald hx hb hK hP 5 0 rfl rfl (by omega) (by decide) dX0_toldOfKind_58 ?_
    subst hQ
    exact e_i () hx hb hr hlocks hS hP hD rfl (Nat.le_of_ble_eq_true rfl) (Nat.le_of_ble_eq_true rfl) dX0_toldOfKind_59
theorem hd_X0_toldOfKind : yX0_toldOfKind.cls = RX0 ∧ yX0_toldOfKind.cls ≠ "java/lang/invoke/MethodHandle" ∧ yX0_toldOfKind.cls ≠ "java/lang/invoke/VarHandle" ∧ (parseMethodDescriptor yX0_toldOfKind.desc).map (fun d => d.parameters.length) = some 2 := by decide +kernel

set_option maxHeartbeats 4000000 in
set_option maxRecDepth 100000 in
theorem c_X0_coins (l : Launch) (hst : l.stackTraces = false) (D : va_G) (q : Nat → Nat) (cI cZ cJ : ClassId) (k : Nat) (V : Nat → Nat) (C : Nat → Nat) (T : Nat → Nat) (B : Nat → Nat) (P : Nat → Nat) (A : Nat → Nat) (n : Nat) (PR : Nat → Nat) (ST : Nat → Nat) (li : Nat) (w : Nat) (WK : Nat → Nat) (so : Nat) (sp : Nat) (CT : Nat → Int64) (SC : Nat → Int) (TA : Nat → Nat) (sz : Nat) (p0 : Int32) (p1 : Int32) (hk8 : k ≤ 8) : vx_Met l yX0_coins wsX0_coins ({ frames := 7, cells := 2, slots := 12, locals := 111 }) (va_Pc [.ref (q 0), .int p0, .int p1] (cxP D (ty3 cI cZ cJ) (wX q cI cZ cJ k V C T B P A n PR ST li w WK so sp CT SC TA) sz)) (va_Qi (fun r (u : Nat × Nat) => r = nI (tld V T B P u.1 u.2) ∧ u.1 < k ∧ u.2 < 4 ∧ p0 = nI u.1 ∧ p1 = nI u.2) (bW D (va_A (wX q cI cZ cJ k V C T B P A n PR ST li w WK so sp CT SC TA) sz) (fun u => (wX q cI cZ cJ k V C T B P A n PR ST li w WK so sp CT SC TA))) (va_A (wX q cI cZ cJ k V C T B P A n PR ST li w WK so sp CT SC TA) sz)) (xX D (fun E => E = eIB ∧ ¬ (rg p0 0 k ∧ rg p1 0 4)) (wX q cI cZ cJ k V C T B P A n PR ST li w WK so sp CT SC TA) (va_A (wX q cI cZ cJ k V C T B P A n PR ST li w WK so sp CT SC TA) sz)) 2 12 (va_A (wX q cI cZ cJ k V C T B P A n PR ST li w WK so sp CT SC TA) sz) := by
  refine vx_ofW (cc := cX0_coins) (maxL := 3) (ret := (some .int)) (by decide) rfl ?_
  intro p e s m args below meth c s₁ BB hml hout hv
  obtain ⟨hav, hsz, hP, hK, hD0, hZ, hg⟩ := hv
  subst hsz
  subst hav
  have hx := BB.exec
  have hb := BB.bytes
  have hr := BB.returns
  have hts := atoms_spec (ws := wsX0_coins) BB.pre
  have hown : s.vm.findClass RX0 = some m.cls := findClass_of_methodNamed BB.named
  have hlocks := BB.notSynchronized
  have hin : ∀ w ∈ wsX00, w ∈ wsX0_coins := fun w h => (List.mem_cons_of_mem _ (List.mem_append_left _ (List.mem_append_right _ h)))
  have hD := hD0.self (sz := s.heap.size)
  have hA : ∀ q9 : Nat, s.heap.size ≤ q9 → va_A (wX q cI cZ cJ k V C T B P A n PR ST li w WK so sp CT SC TA) s.heap.size q9 := fun _ h => Or.inr h
  have hl := lv_entry ([.ref (q 0), .int p0, .int p1]) (n := 3) (Nat.le_of_ble_eq_true rfl)
  rw [lg_entry_eq]
  generalize (lg_sl ([.ref (q 0), .int p0, .int p1]) ++ List.replicate (3 - (lg_sl ([.ref (q 0), .int p0, .int p1])).length) Slot.unset).toArray = ls at hl ⊢
  have hl : lv_has ls 3 [(0, .ref (q 0)), (1, .int p0), (2, .int p1)] := hl
  refine W_absR (fun R hR => ?_)
  have hR : R = ({ frames := 7, cells := 2, slots := 12, locals := 111 } : Room) := hR
  refine W_absQ (fun Q hQ => ?_)
  generalize ([.ref (q 0), .int p0, .int p1] : List Value).toArray = args at hts hQ ⊢
  generalize va_A (wX q cI cZ cJ k V C T B P A n PR ST li w WK so sp CT SC TA) s.heap.size = A9 at hD hZ hA hQ
  refine W_start hP (A := A9) (fun H locs hP hS => ?_)
  refine lv_aload_n hx hb dX0_coins_0 rfl (lv_at hl 0 rfl) ?_
  refine lv_iload_n hx hb dX0_coins_1 rfl (lv_at hl 1 rfl) ?_
  subst hQ
  refine kx_v (vx_runV (As := [.int p0]) (rest := []) ⟨hx, hb, hml, hown, hts⟩ (c_X0_checkKind l hst D q cI cZ cJ k V C T B P A n PR ST li w WK so sp CT SC TA H.size p0 hk8) (cwV 1 hts gX0_coins_X0_checkKind rfl rfl rfl hd_X0_checkKind ⟨(by rw [hR]; exact Nat.le_of_ble_eq_true rfl), (by rw [hR]; exact Nat.le_of_ble_eq_true rfl)⟩) (pre_V hP hK hD hS hA hZ hg 0 (ci := 0) rfl rfl) rfl rfl hl.1 rfl (lv_room (Nat.le_of_ble_eq_true rfl)) dX0_coins_2 ⟨(by rw [hR]; exact Nat.le_of_ble_eq_true rfl), (by rw [hR]; exact Nat.le_of_ble_eq_true rfl)⟩) hD hS hA rfl (fun E h => ⟨h.1, fun z => h.2 z.1⟩) hout hlocks (Nat.le_of_ble_eq_true rfl) (Nat.le_of_ble_eq_true rfl) (fun u_1 H locs hp_3 hP hD hS => ?_)
  refine W_absQ (fun Q hQ => ?_)
  obtain ⟨j0, j0a, j0b, rfl⟩ := hp_3
  refine lv_iload_n hx hb dX0_coins_5 rfl (lv_at hl 2 rfl) ?_
  refine lv_if_lt (tgt := 14) hx hb dX0_coins_6 (by decide) (fun c6 => ?_) (fun c6 => ?_)
  · have hno : ¬ rg p1 0 4 := by rw [rg_iff (by omega)]; simp only [Int32.lt_iff_toInt_lt, Int32.le_iff_toInt_le, Int32.toInt_zero] at c6; omega
    subst hQ
    exact k_throw hx hb hst (cls := eIB) hown (by decide +kernel) (hts _ (List.mem_of_getElem? (i := 1) rfl)) (hts _ (List.mem_of_getElem? (i := 2) rfl)) (hg.1 (149, "what is not 0 to 3") (by decide)) (k_hat (fun w h => hts w (List.mem_cons_of_mem _ (List.mem_append_right _ h))) (by decide +kernel) hg.2.2.2.1 hg) (by decide +kernel) hZ hS (hl.1.trans hml.symm) dX0_coins_14 dX0_coins_17 dX0_coins_18 dX0_coins_20 dX0_coins_23 hout (by rw [hR]; exact Nat.le_of_ble_eq_true rfl) (by rw [hR]; exact Nat.le_of_ble_eq_true rfl) (by rw [hR]; exact Nat.le_of_ble_eq_true rfl) (by rw [hR]; exact Nat.le_of_ble_eq_true rfl) hlocks hP hD (⟨rfl, fun z => hno z.2⟩) (Nat.le_of_ble_eq_true rfl) (Nat.le_of_ble_eq_true rfl)
  · refine lv_iload_n hx hb dX0_coins_9 rfl (lv_at hl 2 rfl) ?_
    refine lv_iconst (v := nI 4) hx hb dX0_coins_10 (ic_4) ?_
    refine lv_icmp_lt (tgt := 24) hx hb dX0_coins_11 (by decide) (fun c11 => ?_) (fun c11 => ?_)
    · obtain ⟨j1, j1a, j1b, rfl⟩ : rg p1 0 4 := by rw [rg_iff (by omega)]; simp only [Int32.lt_iff_toInt_lt, Int32.le_iff_toInt_le, Int32.toInt_zero, nI_toInt (show 4 < 2 ^ 31 by omega)] at c6 c11; omega
      refine lv_aload_n hx hb dX0_coins_24 rfl (lv_at hl 0 rfl) ?_
      refine lv_iload_n hx hb dX0_coins_25 rfl (lv_at hl 1 rfl) ?_
      refine lv_iload_n hx hb dX0_coins_26 rfl (lv_at hl 2 rfl) ?_
      refine k_i (va_runV (As := [.int (nI j0), .int (nI j1)]) (rest := []) ⟨hx, hb, hml, hown, hts⟩ (c_X0_toldOfKind l hst D q cI cZ cJ k V C T B P A n PR ST li w WK so sp CT SC TA H.size j0 j1 hk8 (by omega) j1b) (cwV 2 hts gX0_coins_X0_toldOfKind rfl rfl rfl hd_X0_toldOfKind ⟨(by rw [hR]; exact Nat.le_of_ble_eq_true rfl), (by rw [hR]; exact Nat.le_of_ble_eq_true rfl)⟩) (pre_V hP hK hD hS hA hZ hg 0 (ci := 0) rfl rfl) rfl rfl hl.1 rfl (lv_room (Nat.le_of_ble_eq_true rfl)) dX0_coins_27 ⟨(by rw [hR]; exact Nat.le_of_ble_eq_true rfl), (by rw [hR]; exact Nat.le_of_ble_eq_true rfl)⟩) hD hS hA (fun r_5 u_4 H locs hp_6 hP hD hS => ?_)
      subst hp_6
      subst hQ
      exact vx_ret (e_i (j0, j1) hx hb hr hlocks hS hP hD (⟨rfl, j0b, j1b, rfl, rfl⟩) (Nat.le_of_ble_eq_true rfl) (Nat.le_of_ble_eq_true rfl) dX0_coins_30)
    · have hno : ¬ rg p1 0 4 := by rw [rg_iff (by omega)]; simp only [Int32.lt_iff_toInt_lt, Int32.le_iff_toInt_le, Int32.toInt_zero, nI_toInt (show 4 < 2 ^ 31 by omega)] at c11; omega
      subst hQ
      exact k_throw hx hb hst (cls := eIB) hown (by decide +kernel) (hts _ (List.mem_of_getElem? (i := 1) rfl)) (hts _ (List.mem_of_getElem? (i := 2) rfl)) (hg.1 (149, "what is not 0 to 3") (by decide)) (k_hat (fun w h => hts w (List.mem_cons_of_mem _ (List.mem_append_right _ h))) (by decide +kernel) hg.2.2.2.1 hg) (by decide +kernel) hZ hS (hl.1.trans hml.symm) dX0_coins_14 dX0_coins_17 dX0_coins_18 dX0_coins_20 dX0_coins_23 hout (by rw [hR]; exact Nat.le_of_ble_eq_true rfl) (by rw [hR]; exact Nat.le_of_ble_eq_true rfl) (by rw [hR]; exact Nat.le_of_ble_eq_true rfl) (by rw [hR]; exact Nat.le_of_ble_eq_true rfl) hlocks hP hD (⟨rfl, fun z => hno z.2⟩) (Nat.le_of_ble_eq_true rfl) (Nat.le_of_ble_eq_true rfl)
theorem hd_X0_coins : yX0_coins.cls = RX0 ∧ yX0_coins.cls ≠ "java/lang/invoke/MethodHandle" ∧ yX0_coins.cls ≠ "java/lang/invoke/VarHandle" ∧ (parseMethodDescriptor yX0_coins.desc).map (fun d => d.parameters.length) = some 2 := by decide +kernel

set_option maxHeartbeats 4000000 in
set_option maxRecDepth 100000 in
theorem c_X0_audit (l : Launch) (hst : l.stackTraces = false) (D : va_G) (q : Nat → Nat) (cI cZ cJ : ClassId) (k : Nat) (V : Nat → Nat) (C : Nat → Nat) (T : Nat → Nat) (B : Nat → Nat) (P : Nat → Nat) (A : Nat → Nat) (n : Nat) (PR : Nat → Nat) (ST : Nat → Nat) (li : Nat) (w : Nat) (WK : Nat → Nat) (so : Nat) (sp : Nat) (CT : Nat → Int64) (SC : Nat → Int) (TA : Nat → Nat) (sz : Nat) (p0 : Int32) : vx_Met l yX0_audit wsX0_audit ({ frames := 6, cells := 1, slots := 6, locals := 90 }) (va_Pc [.ref (q 0), .int p0] (cxP D (ty3 cI cZ cJ) (wX q cI cZ cJ k V C T B P A n PR ST li w WK so sp CT SC TA) sz)) (va_Ql (fun r (u : Nat) => r = CT u ∧ u < 10 ∧ p0 = nI u) (bW D (va_A (wX q cI cZ cJ k V C T B P A n PR ST li w WK so sp CT SC TA) sz) (fun u => (wX q cI cZ cJ k V C T B P A n PR ST li w WK so sp CT SC TA))) (va_A (wX q cI cZ cJ k V C T B P A n PR ST li w WK so sp CT SC TA) sz)) (xX D (fun E => E = eIB ∧ ¬ rg p0 0 10) (wX q cI cZ cJ k V C T B P A n PR ST li w WK so sp CT SC TA) (va_A (wX q cI cZ cJ k V C T B P A n PR ST li w WK so sp CT SC TA) sz)) 1 6 (va_A (wX q cI cZ cJ k V C T B P A n PR ST li w WK so sp CT SC TA) sz) := by
  refine vx_ofW (cc := cX0_audit) (maxL := 2) (ret := (some .long)) (by decide) rfl ?_
  intro p e s m args below meth c s₁ BB hml hout hv
  obtain ⟨hav, hsz, hP, hK, hD0, hZ, hg⟩ := hv
  subst hsz
  subst hav
  have hx := BB.exec
  have hb := BB.bytes
  have hr := BB.returns
  have hts := atoms_spec (ws := wsX0_audit) BB.pre
  have hown : s.vm.findClass RX0 = some m.cls := findClass_of_methodNamed BB.named
  have hlocks := BB.notSynchronized
  have hin : ∀ w ∈ wsX00, w ∈ wsX0_audit := fun w h => (List.mem_cons_of_mem _ (List.mem_append_left _ (List.mem_append_right _ h)))
  have hD := hD0.self (sz := s.heap.size)
  have hA : ∀ q9 : Nat, s.heap.size ≤ q9 → va_A (wX q cI cZ cJ k V C T B P A n PR ST li w WK so sp CT SC TA) s.heap.size q9 := fun _ h => Or.inr h
  have hl := lv_entry ([.ref (q 0), .int p0]) (n := 2) (Nat.le_of_ble_eq_true rfl)
  rw [lg_entry_eq]
  generalize (lg_sl ([.ref (q 0), .int p0]) ++ List.replicate (2 - (lg_sl ([.ref (q 0), .int p0])).length) Slot.unset).toArray = ls at hl ⊢
  have hl : lv_has ls 2 [(0, .ref (q 0)), (1, .int p0)] := hl
  refine W_absR (fun R hR => ?_)
  have hR : R = ({ frames := 6, cells := 1, slots := 6, locals := 90 } : Room) := hR
  refine W_absQ (fun Q hQ => ?_)
  generalize ([.ref (q 0), .int p0] : List Value).toArray = args at hts hQ ⊢
  generalize va_A (wX q cI cZ cJ k V C T B P A n PR ST li w WK so sp CT SC TA) s.heap.size = A9 at hD hZ hA hQ
  refine W_start hP (A := A9) (fun H locs hP hS => ?_)
  refine lv_iload_n hx hb dX0_audit_0 rfl (lv_at hl 1 rfl) ?_
  refine lv_if_lt (tgt := 10) hx hb dX0_audit_1 (by decide) (fun c1 => ?_) (fun c1 => ?_)
  · have hno : ¬ rg p0 0 10 := by rw [rg_iff (by omega)]; simp only [Int32.lt_iff_toInt_lt, Int32.le_iff_toInt_le, Int32.toInt_zero] at c1; omega
    subst hQ
    exact k_throw hx hb hst (cls := eIB) hown (by decide +kernel) (hts _ (List.mem_of_getElem? (i := 1) rfl)) (hts _ (List.mem_of_getElem? (i := 2) rfl)) (hg.1 (174, "what is not 0 to 9") (by decide)) (k_hat (fun w h => hts w (List.mem_cons_of_mem _ (List.mem_append_right _ h))) (by decide +kernel) hg.2.2.2.1 hg) (by decide +kernel) hZ hS (hl.1.trans hml.symm) dX0_audit_10 dX0_audit_13 dX0_audit_14 dX0_audit_16 dX0_audit_19 hout (by rw [hR]; exact Nat.le_of_ble_eq_true rfl) (by rw [hR]; exact Nat.le_of_ble_eq_true rfl) (by rw [hR]; exact Nat.le_of_ble_eq_true rfl) (by rw [hR]; exact Nat.le_of_ble_eq_true rfl) hlocks hP hD (⟨rfl, hno⟩) (Nat.le_of_ble_eq_true rfl) (Nat.le_of_ble_eq_true rfl)
  · refine lv_iload_n hx hb dX0_audit_4 rfl (lv_at hl 1 rfl) ?_
    refine lv_bipush (v := nI 10) hx hb dX0_audit_5 (by decide) ?_
    refine lv_icmp_lt (tgt := 20) hx hb dX0_audit_7 (by decide) (fun c7 => ?_) (fun c7 => ?_)
    · obtain ⟨j0, j0a, j0b, rfl⟩ : rg p0 0 10 := by rw [rg_iff (by omega)]; simp only [Int32.lt_iff_toInt_lt, Int32.le_iff_toInt_le, Int32.toInt_zero, nI_toInt (show 10 < 2 ^ 31 by omega)] at c1 c7; omega
      refine lv_aload_n hx hb dX0_audit_20 rfl (lv_at hl 0 rfl) ?_
      refine gfX hx hb hts hin hown hK hP 15 (by decide) (List.mem_of_getElem? (i := 3) rfl) rfl rfl dX0_audit_21 ?_
      refine lv_iload_n hx hb dX0_audit_24 rfl (lv_at hl 1 rfl) ?_
      refine n_lald hx hb hK hP 10 2 rfl rfl (by omega) (by decide) dX0_audit_25 ?_
      subst hQ
      exact vx_ret (e_l j0 hx hb hr hlocks hS hP hD (⟨rfl, j0b, rfl⟩) (Nat.le_of_ble_eq_true rfl) (Nat.le_of_ble_eq_true rfl) dX0_audit_26)
    · have hno : ¬ rg p0 0 10 := by rw [rg_iff (by omega)]; simp only [Int32.lt_iff_toInt_lt, Int32.le_iff_toInt_le, Int32.toInt_zero, nI_toInt (show 10 < 2 ^ 31 by omega)] at c7; omega
      subst hQ
      exact k_throw hx hb hst (cls := eIB) hown (by decide +kernel) (hts _ (List.mem_of_getElem? (i := 1) rfl)) (hts _ (List.mem_of_getElem? (i := 2) rfl)) (hg.1 (174, "what is not 0 to 9") (by decide)) (k_hat (fun w h => hts w (List.mem_cons_of_mem _ (List.mem_append_right _ h))) (by decide +kernel) hg.2.2.2.1 hg) (by decide +kernel) hZ hS (hl.1.trans hml.symm) dX0_audit_10 dX0_audit_13 dX0_audit_14 dX0_audit_16 dX0_audit_19 hout (by rw [hR]; exact Nat.le_of_ble_eq_true rfl) (by rw [hR]; exact Nat.le_of_ble_eq_true rfl) (by rw [hR]; exact Nat.le_of_ble_eq_true rfl) (by rw [hR]; exact Nat.le_of_ble_eq_true rfl) hlocks hP hD (⟨rfl, hno⟩) (Nat.le_of_ble_eq_true rfl) (Nat.le_of_ble_eq_true rfl)
theorem hd_X0_audit : yX0_audit.cls = RX0 ∧ yX0_audit.cls ≠ "java/lang/invoke/MethodHandle" ∧ yX0_audit.cls ≠ "java/lang/invoke/VarHandle" ∧ (parseMethodDescriptor yX0_audit.desc).map (fun d => d.parameters.length) = some 1 := by decide +kernel

set_option maxHeartbeats 4000000 in
set_option maxRecDepth 100000 in
theorem c_X0_countSale (l : Launch) (hst : l.stackTraces = false) (D : va_G) (q : Nat → Nat) (cI cZ cJ : ClassId) (k : Nat) (V : Nat → Nat) (C : Nat → Nat) (T : Nat → Nat) (B : Nat → Nat) (P : Nat → Nat) (A : Nat → Nat) (n : Nat) (PR : Nat → Nat) (ST : Nat → Nat) (li : Nat) (w : Nat) (WK : Nat → Nat) (so : Nat) (sp : Nat) (CT : Nat → Int64) (SC : Nat → Int) (TA : Nat → Nat) (sz : Nat) (pp : Nat) (ch : Nat) (hpp : pp ≤ 2000) (hch : ch ≤ 6000) : Met l yX0_countSale wsX0_countSale ({ frames := 0, cells := 0, slots := 0, locals := 0 }) (va_Pc [.ref (q 0), .int (nI pp), .int (nI ch)] (cxP D (ty3 cI cZ cJ) (wX q cI cZ cJ k V C T B P A n PR ST li w WK so sp CT SC TA) sz)) (va_Qv (fun (u : Nat → Int64) => u = cs CT pp ch) (bW D (va_A (wX q cI cZ cJ k V C T B P A n PR ST li w WK so sp CT SC TA) sz) (fun u => (wX q cI cZ cJ k V C T B P A n PR ST li w WK so sp u SC TA))) (va_A (wX q cI cZ cJ k V C T B P A n PR ST li w WK so sp CT SC TA) sz)) 0 0 (va_A (wX q cI cZ cJ k V C T B P A n PR ST li w WK so sp CT SC TA) sz) := by
  refine Met.ofW (cc := cX0_countSale) (maxL := 3) (ret := none) (by decide) rfl ?_
  intro p e s m args below meth c s₁ BB hml hv
  obtain ⟨hav, hsz, hP, hK, hD0, hZ, hg⟩ := hv
  subst hsz
  subst hav
  have hx := BB.exec
  have hb := BB.bytes
  have hr := BB.returns
  have hts := atoms_spec (ws := wsX0_countSale) BB.pre
  have hown : s.vm.findClass RX0 = some m.cls := findClass_of_methodNamed BB.named
  have hlocks := BB.notSynchronized
  have hin : ∀ w ∈ wsX00, w ∈ wsX0_countSale := fun w h => (List.mem_cons_of_mem _ (List.mem_append_right _ h))
  have hD := hD0.self (sz := s.heap.size)
  have hA : ∀ q9 : Nat, s.heap.size ≤ q9 → va_A (wX q cI cZ cJ k V C T B P A n PR ST li w WK so sp CT SC TA) s.heap.size q9 := fun _ h => Or.inr h
  have hl := lv_entry ([.ref (q 0), .int (nI pp), .int (nI ch)]) (n := 3) (Nat.le_of_ble_eq_true rfl)
  rw [lg_entry_eq]
  generalize (lg_sl ([.ref (q 0), .int (nI pp), .int (nI ch)]) ++ List.replicate (3 - (lg_sl ([.ref (q 0), .int (nI pp), .int (nI ch)])).length) Slot.unset).toArray = ls at hl ⊢
  have hl : lv_has ls 3 [(0, .ref (q 0)), (1, .int (nI pp)), (2, .int (nI ch))] := hl
  refine W_absR (fun R hR => ?_)
  have hR : R = ({ frames := 0, cells := 0, slots := 0, locals := 0 } : Room) := hR
  refine W_absQ (fun Q hQ => ?_)
  generalize ([.ref (q 0), .int (nI pp), .int (nI ch)] : List Value).toArray = args at hts hQ ⊢
  generalize va_A (wX q cI cZ cJ k V C T B P A n PR ST li w WK so sp CT SC TA) s.heap.size = A9 at hD hZ hA hQ
  refine W_start hP (A := A9) (fun H locs hP hS => ?_)
  refine lv_aload_n hx hb dX0_countSale_0 rfl (lv_at hl 0 rfl) ?_
  refine gfX hx hb hts hin hown hK hP 15 (by decide) (List.mem_of_getElem? (i := 1) rfl) rfl rfl dX0_countSale_1 ?_
  refine lv_iconst (v := nI 2) hx hb dX0_countSale_4 (ic_2) ?_
  refine lv_dup2_11 hx hb dX0_countSale_5 rfl rfl ?_
  refine n_lald hx hb hK hP 10 2 rfl rfl (by omega) (by decide) dX0_countSale_6 ?_
  refine lv_iload_n hx hb dX0_countSale_7 rfl (lv_at hl 2 rfl) ?_
  refine n_i2l hx hb (by omega) dX0_countSale_8 ?_
  refine lv_ladd hx hb dX0_countSale_9 ?_
  refine n_last (ws' := (wX q cI cZ cJ k V C T B P A n PR ST li w WK so sp (vp_updL CT 2 ((CT 2) + (lZ ((ch : Nat) : Int)))) SC TA)) hx hb hK hP hD hS 10 2 rfl rfl (by omega) (by decide) rfl dX0_countSale_10 (fun H locs hP hD hS => ?_)
  refine lv_aload_n hx hb dX0_countSale_11 rfl (lv_at hl 0 rfl) ?_
  refine gfX hx hb hts hin hown hK hP 15 (by decide) (List.mem_of_getElem? (i := 1) rfl) rfl rfl dX0_countSale_12 ?_
  refine lv_bipush (v := nI 7) hx hb dX0_countSale_15 (by decide) ?_
  refine lv_dup2_11 hx hb dX0_countSale_17 rfl rfl ?_
  refine n_lald hx hb hK hP 10 2 rfl rfl (by omega) (by decide) dX0_countSale_18 ?_
  refine lv_iload_n hx hb dX0_countSale_19 rfl (lv_at hl 1 rfl) ?_
  refine n_i2l hx hb (by omega) dX0_countSale_20 ?_
  refine lv_ladd hx hb dX0_countSale_21 ?_
  refine n_last (ws' := (wX q cI cZ cJ k V C T B P A n PR ST li w WK so sp (vp_updL (vp_updL CT 2 ((CT 2) + (lZ ((ch : Nat) : Int)))) 7 (((vp_updL CT 2 ((CT 2) + (lZ ((ch : Nat) : Int)))) 7) + (lZ ((pp : Nat) : Int)))) SC TA)) hx hb hK hP hD hS 10 2 rfl rfl (by omega) (by decide) rfl dX0_countSale_22 (fun H locs hP hD hS => ?_)
  refine lv_aload_n hx hb dX0_countSale_23 rfl (lv_at hl 0 rfl) ?_
  refine gfX hx hb hts hin hown hK hP 15 (by decide) (List.mem_of_getElem? (i := 1) rfl) rfl rfl dX0_countSale_24 ?_
  refine lv_bipush (v := nI 8) hx hb dX0_countSale_27 (by decide) ?_
  refine lv_dup2_11 hx hb dX0_countSale_29 rfl rfl ?_
  refine n_lald hx hb hK hP 10 2 rfl rfl (by omega) (by decide) dX0_countSale_30 ?_
  refine lv_lconst (v := lZ 1) hx hb dX0_countSale_31 (by decide) ?_
  refine lv_ladd hx hb dX0_countSale_32 ?_
  refine n_last (ws' := (wX q cI cZ cJ k V C T B P A n PR ST li w WK so sp (vp_updL (vp_updL (vp_updL CT 2 ((CT 2) + (lZ ((ch : Nat) : Int)))) 7 (((vp_updL CT 2 ((CT 2) + (lZ ((ch : Nat) : Int)))) 7) + (lZ ((pp : Nat) : Int)))) 8 (((vp_updL (vp_updL CT 2 ((CT 2) + (lZ ((ch : Nat) : Int)))) 7 (((vp_updL CT 2 ((CT 2) + (lZ ((ch : Nat) : Int)))) 7) + (lZ ((pp : Nat) : Int)))) 8) + (lZ 1))) SC TA)) hx hb hK hP hD hS 10 2 rfl rfl (by omega) (by decide) rfl dX0_countSale_33 (fun H locs hP hD hS => ?_)
  refine lv_iload_n hx hb dX0_countSale_34 rfl (lv_at hl 2 rfl) ?_
  refine n_if_ne (tgt := 49) hx hb (by omega) dX0_countSale_35 (by decide) (fun c35 => ?_) (fun c35 => ?_)
  · subst hQ
    exact e_v (vp_updL (vp_updL (vp_updL CT 2 ((CT 2) + (lZ ((ch : Nat) : Int)))) 7 (((vp_updL CT 2 ((CT 2) + (lZ ((ch : Nat) : Int)))) 7) + (lZ ((pp : Nat) : Int)))) 8 (((vp_updL (vp_updL CT 2 ((CT 2) + (lZ ((ch : Nat) : Int)))) 7 (((vp_updL CT 2 ((CT 2) + (lZ ((ch : Nat) : Int)))) 7) + (lZ ((pp : Nat) : Int)))) 8) + (lZ 1))) hx hb hr hlocks hS hP hD (by unfold cs; exact (if_neg c35).symm) (Nat.le_of_ble_eq_true rfl) (Nat.le_of_ble_eq_true rfl) dX0_countSale_49
  · refine lv_aload_n hx hb dX0_countSale_38 rfl (lv_at hl 0 rfl) ?_
    refine gfX hx hb hts hin hown hK hP 15 (by decide) (List.mem_of_getElem? (i := 1) rfl) rfl rfl dX0_countSale_39 ?_
    refine lv_bipush (v := nI 9) hx hb dX0_countSale_42 (by decide) ?_
    refine lv_dup2_11 hx hb dX0_countSale_44 rfl rfl ?_
    refine n_lald hx hb hK hP 10 2 rfl rfl (by omega) (by decide) dX0_countSale_45 ?_
    refine lv_lconst (v := lZ 1) hx hb dX0_countSale_46 (by decide) ?_
    refine lv_ladd hx hb dX0_countSale_47 ?_
    refine n_last (ws' := (wX q cI cZ cJ k V C T B P A n PR ST li w WK so sp (vp_updL (vp_updL (vp_updL (vp_updL CT 2 ((CT 2) + (lZ ((ch : Nat) : Int)))) 7 (((vp_updL CT 2 ((CT 2) + (lZ ((ch : Nat) : Int)))) 7) + (lZ ((pp : Nat) : Int)))) 8 (((vp_updL (vp_updL CT 2 ((CT 2) + (lZ ((ch : Nat) : Int)))) 7 (((vp_updL CT 2 ((CT 2) + (lZ ((ch : Nat) : Int)))) 7) + (lZ ((pp : Nat) : Int)))) 8) + (lZ 1))) 9 (((vp_updL (vp_updL (vp_updL CT 2 ((CT 2) + (lZ ((ch : Nat) : Int)))) 7 (((vp_updL CT 2 ((CT 2) + (lZ ((ch : Nat) : Int)))) 7) + (lZ ((pp : Nat) : Int)))) 8 (((vp_updL (vp_updL CT 2 ((CT 2) + (lZ ((ch : Nat) : Int)))) 7 (((vp_updL CT 2 ((CT 2) + (lZ ((ch : Nat) : Int)))) 7) + (lZ ((pp : Nat) : Int)))) 8) + (lZ 1))) 9) + (lZ 1))) SC TA)) hx hb hK hP hD hS 10 2 rfl rfl (by omega) (by decide) rfl dX0_countSale_48 (fun H locs hP hD hS => ?_)
    subst hQ
    exact e_v (vp_updL (vp_updL (vp_updL (vp_updL CT 2 ((CT 2) + (lZ ((ch : Nat) : Int)))) 7 (((vp_updL CT 2 ((CT 2) + (lZ ((ch : Nat) : Int)))) 7) + (lZ ((pp : Nat) : Int)))) 8 (((vp_updL (vp_updL CT 2 ((CT 2) + (lZ ((ch : Nat) : Int)))) 7 (((vp_updL CT 2 ((CT 2) + (lZ ((ch : Nat) : Int)))) 7) + (lZ ((pp : Nat) : Int)))) 8) + (lZ 1))) 9 (((vp_updL (vp_updL (vp_updL CT 2 ((CT 2) + (lZ ((ch : Nat) : Int)))) 7 (((vp_updL CT 2 ((CT 2) + (lZ ((ch : Nat) : Int)))) 7) + (lZ ((pp : Nat) : Int)))) 8 (((vp_updL (vp_updL CT 2 ((CT 2) + (lZ ((ch : Nat) : Int)))) 7 (((vp_updL CT 2 ((CT 2) + (lZ ((ch : Nat) : Int)))) 7) + (lZ ((pp : Nat) : Int)))) 8) + (lZ 1))) 9) + (lZ 1))) hx hb hr hlocks hS hP hD (by unfold cs; exact (if_pos c35).symm) (Nat.le_of_ble_eq_true rfl) (Nat.le_of_ble_eq_true rfl) dX0_countSale_49
theorem hd_X0_countSale : yX0_countSale.cls = RX0 ∧ yX0_countSale.cls ≠ "java/lang/invoke/MethodHandle" ∧ yX0_countSale.cls ≠ "java/lang/invoke/VarHandle" ∧ (parseMethodDescriptor yX0_countSale.desc).map (fun d => d.parameters.length) = some 2 := by decide +kernel

set_option maxHeartbeats 4000000 in
set_option maxRecDepth 100000 in
theorem c_X0_digitOf (l : Launch) (hst : l.stackTraces = false) (D : va_G) (q : Nat → Nat) (cI cZ cJ : ClassId) (k : Nat) (V : Nat → Nat) (C : Nat → Nat) (T : Nat → Nat) (B : Nat → Nat) (P : Nat → Nat) (A : Nat → Nat) (n : Nat) (PR : Nat → Nat) (ST : Nat → Nat) (li : Nat) (w : Nat) (WK : Nat → Nat) (so : Nat) (sp : Nat) (CT : Nat → Int64) (SC : Nat → Int) (TA : Nat → Nat) (sz : Nat) (kd : Nat) (hk8 : k ≤ 8) (hV : ∀ i, i < k → 1 ≤ V i ∧ V i ≤ 500) (hkd : kd < k) : Met l yX0_digitOf wsX0_digitOf ({ frames := 0, cells := 0, slots := 0, locals := 0 }) (va_Pc [.ref (q 0), .int (nI kd)] (cxP D (ty3 cI cZ cJ) (wX q cI cZ cJ k V C T B P A n PR ST li w WK so sp CT SC TA) sz)) (va_Qi (fun r (_ : Unit) => r = nI (lc V (V kd) k * 6)) (bW D (va_A (wX q cI cZ cJ k V C T B P A n PR ST li w WK so sp CT SC TA) sz) (fun (_ : Unit) => (wX q cI cZ cJ k V C T B P A n PR ST li w WK so sp CT SC TA))) (va_A (wX q cI cZ cJ k V C T B P A n PR ST li w WK so sp CT SC TA) sz)) 0 0 (va_A (wX q cI cZ cJ k V C T B P A n PR ST li w WK so sp CT SC TA) sz) := by
  refine Met.ofW (cc := cX0_digitOf) (maxL := 4) (ret := (some .int)) (by decide) rfl ?_
  intro p e s m args below meth c s₁ BB hml hv
  obtain ⟨hav, hsz, hP, hK, hD0, hZ, hg⟩ := hv
  subst hsz
  subst hav
  have hx := BB.exec
  have hb := BB.bytes
  have hr := BB.returns
  have hts := atoms_spec (ws := wsX0_digitOf) BB.pre
  have hown : s.vm.findClass RX0 = some m.cls := findClass_of_methodNamed BB.named
  have hlocks := BB.notSynchronized
  have hin : ∀ w ∈ wsX00, w ∈ wsX0_digitOf := fun w h => (List.mem_cons_of_mem _ (List.mem_append_right _ h))
  have hD := hD0.self (sz := s.heap.size)
  have hA : ∀ q9 : Nat, s.heap.size ≤ q9 → va_A (wX q cI cZ cJ k V C T B P A n PR ST li w WK so sp CT SC TA) s.heap.size q9 := fun _ h => Or.inr h
  have hl := lv_entry ([.ref (q 0), .int (nI kd)]) (n := 4) (Nat.le_of_ble_eq_true rfl)
  rw [lg_entry_eq]
  generalize (lg_sl ([.ref (q 0), .int (nI kd)]) ++ List.replicate (4 - (lg_sl ([.ref (q 0), .int (nI kd)])).length) Slot.unset).toArray = ls at hl ⊢
  have hl : lv_has ls 4 [(0, .ref (q 0)), (1, .int (nI kd))] := hl
  refine W_absR (fun R hR => ?_)
  have hR : R = ({ frames := 0, cells := 0, slots := 0, locals := 0 } : Room) := hR
  refine W_absQ (fun Q hQ => ?_)
  generalize ([.ref (q 0), .int (nI kd)] : List Value).toArray = args at hts hQ ⊢
  generalize va_A (wX q cI cZ cJ k V C T B P A n PR ST li w WK so sp CT SC TA) s.heap.size = A9 at hD hZ hA hQ
  refine W_start hP (A := A9) (fun H locs hP hS => ?_)
  refine lv_iconst (v := nI 0) hx hb dX0_digitOf_0 (ic_0) ?_
  refine lv_istore_n (lv' := [(2, .int (nI 0)), (0, .ref (q 0)), (1, .int (nI kd))]) hx hb dX0_digitOf_1 rfl hl (by decide) rfl (fun ls hl => ?_)
  refine lv_iconst (v := nI 0) hx hb dX0_digitOf_2 (ic_0) ?_
  refine lv_istore_n (lv' := [(3, .int (nI 0)), (2, .int (nI 0)), (0, .ref (q 0)), (1, .int (nI kd))]) hx hb dX0_digitOf_3 rfl hl (by decide) rfl (fun ls hl => ?_)
  have lp_4 : ∀ (fu_4 : Nat) (j : Nat) (le : Nat), k - j < fu_4 → (j ≤ k) → (le = lc V (V kd) j) → ∀ (H : Heap) (locs : List Loc), va_P D vwCl (wX q cI cZ cJ k V C T B P A n PR ST li w WK so sp CT SC TA) H → va_D A9 (wX q cI cZ cJ k V C T B P A n PR ST li w WK so sp CT SC TA) → va_S A9 s.heap H locs → ∀ ls : Array Slot, lv_has ls 4 [(3, .int (nI j)), (2, .int (nI le)), (0, .ref (q 0)), (1, .int (nI kd))] → W p l e R s m args below meth c H locs 0 0 Q (F0 m 4 ls []) := by
    intro fu_4
    induction fu_4 with
    | zero =>
      intro j le hfu_4
      exact absurd hfu_4 (Nat.not_lt_zero _)
    | succ fu_4 ih_4 =>
      intro j le hfu_4 hj hm H locs hP hD hS ls hl
      refine lv_iload_n hx hb dX0_digitOf_4 rfl (lv_at hl 0 rfl) ?_
      refine lv_aload_n hx hb dX0_digitOf_5 rfl (lv_at hl 2 rfl) ?_
      refine gfX hx hb hts hin hown hK hP 0 (by decide) (List.mem_of_getElem? (i := 1) rfl) rfl rfl dX0_digitOf_6 ?_
      refine n_icmp_ge (tgt := 36) hx hb (by omega) (by omega) dX0_digitOf_9 (by decide) (fun c9 => ?_) (fun c9 => ?_)
      · have hik : k = j := by omega
        subst hik
        subst hm
        refine lv_iload_n hx hb dX0_digitOf_36 rfl (lv_at hl 1 rfl) ?_
        refine lv_bipush (v := nI 6) hx hb dX0_digitOf_37 (by decide) ?_
        refine n_imul hx hb dX0_digitOf_39 ?_
        subst hQ
        exact e_i () hx hb hr hlocks hS hP hD rfl (Nat.le_of_ble_eq_true rfl) (Nat.le_of_ble_eq_true rfl) dX0_digitOf_40
      · refine lv_aload_n hx hb dX0_digitOf_12 rfl (lv_at hl 2 rfl) ?_
        refine gfX hx hb hts hin hown hK hP 1 (by decide) (List.mem_of_getElem? (i := 2) rfl) rfl rfl dX0_digitOf_13 ?_
        refine lv_iload_n hx hb dX0_digitOf_16 rfl (lv_at hl 0 rfl) ?_
        refine n_iald hx hb hK hP 1 0 rfl rfl (by omega) (by decide) dX0_digitOf_17 ?_
        refine lv_aload_n hx hb dX0_digitOf_18 rfl (lv_at hl 2 rfl) ?_
        refine gfX hx hb hts hin hown hK hP 1 (by decide) (List.mem_of_getElem? (i := 2) rfl) rfl rfl dX0_digitOf_19 ?_
        refine lv_iload_n hx hb dX0_digitOf_22 rfl (lv_at hl 3 rfl) ?_
        refine n_iald hx hb hK hP 1 0 rfl rfl (by omega) (by decide) dX0_digitOf_23 ?_
        refine n_icmp_ge (tgt := 30) hx hb (by have := hV j (by omega); omega) (by have := hV kd hkd; omega) dX0_digitOf_24 (by decide) (fun c24 => ?_) (fun c24 => ?_)
        · have hwo := lc_n (V := V) (n := j) (x := V kd) c24
          refine lv_iinc (v := nI (j + 1)) (lv' := [(3, .int (nI (j + 1))), (2, .int (nI le)), (0, .ref (q 0)), (1, .int (nI kd))]) hx hb dX0_digitOf_30 hl (k := 0) rfl (ni_inc _ 1) (by decide) rfl (fun ls hl => ?_)
          refine lv_goto (tgt := 4) hx hb dX0_digitOf_33 (by decide) ?_
          exact ih_4 (j + 1) le (by omega) (by omega) (by omega) _ _ hP hD hS ls (lv_sub hl [0, 1, 2, 3] rfl)
        · have hwo := lc_y (V := V) (n := j) (x := V kd) c24
          refine lv_iinc (v := nI (le + 1)) (lv' := [(2, .int (nI (le + 1))), (3, .int (nI j)), (0, .ref (q 0)), (1, .int (nI kd))]) hx hb dX0_digitOf_27 hl (k := 1) rfl (ni_inc _ 1) (by decide) rfl (fun ls hl => ?_)
          refine lv_iinc (v := nI (j + 1)) (lv' := [(3, .int (nI (j + 1))), (2, .int (nI (le + 1))), (0, .ref (q 0)), (1, .int (nI kd))]) hx hb dX0_digitOf_30 hl (k := 1) rfl (ni_inc _ 1) (by decide) rfl (fun ls hl => ?_)
          refine lv_goto (tgt := 4) hx hb dX0_digitOf_33 (by decide) ?_
          exact ih_4 (j + 1) (le + 1) (by omega) (by omega) (by omega) _ _ hP hD hS ls (lv_sub hl [0, 1, 2, 3] rfl)
  exact lp_4 _ 0 0 (Nat.lt_succ_self _) (by omega) rfl _ _ hP hD hS ls (lv_sub hl [0, 1, 2, 3] rfl)
theorem hd_X0_digitOf : yX0_digitOf.cls = RX0 ∧ yX0_digitOf.cls ≠ "java/lang/invoke/MethodHandle" ∧ yX0_digitOf.cls ≠ "java/lang/invoke/VarHandle" ∧ (parseMethodDescriptor yX0_digitOf.desc).map (fun d => d.parameters.length) = some 1 := by decide +kernel

set_option maxHeartbeats 4000000 in
set_option maxRecDepth 100000 in
theorem c_X0_dividesAllValues (l : Launch) (hst : l.stackTraces = false) (D : va_G) (q : Nat → Nat) (cI cZ cJ : ClassId) (k : Nat) (V : Nat → Nat) (C : Nat → Nat) (T : Nat → Nat) (B : Nat → Nat) (P : Nat → Nat) (A : Nat → Nat) (n : Nat) (PR : Nat → Nat) (ST : Nat → Nat) (li : Nat) (w : Nat) (WK : Nat → Nat) (so : Nat) (sp : Nat) (CT : Nat → Int64) (SC : Nat → Int) (TA : Nat → Nat) (sz : Nat) (dd : Nat) (hk8 : k ≤ 8) (hV : ∀ i, i < k → 1 ≤ V i ∧ V i ≤ 500) (hd1 : 1 ≤ dd) (hd2 : dd ≤ 500) : Met l yX0_dividesAllValues wsX0_dividesAllValues ({ frames := 0, cells := 0, slots := 0, locals := 0 }) (va_Pc [.ref (q 0), .int (nI dd)] (cxP D (ty3 cI cZ cJ) (wX q cI cZ cJ k V C T B P A n PR ST li w WK so sp CT SC TA) sz)) (va_Qi (fun r (_ : Unit) => r = nI (dv V k dd)) (bW D (va_A (wX q cI cZ cJ k V C T B P A n PR ST li w WK so sp CT SC TA) sz) (fun (_ : Unit) => (wX q cI cZ cJ k V C T B P A n PR ST li w WK so sp CT SC TA))) (va_A (wX q cI cZ cJ k V C T B P A n PR ST li w WK so sp CT SC TA) sz)) 0 0 (va_A (wX q cI cZ cJ k V C T B P A n PR ST li w WK so sp CT SC TA) sz) := by
  refine Met.ofW (cc := cX0_dividesAllValues) (maxL := 3) (ret := (some .boolean)) (by decide) rfl ?_
  intro p e s m args below meth c s₁ BB hml hv
  obtain ⟨hav, hsz, hP, hK, hD0, hZ, hg⟩ := hv
  subst hsz
  subst hav
  have hx := BB.exec
  have hb := BB.bytes
  have hr := BB.returns
  have hts := atoms_spec (ws := wsX0_dividesAllValues) BB.pre
  have hown : s.vm.findClass RX0 = some m.cls := findClass_of_methodNamed BB.named
  have hlocks := BB.notSynchronized
  have hin : ∀ w ∈ wsX00, w ∈ wsX0_dividesAllValues := fun w h => (List.mem_cons_of_mem _ (List.mem_append_right _ h))
  have hD := hD0.self (sz := s.heap.size)
  have hA : ∀ q9 : Nat, s.heap.size ≤ q9 → va_A (wX q cI cZ cJ k V C T B P A n PR ST li w WK so sp CT SC TA) s.heap.size q9 := fun _ h => Or.inr h
  have hl := lv_entry ([.ref (q 0), .int (nI dd)]) (n := 3) (Nat.le_of_ble_eq_true rfl)
  rw [lg_entry_eq]
  generalize (lg_sl ([.ref (q 0), .int (nI dd)]) ++ List.replicate (3 - (lg_sl ([.ref (q 0), .int (nI dd)])).length) Slot.unset).toArray = ls at hl ⊢
  have hl : lv_has ls 3 [(0, .ref (q 0)), (1, .int (nI dd))] := hl
  refine W_absR (fun R hR => ?_)
  have hR : R = ({ frames := 0, cells := 0, slots := 0, locals := 0 } : Room) := hR
  refine W_absQ (fun Q hQ => ?_)
  generalize ([.ref (q 0), .int (nI dd)] : List Value).toArray = args at hts hQ ⊢
  generalize va_A (wX q cI cZ cJ k V C T B P A n PR ST li w WK so sp CT SC TA) s.heap.size = A9 at hD hZ hA hQ
  refine W_start hP (A := A9) (fun H locs hP hS => ?_)
  refine lv_iconst (v := nI 0) hx hb dX0_dividesAllValues_0 (ic_0) ?_
  refine lv_istore_n (lv' := [(2, .int (nI 0)), (0, .ref (q 0)), (1, .int (nI dd))]) hx hb dX0_dividesAllValues_1 rfl hl (by decide) rfl (fun ls hl => ?_)
  have lp_2 : ∀ (fu_2 : Nat) (i : Nat), k - i < fu_2 → (i ≤ k) → (∀ j, j < i → V j % dd = 0) → ∀ (H : Heap) (locs : List Loc), va_P D vwCl (wX q cI cZ cJ k V C T B P A n PR ST li w WK so sp CT SC TA) H → va_D A9 (wX q cI cZ cJ k V C T B P A n PR ST li w WK so sp CT SC TA) → va_S A9 s.heap H locs → ∀ ls : Array Slot, lv_has ls 3 [(2, .int (nI i)), (0, .ref (q 0)), (1, .int (nI dd))] → W p l e R s m args below meth c H locs 0 0 Q (F0 m 2 ls []) := by
    intro fu_2
    induction fu_2 with
    | zero =>
      intro i hfu_2
      exact absurd hfu_2 (Nat.not_lt_zero _)
    | succ fu_2 ih_2 =>
      intro i hfu_2 hi hs H locs hP hD hS ls hl
      refine lv_iload_n hx hb dX0_dividesAllValues_2 rfl (lv_at hl 0 rfl) ?_
      refine lv_aload_n hx hb dX0_dividesAllValues_3 rfl (lv_at hl 1 rfl) ?_
      refine gfX hx hb hts hin hown hK hP 0 (by decide) (List.mem_of_getElem? (i := 1) rfl) rfl rfl dX0_dividesAllValues_4 ?_
      refine n_icmp_ge (tgt := 34) hx hb (by omega) (by omega) dX0_dividesAllValues_7 (by decide) (fun c7 => ?_) (fun c7 => ?_)
      · refine lv_iconst (v := nI 1) hx hb dX0_dividesAllValues_34 (ic_1) ?_
        subst hQ
        exact e_z () hx hb hr hlocks hS (by omega) hP hD (congrArg nI (dv_y (fun j hj => hs j (by omega))).symm) (Nat.le_of_ble_eq_true rfl) (Nat.le_of_ble_eq_true rfl) dX0_dividesAllValues_35
      · refine lv_iload_n hx hb dX0_dividesAllValues_10 rfl (lv_at hl 2 rfl) ?_
        refine lv_iconst (v := nI 1) hx hb dX0_dividesAllValues_11 (ic_1) ?_
        refine n_icmp_lt (tgt := 26) hx hb (by omega) (by omega) dX0_dividesAllValues_12 (by decide) (fun c12 => ?_) (fun c12 => ?_)
        · exact absurd c12 (by omega)
        · refine lv_aload_n hx hb dX0_dividesAllValues_15 rfl (lv_at hl 1 rfl) ?_
          refine gfX hx hb hts hin hown hK hP 1 (by decide) (List.mem_of_getElem? (i := 2) rfl) rfl rfl dX0_dividesAllValues_16 ?_
          refine lv_iload_n hx hb dX0_dividesAllValues_19 rfl (lv_at hl 0 rfl) ?_
          refine n_iald hx hb hK hP 1 0 rfl rfl (by omega) (by decide) dX0_dividesAllValues_20 ?_
          refine lv_iload_n hx hb dX0_dividesAllValues_21 rfl (lv_at hl 2 rfl) ?_
          refine n_irem hx hb (by have := hV i (by omega); omega) (by omega) (by omega) dX0_dividesAllValues_22 ?_
          refine n_if_eq (tgt := 28) hx hb (by have := hV i (by omega); have := Nat.mod_le (V i) dd; omega) dX0_dividesAllValues_23 (by decide) (fun c23 => ?_) (fun c23 => ?_)
          · refine lv_iinc (v := nI (i + 1)) (lv' := [(2, .int (nI (i + 1))), (0, .ref (q 0)), (1, .int (nI dd))]) hx hb dX0_dividesAllValues_28 hl (k := 0) rfl (ni_inc _ 1) (by decide) rfl (fun ls hl => ?_)
            refine lv_goto (tgt := 2) hx hb dX0_dividesAllValues_31 (by decide) ?_
            exact ih_2 (i + 1) (by omega) (by omega) (fun j hj => by rcases Nat.lt_or_ge j i with h | h; exact hs j h; rw [show j = i by omega]; exact c23) _ _ hP hD hS ls (lv_sub hl [0, 1, 2] rfl)
          · refine lv_iconst (v := nI 0) hx hb dX0_dividesAllValues_26 (ic_0) ?_
            subst hQ
            exact e_z () hx hb hr hlocks hS (by omega) hP hD (congrArg nI (dv_n (by omega) c23).symm) (Nat.le_of_ble_eq_true rfl) (Nat.le_of_ble_eq_true rfl) dX0_dividesAllValues_27
  exact lp_2 _ 0 (Nat.lt_succ_self _) (by omega) (fun j hj => absurd hj (Nat.not_lt_zero j)) _ _ hP hD hS ls (lv_sub hl [0, 1, 2] rfl)
theorem hd_X0_dividesAllValues : yX0_dividesAllValues.cls = RX0 ∧ yX0_dividesAllValues.cls ≠ "java/lang/invoke/MethodHandle" ∧ yX0_dividesAllValues.cls ≠ "java/lang/invoke/VarHandle" ∧ (parseMethodDescriptor yX0_dividesAllValues.desc).map (fun d => d.parameters.length) = some 1 := by decide +kernel

set_option maxHeartbeats 4000000 in
set_option maxRecDepth 100000 in
theorem c_X0_unit (l : Launch) (hst : l.stackTraces = false) (D : va_G) (q : Nat → Nat) (cI cZ cJ : ClassId) (k : Nat) (V : Nat → Nat) (C : Nat → Nat) (T : Nat → Nat) (B : Nat → Nat) (P : Nat → Nat) (A : Nat → Nat) (n : Nat) (PR : Nat → Nat) (ST : Nat → Nat) (li : Nat) (w : Nat) (WK : Nat → Nat) (so : Nat) (sp : Nat) (CT : Nat → Int64) (SC : Nat → Int) (TA : Nat → Nat) (sz : Nat) (hk8 : k ≤ 8) (hV : ∀ i, i < k → 1 ≤ V i ∧ V i ≤ 500) : Met l yX0_unit wsX0_unit ({ frames := 1, cells := 0, slots := 0, locals := 22 }) (va_Pc [.ref (q 0)] (cxP D (ty3 cI cZ cJ) (wX q cI cZ cJ k V C T B P A n PR ST li w WK so sp CT SC TA) sz)) (va_Qi (fun r (_ : Unit) => r = nI (gu V k)) (bW D (va_A (wX q cI cZ cJ k V C T B P A n PR ST li w WK so sp CT SC TA) sz) (fun (_ : Unit) => (wX q cI cZ cJ k V C T B P A n PR ST li w WK so sp CT SC TA))) (va_A (wX q cI cZ cJ k V C T B P A n PR ST li w WK so sp CT SC TA) sz)) 0 0 (va_A (wX q cI cZ cJ k V C T B P A n PR ST li w WK so sp CT SC TA) sz) := by
  refine Met.ofW (cc := cX0_unit) (maxL := 2) (ret := (some .int)) (by decide) rfl ?_
  intro p e s m args below meth c s₁ BB hml hv
  obtain ⟨hav, hsz, hP, hK, hD0, hZ, hg⟩ := hv
  subst hsz
  subst hav
  have hx := BB.exec
  have hb := BB.bytes
  have hr := BB.returns
  have hts := atoms_spec (ws := wsX0_unit) BB.pre
  have hown : s.vm.findClass RX0 = some m.cls := findClass_of_methodNamed BB.named
  have hlocks := BB.notSynchronized
  have hin : ∀ w ∈ wsX00, w ∈ wsX0_unit := fun w h => (List.mem_cons_of_mem _ (List.mem_append_right _ h))
  have hD := hD0.self (sz := s.heap.size)
  have hA : ∀ q9 : Nat, s.heap.size ≤ q9 → va_A (wX q cI cZ cJ k V C T B P A n PR ST li w WK so sp CT SC TA) s.heap.size q9 := fun _ h => Or.inr h
  have hl := lv_entry ([.ref (q 0)]) (n := 2) (Nat.le_of_ble_eq_true rfl)
  rw [lg_entry_eq]
  generalize (lg_sl ([.ref (q 0)]) ++ List.replicate (2 - (lg_sl ([.ref (q 0)])).length) Slot.unset).toArray = ls at hl ⊢
  have hl : lv_has ls 2 [(0, .ref (q 0))] := hl
  refine W_absR (fun R hR => ?_)
  have hR : R = ({ frames := 1, cells := 0, slots := 0, locals := 22 } : Room) := hR
  refine W_absQ (fun Q hQ => ?_)
  generalize ([.ref (q 0)] : List Value).toArray = args at hts hQ ⊢
  generalize va_A (wX q cI cZ cJ k V C T B P A n PR ST li w WK so sp CT SC TA) s.heap.size = A9 at hD hZ hA hQ
  refine W_start hP (A := A9) (fun H locs hP hS => ?_)
  refine lv_aload_n hx hb dX0_unit_0 rfl (lv_at hl 0 rfl) ?_
  refine gfX hx hb hts hin hown hK hP 0 (by decide) (List.mem_of_getElem? (i := 1) rfl) rfl rfl dX0_unit_1 ?_
  refine n_if_ne (tgt := 9) hx hb (by omega) dX0_unit_4 (by decide) (fun c4 => ?_) (fun c4 => ?_)
  · refine lv_sipush (v := nI 500) hx hb dX0_unit_9 (by decide) ?_
    refine lv_istore_n (lv' := [(1, .int (nI 500)), (0, .ref (q 0))]) hx hb dX0_unit_12 rfl hl (by decide) rfl (fun ls hl => ?_)
    have lp_13 : ∀ (fu_13 : Nat) (dd : Nat), dd < fu_13 → (1 ≤ dd) → (dd ≤ 500) → (gu V k = fd V k dd) → ∀ (H : Heap) (locs : List Loc), va_P D vwCl (wX q cI cZ cJ k V C T B P A n PR ST li w WK so sp CT SC TA) H → va_D A9 (wX q cI cZ cJ k V C T B P A n PR ST li w WK so sp CT SC TA) → va_S A9 s.heap H locs → ∀ ls : Array Slot, lv_has ls 2 [(1, .int (nI dd)), (0, .ref (q 0))] → W p l e R s m args below meth c H locs 0 0 Q (F0 m 13 ls []) := by
      intro fu_13
      induction fu_13 with
      | zero =>
        intro dd hfu_13
        exact absurd hfu_13 (Nat.not_lt_zero _)
      | succ fu_13 ih_13 =>
        intro dd hfu_13 hd1 hd2 hf H locs hP hD hS ls hl
        refine lv_iload_n hx hb dX0_unit_13 rfl (lv_at hl 0 rfl) ?_
        refine lv_iconst (v := nI 1) hx hb dX0_unit_14 (ic_1) ?_
        refine n_icmp_le (tgt := 34) hx hb (by omega) (by omega) dX0_unit_15 (by decide) (fun c15 => ?_) (fun c15 => ?_)
        · refine lv_iconst (v := nI 1) hx hb dX0_unit_34 (ic_1) ?_
          subst hQ
          exact e_i () hx hb hr hlocks hS hP hD (by rw [hf, show dd = 1 by omega, fd_y (Nat.le_refl 1) (dv_1 V k)]) (Nat.le_of_ble_eq_true rfl) (Nat.le_of_ble_eq_true rfl) dX0_unit_35
        · refine lv_aload_n hx hb dX0_unit_18 rfl (lv_at hl 1 rfl) ?_
          refine lv_iload_n hx hb dX0_unit_19 rfl (lv_at hl 0 rfl) ?_
          refine k_i (va_runV (As := [.int (nI dd)]) (rest := []) ⟨hx, hb, hml, hown, hts⟩ (c_X0_dividesAllValues l hst D q cI cZ cJ k V C T B P A n PR ST li w WK so sp CT SC TA H.size dd hk8 hV hd1 hd2) (cwV 1 hts gX0_unit_X0_dividesAllValues rfl rfl rfl hd_X0_dividesAllValues ⟨(by rw [hR]; exact Nat.le_of_ble_eq_true rfl), (by rw [hR]; exact Nat.le_of_ble_eq_true rfl)⟩) (pre_V hP hK hD hS hA hZ hg 0 (ci := 0) rfl rfl) rfl rfl hl.1 rfl (lv_room (Nat.le_of_ble_eq_true rfl)) dX0_unit_20 ⟨(by rw [hR]; exact Nat.le_of_ble_eq_true rfl), (by rw [hR]; exact Nat.le_of_ble_eq_true rfl)⟩) hD hS hA (fun r_2 u_1 H locs hp_3 hP hD hS => ?_)
          subst hp_3
          refine n_if_eq (tgt := 28) hx hb (by have := dv_le V k dd; omega) dX0_unit_23 (by decide) (fun c23 => ?_) (fun c23 => ?_)
          · have hdl := dv_le V k dd
            refine lv_iinc (v := nI (dd - 1)) (lv' := [(1, .int (nI (dd - 1))), (0, .ref (q 0))]) hx hb dX0_unit_28 hl (k := 0) rfl (ni_dec (by omega)) (by decide) rfl (fun ls hl => ?_)
            refine lv_goto (tgt := 13) hx hb dX0_unit_31 (by decide) ?_
            exact ih_13 (dd - 1) (by omega) (by omega) (by omega) (by rw [hf]; exact fd_n hd1 (by omega)) _ _ hP hD hS ls (lv_sub hl [0, 1] rfl)
          · have hdl := dv_le V k dd
            refine lv_iload_n hx hb dX0_unit_26 rfl (lv_at hl 0 rfl) ?_
            subst hQ
            exact e_i () hx hb hr hlocks hS hP hD (by rw [hf, fd_y hd1 (by omega)]) (Nat.le_of_ble_eq_true rfl) (Nat.le_of_ble_eq_true rfl) dX0_unit_27
    exact lp_13 _ 500 (Nat.lt_succ_self _) (by omega) (by omega) (if_neg c4) _ _ hP hD hS ls (lv_sub hl [0, 1] rfl)
  · refine lv_iconst (v := nI 0) hx hb dX0_unit_7 (ic_0) ?_
    subst hQ
    exact e_i () hx hb hr hlocks hS hP hD (by unfold gu; rw [if_pos c4]) (Nat.le_of_ble_eq_true rfl) (Nat.le_of_ble_eq_true rfl) dX0_unit_8
theorem hd_X0_unit : yX0_unit.cls = RX0 ∧ yX0_unit.cls ≠ "java/lang/invoke/MethodHandle" ∧ yX0_unit.cls ≠ "java/lang/invoke/VarHandle" ∧ (parseMethodDescriptor yX0_unit.desc).map (fun d => d.parameters.length) = some 0 := by decide +kernel

set_option maxHeartbeats 4000000 in
set_option maxRecDepth 100000 in
theorem c_X0_foreseeTubes (l : Launch) (hst : l.stackTraces = false) (D : va_G) (q : Nat → Nat) (cI cZ cJ : ClassId) (k : Nat) (V : Nat → Nat) (C : Nat → Nat) (T : Nat → Nat) (B : Nat → Nat) (P : Nat → Nat) (A : Nat → Nat) (n : Nat) (PR : Nat → Nat) (ST : Nat → Nat) (li : Nat) (w : Nat) (WK : Nat → Nat) (so : Nat) (sp : Nat) (CT : Nat → Int64) (SC : Nat → Int) (TA : Nat → Nat) (sz : Nat) (hk8 : k ≤ 8) (hC : ∀ i, i < k → C i ≤ 60 ∧ T i ≤ C i) (hw12 : w ≤ 12) (hWK : ∀ j, j < w → WK j < k) : Met l yX0_foreseeTubes wsX0_foreseeTubes ({ frames := 1, cells := 0, slots := 0, locals := 23 }) (va_Pc [.ref (q 0)] (cxP D (ty3 cI cZ cJ) (wX q cI cZ cJ k V C T B P A n PR ST li w WK so sp CT SC TA) sz)) (va_Qv (fun (u : Nat → Nat) => ∀ i, i < k → u i = min (T i + wo WK i w) (C i)) (bW D (va_A (wX q cI cZ cJ k V C T B P A n PR ST li w WK so sp CT SC TA) sz) (fun u => (wX q cI cZ cJ k V C T B P A n PR ST li w WK so sp CT SC u))) (va_A (wX q cI cZ cJ k V C T B P A n PR ST li w WK so sp CT SC TA) sz)) 0 0 (va_A (wX q cI cZ cJ k V C T B P A n PR ST li w WK so sp CT SC TA) sz) := by
  refine Met.ofW (cc := cX0_foreseeTubes) (maxL := 2) (ret := none) (by decide) rfl ?_
  intro p e s m args below meth c s₁ BB hml hv
  obtain ⟨hav, hsz, hP, hK, hD0, hZ, hg⟩ := hv
  subst hsz
  subst hav
  have hx := BB.exec
  have hb := BB.bytes
  have hr := BB.returns
  have hts := atoms_spec (ws := wsX0_foreseeTubes) BB.pre
  have hown : s.vm.findClass RX0 = some m.cls := findClass_of_methodNamed BB.named
  have hlocks := BB.notSynchronized
  have hin : ∀ w ∈ wsX00, w ∈ wsX0_foreseeTubes := fun w h => (List.mem_cons_of_mem _ (List.mem_append_right _ h))
  have hD := hD0.self (sz := s.heap.size)
  have hA : ∀ q9 : Nat, s.heap.size ≤ q9 → va_A (wX q cI cZ cJ k V C T B P A n PR ST li w WK so sp CT SC TA) s.heap.size q9 := fun _ h => Or.inr h
  have hl := lv_entry ([.ref (q 0)]) (n := 2) (Nat.le_of_ble_eq_true rfl)
  rw [lg_entry_eq]
  generalize (lg_sl ([.ref (q 0)]) ++ List.replicate (2 - (lg_sl ([.ref (q 0)])).length) Slot.unset).toArray = ls at hl ⊢
  have hl : lv_has ls 2 [(0, .ref (q 0))] := hl
  refine W_absR (fun R hR => ?_)
  have hR : R = ({ frames := 1, cells := 0, slots := 0, locals := 23 } : Room) := hR
  refine W_absQ (fun Q hQ => ?_)
  generalize ([.ref (q 0)] : List Value).toArray = args at hts hQ ⊢
  generalize va_A (wX q cI cZ cJ k V C T B P A n PR ST li w WK so sp CT SC TA) s.heap.size = A9 at hD hZ hA hQ
  refine W_start hP (A := A9) (fun H locs hP hS => ?_)
  refine lv_iconst (v := nI 0) hx hb dX0_foreseeTubes_0 (ic_0) ?_
  refine lv_istore_n (lv' := [(1, .int (nI 0)), (0, .ref (q 0))]) hx hb dX0_foreseeTubes_1 rfl hl (by decide) rfl (fun ls hl => ?_)
  have lp_2 : ∀ (fu_2 : Nat) (i : Nat) (Tx : Nat → Nat), k - i < fu_2 → (i ≤ k) → (∀ j, j < i → Tx j = min (T j + wo WK j w) (C j)) → ∀ (H : Heap) (locs : List Loc), va_P D vwCl (wX q cI cZ cJ k V C T B P A n PR ST li w WK so sp CT SC Tx) H → va_D A9 (wX q cI cZ cJ k V C T B P A n PR ST li w WK so sp CT SC Tx) → va_S A9 s.heap H locs → ∀ ls : Array Slot, lv_has ls 2 [(1, .int (nI i)), (0, .ref (q 0))] → W p l e R s m args below meth c H locs 0 0 Q (F0 m 2 ls []) := by
    intro fu_2
    induction fu_2 with
    | zero =>
      intro i Tx hfu_2
      exact absurd hfu_2 (Nat.not_lt_zero _)
    | succ fu_2 ih_2 =>
      intro i Tx hfu_2 hi hs H locs hP hD hS ls hl
      refine lv_iload_n hx hb dX0_foreseeTubes_2 rfl (lv_at hl 0 rfl) ?_
      refine lv_aload_n hx hb dX0_foreseeTubes_3 rfl (lv_at hl 1 rfl) ?_
      refine gfX hx hb hts hin hown hK hP 0 (by decide) (List.mem_of_getElem? (i := 1) rfl) rfl rfl dX0_foreseeTubes_4 ?_
      refine n_icmp_ge (tgt := 43) hx hb (by omega) (by omega) dX0_foreseeTubes_7 (by decide) (fun c7 => ?_) (fun c7 => ?_)
      · subst hQ
        exact e_v Tx hx hb hr hlocks hS hP hD (fun j hj => hs j (by omega)) (Nat.le_of_ble_eq_true rfl) (Nat.le_of_ble_eq_true rfl) dX0_foreseeTubes_43
      · refine lv_aload_n hx hb dX0_foreseeTubes_10 rfl (lv_at hl 1 rfl) ?_
        refine gfX hx hb hts hin hown hK hP 17 (by decide) (List.mem_of_getElem? (i := 2) rfl) rfl rfl dX0_foreseeTubes_11 ?_
        refine lv_iload_n hx hb dX0_foreseeTubes_14 rfl (lv_at hl 0 rfl) ?_
        refine lv_aload_n hx hb dX0_foreseeTubes_15 rfl (lv_at hl 1 rfl) ?_
        refine gfX hx hb hts hin hown hK hP 3 (by decide) (List.mem_of_getElem? (i := 3) rfl) rfl rfl dX0_foreseeTubes_16 ?_
        refine lv_iload_n hx hb dX0_foreseeTubes_19 rfl (lv_at hl 0 rfl) ?_
        refine n_iald hx hb hK hP 3 0 rfl rfl (by omega) (by decide) dX0_foreseeTubes_20 ?_
        refine lv_aload_n hx hb dX0_foreseeTubes_21 rfl (lv_at hl 1 rfl) ?_
        refine lv_iload_n hx hb dX0_foreseeTubes_22 rfl (lv_at hl 0 rfl) ?_
        refine k_i (va_runV (As := [.int (nI i)]) (rest := [.int (nI (T i)), .int (nI i), .ref (q 17)]) ⟨hx, hb, hml, hown, hts⟩ (c_X0_waitingOf l hst D q cI cZ cJ k V C T B P A n PR ST li w WK so sp CT SC Tx H.size i hw12 hk8 hWK (by omega)) (cwV 1 hts gX0_foreseeTubes_X0_waitingOf rfl rfl rfl hd_X0_waitingOf ⟨(by rw [hR]; exact Nat.le_of_ble_eq_true rfl), (by rw [hR]; exact Nat.le_of_ble_eq_true rfl)⟩) (pre_V hP hK hD hS hA hZ hg 0 (ci := 0) rfl rfl) rfl rfl hl.1 rfl (lv_room (Nat.le_of_ble_eq_true rfl)) dX0_foreseeTubes_23 ⟨(by rw [hR]; exact Nat.le_of_ble_eq_true rfl), (by rw [hR]; exact Nat.le_of_ble_eq_true rfl)⟩) hD hS hA (fun r_2 u_1 H locs hp_3 hP hD hS => ?_)
        subst hp_3
        refine n_iadd hx hb dX0_foreseeTubes_26 ?_
        refine lv_aload_n hx hb dX0_foreseeTubes_27 rfl (lv_at hl 1 rfl) ?_
        refine gfX hx hb hts hin hown hK hP 2 (by decide) (List.mem_of_getElem? (i := 4) rfl) rfl rfl dX0_foreseeTubes_28 ?_
        refine lv_iload_n hx hb dX0_foreseeTubes_31 rfl (lv_at hl 0 rfl) ?_
        refine n_iald hx hb hK hP 2 0 rfl rfl (by omega) (by decide) dX0_foreseeTubes_32 ?_
        refine va_mmin hx hb (hml.trans hl.1.symm) hown (hts _ (List.mem_of_getElem? (i := 5) rfl)) (hts _ (List.mem_of_getElem? (i := 6) rfl)) (hts _ (List.mem_of_getElem? (i := 7) rfl)) (hts _ (List.mem_of_getElem? (i := 8) rfl)) (by rw [hR]; exact Nat.le_of_ble_eq_true rfl) (by rw [hR]; exact Nat.le_of_ble_eq_true rfl) (by rw [hR]; exact Nat.le_of_ble_eq_true rfl) (by rw [hR]; exact Nat.le_of_ble_eq_true rfl) dX0_foreseeTubes_33 (n_top (nI_min _ _ (by have := hC i (by omega); have := wo_le WK i w; omega) (by have := hC i (by omega); omega)) ?_)
        refine n_iast (ws' := (wX q cI cZ cJ k V C T B P A n PR ST li w WK so sp CT SC (un Tx i (min ((T i) + (wo WK i w)) (C i))))) hx hb hK hP hD hS 12 0 rfl rfl (by omega) (by decide) rfl dX0_foreseeTubes_36 (fun H locs hP hD hS => ?_)
        refine lv_iinc (v := nI (i + 1)) (lv' := [(1, .int (nI (i + 1))), (0, .ref (q 0))]) hx hb dX0_foreseeTubes_37 hl (k := 0) rfl (ni_inc _ 1) (by decide) rfl (fun ls hl => ?_)
        refine lv_goto (tgt := 2) hx hb dX0_foreseeTubes_40 (by decide) ?_
        exact ih_2 (i + 1) (un Tx i (min ((T i) + (wo WK i w)) (C i))) (by omega) (by omega) (fun j hj => by rcases Nat.lt_or_ge j i with h | h; (rw [un_n (by omega)]; exact hs j h); (rw [show j = i by omega]; exact un_s)) _ _ hP hD hS ls (lv_sub hl [0, 1] rfl)
  exact lp_2 _ 0 TA (Nat.lt_succ_self _) (by omega) (fun j hj => absurd hj (Nat.not_lt_zero j)) _ _ hP hD hS ls (lv_sub hl [0, 1] rfl)
theorem hd_X0_foreseeTubes : yX0_foreseeTubes.cls = RX0 ∧ yX0_foreseeTubes.cls ≠ "java/lang/invoke/MethodHandle" ∧ yX0_foreseeTubes.cls ≠ "java/lang/invoke/VarHandle" ∧ (parseMethodDescriptor yX0_foreseeTubes.desc).map (fun d => d.parameters.length) = some 0 := by decide +kernel

set_option maxHeartbeats 4000000 in
set_option maxRecDepth 100000 in
theorem c_X0_dropWaiting (l : Launch) (hst : l.stackTraces = false) (D : va_G) (q : Nat → Nat) (cI cZ cJ : ClassId) (k : Nat) (V : Nat → Nat) (C : Nat → Nat) (T : Nat → Nat) (B : Nat → Nat) (P : Nat → Nat) (A : Nat → Nat) (n : Nat) (PR : Nat → Nat) (ST : Nat → Nat) (li : Nat) (w : Nat) (WK : Nat → Nat) (so : Nat) (sp : Nat) (CT : Nat → Int64) (SC : Nat → Int) (TA : Nat → Nat) (sz : Nat) (hk8 : k ≤ 8) (hC : ∀ i, i < k → C i ≤ 60 ∧ T i ≤ C i) (hw12 : w ≤ 12) (hWK : ∀ j, j < w → WK j < k) : Met l yX0_dropWaiting wsX0_dropWaiting ({ frames := 1, cells := 0, slots := 0, locals := 23 }) (va_Pc [.ref (q 0)] (cxP D (ty3 cI cZ cJ) (wX q cI cZ cJ k V C T B P A n PR ST li w WK so sp CT SC TA) sz)) (va_Qv (fun (_ : Unit) => True) (bW D (va_A (wX q cI cZ cJ k V C T B P A n PR ST li w WK so sp CT SC TA) sz) (fun (_ : Unit) => (wX q cI cZ cJ k V C (dT C T WK w k) (dB C T B WK w k) P A n PR ST li 0 WK so sp CT SC TA))) (va_A (wX q cI cZ cJ k V C T B P A n PR ST li w WK so sp CT SC TA) sz)) 0 0 (va_A (wX q cI cZ cJ k V C T B P A n PR ST li w WK so sp CT SC TA) sz) := by
  refine Met.ofW (cc := cX0_dropWaiting) (maxL := 4) (ret := none) (by decide) rfl ?_
  intro p e s m args below meth c s₁ BB hml hv
  obtain ⟨hav, hsz, hP, hK, hD0, hZ, hg⟩ := hv
  subst hsz
  subst hav
  have hx := BB.exec
  have hb := BB.bytes
  have hr := BB.returns
  have hts := atoms_spec (ws := wsX0_dropWaiting) BB.pre
  have hown : s.vm.findClass RX0 = some m.cls := findClass_of_methodNamed BB.named
  have hlocks := BB.notSynchronized
  have hin : ∀ w ∈ wsX00, w ∈ wsX0_dropWaiting := fun w h => (List.mem_cons_of_mem _ (List.mem_append_right _ h))
  have hD := hD0.self (sz := s.heap.size)
  have hA : ∀ q9 : Nat, s.heap.size ≤ q9 → va_A (wX q cI cZ cJ k V C T B P A n PR ST li w WK so sp CT SC TA) s.heap.size q9 := fun _ h => Or.inr h
  have hl := lv_entry ([.ref (q 0)]) (n := 4) (Nat.le_of_ble_eq_true rfl)
  rw [lg_entry_eq]
  generalize (lg_sl ([.ref (q 0)]) ++ List.replicate (4 - (lg_sl ([.ref (q 0)])).length) Slot.unset).toArray = ls at hl ⊢
  have hl : lv_has ls 4 [(0, .ref (q 0))] := hl
  refine W_absR (fun R hR => ?_)
  have hR : R = ({ frames := 1, cells := 0, slots := 0, locals := 23 } : Room) := hR
  refine W_absQ (fun Q hQ => ?_)
  generalize ([.ref (q 0)] : List Value).toArray = args at hts hQ ⊢
  generalize va_A (wX q cI cZ cJ k V C T B P A n PR ST li w WK so sp CT SC TA) s.heap.size = A9 at hD hZ hA hQ
  refine W_start hP (A := A9) (fun H locs hP hS => ?_)
  refine lv_iconst (v := nI 0) hx hb dX0_dropWaiting_0 (ic_0) ?_
  refine lv_istore_n (lv' := [(1, .int (nI 0)), (0, .ref (q 0))]) hx hb dX0_dropWaiting_1 rfl hl (by decide) rfl (fun ls hl => ?_)
  have lp_2 : ∀ (fu_2 : Nat) (i : Nat), k - i < fu_2 → (i ≤ k) → ∀ (H : Heap) (locs : List Loc), va_P D vwCl (wX q cI cZ cJ k V C (dT C T WK w i) (dB C T B WK w i) P A n PR ST li w WK so sp CT SC TA) H → va_D A9 (wX q cI cZ cJ k V C (dT C T WK w i) (dB C T B WK w i) P A n PR ST li w WK so sp CT SC TA) → va_S A9 s.heap H locs → ∀ ls : Array Slot, lv_has ls 4 [(1, .int (nI i)), (0, .ref (q 0))] → W p l e R s m args below meth c H locs 0 0 Q (F0 m 2 ls []) := by
    intro fu_2
    induction fu_2 with
    | zero =>
      intro i hfu_2
      exact absurd hfu_2 (Nat.not_lt_zero _)
    | succ fu_2 ih_2 =>
      intro i hfu_2 hi H locs hP hD hS ls hl
      refine lv_iload_n hx hb dX0_dropWaiting_2 rfl (lv_at hl 0 rfl) ?_
      refine lv_aload_n hx hb dX0_dropWaiting_3 rfl (lv_at hl 1 rfl) ?_
      refine gfX hx hb hts hin hown hK hP 0 (by decide) (List.mem_of_getElem? (i := 1) rfl) rfl rfl dX0_dropWaiting_4 ?_
      refine n_icmp_ge (tgt := 62) hx hb (by omega) (by omega) dX0_dropWaiting_7 (by decide) (fun c7 => ?_) (fun c7 => ?_)
      · have hik : k = i := by omega
        subst hik
        refine lv_aload_n hx hb dX0_dropWaiting_62 rfl (lv_at hl 1 rfl) ?_
        refine lv_iconst (v := nI 0) hx hb dX0_dropWaiting_63 (ic_0) ?_
        refine pfX (ws' := (wX q cI cZ cJ k V C (dT C T WK w k) (dB C T B WK w k) P A n PR ST li 0 WK so sp CT SC TA)) hx hb hts hin hown hK hP hD hS 11 (by decide) (List.mem_of_getElem? (i := 9) rfl) rfl ⟨rfl, rfl⟩ rfl rfl dX0_dropWaiting_64 (fun H locs hP hD hS => ?_)
        subst hQ
        exact e_v () hx hb hr hlocks hS hP hD trivial (Nat.le_of_ble_eq_true rfl) (Nat.le_of_ble_eq_true rfl) dX0_dropWaiting_67
      · refine lv_aload_n hx hb dX0_dropWaiting_10 rfl (lv_at hl 1 rfl) ?_
        refine lv_iload_n hx hb dX0_dropWaiting_11 rfl (lv_at hl 0 rfl) ?_
        refine k_i (va_runV (As := [.int (nI i)]) (rest := []) ⟨hx, hb, hml, hown, hts⟩ (c_X0_waitingOf l hst D q cI cZ cJ k V C (dT C T WK w i) (dB C T B WK w i) P A n PR ST li w WK so sp CT SC TA H.size i hw12 hk8 hWK (by omega)) (cwV 1 hts gX0_dropWaiting_X0_waitingOf rfl rfl rfl hd_X0_waitingOf ⟨(by rw [hR]; exact Nat.le_of_ble_eq_true rfl), (by rw [hR]; exact Nat.le_of_ble_eq_true rfl)⟩) (pre_V hP hK hD hS hA hZ hg 0 (ci := 0) rfl rfl) rfl rfl hl.1 rfl (lv_room (Nat.le_of_ble_eq_true rfl)) dX0_dropWaiting_12 ⟨(by rw [hR]; exact Nat.le_of_ble_eq_true rfl), (by rw [hR]; exact Nat.le_of_ble_eq_true rfl)⟩) hD hS hA (fun r_2 u_1 H locs hp_3 hP hD hS => ?_)
        subst hp_3
        refine lv_istore_n (lv' := [(2, .int (nI (wo WK i w))), (1, .int (nI i)), (0, .ref (q 0))]) hx hb dX0_dropWaiting_15 rfl hl (by decide) rfl (fun ls hl => ?_)
        refine lv_iload_n hx hb dX0_dropWaiting_16 rfl (lv_at hl 0 rfl) ?_
        refine lv_aload_n hx hb dX0_dropWaiting_17 rfl (lv_at hl 2 rfl) ?_
        refine gfX hx hb hts hin hown hK hP 2 (by decide) (List.mem_of_getElem? (i := 2) rfl) rfl rfl dX0_dropWaiting_18 ?_
        refine lv_iload_n hx hb dX0_dropWaiting_21 rfl (lv_at hl 1 rfl) ?_
        refine n_iald hx hb hK hP 2 0 rfl rfl (by omega) (by decide) dX0_dropWaiting_22 ?_
        refine lv_aload_n hx hb dX0_dropWaiting_23 rfl (lv_at hl 2 rfl) ?_
        refine gfX hx hb hts hin hown hK hP 3 (by decide) (List.mem_of_getElem? (i := 3) rfl) rfl rfl dX0_dropWaiting_24 ?_
        refine lv_iload_n hx hb dX0_dropWaiting_27 rfl (lv_at hl 1 rfl) ?_
        refine n_iald hx hb hK hP 3 0 rfl rfl (by omega) (by decide) dX0_dropWaiting_28 ?_
        refine n_top (congrArg nI (show (dT C T WK w i) i = T i from dT_at C T WK w i)) ?_
        refine n_isub hx hb (by have := hC i (by omega); omega) dX0_dropWaiting_29 ?_
        refine va_mmin hx hb (hml.trans hl.1.symm) hown (hts _ (List.mem_of_getElem? (i := 4) rfl)) (hts _ (List.mem_of_getElem? (i := 5) rfl)) (hts _ (List.mem_of_getElem? (i := 6) rfl)) (hts _ (List.mem_of_getElem? (i := 7) rfl)) (by rw [hR]; exact Nat.le_of_ble_eq_true rfl) (by rw [hR]; exact Nat.le_of_ble_eq_true rfl) (by rw [hR]; exact Nat.le_of_ble_eq_true rfl) (by rw [hR]; exact Nat.le_of_ble_eq_true rfl) dX0_dropWaiting_30 (n_top (nI_min _ _ (by have := wo_le WK i w; omega) (by have := hC i (by omega); omega)) ?_)
        refine lv_istore_n (lv' := [(3, .int (nI (min (wo WK i w) ((C i) - (T i))))), (2, .int (nI (wo WK i w))), (1, .int (nI i)), (0, .ref (q 0))]) hx hb dX0_dropWaiting_33 rfl hl (by decide) rfl (fun ls hl => ?_)
        refine lv_aload_n hx hb dX0_dropWaiting_34 rfl (lv_at hl 3 rfl) ?_
        refine gfX hx hb hts hin hown hK hP 3 (by decide) (List.mem_of_getElem? (i := 3) rfl) rfl rfl dX0_dropWaiting_35 ?_
        refine lv_iload_n hx hb dX0_dropWaiting_38 rfl (lv_at hl 2 rfl) ?_
        refine lv_dup2_11 hx hb dX0_dropWaiting_39 rfl rfl ?_
        refine n_iald hx hb hK hP 3 0 rfl rfl (by omega) (by decide) dX0_dropWaiting_40 ?_
        refine n_top (congrArg nI (show (dT C T WK w i) i = T i from dT_at C T WK w i)) ?_
        refine lv_iload_n hx hb dX0_dropWaiting_41 rfl (lv_at hl 0 rfl) ?_
        refine n_iadd hx hb dX0_dropWaiting_42 ?_
        refine n_iast (ws' := (wX q cI cZ cJ k V C (un (dT C T WK w i) i ((T i) + (min (wo WK i w) ((C i) - (T i))))) (dB C T B WK w i) P A n PR ST li w WK so sp CT SC TA)) hx hb hK hP hD hS 3 0 rfl rfl (by omega) (by decide) rfl dX0_dropWaiting_43 (fun H locs hP hD hS => ?_)
        rw [show un (dT C T WK w i) i ((T i) + (min (wo WK i w) ((C i) - (T i)))) = dT C T WK w (i + 1) from dT_s C T WK w i] at hP hD
        refine lv_aload_n hx hb dX0_dropWaiting_44 rfl (lv_at hl 3 rfl) ?_
        refine gfX hx hb hts hin hown hK hP 4 (by decide) (List.mem_of_getElem? (i := 8) rfl) rfl rfl dX0_dropWaiting_45 ?_
        refine lv_iload_n hx hb dX0_dropWaiting_48 rfl (lv_at hl 2 rfl) ?_
        refine lv_dup2_11 hx hb dX0_dropWaiting_49 rfl rfl ?_
        refine n_iald hx hb hK hP 4 0 rfl rfl (by omega) (by decide) dX0_dropWaiting_50 ?_
        refine n_top (congrArg nI (show (dB C T B WK w i) i = B i from dB_at C T B WK w i)) ?_
        refine lv_iload_n hx hb dX0_dropWaiting_51 rfl (lv_at hl 1 rfl) ?_
        refine lv_iload_n hx hb dX0_dropWaiting_52 rfl (lv_at hl 0 rfl) ?_
        refine n_isub hx hb (by omega) dX0_dropWaiting_53 ?_
        refine n_iadd hx hb dX0_dropWaiting_54 ?_
        refine n_iast (ws' := (wX q cI cZ cJ k V C (dT C T WK w (i + 1)) (un (dB C T B WK w i) i ((B i) + ((wo WK i w) - (min (wo WK i w) ((C i) - (T i)))))) P A n PR ST li w WK so sp CT SC TA)) hx hb hK hP hD hS 4 0 rfl rfl (by omega) (by decide) rfl dX0_dropWaiting_55 (fun H locs hP hD hS => ?_)
        rw [show un (dB C T B WK w i) i ((B i) + ((wo WK i w) - (min (wo WK i w) ((C i) - (T i))))) = dB C T B WK w (i + 1) from dB_s C T B WK w i] at hP hD
        refine lv_iinc (v := nI (i + 1)) (lv' := [(1, .int (nI (i + 1))), (3, .int (nI (min (wo WK i w) ((C i) - (T i))))), (2, .int (nI (wo WK i w))), (0, .ref (q 0))]) hx hb dX0_dropWaiting_56 hl (k := 2) rfl (ni_inc _ 1) (by decide) rfl (fun ls hl => ?_)
        refine lv_goto (tgt := 2) hx hb dX0_dropWaiting_59 (by decide) ?_
        exact ih_2 (i + 1) (by omega) (by omega) _ _ hP hD hS ls (lv_sub hl [0, 3] rfl)
  rw [dT_0 C T WK w, dB_0 C T B WK w] at hP hD
  exact lp_2 _ 0 (Nat.lt_succ_self _) (by omega) _ _ hP hD hS ls (lv_sub hl [0, 1] rfl)
theorem hd_X0_dropWaiting : yX0_dropWaiting.cls = RX0 ∧ yX0_dropWaiting.cls ≠ "java/lang/invoke/MethodHandle" ∧ yX0_dropWaiting.cls ≠ "java/lang/invoke/VarHandle" ∧ (parseMethodDescriptor yX0_dropWaiting.desc).map (fun d => d.parameters.length) = some 0 := by decide +kernel
