set_option maxHeartbeats 4000000 in
set_option maxRecDepth 100000 in
theorem c_L_addKind (l : Launch) (hst : l.stackTraces = false) (D : va_G) (q : Nat → Nat) (qo : Nat) (cI cZ cJ : ClassId) (k : Nat) (V : Nat → Nat) (C : Nat → Nat) (T : Nat → Nat) (B : Nat → Nat) (P : Nat → Nat) (A : Nat → Nat) (n : Nat) (PR : Nat → Nat) (ST : Nat → Nat) (li : Nat) (w : Nat) (WK : Nat → Nat) (so : Nat) (sp : Nat) (CT : Nat → Int64) (SC : Nat → Int) (TA : Nat → Nat) (O : Nat → Int64) (sz : Nat) (p0 : Int32) (p1 : Int32) (hk8 : k ≤ 8) (hV : ∀ i, i < k → 1 ≤ V i ∧ V i ≤ 500) : Met l yL_addKind wsL_addKind ({ frames := 7, cells := 1, slots := 6, locals := 112 }) (va_Pc [.ref (q 0), .int p0, .int p1, .ref qo] (cxN D (ty3 cI cZ cJ) ((wX q cI cZ cJ k V C T B P A n PR ST li w WK so sp CT SC TA) ++ [(qo, .inl (cJ, 1, .inr (.inl O)))]) sz)) (va_Qi (fun r (u : (Nat × Nat) ⊕ Nat) => Sum.elim (fun (u : Nat × Nat) => r = nI 0 ∧ 1 ≤ u.1 ∧ u.1 < 501 ∧ u.2 < 61 ∧ p0 = nI u.1 ∧ p1 = nI u.2 ∧ k < 8 ∧ ¬ ∃ i, i < k ∧ V i = u.1) (fun kk => r = nI kk ∧ ((kk = 1 ∧ (¬ (rg p0 1 501 ∧ rg p1 0 61))) ∨ (kk = 2 ∧ ((rg p0 1 501 ∧ rg p1 0 61) ∧ (¬ k < 8 ∨ ∃ i, i < k ∧ nI (V i) = p0))))) u) (bW D (va_A ((wX q cI cZ cJ k V C T B P A n PR ST li w WK so sp CT SC TA) ++ [(qo, .inl (cJ, 1, .inr (.inl O)))]) sz) (fun (u : (Nat × Nat) ⊕ Nat) => Sum.elim (fun (u : Nat × Nat) => (wX q cI cZ cJ (k + 1) (un V k u.1) (un C k u.2) T B P (un A k 1) n PR ST li w WK so sp CT SC TA) ++ [(qo, .inl (cJ, 1, .inr (.inl (vp_updL O 0 ((nI k).toInt64)))))]) (fun _ => (wX q cI cZ cJ k V C T B P A n PR ST li w WK so sp CT SC TA) ++ [(qo, .inl (cJ, 1, .inr (.inl O)))]) u)) (va_A ((wX q cI cZ cJ k V C T B P A n PR ST li w WK so sp CT SC TA) ++ [(qo, .inl (cJ, 1, .inr (.inl O)))]) sz)) 1 6 (va_A ((wX q cI cZ cJ k V C T B P A n PR ST li w WK so sp CT SC TA) ++ [(qo, .inl (cJ, 1, .inr (.inl O)))]) sz) := by
  refine va_MetW (cc := cL_addKind) (maxL := 5) (ret := (some .int)) (by decide) rfl ?_
  intro p e s m args below meth c s₁ BB hml hv
  obtain ⟨hav, ⟨hsz, hP, hK, hD0, hZ, hg⟩, hnc⟩ := hv
  subst hsz
  subst hav
  have hx := BB.exec
  have hb := BB.bytes
  have hr := BB.returns
  have hts := atoms_spec (ws := wsL_addKind) BB.pre
  have htab := vx_table (x := yL_addKind) BB (hts _ List.mem_cons_self)
  have hown : s.vm.findClass RL = some m.cls := findClass_of_methodNamed BB.named
  have hlocks := BB.notSynchronized
  have hD := hD0.self (sz := s.heap.size)
  have hA : ∀ q9 : Nat, s.heap.size ≤ q9 → va_A ((wX q cI cZ cJ k V C T B P A n PR ST li w WK so sp CT SC TA) ++ [(qo, .inl (cJ, 1, .inr (.inl O)))]) s.heap.size q9 := fun _ h => Or.inr h
  have hl := lv_entry ([.ref (q 0), .int p0, .int p1, .ref qo]) (n := 5) (Nat.le_of_ble_eq_true rfl)
  rw [lg_entry_eq]
  generalize (lg_sl ([.ref (q 0), .int p0, .int p1, .ref qo]) ++ List.replicate (5 - (lg_sl ([.ref (q 0), .int p0, .int p1, .ref qo])).length) Slot.unset).toArray = ls at hl ⊢
  have hl : lv_has ls 5 [(0, .ref (q 0)), (1, .int p0), (2, .int p1), (3, .ref qo)] := hl
  refine W_absR (fun R hR => ?_)
  have hR : R = ({ frames := 7, cells := 1, slots := 6, locals := 112 } : Room) := hR
  refine W_absQ (fun Q hQ => ?_)
  generalize ([.ref (q 0), .int p0, .int p1, .ref qo] : List Value).toArray = args at hts hQ ⊢
  generalize va_A ((wX q cI cZ cJ k V C T B P A n PR ST li w WK so sp CT SC TA) ++ [(qo, .inl (cJ, 1, .inr (.inl O)))]) s.heap.size = A9 at hD hZ hA hQ
  refine W_start hP (A := A9) (fun H locs hP hS => ?_)
  refine lv_aload_n hx hb dL_addKind_0 rfl (lv_at hl 3 rfl) ?_
  refine lv_iconst (v := nI 0) hx hb dL_addKind_1 (ic_0) ?_
  refine lv_aload_n hx hb dL_addKind_2 rfl (lv_at hl 0 rfl) ?_
  refine lv_iload_n hx hb dL_addKind_3 rfl (lv_at hl 1 rfl) ?_
  refine lv_iload_n hx hb dL_addKind_4 rfl (lv_at hl 2 rfl) ?_
  refine k3x_i (wa := []) (wc := (wX q cI cZ cJ k V C T B P A n PR ST li w WK so sp CT SC TA)) (wb := [(qo, .inl (cJ, 1, .inr (.inl O)))]) (vx_runV (As := [.int p0, .int p1]) (rest := [.int (nI 0), .ref qo]) ⟨hx, hb, hml, hown, hts⟩ (c_X0_addKind l hst D q cI cZ cJ k V C T B P A n PR ST li w WK so sp CT SC TA H.size  p0 p1 hk8 hV) (cwV 2 hts gL_addKind_X0_addKind rfl rfl rfl hd_X0_addKind ⟨(by rw [hR]; exact Nat.le_of_ble_eq_true rfl), (by rw [hR]; exact Nat.le_of_ble_eq_true rfl)⟩) (pre_V3 (wa := []) (wc := (wX q cI cZ cJ k V C T B P A n PR ST li w WK so sp CT SC TA)) (wb := [(qo, .inl (cJ, 1, .inr (.inl O)))]) hP hK hD hS hA hZ hg 0 (ci := 0) rfl rfl) rfl rfl hl.1 rfl (lv_room (Nat.le_of_ble_eq_true rfl)) dL_addKind_5 ⟨(by rw [hR]; exact Nat.le_of_ble_eq_true rfl), (by rw [hR]; exact Nat.le_of_ble_eq_true rfl)⟩) hP hD hS hA (fun E ce q9 H locs hE hP hD hS h1 h2 h3 => ?_) (fun r u H locs hp hP hD hS => ?_)
  · have hP : va_P D vwCl ((wX q cI cZ cJ k V C T B P A n PR ST li w WK so sp CT SC TA) ++ [(qo, .inl (cJ, 1, .inr (.inl O)))]) H := hP
    have hD : va_D A9 ((wX q cI cZ cJ k V C T B P A n PR ST li w WK so sp CT SC TA) ++ [(qo, .inl (cJ, 1, .inr (.inl O)))]) := hD
    rcases hE with ⟨rfl, hE⟩ | ⟨rfl, hE⟩
    · refine vx_catch (name := eIA) hown [] ⟨0, 10, 13, 13⟩ [⟨0, 10, 17, 15⟩] htab (fun z hz => nomatch hz) rfl (by decide) (hts _ (List.mem_of_getElem? (i := 1) rfl)) (hg.2.1.use rfl) h1 h2 h3 ?_
      refine lv_astore (lv' := [(4, .ref q9), (0, .ref (q 0)), (1, .int p0), (2, .int p1), (3, .ref qo)]) hx hb dL_addKind_13 hl (by decide) rfl (fun ls hl => ?_)
      refine lv_iconst (v := nI 1) hx hb dL_addKind_15 (ic_1) ?_
      subst hQ
      exact e_i (Sum.inr 1) hx hb hr hlocks hS hP hD ⟨rfl, Or.inl ⟨rfl, hE⟩⟩ (Nat.le_of_ble_eq_true rfl) (Nat.le_of_ble_eq_true rfl) dL_addKind_16
    · refine vx_catch (name := eIS) hown [⟨0, 10, 13, 13⟩] ⟨0, 10, 17, 15⟩ [] htab (fun z hz => by cases List.mem_singleton.mp hz; exact Or.inr ⟨(by decide), eIA, hts _ (List.mem_of_getElem? (i := 1) rfl), hnc.1⟩) rfl (by decide) (hts _ (List.mem_of_getElem? (i := 2) rfl)) (hg.2.2.1.use rfl) h1 h2 h3 ?_
      refine lv_astore (lv' := [(4, .ref q9), (0, .ref (q 0)), (1, .int p0), (2, .int p1), (3, .ref qo)]) hx hb dL_addKind_17 hl (by decide) rfl (fun ls hl => ?_)
      refine lv_iconst (v := nI 2) hx hb dL_addKind_19 (ic_2) ?_
      subst hQ
      exact e_i (Sum.inr 2) hx hb hr hlocks hS hP hD ⟨rfl, Or.inr ⟨rfl, hE⟩⟩ (Nat.le_of_ble_eq_true rfl) (Nat.le_of_ble_eq_true rfl) dL_addKind_20
  · have hP : va_P D vwCl ((wX q cI cZ cJ (k + 1) (un V k u.1) (un C k u.2) T B P (un A k 1) n PR ST li w WK so sp CT SC TA) ++ [(qo, .inl (cJ, 1, .inr (.inl O)))]) H := hP
    have hD : va_D A9 ((wX q cI cZ cJ (k + 1) (un V k u.1) (un C k u.2) T B P (un A k 1) n PR ST li w WK so sp CT SC TA) ++ [(qo, .inl (cJ, 1, .inr (.inl O)))]) := hD
    obtain ⟨rfl, hp⟩ := hp
    refine lv_i2l hx hb dL_addKind_8 rfl ?_
    refine n_last (ws' := ((wX q cI cZ cJ (k + 1) (un V k u.1) (un C k u.2) T B P (un A k 1) n PR ST li w WK so sp CT SC TA) ++ [(qo, .inl (cJ, 1, .inr (.inl (vp_updL O 0 ((nI k).toInt64)))))])) hx hb hK hP hD hS 13 2 rfl rfl (by decide) (by decide) rfl dL_addKind_9 (fun H locs hP hD hS => ?_)
    refine lv_goto (tgt := 21) hx hb dL_addKind_10 (by decide) ?_
    refine lv_iconst (v := nI 0) hx hb dL_addKind_21 (ic_0) ?_
    subst hQ
    exact e_i (Sum.inl u) hx hb hr hlocks hS hP hD ⟨rfl, hp⟩ (Nat.le_of_ble_eq_true rfl) (Nat.le_of_ble_eq_true rfl) dL_addKind_22
theorem hd_L_addKind : yL_addKind.cls = RL ∧ yL_addKind.cls ≠ "java/lang/invoke/MethodHandle" ∧ yL_addKind.cls ≠ "java/lang/invoke/VarHandle" ∧ (parseMethodDescriptor yL_addKind.desc).map (fun d => d.parameters.length) = some 4 := by decide +kernel

set_option maxHeartbeats 4000000 in
set_option maxRecDepth 100000 in
theorem c_L_fill (l : Launch) (hst : l.stackTraces = false) (D : va_G) (q : Nat → Nat) (qo : Nat) (cI cZ cJ : ClassId) (k : Nat) (V : Nat → Nat) (C : Nat → Nat) (T : Nat → Nat) (B : Nat → Nat) (P : Nat → Nat) (A : Nat → Nat) (n : Nat) (PR : Nat → Nat) (ST : Nat → Nat) (li : Nat) (w : Nat) (WK : Nat → Nat) (so : Nat) (sp : Nat) (CT : Nat → Int64) (SC : Nat → Int) (TA : Nat → Nat) (O : Nat → Int64) (sz : Nat) (p0 : Int32) (p1 : Int32) (hk8 : k ≤ 8) (hV : ∀ i, i < k → 1 ≤ V i ∧ V i ≤ 500) (hC : ∀ i, i < k → C i ≤ 60 ∧ T i ≤ C i) : Met l yL_fill wsL_fill ({ frames := 8, cells := 2, slots := 12, locals := 134 }) (va_Pc [.ref (q 0), .int p0, .int p1, .ref qo] (cxN D (ty3 cI cZ cJ) ((wX q cI cZ cJ k V C T B P A n PR ST li w WK so sp CT SC TA) ++ [(qo, .inl (cJ, 1, .inr (.inl O)))]) sz)) (va_Qi (fun r (u : (Nat × Nat) ⊕ Nat) => Sum.elim (fun (u : Nat × Nat) => r = nI 0 ∧ u.1 < k ∧ u.2 < 61 ∧ p0 = nI u.1 ∧ p1 = nI u.2) (fun kk => r = nI kk ∧ ((kk = 1 ∧ (¬ rg p0 0 k)) ∨ (kk = 2 ∧ (rg p0 0 k ∧ ¬ rg p1 0 61)))) u) (bW D (va_A ((wX q cI cZ cJ k V C T B P A n PR ST li w WK so sp CT SC TA) ++ [(qo, .inl (cJ, 1, .inr (.inl O)))]) sz) (fun (u : (Nat × Nat) ⊕ Nat) => Sum.elim (fun (u : Nat × Nat) => (wX q cI cZ cJ k V C (un T u.1 (T u.1 + min u.2 (C u.1 - T u.1))) B P A n PR ST li w WK so sp (vp_updL CT 4 (CT 4 + lZ ((min u.2 (C u.1 - T u.1) * V u.1 : Nat) : Int))) SC TA) ++ [(qo, .inl (cJ, 1, .inr (.inl (vp_updL O 0 ((nI (u.2 - min u.2 (C u.1 - T u.1))).toInt64)))))]) (fun _ => (wX q cI cZ cJ k V C T B P A n PR ST li w WK so sp CT SC TA) ++ [(qo, .inl (cJ, 1, .inr (.inl O)))]) u)) (va_A ((wX q cI cZ cJ k V C T B P A n PR ST li w WK so sp CT SC TA) ++ [(qo, .inl (cJ, 1, .inr (.inl O)))]) sz)) 2 12 (va_A ((wX q cI cZ cJ k V C T B P A n PR ST li w WK so sp CT SC TA) ++ [(qo, .inl (cJ, 1, .inr (.inl O)))]) sz) := by
  refine va_MetW (cc := cL_fill) (maxL := 5) (ret := (some .int)) (by decide) rfl ?_
  intro p e s m args below meth c s₁ BB hml hv
  obtain ⟨hav, ⟨hsz, hP, hK, hD0, hZ, hg⟩, hnc⟩ := hv
  subst hsz
  subst hav
  have hx := BB.exec
  have hb := BB.bytes
  have hr := BB.returns
  have hts := atoms_spec (ws := wsL_fill) BB.pre
  have htab := vx_table (x := yL_fill) BB (hts _ List.mem_cons_self)
  have hown : s.vm.findClass RL = some m.cls := findClass_of_methodNamed BB.named
  have hlocks := BB.notSynchronized
  have hD := hD0.self (sz := s.heap.size)
  have hA : ∀ q9 : Nat, s.heap.size ≤ q9 → va_A ((wX q cI cZ cJ k V C T B P A n PR ST li w WK so sp CT SC TA) ++ [(qo, .inl (cJ, 1, .inr (.inl O)))]) s.heap.size q9 := fun _ h => Or.inr h
  have hl := lv_entry ([.ref (q 0), .int p0, .int p1, .ref qo]) (n := 5) (Nat.le_of_ble_eq_true rfl)
  rw [lg_entry_eq]
  generalize (lg_sl ([.ref (q 0), .int p0, .int p1, .ref qo]) ++ List.replicate (5 - (lg_sl ([.ref (q 0), .int p0, .int p1, .ref qo])).length) Slot.unset).toArray = ls at hl ⊢
  have hl : lv_has ls 5 [(0, .ref (q 0)), (1, .int p0), (2, .int p1), (3, .ref qo)] := hl
  refine W_absR (fun R hR => ?_)
  have hR : R = ({ frames := 8, cells := 2, slots := 12, locals := 134 } : Room) := hR
  refine W_absQ (fun Q hQ => ?_)
  generalize ([.ref (q 0), .int p0, .int p1, .ref qo] : List Value).toArray = args at hts hQ ⊢
  generalize va_A ((wX q cI cZ cJ k V C T B P A n PR ST li w WK so sp CT SC TA) ++ [(qo, .inl (cJ, 1, .inr (.inl O)))]) s.heap.size = A9 at hD hZ hA hQ
  refine W_start hP (A := A9) (fun H locs hP hS => ?_)
  refine lv_aload_n hx hb dL_fill_0 rfl (lv_at hl 3 rfl) ?_
  refine lv_iconst (v := nI 0) hx hb dL_fill_1 (ic_0) ?_
  refine lv_aload_n hx hb dL_fill_2 rfl (lv_at hl 0 rfl) ?_
  refine lv_iload_n hx hb dL_fill_3 rfl (lv_at hl 1 rfl) ?_
  refine lv_iload_n hx hb dL_fill_4 rfl (lv_at hl 2 rfl) ?_
  refine k3x_i (wa := []) (wc := (wX q cI cZ cJ k V C T B P A n PR ST li w WK so sp CT SC TA)) (wb := [(qo, .inl (cJ, 1, .inr (.inl O)))]) (vx_runV (As := [.int p0, .int p1]) (rest := [.int (nI 0), .ref qo]) ⟨hx, hb, hml, hown, hts⟩ (c_X0_fill l hst D q cI cZ cJ k V C T B P A n PR ST li w WK so sp CT SC TA H.size  p0 p1 hk8 hV hC) (cwV 2 hts gL_fill_X0_fill rfl rfl rfl hd_X0_fill ⟨(by rw [hR]; exact Nat.le_of_ble_eq_true rfl), (by rw [hR]; exact Nat.le_of_ble_eq_true rfl)⟩) (pre_V3 (wa := []) (wc := (wX q cI cZ cJ k V C T B P A n PR ST li w WK so sp CT SC TA)) (wb := [(qo, .inl (cJ, 1, .inr (.inl O)))]) hP hK hD hS hA hZ hg 0 (ci := 0) rfl rfl) rfl rfl hl.1 rfl (lv_room (Nat.le_of_ble_eq_true rfl)) dL_fill_5 ⟨(by rw [hR]; exact Nat.le_of_ble_eq_true rfl), (by rw [hR]; exact Nat.le_of_ble_eq_true rfl)⟩) hP hD hS hA (fun E ce q9 H locs hE hP hD hS h1 h2 h3 => ?_) (fun r u H locs hp hP hD hS => ?_)
  · have hP : va_P D vwCl ((wX q cI cZ cJ k V C T B P A n PR ST li w WK so sp CT SC TA) ++ [(qo, .inl (cJ, 1, .inr (.inl O)))]) H := hP
    have hD : va_D A9 ((wX q cI cZ cJ k V C T B P A n PR ST li w WK so sp CT SC TA) ++ [(qo, .inl (cJ, 1, .inr (.inl O)))]) := hD
    rcases hE with ⟨rfl, hE⟩ | ⟨rfl, hE⟩
    · refine vx_catch (name := eIB) hown [] ⟨0, 10, 13, 20⟩ [⟨0, 10, 17, 13⟩] htab (fun z hz => nomatch hz) rfl (by decide) (hts _ (List.mem_of_getElem? (i := 1) rfl)) (hg.2.2.2.1.use rfl) h1 h2 h3 ?_
      refine lv_astore (lv' := [(4, .ref q9), (0, .ref (q 0)), (1, .int p0), (2, .int p1), (3, .ref qo)]) hx hb dL_fill_13 hl (by decide) rfl (fun ls hl => ?_)
      refine lv_iconst (v := nI 1) hx hb dL_fill_15 (ic_1) ?_
      subst hQ
      exact e_i (Sum.inr 1) hx hb hr hlocks hS hP hD ⟨rfl, Or.inl ⟨rfl, hE⟩⟩ (Nat.le_of_ble_eq_true rfl) (Nat.le_of_ble_eq_true rfl) dL_fill_16
    · refine vx_catch (name := eIA) hown [⟨0, 10, 13, 20⟩] ⟨0, 10, 17, 13⟩ [] htab (fun z hz => by cases List.mem_singleton.mp hz; exact Or.inr ⟨(by decide), eIB, hts _ (List.mem_of_getElem? (i := 1) rfl), hnc.2.1⟩) rfl (by decide) (hts _ (List.mem_of_getElem? (i := 2) rfl)) (hg.2.1.use rfl) h1 h2 h3 ?_
      refine lv_astore (lv' := [(4, .ref q9), (0, .ref (q 0)), (1, .int p0), (2, .int p1), (3, .ref qo)]) hx hb dL_fill_17 hl (by decide) rfl (fun ls hl => ?_)
      refine lv_iconst (v := nI 2) hx hb dL_fill_19 (ic_2) ?_
      subst hQ
      exact e_i (Sum.inr 2) hx hb hr hlocks hS hP hD ⟨rfl, Or.inr ⟨rfl, hE⟩⟩ (Nat.le_of_ble_eq_true rfl) (Nat.le_of_ble_eq_true rfl) dL_fill_20
  · have hP : va_P D vwCl ((wX q cI cZ cJ k V C (un T u.1 (T u.1 + min u.2 (C u.1 - T u.1))) B P A n PR ST li w WK so sp (vp_updL CT 4 (CT 4 + lZ ((min u.2 (C u.1 - T u.1) * V u.1 : Nat) : Int))) SC TA) ++ [(qo, .inl (cJ, 1, .inr (.inl O)))]) H := hP
    have hD : va_D A9 ((wX q cI cZ cJ k V C (un T u.1 (T u.1 + min u.2 (C u.1 - T u.1))) B P A n PR ST li w WK so sp (vp_updL CT 4 (CT 4 + lZ ((min u.2 (C u.1 - T u.1) * V u.1 : Nat) : Int))) SC TA) ++ [(qo, .inl (cJ, 1, .inr (.inl O)))]) := hD
    obtain ⟨rfl, hp⟩ := hp
    refine lv_i2l hx hb dL_fill_8 rfl ?_
    refine n_last (ws' := ((wX q cI cZ cJ k V C (un T u.1 (T u.1 + min u.2 (C u.1 - T u.1))) B P A n PR ST li w WK so sp (vp_updL CT 4 (CT 4 + lZ ((min u.2 (C u.1 - T u.1) * V u.1 : Nat) : Int))) SC TA) ++ [(qo, .inl (cJ, 1, .inr (.inl (vp_updL O 0 ((nI (u.2 - min u.2 (C u.1 - T u.1))).toInt64)))))])) hx hb hK hP hD hS 13 2 rfl rfl (by decide) (by decide) rfl dL_fill_9 (fun H locs hP hD hS => ?_)
    refine lv_goto (tgt := 21) hx hb dL_fill_10 (by decide) ?_
    refine lv_iconst (v := nI 0) hx hb dL_fill_21 (ic_0) ?_
    subst hQ
    exact e_i (Sum.inl u) hx hb hr hlocks hS hP hD ⟨rfl, hp⟩ (Nat.le_of_ble_eq_true rfl) (Nat.le_of_ble_eq_true rfl) dL_fill_22
theorem hd_L_fill : yL_fill.cls = RL ∧ yL_fill.cls ≠ "java/lang/invoke/MethodHandle" ∧ yL_fill.cls ≠ "java/lang/invoke/VarHandle" ∧ (parseMethodDescriptor yL_fill.desc).map (fun d => d.parameters.length) = some 4 := by decide +kernel

set_option maxHeartbeats 4000000 in
set_option maxRecDepth 100000 in
theorem c_L_take (l : Launch) (hst : l.stackTraces = false) (D : va_G) (q : Nat → Nat) (qo : Nat) (cI cZ cJ : ClassId) (k : Nat) (V : Nat → Nat) (C : Nat → Nat) (T : Nat → Nat) (B : Nat → Nat) (P : Nat → Nat) (A : Nat → Nat) (n : Nat) (PR : Nat → Nat) (ST : Nat → Nat) (li : Nat) (w : Nat) (WK : Nat → Nat) (so : Nat) (sp : Nat) (CT : Nat → Int64) (SC : Nat → Int) (TA : Nat → Nat) (O : Nat → Int64) (sz : Nat) (p0 : Int32) (p1 : Int32) (hk8 : k ≤ 8) (hV : ∀ i, i < k → 1 ≤ V i ∧ V i ≤ 500) (hC : ∀ i, i < k → C i ≤ 60 ∧ T i ≤ C i) : Met l yL_take wsL_take ({ frames := 8, cells := 2, slots := 12, locals := 134 }) (va_Pc [.ref (q 0), .int p0, .int p1, .ref qo] (cxN D (ty3 cI cZ cJ) ((wX q cI cZ cJ k V C T B P A n PR ST li w WK so sp CT SC TA) ++ [(qo, .inl (cJ, 1, .inr (.inl O)))]) sz)) (va_Qi (fun r (u : (Nat × Nat) ⊕ Nat) => Sum.elim (fun (u : Nat × Nat) => r = nI 0 ∧ u.1 < k ∧ u.2 < 61 ∧ p0 = nI u.1 ∧ p1 = nI u.2) (fun kk => r = nI kk ∧ ((kk = 1 ∧ (¬ rg p0 0 k)) ∨ (kk = 2 ∧ (rg p0 0 k ∧ ¬ rg p1 0 61)))) u) (bW D (va_A ((wX q cI cZ cJ k V C T B P A n PR ST li w WK so sp CT SC TA) ++ [(qo, .inl (cJ, 1, .inr (.inl O)))]) sz) (fun (u : (Nat × Nat) ⊕ Nat) => Sum.elim (fun (u : Nat × Nat) => (wX q cI cZ cJ k V C (un T u.1 (T u.1 - min u.2 (T u.1))) B P A n PR ST li w WK so sp (vp_updL CT 5 (CT 5 + lZ ((min u.2 (T u.1) * V u.1 : Nat) : Int))) SC TA) ++ [(qo, .inl (cJ, 1, .inr (.inl (vp_updL O 0 ((nI (min u.2 (T u.1))).toInt64)))))]) (fun _ => (wX q cI cZ cJ k V C T B P A n PR ST li w WK so sp CT SC TA) ++ [(qo, .inl (cJ, 1, .inr (.inl O)))]) u)) (va_A ((wX q cI cZ cJ k V C T B P A n PR ST li w WK so sp CT SC TA) ++ [(qo, .inl (cJ, 1, .inr (.inl O)))]) sz)) 2 12 (va_A ((wX q cI cZ cJ k V C T B P A n PR ST li w WK so sp CT SC TA) ++ [(qo, .inl (cJ, 1, .inr (.inl O)))]) sz) := by
  refine va_MetW (cc := cL_take) (maxL := 5) (ret := (some .int)) (by decide) rfl ?_
  intro p e s m args below meth c s₁ BB hml hv
  obtain ⟨hav, ⟨hsz, hP, hK, hD0, hZ, hg⟩, hnc⟩ := hv
  subst hsz
  subst hav
  have hx := BB.exec
  have hb := BB.bytes
  have hr := BB.returns
  have hts := atoms_spec (ws := wsL_take) BB.pre
  have htab := vx_table (x := yL_take) BB (hts _ List.mem_cons_self)
  have hown : s.vm.findClass RL = some m.cls := findClass_of_methodNamed BB.named
  have hlocks := BB.notSynchronized
  have hD := hD0.self (sz := s.heap.size)
  have hA : ∀ q9 : Nat, s.heap.size ≤ q9 → va_A ((wX q cI cZ cJ k V C T B P A n PR ST li w WK so sp CT SC TA) ++ [(qo, .inl (cJ, 1, .inr (.inl O)))]) s.heap.size q9 := fun _ h => Or.inr h
  have hl := lv_entry ([.ref (q 0), .int p0, .int p1, .ref qo]) (n := 5) (Nat.le_of_ble_eq_true rfl)
  rw [lg_entry_eq]
  generalize (lg_sl ([.ref (q 0), .int p0, .int p1, .ref qo]) ++ List.replicate (5 - (lg_sl ([.ref (q 0), .int p0, .int p1, .ref qo])).length) Slot.unset).toArray = ls at hl ⊢
  have hl : lv_has ls 5 [(0, .ref (q 0)), (1, .int p0), (2, .int p1), (3, .ref qo)] := hl
  refine W_absR (fun R hR => ?_)
  have hR : R = ({ frames := 8, cells := 2, slots := 12, locals := 134 } : Room) := hR
  refine W_absQ (fun Q hQ => ?_)
  generalize ([.ref (q 0), .int p0, .int p1, .ref qo] : List Value).toArray = args at hts hQ ⊢
  generalize va_A ((wX q cI cZ cJ k V C T B P A n PR ST li w WK so sp CT SC TA) ++ [(qo, .inl (cJ, 1, .inr (.inl O)))]) s.heap.size = A9 at hD hZ hA hQ
  refine W_start hP (A := A9) (fun H locs hP hS => ?_)
  refine lv_aload_n hx hb dL_take_0 rfl (lv_at hl 3 rfl) ?_
  refine lv_iconst (v := nI 0) hx hb dL_take_1 (ic_0) ?_
  refine lv_aload_n hx hb dL_take_2 rfl (lv_at hl 0 rfl) ?_
  refine lv_iload_n hx hb dL_take_3 rfl (lv_at hl 1 rfl) ?_
  refine lv_iload_n hx hb dL_take_4 rfl (lv_at hl 2 rfl) ?_
  refine k3x_i (wa := []) (wc := (wX q cI cZ cJ k V C T B P A n PR ST li w WK so sp CT SC TA)) (wb := [(qo, .inl (cJ, 1, .inr (.inl O)))]) (vx_runV (As := [.int p0, .int p1]) (rest := [.int (nI 0), .ref qo]) ⟨hx, hb, hml, hown, hts⟩ (c_X0_take l hst D q cI cZ cJ k V C T B P A n PR ST li w WK so sp CT SC TA H.size  p0 p1 hk8 hV hC) (cwV 2 hts gL_take_X0_take rfl rfl rfl hd_X0_take ⟨(by rw [hR]; exact Nat.le_of_ble_eq_true rfl), (by rw [hR]; exact Nat.le_of_ble_eq_true rfl)⟩) (pre_V3 (wa := []) (wc := (wX q cI cZ cJ k V C T B P A n PR ST li w WK so sp CT SC TA)) (wb := [(qo, .inl (cJ, 1, .inr (.inl O)))]) hP hK hD hS hA hZ hg 0 (ci := 0) rfl rfl) rfl rfl hl.1 rfl (lv_room (Nat.le_of_ble_eq_true rfl)) dL_take_5 ⟨(by rw [hR]; exact Nat.le_of_ble_eq_true rfl), (by rw [hR]; exact Nat.le_of_ble_eq_true rfl)⟩) hP hD hS hA (fun E ce q9 H locs hE hP hD hS h1 h2 h3 => ?_) (fun r u H locs hp hP hD hS => ?_)
  · have hP : va_P D vwCl ((wX q cI cZ cJ k V C T B P A n PR ST li w WK so sp CT SC TA) ++ [(qo, .inl (cJ, 1, .inr (.inl O)))]) H := hP
    have hD : va_D A9 ((wX q cI cZ cJ k V C T B P A n PR ST li w WK so sp CT SC TA) ++ [(qo, .inl (cJ, 1, .inr (.inl O)))]) := hD
    rcases hE with ⟨rfl, hE⟩ | ⟨rfl, hE⟩
    · refine vx_catch (name := eIB) hown [] ⟨0, 10, 13, 20⟩ [⟨0, 10, 17, 13⟩] htab (fun z hz => nomatch hz) rfl (by decide) (hts _ (List.mem_of_getElem? (i := 1) rfl)) (hg.2.2.2.1.use rfl) h1 h2 h3 ?_
      refine lv_astore (lv' := [(4, .ref q9), (0, .ref (q 0)), (1, .int p0), (2, .int p1), (3, .ref qo)]) hx hb dL_take_13 hl (by decide) rfl (fun ls hl => ?_)
      refine lv_iconst (v := nI 1) hx hb dL_take_15 (ic_1) ?_
      subst hQ
      exact e_i (Sum.inr 1) hx hb hr hlocks hS hP hD ⟨rfl, Or.inl ⟨rfl, hE⟩⟩ (Nat.le_of_ble_eq_true rfl) (Nat.le_of_ble_eq_true rfl) dL_take_16
    · refine vx_catch (name := eIA) hown [⟨0, 10, 13, 20⟩] ⟨0, 10, 17, 13⟩ [] htab (fun z hz => by cases List.mem_singleton.mp hz; exact Or.inr ⟨(by decide), eIB, hts _ (List.mem_of_getElem? (i := 1) rfl), hnc.2.1⟩) rfl (by decide) (hts _ (List.mem_of_getElem? (i := 2) rfl)) (hg.2.1.use rfl) h1 h2 h3 ?_
      refine lv_astore (lv' := [(4, .ref q9), (0, .ref (q 0)), (1, .int p0), (2, .int p1), (3, .ref qo)]) hx hb dL_take_17 hl (by decide) rfl (fun ls hl => ?_)
      refine lv_iconst (v := nI 2) hx hb dL_take_19 (ic_2) ?_
      subst hQ
      exact e_i (Sum.inr 2) hx hb hr hlocks hS hP hD ⟨rfl, Or.inr ⟨rfl, hE⟩⟩ (Nat.le_of_ble_eq_true rfl) (Nat.le_of_ble_eq_true rfl) dL_take_20
  · have hP : va_P D vwCl ((wX q cI cZ cJ k V C (un T u.1 (T u.1 - min u.2 (T u.1))) B P A n PR ST li w WK so sp (vp_updL CT 5 (CT 5 + lZ ((min u.2 (T u.1) * V u.1 : Nat) : Int))) SC TA) ++ [(qo, .inl (cJ, 1, .inr (.inl O)))]) H := hP
    have hD : va_D A9 ((wX q cI cZ cJ k V C (un T u.1 (T u.1 - min u.2 (T u.1))) B P A n PR ST li w WK so sp (vp_updL CT 5 (CT 5 + lZ ((min u.2 (T u.1) * V u.1 : Nat) : Int))) SC TA) ++ [(qo, .inl (cJ, 1, .inr (.inl O)))]) := hD
    obtain ⟨rfl, hp⟩ := hp
    refine lv_i2l hx hb dL_take_8 rfl ?_
    refine n_last (ws' := ((wX q cI cZ cJ k V C (un T u.1 (T u.1 - min u.2 (T u.1))) B P A n PR ST li w WK so sp (vp_updL CT 5 (CT 5 + lZ ((min u.2 (T u.1) * V u.1 : Nat) : Int))) SC TA) ++ [(qo, .inl (cJ, 1, .inr (.inl (vp_updL O 0 ((nI (min u.2 (T u.1))).toInt64)))))])) hx hb hK hP hD hS 13 2 rfl rfl (by decide) (by decide) rfl dL_take_9 (fun H locs hP hD hS => ?_)
    refine lv_goto (tgt := 21) hx hb dL_take_10 (by decide) ?_
    refine lv_iconst (v := nI 0) hx hb dL_take_21 (ic_0) ?_
    subst hQ
    exact e_i (Sum.inl u) hx hb hr hlocks hS hP hD ⟨rfl, hp⟩ (Nat.le_of_ble_eq_true rfl) (Nat.le_of_ble_eq_true rfl) dL_take_22
theorem hd_L_take : yL_take.cls = RL ∧ yL_take.cls ≠ "java/lang/invoke/MethodHandle" ∧ yL_take.cls ≠ "java/lang/invoke/VarHandle" ∧ (parseMethodDescriptor yL_take.desc).map (fun d => d.parameters.length) = some 4 := by decide +kernel

set_option maxHeartbeats 4000000 in
set_option maxRecDepth 100000 in
theorem c_L_accept (l : Launch) (hst : l.stackTraces = false) (D : va_G) (q : Nat → Nat) (qo : Nat) (cI cZ cJ : ClassId) (k : Nat) (V : Nat → Nat) (C : Nat → Nat) (T : Nat → Nat) (B : Nat → Nat) (P : Nat → Nat) (A : Nat → Nat) (n : Nat) (PR : Nat → Nat) (ST : Nat → Nat) (li : Nat) (w : Nat) (WK : Nat → Nat) (so : Nat) (sp : Nat) (CT : Nat → Int64) (SC : Nat → Int) (TA : Nat → Nat) (O : Nat → Int64) (sz : Nat) (p0 : Int32) (on : Nat) (hk8 : k ≤ 8) (hA1 : ∀ i, i < k → A i ≤ 1) (hon : on ≤ 1) : Met l yL_accept wsL_accept ({ frames := 8, cells := 1, slots := 6, locals := 134 }) (va_Pc [.ref (q 0), .int p0, .int (nI on), .ref qo] (cxN D (ty3 cI cZ cJ) ((wX q cI cZ cJ k V C T B P A n PR ST li w WK so sp CT SC TA) ++ [(qo, .inl (cJ, 1, .inr (.inl O)))]) sz)) (va_Qi (fun r (u : Nat ⊕ Nat) => Sum.elim (fun (u : Nat) => r = nI 0 ∧ u < k ∧ p0 = nI u) (fun kk => r = nI kk ∧ ((kk = 1 ∧ (¬ rg p0 0 k)))) u) (bW D (va_A ((wX q cI cZ cJ k V C T B P A n PR ST li w WK so sp CT SC TA) ++ [(qo, .inl (cJ, 1, .inr (.inl O)))]) sz) (fun (u : Nat ⊕ Nat) => Sum.elim (fun (u : Nat) => (wX q cI cZ cJ k V C T B P (un A u on) n PR ST li w WK so sp CT SC TA) ++ [(qo, .inl (cJ, 1, .inr (.inl (vp_updL O 0 (lZ (((A u : Nat)) : Int))))))]) (fun _ => (wX q cI cZ cJ k V C T B P A n PR ST li w WK so sp CT SC TA) ++ [(qo, .inl (cJ, 1, .inr (.inl O)))]) u)) (va_A ((wX q cI cZ cJ k V C T B P A n PR ST li w WK so sp CT SC TA) ++ [(qo, .inl (cJ, 1, .inr (.inl O)))]) sz)) 1 6 (va_A ((wX q cI cZ cJ k V C T B P A n PR ST li w WK so sp CT SC TA) ++ [(qo, .inl (cJ, 1, .inr (.inl O)))]) sz) := by
  refine va_MetW (cc := cL_accept) (maxL := 5) (ret := (some .int)) (by decide) rfl ?_
  intro p e s m args below meth c s₁ BB hml hv
  obtain ⟨hav, ⟨hsz, hP, hK, hD0, hZ, hg⟩, hnc⟩ := hv
  subst hsz
  subst hav
  have hx := BB.exec
  have hb := BB.bytes
  have hr := BB.returns
  have hts := atoms_spec (ws := wsL_accept) BB.pre
  have htab := vx_table (x := yL_accept) BB (hts _ List.mem_cons_self)
  have hown : s.vm.findClass RL = some m.cls := findClass_of_methodNamed BB.named
  have hlocks := BB.notSynchronized
  have hD := hD0.self (sz := s.heap.size)
  have hA : ∀ q9 : Nat, s.heap.size ≤ q9 → va_A ((wX q cI cZ cJ k V C T B P A n PR ST li w WK so sp CT SC TA) ++ [(qo, .inl (cJ, 1, .inr (.inl O)))]) s.heap.size q9 := fun _ h => Or.inr h
  have hl := lv_entry ([.ref (q 0), .int p0, .int (nI on), .ref qo]) (n := 5) (Nat.le_of_ble_eq_true rfl)
  rw [lg_entry_eq]
  generalize (lg_sl ([.ref (q 0), .int p0, .int (nI on), .ref qo]) ++ List.replicate (5 - (lg_sl ([.ref (q 0), .int p0, .int (nI on), .ref qo])).length) Slot.unset).toArray = ls at hl ⊢
  have hl : lv_has ls 5 [(0, .ref (q 0)), (1, .int p0), (2, .int (nI on)), (3, .ref qo)] := hl
  refine W_absR (fun R hR => ?_)
  have hR : R = ({ frames := 8, cells := 1, slots := 6, locals := 134 } : Room) := hR
  refine W_absQ (fun Q hQ => ?_)
  generalize ([.ref (q 0), .int p0, .int (nI on), .ref qo] : List Value).toArray = args at hts hQ ⊢
  generalize va_A ((wX q cI cZ cJ k V C T B P A n PR ST li w WK so sp CT SC TA) ++ [(qo, .inl (cJ, 1, .inr (.inl O)))]) s.heap.size = A9 at hD hZ hA hQ
  refine W_start hP (A := A9) (fun H locs hP hS => ?_)
  refine lv_aload_n hx hb dL_accept_0 rfl (lv_at hl 3 rfl) ?_
  refine lv_iconst (v := nI 0) hx hb dL_accept_1 (ic_0) ?_
  refine lv_aload_n hx hb dL_accept_2 rfl (lv_at hl 0 rfl) ?_
  refine lv_iload_n hx hb dL_accept_3 rfl (lv_at hl 1 rfl) ?_
  refine lv_iload_n hx hb dL_accept_4 rfl (lv_at hl 2 rfl) ?_
  refine k3x_i (wa := []) (wc := (wX q cI cZ cJ k V C T B P A n PR ST li w WK so sp CT SC TA)) (wb := [(qo, .inl (cJ, 1, .inr (.inl O)))]) (vx_runV (As := [.int p0, .int (nI on)]) (rest := [.int (nI 0), .ref qo]) ⟨hx, hb, hml, hown, hts⟩ (c_X0_accept l hst D q cI cZ cJ k V C T B P A n PR ST li w WK so sp CT SC TA H.size  p0 on hk8 hA1 hon) (cwV 2 hts gL_accept_X0_accept rfl rfl rfl hd_X0_accept ⟨(by rw [hR]; exact Nat.le_of_ble_eq_true rfl), (by rw [hR]; exact Nat.le_of_ble_eq_true rfl)⟩) (pre_V3 (wa := []) (wc := (wX q cI cZ cJ k V C T B P A n PR ST li w WK so sp CT SC TA)) (wb := [(qo, .inl (cJ, 1, .inr (.inl O)))]) hP hK hD hS hA hZ hg 0 (ci := 0) rfl rfl) rfl rfl hl.1 rfl (lv_room (Nat.le_of_ble_eq_true rfl)) dL_accept_5 ⟨(by rw [hR]; exact Nat.le_of_ble_eq_true rfl), (by rw [hR]; exact Nat.le_of_ble_eq_true rfl)⟩) hP hD hS hA (fun E ce q9 H locs hE hP hD hS h1 h2 h3 => ?_) (fun r u H locs hp hP hD hS => ?_)
  · have hP : va_P D vwCl ((wX q cI cZ cJ k V C T B P A n PR ST li w WK so sp CT SC TA) ++ [(qo, .inl (cJ, 1, .inr (.inl O)))]) H := hP
    have hD : va_D A9 ((wX q cI cZ cJ k V C T B P A n PR ST li w WK so sp CT SC TA) ++ [(qo, .inl (cJ, 1, .inr (.inl O)))]) := hD
    obtain ⟨rfl, hE⟩ := hE
    refine vx_catch (name := eIB) hown [] ⟨0, 17, 20, 20⟩ [] htab (fun z hz => nomatch hz) rfl (by decide) (hts _ (List.mem_of_getElem? (i := 1) rfl)) (hg.2.2.2.1.use rfl) h1 h2 h3 ?_
    refine lv_astore (lv' := [(4, .ref q9), (0, .ref (q 0)), (1, .int p0), (2, .int (nI on)), (3, .ref qo)]) hx hb dL_accept_20 hl (by decide) rfl (fun ls hl => ?_)
    refine lv_iconst (v := nI 1) hx hb dL_accept_22 (ic_1) ?_
    subst hQ
    exact e_i (Sum.inr 1) hx hb hr hlocks hS hP hD ⟨rfl, ⟨rfl, hE⟩⟩ (Nat.le_of_ble_eq_true rfl) (Nat.le_of_ble_eq_true rfl) dL_accept_23
  · have hP : va_P D vwCl ((wX q cI cZ cJ k V C T B P (un A u on) n PR ST li w WK so sp CT SC TA) ++ [(qo, .inl (cJ, 1, .inr (.inl O)))]) H := hP
    have hD : va_D A9 ((wX q cI cZ cJ k V C T B P (un A u on) n PR ST li w WK so sp CT SC TA) ++ [(qo, .inl (cJ, 1, .inr (.inl O)))]) := hD
    obtain ⟨rfl, hp⟩ := hp
    have hbd : A u ≤ 1 := hA1 u hp.1
    refine n_if_eq (tgt := 15) hx hb (by omega) dL_accept_8 (by decide) (fun cq => ?_) (fun cq => ?_)
    · have cq : A u = 0 := by omega
      refine lv_lconst (v := lZ 0) hx hb dL_accept_15 (by decide) ?_
      refine n_topl (show lZ 0 = lZ (((A u : Nat)) : Int) from by rw [cq]; rfl) ?_
      refine n_last (ws' := ((wX q cI cZ cJ k V C T B P (un A u on) n PR ST li w WK so sp CT SC TA) ++ [(qo, .inl (cJ, 1, .inr (.inl (vp_updL O 0 (lZ (((A u : Nat)) : Int))))))])) hx hb hK hP hD hS 13 2 rfl rfl (by decide) (by decide) rfl dL_accept_16 (fun H locs hP hD hS => ?_)
      refine lv_goto (tgt := 24) hx hb dL_accept_17 (by decide) ?_
      refine lv_iconst (v := nI 0) hx hb dL_accept_24 (ic_0) ?_
      subst hQ
      exact e_i (Sum.inl u) hx hb hr hlocks hS hP hD ⟨rfl, hp⟩ (Nat.le_of_ble_eq_true rfl) (Nat.le_of_ble_eq_true rfl) dL_accept_25
    · have cq : A u = 1 := by omega
      refine lv_lconst (v := lZ 1) hx hb dL_accept_11 (by decide) ?_
      refine lv_goto (tgt := 16) hx hb dL_accept_12 (by decide) ?_
      refine n_topl (show lZ 1 = lZ (((A u : Nat)) : Int) from by rw [cq]; rfl) ?_
      refine n_last (ws' := ((wX q cI cZ cJ k V C T B P (un A u on) n PR ST li w WK so sp CT SC TA) ++ [(qo, .inl (cJ, 1, .inr (.inl (vp_updL O 0 (lZ (((A u : Nat)) : Int))))))])) hx hb hK hP hD hS 13 2 rfl rfl (by decide) (by decide) rfl dL_accept_16 (fun H locs hP hD hS => ?_)
      refine lv_goto (tgt := 24) hx hb dL_accept_17 (by decide) ?_
      refine lv_iconst (v := nI 0) hx hb dL_accept_24 (ic_0) ?_
      subst hQ
      exact e_i (Sum.inl u) hx hb hr hlocks hS hP hD ⟨rfl, hp⟩ (Nat.le_of_ble_eq_true rfl) (Nat.le_of_ble_eq_true rfl) dL_accept_25
theorem hd_L_accept : yL_accept.cls = RL ∧ yL_accept.cls ≠ "java/lang/invoke/MethodHandle" ∧ yL_accept.cls ≠ "java/lang/invoke/VarHandle" ∧ (parseMethodDescriptor yL_accept.desc).map (fun d => d.parameters.length) = some 4 := by decide +kernel

set_option maxHeartbeats 4000000 in
set_option maxRecDepth 100000 in
theorem c_L_setLimit (l : Launch) (hst : l.stackTraces = false) (D : va_G) (q : Nat → Nat) (qo : Nat) (cI cZ cJ : ClassId) (k : Nat) (V : Nat → Nat) (C : Nat → Nat) (T : Nat → Nat) (B : Nat → Nat) (P : Nat → Nat) (A : Nat → Nat) (n : Nat) (PR : Nat → Nat) (ST : Nat → Nat) (li : Nat) (w : Nat) (WK : Nat → Nat) (so : Nat) (sp : Nat) (CT : Nat → Int64) (SC : Nat → Int) (TA : Nat → Nat) (O : Nat → Int64) (sz : Nat) (p0 : Int32) : Met l yL_setLimit wsL_setLimit ({ frames := 7, cells := 1, slots := 6, locals := 112 }) (va_Pc [.ref (q 0), .int p0, .ref qo] (cxN D (ty3 cI cZ cJ) ((wX q cI cZ cJ k V C T B P A n PR ST li w WK so sp CT SC TA) ++ [(qo, .inl (cJ, 1, .inr (.inl O)))]) sz)) (va_Qi (fun r (u : Nat ⊕ Nat) => Sum.elim (fun (u : Nat) => r = nI 0 ∧ u < 2001 ∧ p0 = nI u) (fun kk => r = nI kk ∧ ((kk = 1 ∧ (¬ rg p0 0 2001)))) u) (bW D (va_A ((wX q cI cZ cJ k V C T B P A n PR ST li w WK so sp CT SC TA) ++ [(qo, .inl (cJ, 1, .inr (.inl O)))]) sz) (fun (u : Nat ⊕ Nat) => Sum.elim (fun (u : Nat) => (wX q cI cZ cJ k V C T B P A n PR ST u w WK so sp CT SC TA) ++ [(qo, .inl (cJ, 1, .inr (.inl (vp_updL O 0 ((nI li).toInt64)))))]) (fun _ => (wX q cI cZ cJ k V C T B P A n PR ST li w WK so sp CT SC TA) ++ [(qo, .inl (cJ, 1, .inr (.inl O)))]) u)) (va_A ((wX q cI cZ cJ k V C T B P A n PR ST li w WK so sp CT SC TA) ++ [(qo, .inl (cJ, 1, .inr (.inl O)))]) sz)) 1 6 (va_A ((wX q cI cZ cJ k V C T B P A n PR ST li w WK so sp CT SC TA) ++ [(qo, .inl (cJ, 1, .inr (.inl O)))]) sz) := by
  refine va_MetW (cc := cL_setLimit) (maxL := 4) (ret := (some .int)) (by decide) rfl ?_
  intro p e s m args below meth c s₁ BB hml hv
  obtain ⟨hav, ⟨hsz, hP, hK, hD0, hZ, hg⟩, hnc⟩ := hv
  subst hsz
  subst hav
  have hx := BB.exec
  have hb := BB.bytes
  have hr := BB.returns
  have hts := atoms_spec (ws := wsL_setLimit) BB.pre
  have htab := vx_table (x := yL_setLimit) BB (hts _ List.mem_cons_self)
  have hown : s.vm.findClass RL = some m.cls := findClass_of_methodNamed BB.named
  have hlocks := BB.notSynchronized
  have hD := hD0.self (sz := s.heap.size)
  have hA : ∀ q9 : Nat, s.heap.size ≤ q9 → va_A ((wX q cI cZ cJ k V C T B P A n PR ST li w WK so sp CT SC TA) ++ [(qo, .inl (cJ, 1, .inr (.inl O)))]) s.heap.size q9 := fun _ h => Or.inr h
  have hl := lv_entry ([.ref (q 0), .int p0, .ref qo]) (n := 4) (Nat.le_of_ble_eq_true rfl)
  rw [lg_entry_eq]
  generalize (lg_sl ([.ref (q 0), .int p0, .ref qo]) ++ List.replicate (4 - (lg_sl ([.ref (q 0), .int p0, .ref qo])).length) Slot.unset).toArray = ls at hl ⊢
  have hl : lv_has ls 4 [(0, .ref (q 0)), (1, .int p0), (2, .ref qo)] := hl
  refine W_absR (fun R hR => ?_)
  have hR : R = ({ frames := 7, cells := 1, slots := 6, locals := 112 } : Room) := hR
  refine W_absQ (fun Q hQ => ?_)
  generalize ([.ref (q 0), .int p0, .ref qo] : List Value).toArray = args at hts hQ ⊢
  generalize va_A ((wX q cI cZ cJ k V C T B P A n PR ST li w WK so sp CT SC TA) ++ [(qo, .inl (cJ, 1, .inr (.inl O)))]) s.heap.size = A9 at hD hZ hA hQ
  refine W_start hP (A := A9) (fun H locs hP hS => ?_)
  refine lv_aload_n hx hb dL_setLimit_0 rfl (lv_at hl 2 rfl) ?_
  refine lv_iconst (v := nI 0) hx hb dL_setLimit_1 (ic_0) ?_
  refine lv_aload_n hx hb dL_setLimit_2 rfl (lv_at hl 0 rfl) ?_
  refine lv_iload_n hx hb dL_setLimit_3 rfl (lv_at hl 1 rfl) ?_
  refine k3x_i (wa := []) (wc := (wX q cI cZ cJ k V C T B P A n PR ST li w WK so sp CT SC TA)) (wb := [(qo, .inl (cJ, 1, .inr (.inl O)))]) (vx_runV (As := [.int p0]) (rest := [.int (nI 0), .ref qo]) ⟨hx, hb, hml, hown, hts⟩ (c_X0_setLimit l hst D q cI cZ cJ k V C T B P A n PR ST li w WK so sp CT SC TA H.size  p0 ) (cwV 1 hts gL_setLimit_X0_setLimit rfl rfl rfl hd_X0_setLimit ⟨(by rw [hR]; exact Nat.le_of_ble_eq_true rfl), (by rw [hR]; exact Nat.le_of_ble_eq_true rfl)⟩) (pre_V3 (wa := []) (wc := (wX q cI cZ cJ k V C T B P A n PR ST li w WK so sp CT SC TA)) (wb := [(qo, .inl (cJ, 1, .inr (.inl O)))]) hP hK hD hS hA hZ hg 0 (ci := 0) rfl rfl) rfl rfl hl.1 rfl (lv_room (Nat.le_of_ble_eq_true rfl)) dL_setLimit_4 ⟨(by rw [hR]; exact Nat.le_of_ble_eq_true rfl), (by rw [hR]; exact Nat.le_of_ble_eq_true rfl)⟩) hP hD hS hA (fun E ce q9 H locs hE hP hD hS h1 h2 h3 => ?_) (fun r u H locs hp hP hD hS => ?_)
  · have hP : va_P D vwCl ((wX q cI cZ cJ k V C T B P A n PR ST li w WK so sp CT SC TA) ++ [(qo, .inl (cJ, 1, .inr (.inl O)))]) H := hP
    have hD : va_D A9 ((wX q cI cZ cJ k V C T B P A n PR ST li w WK so sp CT SC TA) ++ [(qo, .inl (cJ, 1, .inr (.inl O)))]) := hD
    obtain ⟨rfl, hE⟩ := hE
    refine vx_catch (name := eIA) hown [] ⟨0, 9, 12, 13⟩ [] htab (fun z hz => nomatch hz) rfl (by decide) (hts _ (List.mem_of_getElem? (i := 1) rfl)) (hg.2.1.use rfl) h1 h2 h3 ?_
    refine lv_astore_n (lv' := [(3, .ref q9), (0, .ref (q 0)), (1, .int p0), (2, .ref qo)]) hx hb dL_setLimit_12 rfl hl (by decide) rfl (fun ls hl => ?_)
    refine lv_iconst (v := nI 1) hx hb dL_setLimit_13 (ic_1) ?_
    subst hQ
    exact e_i (Sum.inr 1) hx hb hr hlocks hS hP hD ⟨rfl, ⟨rfl, hE⟩⟩ (Nat.le_of_ble_eq_true rfl) (Nat.le_of_ble_eq_true rfl) dL_setLimit_14
  · have hP : va_P D vwCl ((wX q cI cZ cJ k V C T B P A n PR ST u w WK so sp CT SC TA) ++ [(qo, .inl (cJ, 1, .inr (.inl O)))]) H := hP
    have hD : va_D A9 ((wX q cI cZ cJ k V C T B P A n PR ST u w WK so sp CT SC TA) ++ [(qo, .inl (cJ, 1, .inr (.inl O)))]) := hD
    obtain ⟨rfl, hp⟩ := hp
    refine lv_i2l hx hb dL_setLimit_7 rfl ?_
    refine n_last (ws' := ((wX q cI cZ cJ k V C T B P A n PR ST u w WK so sp CT SC TA) ++ [(qo, .inl (cJ, 1, .inr (.inl (vp_updL O 0 ((nI li).toInt64)))))])) hx hb hK hP hD hS 13 2 rfl rfl (by decide) (by decide) rfl dL_setLimit_8 (fun H locs hP hD hS => ?_)
    refine lv_goto (tgt := 15) hx hb dL_setLimit_9 (by decide) ?_
    refine lv_iconst (v := nI 0) hx hb dL_setLimit_15 (ic_0) ?_
    subst hQ
    exact e_i (Sum.inl u) hx hb hr hlocks hS hP hD ⟨rfl, hp⟩ (Nat.le_of_ble_eq_true rfl) (Nat.le_of_ble_eq_true rfl) dL_setLimit_16
theorem hd_L_setLimit : yL_setLimit.cls = RL ∧ yL_setLimit.cls ≠ "java/lang/invoke/MethodHandle" ∧ yL_setLimit.cls ≠ "java/lang/invoke/VarHandle" ∧ (parseMethodDescriptor yL_setLimit.desc).map (fun d => d.parameters.length) = some 3 := by decide +kernel

set_option maxHeartbeats 4000000 in
set_option maxRecDepth 100000 in
theorem c_L_addProduct (l : Launch) (hst : l.stackTraces = false) (D : va_G) (q : Nat → Nat) (qo : Nat) (cI cZ cJ : ClassId) (k : Nat) (V : Nat → Nat) (C : Nat → Nat) (T : Nat → Nat) (B : Nat → Nat) (P : Nat → Nat) (A : Nat → Nat) (n : Nat) (PR : Nat → Nat) (ST : Nat → Nat) (li : Nat) (w : Nat) (WK : Nat → Nat) (so : Nat) (sp : Nat) (CT : Nat → Int64) (SC : Nat → Int) (TA : Nat → Nat) (O : Nat → Int64) (sz : Nat) (p0 : Int32) (p1 : Int32) (hn10 : n ≤ 10) : Met l yL_addProduct wsL_addProduct ({ frames := 8, cells := 2, slots := 12, locals := 133 }) (va_Pc [.ref (q 0), .int p0, .int p1, .ref qo] (cxN D (ty3 cI cZ cJ) ((wX q cI cZ cJ k V C T B P A n PR ST li w WK so sp CT SC TA) ++ [(qo, .inl (cJ, 1, .inr (.inl O)))]) sz)) (va_Qi (fun r (u : (Nat × Nat) ⊕ Nat) => Sum.elim (fun (u : Nat × Nat) => r = nI 0 ∧ 1 ≤ u.1 ∧ u.1 < 2001 ∧ u.2 < 100 ∧ p0 = nI u.1 ∧ p1 = nI u.2 ∧ n < 10) (fun kk => r = nI kk ∧ ((kk = 1 ∧ (¬ (rg p0 1 2001 ∧ rg p1 0 100))) ∨ (kk = 2 ∧ ((rg p0 1 2001 ∧ rg p1 0 100) ∧ ¬ n < 10)))) u) (bW D (va_A ((wX q cI cZ cJ k V C T B P A n PR ST li w WK so sp CT SC TA) ++ [(qo, .inl (cJ, 1, .inr (.inl O)))]) sz) (fun (u : (Nat × Nat) ⊕ Nat) => Sum.elim (fun (u : Nat × Nat) => (wX q cI cZ cJ k V C T B P A (n + 1) (un PR n u.1) (un ST n u.2) li w WK so sp CT SC TA) ++ [(qo, .inl (cJ, 1, .inr (.inl (vp_updL O 0 ((nI n).toInt64)))))]) (fun _ => (wX q cI cZ cJ k V C T B P A n PR ST li w WK so sp CT SC TA) ++ [(qo, .inl (cJ, 1, .inr (.inl O)))]) u)) (va_A ((wX q cI cZ cJ k V C T B P A n PR ST li w WK so sp CT SC TA) ++ [(qo, .inl (cJ, 1, .inr (.inl O)))]) sz)) 2 12 (va_A ((wX q cI cZ cJ k V C T B P A n PR ST li w WK so sp CT SC TA) ++ [(qo, .inl (cJ, 1, .inr (.inl O)))]) sz) := by
  refine va_MetW (cc := cL_addProduct) (maxL := 5) (ret := (some .int)) (by decide) rfl ?_
  intro p e s m args below meth c s₁ BB hml hv
  obtain ⟨hav, ⟨hsz, hP, hK, hD0, hZ, hg⟩, hnc⟩ := hv
  subst hsz
  subst hav
  have hx := BB.exec
  have hb := BB.bytes
  have hr := BB.returns
  have hts := atoms_spec (ws := wsL_addProduct) BB.pre
  have htab := vx_table (x := yL_addProduct) BB (hts _ List.mem_cons_self)
  have hown : s.vm.findClass RL = some m.cls := findClass_of_methodNamed BB.named
  have hlocks := BB.notSynchronized
  have hD := hD0.self (sz := s.heap.size)
  have hA : ∀ q9 : Nat, s.heap.size ≤ q9 → va_A ((wX q cI cZ cJ k V C T B P A n PR ST li w WK so sp CT SC TA) ++ [(qo, .inl (cJ, 1, .inr (.inl O)))]) s.heap.size q9 := fun _ h => Or.inr h
  have hl := lv_entry ([.ref (q 0), .int p0, .int p1, .ref qo]) (n := 5) (Nat.le_of_ble_eq_true rfl)
  rw [lg_entry_eq]
  generalize (lg_sl ([.ref (q 0), .int p0, .int p1, .ref qo]) ++ List.replicate (5 - (lg_sl ([.ref (q 0), .int p0, .int p1, .ref qo])).length) Slot.unset).toArray = ls at hl ⊢
  have hl : lv_has ls 5 [(0, .ref (q 0)), (1, .int p0), (2, .int p1), (3, .ref qo)] := hl
  refine W_absR (fun R hR => ?_)
  have hR : R = ({ frames := 8, cells := 2, slots := 12, locals := 133 } : Room) := hR
  refine W_absQ (fun Q hQ => ?_)
  generalize ([.ref (q 0), .int p0, .int p1, .ref qo] : List Value).toArray = args at hts hQ ⊢
  generalize va_A ((wX q cI cZ cJ k V C T B P A n PR ST li w WK so sp CT SC TA) ++ [(qo, .inl (cJ, 1, .inr (.inl O)))]) s.heap.size = A9 at hD hZ hA hQ
  refine W_start hP (A := A9) (fun H locs hP hS => ?_)
  refine lv_aload_n hx hb dL_addProduct_0 rfl (lv_at hl 3 rfl) ?_
  refine lv_iconst (v := nI 0) hx hb dL_addProduct_1 (ic_0) ?_
  refine lv_aload_n hx hb dL_addProduct_2 rfl (lv_at hl 0 rfl) ?_
  refine lv_iload_n hx hb dL_addProduct_3 rfl (lv_at hl 1 rfl) ?_
  refine lv_iload_n hx hb dL_addProduct_4 rfl (lv_at hl 2 rfl) ?_
  refine k3x_i (wa := []) (wc := (wX q cI cZ cJ k V C T B P A n PR ST li w WK so sp CT SC TA)) (wb := [(qo, .inl (cJ, 1, .inr (.inl O)))]) (vx_runV (As := [.int p0, .int p1]) (rest := [.int (nI 0), .ref qo]) ⟨hx, hb, hml, hown, hts⟩ (c_X0_addProduct l hst D q cI cZ cJ k V C T B P A n PR ST li w WK so sp CT SC TA H.size  p0 p1 hn10) (cwV 2 hts gL_addProduct_X0_addProduct rfl rfl rfl hd_X0_addProduct ⟨(by rw [hR]; exact Nat.le_of_ble_eq_true rfl), (by rw [hR]; exact Nat.le_of_ble_eq_true rfl)⟩) (pre_V3 (wa := []) (wc := (wX q cI cZ cJ k V C T B P A n PR ST li w WK so sp CT SC TA)) (wb := [(qo, .inl (cJ, 1, .inr (.inl O)))]) hP hK hD hS hA hZ hg 0 (ci := 0) rfl rfl) rfl rfl hl.1 rfl (lv_room (Nat.le_of_ble_eq_true rfl)) dL_addProduct_5 ⟨(by rw [hR]; exact Nat.le_of_ble_eq_true rfl), (by rw [hR]; exact Nat.le_of_ble_eq_true rfl)⟩) hP hD hS hA (fun E ce q9 H locs hE hP hD hS h1 h2 h3 => ?_) (fun r u H locs hp hP hD hS => ?_)
  · have hP : va_P D vwCl ((wX q cI cZ cJ k V C T B P A n PR ST li w WK so sp CT SC TA) ++ [(qo, .inl (cJ, 1, .inr (.inl O)))]) H := hP
    have hD : va_D A9 ((wX q cI cZ cJ k V C T B P A n PR ST li w WK so sp CT SC TA) ++ [(qo, .inl (cJ, 1, .inr (.inl O)))]) := hD
    rcases hE with ⟨rfl, hE⟩ | ⟨rfl, hE⟩
    · refine vx_catch (name := eIA) hown [] ⟨0, 10, 13, 13⟩ [⟨0, 10, 17, 15⟩] htab (fun z hz => nomatch hz) rfl (by decide) (hts _ (List.mem_of_getElem? (i := 1) rfl)) (hg.2.1.use rfl) h1 h2 h3 ?_
      refine lv_astore (lv' := [(4, .ref q9), (0, .ref (q 0)), (1, .int p0), (2, .int p1), (3, .ref qo)]) hx hb dL_addProduct_13 hl (by decide) rfl (fun ls hl => ?_)
      refine lv_iconst (v := nI 1) hx hb dL_addProduct_15 (ic_1) ?_
      subst hQ
      exact e_i (Sum.inr 1) hx hb hr hlocks hS hP hD ⟨rfl, Or.inl ⟨rfl, hE⟩⟩ (Nat.le_of_ble_eq_true rfl) (Nat.le_of_ble_eq_true rfl) dL_addProduct_16
    · refine vx_catch (name := eIS) hown [⟨0, 10, 13, 13⟩] ⟨0, 10, 17, 15⟩ [] htab (fun z hz => by cases List.mem_singleton.mp hz; exact Or.inr ⟨(by decide), eIA, hts _ (List.mem_of_getElem? (i := 1) rfl), hnc.1⟩) rfl (by decide) (hts _ (List.mem_of_getElem? (i := 2) rfl)) (hg.2.2.1.use rfl) h1 h2 h3 ?_
      refine lv_astore (lv' := [(4, .ref q9), (0, .ref (q 0)), (1, .int p0), (2, .int p1), (3, .ref qo)]) hx hb dL_addProduct_17 hl (by decide) rfl (fun ls hl => ?_)
      refine lv_iconst (v := nI 2) hx hb dL_addProduct_19 (ic_2) ?_
      subst hQ
      exact e_i (Sum.inr 2) hx hb hr hlocks hS hP hD ⟨rfl, Or.inr ⟨rfl, hE⟩⟩ (Nat.le_of_ble_eq_true rfl) (Nat.le_of_ble_eq_true rfl) dL_addProduct_20
  · have hP : va_P D vwCl ((wX q cI cZ cJ k V C T B P A (n + 1) (un PR n u.1) (un ST n u.2) li w WK so sp CT SC TA) ++ [(qo, .inl (cJ, 1, .inr (.inl O)))]) H := hP
    have hD : va_D A9 ((wX q cI cZ cJ k V C T B P A (n + 1) (un PR n u.1) (un ST n u.2) li w WK so sp CT SC TA) ++ [(qo, .inl (cJ, 1, .inr (.inl O)))]) := hD
    obtain ⟨rfl, hp⟩ := hp
    refine lv_i2l hx hb dL_addProduct_8 rfl ?_
    refine n_last (ws' := ((wX q cI cZ cJ k V C T B P A (n + 1) (un PR n u.1) (un ST n u.2) li w WK so sp CT SC TA) ++ [(qo, .inl (cJ, 1, .inr (.inl (vp_updL O 0 ((nI n).toInt64)))))])) hx hb hK hP hD hS 13 2 rfl rfl (by decide) (by decide) rfl dL_addProduct_9 (fun H locs hP hD hS => ?_)
    refine lv_goto (tgt := 21) hx hb dL_addProduct_10 (by decide) ?_
    refine lv_iconst (v := nI 0) hx hb dL_addProduct_21 (ic_0) ?_
    subst hQ
    exact e_i (Sum.inl u) hx hb hr hlocks hS hP hD ⟨rfl, hp⟩ (Nat.le_of_ble_eq_true rfl) (Nat.le_of_ble_eq_true rfl) dL_addProduct_22
theorem hd_L_addProduct : yL_addProduct.cls = RL ∧ yL_addProduct.cls ≠ "java/lang/invoke/MethodHandle" ∧ yL_addProduct.cls ≠ "java/lang/invoke/VarHandle" ∧ (parseMethodDescriptor yL_addProduct.desc).map (fun d => d.parameters.length) = some 4 := by decide +kernel

set_option maxHeartbeats 4000000 in
set_option maxRecDepth 100000 in
theorem c_L_setProduct (l : Launch) (hst : l.stackTraces = false) (D : va_G) (q : Nat → Nat) (qo : Nat) (cI cZ cJ : ClassId) (k : Nat) (V : Nat → Nat) (C : Nat → Nat) (T : Nat → Nat) (B : Nat → Nat) (P : Nat → Nat) (A : Nat → Nat) (n : Nat) (PR : Nat → Nat) (ST : Nat → Nat) (li : Nat) (w : Nat) (WK : Nat → Nat) (so : Nat) (sp : Nat) (CT : Nat → Int64) (SC : Nat → Int) (TA : Nat → Nat) (O : Nat → Int64) (sz : Nat) (p0 : Int32) (p1 : Int32) (p2 : Int32) (hn10 : n ≤ 10) : Met l yL_setProduct wsL_setProduct ({ frames := 8, cells := 2, slots := 12, locals := 135 }) (va_Pc [.ref (q 0), .int p0, .int p1, .int p2, .ref qo] (cxN D (ty3 cI cZ cJ) ((wX q cI cZ cJ k V C T B P A n PR ST li w WK so sp CT SC TA) ++ [(qo, .inl (cJ, 1, .inr (.inl O)))]) sz)) (va_Qi (fun r (u : (Nat × Nat × Nat) ⊕ Nat) => Sum.elim (fun (u : Nat × Nat × Nat) => r = nI 0 ∧ u.1 < n ∧ 1 ≤ u.2.1 ∧ u.2.1 < 2001 ∧ u.2.2 < 100 ∧ p0 = nI u.1 ∧ p1 = nI u.2.1 ∧ p2 = nI u.2.2) (fun kk => r = nI kk ∧ ((kk = 1 ∧ (¬ rg p0 0 n)) ∨ (kk = 2 ∧ (rg p0 0 n ∧ ¬ (rg p1 1 2001 ∧ rg p2 0 100))))) u) (bW D (va_A ((wX q cI cZ cJ k V C T B P A n PR ST li w WK so sp CT SC TA) ++ [(qo, .inl (cJ, 1, .inr (.inl O)))]) sz) (fun (u : (Nat × Nat × Nat) ⊕ Nat) => Sum.elim (fun (u : Nat × Nat × Nat) => (wX q cI cZ cJ k V C T B P A n (un PR u.1 u.2.1) (un ST u.1 u.2.2) li w WK so sp CT SC TA) ++ [(qo, .inl (cJ, 1, .inr (.inl (vp_updL O 0 ((nI (PR u.1)).toInt64)))))]) (fun _ => (wX q cI cZ cJ k V C T B P A n PR ST li w WK so sp CT SC TA) ++ [(qo, .inl (cJ, 1, .inr (.inl O)))]) u)) (va_A ((wX q cI cZ cJ k V C T B P A n PR ST li w WK so sp CT SC TA) ++ [(qo, .inl (cJ, 1, .inr (.inl O)))]) sz)) 2 12 (va_A ((wX q cI cZ cJ k V C T B P A n PR ST li w WK so sp CT SC TA) ++ [(qo, .inl (cJ, 1, .inr (.inl O)))]) sz) := by
  refine va_MetW (cc := cL_setProduct) (maxL := 6) (ret := (some .int)) (by decide) rfl ?_
  intro p e s m args below meth c s₁ BB hml hv
  obtain ⟨hav, ⟨hsz, hP, hK, hD0, hZ, hg⟩, hnc⟩ := hv
  subst hsz
  subst hav
  have hx := BB.exec
  have hb := BB.bytes
  have hr := BB.returns
  have hts := atoms_spec (ws := wsL_setProduct) BB.pre
  have htab := vx_table (x := yL_setProduct) BB (hts _ List.mem_cons_self)
  have hown : s.vm.findClass RL = some m.cls := findClass_of_methodNamed BB.named
  have hlocks := BB.notSynchronized
  have hD := hD0.self (sz := s.heap.size)
  have hA : ∀ q9 : Nat, s.heap.size ≤ q9 → va_A ((wX q cI cZ cJ k V C T B P A n PR ST li w WK so sp CT SC TA) ++ [(qo, .inl (cJ, 1, .inr (.inl O)))]) s.heap.size q9 := fun _ h => Or.inr h
  have hl := lv_entry ([.ref (q 0), .int p0, .int p1, .int p2, .ref qo]) (n := 6) (Nat.le_of_ble_eq_true rfl)
  rw [lg_entry_eq]
  generalize (lg_sl ([.ref (q 0), .int p0, .int p1, .int p2, .ref qo]) ++ List.replicate (6 - (lg_sl ([.ref (q 0), .int p0, .int p1, .int p2, .ref qo])).length) Slot.unset).toArray = ls at hl ⊢
  have hl : lv_has ls 6 [(0, .ref (q 0)), (1, .int p0), (2, .int p1), (3, .int p2), (4, .ref qo)] := hl
  refine W_absR (fun R hR => ?_)
  have hR : R = ({ frames := 8, cells := 2, slots := 12, locals := 135 } : Room) := hR
  refine W_absQ (fun Q hQ => ?_)
  generalize ([.ref (q 0), .int p0, .int p1, .int p2, .ref qo] : List Value).toArray = args at hts hQ ⊢
  generalize va_A ((wX q cI cZ cJ k V C T B P A n PR ST li w WK so sp CT SC TA) ++ [(qo, .inl (cJ, 1, .inr (.inl O)))]) s.heap.size = A9 at hD hZ hA hQ
  refine W_start hP (A := A9) (fun H locs hP hS => ?_)
  refine lv_aload hx hb dL_setProduct_0 (lv_at hl 4 rfl) ?_
  refine lv_iconst (v := nI 0) hx hb dL_setProduct_2 (ic_0) ?_
  refine lv_aload_n hx hb dL_setProduct_3 rfl (lv_at hl 0 rfl) ?_
  refine lv_iload_n hx hb dL_setProduct_4 rfl (lv_at hl 1 rfl) ?_
  refine lv_iload_n hx hb dL_setProduct_5 rfl (lv_at hl 2 rfl) ?_
  refine lv_iload_n hx hb dL_setProduct_6 rfl (lv_at hl 3 rfl) ?_
  refine k3x_i (wa := []) (wc := (wX q cI cZ cJ k V C T B P A n PR ST li w WK so sp CT SC TA)) (wb := [(qo, .inl (cJ, 1, .inr (.inl O)))]) (vx_runV (As := [.int p0, .int p1, .int p2]) (rest := [.int (nI 0), .ref qo]) ⟨hx, hb, hml, hown, hts⟩ (c_X0_setProduct l hst D q cI cZ cJ k V C T B P A n PR ST li w WK so sp CT SC TA H.size  p0 p1 p2 hn10) (cwV 3 hts gL_setProduct_X0_setProduct rfl rfl rfl hd_X0_setProduct ⟨(by rw [hR]; exact Nat.le_of_ble_eq_true rfl), (by rw [hR]; exact Nat.le_of_ble_eq_true rfl)⟩) (pre_V3 (wa := []) (wc := (wX q cI cZ cJ k V C T B P A n PR ST li w WK so sp CT SC TA)) (wb := [(qo, .inl (cJ, 1, .inr (.inl O)))]) hP hK hD hS hA hZ hg 0 (ci := 0) rfl rfl) rfl rfl hl.1 rfl (lv_room (Nat.le_of_ble_eq_true rfl)) dL_setProduct_7 ⟨(by rw [hR]; exact Nat.le_of_ble_eq_true rfl), (by rw [hR]; exact Nat.le_of_ble_eq_true rfl)⟩) hP hD hS hA (fun E ce q9 H locs hE hP hD hS h1 h2 h3 => ?_) (fun r u H locs hp hP hD hS => ?_)
  · have hP : va_P D vwCl ((wX q cI cZ cJ k V C T B P A n PR ST li w WK so sp CT SC TA) ++ [(qo, .inl (cJ, 1, .inr (.inl O)))]) H := hP
    have hD : va_D A9 ((wX q cI cZ cJ k V C T B P A n PR ST li w WK so sp CT SC TA) ++ [(qo, .inl (cJ, 1, .inr (.inl O)))]) := hD
    rcases hE with ⟨rfl, hE⟩ | ⟨rfl, hE⟩
    · refine vx_catch (name := eIB) hown [] ⟨0, 12, 15, 20⟩ [⟨0, 12, 19, 13⟩] htab (fun z hz => nomatch hz) rfl (by decide) (hts _ (List.mem_of_getElem? (i := 1) rfl)) (hg.2.2.2.1.use rfl) h1 h2 h3 ?_
      refine lv_astore (lv' := [(5, .ref q9), (0, .ref (q 0)), (1, .int p0), (2, .int p1), (3, .int p2), (4, .ref qo)]) hx hb dL_setProduct_15 hl (by decide) rfl (fun ls hl => ?_)
      refine lv_iconst (v := nI 1) hx hb dL_setProduct_17 (ic_1) ?_
      subst hQ
      exact e_i (Sum.inr 1) hx hb hr hlocks hS hP hD ⟨rfl, Or.inl ⟨rfl, hE⟩⟩ (Nat.le_of_ble_eq_true rfl) (Nat.le_of_ble_eq_true rfl) dL_setProduct_18
    · refine vx_catch (name := eIA) hown [⟨0, 12, 15, 20⟩] ⟨0, 12, 19, 13⟩ [] htab (fun z hz => by cases List.mem_singleton.mp hz; exact Or.inr ⟨(by decide), eIB, hts _ (List.mem_of_getElem? (i := 1) rfl), hnc.2.1⟩) rfl (by decide) (hts _ (List.mem_of_getElem? (i := 2) rfl)) (hg.2.1.use rfl) h1 h2 h3 ?_
      refine lv_astore (lv' := [(5, .ref q9), (0, .ref (q 0)), (1, .int p0), (2, .int p1), (3, .int p2), (4, .ref qo)]) hx hb dL_setProduct_19 hl (by decide) rfl (fun ls hl => ?_)
      refine lv_iconst (v := nI 2) hx hb dL_setProduct_21 (ic_2) ?_
      subst hQ
      exact e_i (Sum.inr 2) hx hb hr hlocks hS hP hD ⟨rfl, Or.inr ⟨rfl, hE⟩⟩ (Nat.le_of_ble_eq_true rfl) (Nat.le_of_ble_eq_true rfl) dL_setProduct_22
  · have hP : va_P D vwCl ((wX q cI cZ cJ k V C T B P A n (un PR u.1 u.2.1) (un ST u.1 u.2.2) li w WK so sp CT SC TA) ++ [(qo, .inl (cJ, 1, .inr (.inl O)))]) H := hP
    have hD : va_D A9 ((wX q cI cZ cJ k V C T B P A n (un PR u.1 u.2.1) (un ST u.1 u.2.2) li w WK so sp CT SC TA) ++ [(qo, .inl (cJ, 1, .inr (.inl O)))]) := hD
    obtain ⟨rfl, hp⟩ := hp
    refine lv_i2l hx hb dL_setProduct_10 rfl ?_
    refine n_last (ws' := ((wX q cI cZ cJ k V C T B P A n (un PR u.1 u.2.1) (un ST u.1 u.2.2) li w WK so sp CT SC TA) ++ [(qo, .inl (cJ, 1, .inr (.inl (vp_updL O 0 ((nI (PR u.1)).toInt64)))))])) hx hb hK hP hD hS 13 2 rfl rfl (by decide) (by decide) rfl dL_setProduct_11 (fun H locs hP hD hS => ?_)
    refine lv_goto (tgt := 23) hx hb dL_setProduct_12 (by decide) ?_
    refine lv_iconst (v := nI 0) hx hb dL_setProduct_23 (ic_0) ?_
    subst hQ
    exact e_i (Sum.inl u) hx hb hr hlocks hS hP hD ⟨rfl, hp⟩ (Nat.le_of_ble_eq_true rfl) (Nat.le_of_ble_eq_true rfl) dL_setProduct_24
theorem hd_L_setProduct : yL_setProduct.cls = RL ∧ yL_setProduct.cls ≠ "java/lang/invoke/MethodHandle" ∧ yL_setProduct.cls ≠ "java/lang/invoke/VarHandle" ∧ (parseMethodDescriptor yL_setProduct.desc).map (fun d => d.parameters.length) = some 5 := by decide +kernel

set_option maxHeartbeats 4000000 in
set_option maxRecDepth 100000 in
theorem c_L_product (l : Launch) (hst : l.stackTraces = false) (D : va_G) (q : Nat → Nat) (qo : Nat) (cI cZ cJ : ClassId) (k : Nat) (V : Nat → Nat) (C : Nat → Nat) (T : Nat → Nat) (B : Nat → Nat) (P : Nat → Nat) (A : Nat → Nat) (n : Nat) (PR : Nat → Nat) (ST : Nat → Nat) (li : Nat) (w : Nat) (WK : Nat → Nat) (so : Nat) (sp : Nat) (CT : Nat → Int64) (SC : Nat → Int) (TA : Nat → Nat) (O : Nat → Int64) (sz : Nat) (p0 : Int32) (on : Nat) (hn10 : n ≤ 10) (hon : on ≤ 1) : Met l yL_product wsL_product ({ frames := 8, cells := 1, slots := 6, locals := 133 }) (va_Pc [.ref (q 0), .int p0, .int (nI on), .ref qo] (cxN D (ty3 cI cZ cJ) ((wX q cI cZ cJ k V C T B P A n PR ST li w WK so sp CT SC TA) ++ [(qo, .inl (cJ, 1, .inr (.inl O)))]) sz)) (va_Qi (fun r (u : Nat ⊕ Nat) => Sum.elim (fun (u : Nat) => r = nI 0 ∧ u < n ∧ p0 = nI u) (fun kk => r = nI kk ∧ ((kk = 1 ∧ (¬ rg p0 0 n)))) u) (bW D (va_A ((wX q cI cZ cJ k V C T B P A n PR ST li w WK so sp CT SC TA) ++ [(qo, .inl (cJ, 1, .inr (.inl O)))]) sz) (fun (u : Nat ⊕ Nat) => Sum.elim (fun (u : Nat) => (wX q cI cZ cJ k V C T B P A n PR ST li w WK so sp CT SC TA) ++ [(qo, .inl (cJ, 1, .inr (.inl (vp_updL O 0 ((nI (if on = 0 then PR u else ST u)).toInt64)))))]) (fun _ => (wX q cI cZ cJ k V C T B P A n PR ST li w WK so sp CT SC TA) ++ [(qo, .inl (cJ, 1, .inr (.inl O)))]) u)) (va_A ((wX q cI cZ cJ k V C T B P A n PR ST li w WK so sp CT SC TA) ++ [(qo, .inl (cJ, 1, .inr (.inl O)))]) sz)) 1 6 (va_A ((wX q cI cZ cJ k V C T B P A n PR ST li w WK so sp CT SC TA) ++ [(qo, .inl (cJ, 1, .inr (.inl O)))]) sz) := by
  refine va_MetW (cc := cL_product) (maxL := 5) (ret := (some .int)) (by decide) rfl ?_
  intro p e s m args below meth c s₁ BB hml hv
  obtain ⟨hav, ⟨hsz, hP, hK, hD0, hZ, hg⟩, hnc⟩ := hv
  subst hsz
  subst hav
  have hx := BB.exec
  have hb := BB.bytes
  have hr := BB.returns
  have hts := atoms_spec (ws := wsL_product) BB.pre
  have htab := vx_table (x := yL_product) BB (hts _ List.mem_cons_self)
  have hown : s.vm.findClass RL = some m.cls := findClass_of_methodNamed BB.named
  have hlocks := BB.notSynchronized
  have hD := hD0.self (sz := s.heap.size)
  have hA : ∀ q9 : Nat, s.heap.size ≤ q9 → va_A ((wX q cI cZ cJ k V C T B P A n PR ST li w WK so sp CT SC TA) ++ [(qo, .inl (cJ, 1, .inr (.inl O)))]) s.heap.size q9 := fun _ h => Or.inr h
  have hl := lv_entry ([.ref (q 0), .int p0, .int (nI on), .ref qo]) (n := 5) (Nat.le_of_ble_eq_true rfl)
  rw [lg_entry_eq]
  generalize (lg_sl ([.ref (q 0), .int p0, .int (nI on), .ref qo]) ++ List.replicate (5 - (lg_sl ([.ref (q 0), .int p0, .int (nI on), .ref qo])).length) Slot.unset).toArray = ls at hl ⊢
  have hl : lv_has ls 5 [(0, .ref (q 0)), (1, .int p0), (2, .int (nI on)), (3, .ref qo)] := hl
  refine W_absR (fun R hR => ?_)
  have hR : R = ({ frames := 8, cells := 1, slots := 6, locals := 133 } : Room) := hR
  refine W_absQ (fun Q hQ => ?_)
  generalize ([.ref (q 0), .int p0, .int (nI on), .ref qo] : List Value).toArray = args at hts hQ ⊢
  generalize va_A ((wX q cI cZ cJ k V C T B P A n PR ST li w WK so sp CT SC TA) ++ [(qo, .inl (cJ, 1, .inr (.inl O)))]) s.heap.size = A9 at hD hZ hA hQ
  refine W_start hP (A := A9) (fun H locs hP hS => ?_)
  refine lv_aload_n hx hb dL_product_0 rfl (lv_at hl 3 rfl) ?_
  refine lv_iconst (v := nI 0) hx hb dL_product_1 (ic_0) ?_
  refine lv_aload_n hx hb dL_product_2 rfl (lv_at hl 0 rfl) ?_
  refine lv_iload_n hx hb dL_product_3 rfl (lv_at hl 1 rfl) ?_
  refine lv_iload_n hx hb dL_product_4 rfl (lv_at hl 2 rfl) ?_
  refine k3x_i (wa := []) (wc := (wX q cI cZ cJ k V C T B P A n PR ST li w WK so sp CT SC TA)) (wb := [(qo, .inl (cJ, 1, .inr (.inl O)))]) (vx_runV (As := [.int p0, .int (nI on)]) (rest := [.int (nI 0), .ref qo]) ⟨hx, hb, hml, hown, hts⟩ (c_X0_product l hst D q cI cZ cJ k V C T B P A n PR ST li w WK so sp CT SC TA H.size  p0 on hn10 hon) (cwV 2 hts gL_product_X0_product rfl rfl rfl hd_X0_product ⟨(by rw [hR]; exact Nat.le_of_ble_eq_true rfl), (by rw [hR]; exact Nat.le_of_ble_eq_true rfl)⟩) (pre_V3 (wa := []) (wc := (wX q cI cZ cJ k V C T B P A n PR ST li w WK so sp CT SC TA)) (wb := [(qo, .inl (cJ, 1, .inr (.inl O)))]) hP hK hD hS hA hZ hg 0 (ci := 0) rfl rfl) rfl rfl hl.1 rfl (lv_room (Nat.le_of_ble_eq_true rfl)) dL_product_5 ⟨(by rw [hR]; exact Nat.le_of_ble_eq_true rfl), (by rw [hR]; exact Nat.le_of_ble_eq_true rfl)⟩) hP hD hS hA (fun E ce q9 H locs hE hP hD hS h1 h2 h3 => ?_) (fun r u H locs hp hP hD hS => ?_)
  · have hP : va_P D vwCl ((wX q cI cZ cJ k V C T B P A n PR ST li w WK so sp CT SC TA) ++ [(qo, .inl (cJ, 1, .inr (.inl O)))]) H := hP
    have hD : va_D A9 ((wX q cI cZ cJ k V C T B P A n PR ST li w WK so sp CT SC TA) ++ [(qo, .inl (cJ, 1, .inr (.inl O)))]) := hD
    obtain ⟨rfl, hE⟩ := hE
    refine vx_catch (name := eIB) hown [] ⟨0, 10, 13, 20⟩ [] htab (fun z hz => nomatch hz) rfl (by decide) (hts _ (List.mem_of_getElem? (i := 1) rfl)) (hg.2.2.2.1.use rfl) h1 h2 h3 ?_
    refine lv_astore (lv' := [(4, .ref q9), (0, .ref (q 0)), (1, .int p0), (2, .int (nI on)), (3, .ref qo)]) hx hb dL_product_13 hl (by decide) rfl (fun ls hl => ?_)
    refine lv_iconst (v := nI 1) hx hb dL_product_15 (ic_1) ?_
    subst hQ
    exact e_i (Sum.inr 1) hx hb hr hlocks hS hP hD ⟨rfl, ⟨rfl, hE⟩⟩ (Nat.le_of_ble_eq_true rfl) (Nat.le_of_ble_eq_true rfl) dL_product_16
  · have hP : va_P D vwCl ((wX q cI cZ cJ k V C T B P A n PR ST li w WK so sp CT SC TA) ++ [(qo, .inl (cJ, 1, .inr (.inl O)))]) H := hP
    have hD : va_D A9 ((wX q cI cZ cJ k V C T B P A n PR ST li w WK so sp CT SC TA) ++ [(qo, .inl (cJ, 1, .inr (.inl O)))]) := hD
    obtain ⟨rfl, hp⟩ := hp
    refine lv_i2l hx hb dL_product_8 rfl ?_
    refine n_last (ws' := ((wX q cI cZ cJ k V C T B P A n PR ST li w WK so sp CT SC TA) ++ [(qo, .inl (cJ, 1, .inr (.inl (vp_updL O 0 ((nI (if on = 0 then PR u else ST u)).toInt64)))))])) hx hb hK hP hD hS 13 2 rfl rfl (by decide) (by decide) rfl dL_product_9 (fun H locs hP hD hS => ?_)
    refine lv_goto (tgt := 17) hx hb dL_product_10 (by decide) ?_
    refine lv_iconst (v := nI 0) hx hb dL_product_17 (ic_0) ?_
    subst hQ
    exact e_i (Sum.inl u) hx hb hr hlocks hS hP hD ⟨rfl, hp⟩ (Nat.le_of_ble_eq_true rfl) (Nat.le_of_ble_eq_true rfl) dL_product_18
theorem hd_L_product : yL_product.cls = RL ∧ yL_product.cls ≠ "java/lang/invoke/MethodHandle" ∧ yL_product.cls ≠ "java/lang/invoke/VarHandle" ∧ (parseMethodDescriptor yL_product.desc).map (fun d => d.parameters.length) = some 4 := by decide +kernel

set_option maxHeartbeats 4000000 in
set_option maxRecDepth 100000 in
theorem c_L_insert (l : Launch) (hst : l.stackTraces = false) (D : va_G) (q : Nat → Nat) (qo : Nat) (cI cZ cJ : ClassId) (k : Nat) (V : Nat → Nat) (C : Nat → Nat) (T : Nat → Nat) (B : Nat → Nat) (P : Nat → Nat) (A : Nat → Nat) (n : Nat) (PR : Nat → Nat) (ST : Nat → Nat) (li : Nat) (w : Nat) (WK : Nat → Nat) (so : Nat) (sp : Nat) (CT : Nat → Int64) (SC : Nat → Int) (TA : Nat → Nat) (O : Nat → Int64) (sz : Nat) (p0 : Int32) (hk8 : k ≤ 8) (hV : ∀ i, i < k → 1 ≤ V i ∧ V i ≤ 500) (hA1 : ∀ i, i < k → A i ≤ 1) (hw12 : w ≤ 12) (hWK : ∀ j, j < w → WK j < k) (hli : li ≤ 2000) : Met l yL_insert wsL_insert ({ frames := 8, cells := 1, slots := 6, locals := 132 }) (va_Pc [.ref (q 0), .int p0, .ref qo] (cxN D (ty3 cI cZ cJ) ((wX q cI cZ cJ k V C T B P A n PR ST li w WK so sp CT SC TA) ++ [(qo, .inl (cJ, 1, .inr (.inl O)))]) sz)) (va_Qi (fun r (u : (Nat × Nat × Nat × (Nat → Nat) × (Nat → Int64)) ⊕ Nat) => Sum.elim (fun (u : Nat × Nat × Nat × (Nat → Nat) × (Nat → Int64)) => r = nI 0 ∧ u.1 < k ∧ p0 = nI u.1 ∧ insP k V A li w WK CT u.1 u.2.2.1 u.2.2.2.1 u.2.2.2.2 u.2.1) (fun kk => r = nI kk ∧ ((kk = 1 ∧ (¬ rg p0 0 k)))) u) (bW D (va_A ((wX q cI cZ cJ k V C T B P A n PR ST li w WK so sp CT SC TA) ++ [(qo, .inl (cJ, 1, .inr (.inl O)))]) sz) (fun (u : (Nat × Nat × Nat × (Nat → Nat) × (Nat → Int64)) ⊕ Nat) => Sum.elim (fun (u : Nat × Nat × Nat × (Nat → Nat) × (Nat → Int64)) => (wX q cI cZ cJ k V C T B P A n PR ST li u.2.2.1 u.2.2.2.1 so sp u.2.2.2.2 SC TA) ++ [(qo, .inl (cJ, 1, .inr (.inl (vp_updL O 0 ((nI u.2.1).toInt64)))))]) (fun _ => (wX q cI cZ cJ k V C T B P A n PR ST li w WK so sp CT SC TA) ++ [(qo, .inl (cJ, 1, .inr (.inl O)))]) u)) (va_A ((wX q cI cZ cJ k V C T B P A n PR ST li w WK so sp CT SC TA) ++ [(qo, .inl (cJ, 1, .inr (.inl O)))]) sz)) 1 6 (va_A ((wX q cI cZ cJ k V C T B P A n PR ST li w WK so sp CT SC TA) ++ [(qo, .inl (cJ, 1, .inr (.inl O)))]) sz) := by
  refine va_MetW (cc := cL_insert) (maxL := 4) (ret := (some .int)) (by decide) rfl ?_
  intro p e s m args below meth c s₁ BB hml hv
  obtain ⟨hav, ⟨hsz, hP, hK, hD0, hZ, hg⟩, hnc⟩ := hv
  subst hsz
  subst hav
  have hx := BB.exec
  have hb := BB.bytes
  have hr := BB.returns
  have hts := atoms_spec (ws := wsL_insert) BB.pre
  have htab := vx_table (x := yL_insert) BB (hts _ List.mem_cons_self)
  have hown : s.vm.findClass RL = some m.cls := findClass_of_methodNamed BB.named
  have hlocks := BB.notSynchronized
  have hD := hD0.self (sz := s.heap.size)
  have hA : ∀ q9 : Nat, s.heap.size ≤ q9 → va_A ((wX q cI cZ cJ k V C T B P A n PR ST li w WK so sp CT SC TA) ++ [(qo, .inl (cJ, 1, .inr (.inl O)))]) s.heap.size q9 := fun _ h => Or.inr h
  have hl := lv_entry ([.ref (q 0), .int p0, .ref qo]) (n := 4) (Nat.le_of_ble_eq_true rfl)
  rw [lg_entry_eq]
  generalize (lg_sl ([.ref (q 0), .int p0, .ref qo]) ++ List.replicate (4 - (lg_sl ([.ref (q 0), .int p0, .ref qo])).length) Slot.unset).toArray = ls at hl ⊢
  have hl : lv_has ls 4 [(0, .ref (q 0)), (1, .int p0), (2, .ref qo)] := hl
  refine W_absR (fun R hR => ?_)
  have hR : R = ({ frames := 8, cells := 1, slots := 6, locals := 132 } : Room) := hR
  refine W_absQ (fun Q hQ => ?_)
  generalize ([.ref (q 0), .int p0, .ref qo] : List Value).toArray = args at hts hQ ⊢
  generalize va_A ((wX q cI cZ cJ k V C T B P A n PR ST li w WK so sp CT SC TA) ++ [(qo, .inl (cJ, 1, .inr (.inl O)))]) s.heap.size = A9 at hD hZ hA hQ
  refine W_start hP (A := A9) (fun H locs hP hS => ?_)
  refine lv_aload_n hx hb dL_insert_0 rfl (lv_at hl 2 rfl) ?_
  refine lv_iconst (v := nI 0) hx hb dL_insert_1 (ic_0) ?_
  refine lv_aload_n hx hb dL_insert_2 rfl (lv_at hl 0 rfl) ?_
  refine lv_iload_n hx hb dL_insert_3 rfl (lv_at hl 1 rfl) ?_
  refine k3x_i (wa := []) (wc := (wX q cI cZ cJ k V C T B P A n PR ST li w WK so sp CT SC TA)) (wb := [(qo, .inl (cJ, 1, .inr (.inl O)))]) (vx_runV (As := [.int p0]) (rest := [.int (nI 0), .ref qo]) ⟨hx, hb, hml, hown, hts⟩ (c_X0_insert l hst D q cI cZ cJ k V C T B P A n PR ST li w WK so sp CT SC TA H.size  p0 hk8 hV hA1 hw12 hWK hli) (cwV 1 hts gL_insert_X0_insert rfl rfl rfl hd_X0_insert ⟨(by rw [hR]; exact Nat.le_of_ble_eq_true rfl), (by rw [hR]; exact Nat.le_of_ble_eq_true rfl)⟩) (pre_V3 (wa := []) (wc := (wX q cI cZ cJ k V C T B P A n PR ST li w WK so sp CT SC TA)) (wb := [(qo, .inl (cJ, 1, .inr (.inl O)))]) hP hK hD hS hA hZ hg 0 (ci := 0) rfl rfl) rfl rfl hl.1 rfl (lv_room (Nat.le_of_ble_eq_true rfl)) dL_insert_4 ⟨(by rw [hR]; exact Nat.le_of_ble_eq_true rfl), (by rw [hR]; exact Nat.le_of_ble_eq_true rfl)⟩) hP hD hS hA (fun E ce q9 H locs hE hP hD hS h1 h2 h3 => ?_) (fun r u H locs hp hP hD hS => ?_)
  · have hP : va_P D vwCl ((wX q cI cZ cJ k V C T B P A n PR ST li w WK so sp CT SC TA) ++ [(qo, .inl (cJ, 1, .inr (.inl O)))]) H := hP
    have hD : va_D A9 ((wX q cI cZ cJ k V C T B P A n PR ST li w WK so sp CT SC TA) ++ [(qo, .inl (cJ, 1, .inr (.inl O)))]) := hD
    obtain ⟨rfl, hE⟩ := hE
    refine vx_catch (name := eIB) hown [] ⟨0, 9, 12, 20⟩ [] htab (fun z hz => nomatch hz) rfl (by decide) (hts _ (List.mem_of_getElem? (i := 1) rfl)) (hg.2.2.2.1.use rfl) h1 h2 h3 ?_
    refine lv_astore_n (lv' := [(3, .ref q9), (0, .ref (q 0)), (1, .int p0), (2, .ref qo)]) hx hb dL_insert_12 rfl hl (by decide) rfl (fun ls hl => ?_)
    refine lv_iconst (v := nI 1) hx hb dL_insert_13 (ic_1) ?_
    subst hQ
    exact e_i (Sum.inr 1) hx hb hr hlocks hS hP hD ⟨rfl, ⟨rfl, hE⟩⟩ (Nat.le_of_ble_eq_true rfl) (Nat.le_of_ble_eq_true rfl) dL_insert_14
  · have hP : va_P D vwCl ((wX q cI cZ cJ k V C T B P A n PR ST li u.2.2.1 u.2.2.2.1 so sp u.2.2.2.2 SC TA) ++ [(qo, .inl (cJ, 1, .inr (.inl O)))]) H := hP
    have hD : va_D A9 ((wX q cI cZ cJ k V C T B P A n PR ST li u.2.2.1 u.2.2.2.1 so sp u.2.2.2.2 SC TA) ++ [(qo, .inl (cJ, 1, .inr (.inl O)))]) := hD
    obtain ⟨rfl, hp⟩ := hp
    refine lv_i2l hx hb dL_insert_7 rfl ?_
    refine n_last (ws' := ((wX q cI cZ cJ k V C T B P A n PR ST li u.2.2.1 u.2.2.2.1 so sp u.2.2.2.2 SC TA) ++ [(qo, .inl (cJ, 1, .inr (.inl (vp_updL O 0 ((nI u.2.1).toInt64)))))])) hx hb hK hP hD hS 13 2 rfl rfl (by decide) (by decide) rfl dL_insert_8 (fun H locs hP hD hS => ?_)
    refine lv_goto (tgt := 15) hx hb dL_insert_9 (by decide) ?_
    refine lv_iconst (v := nI 0) hx hb dL_insert_15 (ic_0) ?_
    subst hQ
    exact e_i (Sum.inl u) hx hb hr hlocks hS hP hD ⟨rfl, hp⟩ (Nat.le_of_ble_eq_true rfl) (Nat.le_of_ble_eq_true rfl) dL_insert_16
theorem hd_L_insert : yL_insert.cls = RL ∧ yL_insert.cls ≠ "java/lang/invoke/MethodHandle" ∧ yL_insert.cls ≠ "java/lang/invoke/VarHandle" ∧ (parseMethodDescriptor yL_insert.desc).map (fun d => d.parameters.length) = some 3 := by decide +kernel

set_option maxHeartbeats 4000000 in
set_option maxRecDepth 100000 in
theorem c_L_buy (l : Launch) (hst : l.stackTraces = false) (D : va_G) (q : Nat → Nat) (qo : Nat) (cI cZ cJ : ClassId) (k : Nat) (V : Nat → Nat) (C : Nat → Nat) (T : Nat → Nat) (B : Nat → Nat) (P : Nat → Nat) (A : Nat → Nat) (n : Nat) (PR : Nat → Nat) (ST : Nat → Nat) (li : Nat) (w : Nat) (WK : Nat → Nat) (so : Nat) (sp : Nat) (CT : Nat → Int64) (SC : Nat → Int) (TA : Nat → Nat) (O : Nat → Int64) (sz : Nat) (p0 : Int32) (hk8 : k ≤ 8) (hV : ∀ i, i < k → 1 ≤ V i ∧ V i ≤ 500) (hC : ∀ i, i < k → C i ≤ 60 ∧ T i ≤ C i) (hVd : ∀ i j, i < k → j < k → V i = V j → i = j) (hn10 : n ≤ 10) (hPR : ∀ j, j < n → 1 ≤ PR j ∧ PR j ≤ 2000 ∧ ST j ≤ 99) (hw12 : w ≤ 12) (hWK : ∀ j, j < w → WK j < k) (hcr : cr V WK w ≤ 2000) : Met l yL_buy wsL_buy ({ frames := 8, cells := 1, slots := 6, locals := 136 }) (va_Pc [.ref (q 0), .int p0, .ref qo] (cxN D (ty3 cI cZ cJ) ((wX q cI cZ cJ k V C T B P A n PR ST li w WK so sp CT SC TA) ++ [(qo, .inl (cJ, 1, .inr (.inl O)))]) sz)) (va_Qi (fun r (u : (Nat × Nat × (Nat → Nat) × (Nat → Nat) × (Nat → Nat) × Nat × (Nat → Nat) × Nat × Nat × (Nat → Int64) × (Nat → Int) × (Nat → Nat)) ⊕ Nat) => Sum.elim (fun (u : Nat × Nat × (Nat → Nat) × (Nat → Nat) × (Nat → Nat) × Nat × (Nat → Nat) × Nat × Nat × (Nat → Int64) × (Nat → Int) × (Nat → Nat)) => r = nI 0 ∧ u.1 < n ∧ p0 = nI u.1 ∧ buyP k V C T B P PR ST w WK so sp CT u.1 u.2.1 u.2.2.1 u.2.2.2.1 u.2.2.2.2.1 u.2.2.2.2.2.1 u.2.2.2.2.2.2.1 u.2.2.2.2.2.2.2.1 u.2.2.2.2.2.2.2.2.1 u.2.2.2.2.2.2.2.2.2.1) (fun kk => r = nI kk ∧ ((kk = 1 ∧ (¬ rg p0 0 n)))) u) (bW D (va_A ((wX q cI cZ cJ k V C T B P A n PR ST li w WK so sp CT SC TA) ++ [(qo, .inl (cJ, 1, .inr (.inl O)))]) sz) (fun (u : (Nat × Nat × (Nat → Nat) × (Nat → Nat) × (Nat → Nat) × Nat × (Nat → Nat) × Nat × Nat × (Nat → Int64) × (Nat → Int) × (Nat → Nat)) ⊕ Nat) => Sum.elim (fun (u : Nat × Nat × (Nat → Nat) × (Nat → Nat) × (Nat → Nat) × Nat × (Nat → Nat) × Nat × Nat × (Nat → Int64) × (Nat → Int) × (Nat → Nat)) => (wX q cI cZ cJ k V C u.2.2.1 u.2.2.2.1 u.2.2.2.2.1 A n PR u.2.2.2.2.2.2.1 li u.2.2.2.2.2.1 WK u.2.2.2.2.2.2.2.1 u.2.2.2.2.2.2.2.2.1 u.2.2.2.2.2.2.2.2.2.1 u.2.2.2.2.2.2.2.2.2.2.1 u.2.2.2.2.2.2.2.2.2.2.2) ++ [(qo, .inl (cJ, 1, .inr (.inl (vp_updL O 0 ((nI u.2.1).toInt64)))))]) (fun _ => (wX q cI cZ cJ k V C T B P A n PR ST li w WK so sp CT SC TA) ++ [(qo, .inl (cJ, 1, .inr (.inl O)))]) u)) (va_A ((wX q cI cZ cJ k V C T B P A n PR ST li w WK so sp CT SC TA) ++ [(qo, .inl (cJ, 1, .inr (.inl O)))]) sz)) 1 6 (va_A ((wX q cI cZ cJ k V C T B P A n PR ST li w WK so sp CT SC TA) ++ [(qo, .inl (cJ, 1, .inr (.inl O)))]) sz) := by
  refine va_MetW (cc := cL_buy) (maxL := 4) (ret := (some .int)) (by decide) rfl ?_
  intro p e s m args below meth c s₁ BB hml hv
  obtain ⟨hav, ⟨hsz, hP, hK, hD0, hZ, hg⟩, hnc⟩ := hv
  subst hsz
  subst hav
  have hx := BB.exec
  have hb := BB.bytes
  have hr := BB.returns
  have hts := atoms_spec (ws := wsL_buy) BB.pre
  have htab := vx_table (x := yL_buy) BB (hts _ List.mem_cons_self)
  have hown : s.vm.findClass RL = some m.cls := findClass_of_methodNamed BB.named
  have hlocks := BB.notSynchronized
  have hD := hD0.self (sz := s.heap.size)
  have hA : ∀ q9 : Nat, s.heap.size ≤ q9 → va_A ((wX q cI cZ cJ k V C T B P A n PR ST li w WK so sp CT SC TA) ++ [(qo, .inl (cJ, 1, .inr (.inl O)))]) s.heap.size q9 := fun _ h => Or.inr h
  have hl := lv_entry ([.ref (q 0), .int p0, .ref qo]) (n := 4) (Nat.le_of_ble_eq_true rfl)
  rw [lg_entry_eq]
  generalize (lg_sl ([.ref (q 0), .int p0, .ref qo]) ++ List.replicate (4 - (lg_sl ([.ref (q 0), .int p0, .ref qo])).length) Slot.unset).toArray = ls at hl ⊢
  have hl : lv_has ls 4 [(0, .ref (q 0)), (1, .int p0), (2, .ref qo)] := hl
  refine W_absR (fun R hR => ?_)
  have hR : R = ({ frames := 8, cells := 1, slots := 6, locals := 136 } : Room) := hR
  refine W_absQ (fun Q hQ => ?_)
  generalize ([.ref (q 0), .int p0, .ref qo] : List Value).toArray = args at hts hQ ⊢
  generalize va_A ((wX q cI cZ cJ k V C T B P A n PR ST li w WK so sp CT SC TA) ++ [(qo, .inl (cJ, 1, .inr (.inl O)))]) s.heap.size = A9 at hD hZ hA hQ
  refine W_start hP (A := A9) (fun H locs hP hS => ?_)
  refine lv_aload_n hx hb dL_buy_0 rfl (lv_at hl 2 rfl) ?_
  refine lv_iconst (v := nI 0) hx hb dL_buy_1 (ic_0) ?_
  refine lv_aload_n hx hb dL_buy_2 rfl (lv_at hl 0 rfl) ?_
  refine lv_iload_n hx hb dL_buy_3 rfl (lv_at hl 1 rfl) ?_
  refine k3x_i (wa := []) (wc := (wX q cI cZ cJ k V C T B P A n PR ST li w WK so sp CT SC TA)) (wb := [(qo, .inl (cJ, 1, .inr (.inl O)))]) (vx_runV (As := [.int p0]) (rest := [.int (nI 0), .ref qo]) ⟨hx, hb, hml, hown, hts⟩ (c_X0_buy l hst D q cI cZ cJ k V C T B P A n PR ST li w WK so sp CT SC TA H.size  p0 hk8 hV hC hVd hn10 hPR hw12 hWK hcr) (cwV 1 hts gL_buy_X0_buy rfl rfl rfl hd_X0_buy ⟨(by rw [hR]; exact Nat.le_of_ble_eq_true rfl), (by rw [hR]; exact Nat.le_of_ble_eq_true rfl)⟩) (pre_V3 (wa := []) (wc := (wX q cI cZ cJ k V C T B P A n PR ST li w WK so sp CT SC TA)) (wb := [(qo, .inl (cJ, 1, .inr (.inl O)))]) hP hK hD hS hA hZ hg 0 (ci := 0) rfl rfl) rfl rfl hl.1 rfl (lv_room (Nat.le_of_ble_eq_true rfl)) dL_buy_4 ⟨(by rw [hR]; exact Nat.le_of_ble_eq_true rfl), (by rw [hR]; exact Nat.le_of_ble_eq_true rfl)⟩) hP hD hS hA (fun E ce q9 H locs hE hP hD hS h1 h2 h3 => ?_) (fun r u H locs hp hP hD hS => ?_)
  · have hP : va_P D vwCl ((wX q cI cZ cJ k V C T B P A n PR ST li w WK so sp CT SC TA) ++ [(qo, .inl (cJ, 1, .inr (.inl O)))]) H := hP
    have hD : va_D A9 ((wX q cI cZ cJ k V C T B P A n PR ST li w WK so sp CT SC TA) ++ [(qo, .inl (cJ, 1, .inr (.inl O)))]) := hD
    obtain ⟨rfl, hE⟩ := hE
    refine vx_catch (name := eIB) hown [] ⟨0, 9, 12, 20⟩ [] htab (fun z hz => nomatch hz) rfl (by decide) (hts _ (List.mem_of_getElem? (i := 1) rfl)) (hg.2.2.2.1.use rfl) h1 h2 h3 ?_
    refine lv_astore_n (lv' := [(3, .ref q9), (0, .ref (q 0)), (1, .int p0), (2, .ref qo)]) hx hb dL_buy_12 rfl hl (by decide) rfl (fun ls hl => ?_)
    refine lv_iconst (v := nI 1) hx hb dL_buy_13 (ic_1) ?_
    subst hQ
    exact e_i (Sum.inr 1) hx hb hr hlocks hS hP hD ⟨rfl, ⟨rfl, hE⟩⟩ (Nat.le_of_ble_eq_true rfl) (Nat.le_of_ble_eq_true rfl) dL_buy_14
  · have hP : va_P D vwCl ((wX q cI cZ cJ k V C u.2.2.1 u.2.2.2.1 u.2.2.2.2.1 A n PR u.2.2.2.2.2.2.1 li u.2.2.2.2.2.1 WK u.2.2.2.2.2.2.2.1 u.2.2.2.2.2.2.2.2.1 u.2.2.2.2.2.2.2.2.2.1 u.2.2.2.2.2.2.2.2.2.2.1 u.2.2.2.2.2.2.2.2.2.2.2) ++ [(qo, .inl (cJ, 1, .inr (.inl O)))]) H := hP
    have hD : va_D A9 ((wX q cI cZ cJ k V C u.2.2.1 u.2.2.2.1 u.2.2.2.2.1 A n PR u.2.2.2.2.2.2.1 li u.2.2.2.2.2.1 WK u.2.2.2.2.2.2.2.1 u.2.2.2.2.2.2.2.2.1 u.2.2.2.2.2.2.2.2.2.1 u.2.2.2.2.2.2.2.2.2.2.1 u.2.2.2.2.2.2.2.2.2.2.2) ++ [(qo, .inl (cJ, 1, .inr (.inl O)))]) := hD
    obtain ⟨rfl, hp⟩ := hp
    refine lv_i2l hx hb dL_buy_7 rfl ?_
    refine n_last (ws' := ((wX q cI cZ cJ k V C u.2.2.1 u.2.2.2.1 u.2.2.2.2.1 A n PR u.2.2.2.2.2.2.1 li u.2.2.2.2.2.1 WK u.2.2.2.2.2.2.2.1 u.2.2.2.2.2.2.2.2.1 u.2.2.2.2.2.2.2.2.2.1 u.2.2.2.2.2.2.2.2.2.2.1 u.2.2.2.2.2.2.2.2.2.2.2) ++ [(qo, .inl (cJ, 1, .inr (.inl (vp_updL O 0 ((nI u.2.1).toInt64)))))])) hx hb hK hP hD hS 13 2 rfl rfl (by decide) (by decide) rfl dL_buy_8 (fun H locs hP hD hS => ?_)
    refine lv_goto (tgt := 15) hx hb dL_buy_9 (by decide) ?_
    refine lv_iconst (v := nI 0) hx hb dL_buy_15 (ic_0) ?_
    subst hQ
    exact e_i (Sum.inl u) hx hb hr hlocks hS hP hD ⟨rfl, hp⟩ (Nat.le_of_ble_eq_true rfl) (Nat.le_of_ble_eq_true rfl) dL_buy_16
theorem hd_L_buy : yL_buy.cls = RL ∧ yL_buy.cls ≠ "java/lang/invoke/MethodHandle" ∧ yL_buy.cls ≠ "java/lang/invoke/VarHandle" ∧ (parseMethodDescriptor yL_buy.desc).map (fun d => d.parameters.length) = some 3 := by decide +kernel

set_option maxHeartbeats 4000000 in
set_option maxRecDepth 100000 in
theorem c_L_refund (l : Launch) (hst : l.stackTraces = false) (D : va_G) (q : Nat → Nat) (qo : Nat) (cI cZ cJ : ClassId) (k : Nat) (V : Nat → Nat) (C : Nat → Nat) (T : Nat → Nat) (B : Nat → Nat) (P : Nat → Nat) (A : Nat → Nat) (n : Nat) (PR : Nat → Nat) (ST : Nat → Nat) (li : Nat) (w : Nat) (WK : Nat → Nat) (so : Nat) (sp : Nat) (CT : Nat → Int64) (SC : Nat → Int) (TA : Nat → Nat) (O : Nat → Int64) (sz : Nat) (hk8 : k ≤ 8) (hV : ∀ i, i < k → 1 ≤ V i ∧ V i ≤ 500) (hC : ∀ i, i < k → C i ≤ 60 ∧ T i ≤ C i) (hVd : ∀ i j, i < k → j < k → V i = V j → i = j) (hn10 : n ≤ 10) (hPR : ∀ j, j < n → 1 ≤ PR j ∧ PR j ≤ 2000 ∧ ST j ≤ 99) (hso : so = 4294967295 ∨ (so < n ∧ 1 ≤ sp ∧ sp ≤ 2000)) : Met l yL_refund wsL_refund ({ frames := 7, cells := 1, slots := 6, locals := 124 }) (va_Pc [.ref (q 0), .ref qo] (cxN D (ty3 cI cZ cJ) ((wX q cI cZ cJ k V C T B P A n PR ST li w WK so sp CT SC TA) ++ [(qo, .inl (cJ, 1, .inr (.inl O)))]) sz)) (va_Qi (fun r (u : (Nat × (Nat → Nat) × (Nat → Nat) × (Nat → Nat) × Nat × (Nat → Int64) × (Nat → Int)) ⊕ Nat) => Sum.elim (fun (u : Nat × (Nat → Nat) × (Nat → Nat) × (Nat → Nat) × Nat × (Nat → Int64) × (Nat → Int)) => r = nI 0 ∧ so ≠ 4294967295 ∧ so < n ∧ refP k V T P ST so sp CT u.1 u.2.1 u.2.2.1 u.2.2.2.1 u.2.2.2.2.1 u.2.2.2.2.2.1) (fun kk => r = nI kk ∧ ((kk = 1 ∧ (so = 4294967295)))) u) (bW D (va_A ((wX q cI cZ cJ k V C T B P A n PR ST li w WK so sp CT SC TA) ++ [(qo, .inl (cJ, 1, .inr (.inl O)))]) sz) (fun (u : (Nat × (Nat → Nat) × (Nat → Nat) × (Nat → Nat) × Nat × (Nat → Int64) × (Nat → Int)) ⊕ Nat) => Sum.elim (fun (u : Nat × (Nat → Nat) × (Nat → Nat) × (Nat → Nat) × Nat × (Nat → Int64) × (Nat → Int)) => (wX q cI cZ cJ k V C u.2.1 B u.2.2.1 A n PR u.2.2.2.1 li w WK u.2.2.2.2.1 sp u.2.2.2.2.2.1 u.2.2.2.2.2.2 TA) ++ [(qo, .inl (cJ, 1, .inr (.inl (vp_updL O 0 (lZ (((u.1 : Nat)) : Int))))))]) (fun _ => (wX q cI cZ cJ k V C T B P A n PR ST li w WK so sp CT SC TA) ++ [(qo, .inl (cJ, 1, .inr (.inl O)))]) u)) (va_A ((wX q cI cZ cJ k V C T B P A n PR ST li w WK so sp CT SC TA) ++ [(qo, .inl (cJ, 1, .inr (.inl O)))]) sz)) 1 6 (va_A ((wX q cI cZ cJ k V C T B P A n PR ST li w WK so sp CT SC TA) ++ [(qo, .inl (cJ, 1, .inr (.inl O)))]) sz) := by
  refine va_MetW (cc := cL_refund) (maxL := 3) (ret := (some .int)) (by decide) rfl ?_
  intro p e s m args below meth c s₁ BB hml hv
  obtain ⟨hav, ⟨hsz, hP, hK, hD0, hZ, hg⟩, hnc⟩ := hv
  subst hsz
  subst hav
  have hx := BB.exec
  have hb := BB.bytes
  have hr := BB.returns
  have hts := atoms_spec (ws := wsL_refund) BB.pre
  have htab := vx_table (x := yL_refund) BB (hts _ List.mem_cons_self)
  have hown : s.vm.findClass RL = some m.cls := findClass_of_methodNamed BB.named
  have hlocks := BB.notSynchronized
  have hD := hD0.self (sz := s.heap.size)
  have hA : ∀ q9 : Nat, s.heap.size ≤ q9 → va_A ((wX q cI cZ cJ k V C T B P A n PR ST li w WK so sp CT SC TA) ++ [(qo, .inl (cJ, 1, .inr (.inl O)))]) s.heap.size q9 := fun _ h => Or.inr h
  have hl := lv_entry ([.ref (q 0), .ref qo]) (n := 3) (Nat.le_of_ble_eq_true rfl)
  rw [lg_entry_eq]
  generalize (lg_sl ([.ref (q 0), .ref qo]) ++ List.replicate (3 - (lg_sl ([.ref (q 0), .ref qo])).length) Slot.unset).toArray = ls at hl ⊢
  have hl : lv_has ls 3 [(0, .ref (q 0)), (1, .ref qo)] := hl
  refine W_absR (fun R hR => ?_)
  have hR : R = ({ frames := 7, cells := 1, slots := 6, locals := 124 } : Room) := hR
  refine W_absQ (fun Q hQ => ?_)
  generalize ([.ref (q 0), .ref qo] : List Value).toArray = args at hts hQ ⊢
  generalize va_A ((wX q cI cZ cJ k V C T B P A n PR ST li w WK so sp CT SC TA) ++ [(qo, .inl (cJ, 1, .inr (.inl O)))]) s.heap.size = A9 at hD hZ hA hQ
  refine W_start hP (A := A9) (fun H locs hP hS => ?_)
  refine lv_aload_n hx hb dL_refund_0 rfl (lv_at hl 1 rfl) ?_
  refine lv_iconst (v := nI 0) hx hb dL_refund_1 (ic_0) ?_
  refine lv_aload_n hx hb dL_refund_2 rfl (lv_at hl 0 rfl) ?_
  refine k3x_i (wa := []) (wc := (wX q cI cZ cJ k V C T B P A n PR ST li w WK so sp CT SC TA)) (wb := [(qo, .inl (cJ, 1, .inr (.inl O)))]) (vx_runV (As := []) (rest := [.int (nI 0), .ref qo]) ⟨hx, hb, hml, hown, hts⟩ (c_X0_refund l hst D q cI cZ cJ k V C T B P A n PR ST li w WK so sp CT SC TA H.size   hk8 hV hC hVd hn10 hPR hso) (cwV 0 hts gL_refund_X0_refund rfl rfl rfl hd_X0_refund ⟨(by rw [hR]; exact Nat.le_of_ble_eq_true rfl), (by rw [hR]; exact Nat.le_of_ble_eq_true rfl)⟩) (pre_V3 (wa := []) (wc := (wX q cI cZ cJ k V C T B P A n PR ST li w WK so sp CT SC TA)) (wb := [(qo, .inl (cJ, 1, .inr (.inl O)))]) hP hK hD hS hA hZ hg 0 (ci := 0) rfl rfl) rfl rfl hl.1 rfl (lv_room (Nat.le_of_ble_eq_true rfl)) dL_refund_3 ⟨(by rw [hR]; exact Nat.le_of_ble_eq_true rfl), (by rw [hR]; exact Nat.le_of_ble_eq_true rfl)⟩) hP hD hS hA (fun E ce q9 H locs hE hP hD hS h1 h2 h3 => ?_) (fun r u H locs hp hP hD hS => ?_)
  · have hP : va_P D vwCl ((wX q cI cZ cJ k V C T B P A n PR ST li w WK so sp CT SC TA) ++ [(qo, .inl (cJ, 1, .inr (.inl O)))]) H := hP
    have hD : va_D A9 ((wX q cI cZ cJ k V C T B P A n PR ST li w WK so sp CT SC TA) ++ [(qo, .inl (cJ, 1, .inr (.inl O)))]) := hD
    obtain ⟨rfl, hE⟩ := hE
    refine vx_catch (name := eIS) hown [] ⟨0, 15, 18, 15⟩ [] htab (fun z hz => nomatch hz) rfl (by decide) (hts _ (List.mem_of_getElem? (i := 1) rfl)) (hg.2.2.1.use rfl) h1 h2 h3 ?_
    refine lv_astore_n (lv' := [(2, .ref q9), (0, .ref (q 0)), (1, .ref qo)]) hx hb dL_refund_18 rfl hl (by decide) rfl (fun ls hl => ?_)
    refine lv_iconst (v := nI 1) hx hb dL_refund_19 (ic_1) ?_
    subst hQ
    exact e_i (Sum.inr 1) hx hb hr hlocks hS hP hD ⟨rfl, ⟨rfl, hE⟩⟩ (Nat.le_of_ble_eq_true rfl) (Nat.le_of_ble_eq_true rfl) dL_refund_20
  · have hP : va_P D vwCl ((wX q cI cZ cJ k V C u.2.1 B u.2.2.1 A n PR u.2.2.2.1 li w WK u.2.2.2.2.1 sp u.2.2.2.2.2.1 u.2.2.2.2.2.2 TA) ++ [(qo, .inl (cJ, 1, .inr (.inl O)))]) H := hP
    have hD : va_D A9 ((wX q cI cZ cJ k V C u.2.1 B u.2.2.1 A n PR u.2.2.2.1 li w WK u.2.2.2.2.1 sp u.2.2.2.2.2.1 u.2.2.2.2.2.2 TA) ++ [(qo, .inl (cJ, 1, .inr (.inl O)))]) := hD
    obtain ⟨rfl, hp⟩ := hp
    have hbd : u.1 ≤ 1 := by rcases hp.2.2 with h | h <;> omega
    refine n_if_eq (tgt := 13) hx hb (by omega) dL_refund_6 (by decide) (fun cq => ?_) (fun cq => ?_)
    · have cq : u.1 = 0 := by omega
      refine lv_lconst (v := lZ 0) hx hb dL_refund_13 (by decide) ?_
      refine n_topl (show lZ 0 = lZ (((u.1 : Nat)) : Int) from by rw [cq]; rfl) ?_
      refine n_last (ws' := ((wX q cI cZ cJ k V C u.2.1 B u.2.2.1 A n PR u.2.2.2.1 li w WK u.2.2.2.2.1 sp u.2.2.2.2.2.1 u.2.2.2.2.2.2 TA) ++ [(qo, .inl (cJ, 1, .inr (.inl (vp_updL O 0 (lZ (((u.1 : Nat)) : Int))))))])) hx hb hK hP hD hS 13 2 rfl rfl (by decide) (by decide) rfl dL_refund_14 (fun H locs hP hD hS => ?_)
      refine lv_goto (tgt := 21) hx hb dL_refund_15 (by decide) ?_
      refine lv_iconst (v := nI 0) hx hb dL_refund_21 (ic_0) ?_
      subst hQ
      exact e_i (Sum.inl u) hx hb hr hlocks hS hP hD ⟨rfl, hp⟩ (Nat.le_of_ble_eq_true rfl) (Nat.le_of_ble_eq_true rfl) dL_refund_22
    · have cq : u.1 = 1 := by omega
      refine lv_lconst (v := lZ 1) hx hb dL_refund_9 (by decide) ?_
      refine lv_goto (tgt := 14) hx hb dL_refund_10 (by decide) ?_
      refine n_topl (show lZ 1 = lZ (((u.1 : Nat)) : Int) from by rw [cq]; rfl) ?_
      refine n_last (ws' := ((wX q cI cZ cJ k V C u.2.1 B u.2.2.1 A n PR u.2.2.2.1 li w WK u.2.2.2.2.1 sp u.2.2.2.2.2.1 u.2.2.2.2.2.2 TA) ++ [(qo, .inl (cJ, 1, .inr (.inl (vp_updL O 0 (lZ (((u.1 : Nat)) : Int))))))])) hx hb hK hP hD hS 13 2 rfl rfl (by decide) (by decide) rfl dL_refund_14 (fun H locs hP hD hS => ?_)
      refine lv_goto (tgt := 21) hx hb dL_refund_15 (by decide) ?_
      refine lv_iconst (v := nI 0) hx hb dL_refund_21 (ic_0) ?_
      subst hQ
      exact e_i (Sum.inl u) hx hb hr hlocks hS hP hD ⟨rfl, hp⟩ (Nat.le_of_ble_eq_true rfl) (Nat.le_of_ble_eq_true rfl) dL_refund_22
theorem hd_L_refund : yL_refund.cls = RL ∧ yL_refund.cls ≠ "java/lang/invoke/MethodHandle" ∧ yL_refund.cls ≠ "java/lang/invoke/VarHandle" ∧ (parseMethodDescriptor yL_refund.desc).map (fun d => d.parameters.length) = some 2 := by decide +kernel

set_option maxHeartbeats 4000000 in
set_option maxRecDepth 100000 in
theorem c_L_escrow (l : Launch) (hst : l.stackTraces = false) (D : va_G) (q : Nat → Nat) (qo : Nat) (cI cZ cJ : ClassId) (k : Nat) (V : Nat → Nat) (C : Nat → Nat) (T : Nat → Nat) (B : Nat → Nat) (P : Nat → Nat) (A : Nat → Nat) (n : Nat) (PR : Nat → Nat) (ST : Nat → Nat) (li : Nat) (w : Nat) (WK : Nat → Nat) (so : Nat) (sp : Nat) (CT : Nat → Int64) (SC : Nat → Int) (TA : Nat → Nat) (O : Nat → Int64) (sz : Nat) (p0 : Int32) (hw12 : w ≤ 12) : Met l yL_escrow wsL_escrow ({ frames := 7, cells := 1, slots := 6, locals := 111 }) (va_Pc [.ref (q 0), .int p0, .ref qo] (cxN D (ty3 cI cZ cJ) ((wX q cI cZ cJ k V C T B P A n PR ST li w WK so sp CT SC TA) ++ [(qo, .inl (cJ, 1, .inr (.inl O)))]) sz)) (va_Qi (fun r (u : Nat ⊕ Nat) => Sum.elim (fun (u : Nat) => r = nI 0 ∧ u < w ∧ p0 = nI u) (fun kk => r = nI kk ∧ ((kk = 1 ∧ (¬ rg p0 0 w)))) u) (bW D (va_A ((wX q cI cZ cJ k V C T B P A n PR ST li w WK so sp CT SC TA) ++ [(qo, .inl (cJ, 1, .inr (.inl O)))]) sz) (fun (u : Nat ⊕ Nat) => Sum.elim (fun (u : Nat) => (wX q cI cZ cJ k V C T B P A n PR ST li w WK so sp CT SC TA) ++ [(qo, .inl (cJ, 1, .inr (.inl (vp_updL O 0 ((nI (WK u)).toInt64)))))]) (fun _ => (wX q cI cZ cJ k V C T B P A n PR ST li w WK so sp CT SC TA) ++ [(qo, .inl (cJ, 1, .inr (.inl O)))]) u)) (va_A ((wX q cI cZ cJ k V C T B P A n PR ST li w WK so sp CT SC TA) ++ [(qo, .inl (cJ, 1, .inr (.inl O)))]) sz)) 1 6 (va_A ((wX q cI cZ cJ k V C T B P A n PR ST li w WK so sp CT SC TA) ++ [(qo, .inl (cJ, 1, .inr (.inl O)))]) sz) := by
  refine va_MetW (cc := cL_escrow) (maxL := 4) (ret := (some .int)) (by decide) rfl ?_
  intro p e s m args below meth c s₁ BB hml hv
  obtain ⟨hav, ⟨hsz, hP, hK, hD0, hZ, hg⟩, hnc⟩ := hv
  subst hsz
  subst hav
  have hx := BB.exec
  have hb := BB.bytes
  have hr := BB.returns
  have hts := atoms_spec (ws := wsL_escrow) BB.pre
  have htab := vx_table (x := yL_escrow) BB (hts _ List.mem_cons_self)
  have hown : s.vm.findClass RL = some m.cls := findClass_of_methodNamed BB.named
  have hlocks := BB.notSynchronized
  have hD := hD0.self (sz := s.heap.size)
  have hA : ∀ q9 : Nat, s.heap.size ≤ q9 → va_A ((wX q cI cZ cJ k V C T B P A n PR ST li w WK so sp CT SC TA) ++ [(qo, .inl (cJ, 1, .inr (.inl O)))]) s.heap.size q9 := fun _ h => Or.inr h
  have hl := lv_entry ([.ref (q 0), .int p0, .ref qo]) (n := 4) (Nat.le_of_ble_eq_true rfl)
  rw [lg_entry_eq]
  generalize (lg_sl ([.ref (q 0), .int p0, .ref qo]) ++ List.replicate (4 - (lg_sl ([.ref (q 0), .int p0, .ref qo])).length) Slot.unset).toArray = ls at hl ⊢
  have hl : lv_has ls 4 [(0, .ref (q 0)), (1, .int p0), (2, .ref qo)] := hl
  refine W_absR (fun R hR => ?_)
  have hR : R = ({ frames := 7, cells := 1, slots := 6, locals := 111 } : Room) := hR
  refine W_absQ (fun Q hQ => ?_)
  generalize ([.ref (q 0), .int p0, .ref qo] : List Value).toArray = args at hts hQ ⊢
  generalize va_A ((wX q cI cZ cJ k V C T B P A n PR ST li w WK so sp CT SC TA) ++ [(qo, .inl (cJ, 1, .inr (.inl O)))]) s.heap.size = A9 at hD hZ hA hQ
  refine W_start hP (A := A9) (fun H locs hP hS => ?_)
  refine lv_aload_n hx hb dL_escrow_0 rfl (lv_at hl 2 rfl) ?_
  refine lv_iconst (v := nI 0) hx hb dL_escrow_1 (ic_0) ?_
  refine lv_aload_n hx hb dL_escrow_2 rfl (lv_at hl 0 rfl) ?_
  refine lv_iload_n hx hb dL_escrow_3 rfl (lv_at hl 1 rfl) ?_
  refine k3x_i (wa := []) (wc := (wX q cI cZ cJ k V C T B P A n PR ST li w WK so sp CT SC TA)) (wb := [(qo, .inl (cJ, 1, .inr (.inl O)))]) (vx_runV (As := [.int p0]) (rest := [.int (nI 0), .ref qo]) ⟨hx, hb, hml, hown, hts⟩ (c_X0_escrow l hst D q cI cZ cJ k V C T B P A n PR ST li w WK so sp CT SC TA H.size  p0 hw12) (cwV 1 hts gL_escrow_X0_escrow rfl rfl rfl hd_X0_escrow ⟨(by rw [hR]; exact Nat.le_of_ble_eq_true rfl), (by rw [hR]; exact Nat.le_of_ble_eq_true rfl)⟩) (pre_V3 (wa := []) (wc := (wX q cI cZ cJ k V C T B P A n PR ST li w WK so sp CT SC TA)) (wb := [(qo, .inl (cJ, 1, .inr (.inl O)))]) hP hK hD hS hA hZ hg 0 (ci := 0) rfl rfl) rfl rfl hl.1 rfl (lv_room (Nat.le_of_ble_eq_true rfl)) dL_escrow_4 ⟨(by rw [hR]; exact Nat.le_of_ble_eq_true rfl), (by rw [hR]; exact Nat.le_of_ble_eq_true rfl)⟩) hP hD hS hA (fun E ce q9 H locs hE hP hD hS h1 h2 h3 => ?_) (fun r u H locs hp hP hD hS => ?_)
  · have hP : va_P D vwCl ((wX q cI cZ cJ k V C T B P A n PR ST li w WK so sp CT SC TA) ++ [(qo, .inl (cJ, 1, .inr (.inl O)))]) H := hP
    have hD : va_D A9 ((wX q cI cZ cJ k V C T B P A n PR ST li w WK so sp CT SC TA) ++ [(qo, .inl (cJ, 1, .inr (.inl O)))]) := hD
    obtain ⟨rfl, hE⟩ := hE
    refine vx_catch (name := eIB) hown [] ⟨0, 9, 12, 20⟩ [] htab (fun z hz => nomatch hz) rfl (by decide) (hts _ (List.mem_of_getElem? (i := 1) rfl)) (hg.2.2.2.1.use rfl) h1 h2 h3 ?_
    refine lv_astore_n (lv' := [(3, .ref q9), (0, .ref (q 0)), (1, .int p0), (2, .ref qo)]) hx hb dL_escrow_12 rfl hl (by decide) rfl (fun ls hl => ?_)
    refine lv_iconst (v := nI 1) hx hb dL_escrow_13 (ic_1) ?_
    subst hQ
    exact e_i (Sum.inr 1) hx hb hr hlocks hS hP hD ⟨rfl, ⟨rfl, hE⟩⟩ (Nat.le_of_ble_eq_true rfl) (Nat.le_of_ble_eq_true rfl) dL_escrow_14
  · have hP : va_P D vwCl ((wX q cI cZ cJ k V C T B P A n PR ST li w WK so sp CT SC TA) ++ [(qo, .inl (cJ, 1, .inr (.inl O)))]) H := hP
    have hD : va_D A9 ((wX q cI cZ cJ k V C T B P A n PR ST li w WK so sp CT SC TA) ++ [(qo, .inl (cJ, 1, .inr (.inl O)))]) := hD
    obtain ⟨rfl, hp⟩ := hp
    refine lv_i2l hx hb dL_escrow_7 rfl ?_
    refine n_last (ws' := ((wX q cI cZ cJ k V C T B P A n PR ST li w WK so sp CT SC TA) ++ [(qo, .inl (cJ, 1, .inr (.inl (vp_updL O 0 ((nI (WK u)).toInt64)))))])) hx hb hK hP hD hS 13 2 rfl rfl (by decide) (by decide) rfl dL_escrow_8 (fun H locs hP hD hS => ?_)
    refine lv_goto (tgt := 15) hx hb dL_escrow_9 (by decide) ?_
    refine lv_iconst (v := nI 0) hx hb dL_escrow_15 (ic_0) ?_
    subst hQ
    exact e_i (Sum.inl u) hx hb hr hlocks hS hP hD ⟨rfl, hp⟩ (Nat.le_of_ble_eq_true rfl) (Nat.le_of_ble_eq_true rfl) dL_escrow_16
theorem hd_L_escrow : yL_escrow.cls = RL ∧ yL_escrow.cls ≠ "java/lang/invoke/MethodHandle" ∧ yL_escrow.cls ≠ "java/lang/invoke/VarHandle" ∧ (parseMethodDescriptor yL_escrow.desc).map (fun d => d.parameters.length) = some 3 := by decide +kernel

set_option maxHeartbeats 4000000 in
set_option maxRecDepth 100000 in
theorem c_L_coins (l : Launch) (hst : l.stackTraces = false) (D : va_G) (q : Nat → Nat) (qo : Nat) (cI cZ cJ : ClassId) (k : Nat) (V : Nat → Nat) (C : Nat → Nat) (T : Nat → Nat) (B : Nat → Nat) (P : Nat → Nat) (A : Nat → Nat) (n : Nat) (PR : Nat → Nat) (ST : Nat → Nat) (li : Nat) (w : Nat) (WK : Nat → Nat) (so : Nat) (sp : Nat) (CT : Nat → Int64) (SC : Nat → Int) (TA : Nat → Nat) (O : Nat → Int64) (sz : Nat) (p0 : Int32) (p1 : Int32) (hk8 : k ≤ 8) : Met l yL_coins wsL_coins ({ frames := 8, cells := 2, slots := 12, locals := 133 }) (va_Pc [.ref (q 0), .int p0, .int p1, .ref qo] (cxN D (ty3 cI cZ cJ) ((wX q cI cZ cJ k V C T B P A n PR ST li w WK so sp CT SC TA) ++ [(qo, .inl (cJ, 1, .inr (.inl O)))]) sz)) (va_Qi (fun r (u : (Nat × Nat) ⊕ Nat) => Sum.elim (fun (u : Nat × Nat) => r = nI 0 ∧ u.1 < k ∧ u.2 < 4 ∧ p0 = nI u.1 ∧ p1 = nI u.2) (fun kk => r = nI kk ∧ ((kk = 1 ∧ (¬ (rg p0 0 k ∧ rg p1 0 4))))) u) (bW D (va_A ((wX q cI cZ cJ k V C T B P A n PR ST li w WK so sp CT SC TA) ++ [(qo, .inl (cJ, 1, .inr (.inl O)))]) sz) (fun (u : (Nat × Nat) ⊕ Nat) => Sum.elim (fun (u : Nat × Nat) => (wX q cI cZ cJ k V C T B P A n PR ST li w WK so sp CT SC TA) ++ [(qo, .inl (cJ, 1, .inr (.inl (vp_updL O 0 ((nI (tld V T B P u.1 u.2)).toInt64)))))]) (fun _ => (wX q cI cZ cJ k V C T B P A n PR ST li w WK so sp CT SC TA) ++ [(qo, .inl (cJ, 1, .inr (.inl O)))]) u)) (va_A ((wX q cI cZ cJ k V C T B P A n PR ST li w WK so sp CT SC TA) ++ [(qo, .inl (cJ, 1, .inr (.inl O)))]) sz)) 2 12 (va_A ((wX q cI cZ cJ k V C T B P A n PR ST li w WK so sp CT SC TA) ++ [(qo, .inl (cJ, 1, .inr (.inl O)))]) sz) := by
  refine va_MetW (cc := cL_coins) (maxL := 5) (ret := (some .int)) (by decide) rfl ?_
  intro p e s m args below meth c s₁ BB hml hv
  obtain ⟨hav, ⟨hsz, hP, hK, hD0, hZ, hg⟩, hnc⟩ := hv
  subst hsz
  subst hav
  have hx := BB.exec
  have hb := BB.bytes
  have hr := BB.returns
  have hts := atoms_spec (ws := wsL_coins) BB.pre
  have htab := vx_table (x := yL_coins) BB (hts _ List.mem_cons_self)
  have hown : s.vm.findClass RL = some m.cls := findClass_of_methodNamed BB.named
  have hlocks := BB.notSynchronized
  have hD := hD0.self (sz := s.heap.size)
  have hA : ∀ q9 : Nat, s.heap.size ≤ q9 → va_A ((wX q cI cZ cJ k V C T B P A n PR ST li w WK so sp CT SC TA) ++ [(qo, .inl (cJ, 1, .inr (.inl O)))]) s.heap.size q9 := fun _ h => Or.inr h
  have hl := lv_entry ([.ref (q 0), .int p0, .int p1, .ref qo]) (n := 5) (Nat.le_of_ble_eq_true rfl)
  rw [lg_entry_eq]
  generalize (lg_sl ([.ref (q 0), .int p0, .int p1, .ref qo]) ++ List.replicate (5 - (lg_sl ([.ref (q 0), .int p0, .int p1, .ref qo])).length) Slot.unset).toArray = ls at hl ⊢
  have hl : lv_has ls 5 [(0, .ref (q 0)), (1, .int p0), (2, .int p1), (3, .ref qo)] := hl
  refine W_absR (fun R hR => ?_)
  have hR : R = ({ frames := 8, cells := 2, slots := 12, locals := 133 } : Room) := hR
  refine W_absQ (fun Q hQ => ?_)
  generalize ([.ref (q 0), .int p0, .int p1, .ref qo] : List Value).toArray = args at hts hQ ⊢
  generalize va_A ((wX q cI cZ cJ k V C T B P A n PR ST li w WK so sp CT SC TA) ++ [(qo, .inl (cJ, 1, .inr (.inl O)))]) s.heap.size = A9 at hD hZ hA hQ
  refine W_start hP (A := A9) (fun H locs hP hS => ?_)
  refine lv_aload_n hx hb dL_coins_0 rfl (lv_at hl 3 rfl) ?_
  refine lv_iconst (v := nI 0) hx hb dL_coins_1 (ic_0) ?_
  refine lv_aload_n hx hb dL_coins_2 rfl (lv_at hl 0 rfl) ?_
  refine lv_iload_n hx hb dL_coins_3 rfl (lv_at hl 1 rfl) ?_
  refine lv_iload_n hx hb dL_coins_4 rfl (lv_at hl 2 rfl) ?_
  refine k3x_i (wa := []) (wc := (wX q cI cZ cJ k V C T B P A n PR ST li w WK so sp CT SC TA)) (wb := [(qo, .inl (cJ, 1, .inr (.inl O)))]) (vx_runV (As := [.int p0, .int p1]) (rest := [.int (nI 0), .ref qo]) ⟨hx, hb, hml, hown, hts⟩ (c_X0_coins l hst D q cI cZ cJ k V C T B P A n PR ST li w WK so sp CT SC TA H.size  p0 p1 hk8) (cwV 2 hts gL_coins_X0_coins rfl rfl rfl hd_X0_coins ⟨(by rw [hR]; exact Nat.le_of_ble_eq_true rfl), (by rw [hR]; exact Nat.le_of_ble_eq_true rfl)⟩) (pre_V3 (wa := []) (wc := (wX q cI cZ cJ k V C T B P A n PR ST li w WK so sp CT SC TA)) (wb := [(qo, .inl (cJ, 1, .inr (.inl O)))]) hP hK hD hS hA hZ hg 0 (ci := 0) rfl rfl) rfl rfl hl.1 rfl (lv_room (Nat.le_of_ble_eq_true rfl)) dL_coins_5 ⟨(by rw [hR]; exact Nat.le_of_ble_eq_true rfl), (by rw [hR]; exact Nat.le_of_ble_eq_true rfl)⟩) hP hD hS hA (fun E ce q9 H locs hE hP hD hS h1 h2 h3 => ?_) (fun r u H locs hp hP hD hS => ?_)
  · have hP : va_P D vwCl ((wX q cI cZ cJ k V C T B P A n PR ST li w WK so sp CT SC TA) ++ [(qo, .inl (cJ, 1, .inr (.inl O)))]) H := hP
    have hD : va_D A9 ((wX q cI cZ cJ k V C T B P A n PR ST li w WK so sp CT SC TA) ++ [(qo, .inl (cJ, 1, .inr (.inl O)))]) := hD
    obtain ⟨rfl, hE⟩ := hE
    refine vx_catch (name := eIB) hown [] ⟨0, 10, 13, 20⟩ [] htab (fun z hz => nomatch hz) rfl (by decide) (hts _ (List.mem_of_getElem? (i := 1) rfl)) (hg.2.2.2.1.use rfl) h1 h2 h3 ?_
    refine lv_astore (lv' := [(4, .ref q9), (0, .ref (q 0)), (1, .int p0), (2, .int p1), (3, .ref qo)]) hx hb dL_coins_13 hl (by decide) rfl (fun ls hl => ?_)
    refine lv_iconst (v := nI 1) hx hb dL_coins_15 (ic_1) ?_
    subst hQ
    exact e_i (Sum.inr 1) hx hb hr hlocks hS hP hD ⟨rfl, ⟨rfl, hE⟩⟩ (Nat.le_of_ble_eq_true rfl) (Nat.le_of_ble_eq_true rfl) dL_coins_16
  · have hP : va_P D vwCl ((wX q cI cZ cJ k V C T B P A n PR ST li w WK so sp CT SC TA) ++ [(qo, .inl (cJ, 1, .inr (.inl O)))]) H := hP
    have hD : va_D A9 ((wX q cI cZ cJ k V C T B P A n PR ST li w WK so sp CT SC TA) ++ [(qo, .inl (cJ, 1, .inr (.inl O)))]) := hD
    obtain ⟨rfl, hp⟩ := hp
    refine lv_i2l hx hb dL_coins_8 rfl ?_
    refine n_last (ws' := ((wX q cI cZ cJ k V C T B P A n PR ST li w WK so sp CT SC TA) ++ [(qo, .inl (cJ, 1, .inr (.inl (vp_updL O 0 ((nI (tld V T B P u.1 u.2)).toInt64)))))])) hx hb hK hP hD hS 13 2 rfl rfl (by decide) (by decide) rfl dL_coins_9 (fun H locs hP hD hS => ?_)
    refine lv_goto (tgt := 17) hx hb dL_coins_10 (by decide) ?_
    refine lv_iconst (v := nI 0) hx hb dL_coins_17 (ic_0) ?_
    subst hQ
    exact e_i (Sum.inl u) hx hb hr hlocks hS hP hD ⟨rfl, hp⟩ (Nat.le_of_ble_eq_true rfl) (Nat.le_of_ble_eq_true rfl) dL_coins_18
theorem hd_L_coins : yL_coins.cls = RL ∧ yL_coins.cls ≠ "java/lang/invoke/MethodHandle" ∧ yL_coins.cls ≠ "java/lang/invoke/VarHandle" ∧ (parseMethodDescriptor yL_coins.desc).map (fun d => d.parameters.length) = some 4 := by decide +kernel

set_option maxHeartbeats 4000000 in
set_option maxRecDepth 100000 in
theorem c_L_fewest (l : Launch) (hst : l.stackTraces = false) (D : va_G) (q : Nat → Nat) (qo : Nat) (cI cZ cJ : ClassId) (k : Nat) (V : Nat → Nat) (C : Nat → Nat) (T : Nat → Nat) (B : Nat → Nat) (P : Nat → Nat) (A : Nat → Nat) (n : Nat) (PR : Nat → Nat) (ST : Nat → Nat) (li : Nat) (w : Nat) (WK : Nat → Nat) (so : Nat) (sp : Nat) (CT : Nat → Int64) (SC : Nat → Int) (TA : Nat → Nat) (O : Nat → Int64) (sz : Nat) (p0 : Int32) (hk8 : k ≤ 8) (hV : ∀ i, i < k → 1 ≤ V i ∧ V i ≤ 500) (hC : ∀ i, i < k → C i ≤ 60 ∧ T i ≤ C i) : Met l yL_fewest wsL_fewest ({ frames := 8, cells := 1, slots := 6, locals := 133 }) (va_Pc [.ref (q 0), .int p0, .ref qo] (cxN D (ty3 cI cZ cJ) ((wX q cI cZ cJ k V C T B P A n PR ST li w WK so sp CT SC TA) ++ [(qo, .inl (cJ, 1, .inr (.inl O)))]) sz)) (va_Qi (fun r (u : (Nat × Nat × (Nat → Int)) ⊕ Nat) => Sum.elim (fun (u : Nat × Nat × (Nat → Int)) => r = nI 0 ∧ u.1 < 2001 ∧ p0 = nI u.1 ∧ fwR T V k u.1 u.2.1) (fun kk => r = nI kk ∧ ((kk = 1 ∧ (¬ rg p0 0 2001)))) u) (bW D (va_A ((wX q cI cZ cJ k V C T B P A n PR ST li w WK so sp CT SC TA) ++ [(qo, .inl (cJ, 1, .inr (.inl O)))]) sz) (fun (u : (Nat × Nat × (Nat → Int)) ⊕ Nat) => Sum.elim (fun (u : Nat × Nat × (Nat → Int)) => (wX q cI cZ cJ k V C T B P A n PR ST li w WK so sp CT u.2.2 TA) ++ [(qo, .inl (cJ, 1, .inr (.inl (vp_updL O 0 ((nI u.2.1).toInt64)))))]) (fun _ => (wX q cI cZ cJ k V C T B P A n PR ST li w WK so sp CT SC TA) ++ [(qo, .inl (cJ, 1, .inr (.inl O)))]) u)) (va_A ((wX q cI cZ cJ k V C T B P A n PR ST li w WK so sp CT SC TA) ++ [(qo, .inl (cJ, 1, .inr (.inl O)))]) sz)) 1 6 (va_A ((wX q cI cZ cJ k V C T B P A n PR ST li w WK so sp CT SC TA) ++ [(qo, .inl (cJ, 1, .inr (.inl O)))]) sz) := by
  refine va_MetW (cc := cL_fewest) (maxL := 4) (ret := (some .int)) (by decide) rfl ?_
  intro p e s m args below meth c s₁ BB hml hv
  obtain ⟨hav, ⟨hsz, hP, hK, hD0, hZ, hg⟩, hnc⟩ := hv
  subst hsz
  subst hav
  have hx := BB.exec
  have hb := BB.bytes
  have hr := BB.returns
  have hts := atoms_spec (ws := wsL_fewest) BB.pre
  have htab := vx_table (x := yL_fewest) BB (hts _ List.mem_cons_self)
  have hown : s.vm.findClass RL = some m.cls := findClass_of_methodNamed BB.named
  have hlocks := BB.notSynchronized
  have hD := hD0.self (sz := s.heap.size)
  have hA : ∀ q9 : Nat, s.heap.size ≤ q9 → va_A ((wX q cI cZ cJ k V C T B P A n PR ST li w WK so sp CT SC TA) ++ [(qo, .inl (cJ, 1, .inr (.inl O)))]) s.heap.size q9 := fun _ h => Or.inr h
  have hl := lv_entry ([.ref (q 0), .int p0, .ref qo]) (n := 4) (Nat.le_of_ble_eq_true rfl)
  rw [lg_entry_eq]
  generalize (lg_sl ([.ref (q 0), .int p0, .ref qo]) ++ List.replicate (4 - (lg_sl ([.ref (q 0), .int p0, .ref qo])).length) Slot.unset).toArray = ls at hl ⊢
  have hl : lv_has ls 4 [(0, .ref (q 0)), (1, .int p0), (2, .ref qo)] := hl
  refine W_absR (fun R hR => ?_)
  have hR : R = ({ frames := 8, cells := 1, slots := 6, locals := 133 } : Room) := hR
  refine W_absQ (fun Q hQ => ?_)
  generalize ([.ref (q 0), .int p0, .ref qo] : List Value).toArray = args at hts hQ ⊢
  generalize va_A ((wX q cI cZ cJ k V C T B P A n PR ST li w WK so sp CT SC TA) ++ [(qo, .inl (cJ, 1, .inr (.inl O)))]) s.heap.size = A9 at hD hZ hA hQ
  refine W_start hP (A := A9) (fun H locs hP hS => ?_)
  refine lv_aload_n hx hb dL_fewest_0 rfl (lv_at hl 2 rfl) ?_
  refine lv_iconst (v := nI 0) hx hb dL_fewest_1 (ic_0) ?_
  refine lv_aload_n hx hb dL_fewest_2 rfl (lv_at hl 0 rfl) ?_
  refine lv_iload_n hx hb dL_fewest_3 rfl (lv_at hl 1 rfl) ?_
  refine k3x_i (wa := []) (wc := (wX q cI cZ cJ k V C T B P A n PR ST li w WK so sp CT SC TA)) (wb := [(qo, .inl (cJ, 1, .inr (.inl O)))]) (vx_runV (As := [.int p0]) (rest := [.int (nI 0), .ref qo]) ⟨hx, hb, hml, hown, hts⟩ (c_X0_fewest l hst D q cI cZ cJ k V C T B P A n PR ST li w WK so sp CT SC TA H.size  p0 hk8 hV hC) (cwV 1 hts gL_fewest_X0_fewest rfl rfl rfl hd_X0_fewest ⟨(by rw [hR]; exact Nat.le_of_ble_eq_true rfl), (by rw [hR]; exact Nat.le_of_ble_eq_true rfl)⟩) (pre_V3 (wa := []) (wc := (wX q cI cZ cJ k V C T B P A n PR ST li w WK so sp CT SC TA)) (wb := [(qo, .inl (cJ, 1, .inr (.inl O)))]) hP hK hD hS hA hZ hg 0 (ci := 0) rfl rfl) rfl rfl hl.1 rfl (lv_room (Nat.le_of_ble_eq_true rfl)) dL_fewest_4 ⟨(by rw [hR]; exact Nat.le_of_ble_eq_true rfl), (by rw [hR]; exact Nat.le_of_ble_eq_true rfl)⟩) hP hD hS hA (fun E ce q9 H locs hE hP hD hS h1 h2 h3 => ?_) (fun r u H locs hp hP hD hS => ?_)
  · have hP : va_P D vwCl ((wX q cI cZ cJ k V C T B P A n PR ST li w WK so sp CT SC TA) ++ [(qo, .inl (cJ, 1, .inr (.inl O)))]) H := hP
    have hD : va_D A9 ((wX q cI cZ cJ k V C T B P A n PR ST li w WK so sp CT SC TA) ++ [(qo, .inl (cJ, 1, .inr (.inl O)))]) := hD
    obtain ⟨rfl, hE⟩ := hE
    refine vx_catch (name := eIA) hown [] ⟨0, 9, 12, 13⟩ [] htab (fun z hz => nomatch hz) rfl (by decide) (hts _ (List.mem_of_getElem? (i := 1) rfl)) (hg.2.1.use rfl) h1 h2 h3 ?_
    refine lv_astore_n (lv' := [(3, .ref q9), (0, .ref (q 0)), (1, .int p0), (2, .ref qo)]) hx hb dL_fewest_12 rfl hl (by decide) rfl (fun ls hl => ?_)
    refine lv_iconst (v := nI 1) hx hb dL_fewest_13 (ic_1) ?_
    subst hQ
    exact e_i (Sum.inr 1) hx hb hr hlocks hS hP hD ⟨rfl, ⟨rfl, hE⟩⟩ (Nat.le_of_ble_eq_true rfl) (Nat.le_of_ble_eq_true rfl) dL_fewest_14
  · have hP : va_P D vwCl ((wX q cI cZ cJ k V C T B P A n PR ST li w WK so sp CT u.2.2 TA) ++ [(qo, .inl (cJ, 1, .inr (.inl O)))]) H := hP
    have hD : va_D A9 ((wX q cI cZ cJ k V C T B P A n PR ST li w WK so sp CT u.2.2 TA) ++ [(qo, .inl (cJ, 1, .inr (.inl O)))]) := hD
    obtain ⟨rfl, hp⟩ := hp
    refine lv_i2l hx hb dL_fewest_7 rfl ?_
    refine n_last (ws' := ((wX q cI cZ cJ k V C T B P A n PR ST li w WK so sp CT u.2.2 TA) ++ [(qo, .inl (cJ, 1, .inr (.inl (vp_updL O 0 ((nI u.2.1).toInt64)))))])) hx hb hK hP hD hS 13 2 rfl rfl (by decide) (by decide) rfl dL_fewest_8 (fun H locs hP hD hS => ?_)
    refine lv_goto (tgt := 15) hx hb dL_fewest_9 (by decide) ?_
    refine lv_iconst (v := nI 0) hx hb dL_fewest_15 (ic_0) ?_
    subst hQ
    exact e_i (Sum.inl u) hx hb hr hlocks hS hP hD ⟨rfl, hp⟩ (Nat.le_of_ble_eq_true rfl) (Nat.le_of_ble_eq_true rfl) dL_fewest_16
theorem hd_L_fewest : yL_fewest.cls = RL ∧ yL_fewest.cls ≠ "java/lang/invoke/MethodHandle" ∧ yL_fewest.cls ≠ "java/lang/invoke/VarHandle" ∧ (parseMethodDescriptor yL_fewest.desc).map (fun d => d.parameters.length) = some 3 := by decide +kernel

set_option maxHeartbeats 4000000 in
set_option maxRecDepth 100000 in
theorem c_L_part (l : Launch) (hst : l.stackTraces = false) (D : va_G) (q : Nat → Nat) (qo : Nat) (cI cZ cJ : ClassId) (k : Nat) (V : Nat → Nat) (C : Nat → Nat) (T : Nat → Nat) (B : Nat → Nat) (P : Nat → Nat) (A : Nat → Nat) (n : Nat) (PR : Nat → Nat) (ST : Nat → Nat) (li : Nat) (w : Nat) (WK : Nat → Nat) (so : Nat) (sp : Nat) (CT : Nat → Int64) (SC : Nat → Int) (TA : Nat → Nat) (O : Nat → Int64) (sz : Nat) (p0 : Int32) (p1 : Int32) (hk8 : k ≤ 8) (hV : ∀ i, i < k → 1 ≤ V i ∧ V i ≤ 500) (hC : ∀ i, i < k → C i ≤ 60 ∧ T i ≤ C i) : Met l yL_part wsL_part ({ frames := 8, cells := 2, slots := 12, locals := 135 }) (va_Pc [.ref (q 0), .int p0, .int p1, .ref qo] (cxN D (ty3 cI cZ cJ) ((wX q cI cZ cJ k V C T B P A n PR ST li w WK so sp CT SC TA) ++ [(qo, .inl (cJ, 1, .inr (.inl O)))]) sz)) (va_Qi (fun r (u : (Nat × Nat × Nat × (Nat → Int)) ⊕ Nat) => Sum.elim (fun (u : Nat × Nat × Nat × (Nat → Int)) => r = nI 0 ∧ u.1 < 2001 ∧ u.2.1 < k ∧ p0 = nI u.1 ∧ p1 = nI u.2.1 ∧ ptR T V k u.1 u.2.1 u.2.2.1) (fun kk => r = nI kk ∧ ((kk = 1 ∧ (¬ rg p0 0 2001)) ∨ (kk = 2 ∧ (rg p0 0 2001 ∧ ¬ rg p1 0 k)))) u) (bW D (va_A ((wX q cI cZ cJ k V C T B P A n PR ST li w WK so sp CT SC TA) ++ [(qo, .inl (cJ, 1, .inr (.inl O)))]) sz) (fun (u : (Nat × Nat × Nat × (Nat → Int)) ⊕ Nat) => Sum.elim (fun (u : Nat × Nat × Nat × (Nat → Int)) => (wX q cI cZ cJ k V C T B P A n PR ST li w WK so sp CT u.2.2.2 TA) ++ [(qo, .inl (cJ, 1, .inr (.inl (vp_updL O 0 ((nI u.2.2.1).toInt64)))))]) (fun _ => (wX q cI cZ cJ k V C T B P A n PR ST li w WK so sp CT SC TA) ++ [(qo, .inl (cJ, 1, .inr (.inl O)))]) u)) (va_A ((wX q cI cZ cJ k V C T B P A n PR ST li w WK so sp CT SC TA) ++ [(qo, .inl (cJ, 1, .inr (.inl O)))]) sz)) 2 12 (va_A ((wX q cI cZ cJ k V C T B P A n PR ST li w WK so sp CT SC TA) ++ [(qo, .inl (cJ, 1, .inr (.inl O)))]) sz) := by
  refine va_MetW (cc := cL_part) (maxL := 5) (ret := (some .int)) (by decide) rfl ?_
  intro p e s m args below meth c s₁ BB hml hv
  obtain ⟨hav, ⟨hsz, hP, hK, hD0, hZ, hg⟩, hnc⟩ := hv
  subst hsz
  subst hav
  have hx := BB.exec
  have hb := BB.bytes
  have hr := BB.returns
  have hts := atoms_spec (ws := wsL_part) BB.pre
  have htab := vx_table (x := yL_part) BB (hts _ List.mem_cons_self)
  have hown : s.vm.findClass RL = some m.cls := findClass_of_methodNamed BB.named
  have hlocks := BB.notSynchronized
  have hD := hD0.self (sz := s.heap.size)
  have hA : ∀ q9 : Nat, s.heap.size ≤ q9 → va_A ((wX q cI cZ cJ k V C T B P A n PR ST li w WK so sp CT SC TA) ++ [(qo, .inl (cJ, 1, .inr (.inl O)))]) s.heap.size q9 := fun _ h => Or.inr h
  have hl := lv_entry ([.ref (q 0), .int p0, .int p1, .ref qo]) (n := 5) (Nat.le_of_ble_eq_true rfl)
  rw [lg_entry_eq]
  generalize (lg_sl ([.ref (q 0), .int p0, .int p1, .ref qo]) ++ List.replicate (5 - (lg_sl ([.ref (q 0), .int p0, .int p1, .ref qo])).length) Slot.unset).toArray = ls at hl ⊢
  have hl : lv_has ls 5 [(0, .ref (q 0)), (1, .int p0), (2, .int p1), (3, .ref qo)] := hl
  refine W_absR (fun R hR => ?_)
  have hR : R = ({ frames := 8, cells := 2, slots := 12, locals := 135 } : Room) := hR
  refine W_absQ (fun Q hQ => ?_)
  generalize ([.ref (q 0), .int p0, .int p1, .ref qo] : List Value).toArray = args at hts hQ ⊢
  generalize va_A ((wX q cI cZ cJ k V C T B P A n PR ST li w WK so sp CT SC TA) ++ [(qo, .inl (cJ, 1, .inr (.inl O)))]) s.heap.size = A9 at hD hZ hA hQ
  refine W_start hP (A := A9) (fun H locs hP hS => ?_)
  refine lv_aload_n hx hb dL_part_0 rfl (lv_at hl 3 rfl) ?_
  refine lv_iconst (v := nI 0) hx hb dL_part_1 (ic_0) ?_
  refine lv_aload_n hx hb dL_part_2 rfl (lv_at hl 0 rfl) ?_
  refine lv_iload_n hx hb dL_part_3 rfl (lv_at hl 1 rfl) ?_
  refine lv_iload_n hx hb dL_part_4 rfl (lv_at hl 2 rfl) ?_
  refine k3x_i (wa := []) (wc := (wX q cI cZ cJ k V C T B P A n PR ST li w WK so sp CT SC TA)) (wb := [(qo, .inl (cJ, 1, .inr (.inl O)))]) (vx_runV (As := [.int p0, .int p1]) (rest := [.int (nI 0), .ref qo]) ⟨hx, hb, hml, hown, hts⟩ (c_X0_part l hst D q cI cZ cJ k V C T B P A n PR ST li w WK so sp CT SC TA H.size  p0 p1 hk8 hV hC) (cwV 2 hts gL_part_X0_part rfl rfl rfl hd_X0_part ⟨(by rw [hR]; exact Nat.le_of_ble_eq_true rfl), (by rw [hR]; exact Nat.le_of_ble_eq_true rfl)⟩) (pre_V3 (wa := []) (wc := (wX q cI cZ cJ k V C T B P A n PR ST li w WK so sp CT SC TA)) (wb := [(qo, .inl (cJ, 1, .inr (.inl O)))]) hP hK hD hS hA hZ hg 0 (ci := 0) rfl rfl) rfl rfl hl.1 rfl (lv_room (Nat.le_of_ble_eq_true rfl)) dL_part_5 ⟨(by rw [hR]; exact Nat.le_of_ble_eq_true rfl), (by rw [hR]; exact Nat.le_of_ble_eq_true rfl)⟩) hP hD hS hA (fun E ce q9 H locs hE hP hD hS h1 h2 h3 => ?_) (fun r u H locs hp hP hD hS => ?_)
  · have hP : va_P D vwCl ((wX q cI cZ cJ k V C T B P A n PR ST li w WK so sp CT SC TA) ++ [(qo, .inl (cJ, 1, .inr (.inl O)))]) H := hP
    have hD : va_D A9 ((wX q cI cZ cJ k V C T B P A n PR ST li w WK so sp CT SC TA) ++ [(qo, .inl (cJ, 1, .inr (.inl O)))]) := hD
    rcases hE with ⟨rfl, hE⟩ | ⟨rfl, hE⟩
    · refine vx_catch (name := eIA) hown [] ⟨0, 10, 13, 13⟩ [⟨0, 10, 17, 20⟩] htab (fun z hz => nomatch hz) rfl (by decide) (hts _ (List.mem_of_getElem? (i := 1) rfl)) (hg.2.1.use rfl) h1 h2 h3 ?_
      refine lv_astore (lv' := [(4, .ref q9), (0, .ref (q 0)), (1, .int p0), (2, .int p1), (3, .ref qo)]) hx hb dL_part_13 hl (by decide) rfl (fun ls hl => ?_)
      refine lv_iconst (v := nI 1) hx hb dL_part_15 (ic_1) ?_
      subst hQ
      exact e_i (Sum.inr 1) hx hb hr hlocks hS hP hD ⟨rfl, Or.inl ⟨rfl, hE⟩⟩ (Nat.le_of_ble_eq_true rfl) (Nat.le_of_ble_eq_true rfl) dL_part_16
    · refine vx_catch (name := eIB) hown [⟨0, 10, 13, 13⟩] ⟨0, 10, 17, 20⟩ [] htab (fun z hz => by cases List.mem_singleton.mp hz; exact Or.inr ⟨(by decide), eIA, hts _ (List.mem_of_getElem? (i := 1) rfl), hnc.2.2⟩) rfl (by decide) (hts _ (List.mem_of_getElem? (i := 2) rfl)) (hg.2.2.2.1.use rfl) h1 h2 h3 ?_
      refine lv_astore (lv' := [(4, .ref q9), (0, .ref (q 0)), (1, .int p0), (2, .int p1), (3, .ref qo)]) hx hb dL_part_17 hl (by decide) rfl (fun ls hl => ?_)
      refine lv_iconst (v := nI 2) hx hb dL_part_19 (ic_2) ?_
      subst hQ
      exact e_i (Sum.inr 2) hx hb hr hlocks hS hP hD ⟨rfl, Or.inr ⟨rfl, hE⟩⟩ (Nat.le_of_ble_eq_true rfl) (Nat.le_of_ble_eq_true rfl) dL_part_20
  · have hP : va_P D vwCl ((wX q cI cZ cJ k V C T B P A n PR ST li w WK so sp CT u.2.2.2 TA) ++ [(qo, .inl (cJ, 1, .inr (.inl O)))]) H := hP
    have hD : va_D A9 ((wX q cI cZ cJ k V C T B P A n PR ST li w WK so sp CT u.2.2.2 TA) ++ [(qo, .inl (cJ, 1, .inr (.inl O)))]) := hD
    obtain ⟨rfl, hp⟩ := hp
    refine lv_i2l hx hb dL_part_8 rfl ?_
    refine n_last (ws' := ((wX q cI cZ cJ k V C T B P A n PR ST li w WK so sp CT u.2.2.2 TA) ++ [(qo, .inl (cJ, 1, .inr (.inl (vp_updL O 0 ((nI u.2.2.1).toInt64)))))])) hx hb hK hP hD hS 13 2 rfl rfl (by decide) (by decide) rfl dL_part_9 (fun H locs hP hD hS => ?_)
    refine lv_goto (tgt := 21) hx hb dL_part_10 (by decide) ?_
    refine lv_iconst (v := nI 0) hx hb dL_part_21 (ic_0) ?_
    subst hQ
    exact e_i (Sum.inl u) hx hb hr hlocks hS hP hD ⟨rfl, hp⟩ (Nat.le_of_ble_eq_true rfl) (Nat.le_of_ble_eq_true rfl) dL_part_22
theorem hd_L_part : yL_part.cls = RL ∧ yL_part.cls ≠ "java/lang/invoke/MethodHandle" ∧ yL_part.cls ≠ "java/lang/invoke/VarHandle" ∧ (parseMethodDescriptor yL_part.desc).map (fun d => d.parameters.length) = some 4 := by decide +kernel

set_option maxHeartbeats 4000000 in
set_option maxRecDepth 100000 in
theorem c_L_below (l : Launch) (hst : l.stackTraces = false) (D : va_G) (q : Nat → Nat) (qo : Nat) (cI cZ cJ : ClassId) (k : Nat) (V : Nat → Nat) (C : Nat → Nat) (T : Nat → Nat) (B : Nat → Nat) (P : Nat → Nat) (A : Nat → Nat) (n : Nat) (PR : Nat → Nat) (ST : Nat → Nat) (li : Nat) (w : Nat) (WK : Nat → Nat) (so : Nat) (sp : Nat) (CT : Nat → Int64) (SC : Nat → Int) (TA : Nat → Nat) (O : Nat → Int64) (sz : Nat) (p0 : Int32) (hk8 : k ≤ 8) (hV : ∀ i, i < k → 1 ≤ V i ∧ V i ≤ 500) (hC : ∀ i, i < k → C i ≤ 60 ∧ T i ≤ C i) : Met l yL_below wsL_below ({ frames := 8, cells := 1, slots := 6, locals := 132 }) (va_Pc [.ref (q 0), .int p0, .ref qo] (cxN D (ty3 cI cZ cJ) ((wX q cI cZ cJ k V C T B P A n PR ST li w WK so sp CT SC TA) ++ [(qo, .inl (cJ, 1, .inr (.inl O)))]) sz)) (va_Qi (fun r (u : (Nat × Nat × (Nat → Int)) ⊕ Nat) => Sum.elim (fun (u : Nat × Nat × (Nat → Int)) => r = nI 0 ∧ u.1 < 2001 ∧ p0 = nI u.1 ∧ blR T V k u.1 u.2.1) (fun kk => r = nI kk ∧ ((kk = 1 ∧ (¬ rg p0 0 2001)))) u) (bW D (va_A ((wX q cI cZ cJ k V C T B P A n PR ST li w WK so sp CT SC TA) ++ [(qo, .inl (cJ, 1, .inr (.inl O)))]) sz) (fun (u : (Nat × Nat × (Nat → Int)) ⊕ Nat) => Sum.elim (fun (u : Nat × Nat × (Nat → Int)) => (wX q cI cZ cJ k V C T B P A n PR ST li w WK so sp CT u.2.2 TA) ++ [(qo, .inl (cJ, 1, .inr (.inl (vp_updL O 0 ((nI u.2.1).toInt64)))))]) (fun _ => (wX q cI cZ cJ k V C T B P A n PR ST li w WK so sp CT SC TA) ++ [(qo, .inl (cJ, 1, .inr (.inl O)))]) u)) (va_A ((wX q cI cZ cJ k V C T B P A n PR ST li w WK so sp CT SC TA) ++ [(qo, .inl (cJ, 1, .inr (.inl O)))]) sz)) 1 6 (va_A ((wX q cI cZ cJ k V C T B P A n PR ST li w WK so sp CT SC TA) ++ [(qo, .inl (cJ, 1, .inr (.inl O)))]) sz) := by
  refine va_MetW (cc := cL_below) (maxL := 4) (ret := (some .int)) (by decide) rfl ?_
  intro p e s m args below meth c s₁ BB hml hv
  obtain ⟨hav, ⟨hsz, hP, hK, hD0, hZ, hg⟩, hnc⟩ := hv
  subst hsz
  subst hav
  have hx := BB.exec
  have hb := BB.bytes
  have hr := BB.returns
  have hts := atoms_spec (ws := wsL_below) BB.pre
  have htab := vx_table (x := yL_below) BB (hts _ List.mem_cons_self)
  have hown : s.vm.findClass RL = some m.cls := findClass_of_methodNamed BB.named
  have hlocks := BB.notSynchronized
  have hD := hD0.self (sz := s.heap.size)
  have hA : ∀ q9 : Nat, s.heap.size ≤ q9 → va_A ((wX q cI cZ cJ k V C T B P A n PR ST li w WK so sp CT SC TA) ++ [(qo, .inl (cJ, 1, .inr (.inl O)))]) s.heap.size q9 := fun _ h => Or.inr h
  have hl := lv_entry ([.ref (q 0), .int p0, .ref qo]) (n := 4) (Nat.le_of_ble_eq_true rfl)
  rw [lg_entry_eq]
  generalize (lg_sl ([.ref (q 0), .int p0, .ref qo]) ++ List.replicate (4 - (lg_sl ([.ref (q 0), .int p0, .ref qo])).length) Slot.unset).toArray = ls at hl ⊢
  have hl : lv_has ls 4 [(0, .ref (q 0)), (1, .int p0), (2, .ref qo)] := hl
  refine W_absR (fun R hR => ?_)
  have hR : R = ({ frames := 8, cells := 1, slots := 6, locals := 132 } : Room) := hR
  refine W_absQ (fun Q hQ => ?_)
  generalize ([.ref (q 0), .int p0, .ref qo] : List Value).toArray = args at hts hQ ⊢
  generalize va_A ((wX q cI cZ cJ k V C T B P A n PR ST li w WK so sp CT SC TA) ++ [(qo, .inl (cJ, 1, .inr (.inl O)))]) s.heap.size = A9 at hD hZ hA hQ
  refine W_start hP (A := A9) (fun H locs hP hS => ?_)
  refine lv_aload_n hx hb dL_below_0 rfl (lv_at hl 2 rfl) ?_
  refine lv_iconst (v := nI 0) hx hb dL_below_1 (ic_0) ?_
  refine lv_aload_n hx hb dL_below_2 rfl (lv_at hl 0 rfl) ?_
  refine lv_iload_n hx hb dL_below_3 rfl (lv_at hl 1 rfl) ?_
  refine k3x_i (wa := []) (wc := (wX q cI cZ cJ k V C T B P A n PR ST li w WK so sp CT SC TA)) (wb := [(qo, .inl (cJ, 1, .inr (.inl O)))]) (vx_runV (As := [.int p0]) (rest := [.int (nI 0), .ref qo]) ⟨hx, hb, hml, hown, hts⟩ (c_X0_below l hst D q cI cZ cJ k V C T B P A n PR ST li w WK so sp CT SC TA H.size  p0 hk8 hV hC) (cwV 1 hts gL_below_X0_below rfl rfl rfl hd_X0_below ⟨(by rw [hR]; exact Nat.le_of_ble_eq_true rfl), (by rw [hR]; exact Nat.le_of_ble_eq_true rfl)⟩) (pre_V3 (wa := []) (wc := (wX q cI cZ cJ k V C T B P A n PR ST li w WK so sp CT SC TA)) (wb := [(qo, .inl (cJ, 1, .inr (.inl O)))]) hP hK hD hS hA hZ hg 0 (ci := 0) rfl rfl) rfl rfl hl.1 rfl (lv_room (Nat.le_of_ble_eq_true rfl)) dL_below_4 ⟨(by rw [hR]; exact Nat.le_of_ble_eq_true rfl), (by rw [hR]; exact Nat.le_of_ble_eq_true rfl)⟩) hP hD hS hA (fun E ce q9 H locs hE hP hD hS h1 h2 h3 => ?_) (fun r u H locs hp hP hD hS => ?_)
  · have hP : va_P D vwCl ((wX q cI cZ cJ k V C T B P A n PR ST li w WK so sp CT SC TA) ++ [(qo, .inl (cJ, 1, .inr (.inl O)))]) H := hP
    have hD : va_D A9 ((wX q cI cZ cJ k V C T B P A n PR ST li w WK so sp CT SC TA) ++ [(qo, .inl (cJ, 1, .inr (.inl O)))]) := hD
    obtain ⟨rfl, hE⟩ := hE
    refine vx_catch (name := eIA) hown [] ⟨0, 9, 12, 13⟩ [] htab (fun z hz => nomatch hz) rfl (by decide) (hts _ (List.mem_of_getElem? (i := 1) rfl)) (hg.2.1.use rfl) h1 h2 h3 ?_
    refine lv_astore_n (lv' := [(3, .ref q9), (0, .ref (q 0)), (1, .int p0), (2, .ref qo)]) hx hb dL_below_12 rfl hl (by decide) rfl (fun ls hl => ?_)
    refine lv_iconst (v := nI 1) hx hb dL_below_13 (ic_1) ?_
    subst hQ
    exact e_i (Sum.inr 1) hx hb hr hlocks hS hP hD ⟨rfl, ⟨rfl, hE⟩⟩ (Nat.le_of_ble_eq_true rfl) (Nat.le_of_ble_eq_true rfl) dL_below_14
  · have hP : va_P D vwCl ((wX q cI cZ cJ k V C T B P A n PR ST li w WK so sp CT u.2.2 TA) ++ [(qo, .inl (cJ, 1, .inr (.inl O)))]) H := hP
    have hD : va_D A9 ((wX q cI cZ cJ k V C T B P A n PR ST li w WK so sp CT u.2.2 TA) ++ [(qo, .inl (cJ, 1, .inr (.inl O)))]) := hD
    obtain ⟨rfl, hp⟩ := hp
    refine lv_i2l hx hb dL_below_7 rfl ?_
    refine n_last (ws' := ((wX q cI cZ cJ k V C T B P A n PR ST li w WK so sp CT u.2.2 TA) ++ [(qo, .inl (cJ, 1, .inr (.inl (vp_updL O 0 ((nI u.2.1).toInt64)))))])) hx hb hK hP hD hS 13 2 rfl rfl (by decide) (by decide) rfl dL_below_8 (fun H locs hP hD hS => ?_)
    refine lv_goto (tgt := 15) hx hb dL_below_9 (by decide) ?_
    refine lv_iconst (v := nI 0) hx hb dL_below_15 (ic_0) ?_
    subst hQ
    exact e_i (Sum.inl u) hx hb hr hlocks hS hP hD ⟨rfl, hp⟩ (Nat.le_of_ble_eq_true rfl) (Nat.le_of_ble_eq_true rfl) dL_below_16
theorem hd_L_below : yL_below.cls = RL ∧ yL_below.cls ≠ "java/lang/invoke/MethodHandle" ∧ yL_below.cls ≠ "java/lang/invoke/VarHandle" ∧ (parseMethodDescriptor yL_below.desc).map (fun d => d.parameters.length) = some 3 := by decide +kernel

set_option maxHeartbeats 4000000 in
set_option maxRecDepth 100000 in
theorem c_L_gaps (l : Launch) (hst : l.stackTraces = false) (D : va_G) (q : Nat → Nat) (qo : Nat) (cI cZ cJ : ClassId) (k : Nat) (V : Nat → Nat) (C : Nat → Nat) (T : Nat → Nat) (B : Nat → Nat) (P : Nat → Nat) (A : Nat → Nat) (n : Nat) (PR : Nat → Nat) (ST : Nat → Nat) (li : Nat) (w : Nat) (WK : Nat → Nat) (so : Nat) (sp : Nat) (CT : Nat → Int64) (SC : Nat → Int) (TA : Nat → Nat) (O : Nat → Int64) (sz : Nat) (p0 : Int32) (hk8 : k ≤ 8) (hV : ∀ i, i < k → 1 ≤ V i ∧ V i ≤ 500) (hC : ∀ i, i < k → C i ≤ 60 ∧ T i ≤ C i) : Met l yL_gaps wsL_gaps ({ frames := 8, cells := 1, slots := 6, locals := 134 }) (va_Pc [.ref (q 0), .int p0, .ref qo] (cxN D (ty3 cI cZ cJ) ((wX q cI cZ cJ k V C T B P A n PR ST li w WK so sp CT SC TA) ++ [(qo, .inl (cJ, 1, .inr (.inl O)))]) sz)) (va_Qi (fun r (u : (Nat × (Nat → Int)) ⊕ Nat) => Sum.elim (fun (u : Nat × (Nat → Int)) => r = nI 0 ∧ u.1 < 2001 ∧ p0 = nI u.1) (fun kk => r = nI kk ∧ ((kk = 1 ∧ (¬ rg p0 0 2001)))) u) (bW D (va_A ((wX q cI cZ cJ k V C T B P A n PR ST li w WK so sp CT SC TA) ++ [(qo, .inl (cJ, 1, .inr (.inl O)))]) sz) (fun (u : (Nat × (Nat → Int)) ⊕ Nat) => Sum.elim (fun (u : Nat × (Nat → Int)) => (wX q cI cZ cJ k V C T B P A n PR ST li w WK so sp CT u.2 TA) ++ [(qo, .inl (cJ, 1, .inr (.inl (vp_updL O 0 ((nI (gpR T V k u.1)).toInt64)))))]) (fun _ => (wX q cI cZ cJ k V C T B P A n PR ST li w WK so sp CT SC TA) ++ [(qo, .inl (cJ, 1, .inr (.inl O)))]) u)) (va_A ((wX q cI cZ cJ k V C T B P A n PR ST li w WK so sp CT SC TA) ++ [(qo, .inl (cJ, 1, .inr (.inl O)))]) sz)) 1 6 (va_A ((wX q cI cZ cJ k V C T B P A n PR ST li w WK so sp CT SC TA) ++ [(qo, .inl (cJ, 1, .inr (.inl O)))]) sz) := by
  refine va_MetW (cc := cL_gaps) (maxL := 4) (ret := (some .int)) (by decide) rfl ?_
  intro p e s m args below meth c s₁ BB hml hv
  obtain ⟨hav, ⟨hsz, hP, hK, hD0, hZ, hg⟩, hnc⟩ := hv
  subst hsz
  subst hav
  have hx := BB.exec
  have hb := BB.bytes
  have hr := BB.returns
  have hts := atoms_spec (ws := wsL_gaps) BB.pre
  have htab := vx_table (x := yL_gaps) BB (hts _ List.mem_cons_self)
  have hown : s.vm.findClass RL = some m.cls := findClass_of_methodNamed BB.named
  have hlocks := BB.notSynchronized
  have hD := hD0.self (sz := s.heap.size)
  have hA : ∀ q9 : Nat, s.heap.size ≤ q9 → va_A ((wX q cI cZ cJ k V C T B P A n PR ST li w WK so sp CT SC TA) ++ [(qo, .inl (cJ, 1, .inr (.inl O)))]) s.heap.size q9 := fun _ h => Or.inr h
  have hl := lv_entry ([.ref (q 0), .int p0, .ref qo]) (n := 4) (Nat.le_of_ble_eq_true rfl)
  rw [lg_entry_eq]
  generalize (lg_sl ([.ref (q 0), .int p0, .ref qo]) ++ List.replicate (4 - (lg_sl ([.ref (q 0), .int p0, .ref qo])).length) Slot.unset).toArray = ls at hl ⊢
  have hl : lv_has ls 4 [(0, .ref (q 0)), (1, .int p0), (2, .ref qo)] := hl
  refine W_absR (fun R hR => ?_)
  have hR : R = ({ frames := 8, cells := 1, slots := 6, locals := 134 } : Room) := hR
  refine W_absQ (fun Q hQ => ?_)
  generalize ([.ref (q 0), .int p0, .ref qo] : List Value).toArray = args at hts hQ ⊢
  generalize va_A ((wX q cI cZ cJ k V C T B P A n PR ST li w WK so sp CT SC TA) ++ [(qo, .inl (cJ, 1, .inr (.inl O)))]) s.heap.size = A9 at hD hZ hA hQ
  refine W_start hP (A := A9) (fun H locs hP hS => ?_)
  refine lv_aload_n hx hb dL_gaps_0 rfl (lv_at hl 2 rfl) ?_
  refine lv_iconst (v := nI 0) hx hb dL_gaps_1 (ic_0) ?_
  refine lv_aload_n hx hb dL_gaps_2 rfl (lv_at hl 0 rfl) ?_
  refine lv_iload_n hx hb dL_gaps_3 rfl (lv_at hl 1 rfl) ?_
  refine k3x_i (wa := []) (wc := (wX q cI cZ cJ k V C T B P A n PR ST li w WK so sp CT SC TA)) (wb := [(qo, .inl (cJ, 1, .inr (.inl O)))]) (vx_runV (As := [.int p0]) (rest := [.int (nI 0), .ref qo]) ⟨hx, hb, hml, hown, hts⟩ (c_X0_gaps l hst D q cI cZ cJ k V C T B P A n PR ST li w WK so sp CT SC TA H.size  p0 hk8 hV hC) (cwV 1 hts gL_gaps_X0_gaps rfl rfl rfl hd_X0_gaps ⟨(by rw [hR]; exact Nat.le_of_ble_eq_true rfl), (by rw [hR]; exact Nat.le_of_ble_eq_true rfl)⟩) (pre_V3 (wa := []) (wc := (wX q cI cZ cJ k V C T B P A n PR ST li w WK so sp CT SC TA)) (wb := [(qo, .inl (cJ, 1, .inr (.inl O)))]) hP hK hD hS hA hZ hg 0 (ci := 0) rfl rfl) rfl rfl hl.1 rfl (lv_room (Nat.le_of_ble_eq_true rfl)) dL_gaps_4 ⟨(by rw [hR]; exact Nat.le_of_ble_eq_true rfl), (by rw [hR]; exact Nat.le_of_ble_eq_true rfl)⟩) hP hD hS hA (fun E ce q9 H locs hE hP hD hS h1 h2 h3 => ?_) (fun r u H locs hp hP hD hS => ?_)
  · have hP : va_P D vwCl ((wX q cI cZ cJ k V C T B P A n PR ST li w WK so sp CT SC TA) ++ [(qo, .inl (cJ, 1, .inr (.inl O)))]) H := hP
    have hD : va_D A9 ((wX q cI cZ cJ k V C T B P A n PR ST li w WK so sp CT SC TA) ++ [(qo, .inl (cJ, 1, .inr (.inl O)))]) := hD
    obtain ⟨rfl, hE⟩ := hE
    refine vx_catch (name := eIA) hown [] ⟨0, 9, 12, 13⟩ [] htab (fun z hz => nomatch hz) rfl (by decide) (hts _ (List.mem_of_getElem? (i := 1) rfl)) (hg.2.1.use rfl) h1 h2 h3 ?_
    refine lv_astore_n (lv' := [(3, .ref q9), (0, .ref (q 0)), (1, .int p0), (2, .ref qo)]) hx hb dL_gaps_12 rfl hl (by decide) rfl (fun ls hl => ?_)
    refine lv_iconst (v := nI 1) hx hb dL_gaps_13 (ic_1) ?_
    subst hQ
    exact e_i (Sum.inr 1) hx hb hr hlocks hS hP hD ⟨rfl, ⟨rfl, hE⟩⟩ (Nat.le_of_ble_eq_true rfl) (Nat.le_of_ble_eq_true rfl) dL_gaps_14
  · have hP : va_P D vwCl ((wX q cI cZ cJ k V C T B P A n PR ST li w WK so sp CT u.2 TA) ++ [(qo, .inl (cJ, 1, .inr (.inl O)))]) H := hP
    have hD : va_D A9 ((wX q cI cZ cJ k V C T B P A n PR ST li w WK so sp CT u.2 TA) ++ [(qo, .inl (cJ, 1, .inr (.inl O)))]) := hD
    obtain ⟨rfl, hp⟩ := hp
    refine lv_i2l hx hb dL_gaps_7 rfl ?_
    refine n_last (ws' := ((wX q cI cZ cJ k V C T B P A n PR ST li w WK so sp CT u.2 TA) ++ [(qo, .inl (cJ, 1, .inr (.inl (vp_updL O 0 ((nI (gpR T V k u.1)).toInt64)))))])) hx hb hK hP hD hS 13 2 rfl rfl (by decide) (by decide) rfl dL_gaps_8 (fun H locs hP hD hS => ?_)
    refine lv_goto (tgt := 15) hx hb dL_gaps_9 (by decide) ?_
    refine lv_iconst (v := nI 0) hx hb dL_gaps_15 (ic_0) ?_
    subst hQ
    exact e_i (Sum.inl u) hx hb hr hlocks hS hP hD ⟨rfl, hp⟩ (Nat.le_of_ble_eq_true rfl) (Nat.le_of_ble_eq_true rfl) dL_gaps_16
theorem hd_L_gaps : yL_gaps.cls = RL ∧ yL_gaps.cls ≠ "java/lang/invoke/MethodHandle" ∧ yL_gaps.cls ≠ "java/lang/invoke/VarHandle" ∧ (parseMethodDescriptor yL_gaps.desc).map (fun d => d.parameters.length) = some 3 := by decide +kernel

set_option maxHeartbeats 4000000 in
set_option maxRecDepth 100000 in
theorem c_L_audit (l : Launch) (hst : l.stackTraces = false) (D : va_G) (q : Nat → Nat) (qo : Nat) (cI cZ cJ : ClassId) (k : Nat) (V : Nat → Nat) (C : Nat → Nat) (T : Nat → Nat) (B : Nat → Nat) (P : Nat → Nat) (A : Nat → Nat) (n : Nat) (PR : Nat → Nat) (ST : Nat → Nat) (li : Nat) (w : Nat) (WK : Nat → Nat) (so : Nat) (sp : Nat) (CT : Nat → Int64) (SC : Nat → Int) (TA : Nat → Nat) (O : Nat → Int64) (sz : Nat) (p0 : Int32) : Met l yL_audit wsL_audit ({ frames := 7, cells := 1, slots := 6, locals := 111 }) (va_Pc [.ref (q 0), .int p0, .ref qo] (cxN D (ty3 cI cZ cJ) ((wX q cI cZ cJ k V C T B P A n PR ST li w WK so sp CT SC TA) ++ [(qo, .inl (cJ, 1, .inr (.inl O)))]) sz)) (va_Qi (fun r (u : Nat ⊕ Nat) => Sum.elim (fun (u : Nat) => r = nI 0 ∧ u < 10 ∧ p0 = nI u) (fun kk => r = nI kk ∧ ((kk = 1 ∧ (¬ rg p0 0 10)))) u) (bW D (va_A ((wX q cI cZ cJ k V C T B P A n PR ST li w WK so sp CT SC TA) ++ [(qo, .inl (cJ, 1, .inr (.inl O)))]) sz) (fun (u : Nat ⊕ Nat) => Sum.elim (fun (u : Nat) => (wX q cI cZ cJ k V C T B P A n PR ST li w WK so sp CT SC TA) ++ [(qo, .inl (cJ, 1, .inr (.inl (vp_updL O 0 (CT u)))))]) (fun _ => (wX q cI cZ cJ k V C T B P A n PR ST li w WK so sp CT SC TA) ++ [(qo, .inl (cJ, 1, .inr (.inl O)))]) u)) (va_A ((wX q cI cZ cJ k V C T B P A n PR ST li w WK so sp CT SC TA) ++ [(qo, .inl (cJ, 1, .inr (.inl O)))]) sz)) 1 6 (va_A ((wX q cI cZ cJ k V C T B P A n PR ST li w WK so sp CT SC TA) ++ [(qo, .inl (cJ, 1, .inr (.inl O)))]) sz) := by
  refine va_MetW (cc := cL_audit) (maxL := 4) (ret := (some .int)) (by decide) rfl ?_
  intro p e s m args below meth c s₁ BB hml hv
  obtain ⟨hav, ⟨hsz, hP, hK, hD0, hZ, hg⟩, hnc⟩ := hv
  subst hsz
  subst hav
  have hx := BB.exec
  have hb := BB.bytes
  have hr := BB.returns
  have hts := atoms_spec (ws := wsL_audit) BB.pre
  have htab := vx_table (x := yL_audit) BB (hts _ List.mem_cons_self)
  have hown : s.vm.findClass RL = some m.cls := findClass_of_methodNamed BB.named
  have hlocks := BB.notSynchronized
  have hD := hD0.self (sz := s.heap.size)
  have hA : ∀ q9 : Nat, s.heap.size ≤ q9 → va_A ((wX q cI cZ cJ k V C T B P A n PR ST li w WK so sp CT SC TA) ++ [(qo, .inl (cJ, 1, .inr (.inl O)))]) s.heap.size q9 := fun _ h => Or.inr h
  have hl := lv_entry ([.ref (q 0), .int p0, .ref qo]) (n := 4) (Nat.le_of_ble_eq_true rfl)
  rw [lg_entry_eq]
  generalize (lg_sl ([.ref (q 0), .int p0, .ref qo]) ++ List.replicate (4 - (lg_sl ([.ref (q 0), .int p0, .ref qo])).length) Slot.unset).toArray = ls at hl ⊢
  have hl : lv_has ls 4 [(0, .ref (q 0)), (1, .int p0), (2, .ref qo)] := hl
  refine W_absR (fun R hR => ?_)
  have hR : R = ({ frames := 7, cells := 1, slots := 6, locals := 111 } : Room) := hR
  refine W_absQ (fun Q hQ => ?_)
  generalize ([.ref (q 0), .int p0, .ref qo] : List Value).toArray = args at hts hQ ⊢
  generalize va_A ((wX q cI cZ cJ k V C T B P A n PR ST li w WK so sp CT SC TA) ++ [(qo, .inl (cJ, 1, .inr (.inl O)))]) s.heap.size = A9 at hD hZ hA hQ
  refine W_start hP (A := A9) (fun H locs hP hS => ?_)
  refine lv_aload_n hx hb dL_audit_0 rfl (lv_at hl 2 rfl) ?_
  refine lv_iconst (v := nI 0) hx hb dL_audit_1 (ic_0) ?_
  refine lv_aload_n hx hb dL_audit_2 rfl (lv_at hl 0 rfl) ?_
  refine lv_iload_n hx hb dL_audit_3 rfl (lv_at hl 1 rfl) ?_
  refine k3x_l (wa := []) (wc := (wX q cI cZ cJ k V C T B P A n PR ST li w WK so sp CT SC TA)) (wb := [(qo, .inl (cJ, 1, .inr (.inl O)))]) (vx_runV (As := [.int p0]) (rest := [.int (nI 0), .ref qo]) ⟨hx, hb, hml, hown, hts⟩ (c_X0_audit l hst D q cI cZ cJ k V C T B P A n PR ST li w WK so sp CT SC TA H.size  p0 ) (cwV 1 hts gL_audit_X0_audit rfl rfl rfl hd_X0_audit ⟨(by rw [hR]; exact Nat.le_of_ble_eq_true rfl), (by rw [hR]; exact Nat.le_of_ble_eq_true rfl)⟩) (pre_V3 (wa := []) (wc := (wX q cI cZ cJ k V C T B P A n PR ST li w WK so sp CT SC TA)) (wb := [(qo, .inl (cJ, 1, .inr (.inl O)))]) hP hK hD hS hA hZ hg 0 (ci := 0) rfl rfl) rfl rfl hl.1 rfl (lv_room (Nat.le_of_ble_eq_true rfl)) dL_audit_4 ⟨(by rw [hR]; exact Nat.le_of_ble_eq_true rfl), (by rw [hR]; exact Nat.le_of_ble_eq_true rfl)⟩) hP hD hS hA (fun E ce q9 H locs hE hP hD hS h1 h2 h3 => ?_) (fun r u H locs hp hP hD hS => ?_)
  · have hP : va_P D vwCl ((wX q cI cZ cJ k V C T B P A n PR ST li w WK so sp CT SC TA) ++ [(qo, .inl (cJ, 1, .inr (.inl O)))]) H := hP
    have hD : va_D A9 ((wX q cI cZ cJ k V C T B P A n PR ST li w WK so sp CT SC TA) ++ [(qo, .inl (cJ, 1, .inr (.inl O)))]) := hD
    obtain ⟨rfl, hE⟩ := hE
    refine vx_catch (name := eIB) hown [] ⟨0, 8, 11, 20⟩ [] htab (fun z hz => nomatch hz) rfl (by decide) (hts _ (List.mem_of_getElem? (i := 1) rfl)) (hg.2.2.2.1.use rfl) h1 h2 h3 ?_
    refine lv_astore_n (lv' := [(3, .ref q9), (0, .ref (q 0)), (1, .int p0), (2, .ref qo)]) hx hb dL_audit_11 rfl hl (by decide) rfl (fun ls hl => ?_)
    refine lv_iconst (v := nI 1) hx hb dL_audit_12 (ic_1) ?_
    subst hQ
    exact e_i (Sum.inr 1) hx hb hr hlocks hS hP hD ⟨rfl, ⟨rfl, hE⟩⟩ (Nat.le_of_ble_eq_true rfl) (Nat.le_of_ble_eq_true rfl) dL_audit_13
  · have hP : va_P D vwCl ((wX q cI cZ cJ k V C T B P A n PR ST li w WK so sp CT SC TA) ++ [(qo, .inl (cJ, 1, .inr (.inl O)))]) H := hP
    have hD : va_D A9 ((wX q cI cZ cJ k V C T B P A n PR ST li w WK so sp CT SC TA) ++ [(qo, .inl (cJ, 1, .inr (.inl O)))]) := hD
    obtain ⟨rfl, hp⟩ := hp
    refine n_last (ws' := ((wX q cI cZ cJ k V C T B P A n PR ST li w WK so sp CT SC TA) ++ [(qo, .inl (cJ, 1, .inr (.inl (vp_updL O 0 (CT u)))))])) hx hb hK hP hD hS 13 2 rfl rfl (by decide) (by decide) rfl dL_audit_7 (fun H locs hP hD hS => ?_)
    refine lv_goto (tgt := 14) hx hb dL_audit_8 (by decide) ?_
    refine lv_iconst (v := nI 0) hx hb dL_audit_14 (ic_0) ?_
    subst hQ
    exact e_i (Sum.inl u) hx hb hr hlocks hS hP hD ⟨rfl, hp⟩ (Nat.le_of_ble_eq_true rfl) (Nat.le_of_ble_eq_true rfl) dL_audit_15
theorem hd_L_audit : yL_audit.cls = RL ∧ yL_audit.cls ≠ "java/lang/invoke/MethodHandle" ∧ yL_audit.cls ≠ "java/lang/invoke/VarHandle" ∧ (parseMethodDescriptor yL_audit.desc).map (fun d => d.parameters.length) = some 3 := by decide +kernel
