set_option maxHeartbeats 4000000 in
set_option maxRecDepth 100000 in
theorem c_X0_hasKindOfValue (l : Launch) (hst : l.stackTraces = false) (D : va_G) (q : Nat → Nat) (cI cZ cJ : ClassId) (k : Nat) (V : Nat → Nat) (C : Nat → Nat) (T : Nat → Nat) (B : Nat → Nat) (P : Nat → Nat) (A : Nat → Nat) (n : Nat) (PR : Nat → Nat) (ST : Nat → Nat) (li : Nat) (w : Nat) (WK : Nat → Nat) (so : Nat) (sp : Nat) (CT : Nat → Int64) (SC : Nat → Int) (TA : Nat → Nat) (sz : Nat) (va : Nat) (hk8 : k ≤ 8) (hV : ∀ i, i < k → 1 ≤ V i ∧ V i ≤ 500) (hva : va ≤ 500) : Met l yX0_hasKindOfValue wsX0_hasKindOfValue ({ frames := 0, cells := 0, slots := 0, locals := 0 }) (va_Pc [.ref (q 0), .int (nI va)] (cxP D (ty3 cI cZ cJ) (wX q cI cZ cJ k V C T B P A n PR ST li w WK so sp CT SC TA) sz)) (va_Qi (fun r (_ : Unit) => r = nI (b1 (∃ i, i < k ∧ V i = va))) (bW D (va_A (wX q cI cZ cJ k V C T B P A n PR ST li w WK so sp CT SC TA) sz) (fun (_ : Unit) => (wX q cI cZ cJ k V C T B P A n PR ST li w WK so sp CT SC TA))) (va_A (wX q cI cZ cJ k V C T B P A n PR ST li w WK so sp CT SC TA) sz)) 0 0 (va_A (wX q cI cZ cJ k V C T B P A n PR ST li w WK so sp CT SC TA) sz) := by
  refine Met.ofW (cc := cX0_hasKindOfValue) (maxL := 3) (ret := (some .boolean)) (by decide) rfl ?_
  intro p e s m args below meth c s₁ BB hml hv
  obtain ⟨hav, hsz, hP, hK, hD0, hZ, hg⟩ := hv
  subst hsz
  subst hav
  have hx := BB.exec
  have hb := BB.bytes
  have hr := BB.returns
  have hts := atoms_spec (ws := wsX0_hasKindOfValue) BB.pre
  have hown : s.vm.findClass RX0 = some m.cls := findClass_of_methodNamed BB.named
  have hlocks := BB.notSynchronized
  have hin : ∀ w ∈ wsX00, w ∈ wsX0_hasKindOfValue := fun w h => (List.mem_cons_of_mem _ (List.mem_append_right _ h))
  have hD := hD0.self (sz := s.heap.size)
  have hA : ∀ q9 : Nat, s.heap.size ≤ q9 → va_A (wX q cI cZ cJ k V C T B P A n PR ST li w WK so sp CT SC TA) s.heap.size q9 := fun _ h => Or.inr h
  have hl := lv_entry ([.ref (q 0), .int (nI va)]) (n := 3) (Nat.le_of_ble_eq_true rfl)
  rw [lg_entry_eq]
  generalize (lg_sl ([.ref (q 0), .int (nI va)]) ++ List.replicate (3 - (lg_sl ([.ref (q 0), .int (nI va)])).length) Slot.unset).toArray = ls at hl ⊢
  have hl : lv_has ls 3 [(0, .ref (q 0)), (1, .int (nI va))] := hl
  refine W_absR (fun R hR => ?_)
  have hR : R = ({ frames := 0, cells := 0, slots := 0, locals := 0 } : Room) := hR
  refine W_absQ (fun Q hQ => ?_)
  generalize ([.ref (q 0), .int (nI va)] : List Value).toArray = args at hts hQ ⊢
  generalize va_A (wX q cI cZ cJ k V C T B P A n PR ST li w WK so sp CT SC TA) s.heap.size = A9 at hD hZ hA hQ
  refine W_start hP (A := A9) (fun H locs hP hS => ?_)
  refine lv_iconst (v := nI 0) hx hb dX0_hasKindOfValue_0 (ic_0) ?_
  refine lv_istore_n (lv' := [(2, .int (nI 0)), (0, .ref (q 0)), (1, .int (nI va))]) hx hb dX0_hasKindOfValue_1 rfl hl (by decide) rfl (fun ls hl => ?_)
  have lp_2 : ∀ (fu_2 : Nat) (i : Nat), k - i < fu_2 → (i ≤ k) → (∀ j, j < i → V j ≠ va) → ∀ (H : Heap) (locs : List Loc), va_P D vwCl (wX q cI cZ cJ k V C T B P A n PR ST li w WK so sp CT SC TA) H → va_D A9 (wX q cI cZ cJ k V C T B P A n PR ST li w WK so sp CT SC TA) → va_S A9 s.heap H locs → ∀ ls : Array Slot, lv_has ls 3 [(2, .int (nI i)), (0, .ref (q 0)), (1, .int (nI va))] → W p l e R s m args below meth c H locs 0 0 Q (F0 m 2 ls []) := by
    intro fu_2
    induction fu_2 with
    | zero =>
      intro i hfu_2
      exact absurd hfu_2 (Nat.not_lt_zero _)
    | succ fu_2 ih_2 =>
      intro i hfu_2 hi hs H locs hP hD hS ls hl
      refine lv_iload_n hx hb dX0_hasKindOfValue_2 rfl (lv_at hl 0 rfl) ?_
      refine lv_aload_n hx hb dX0_hasKindOfValue_3 rfl (lv_at hl 1 rfl) ?_
      refine gfX hx hb hts hin hown hK hP 0 (by decide) (List.mem_of_getElem? (i := 1) rfl) rfl rfl dX0_hasKindOfValue_4 ?_
      refine n_icmp_ge (tgt := 28) hx hb (by omega) (by omega) dX0_hasKindOfValue_7 (by decide) (fun c7 => ?_) (fun c7 => ?_)
      · refine lv_iconst (v := nI 0) hx hb dX0_hasKindOfValue_28 (ic_0) ?_
        subst hQ
        exact e_z () hx hb hr hlocks hS (by omega) hP hD (congrArg nI (b1_n (fun ⟨j, h1, h2⟩ => hs j (by omega) h2)).symm) (Nat.le_of_ble_eq_true rfl) (Nat.le_of_ble_eq_true rfl) dX0_hasKindOfValue_29
      · refine lv_aload_n hx hb dX0_hasKindOfValue_10 rfl (lv_at hl 1 rfl) ?_
        refine gfX hx hb hts hin hown hK hP 1 (by decide) (List.mem_of_getElem? (i := 2) rfl) rfl rfl dX0_hasKindOfValue_11 ?_
        refine lv_iload_n hx hb dX0_hasKindOfValue_14 rfl (lv_at hl 0 rfl) ?_
        refine n_iald hx hb hK hP 1 0 rfl rfl (by omega) (by decide) dX0_hasKindOfValue_15 ?_
        refine lv_iload_n hx hb dX0_hasKindOfValue_16 rfl (lv_at hl 2 rfl) ?_
        refine n_icmp_ne (tgt := 22) hx hb (by have := hV i (by omega); omega) (by omega) dX0_hasKindOfValue_17 (by decide) (fun c17 => ?_) (fun c17 => ?_)
        · refine lv_iinc (v := nI (i + 1)) (lv' := [(2, .int (nI (i + 1))), (0, .ref (q 0)), (1, .int (nI va))]) hx hb dX0_hasKindOfValue_22 hl (k := 0) rfl (ni_inc _ 1) (by decide) rfl (fun ls hl => ?_)
          refine lv_goto (tgt := 2) hx hb dX0_hasKindOfValue_25 (by decide) ?_
          exact ih_2 (i + 1) (by omega) (by omega) (fun j hj => by rcases Nat.lt_or_ge j i with h | h; exact hs j h; (rw [show j = i by omega]; exact c17)) _ _ hP hD hS ls (lv_sub hl [0, 1, 2] rfl)
        · refine lv_iconst (v := nI 1) hx hb dX0_hasKindOfValue_20 (ic_1) ?_
          subst hQ
          exact e_z () hx hb hr hlocks hS (by omega) hP hD (congrArg nI (b1_y ⟨i, by omega, c17⟩).symm) (Nat.le_of_ble_eq_true rfl) (Nat.le_of_ble_eq_true rfl) dX0_hasKindOfValue_21
  exact lp_2 _ 0 (Nat.lt_succ_self _) (by omega) (fun j hj => absurd hj (Nat.not_lt_zero j)) _ _ hP hD hS ls (lv_sub hl [0, 1, 2] rfl)
theorem hd_X0_hasKindOfValue : yX0_hasKindOfValue.cls = RX0 ∧ yX0_hasKindOfValue.cls ≠ "java/lang/invoke/MethodHandle" ∧ yX0_hasKindOfValue.cls ≠ "java/lang/invoke/VarHandle" ∧ (parseMethodDescriptor yX0_hasKindOfValue.desc).map (fun d => d.parameters.length) = some 1 := by decide +kernel

set_option maxHeartbeats 4000000 in
set_option maxRecDepth 100000 in
theorem c_X0_addKind (l : Launch) (hst : l.stackTraces = false) (D : va_G) (q : Nat → Nat) (cI cZ cJ : ClassId) (k : Nat) (V : Nat → Nat) (C : Nat → Nat) (T : Nat → Nat) (B : Nat → Nat) (P : Nat → Nat) (A : Nat → Nat) (n : Nat) (PR : Nat → Nat) (ST : Nat → Nat) (li : Nat) (w : Nat) (WK : Nat → Nat) (so : Nat) (sp : Nat) (CT : Nat → Int64) (SC : Nat → Int) (TA : Nat → Nat) (sz : Nat) (p0 : Int32) (p1 : Int32) (hk8 : k ≤ 8) (hV : ∀ i, i < k → 1 ≤ V i ∧ V i ≤ 500) : vx_Met l yX0_addKind wsX0_addKind ({ frames := 6, cells := 1, slots := 6, locals := 90 }) (va_Pc [.ref (q 0), .int p0, .int p1] (cxP D (ty3 cI cZ cJ) (wX q cI cZ cJ k V C T B P A n PR ST li w WK so sp CT SC TA) sz)) (va_Qi (fun r (u : Nat × Nat) => r = nI k ∧ 1 ≤ u.1 ∧ u.1 < 501 ∧ u.2 < 61 ∧ p0 = nI u.1 ∧ p1 = nI u.2 ∧ k < 8 ∧ ¬ ∃ i, i < k ∧ V i = u.1) (bW D (va_A (wX q cI cZ cJ k V C T B P A n PR ST li w WK so sp CT SC TA) sz) (fun u => (wX q cI cZ cJ (k + 1) (un V k u.1) (un C k u.2) T B P (un A k 1) n PR ST li w WK so sp CT SC TA))) (va_A (wX q cI cZ cJ k V C T B P A n PR ST li w WK so sp CT SC TA) sz)) (xX D (fun E => (E = eIA ∧ ¬ (rg p0 1 501 ∧ rg p1 0 61)) ∨ (E = eIS ∧ (rg p0 1 501 ∧ rg p1 0 61) ∧ (¬ k < 8 ∨ ∃ i, i < k ∧ nI (V i) = p0))) (wX q cI cZ cJ k V C T B P A n PR ST li w WK so sp CT SC TA) (va_A (wX q cI cZ cJ k V C T B P A n PR ST li w WK so sp CT SC TA) sz)) 1 6 (va_A (wX q cI cZ cJ k V C T B P A n PR ST li w WK so sp CT SC TA) sz) := by
  refine vx_ofW (cc := cX0_addKind) (maxL := 3) (ret := (some .int)) (by decide) rfl ?_
  intro p e s m args below meth c s₁ BB hml hout hv
  obtain ⟨hav, hsz, hP, hK, hD0, hZ, hg⟩ := hv
  subst hsz
  subst hav
  have hx := BB.exec
  have hb := BB.bytes
  have hr := BB.returns
  have hts := atoms_spec (ws := wsX0_addKind) BB.pre
  have hown : s.vm.findClass RX0 = some m.cls := findClass_of_methodNamed BB.named
  have hlocks := BB.notSynchronized
  have hin : ∀ w ∈ wsX00, w ∈ wsX0_addKind := fun w h => (List.mem_cons_of_mem _ (List.mem_append_left _ (List.mem_append_left _ (List.mem_append_right _ h))))
  have hD := hD0.self (sz := s.heap.size)
  have hA : ∀ q9 : Nat, s.heap.size ≤ q9 → va_A (wX q cI cZ cJ k V C T B P A n PR ST li w WK so sp CT SC TA) s.heap.size q9 := fun _ h => Or.inr h
  have hl := lv_entry ([.ref (q 0), .int p0, .int p1]) (n := 3) (Nat.le_of_ble_eq_true rfl)
  rw [lg_entry_eq]
  generalize (lg_sl ([.ref (q 0), .int p0, .int p1]) ++ List.replicate (3 - (lg_sl ([.ref (q 0), .int p0, .int p1])).length) Slot.unset).toArray = ls at hl ⊢
  have hl : lv_has ls 3 [(0, .ref (q 0)), (1, .int p0), (2, .int p1)] := hl
  refine W_absR (fun R hR => ?_)
  have hR : R = ({ frames := 6, cells := 1, slots := 6, locals := 90 } : Room) := hR
  refine W_absQ (fun Q hQ => ?_)
  generalize ([.ref (q 0), .int p0, .int p1] : List Value).toArray = args at hts hQ ⊢
  generalize va_A (wX q cI cZ cJ k V C T B P A n PR ST li w WK so sp CT SC TA) s.heap.size = A9 at hD hZ hA hQ
  refine W_start hP (A := A9) (fun H locs hP hS => ?_)
  refine lv_iload_n hx hb dX0_addKind_0 rfl (lv_at hl 1 rfl) ?_
  refine lv_iconst (v := nI 1) hx hb dX0_addKind_1 (ic_1) ?_
  refine lv_icmp_lt (tgt := 12) hx hb dX0_addKind_2 (by decide) (fun c2 => ?_) (fun c2 => ?_)
  · have hno : ¬ rg p0 1 501 := by rw [rg_iff (by omega)]; simp only [Int32.lt_iff_toInt_lt, Int32.le_iff_toInt_le, Int32.toInt_zero, nI_toInt (show 1 < 2 ^ 31 by omega)] at c2; omega
    subst hQ
    exact k_throw hx hb hst (cls := eIA) hown (by decide +kernel) (hts _ (List.mem_of_getElem? (i := 1) rfl)) (hts _ (List.mem_of_getElem? (i := 2) rfl)) (hg.1 (69, "value is not 1 to 500") (by decide)) (k_hat (fun w h => hts w (List.mem_cons_of_mem _ (List.mem_append_left _ (List.mem_append_right _ h)))) (by decide +kernel) hg.2.1 hg) (by decide +kernel) hZ hS (hl.1.trans hml.symm) dX0_addKind_12 dX0_addKind_15 dX0_addKind_16 dX0_addKind_18 dX0_addKind_21 hout (by rw [hR]; exact Nat.le_of_ble_eq_true rfl) (by rw [hR]; exact Nat.le_of_ble_eq_true rfl) (by rw [hR]; exact Nat.le_of_ble_eq_true rfl) (by rw [hR]; exact Nat.le_of_ble_eq_true rfl) hlocks hP hD (Or.inl ⟨rfl, fun z => hno z.1⟩) (Nat.le_of_ble_eq_true rfl) (Nat.le_of_ble_eq_true rfl)
  · refine lv_iload_n hx hb dX0_addKind_5 rfl (lv_at hl 1 rfl) ?_
    refine lv_sipush (v := nI 500) hx hb dX0_addKind_6 (by decide) ?_
    refine lv_icmp_le (tgt := 22) hx hb dX0_addKind_9 (by decide) (fun c9 => ?_) (fun c9 => ?_)
    · obtain ⟨j0, j0a, j0b, rfl⟩ : rg p0 1 501 := by rw [rg_iff (by omega)]; simp only [Int32.lt_iff_toInt_lt, Int32.le_iff_toInt_le, Int32.toInt_zero, nI_toInt (show 1 < 2 ^ 31 by omega), nI_toInt (show 500 < 2 ^ 31 by omega)] at c2 c9; omega
      refine lv_iload_n hx hb dX0_addKind_22 rfl (lv_at hl 2 rfl) ?_
      refine lv_if_lt (tgt := 32) hx hb dX0_addKind_23 (by decide) (fun c23 => ?_) (fun c23 => ?_)
      · have hno : ¬ rg p1 0 61 := by rw [rg_iff (by omega)]; simp only [Int32.lt_iff_toInt_lt, Int32.le_iff_toInt_le, Int32.toInt_zero] at c23; omega
        subst hQ
        exact k_throw hx hb hst (cls := eIA) hown (by decide +kernel) (hts _ (List.mem_of_getElem? (i := 1) rfl)) (hts _ (List.mem_of_getElem? (i := 2) rfl)) (hg.1 (74, "capacity is not 0 to 60") (by decide)) (k_hat (fun w h => hts w (List.mem_cons_of_mem _ (List.mem_append_left _ (List.mem_append_right _ h)))) (by decide +kernel) hg.2.1 hg) (by decide +kernel) hZ hS (hl.1.trans hml.symm) dX0_addKind_32 dX0_addKind_35 dX0_addKind_36 dX0_addKind_38 dX0_addKind_41 hout (by rw [hR]; exact Nat.le_of_ble_eq_true rfl) (by rw [hR]; exact Nat.le_of_ble_eq_true rfl) (by rw [hR]; exact Nat.le_of_ble_eq_true rfl) (by rw [hR]; exact Nat.le_of_ble_eq_true rfl) hlocks hP hD (Or.inl ⟨rfl, fun z => hno z.2⟩) (Nat.le_of_ble_eq_true rfl) (Nat.le_of_ble_eq_true rfl)
      · refine lv_iload_n hx hb dX0_addKind_26 rfl (lv_at hl 2 rfl) ?_
        refine lv_bipush (v := nI 60) hx hb dX0_addKind_27 (by decide) ?_
        refine lv_icmp_le (tgt := 42) hx hb dX0_addKind_29 (by decide) (fun c29 => ?_) (fun c29 => ?_)
        · obtain ⟨j1, j1a, j1b, rfl⟩ : rg p1 0 61 := by rw [rg_iff (by omega)]; simp only [Int32.lt_iff_toInt_lt, Int32.le_iff_toInt_le, Int32.toInt_zero, nI_toInt (show 60 < 2 ^ 31 by omega)] at c23 c29; omega
          refine lv_aload_n hx hb dX0_addKind_42 rfl (lv_at hl 0 rfl) ?_
          refine gfX hx hb hts hin hown hK hP 0 (by decide) (List.mem_of_getElem? (i := 5) rfl) rfl rfl dX0_addKind_43 ?_
          refine lv_bipush (v := nI 8) hx hb dX0_addKind_46 (by decide) ?_
          refine n_icmp_lt (tgt := 61) hx hb (by omega) (by omega) dX0_addKind_48 (by decide) (fun c48 => ?_) (fun c48 => ?_)
          · refine lv_aload_n hx hb dX0_addKind_61 rfl (lv_at hl 0 rfl) ?_
            refine lv_iload_n hx hb dX0_addKind_62 rfl (lv_at hl 1 rfl) ?_
            refine k_i (va_runV (As := [.int (nI j0)]) (rest := []) ⟨hx, hb, hml, hown, hts⟩ (c_X0_hasKindOfValue l hst D q cI cZ cJ k V C T B P A n PR ST li w WK so sp CT SC TA H.size j0 hk8 hV (by omega)) (cwV 1 hts gX0_addKind_X0_hasKindOfValue rfl rfl rfl hd_X0_hasKindOfValue ⟨(by rw [hR]; exact Nat.le_of_ble_eq_true rfl), (by rw [hR]; exact Nat.le_of_ble_eq_true rfl)⟩) (pre_V hP hK hD hS hA hZ hg 0 (ci := 0) rfl rfl) rfl rfl hl.1 rfl (lv_room (Nat.le_of_ble_eq_true rfl)) dX0_addKind_63 ⟨(by rw [hR]; exact Nat.le_of_ble_eq_true rfl), (by rw [hR]; exact Nat.le_of_ble_eq_true rfl)⟩) hD hS hA (fun r_2 u_1 H locs hp_3 hP hD hS => ?_)
            subst hp_3
            refine n_if_eq (tgt := 79) hx hb (by have := b1_le (∃ i, i < k ∧ V i = j0); omega) dX0_addKind_66 (by decide) (fun c66 => ?_) (fun c66 => ?_)
            · have hnex : ¬ ∃ i, i < k ∧ V i = j0 := fun h => by rw [b1_y h] at c66; omega
              refine lv_aload_n hx hb dX0_addKind_79 rfl (lv_at hl 0 rfl) ?_
              refine gfX hx hb hts hin hown hK hP 1 (by decide) (List.mem_of_getElem? (i := 6) rfl) rfl rfl dX0_addKind_80 ?_
              refine lv_aload_n hx hb dX0_addKind_83 rfl (lv_at hl 0 rfl) ?_
              refine gfX hx hb hts hin hown hK hP 0 (by decide) (List.mem_of_getElem? (i := 5) rfl) rfl rfl dX0_addKind_84 ?_
              refine lv_iload_n hx hb dX0_addKind_87 rfl (lv_at hl 1 rfl) ?_
              refine n_iast (ws' := (wX q cI cZ cJ k (un V k j0) C T B P A n PR ST li w WK so sp CT SC TA)) hx hb hK hP hD hS 1 0 rfl rfl (by omega) (by decide) rfl dX0_addKind_88 (fun H locs hP hD hS => ?_)
              refine lv_aload_n hx hb dX0_addKind_89 rfl (lv_at hl 0 rfl) ?_
              refine gfX hx hb hts hin hown hK hP 2 (by decide) (List.mem_of_getElem? (i := 7) rfl) rfl rfl dX0_addKind_90 ?_
              refine lv_aload_n hx hb dX0_addKind_93 rfl (lv_at hl 0 rfl) ?_
              refine gfX hx hb hts hin hown hK hP 0 (by decide) (List.mem_of_getElem? (i := 5) rfl) rfl rfl dX0_addKind_94 ?_
              refine lv_iload_n hx hb dX0_addKind_97 rfl (lv_at hl 2 rfl) ?_
              refine n_iast (ws' := (wX q cI cZ cJ k (un V k j0) (un C k j1) T B P A n PR ST li w WK so sp CT SC TA)) hx hb hK hP hD hS 2 0 rfl rfl (by omega) (by decide) rfl dX0_addKind_98 (fun H locs hP hD hS => ?_)
              refine lv_aload_n hx hb dX0_addKind_99 rfl (lv_at hl 0 rfl) ?_
              refine gfX hx hb hts hin hown hK hP 6 (by decide) (List.mem_of_getElem? (i := 8) rfl) rfl rfl dX0_addKind_100 ?_
              refine lv_aload_n hx hb dX0_addKind_103 rfl (lv_at hl 0 rfl) ?_
              refine gfX hx hb hts hin hown hK hP 0 (by decide) (List.mem_of_getElem? (i := 5) rfl) rfl rfl dX0_addKind_104 ?_
              refine lv_iconst (v := nI 1) hx hb dX0_addKind_107 (ic_1) ?_
              refine n_zast (ws' := (wX q cI cZ cJ k (un V k j0) (un C k j1) T B P (un A k 1) n PR ST li w WK so sp CT SC TA)) hx hb hK hP hD hS 6 1 rfl rfl (by omega) (by omega) (by decide) rfl dX0_addKind_108 (fun H locs hP hD hS => ?_)
              refine lv_aload_n hx hb dX0_addKind_109 rfl (lv_at hl 0 rfl) ?_
              refine lv_dup hx hb dX0_addKind_110 rfl ?_
              refine gfX hx hb hts hin hown hK hP 0 (by decide) (List.mem_of_getElem? (i := 5) rfl) rfl rfl dX0_addKind_111 ?_
              refine lv_iconst (v := nI 1) hx hb dX0_addKind_114 (ic_1) ?_
              refine n_iadd hx hb dX0_addKind_115 ?_
              refine pfX (ws' := (wX q cI cZ cJ (k + 1) (un V k j0) (un C k j1) T B P (un A k 1) n PR ST li w WK so sp CT SC TA)) hx hb hts hin hown hK hP hD hS 0 (by decide) (List.mem_of_getElem? (i := 5) rfl) rfl ⟨rfl, rfl⟩ rfl rfl dX0_addKind_116 (fun H locs hP hD hS => ?_)
              refine lv_aload_n hx hb dX0_addKind_119 rfl (lv_at hl 0 rfl) ?_
              refine gfX hx hb hts hin hown hK hP 0 (by decide) (List.mem_of_getElem? (i := 5) rfl) rfl rfl dX0_addKind_120 ?_
              refine lv_iconst (v := nI 1) hx hb dX0_addKind_123 (ic_1) ?_
              refine n_isub hx hb (by omega) dX0_addKind_124 ?_
              refine n_top (congrArg nI (show (k + 1) - 1 = k by omega)) ?_
              subst hQ
              exact vx_ret (e_i (j0, j1) hx hb hr hlocks hS hP hD (⟨rfl, j0a, j0b, j1b, rfl, rfl, by omega, hnex⟩) (Nat.le_of_ble_eq_true rfl) (Nat.le_of_ble_eq_true rfl) dX0_addKind_125)
            · have hex : ∃ i, i < k ∧ nI (V i) = nI j0 := by rcases Classical.em (∃ i, i < k ∧ V i = j0) with ⟨i, h1, h2⟩ | h; exact ⟨i, h1, by rw [h2]⟩; exact absurd (b1_n h) c66
              subst hQ
              exact k_throw hx hb hst (cls := eIS) hown (by decide +kernel) (hts _ (List.mem_of_getElem? (i := 3) rfl)) (hts _ (List.mem_of_getElem? (i := 4) rfl)) (hg.1 (85, "a kind has this value") (by decide)) (k_hat (fun w h => hts w (List.mem_cons_of_mem _ (List.mem_append_right _ h))) (by decide +kernel) hg.2.2.1 hg) (by decide +kernel) hZ hS (hl.1.trans hml.symm) dX0_addKind_69 dX0_addKind_72 dX0_addKind_73 dX0_addKind_75 dX0_addKind_78 hout (by rw [hR]; exact Nat.le_of_ble_eq_true rfl) (by rw [hR]; exact Nat.le_of_ble_eq_true rfl) (by rw [hR]; exact Nat.le_of_ble_eq_true rfl) (by rw [hR]; exact Nat.le_of_ble_eq_true rfl) hlocks hP hD (Or.inr ⟨rfl, ⟨⟨j0, j0a, j0b, rfl⟩, ⟨j1, j1a, j1b, rfl⟩⟩, Or.inr hex⟩) (Nat.le_of_ble_eq_true rfl) (Nat.le_of_ble_eq_true rfl)
          · subst hQ
            exact k_throw hx hb hst (cls := eIS) hown (by decide +kernel) (hts _ (List.mem_of_getElem? (i := 3) rfl)) (hts _ (List.mem_of_getElem? (i := 4) rfl)) (hg.1 (78, "there are 8 kinds") (by decide)) (k_hat (fun w h => hts w (List.mem_cons_of_mem _ (List.mem_append_right _ h))) (by decide +kernel) hg.2.2.1 hg) (by decide +kernel) hZ hS (hl.1.trans hml.symm) dX0_addKind_51 dX0_addKind_54 dX0_addKind_55 dX0_addKind_57 dX0_addKind_60 hout (by rw [hR]; exact Nat.le_of_ble_eq_true rfl) (by rw [hR]; exact Nat.le_of_ble_eq_true rfl) (by rw [hR]; exact Nat.le_of_ble_eq_true rfl) (by rw [hR]; exact Nat.le_of_ble_eq_true rfl) hlocks hP hD (Or.inr ⟨rfl, ⟨⟨j0, j0a, j0b, rfl⟩, ⟨j1, j1a, j1b, rfl⟩⟩, Or.inl (by omega)⟩) (Nat.le_of_ble_eq_true rfl) (Nat.le_of_ble_eq_true rfl)
        · have hno : ¬ rg p1 0 61 := by rw [rg_iff (by omega)]; simp only [Int32.lt_iff_toInt_lt, Int32.le_iff_toInt_le, Int32.toInt_zero, nI_toInt (show 60 < 2 ^ 31 by omega)] at c29; omega
          subst hQ
          exact k_throw hx hb hst (cls := eIA) hown (by decide +kernel) (hts _ (List.mem_of_getElem? (i := 1) rfl)) (hts _ (List.mem_of_getElem? (i := 2) rfl)) (hg.1 (74, "capacity is not 0 to 60") (by decide)) (k_hat (fun w h => hts w (List.mem_cons_of_mem _ (List.mem_append_left _ (List.mem_append_right _ h)))) (by decide +kernel) hg.2.1 hg) (by decide +kernel) hZ hS (hl.1.trans hml.symm) dX0_addKind_32 dX0_addKind_35 dX0_addKind_36 dX0_addKind_38 dX0_addKind_41 hout (by rw [hR]; exact Nat.le_of_ble_eq_true rfl) (by rw [hR]; exact Nat.le_of_ble_eq_true rfl) (by rw [hR]; exact Nat.le_of_ble_eq_true rfl) (by rw [hR]; exact Nat.le_of_ble_eq_true rfl) hlocks hP hD (Or.inl ⟨rfl, fun z => hno z.2⟩) (Nat.le_of_ble_eq_true rfl) (Nat.le_of_ble_eq_true rfl)
    · have hno : ¬ rg p0 1 501 := by rw [rg_iff (by omega)]; simp only [Int32.lt_iff_toInt_lt, Int32.le_iff_toInt_le, Int32.toInt_zero, nI_toInt (show 500 < 2 ^ 31 by omega)] at c9; omega
      subst hQ
      exact k_throw hx hb hst (cls := eIA) hown (by decide +kernel) (hts _ (List.mem_of_getElem? (i := 1) rfl)) (hts _ (List.mem_of_getElem? (i := 2) rfl)) (hg.1 (69, "value is not 1 to 500") (by decide)) (k_hat (fun w h => hts w (List.mem_cons_of_mem _ (List.mem_append_left _ (List.mem_append_right _ h)))) (by decide +kernel) hg.2.1 hg) (by decide +kernel) hZ hS (hl.1.trans hml.symm) dX0_addKind_12 dX0_addKind_15 dX0_addKind_16 dX0_addKind_18 dX0_addKind_21 hout (by rw [hR]; exact Nat.le_of_ble_eq_true rfl) (by rw [hR]; exact Nat.le_of_ble_eq_true rfl) (by rw [hR]; exact Nat.le_of_ble_eq_true rfl) (by rw [hR]; exact Nat.le_of_ble_eq_true rfl) hlocks hP hD (Or.inl ⟨rfl, fun z => hno z.1⟩) (Nat.le_of_ble_eq_true rfl) (Nat.le_of_ble_eq_true rfl)
theorem hd_X0_addKind : yX0_addKind.cls = RX0 ∧ yX0_addKind.cls ≠ "java/lang/invoke/MethodHandle" ∧ yX0_addKind.cls ≠ "java/lang/invoke/VarHandle" ∧ (parseMethodDescriptor yX0_addKind.desc).map (fun d => d.parameters.length) = some 2 := by decide +kernel

set_option maxHeartbeats 4000000 in
set_option maxRecDepth 100000 in
theorem c_X0_insert (l : Launch) (hst : l.stackTraces = false) (D : va_G) (q : Nat → Nat) (cI cZ cJ : ClassId) (k : Nat) (V : Nat → Nat) (C : Nat → Nat) (T : Nat → Nat) (B : Nat → Nat) (P : Nat → Nat) (A : Nat → Nat) (n : Nat) (PR : Nat → Nat) (ST : Nat → Nat) (li : Nat) (w : Nat) (WK : Nat → Nat) (so : Nat) (sp : Nat) (CT : Nat → Int64) (SC : Nat → Int) (TA : Nat → Nat) (sz : Nat) (p0 : Int32) (hk8 : k ≤ 8) (hV : ∀ i, i < k → 1 ≤ V i ∧ V i ≤ 500) (hA1 : ∀ i, i < k → A i ≤ 1) (hw12 : w ≤ 12) (hWK : ∀ j, j < w → WK j < k) (hli : li ≤ 2000) : vx_Met l yX0_insert wsX0_insert ({ frames := 7, cells := 1, slots := 6, locals := 111 }) (va_Pc [.ref (q 0), .int p0] (cxP D (ty3 cI cZ cJ) (wX q cI cZ cJ k V C T B P A n PR ST li w WK so sp CT SC TA) sz)) (va_Qi (fun r (u : Nat × Nat × Nat × (Nat → Nat) × (Nat → Int64)) => r = nI u.2.1 ∧ u.1 < k ∧ p0 = nI u.1 ∧ insP k V A li w WK CT u.1 u.2.2.1 u.2.2.2.1 u.2.2.2.2 u.2.1) (bW D (va_A (wX q cI cZ cJ k V C T B P A n PR ST li w WK so sp CT SC TA) sz) (fun u => (wX q cI cZ cJ k V C T B P A n PR ST li u.2.2.1 u.2.2.2.1 so sp u.2.2.2.2 SC TA))) (va_A (wX q cI cZ cJ k V C T B P A n PR ST li w WK so sp CT SC TA) sz)) (xX D (fun E => E = eIB ∧ ¬ rg p0 0 k) (wX q cI cZ cJ k V C T B P A n PR ST li w WK so sp CT SC TA) (va_A (wX q cI cZ cJ k V C T B P A n PR ST li w WK so sp CT SC TA) sz)) 1 6 (va_A (wX q cI cZ cJ k V C T B P A n PR ST li w WK so sp CT SC TA) sz) := by
  refine vx_ofW (cc := cX0_insert) (maxL := 2) (ret := (some .int)) (by decide) rfl ?_
  intro p e s m args below meth c s₁ BB hml hout hv
  obtain ⟨hav, hsz, hP, hK, hD0, hZ, hg⟩ := hv
  subst hsz
  subst hav
  have hx := BB.exec
  have hb := BB.bytes
  have hr := BB.returns
  have hts := atoms_spec (ws := wsX0_insert) BB.pre
  have hown : s.vm.findClass RX0 = some m.cls := findClass_of_methodNamed BB.named
  have hlocks := BB.notSynchronized
  have hin : ∀ w ∈ wsX00, w ∈ wsX0_insert := fun w h => (List.mem_cons_of_mem _ (List.mem_append_left _ (List.mem_append_right _ h)))
  have hD := hD0.self (sz := s.heap.size)
  have hA : ∀ q9 : Nat, s.heap.size ≤ q9 → va_A (wX q cI cZ cJ k V C T B P A n PR ST li w WK so sp CT SC TA) s.heap.size q9 := fun _ h => Or.inr h
  have hl := lv_entry ([.ref (q 0), .int p0]) (n := 2) (Nat.le_of_ble_eq_true rfl)
  rw [lg_entry_eq]
  generalize (lg_sl ([.ref (q 0), .int p0]) ++ List.replicate (2 - (lg_sl ([.ref (q 0), .int p0])).length) Slot.unset).toArray = ls at hl ⊢
  have hl : lv_has ls 2 [(0, .ref (q 0)), (1, .int p0)] := hl
  refine W_absR (fun R hR => ?_)
  have hR : R = ({ frames := 7, cells := 1, slots := 6, locals := 111 } : Room) := hR
  refine W_absQ (fun Q hQ => ?_)
  generalize ([.ref (q 0), .int p0] : List Value).toArray = args at hts hQ ⊢
  generalize va_A (wX q cI cZ cJ k V C T B P A n PR ST li w WK so sp CT SC TA) s.heap.size = A9 at hD hZ hA hQ
  refine W_start hP (A := A9) (fun H locs hP hS => ?_)
  refine lv_aload_n hx hb dX0_insert_0 rfl (lv_at hl 0 rfl) ?_
  refine lv_iload_n hx hb dX0_insert_1 rfl (lv_at hl 1 rfl) ?_
  subst hQ
  refine kx_v (vx_runV (As := [.int p0]) (rest := []) ⟨hx, hb, hml, hown, hts⟩ (c_X0_checkKind l hst D q cI cZ cJ k V C T B P A n PR ST li w WK so sp CT SC TA H.size p0 hk8) (cwV 1 hts gX0_insert_X0_checkKind rfl rfl rfl hd_X0_checkKind ⟨(by rw [hR]; exact Nat.le_of_ble_eq_true rfl), (by rw [hR]; exact Nat.le_of_ble_eq_true rfl)⟩) (pre_V hP hK hD hS hA hZ hg 0 (ci := 0) rfl rfl) rfl rfl hl.1 rfl (lv_room (Nat.le_of_ble_eq_true rfl)) dX0_insert_2 ⟨(by rw [hR]; exact Nat.le_of_ble_eq_true rfl), (by rw [hR]; exact Nat.le_of_ble_eq_true rfl)⟩) hD hS hA rfl (fun E h => h) hout hlocks (Nat.le_of_ble_eq_true rfl) (Nat.le_of_ble_eq_true rfl) (fun u_1 H locs hp_3 hP hD hS => ?_)
  refine W_absQ (fun Q hQ => ?_)
  obtain ⟨j0, j0a, j0b, rfl⟩ := hp_3
  refine lv_aload_n hx hb dX0_insert_5 rfl (lv_at hl 0 rfl) ?_
  refine gfX hx hb hts hin hown hK hP 6 (by decide) (List.mem_of_getElem? (i := 1) rfl) rfl rfl dX0_insert_6 ?_
  refine lv_iload_n hx hb dX0_insert_9 rfl (lv_at hl 1 rfl) ?_
  refine n_zald hx hb hK hP 6 1 rfl rfl (by omega) (by decide) dX0_insert_10 ?_
  refine n_if_ne (tgt := 16) hx hb (by have := hA1 j0 j0b; omega) dX0_insert_11 (by decide) (fun c11 => ?_) (fun c11 => ?_)
  · refine lv_aload_n hx hb dX0_insert_16 rfl (lv_at hl 0 rfl) ?_
    refine gfX hx hb hts hin hown hK hP 11 (by decide) (List.mem_of_getElem? (i := 2) rfl) rfl rfl dX0_insert_17 ?_
    refine lv_bipush (v := nI 12) hx hb dX0_insert_20 (by decide) ?_
    refine n_icmp_lt (tgt := 27) hx hb (by omega) (by omega) dX0_insert_22 (by decide) (fun c22 => ?_) (fun c22 => ?_)
    · refine lv_aload_n hx hb dX0_insert_27 rfl (lv_at hl 0 rfl) ?_
      refine k_i (va_runV (As := []) (rest := []) ⟨hx, hb, hml, hown, hts⟩ (c_X0_credit l hst D q cI cZ cJ k V C T B P A n PR ST li w WK so sp CT SC TA H.size hw12 hk8 hWK hV) (cwV 0 hts gX0_insert_X0_credit rfl rfl rfl hd_X0_credit ⟨(by rw [hR]; exact Nat.le_of_ble_eq_true rfl), (by rw [hR]; exact Nat.le_of_ble_eq_true rfl)⟩) (pre_V hP hK hD hS hA hZ hg 0 (ci := 0) rfl rfl) rfl rfl hl.1 rfl (lv_room (Nat.le_of_ble_eq_true rfl)) dX0_insert_28 ⟨(by rw [hR]; exact Nat.le_of_ble_eq_true rfl), (by rw [hR]; exact Nat.le_of_ble_eq_true rfl)⟩) hD hS hA (fun r_5 u_4 H locs hp_6 hP hD hS => ?_)
      subst hp_6
      rw [crk_cr V WK k w hWK]
      have hcl := cr_le hw12 hWK hV
      refine lv_aload_n hx hb dX0_insert_31 rfl (lv_at hl 0 rfl) ?_
      refine gfX hx hb hts hin hown hK hP 1 (by decide) (List.mem_of_getElem? (i := 3) rfl) rfl rfl dX0_insert_32 ?_
      refine lv_iload_n hx hb dX0_insert_35 rfl (lv_at hl 1 rfl) ?_
      refine n_iald hx hb hK hP 1 0 rfl rfl (by omega) (by decide) dX0_insert_36 ?_
      refine n_iadd hx hb dX0_insert_37 ?_
      refine lv_aload_n hx hb dX0_insert_38 rfl (lv_at hl 0 rfl) ?_
      refine gfX hx hb hts hin hown hK hP 10 (by decide) (List.mem_of_getElem? (i := 4) rfl) rfl rfl dX0_insert_39 ?_
      refine n_icmp_le (tgt := 47) hx hb (by have := hV j0 j0b; omega) (by omega) dX0_insert_42 (by decide) (fun c42 => ?_) (fun c42 => ?_)
      · refine lv_aload_n hx hb dX0_insert_47 rfl (lv_at hl 0 rfl) ?_
        refine gfX hx hb hts hin hown hK hP 12 (by decide) (List.mem_of_getElem? (i := 5) rfl) rfl rfl dX0_insert_48 ?_
        refine lv_aload_n hx hb dX0_insert_51 rfl (lv_at hl 0 rfl) ?_
        refine gfX hx hb hts hin hown hK hP 11 (by decide) (List.mem_of_getElem? (i := 2) rfl) rfl rfl dX0_insert_52 ?_
        refine lv_iload_n hx hb dX0_insert_55 rfl (lv_at hl 1 rfl) ?_
        refine n_iast (ws' := (wX q cI cZ cJ k V C T B P A n PR ST li w (un WK w j0) so sp CT SC TA)) hx hb hK hP hD hS 9 0 rfl rfl (by omega) (by decide) rfl dX0_insert_56 (fun H locs hP hD hS => ?_)
        refine lv_aload_n hx hb dX0_insert_57 rfl (lv_at hl 0 rfl) ?_
        refine lv_dup hx hb dX0_insert_58 rfl ?_
        refine gfX hx hb hts hin hown hK hP 11 (by decide) (List.mem_of_getElem? (i := 2) rfl) rfl rfl dX0_insert_59 ?_
        refine lv_iconst (v := nI 1) hx hb dX0_insert_62 (ic_1) ?_
        refine n_iadd hx hb dX0_insert_63 ?_
        refine pfX (ws' := (wX q cI cZ cJ k V C T B P A n PR ST li (w + 1) (un WK w j0) so sp CT SC TA)) hx hb hts hin hown hK hP hD hS 11 (by decide) (List.mem_of_getElem? (i := 2) rfl) rfl ⟨rfl, rfl⟩ rfl rfl dX0_insert_64 (fun H locs hP hD hS => ?_)
        refine lv_aload_n hx hb dX0_insert_67 rfl (lv_at hl 0 rfl) ?_
        refine gfX hx hb hts hin hown hK hP 15 (by decide) (List.mem_of_getElem? (i := 6) rfl) rfl rfl dX0_insert_68 ?_
        refine lv_iconst (v := nI 0) hx hb dX0_insert_71 (ic_0) ?_
        refine lv_dup2_11 hx hb dX0_insert_72 rfl rfl ?_
        refine n_lald hx hb hK hP 10 2 rfl rfl (by omega) (by decide) dX0_insert_73 ?_
        refine lv_aload_n hx hb dX0_insert_74 rfl (lv_at hl 0 rfl) ?_
        refine gfX hx hb hts hin hown hK hP 1 (by decide) (List.mem_of_getElem? (i := 3) rfl) rfl rfl dX0_insert_75 ?_
        refine lv_iload_n hx hb dX0_insert_78 rfl (lv_at hl 1 rfl) ?_
        refine n_iald hx hb hK hP 1 0 rfl rfl (by omega) (by decide) dX0_insert_79 ?_
        refine n_i2l hx hb (by have := hV j0 j0b; omega) dX0_insert_80 ?_
        refine lv_ladd hx hb dX0_insert_81 ?_
        refine n_last (ws' := (wX q cI cZ cJ k V C T B P A n PR ST li (w + 1) (un WK w j0) so sp (vp_updL CT 0 ((CT 0) + (lZ ((V j0 : Nat) : Int)))) SC TA)) hx hb hK hP hD hS 10 2 rfl rfl (by omega) (by decide) rfl dX0_insert_82 (fun H locs hP hD hS => ?_)
        refine lv_iconst (v := nI 0) hx hb dX0_insert_83 (ic_0) ?_
        subst hQ
        exact vx_ret (e_i (j0, 0, w + 1, un WK w j0, vp_updL CT 0 ((CT 0) + (lZ ((V j0 : Nat) : Int)))) hx hb hr hlocks hS hP hD (⟨rfl, j0b, rfl, Or.inr (Or.inr (Or.inr ⟨c11, c22, c42, rfl, rfl, rfl, rfl⟩))⟩) (Nat.le_of_ble_eq_true rfl) (Nat.le_of_ble_eq_true rfl) dX0_insert_84)
      · refine lv_iconst (v := nI 3) hx hb dX0_insert_45 (ic_3) ?_
        subst hQ
        exact vx_ret (e_i (j0, 3, w, WK, CT) hx hb hr hlocks hS hP hD (⟨rfl, j0b, rfl, Or.inr (Or.inr (Or.inl ⟨c11, c22, c42, rfl, rfl, rfl, rfl⟩))⟩) (Nat.le_of_ble_eq_true rfl) (Nat.le_of_ble_eq_true rfl) dX0_insert_46)
    · refine lv_iconst (v := nI 2) hx hb dX0_insert_25 (ic_2) ?_
      subst hQ
      exact vx_ret (e_i (j0, 2, w, WK, CT) hx hb hr hlocks hS hP hD (⟨rfl, j0b, rfl, Or.inr (Or.inl ⟨c11, by omega, rfl, rfl, rfl, rfl⟩)⟩) (Nat.le_of_ble_eq_true rfl) (Nat.le_of_ble_eq_true rfl) dX0_insert_26)
  · refine lv_iconst (v := nI 1) hx hb dX0_insert_14 (ic_1) ?_
    subst hQ
    exact vx_ret (e_i (j0, 1, w, WK, CT) hx hb hr hlocks hS hP hD (⟨rfl, j0b, rfl, Or.inl ⟨c11, rfl, rfl, rfl, rfl⟩⟩) (Nat.le_of_ble_eq_true rfl) (Nat.le_of_ble_eq_true rfl) dX0_insert_15)
theorem hd_X0_insert : yX0_insert.cls = RX0 ∧ yX0_insert.cls ≠ "java/lang/invoke/MethodHandle" ∧ yX0_insert.cls ≠ "java/lang/invoke/VarHandle" ∧ (parseMethodDescriptor yX0_insert.desc).map (fun d => d.parameters.length) = some 1 := by decide +kernel

set_option maxHeartbeats 4000000 in
set_option maxRecDepth 100000 in
theorem c_X0_fewest (l : Launch) (hst : l.stackTraces = false) (D : va_G) (q : Nat → Nat) (cI cZ cJ : ClassId) (k : Nat) (V : Nat → Nat) (C : Nat → Nat) (T : Nat → Nat) (B : Nat → Nat) (P : Nat → Nat) (A : Nat → Nat) (n : Nat) (PR : Nat → Nat) (ST : Nat → Nat) (li : Nat) (w : Nat) (WK : Nat → Nat) (so : Nat) (sp : Nat) (CT : Nat → Int64) (SC : Nat → Int) (TA : Nat → Nat) (sz : Nat) (p0 : Int32) (hk8 : k ≤ 8) (hV : ∀ i, i < k → 1 ≤ V i ∧ V i ≤ 500) (hC : ∀ i, i < k → C i ≤ 60 ∧ T i ≤ C i) : vx_Met l yX0_fewest wsX0_fewest ({ frames := 7, cells := 1, slots := 6, locals := 110 }) (va_Pc [.ref (q 0), .int p0] (cxP D (ty3 cI cZ cJ) (wX q cI cZ cJ k V C T B P A n PR ST li w WK so sp CT SC TA) sz)) (va_Qi (fun r (u : Nat × Nat × (Nat → Int)) => r = nI u.2.1 ∧ u.1 < 2001 ∧ p0 = nI u.1 ∧ fwR T V k u.1 u.2.1) (bW D (va_A (wX q cI cZ cJ k V C T B P A n PR ST li w WK so sp CT SC TA) sz) (fun u => (wX q cI cZ cJ k V C T B P A n PR ST li w WK so sp CT u.2.2 TA))) (va_A (wX q cI cZ cJ k V C T B P A n PR ST li w WK so sp CT SC TA) sz)) (xX D (fun E => E = eIA ∧ ¬ rg p0 0 2001) (wX q cI cZ cJ k V C T B P A n PR ST li w WK so sp CT SC TA) (va_A (wX q cI cZ cJ k V C T B P A n PR ST li w WK so sp CT SC TA) sz)) 1 6 (va_A (wX q cI cZ cJ k V C T B P A n PR ST li w WK so sp CT SC TA) sz) := by
  refine vx_ofW (cc := cX0_fewest) (maxL := 4) (ret := (some .int)) (by decide) rfl ?_
  intro p e s m args below meth c s₁ BB hml hout hv
  obtain ⟨hav, hsz, hP, hK, hD0, hZ, hg⟩ := hv
  subst hsz
  subst hav
  have hx := BB.exec
  have hb := BB.bytes
  have hr := BB.returns
  have hts := atoms_spec (ws := wsX0_fewest) BB.pre
  have hown : s.vm.findClass RX0 = some m.cls := findClass_of_methodNamed BB.named
  have hlocks := BB.notSynchronized
  have hin : ∀ w ∈ wsX00, w ∈ wsX0_fewest := fun w h => (List.mem_cons_of_mem _ (List.mem_append_left _ (List.mem_append_right _ h)))
  have hD := hD0.self (sz := s.heap.size)
  have hA : ∀ q9 : Nat, s.heap.size ≤ q9 → va_A (wX q cI cZ cJ k V C T B P A n PR ST li w WK so sp CT SC TA) s.heap.size q9 := fun _ h => Or.inr h
  have hl := lv_entry ([.ref (q 0), .int p0]) (n := 4) (Nat.le_of_ble_eq_true rfl)
  rw [lg_entry_eq]
  generalize (lg_sl ([.ref (q 0), .int p0]) ++ List.replicate (4 - (lg_sl ([.ref (q 0), .int p0])).length) Slot.unset).toArray = ls at hl ⊢
  have hl : lv_has ls 4 [(0, .ref (q 0)), (1, .int p0)] := hl
  refine W_absR (fun R hR => ?_)
  have hR : R = ({ frames := 7, cells := 1, slots := 6, locals := 110 } : Room) := hR
  refine W_absQ (fun Q hQ => ?_)
  generalize ([.ref (q 0), .int p0] : List Value).toArray = args at hts hQ ⊢
  generalize va_A (wX q cI cZ cJ k V C T B P A n PR ST li w WK so sp CT SC TA) s.heap.size = A9 at hD hZ hA hQ
  refine W_start hP (A := A9) (fun H locs hP hS => ?_)
  refine lv_iload_n hx hb dX0_fewest_0 rfl (lv_at hl 1 rfl) ?_
  subst hQ
  refine kx_v (vx_runS (As := [.int p0]) (rest := []) ⟨hx, hb, hml, hown, hts⟩ (c_X0_checkAmount l hst D q cI cZ cJ k V C T B P A n PR ST li w WK so sp CT SC TA H.size p0) (va_cwS 1 hts gX0_fewest_X0_checkAmount rfl rfl rfl hd_X0_checkAmount.2 ⟨(by rw [hR]; exact Nat.le_of_ble_eq_true rfl), (by rw [hR]; exact Nat.le_of_ble_eq_true rfl)⟩) (pre_S hP hK hD hS hA hZ hg) rfl rfl hl.1 rfl (lv_room (Nat.le_of_ble_eq_true rfl)) dX0_fewest_1 ⟨(by rw [hR]; exact Nat.le_of_ble_eq_true rfl), (by rw [hR]; exact Nat.le_of_ble_eq_true rfl)⟩) hD hS hA rfl (fun E h => h) hout hlocks (Nat.le_of_ble_eq_true rfl) (Nat.le_of_ble_eq_true rfl) (fun u_1 H locs hp_3 hP hD hS => ?_)
  refine W_absQ (fun Q hQ => ?_)
  obtain ⟨j0, j0a, j0b, rfl⟩ := hp_3
  refine lv_aload_n hx hb dX0_fewest_4 rfl (lv_at hl 0 rfl) ?_
  refine lv_iload_n hx hb dX0_fewest_5 rfl (lv_at hl 1 rfl) ?_
  refine lv_aload_n hx hb dX0_fewest_6 rfl (lv_at hl 0 rfl) ?_
  refine gfX hx hb hts hin hown hK hP 3 (by decide) (List.mem_of_getElem? (i := 1) rfl) rfl rfl dX0_fewest_7 ?_
  refine k_v (va_runV (As := [.int (nI j0), .ref (q 3)]) (rest := []) ⟨hx, hb, hml, hown, hts⟩ (c_X0_scoreWays_T l hst D q cI cZ cJ k V C T B P A n PR ST li w WK so sp CT SC TA H.size j0 hk8 hV (by omega) (fun i hi => by have := hC i hi; omega)) (cwV 2 hts gX0_fewest_X0_scoreWays rfl rfl rfl hd_X0_scoreWays ⟨(by rw [hR]; exact Nat.le_of_ble_eq_true rfl), (by rw [hR]; exact Nat.le_of_ble_eq_true rfl)⟩) (pre_V hP hK hD hS hA hZ hg 0 (ci := 0) rfl rfl) rfl rfl hl.1 rfl (lv_room (Nat.le_of_ble_eq_true rfl)) dX0_fewest_10 ⟨(by rw [hR]; exact Nat.le_of_ble_eq_true rfl), (by rw [hR]; exact Nat.le_of_ble_eq_true rfl)⟩) hD hS hA (fun u_4 H locs hp_6 hP hD hS => ?_)
  have hsw := hp_6
  refine lv_aload_n hx hb dX0_fewest_13 rfl (lv_at hl 0 rfl) ?_
  refine lv_iload_n hx hb dX0_fewest_14 rfl (lv_at hl 1 rfl) ?_
  refine k_l (va_runV (As := [.int (nI j0)]) (rest := []) ⟨hx, hb, hml, hown, hts⟩ (c_X0_scoreOf l hst D q cI cZ cJ k V C T B P A n PR ST li w WK so sp CT u_4 TA H.size j0 (by omega)) (cwV 1 hts gX0_fewest_X0_scoreOf rfl rfl rfl hd_X0_scoreOf ⟨(by rw [hR]; exact Nat.le_of_ble_eq_true rfl), (by rw [hR]; exact Nat.le_of_ble_eq_true rfl)⟩) (pre_V hP hK hD hS hA hZ hg 0 (ci := 0) rfl rfl) rfl rfl hl.1 rfl (lv_room (Nat.le_of_ble_eq_true rfl)) dX0_fewest_15 ⟨(by rw [hR]; exact Nat.le_of_ble_eq_true rfl), (by rw [hR]; exact Nat.le_of_ble_eq_true rfl)⟩) hD hS hA (fun r_8 u_7 H locs hp_9 hP hD hS => ?_)
  subst hp_9
  refine lv_lstore_n (lv' := [(2, .long (lZ (u_4 j0))), (0, .ref (q 0)), (1, .int (nI j0))]) hx hb dX0_fewest_18 rfl hl (by decide) rfl (fun ls hl => ?_)
  refine lv_lload_n hx hb dX0_fewest_19 rfl (lv_at hl 0 rfl) ?_
  refine lv_ldc2 (v := (-4611686018427387904)) hx hb hown (hts _ (List.mem_of_getElem? (i := 2) rfl)) dX0_fewest_20 (n_topl (show ((-4611686018427387904) : Int64) = lZ (-4611686018427387904) from by decide) ?_)
  refine n_lcmp_ne (tgt := 31) hx hb dX0_fewest_23 dX0_fewest_24 (by decide) (fun c23 => ?_) (fun c23 => ?_)
  · have hne : u_4 j0 ≠ NW := fun q => c23 (congrArg lZ q)
    have hbw := isB_y hsw (Nat.le_refl _) hne
    have hwb := NW_bd (isB_bd (wS_bd8 hk8 (fun i hi => by have := hC i hi; omega) k (Nat.le_refl k)) hsw _ (Nat.le_refl _)) hne
    refine lv_lload_n hx hb dX0_fewest_31 rfl (lv_at hl 0 rfl) ?_
    refine k_i (va_runS (As := [.long (lZ (u_4 j0))]) (rest := []) ⟨hx, hb, hml, hown, hts⟩ (c_X0_coinsInWay l hst D q cI cZ cJ k V C T B P A n PR ST li w WK so sp CT u_4 TA H.size (u_4 j0) hwb) (va_cwS 1 hts gX0_fewest_X0_coinsInWay rfl rfl rfl hd_X0_coinsInWay.2 ⟨(by rw [hR]; exact Nat.le_of_ble_eq_true rfl), (by rw [hR]; exact Nat.le_of_ble_eq_true rfl)⟩) (pre_S hP hK hD hS hA hZ hg) rfl rfl hl.1 rfl (lv_room (Nat.le_of_ble_eq_true rfl)) dX0_fewest_32 ⟨(by rw [hR]; exact Nat.le_of_ble_eq_true rfl), (by rw [hR]; exact Nat.le_of_ble_eq_true rfl)⟩) hD hS hA (fun r_11 u_10 H locs hp_12 hP hD hS => ?_)
    subst hp_12
    subst hQ
    exact vx_ret (e_i (j0, cnz (u_4 j0), u_4) hx hb hr hlocks hS hP hD (⟨rfl, j0b, rfl, Or.inr ⟨_, hbw, rfl⟩⟩) (Nat.le_of_ble_eq_true rfl) (Nat.le_of_ble_eq_true rfl) dX0_fewest_35)
  · have hbo := isB_bd (wS_bd8 hk8 (fun i hi => by have := hC i hi; omega) k (Nat.le_refl k)) hsw j0 (Nat.le_refl _)
    have hNWl : NW = -4611686018427387904 := rfl
    have hnw := (isB_n hsw (Nat.le_refl _)).mp ((lZ_eq (by omega) (by omega) (by omega) (by omega)).mp c23)
    refine lv_iconst (v := nI 4294967295) hx hb dX0_fewest_27 (by decide) ?_
    refine lv_goto (tgt := 35) hx hb dX0_fewest_28 (by decide) ?_
    subst hQ
    exact vx_ret (e_i (j0, 4294967295, u_4) hx hb hr hlocks hS hP hD (⟨rfl, j0b, rfl, Or.inl ⟨hnw, rfl⟩⟩) (Nat.le_of_ble_eq_true rfl) (Nat.le_of_ble_eq_true rfl) dX0_fewest_35)
theorem hd_X0_fewest : yX0_fewest.cls = RX0 ∧ yX0_fewest.cls ≠ "java/lang/invoke/MethodHandle" ∧ yX0_fewest.cls ≠ "java/lang/invoke/VarHandle" ∧ (parseMethodDescriptor yX0_fewest.desc).map (fun d => d.parameters.length) = some 1 := by decide +kernel

set_option maxHeartbeats 4000000 in
set_option maxRecDepth 100000 in
theorem c_X0_part (l : Launch) (hst : l.stackTraces = false) (D : va_G) (q : Nat → Nat) (cI cZ cJ : ClassId) (k : Nat) (V : Nat → Nat) (C : Nat → Nat) (T : Nat → Nat) (B : Nat → Nat) (P : Nat → Nat) (A : Nat → Nat) (n : Nat) (PR : Nat → Nat) (ST : Nat → Nat) (li : Nat) (w : Nat) (WK : Nat → Nat) (so : Nat) (sp : Nat) (CT : Nat → Int64) (SC : Nat → Int) (TA : Nat → Nat) (sz : Nat) (p0 : Int32) (p1 : Int32) (hk8 : k ≤ 8) (hV : ∀ i, i < k → 1 ≤ V i ∧ V i ≤ 500) (hC : ∀ i, i < k → C i ≤ 60 ∧ T i ≤ C i) : vx_Met l yX0_part wsX0_part ({ frames := 7, cells := 2, slots := 12, locals := 111 }) (va_Pc [.ref (q 0), .int p0, .int p1] (cxP D (ty3 cI cZ cJ) (wX q cI cZ cJ k V C T B P A n PR ST li w WK so sp CT SC TA) sz)) (va_Qi (fun r (u : Nat × Nat × Nat × (Nat → Int)) => r = nI u.2.2.1 ∧ u.1 < 2001 ∧ u.2.1 < k ∧ p0 = nI u.1 ∧ p1 = nI u.2.1 ∧ ptR T V k u.1 u.2.1 u.2.2.1) (bW D (va_A (wX q cI cZ cJ k V C T B P A n PR ST li w WK so sp CT SC TA) sz) (fun u => (wX q cI cZ cJ k V C T B P A n PR ST li w WK so sp CT u.2.2.2 TA))) (va_A (wX q cI cZ cJ k V C T B P A n PR ST li w WK so sp CT SC TA) sz)) (xX D (fun E => (E = eIA ∧ ¬ rg p0 0 2001) ∨ (E = eIB ∧ rg p0 0 2001 ∧ ¬ rg p1 0 k)) (wX q cI cZ cJ k V C T B P A n PR ST li w WK so sp CT SC TA) (va_A (wX q cI cZ cJ k V C T B P A n PR ST li w WK so sp CT SC TA) sz)) 2 12 (va_A (wX q cI cZ cJ k V C T B P A n PR ST li w WK so sp CT SC TA) sz) := by
  refine vx_ofW (cc := cX0_part) (maxL := 5) (ret := (some .int)) (by decide) rfl ?_
  intro p e s m args below meth c s₁ BB hml hout hv
  obtain ⟨hav, hsz, hP, hK, hD0, hZ, hg⟩ := hv
  subst hsz
  subst hav
  have hx := BB.exec
  have hb := BB.bytes
  have hr := BB.returns
  have hts := atoms_spec (ws := wsX0_part) BB.pre
  have hown : s.vm.findClass RX0 = some m.cls := findClass_of_methodNamed BB.named
  have hlocks := BB.notSynchronized
  have hin : ∀ w ∈ wsX00, w ∈ wsX0_part := fun w h => (List.mem_cons_of_mem _ (List.mem_append_left _ (List.mem_append_left _ (List.mem_append_right _ h))))
  have hD := hD0.self (sz := s.heap.size)
  have hA : ∀ q9 : Nat, s.heap.size ≤ q9 → va_A (wX q cI cZ cJ k V C T B P A n PR ST li w WK so sp CT SC TA) s.heap.size q9 := fun _ h => Or.inr h
  have hl := lv_entry ([.ref (q 0), .int p0, .int p1]) (n := 5) (Nat.le_of_ble_eq_true rfl)
  rw [lg_entry_eq]
  generalize (lg_sl ([.ref (q 0), .int p0, .int p1]) ++ List.replicate (5 - (lg_sl ([.ref (q 0), .int p0, .int p1])).length) Slot.unset).toArray = ls at hl ⊢
  have hl : lv_has ls 5 [(0, .ref (q 0)), (1, .int p0), (2, .int p1)] := hl
  refine W_absR (fun R hR => ?_)
  have hR : R = ({ frames := 7, cells := 2, slots := 12, locals := 111 } : Room) := hR
  refine W_absQ (fun Q hQ => ?_)
  generalize ([.ref (q 0), .int p0, .int p1] : List Value).toArray = args at hts hQ ⊢
  generalize va_A (wX q cI cZ cJ k V C T B P A n PR ST li w WK so sp CT SC TA) s.heap.size = A9 at hD hZ hA hQ
  refine W_start hP (A := A9) (fun H locs hP hS => ?_)
  refine lv_iload_n hx hb dX0_part_0 rfl (lv_at hl 1 rfl) ?_
  subst hQ
  refine kx_v (vx_runS (As := [.int p0]) (rest := []) ⟨hx, hb, hml, hown, hts⟩ (c_X0_checkAmount l hst D q cI cZ cJ k V C T B P A n PR ST li w WK so sp CT SC TA H.size p0) (va_cwS 1 hts gX0_part_X0_checkAmount rfl rfl rfl hd_X0_checkAmount.2 ⟨(by rw [hR]; exact Nat.le_of_ble_eq_true rfl), (by rw [hR]; exact Nat.le_of_ble_eq_true rfl)⟩) (pre_S hP hK hD hS hA hZ hg) rfl rfl hl.1 rfl (lv_room (Nat.le_of_ble_eq_true rfl)) dX0_part_1 ⟨(by rw [hR]; exact Nat.le_of_ble_eq_true rfl), (by rw [hR]; exact Nat.le_of_ble_eq_true rfl)⟩) hD hS hA rfl (fun E h => Or.inl h) hout hlocks (Nat.le_of_ble_eq_true rfl) (Nat.le_of_ble_eq_true rfl) (fun u_1 H locs hp_3 hP hD hS => ?_)
  refine W_absQ (fun Q hQ => ?_)
  obtain ⟨j0, j0a, j0b, rfl⟩ := hp_3
  refine lv_aload_n hx hb dX0_part_4 rfl (lv_at hl 0 rfl) ?_
  refine lv_iload_n hx hb dX0_part_5 rfl (lv_at hl 2 rfl) ?_
  subst hQ
  refine kx_v (vx_runV (As := [.int p1]) (rest := []) ⟨hx, hb, hml, hown, hts⟩ (c_X0_checkKind l hst D q cI cZ cJ k V C T B P A n PR ST li w WK so sp CT SC TA H.size p1 hk8) (cwV 1 hts gX0_part_X0_checkKind rfl rfl rfl hd_X0_checkKind ⟨(by rw [hR]; exact Nat.le_of_ble_eq_true rfl), (by rw [hR]; exact Nat.le_of_ble_eq_true rfl)⟩) (pre_V hP hK hD hS hA hZ hg 0 (ci := 0) rfl rfl) rfl rfl hl.1 rfl (lv_room (Nat.le_of_ble_eq_true rfl)) dX0_part_6 ⟨(by rw [hR]; exact Nat.le_of_ble_eq_true rfl), (by rw [hR]; exact Nat.le_of_ble_eq_true rfl)⟩) hD hS hA rfl (fun E h => Or.inr ⟨h.1, ⟨j0, j0a, j0b, rfl⟩, h.2⟩) hout hlocks (Nat.le_of_ble_eq_true rfl) (Nat.le_of_ble_eq_true rfl) (fun u_4 H locs hp_6 hP hD hS => ?_)
  refine W_absQ (fun Q hQ => ?_)
  obtain ⟨j1, j1a, j1b, rfl⟩ := hp_6
  refine lv_aload_n hx hb dX0_part_9 rfl (lv_at hl 0 rfl) ?_
  refine lv_iload_n hx hb dX0_part_10 rfl (lv_at hl 1 rfl) ?_
  refine lv_aload_n hx hb dX0_part_11 rfl (lv_at hl 0 rfl) ?_
  refine gfX hx hb hts hin hown hK hP 3 (by decide) (List.mem_of_getElem? (i := 1) rfl) rfl rfl dX0_part_12 ?_
  refine k_v (va_runV (As := [.int (nI j0), .ref (q 3)]) (rest := []) ⟨hx, hb, hml, hown, hts⟩ (c_X0_scoreWays_T l hst D q cI cZ cJ k V C T B P A n PR ST li w WK so sp CT SC TA H.size j0 hk8 hV (by omega) (fun i hi => by have := hC i hi; omega)) (cwV 2 hts gX0_part_X0_scoreWays rfl rfl rfl hd_X0_scoreWays ⟨(by rw [hR]; exact Nat.le_of_ble_eq_true rfl), (by rw [hR]; exact Nat.le_of_ble_eq_true rfl)⟩) (pre_V hP hK hD hS hA hZ hg 0 (ci := 0) rfl rfl) rfl rfl hl.1 rfl (lv_room (Nat.le_of_ble_eq_true rfl)) dX0_part_15 ⟨(by rw [hR]; exact Nat.le_of_ble_eq_true rfl), (by rw [hR]; exact Nat.le_of_ble_eq_true rfl)⟩) hD hS hA (fun u_7 H locs hp_9 hP hD hS => ?_)
  have hsw := hp_9
  refine lv_aload_n hx hb dX0_part_18 rfl (lv_at hl 0 rfl) ?_
  refine lv_iload_n hx hb dX0_part_19 rfl (lv_at hl 1 rfl) ?_
  refine k_l (va_runV (As := [.int (nI j0)]) (rest := []) ⟨hx, hb, hml, hown, hts⟩ (c_X0_scoreOf l hst D q cI cZ cJ k V C T B P A n PR ST li w WK so sp CT u_7 TA H.size j0 (by omega)) (cwV 1 hts gX0_part_X0_scoreOf rfl rfl rfl hd_X0_scoreOf ⟨(by rw [hR]; exact Nat.le_of_ble_eq_true rfl), (by rw [hR]; exact Nat.le_of_ble_eq_true rfl)⟩) (pre_V hP hK hD hS hA hZ hg 0 (ci := 0) rfl rfl) rfl rfl hl.1 rfl (lv_room (Nat.le_of_ble_eq_true rfl)) dX0_part_20 ⟨(by rw [hR]; exact Nat.le_of_ble_eq_true rfl), (by rw [hR]; exact Nat.le_of_ble_eq_true rfl)⟩) hD hS hA (fun r_11 u_10 H locs hp_12 hP hD hS => ?_)
  subst hp_12
  refine lv_lstore_n (lv' := [(3, .long (lZ (u_7 j0))), (0, .ref (q 0)), (1, .int (nI j0)), (2, .int (nI j1))]) hx hb dX0_part_23 rfl hl (by decide) rfl (fun ls hl => ?_)
  refine lv_lload_n hx hb dX0_part_24 rfl (lv_at hl 0 rfl) ?_
  refine lv_ldc2 (v := (-4611686018427387904)) hx hb hown (hts _ (List.mem_of_getElem? (i := 2) rfl)) dX0_part_25 (n_topl (show ((-4611686018427387904) : Int64) = lZ (-4611686018427387904) from by decide) ?_)
  refine n_lcmp_ne (tgt := 36) hx hb dX0_part_28 dX0_part_29 (by decide) (fun c28 => ?_) (fun c28 => ?_)
  · have hne : u_7 j0 ≠ NW := fun q => c28 (congrArg lZ q)
    have hbw := isB_y hsw (Nat.le_refl _) hne
    have hwb := NW_bd (isB_bd (wS_bd8 hk8 (fun i hi => by have := hC i hi; omega) k (Nat.le_refl k)) hsw _ (Nat.le_refl _)) hne
    refine lv_aload_n hx hb dX0_part_36 rfl (lv_at hl 1 rfl) ?_
    refine lv_lload_n hx hb dX0_part_37 rfl (lv_at hl 0 rfl) ?_
    refine lv_iload_n hx hb dX0_part_38 rfl (lv_at hl 3 rfl) ?_
    refine k_i (va_runV (As := [.long (lZ (u_7 j0)), .int (nI j1)]) (rest := []) ⟨hx, hb, hml, hown, hts⟩ (c_X0_coinsOfKindInWay l hst D q cI cZ cJ k V C T B P A n PR ST li w WK so sp CT u_7 TA H.size (u_7 j0) j1 hwb hk8 hV j1b) (cwV 2 hts gX0_part_X0_coinsOfKindInWay rfl rfl rfl hd_X0_coinsOfKindInWay ⟨(by rw [hR]; exact Nat.le_of_ble_eq_true rfl), (by rw [hR]; exact Nat.le_of_ble_eq_true rfl)⟩) (pre_V hP hK hD hS hA hZ hg 0 (ci := 0) rfl rfl) rfl rfl hl.1 rfl (lv_room (Nat.le_of_ble_eq_true rfl)) dX0_part_39 ⟨(by rw [hR]; exact Nat.le_of_ble_eq_true rfl), (by rw [hR]; exact Nat.le_of_ble_eq_true rfl)⟩) hD hS hA (fun r_14 u_13 H locs hp_15 hP hD hS => ?_)
    subst hp_15
    subst hQ
    exact vx_ret (e_i (j0, j1, pz (u_7 j0) (lc V (V j1) k), u_7) hx hb hr hlocks hS hP hD (⟨rfl, j0b, j1b, rfl, rfl, Or.inr ⟨_, hbw, rfl⟩⟩) (Nat.le_of_ble_eq_true rfl) (Nat.le_of_ble_eq_true rfl) dX0_part_42)
  · have hbo := isB_bd (wS_bd8 hk8 (fun i hi => by have := hC i hi; omega) k (Nat.le_refl k)) hsw j0 (Nat.le_refl _)
    have hNWl : NW = -4611686018427387904 := rfl
    have hnw := (isB_n hsw (Nat.le_refl _)).mp ((lZ_eq (by omega) (by omega) (by omega) (by omega)).mp c28)
    refine lv_iconst (v := nI 4294967295) hx hb dX0_part_32 (by decide) ?_
    refine lv_goto (tgt := 42) hx hb dX0_part_33 (by decide) ?_
    subst hQ
    exact vx_ret (e_i (j0, j1, 4294967295, u_7) hx hb hr hlocks hS hP hD (⟨rfl, j0b, j1b, rfl, rfl, Or.inl ⟨hnw, rfl⟩⟩) (Nat.le_of_ble_eq_true rfl) (Nat.le_of_ble_eq_true rfl) dX0_part_42)
theorem hd_X0_part : yX0_part.cls = RX0 ∧ yX0_part.cls ≠ "java/lang/invoke/MethodHandle" ∧ yX0_part.cls ≠ "java/lang/invoke/VarHandle" ∧ (parseMethodDescriptor yX0_part.desc).map (fun d => d.parameters.length) = some 2 := by decide +kernel

set_option maxHeartbeats 4000000 in
set_option maxRecDepth 100000 in
theorem c_X0_below (l : Launch) (hst : l.stackTraces = false) (D : va_G) (q : Nat → Nat) (cI cZ cJ : ClassId) (k : Nat) (V : Nat → Nat) (C : Nat → Nat) (T : Nat → Nat) (B : Nat → Nat) (P : Nat → Nat) (A : Nat → Nat) (n : Nat) (PR : Nat → Nat) (ST : Nat → Nat) (li : Nat) (w : Nat) (WK : Nat → Nat) (so : Nat) (sp : Nat) (CT : Nat → Int64) (SC : Nat → Int) (TA : Nat → Nat) (sz : Nat) (p0 : Int32) (hk8 : k ≤ 8) (hV : ∀ i, i < k → 1 ≤ V i ∧ V i ≤ 500) (hC : ∀ i, i < k → C i ≤ 60 ∧ T i ≤ C i) : vx_Met l yX0_below wsX0_below ({ frames := 7, cells := 1, slots := 6, locals := 110 }) (va_Pc [.ref (q 0), .int p0] (cxP D (ty3 cI cZ cJ) (wX q cI cZ cJ k V C T B P A n PR ST li w WK so sp CT SC TA) sz)) (va_Qi (fun r (u : Nat × Nat × (Nat → Int)) => r = nI u.2.1 ∧ u.1 < 2001 ∧ p0 = nI u.1 ∧ blR T V k u.1 u.2.1) (bW D (va_A (wX q cI cZ cJ k V C T B P A n PR ST li w WK so sp CT SC TA) sz) (fun u => (wX q cI cZ cJ k V C T B P A n PR ST li w WK so sp CT u.2.2 TA))) (va_A (wX q cI cZ cJ k V C T B P A n PR ST li w WK so sp CT SC TA) sz)) (xX D (fun E => E = eIA ∧ ¬ rg p0 0 2001) (wX q cI cZ cJ k V C T B P A n PR ST li w WK so sp CT SC TA) (va_A (wX q cI cZ cJ k V C T B P A n PR ST li w WK so sp CT SC TA) sz)) 1 6 (va_A (wX q cI cZ cJ k V C T B P A n PR ST li w WK so sp CT SC TA) sz) := by
  refine vx_ofW (cc := cX0_below) (maxL := 3) (ret := (some .int)) (by decide) rfl ?_
  intro p e s m args below meth c s₁ BB hml hout hv
  obtain ⟨hav, hsz, hP, hK, hD0, hZ, hg⟩ := hv
  subst hsz
  subst hav
  have hx := BB.exec
  have hb := BB.bytes
  have hr := BB.returns
  have hts := atoms_spec (ws := wsX0_below) BB.pre
  have hown : s.vm.findClass RX0 = some m.cls := findClass_of_methodNamed BB.named
  have hlocks := BB.notSynchronized
  have hin : ∀ w ∈ wsX00, w ∈ wsX0_below := fun w h => (List.mem_cons_of_mem _ (List.mem_append_left _ (List.mem_append_right _ h)))
  have hD := hD0.self (sz := s.heap.size)
  have hA : ∀ q9 : Nat, s.heap.size ≤ q9 → va_A (wX q cI cZ cJ k V C T B P A n PR ST li w WK so sp CT SC TA) s.heap.size q9 := fun _ h => Or.inr h
  have hl := lv_entry ([.ref (q 0), .int p0]) (n := 3) (Nat.le_of_ble_eq_true rfl)
  rw [lg_entry_eq]
  generalize (lg_sl ([.ref (q 0), .int p0]) ++ List.replicate (3 - (lg_sl ([.ref (q 0), .int p0])).length) Slot.unset).toArray = ls at hl ⊢
  have hl : lv_has ls 3 [(0, .ref (q 0)), (1, .int p0)] := hl
  refine W_absR (fun R hR => ?_)
  have hR : R = ({ frames := 7, cells := 1, slots := 6, locals := 110 } : Room) := hR
  refine W_absQ (fun Q hQ => ?_)
  generalize ([.ref (q 0), .int p0] : List Value).toArray = args at hts hQ ⊢
  generalize va_A (wX q cI cZ cJ k V C T B P A n PR ST li w WK so sp CT SC TA) s.heap.size = A9 at hD hZ hA hQ
  refine W_start hP (A := A9) (fun H locs hP hS => ?_)
  refine lv_iload_n hx hb dX0_below_0 rfl (lv_at hl 1 rfl) ?_
  subst hQ
  refine kx_v (vx_runS (As := [.int p0]) (rest := []) ⟨hx, hb, hml, hown, hts⟩ (c_X0_checkAmount l hst D q cI cZ cJ k V C T B P A n PR ST li w WK so sp CT SC TA H.size p0) (va_cwS 1 hts gX0_below_X0_checkAmount rfl rfl rfl hd_X0_checkAmount.2 ⟨(by rw [hR]; exact Nat.le_of_ble_eq_true rfl), (by rw [hR]; exact Nat.le_of_ble_eq_true rfl)⟩) (pre_S hP hK hD hS hA hZ hg) rfl rfl hl.1 rfl (lv_room (Nat.le_of_ble_eq_true rfl)) dX0_below_1 ⟨(by rw [hR]; exact Nat.le_of_ble_eq_true rfl), (by rw [hR]; exact Nat.le_of_ble_eq_true rfl)⟩) hD hS hA rfl (fun E h => h) hout hlocks (Nat.le_of_ble_eq_true rfl) (Nat.le_of_ble_eq_true rfl) (fun u_1 H locs hp_3 hP hD hS => ?_)
  refine W_absQ (fun Q hQ => ?_)
  obtain ⟨j0, j0a, j0b, rfl⟩ := hp_3
  refine lv_aload_n hx hb dX0_below_4 rfl (lv_at hl 0 rfl) ?_
  refine lv_iload_n hx hb dX0_below_5 rfl (lv_at hl 1 rfl) ?_
  refine lv_aload_n hx hb dX0_below_6 rfl (lv_at hl 0 rfl) ?_
  refine gfX hx hb hts hin hown hK hP 3 (by decide) (List.mem_of_getElem? (i := 1) rfl) rfl rfl dX0_below_7 ?_
  refine k_v (va_runV (As := [.int (nI j0), .ref (q 3)]) (rest := []) ⟨hx, hb, hml, hown, hts⟩ (c_X0_scoreWays_T l hst D q cI cZ cJ k V C T B P A n PR ST li w WK so sp CT SC TA H.size j0 hk8 hV (by omega) (fun i hi => by have := hC i hi; omega)) (cwV 2 hts gX0_below_X0_scoreWays rfl rfl rfl hd_X0_scoreWays ⟨(by rw [hR]; exact Nat.le_of_ble_eq_true rfl), (by rw [hR]; exact Nat.le_of_ble_eq_true rfl)⟩) (pre_V hP hK hD hS hA hZ hg 0 (ci := 0) rfl rfl) rfl rfl hl.1 rfl (lv_room (Nat.le_of_ble_eq_true rfl)) dX0_below_10 ⟨(by rw [hR]; exact Nat.le_of_ble_eq_true rfl), (by rw [hR]; exact Nat.le_of_ble_eq_true rfl)⟩) hD hS hA (fun u_4 H locs hp_6 hP hD hS => ?_)
  have hsw := hp_6
  refine lv_iload_n hx hb dX0_below_13 rfl (lv_at hl 1 rfl) ?_
  refine lv_istore_n (lv' := [(2, .int (nI j0)), (0, .ref (q 0)), (1, .int (nI j0))]) hx hb dX0_below_14 rfl hl (by decide) rfl (fun ls hl => ?_)
  have lp_15 : ∀ (fu_15 : Nat) (lw : Nat), lw < fu_15 → (lw ≤ j0) → (∀ b, lw < b → b ≤ j0 → nway T V k b) → ∀ (H : Heap) (locs : List Loc), va_P D vwCl (wX q cI cZ cJ k V C T B P A n PR ST li w WK so sp CT u_4 TA) H → va_D A9 (wX q cI cZ cJ k V C T B P A n PR ST li w WK so sp CT u_4 TA) → va_S A9 s.heap H locs → ∀ ls : Array Slot, lv_has ls 3 [(2, .int (nI lw)), (0, .ref (q 0))] → W p l e R s m args below meth c H locs (0 + 1) (0 + 6) Q (F0 m 15 ls []) := by
    intro fu_15
    induction fu_15 with
    | zero =>
      intro lw hfu_15
      exact absurd hfu_15 (Nat.not_lt_zero _)
    | succ fu_15 ih_15 =>
      intro lw hfu_15 hlw hs H locs hP hD hS ls hl
      refine lv_iload_n hx hb dX0_below_15 rfl (lv_at hl 0 rfl) ?_
      refine n_if_le (tgt := 39) hx hb (by omega) dX0_below_16 (by decide) (fun c16 => ?_) (fun c16 => ?_)
      · refine lv_iconst (v := nI 0) hx hb dX0_below_39 (ic_0) ?_
        subst hQ
        exact vx_ret (e_i (j0, 0, u_4) hx hb hr hlocks hS hP hD (⟨rfl, j0b, rfl, Nat.zero_le _, nway_0, fun b h1 h2 => hs b (by omega) h2⟩) (Nat.le_of_ble_eq_true rfl) (Nat.le_of_ble_eq_true rfl) dX0_below_40)
      · refine lv_aload_n hx hb dX0_below_19 rfl (lv_at hl 1 rfl) ?_
        refine lv_iload_n hx hb dX0_below_20 rfl (lv_at hl 0 rfl) ?_
        refine k_l (va_runV (As := [.int (nI lw)]) (rest := []) ⟨hx, hb, hml, hown, hts⟩ (c_X0_scoreOf l hst D q cI cZ cJ k V C T B P A n PR ST li w WK so sp CT u_4 TA H.size lw (by omega)) (cwV 1 hts gX0_below_X0_scoreOf rfl rfl rfl hd_X0_scoreOf ⟨(by rw [hR]; exact Nat.le_of_ble_eq_true rfl), (by rw [hR]; exact Nat.le_of_ble_eq_true rfl)⟩) (pre_V hP hK hD hS hA hZ hg 0 (ci := 0) rfl rfl) rfl rfl hl.1 rfl (lv_room (Nat.le_of_ble_eq_true rfl)) dX0_below_21 ⟨(by rw [hR]; exact Nat.le_of_ble_eq_true rfl), (by rw [hR]; exact Nat.le_of_ble_eq_true rfl)⟩) hD hS hA (fun r_8 u_7 H locs hp_9 hP hD hS => ?_)
        subst hp_9
        refine lv_ldc2 (v := (-4611686018427387904)) hx hb hown (hts _ (List.mem_of_getElem? (i := 2) rfl)) dX0_below_24 (n_topl (show ((-4611686018427387904) : Int64) = lZ (-4611686018427387904) from by decide) ?_)
        refine n_lcmp_eq (tgt := 33) hx hb dX0_below_27 dX0_below_28 (by decide) (fun c27 => ?_) (fun c27 => ?_)
        · have hbo := isB_bd (wS_bd8 hk8 (fun i hi => by have := hC i hi; omega) k (Nat.le_refl k)) hsw lw hlw
          have hNWl : NW = -4611686018427387904 := rfl
          have hnw := (isB_n hsw hlw).mp ((lZ_eq (by omega) (by omega) (by omega) (by omega)).mp c27)
          refine lv_iinc (v := nI (lw - 1)) (lv' := [(2, .int (nI (lw - 1))), (0, .ref (q 0))]) hx hb dX0_below_33 hl (k := 0) rfl (ni_dec (by omega)) (by decide) rfl (fun ls hl => ?_)
          refine lv_goto (tgt := 15) hx hb dX0_below_36 (by decide) ?_
          exact ih_15 (lw - 1) (by omega) (by omega) (fun b h1 h2 => by rcases Nat.lt_or_ge lw b with h | h; exact hs b h h2; (rw [show b = lw by omega]; exact hnw)) _ _ hP hD hS ls (lv_sub hl [0, 1] rfl)
        · have hnn : ¬ nway T V k lw := fun h => c27 (congrArg lZ ((isB_n hsw hlw).mpr h))
          refine lv_iload_n hx hb dX0_below_31 rfl (lv_at hl 0 rfl) ?_
          subst hQ
          exact vx_ret (e_i (j0, lw, u_4) hx hb hr hlocks hS hP hD (⟨rfl, j0b, rfl, hlw, hnn, hs⟩) (Nat.le_of_ble_eq_true rfl) (Nat.le_of_ble_eq_true rfl) dX0_below_32)
  exact lp_15 _ j0 (Nat.lt_succ_self _) (by omega) (fun b h1 h2 => absurd h1 (by omega)) _ _ hP hD hS ls (lv_sub hl [0, 1] rfl)
theorem hd_X0_below : yX0_below.cls = RX0 ∧ yX0_below.cls ≠ "java/lang/invoke/MethodHandle" ∧ yX0_below.cls ≠ "java/lang/invoke/VarHandle" ∧ (parseMethodDescriptor yX0_below.desc).map (fun d => d.parameters.length) = some 1 := by decide +kernel

set_option maxHeartbeats 4000000 in
set_option maxRecDepth 100000 in
theorem c_X0_gaps (l : Launch) (hst : l.stackTraces = false) (D : va_G) (q : Nat → Nat) (cI cZ cJ : ClassId) (k : Nat) (V : Nat → Nat) (C : Nat → Nat) (T : Nat → Nat) (B : Nat → Nat) (P : Nat → Nat) (A : Nat → Nat) (n : Nat) (PR : Nat → Nat) (ST : Nat → Nat) (li : Nat) (w : Nat) (WK : Nat → Nat) (so : Nat) (sp : Nat) (CT : Nat → Int64) (SC : Nat → Int) (TA : Nat → Nat) (sz : Nat) (p0 : Int32) (hk8 : k ≤ 8) (hV : ∀ i, i < k → 1 ≤ V i ∧ V i ≤ 500) (hC : ∀ i, i < k → C i ≤ 60 ∧ T i ≤ C i) : vx_Met l yX0_gaps wsX0_gaps ({ frames := 7, cells := 1, slots := 6, locals := 110 }) (va_Pc [.ref (q 0), .int p0] (cxP D (ty3 cI cZ cJ) (wX q cI cZ cJ k V C T B P A n PR ST li w WK so sp CT SC TA) sz)) (va_Qi (fun r (u : Nat × (Nat → Int)) => r = nI (gpR T V k u.1) ∧ u.1 < 2001 ∧ p0 = nI u.1) (bW D (va_A (wX q cI cZ cJ k V C T B P A n PR ST li w WK so sp CT SC TA) sz) (fun u => (wX q cI cZ cJ k V C T B P A n PR ST li w WK so sp CT u.2 TA))) (va_A (wX q cI cZ cJ k V C T B P A n PR ST li w WK so sp CT SC TA) sz)) (xX D (fun E => E = eIA ∧ ¬ rg p0 0 2001) (wX q cI cZ cJ k V C T B P A n PR ST li w WK so sp CT SC TA) (va_A (wX q cI cZ cJ k V C T B P A n PR ST li w WK so sp CT SC TA) sz)) 1 6 (va_A (wX q cI cZ cJ k V C T B P A n PR ST li w WK so sp CT SC TA) sz) := by
  refine vx_ofW (cc := cX0_gaps) (maxL := 5) (ret := (some .int)) (by decide) rfl ?_
  intro p e s m args below meth c s₁ BB hml hout hv
  obtain ⟨hav, hsz, hP, hK, hD0, hZ, hg⟩ := hv
  subst hsz
  subst hav
  have hx := BB.exec
  have hb := BB.bytes
  have hr := BB.returns
  have hts := atoms_spec (ws := wsX0_gaps) BB.pre
  have hown : s.vm.findClass RX0 = some m.cls := findClass_of_methodNamed BB.named
  have hlocks := BB.notSynchronized
  have hin : ∀ w ∈ wsX00, w ∈ wsX0_gaps := fun w h => (List.mem_cons_of_mem _ (List.mem_append_left _ (List.mem_append_right _ h)))
  have hD := hD0.self (sz := s.heap.size)
  have hA : ∀ q9 : Nat, s.heap.size ≤ q9 → va_A (wX q cI cZ cJ k V C T B P A n PR ST li w WK so sp CT SC TA) s.heap.size q9 := fun _ h => Or.inr h
  have hl := lv_entry ([.ref (q 0), .int p0]) (n := 5) (Nat.le_of_ble_eq_true rfl)
  rw [lg_entry_eq]
  generalize (lg_sl ([.ref (q 0), .int p0]) ++ List.replicate (5 - (lg_sl ([.ref (q 0), .int p0])).length) Slot.unset).toArray = ls at hl ⊢
  have hl : lv_has ls 5 [(0, .ref (q 0)), (1, .int p0)] := hl
  refine W_absR (fun R hR => ?_)
  have hR : R = ({ frames := 7, cells := 1, slots := 6, locals := 110 } : Room) := hR
  refine W_absQ (fun Q hQ => ?_)
  generalize ([.ref (q 0), .int p0] : List Value).toArray = args at hts hQ ⊢
  generalize va_A (wX q cI cZ cJ k V C T B P A n PR ST li w WK so sp CT SC TA) s.heap.size = A9 at hD hZ hA hQ
  refine W_start hP (A := A9) (fun H locs hP hS => ?_)
  refine lv_iload_n hx hb dX0_gaps_0 rfl (lv_at hl 1 rfl) ?_
  subst hQ
  refine kx_v (vx_runS (As := [.int p0]) (rest := []) ⟨hx, hb, hml, hown, hts⟩ (c_X0_checkAmount l hst D q cI cZ cJ k V C T B P A n PR ST li w WK so sp CT SC TA H.size p0) (va_cwS 1 hts gX0_gaps_X0_checkAmount rfl rfl rfl hd_X0_checkAmount.2 ⟨(by rw [hR]; exact Nat.le_of_ble_eq_true rfl), (by rw [hR]; exact Nat.le_of_ble_eq_true rfl)⟩) (pre_S hP hK hD hS hA hZ hg) rfl rfl hl.1 rfl (lv_room (Nat.le_of_ble_eq_true rfl)) dX0_gaps_1 ⟨(by rw [hR]; exact Nat.le_of_ble_eq_true rfl), (by rw [hR]; exact Nat.le_of_ble_eq_true rfl)⟩) hD hS hA rfl (fun E h => h) hout hlocks (Nat.le_of_ble_eq_true rfl) (Nat.le_of_ble_eq_true rfl) (fun u_1 H locs hp_3 hP hD hS => ?_)
  refine W_absQ (fun Q hQ => ?_)
  obtain ⟨j0, j0a, j0b, rfl⟩ := hp_3
  refine lv_aload_n hx hb dX0_gaps_4 rfl (lv_at hl 0 rfl) ?_
  refine k_i (va_runV (As := []) (rest := []) ⟨hx, hb, hml, hown, hts⟩ (c_X0_unit l hst D q cI cZ cJ k V C T B P A n PR ST li w WK so sp CT SC TA H.size hk8 hV) (cwV 0 hts gX0_gaps_X0_unit rfl rfl rfl hd_X0_unit ⟨(by rw [hR]; exact Nat.le_of_ble_eq_true rfl), (by rw [hR]; exact Nat.le_of_ble_eq_true rfl)⟩) (pre_V hP hK hD hS hA hZ hg 0 (ci := 0) rfl rfl) rfl rfl hl.1 rfl (lv_room (Nat.le_of_ble_eq_true rfl)) dX0_gaps_5 ⟨(by rw [hR]; exact Nat.le_of_ble_eq_true rfl), (by rw [hR]; exact Nat.le_of_ble_eq_true rfl)⟩) hD hS hA (fun r_5 u_4 H locs hp_6 hP hD hS => ?_)
  subst hp_6
  have hgl : gu V k ≤ 500 := by unfold gu; split; omega; exact fd_le V k 500
  refine lv_istore_n (lv' := [(2, .int (nI (gu V k))), (0, .ref (q 0)), (1, .int (nI j0))]) hx hb dX0_gaps_8 rfl hl (by decide) rfl (fun ls hl => ?_)
  refine lv_iload_n hx hb dX0_gaps_9 rfl (lv_at hl 0 rfl) ?_
  refine lv_iconst (v := nI 1) hx hb dX0_gaps_10 (ic_1) ?_
  refine n_icmp_ge (tgt := 16) hx hb (by omega) (by omega) dX0_gaps_11 (by decide) (fun c11 => ?_) (fun c11 => ?_)
  · refine lv_aload_n hx hb dX0_gaps_16 rfl (lv_at hl 1 rfl) ?_
    refine lv_iload_n hx hb dX0_gaps_17 rfl (lv_at hl 2 rfl) ?_
    refine lv_aload_n hx hb dX0_gaps_18 rfl (lv_at hl 1 rfl) ?_
    refine gfX hx hb hts hin hown hK hP 3 (by decide) (List.mem_of_getElem? (i := 1) rfl) rfl rfl dX0_gaps_19 ?_
    refine k_v (va_runV (As := [.int (nI j0), .ref (q 3)]) (rest := []) ⟨hx, hb, hml, hown, hts⟩ (c_X0_scoreWays_T l hst D q cI cZ cJ k V C T B P A n PR ST li w WK so sp CT SC TA H.size j0 hk8 hV (by omega) (fun i hi => by have := hC i hi; omega)) (cwV 2 hts gX0_gaps_X0_scoreWays rfl rfl rfl hd_X0_scoreWays ⟨(by rw [hR]; exact Nat.le_of_ble_eq_true rfl), (by rw [hR]; exact Nat.le_of_ble_eq_true rfl)⟩) (pre_V hP hK hD hS hA hZ hg 0 (ci := 0) rfl rfl) rfl rfl hl.1 rfl (lv_room (Nat.le_of_ble_eq_true rfl)) dX0_gaps_22 ⟨(by rw [hR]; exact Nat.le_of_ble_eq_true rfl), (by rw [hR]; exact Nat.le_of_ble_eq_true rfl)⟩) hD hS hA (fun u_7 H locs hp_9 hP hD hS => ?_)
    have hsw := hp_9
    refine lv_iconst (v := nI 0) hx hb dX0_gaps_25 (ic_0) ?_
    refine lv_istore_n (lv' := [(3, .int (nI 0)), (2, .int (nI (gu V k))), (0, .ref (q 0)), (1, .int (nI j0))]) hx hb dX0_gaps_26 rfl hl (by decide) rfl (fun ls hl => ?_)
    refine lv_iconst (v := nI 1) hx hb dX0_gaps_27 (ic_1) ?_
    refine lv_istore (lv' := [(4, .int (nI 1)), (3, .int (nI 0)), (2, .int (nI (gu V k))), (0, .ref (q 0)), (1, .int (nI j0))]) hx hb dX0_gaps_28 hl (by decide) rfl (fun ls hl => ?_)
    have lp_30 : ∀ (fu_30 : Nat) (lo : Nat) (gp : Nat), j0 + 1 - lo < fu_30 → (1 ≤ lo ∧ lo ≤ j0 + 1) → (gp = gpc (fun b => b % gu V k = 0 ∧ nway T V k b) (lo - 1)) → ∀ (H : Heap) (locs : List Loc), va_P D vwCl (wX q cI cZ cJ k V C T B P A n PR ST li w WK so sp CT u_7 TA) H → va_D A9 (wX q cI cZ cJ k V C T B P A n PR ST li w WK so sp CT u_7 TA) → va_S A9 s.heap H locs → ∀ ls : Array Slot, lv_has ls 5 [(4, .int (nI lo)), (3, .int (nI gp)), (0, .ref (q 0)), (1, .int (nI j0)), (2, .int (nI (gu V k)))] → W p l e R s m args below meth c H locs (0 + 1) (0 + 6) Q (F0 m 30 ls []) := by
      intro fu_30
      induction fu_30 with
      | zero =>
        intro lo gp hfu_30
        exact absurd hfu_30 (Nat.not_lt_zero _)
      | succ fu_30 ih_30 =>
        intro lo gp hfu_30 hlo hs H locs hP hD hS ls hl
        refine lv_iload hx hb dX0_gaps_30 (lv_at hl 0 rfl) ?_
        refine lv_iload_n hx hb dX0_gaps_32 rfl (lv_at hl 3 rfl) ?_
        refine n_icmp_gt (tgt := 65) hx hb (by omega) (by omega) dX0_gaps_33 (by decide) (fun c33 => ?_) (fun c33 => ?_)
        · refine lv_iload_n hx hb dX0_gaps_65 rfl (lv_at hl 1 rfl) ?_
          subst hQ
          exact vx_ret (e_i (j0, u_7) hx hb hr hlocks hS hP hD (⟨congrArg nI (by unfold gpR; rw [if_neg (by omega), hs, show lo - 1 = j0 by omega]), j0b, rfl⟩) (Nat.le_of_ble_eq_true rfl) (Nat.le_of_ble_eq_true rfl) dX0_gaps_66)
        · refine lv_iload hx hb dX0_gaps_36 (lv_at hl 0 rfl) ?_
          refine lv_iload_n hx hb dX0_gaps_38 rfl (lv_at hl 4 rfl) ?_
          refine n_irem hx hb (by omega) (by omega) (by omega) dX0_gaps_39 ?_
          refine n_if_ne (tgt := 59) hx hb (by have := Nat.mod_lt lo (show gu V k > 0 by omega); omega) dX0_gaps_40 (by decide) (fun c40 => ?_) (fun c40 => ?_)
          · have hs2 : gp = gpc (fun b => b % gu V k = 0 ∧ nway T V k b) (lo + 1 - 1) := by rw [show lo + 1 - 1 = lo by omega, gpc_n' hlo.1 (fun q => c40 q.1)]; exact hs
            refine lv_iinc (v := nI (lo + 1)) (lv' := [(4, .int (nI (lo + 1))), (3, .int (nI gp)), (0, .ref (q 0)), (1, .int (nI j0)), (2, .int (nI (gu V k)))]) hx hb dX0_gaps_59 hl (k := 0) rfl (ni_inc _ 1) (by decide) rfl (fun ls hl => ?_)
            refine lv_goto (tgt := 30) hx hb dX0_gaps_62 (by decide) ?_
            exact ih_30 (lo + 1) gp (by omega) (⟨by omega, by omega⟩) hs2 _ _ hP hD hS ls (lv_sub hl [0, 1, 2, 3, 4] rfl)
          · refine lv_aload_n hx hb dX0_gaps_43 rfl (lv_at hl 2 rfl) ?_
            refine lv_iload hx hb dX0_gaps_44 (lv_at hl 0 rfl) ?_
            refine k_l (va_runV (As := [.int (nI lo)]) (rest := []) ⟨hx, hb, hml, hown, hts⟩ (c_X0_scoreOf l hst D q cI cZ cJ k V C T B P A n PR ST li w WK so sp CT u_7 TA H.size lo (by omega)) (cwV 1 hts gX0_gaps_X0_scoreOf rfl rfl rfl hd_X0_scoreOf ⟨(by rw [hR]; exact Nat.le_of_ble_eq_true rfl), (by rw [hR]; exact Nat.le_of_ble_eq_true rfl)⟩) (pre_V hP hK hD hS hA hZ hg 0 (ci := 0) rfl rfl) rfl rfl hl.1 rfl (lv_room (Nat.le_of_ble_eq_true rfl)) dX0_gaps_46 ⟨(by rw [hR]; exact Nat.le_of_ble_eq_true rfl), (by rw [hR]; exact Nat.le_of_ble_eq_true rfl)⟩) hD hS hA (fun r_11 u_10 H locs hp_12 hP hD hS => ?_)
            subst hp_12
            refine lv_ldc2 (v := (-4611686018427387904)) hx hb hown (hts _ (List.mem_of_getElem? (i := 2) rfl)) dX0_gaps_49 (n_topl (show ((-4611686018427387904) : Int64) = lZ (-4611686018427387904) from by decide) ?_)
            refine n_lcmp_ne (tgt := 59) hx hb dX0_gaps_52 dX0_gaps_53 (by decide) (fun c52 => ?_) (fun c52 => ?_)
            · have hs2 : gp = gpc (fun b => b % gu V k = 0 ∧ nway T V k b) (lo + 1 - 1) := by rw [show lo + 1 - 1 = lo by omega, gpc_n' hlo.1 (fun q => c52 (congrArg lZ ((isB_n hsw (by omega)).mpr q.2)))]; exact hs
              refine lv_iinc (v := nI (lo + 1)) (lv' := [(4, .int (nI (lo + 1))), (3, .int (nI gp)), (0, .ref (q 0)), (1, .int (nI j0)), (2, .int (nI (gu V k)))]) hx hb dX0_gaps_59 hl (k := 0) rfl (ni_inc _ 1) (by decide) rfl (fun ls hl => ?_)
              refine lv_goto (tgt := 30) hx hb dX0_gaps_62 (by decide) ?_
              exact ih_30 (lo + 1) gp (by omega) (⟨by omega, by omega⟩) hs2 _ _ hP hD hS ls (lv_sub hl [0, 1, 2, 3, 4] rfl)
            · have hbo := isB_bd (wS_bd8 hk8 (fun i hi => by have := hC i hi; omega) k (Nat.le_refl k)) hsw lo (by omega)
              have hNWl : NW = -4611686018427387904 := rfl
              have hnw := (isB_n hsw (by omega)).mp ((lZ_eq (by omega) (by omega) (by omega) (by omega)).mp c52)
              have hs2 : gp + 1 = gpc (fun b => b % gu V k = 0 ∧ nway T V k b) (lo + 1 - 1) := by rw [show lo + 1 - 1 = lo by omega, gpc_y' hlo.1 ⟨c40, hnw⟩, hs]
              refine lv_iinc (v := nI (gp + 1)) (lv' := [(3, .int (nI (gp + 1))), (4, .int (nI lo)), (0, .ref (q 0)), (1, .int (nI j0)), (2, .int (nI (gu V k)))]) hx hb dX0_gaps_56 hl (k := 1) rfl (ni_inc _ 1) (by decide) rfl (fun ls hl => ?_)
              refine lv_iinc (v := nI (lo + 1)) (lv' := [(4, .int (nI (lo + 1))), (3, .int (nI (gp + 1))), (0, .ref (q 0)), (1, .int (nI j0)), (2, .int (nI (gu V k)))]) hx hb dX0_gaps_59 hl (k := 1) rfl (ni_inc _ 1) (by decide) rfl (fun ls hl => ?_)
              refine lv_goto (tgt := 30) hx hb dX0_gaps_62 (by decide) ?_
              exact ih_30 (lo + 1) (gp + 1) (by omega) (⟨by omega, by omega⟩) hs2 _ _ hP hD hS ls (lv_sub hl [0, 1, 2, 3, 4] rfl)
    exact lp_30 _ 1 0 (Nat.lt_succ_self _) (⟨by omega, by omega⟩) rfl _ _ hP hD hS ls (lv_sub hl [0, 1, 3, 4, 2] rfl)
  · refine lv_iconst (v := nI 0) hx hb dX0_gaps_14 (ic_0) ?_
    subst hQ
    exact vx_ret (e_i (j0, SC) hx hb hr hlocks hS hP hD (⟨congrArg nI (if_pos (by omega)).symm, j0b, rfl⟩) (Nat.le_of_ble_eq_true rfl) (Nat.le_of_ble_eq_true rfl) dX0_gaps_15)
theorem hd_X0_gaps : yX0_gaps.cls = RX0 ∧ yX0_gaps.cls ≠ "java/lang/invoke/MethodHandle" ∧ yX0_gaps.cls ≠ "java/lang/invoke/VarHandle" ∧ (parseMethodDescriptor yX0_gaps.desc).map (fun d => d.parameters.length) = some 1 := by decide +kernel

set_option maxHeartbeats 4000000 in
set_option maxRecDepth 100000 in
theorem c_X0_digestOfKinds (l : Launch) (hst : l.stackTraces = false) (D : va_G) (q : Nat → Nat) (cI cZ cJ : ClassId) (k : Nat) (V : Nat → Nat) (C : Nat → Nat) (T : Nat → Nat) (B : Nat → Nat) (P : Nat → Nat) (A : Nat → Nat) (n : Nat) (PR : Nat → Nat) (ST : Nat → Nat) (li : Nat) (w : Nat) (WK : Nat → Nat) (so : Nat) (sp : Nat) (CT : Nat → Int64) (SC : Nat → Int) (TA : Nat → Nat) (sz : Nat) (d0 : Int64) (hk8 : k ≤ 8) (hA1 : ∀ i, i < k → A i ≤ 1) : Met l yX0_digestOfKinds wsX0_digestOfKinds ({ frames := 1, cells := 0, slots := 0, locals := 22 }) (va_Pc [.ref (q 0), .long d0] (cxP D (ty3 cI cZ cJ) (wX q cI cZ cJ k V C T B P A n PR ST li w WK so sp CT SC TA) sz)) (va_Ql (fun r (_ : Unit) => r = dgK V T B P A (hD31 d0 (nI k).toInt64) k) (bW D (va_A (wX q cI cZ cJ k V C T B P A n PR ST li w WK so sp CT SC TA) sz) (fun (_ : Unit) => (wX q cI cZ cJ k V C T B P A n PR ST li w WK so sp CT SC TA))) (va_A (wX q cI cZ cJ k V C T B P A n PR ST li w WK so sp CT SC TA) sz)) 0 0 (va_A (wX q cI cZ cJ k V C T B P A n PR ST li w WK so sp CT SC TA) sz) := by
  refine Met.ofW (cc := cX0_digestOfKinds) (maxL := 7) (ret := (some .long)) (by decide) rfl ?_
  intro p e s m args below meth c s₁ BB hml hv
  obtain ⟨hav, hsz, hP, hK, hD0, hZ, hg⟩ := hv
  subst hsz
  subst hav
  have hx := BB.exec
  have hb := BB.bytes
  have hr := BB.returns
  have hts := atoms_spec (ws := wsX0_digestOfKinds) BB.pre
  have hown : s.vm.findClass RX0 = some m.cls := findClass_of_methodNamed BB.named
  have hlocks := BB.notSynchronized
  have hin : ∀ w ∈ wsX00, w ∈ wsX0_digestOfKinds := fun w h => (List.mem_cons_of_mem _ (List.mem_append_right _ h))
  have hD := hD0.self (sz := s.heap.size)
  have hA : ∀ q9 : Nat, s.heap.size ≤ q9 → va_A (wX q cI cZ cJ k V C T B P A n PR ST li w WK so sp CT SC TA) s.heap.size q9 := fun _ h => Or.inr h
  have hl := lv_entry ([.ref (q 0), .long d0]) (n := 7) (Nat.le_of_ble_eq_true rfl)
  rw [lg_entry_eq]
  generalize (lg_sl ([.ref (q 0), .long d0]) ++ List.replicate (7 - (lg_sl ([.ref (q 0), .long d0])).length) Slot.unset).toArray = ls at hl ⊢
  have hl : lv_has ls 7 [(0, .ref (q 0)), (1, .long d0)] := hl
  refine W_absR (fun R hR => ?_)
  have hR : R = ({ frames := 1, cells := 0, slots := 0, locals := 22 } : Room) := hR
  refine W_absQ (fun Q hQ => ?_)
  generalize ([.ref (q 0), .long d0] : List Value).toArray = args at hts hQ ⊢
  generalize va_A (wX q cI cZ cJ k V C T B P A n PR ST li w WK so sp CT SC TA) s.heap.size = A9 at hD hZ hA hQ
  refine W_start hP (A := A9) (fun H locs hP hS => ?_)
  refine lv_lload_n hx hb dX0_digestOfKinds_0 rfl (lv_at hl 1 rfl) ?_
  refine lv_ldc2 (v := (31)) hx hb hown (hts _ (List.mem_of_getElem? (i := 1) rfl)) dX0_digestOfKinds_1 (n_topl (show ((31) : Int64) = lZ 31 from by decide) ?_)
  refine lv_lmul hx hb dX0_digestOfKinds_4 ?_
  refine lv_aload_n hx hb dX0_digestOfKinds_5 rfl (lv_at hl 0 rfl) ?_
  refine gfX hx hb hts hin hown hK hP 0 (by decide) (List.mem_of_getElem? (i := 2) rfl) rfl rfl dX0_digestOfKinds_6 ?_
  refine lv_i2l hx hb dX0_digestOfKinds_9 rfl ?_
  refine lv_ladd hx hb dX0_digestOfKinds_10 ?_
  refine lv_lstore_n (lv' := [(3, .long ((d0 * (lZ 31)) + ((nI k).toInt64))), (0, .ref (q 0)), (1, .long d0)]) hx hb dX0_digestOfKinds_11 rfl hl (by decide) rfl (fun ls hl => ?_)
  refine lv_iconst (v := nI 0) hx hb dX0_digestOfKinds_12 (ic_0) ?_
  refine lv_istore (lv' := [(5, .int (nI 0)), (3, .long ((d0 * (lZ 31)) + ((nI k).toInt64))), (0, .ref (q 0)), (1, .long d0)]) hx hb dX0_digestOfKinds_13 hl (by decide) rfl (fun ls hl => ?_)
  have lp_15 : ∀ (fu_15 : Nat) (i : Nat) (d : Int64), k - i < fu_15 → (i ≤ k) → (d = dgK V T B P A (hD31 d0 (nI k).toInt64) i) → ∀ (H : Heap) (locs : List Loc), va_P D vwCl (wX q cI cZ cJ k V C T B P A n PR ST li w WK so sp CT SC TA) H → va_D A9 (wX q cI cZ cJ k V C T B P A n PR ST li w WK so sp CT SC TA) → va_S A9 s.heap H locs → ∀ ls : Array Slot, lv_has ls 7 [(5, .int (nI i)), (3, .long d), (0, .ref (q 0))] → W p l e R s m args below meth c H locs 0 0 Q (F0 m 15 ls []) := by
    intro fu_15
    induction fu_15 with
    | zero =>
      intro i d hfu_15
      exact absurd hfu_15 (Nat.not_lt_zero _)
    | succ fu_15 ih_15 =>
      intro i d hfu_15 hi hs H locs hP hD hS ls hl
      refine lv_iload hx hb dX0_digestOfKinds_15 (lv_at hl 0 rfl) ?_
      refine lv_aload_n hx hb dX0_digestOfKinds_17 rfl (lv_at hl 2 rfl) ?_
      refine gfX hx hb hts hin hown hK hP 0 (by decide) (List.mem_of_getElem? (i := 2) rfl) rfl rfl dX0_digestOfKinds_18 ?_
      refine n_icmp_ge (tgt := 84) hx hb (by omega) (by omega) dX0_digestOfKinds_21 (by decide) (fun c21 => ?_) (fun c21 => ?_)
      · refine lv_lload_n hx hb dX0_digestOfKinds_84 rfl (lv_at hl 1 rfl) ?_
        subst hQ
        exact e_l () hx hb hr hlocks hS hP hD (by rw [hs, show i = k by omega]) (Nat.le_of_ble_eq_true rfl) (Nat.le_of_ble_eq_true rfl) dX0_digestOfKinds_85
      · refine lv_iconst (v := nI 0) hx hb dX0_digestOfKinds_24 (ic_0) ?_
        refine lv_istore (lv' := [(6, .int (nI 0)), (5, .int (nI i)), (3, .long d), (0, .ref (q 0))]) hx hb dX0_digestOfKinds_25 hl (by decide) rfl (fun ls hl => ?_)
        have lp_27 : ∀ (fu_27 : Nat) (wh : Nat) (dd : Int64), 4 - wh < fu_27 → (wh ≤ 4) → (dd = dgI V T B P i d wh) → ∀ (H : Heap) (locs : List Loc), va_P D vwCl (wX q cI cZ cJ k V C T B P A n PR ST li w WK so sp CT SC TA) H → va_D A9 (wX q cI cZ cJ k V C T B P A n PR ST li w WK so sp CT SC TA) → va_S A9 s.heap H locs → ∀ ls : Array Slot, lv_has ls 7 [(6, .int (nI wh)), (3, .long dd), (5, .int (nI i)), (0, .ref (q 0))] → W p l e R s m args below meth c H locs 0 0 Q (F0 m 27 ls []) := by
          intro fu_27
          induction fu_27 with
          | zero =>
            intro wh dd hfu_27
            exact absurd hfu_27 (Nat.not_lt_zero _)
          | succ fu_27 ih_27 =>
            intro wh dd hfu_27 hwh4 hs1 H locs hP hD hS ls hl
            refine lv_iload hx hb dX0_digestOfKinds_27 (lv_at hl 0 rfl) ?_
            refine lv_iconst (v := nI 4) hx hb dX0_digestOfKinds_29 (ic_4) ?_
            refine n_icmp_ge (tgt := 55) hx hb (by omega) (by omega) dX0_digestOfKinds_30 (by decide) (fun c30 => ?_) (fun c30 => ?_)
            · refine lv_lload_n hx hb dX0_digestOfKinds_55 rfl (lv_at hl 1 rfl) ?_
              refine lv_ldc2 (v := (31)) hx hb hown (hts _ (List.mem_of_getElem? (i := 1) rfl)) dX0_digestOfKinds_56 (n_topl (show ((31) : Int64) = lZ 31 from by decide) ?_)
              refine lv_lmul hx hb dX0_digestOfKinds_59 ?_
              refine lv_aload_n hx hb dX0_digestOfKinds_60 rfl (lv_at hl 3 rfl) ?_
              refine gfX hx hb hts hin hown hK hP 6 (by decide) (List.mem_of_getElem? (i := 3) rfl) rfl rfl dX0_digestOfKinds_61 ?_
              refine lv_iload hx hb dX0_digestOfKinds_64 (lv_at hl 2 rfl) ?_
              refine n_zald hx hb hK hP 6 1 rfl rfl (by omega) (by decide) dX0_digestOfKinds_66 ?_
              refine n_if_eq (tgt := 74) hx hb (by have := hA1 i (by omega); omega) dX0_digestOfKinds_67 (by decide) (fun c67 => ?_) (fun c67 => ?_)
              · have hAi : A i = 0 := c67
                have hs2 : dd * (lZ 31) + (lZ ((0 : Nat) : Int)) = dgK V T B P A (hD31 d0 (nI k).toInt64) (i + 1) := by rw [hs1, show wh = 4 by omega, hs]; show _ = hD31 _ (lZ ((A i : Nat) : Int)); rw [hAi]; rfl
                refine lv_iconst (v := nI 0) hx hb dX0_digestOfKinds_74 (ic_0) ?_
                refine n_i2l hx hb (by omega) dX0_digestOfKinds_75 ?_
                refine lv_ladd hx hb dX0_digestOfKinds_76 ?_
                refine lv_lstore_n (lv' := [(3, .long ((dd * (lZ 31)) + (lZ ((0 : Nat) : Int)))), (6, .int (nI wh)), (5, .int (nI i)), (0, .ref (q 0))]) hx hb dX0_digestOfKinds_77 rfl hl (by decide) rfl (fun ls hl => ?_)
                refine lv_iinc (v := nI (i + 1)) (lv' := [(5, .int (nI (i + 1))), (3, .long ((dd * (lZ 31)) + (lZ ((0 : Nat) : Int)))), (6, .int (nI wh)), (0, .ref (q 0))]) hx hb dX0_digestOfKinds_78 hl (k := 2) rfl (ni_inc _ 1) (by decide) rfl (fun ls hl => ?_)
                refine lv_goto (tgt := 15) hx hb dX0_digestOfKinds_81 (by decide) ?_
                exact ih_15 (i + 1) ((dd * (lZ 31)) + (lZ ((0 : Nat) : Int))) (by omega) (by omega) hs2 _ _ hP hD hS ls (lv_sub hl [0, 1, 3] rfl)
              · have hAi : A i = 1 := by have := hA1 i (by omega); omega
                have hs2 : dd * (lZ 31) + (lZ ((1 : Nat) : Int)) = dgK V T B P A (hD31 d0 (nI k).toInt64) (i + 1) := by rw [hs1, show wh = 4 by omega, hs]; show _ = hD31 _ (lZ ((A i : Nat) : Int)); rw [hAi]; rfl
                refine lv_iconst (v := nI 1) hx hb dX0_digestOfKinds_70 (ic_1) ?_
                refine lv_goto (tgt := 75) hx hb dX0_digestOfKinds_71 (by decide) ?_
                refine n_i2l hx hb (by omega) dX0_digestOfKinds_75 ?_
                refine lv_ladd hx hb dX0_digestOfKinds_76 ?_
                refine lv_lstore_n (lv' := [(3, .long ((dd * (lZ 31)) + (lZ ((1 : Nat) : Int)))), (6, .int (nI wh)), (5, .int (nI i)), (0, .ref (q 0))]) hx hb dX0_digestOfKinds_77 rfl hl (by decide) rfl (fun ls hl => ?_)
                refine lv_iinc (v := nI (i + 1)) (lv' := [(5, .int (nI (i + 1))), (3, .long ((dd * (lZ 31)) + (lZ ((1 : Nat) : Int)))), (6, .int (nI wh)), (0, .ref (q 0))]) hx hb dX0_digestOfKinds_78 hl (k := 2) rfl (ni_inc _ 1) (by decide) rfl (fun ls hl => ?_)
                refine lv_goto (tgt := 15) hx hb dX0_digestOfKinds_81 (by decide) ?_
                exact ih_15 (i + 1) ((dd * (lZ 31)) + (lZ ((1 : Nat) : Int))) (by omega) (by omega) hs2 _ _ hP hD hS ls (lv_sub hl [0, 1, 3] rfl)
            · refine lv_lload_n hx hb dX0_digestOfKinds_33 rfl (lv_at hl 1 rfl) ?_
              refine lv_ldc2 (v := (31)) hx hb hown (hts _ (List.mem_of_getElem? (i := 1) rfl)) dX0_digestOfKinds_34 (n_topl (show ((31) : Int64) = lZ 31 from by decide) ?_)
              refine lv_lmul hx hb dX0_digestOfKinds_37 ?_
              refine lv_aload_n hx hb dX0_digestOfKinds_38 rfl (lv_at hl 3 rfl) ?_
              refine lv_iload hx hb dX0_digestOfKinds_39 (lv_at hl 2 rfl) ?_
              refine lv_iload hx hb dX0_digestOfKinds_41 (lv_at hl 0 rfl) ?_
              refine k_i (va_runV (As := [.int (nI i), .int (nI wh)]) (rest := [.long (dd * (lZ 31))]) ⟨hx, hb, hml, hown, hts⟩ (c_X0_toldOfKind l hst D q cI cZ cJ k V C T B P A n PR ST li w WK so sp CT SC TA H.size i wh hk8 (by omega) (by omega)) (cwV 2 hts gX0_digestOfKinds_X0_toldOfKind rfl rfl rfl hd_X0_toldOfKind ⟨(by rw [hR]; exact Nat.le_of_ble_eq_true rfl), (by rw [hR]; exact Nat.le_of_ble_eq_true rfl)⟩) (pre_V hP hK hD hS hA hZ hg 0 (ci := 0) rfl rfl) rfl rfl hl.1 rfl (lv_room (Nat.le_of_ble_eq_true rfl)) dX0_digestOfKinds_43 ⟨(by rw [hR]; exact Nat.le_of_ble_eq_true rfl), (by rw [hR]; exact Nat.le_of_ble_eq_true rfl)⟩) hD hS hA (fun r_2 u_1 H locs hp_3 hP hD hS => ?_)
              subst hp_3
              refine lv_i2l hx hb dX0_digestOfKinds_46 rfl ?_
              refine lv_ladd hx hb dX0_digestOfKinds_47 ?_
              refine lv_lstore_n (lv' := [(3, .long ((dd * (lZ 31)) + ((nI (tld V T B P i wh)).toInt64))), (6, .int (nI wh)), (5, .int (nI i)), (0, .ref (q 0))]) hx hb dX0_digestOfKinds_48 rfl hl (by decide) rfl (fun ls hl => ?_)
              refine lv_iinc (v := nI (wh + 1)) (lv' := [(6, .int (nI (wh + 1))), (3, .long ((dd * (lZ 31)) + ((nI (tld V T B P i wh)).toInt64))), (5, .int (nI i)), (0, .ref (q 0))]) hx hb dX0_digestOfKinds_49 hl (k := 1) rfl (ni_inc _ 1) (by decide) rfl (fun ls hl => ?_)
              refine lv_goto (tgt := 27) hx hb dX0_digestOfKinds_52 (by decide) ?_
              exact ih_27 (wh + 1) ((dd * (lZ 31)) + ((nI (tld V T B P i wh)).toInt64)) (by omega) (by omega) (by rw [hs1]; rfl) _ _ hP hD hS ls (lv_sub hl [0, 1, 2, 3] rfl)
        exact lp_27 _ 0 d (Nat.lt_succ_self _) (by omega) rfl _ _ hP hD hS ls (lv_sub hl [0, 2, 1, 3] rfl)
  exact lp_15 _ 0 ((d0 * (lZ 31)) + ((nI k).toInt64)) (Nat.lt_succ_self _) (by omega) rfl _ _ hP hD hS ls (lv_sub hl [0, 1, 2] rfl)
theorem hd_X0_digestOfKinds : yX0_digestOfKinds.cls = RX0 ∧ yX0_digestOfKinds.cls ≠ "java/lang/invoke/MethodHandle" ∧ yX0_digestOfKinds.cls ≠ "java/lang/invoke/VarHandle" ∧ (parseMethodDescriptor yX0_digestOfKinds.desc).map (fun d => d.parameters.length) = some 1 := by decide +kernel

set_option maxHeartbeats 4000000 in
set_option maxRecDepth 100000 in
theorem c_X0_digest (l : Launch) (hst : l.stackTraces = false) (D : va_G) (q : Nat → Nat) (cI cZ cJ : ClassId) (k : Nat) (V : Nat → Nat) (C : Nat → Nat) (T : Nat → Nat) (B : Nat → Nat) (P : Nat → Nat) (A : Nat → Nat) (n : Nat) (PR : Nat → Nat) (ST : Nat → Nat) (li : Nat) (w : Nat) (WK : Nat → Nat) (so : Nat) (sp : Nat) (CT : Nat → Int64) (SC : Nat → Int) (TA : Nat → Nat) (sz : Nat) (hk8 : k ≤ 8) (hA1 : ∀ i, i < k → A i ≤ 1) (hn10 : n ≤ 10) (hw12 : w ≤ 12) : Met l yX0_digest wsX0_digest ({ frames := 2, cells := 0, slots := 0, locals := 48 }) (va_Pc [.ref (q 0)] (cxP D (ty3 cI cZ cJ) (wX q cI cZ cJ k V C T B P A n PR ST li w WK so sp CT SC TA) sz)) (va_Ql (fun r (_ : Unit) => r = dgs k V T B P A n PR ST li w WK CT) (bW D (va_A (wX q cI cZ cJ k V C T B P A n PR ST li w WK so sp CT SC TA) sz) (fun (_ : Unit) => (wX q cI cZ cJ k V C T B P A n PR ST li w WK so sp CT SC TA))) (va_A (wX q cI cZ cJ k V C T B P A n PR ST li w WK so sp CT SC TA) sz)) 0 0 (va_A (wX q cI cZ cJ k V C T B P A n PR ST li w WK so sp CT SC TA) sz) := by
  refine Met.ofW (cc := cX0_digest) (maxL := 4) (ret := (some .long)) (by decide) rfl ?_
  intro p e s m args below meth c s₁ BB hml hv
  obtain ⟨hav, hsz, hP, hK, hD0, hZ, hg⟩ := hv
  subst hsz
  subst hav
  have hx := BB.exec
  have hb := BB.bytes
  have hr := BB.returns
  have hts := atoms_spec (ws := wsX0_digest) BB.pre
  have hown : s.vm.findClass RX0 = some m.cls := findClass_of_methodNamed BB.named
  have hlocks := BB.notSynchronized
  have hin : ∀ w ∈ wsX00, w ∈ wsX0_digest := fun w h => (List.mem_cons_of_mem _ (List.mem_append_right _ h))
  have hD := hD0.self (sz := s.heap.size)
  have hA : ∀ q9 : Nat, s.heap.size ≤ q9 → va_A (wX q cI cZ cJ k V C T B P A n PR ST li w WK so sp CT SC TA) s.heap.size q9 := fun _ h => Or.inr h
  have hl := lv_entry ([.ref (q 0)]) (n := 4) (Nat.le_of_ble_eq_true rfl)
  rw [lg_entry_eq]
  generalize (lg_sl ([.ref (q 0)]) ++ List.replicate (4 - (lg_sl ([.ref (q 0)])).length) Slot.unset).toArray = ls at hl ⊢
  have hl : lv_has ls 4 [(0, .ref (q 0))] := hl
  refine W_absR (fun R hR => ?_)
  have hR : R = ({ frames := 2, cells := 0, slots := 0, locals := 48 } : Room) := hR
  refine W_absQ (fun Q hQ => ?_)
  generalize ([.ref (q 0)] : List Value).toArray = args at hts hQ ⊢
  generalize va_A (wX q cI cZ cJ k V C T B P A n PR ST li w WK so sp CT SC TA) s.heap.size = A9 at hD hZ hA hQ
  refine W_start hP (A := A9) (fun H locs hP hS => ?_)
  refine lv_aload_n hx hb dX0_digest_0 rfl (lv_at hl 0 rfl) ?_
  refine lv_ldc2 (v := (181)) hx hb hown (hts _ (List.mem_of_getElem? (i := 1) rfl)) dX0_digest_1 (n_topl (show ((181) : Int64) = lZ 181 from by decide) ?_)
  refine k_l (va_runV (As := [.long (lZ 181)]) (rest := []) ⟨hx, hb, hml, hown, hts⟩ (c_X0_digestOfKinds l hst D q cI cZ cJ k V C T B P A n PR ST li w WK so sp CT SC TA H.size (lZ 181) hk8 hA1) (cwV 1 hts gX0_digest_X0_digestOfKinds rfl rfl rfl hd_X0_digestOfKinds ⟨(by rw [hR]; exact Nat.le_of_ble_eq_true rfl), (by rw [hR]; exact Nat.le_of_ble_eq_true rfl)⟩) (pre_V hP hK hD hS hA hZ hg 0 (ci := 0) rfl rfl) rfl rfl hl.1 rfl (lv_room (Nat.le_of_ble_eq_true rfl)) dX0_digest_4 ⟨(by rw [hR]; exact Nat.le_of_ble_eq_true rfl), (by rw [hR]; exact Nat.le_of_ble_eq_true rfl)⟩) hD hS hA (fun r_2 u_1 H locs hp_3 hP hD hS => ?_)
  subst hp_3
  refine lv_lstore_n (lv' := [(1, .long (dgK V T B P A (hD31 (lZ 181) (nI k).toInt64) k)), (0, .ref (q 0))]) hx hb dX0_digest_7 rfl hl (by decide) rfl (fun ls hl => ?_)
  refine lv_lload_n hx hb dX0_digest_8 rfl (lv_at hl 0 rfl) ?_
  refine lv_ldc2 (v := (31)) hx hb hown (hts _ (List.mem_of_getElem? (i := 2) rfl)) dX0_digest_9 (n_topl (show ((31) : Int64) = lZ 31 from by decide) ?_)
  refine lv_lmul hx hb dX0_digest_12 ?_
  refine lv_aload_n hx hb dX0_digest_13 rfl (lv_at hl 1 rfl) ?_
  refine gfX hx hb hts hin hown hK hP 10 (by decide) (List.mem_of_getElem? (i := 3) rfl) rfl rfl dX0_digest_14 ?_
  refine lv_i2l hx hb dX0_digest_17 rfl ?_
  refine lv_ladd hx hb dX0_digest_18 ?_
  refine lv_lstore_n (lv' := [(1, .long (((dgK V T B P A (hD31 (lZ 181) (nI k).toInt64) k) * (lZ 31)) + ((nI li).toInt64))), (0, .ref (q 0))]) hx hb dX0_digest_19 rfl hl (by decide) rfl (fun ls hl => ?_)
  refine lv_lload_n hx hb dX0_digest_20 rfl (lv_at hl 0 rfl) ?_
  refine lv_ldc2 (v := (31)) hx hb hown (hts _ (List.mem_of_getElem? (i := 2) rfl)) dX0_digest_21 (n_topl (show ((31) : Int64) = lZ 31 from by decide) ?_)
  refine lv_lmul hx hb dX0_digest_24 ?_
  refine lv_aload_n hx hb dX0_digest_25 rfl (lv_at hl 1 rfl) ?_
  refine gfX hx hb hts hin hown hK hP 7 (by decide) (List.mem_of_getElem? (i := 4) rfl) rfl rfl dX0_digest_26 ?_
  refine lv_i2l hx hb dX0_digest_29 rfl ?_
  refine lv_ladd hx hb dX0_digest_30 ?_
  refine lv_lstore_n (lv' := [(1, .long (((((dgK V T B P A (hD31 (lZ 181) (nI k).toInt64) k) * (lZ 31)) + ((nI li).toInt64)) * (lZ 31)) + ((nI n).toInt64))), (0, .ref (q 0))]) hx hb dX0_digest_31 rfl hl (by decide) rfl (fun ls hl => ?_)
  refine lv_iconst (v := nI 0) hx hb dX0_digest_32 (ic_0) ?_
  refine lv_istore_n (lv' := [(3, .int (nI 0)), (1, .long (((((dgK V T B P A (hD31 (lZ 181) (nI k).toInt64) k) * (lZ 31)) + ((nI li).toInt64)) * (lZ 31)) + ((nI n).toInt64))), (0, .ref (q 0))]) hx hb dX0_digest_33 rfl hl (by decide) rfl (fun ls hl => ?_)
  have lp_34 : ∀ (fu_34 : Nat) (j : Nat) (d : Int64), n - j < fu_34 → (j ≤ n) → (d = dgP PR ST (hD31 (hD31 (dgK V T B P A (hD31 (lZ 181) (nI k).toInt64) k) (nI li).toInt64) (nI n).toInt64) j) → ∀ (H : Heap) (locs : List Loc), va_P D vwCl (wX q cI cZ cJ k V C T B P A n PR ST li w WK so sp CT SC TA) H → va_D A9 (wX q cI cZ cJ k V C T B P A n PR ST li w WK so sp CT SC TA) → va_S A9 s.heap H locs → ∀ ls : Array Slot, lv_has ls 4 [(3, .int (nI j)), (1, .long d), (0, .ref (q 0))] → W p l e R s m args below meth c H locs 0 0 Q (F0 m 34 ls []) := by
    intro fu_34
    induction fu_34 with
    | zero =>
      intro j d hfu_34
      exact absurd hfu_34 (Nat.not_lt_zero _)
    | succ fu_34 ih_34 =>
      intro j d hfu_34 hj hs H locs hP hD hS ls hl
      refine lv_iload_n hx hb dX0_digest_34 rfl (lv_at hl 0 rfl) ?_
      refine lv_aload_n hx hb dX0_digest_35 rfl (lv_at hl 2 rfl) ?_
      refine gfX hx hb hts hin hown hK hP 7 (by decide) (List.mem_of_getElem? (i := 4) rfl) rfl rfl dX0_digest_36 ?_
      refine n_icmp_ge (tgt := 76) hx hb (by omega) (by omega) dX0_digest_39 (by decide) (fun c39 => ?_) (fun c39 => ?_)
      · refine lv_lload_n hx hb dX0_digest_76 rfl (lv_at hl 1 rfl) ?_
        refine lv_ldc2 (v := (31)) hx hb hown (hts _ (List.mem_of_getElem? (i := 2) rfl)) dX0_digest_77 (n_topl (show ((31) : Int64) = lZ 31 from by decide) ?_)
        refine lv_lmul hx hb dX0_digest_80 ?_
        refine lv_aload_n hx hb dX0_digest_81 rfl (lv_at hl 2 rfl) ?_
        refine gfX hx hb hts hin hown hK hP 11 (by decide) (List.mem_of_getElem? (i := 7) rfl) rfl rfl dX0_digest_82 ?_
        refine lv_i2l hx hb dX0_digest_85 rfl ?_
        refine lv_ladd hx hb dX0_digest_86 ?_
        refine lv_lstore_n (lv' := [(1, .long ((d * (lZ 31)) + ((nI w).toInt64))), (3, .int (nI j)), (0, .ref (q 0))]) hx hb dX0_digest_87 rfl hl (by decide) rfl (fun ls hl => ?_)
        refine lv_iconst (v := nI 0) hx hb dX0_digest_88 (ic_0) ?_
        refine lv_istore_n (lv' := [(3, .int (nI 0)), (1, .long ((d * (lZ 31)) + ((nI w).toInt64))), (0, .ref (q 0))]) hx hb dX0_digest_89 rfl hl (by decide) rfl (fun ls hl => ?_)
        have lp_90 : ∀ (fu_90 : Nat) (j2 : Nat) (d2 : Int64), w - j2 < fu_90 → (j2 ≤ w) → (d2 = dgW WK (hD31 (dgP PR ST (hD31 (hD31 (dgK V T B P A (hD31 (lZ 181) (nI k).toInt64) k) (nI li).toInt64) (nI n).toInt64) n) (nI w).toInt64) j2) → ∀ (H : Heap) (locs : List Loc), va_P D vwCl (wX q cI cZ cJ k V C T B P A n PR ST li w WK so sp CT SC TA) H → va_D A9 (wX q cI cZ cJ k V C T B P A n PR ST li w WK so sp CT SC TA) → va_S A9 s.heap H locs → ∀ ls : Array Slot, lv_has ls 4 [(3, .int (nI j2)), (1, .long d2), (0, .ref (q 0))] → W p l e R s m args below meth c H locs 0 0 Q (F0 m 90 ls []) := by
          intro fu_90
          induction fu_90 with
          | zero =>
            intro j2 d2 hfu_90
            exact absurd hfu_90 (Nat.not_lt_zero _)
          | succ fu_90 ih_90 =>
            intro j2 d2 hfu_90 hj2 hs2 H locs hP hD hS ls hl
            refine lv_iload_n hx hb dX0_digest_90 rfl (lv_at hl 0 rfl) ?_
            refine lv_aload_n hx hb dX0_digest_91 rfl (lv_at hl 2 rfl) ?_
            refine gfX hx hb hts hin hown hK hP 11 (by decide) (List.mem_of_getElem? (i := 7) rfl) rfl rfl dX0_digest_92 ?_
            refine n_icmp_ge (tgt := 118) hx hb (by omega) (by omega) dX0_digest_95 (by decide) (fun c95 => ?_) (fun c95 => ?_)
            · refine lv_iconst (v := nI 0) hx hb dX0_digest_118 (ic_0) ?_
              refine lv_istore_n (lv' := [(3, .int (nI 0)), (1, .long d2), (0, .ref (q 0))]) hx hb dX0_digest_119 rfl hl (by decide) rfl (fun ls hl => ?_)
              have lp_120 : ∀ (fu_120 : Nat) (j3 : Nat) (d3 : Int64), 10 - j3 < fu_120 → (j3 ≤ 10) → (d3 = dgC CT (dgW WK (hD31 (dgP PR ST (hD31 (hD31 (dgK V T B P A (hD31 (lZ 181) (nI k).toInt64) k) (nI li).toInt64) (nI n).toInt64) n) (nI w).toInt64) w) j3) → ∀ (H : Heap) (locs : List Loc), va_P D vwCl (wX q cI cZ cJ k V C T B P A n PR ST li w WK so sp CT SC TA) H → va_D A9 (wX q cI cZ cJ k V C T B P A n PR ST li w WK so sp CT SC TA) → va_S A9 s.heap H locs → ∀ ls : Array Slot, lv_has ls 4 [(3, .int (nI j3)), (1, .long d3), (0, .ref (q 0))] → W p l e R s m args below meth c H locs 0 0 Q (F0 m 120 ls []) := by
                intro fu_120
                induction fu_120 with
                | zero =>
                  intro j3 d3 hfu_120
                  exact absurd hfu_120 (Nat.not_lt_zero _)
                | succ fu_120 ih_120 =>
                  intro j3 d3 hfu_120 hj3 hs3 H locs hP hD hS ls hl
                  refine lv_iload_n hx hb dX0_digest_120 rfl (lv_at hl 0 rfl) ?_
                  refine lv_bipush (v := nI 10) hx hb dX0_digest_121 (by decide) ?_
                  refine n_icmp_ge (tgt := 145) hx hb (by omega) (by omega) dX0_digest_123 (by decide) (fun c123 => ?_) (fun c123 => ?_)
                  · refine lv_lload_n hx hb dX0_digest_145 rfl (lv_at hl 1 rfl) ?_
                    subst hQ
                    exact e_l () hx hb hr hlocks hS hP hD (by rw [hs3, show j3 = 10 by omega]; rfl) (Nat.le_of_ble_eq_true rfl) (Nat.le_of_ble_eq_true rfl) dX0_digest_146
                  · refine lv_lload_n hx hb dX0_digest_126 rfl (lv_at hl 1 rfl) ?_
                    refine lv_ldc2 (v := (31)) hx hb hown (hts _ (List.mem_of_getElem? (i := 2) rfl)) dX0_digest_127 (n_topl (show ((31) : Int64) = lZ 31 from by decide) ?_)
                    refine lv_lmul hx hb dX0_digest_130 ?_
                    refine lv_aload_n hx hb dX0_digest_131 rfl (lv_at hl 2 rfl) ?_
                    refine gfX hx hb hts hin hown hK hP 15 (by decide) (List.mem_of_getElem? (i := 9) rfl) rfl rfl dX0_digest_132 ?_
                    refine lv_iload_n hx hb dX0_digest_135 rfl (lv_at hl 0 rfl) ?_
                    refine n_lald hx hb hK hP 10 2 rfl rfl (by omega) (by decide) dX0_digest_136 ?_
                    refine lv_ladd hx hb dX0_digest_137 ?_
                    refine lv_lstore_n (lv' := [(1, .long ((d3 * (lZ 31)) + (CT j3))), (3, .int (nI j3)), (0, .ref (q 0))]) hx hb dX0_digest_138 rfl hl (by decide) rfl (fun ls hl => ?_)
                    refine lv_iinc (v := nI (j3 + 1)) (lv' := [(3, .int (nI (j3 + 1))), (1, .long ((d3 * (lZ 31)) + (CT j3))), (0, .ref (q 0))]) hx hb dX0_digest_139 hl (k := 1) rfl (ni_inc _ 1) (by decide) rfl (fun ls hl => ?_)
                    refine lv_goto (tgt := 120) hx hb dX0_digest_142 (by decide) ?_
                    exact ih_120 (j3 + 1) ((d3 * (lZ 31)) + (CT j3)) (by omega) (by omega) (by rw [hs3]; rfl) _ _ hP hD hS ls (lv_sub hl [0, 1, 2] rfl)
              exact lp_120 _ 0 d2 (Nat.lt_succ_self _) (by omega) (by rw [hs2, show j2 = w by omega]; rfl) _ _ hP hD hS ls (lv_sub hl [0, 1, 2] rfl)
            · refine lv_lload_n hx hb dX0_digest_98 rfl (lv_at hl 1 rfl) ?_
              refine lv_ldc2 (v := (31)) hx hb hown (hts _ (List.mem_of_getElem? (i := 2) rfl)) dX0_digest_99 (n_topl (show ((31) : Int64) = lZ 31 from by decide) ?_)
              refine lv_lmul hx hb dX0_digest_102 ?_
              refine lv_aload_n hx hb dX0_digest_103 rfl (lv_at hl 2 rfl) ?_
              refine gfX hx hb hts hin hown hK hP 12 (by decide) (List.mem_of_getElem? (i := 8) rfl) rfl rfl dX0_digest_104 ?_
              refine lv_iload_n hx hb dX0_digest_107 rfl (lv_at hl 0 rfl) ?_
              refine n_iald hx hb hK hP 9 0 rfl rfl (by omega) (by decide) dX0_digest_108 ?_
              refine lv_i2l hx hb dX0_digest_109 rfl ?_
              refine lv_ladd hx hb dX0_digest_110 ?_
              refine lv_lstore_n (lv' := [(1, .long ((d2 * (lZ 31)) + ((nI (WK j2)).toInt64))), (3, .int (nI j2)), (0, .ref (q 0))]) hx hb dX0_digest_111 rfl hl (by decide) rfl (fun ls hl => ?_)
              refine lv_iinc (v := nI (j2 + 1)) (lv' := [(3, .int (nI (j2 + 1))), (1, .long ((d2 * (lZ 31)) + ((nI (WK j2)).toInt64))), (0, .ref (q 0))]) hx hb dX0_digest_112 hl (k := 1) rfl (ni_inc _ 1) (by decide) rfl (fun ls hl => ?_)
              refine lv_goto (tgt := 90) hx hb dX0_digest_115 (by decide) ?_
              exact ih_90 (j2 + 1) ((d2 * (lZ 31)) + ((nI (WK j2)).toInt64)) (by omega) (by omega) (by rw [hs2]; rfl) _ _ hP hD hS ls (lv_sub hl [0, 1, 2] rfl)
        exact lp_90 _ 0 ((d * (lZ 31)) + ((nI w).toInt64)) (Nat.lt_succ_self _) (by omega) (by rw [hs, show j = n by omega]; rfl) _ _ hP hD hS ls (lv_sub hl [0, 1, 2] rfl)
      · refine lv_lload_n hx hb dX0_digest_42 rfl (lv_at hl 1 rfl) ?_
        refine lv_ldc2 (v := (31)) hx hb hown (hts _ (List.mem_of_getElem? (i := 2) rfl)) dX0_digest_43 (n_topl (show ((31) : Int64) = lZ 31 from by decide) ?_)
        refine lv_lmul hx hb dX0_digest_46 ?_
        refine lv_aload_n hx hb dX0_digest_47 rfl (lv_at hl 2 rfl) ?_
        refine gfX hx hb hts hin hown hK hP 8 (by decide) (List.mem_of_getElem? (i := 5) rfl) rfl rfl dX0_digest_48 ?_
        refine lv_iload_n hx hb dX0_digest_51 rfl (lv_at hl 0 rfl) ?_
        refine n_iald hx hb hK hP 7 0 rfl rfl (by omega) (by decide) dX0_digest_52 ?_
        refine lv_i2l hx hb dX0_digest_53 rfl ?_
        refine lv_ladd hx hb dX0_digest_54 ?_
        refine lv_lstore_n (lv' := [(1, .long ((d * (lZ 31)) + ((nI (PR j)).toInt64))), (3, .int (nI j)), (0, .ref (q 0))]) hx hb dX0_digest_55 rfl hl (by decide) rfl (fun ls hl => ?_)
        refine lv_lload_n hx hb dX0_digest_56 rfl (lv_at hl 0 rfl) ?_
        refine lv_ldc2 (v := (31)) hx hb hown (hts _ (List.mem_of_getElem? (i := 2) rfl)) dX0_digest_57 (n_topl (show ((31) : Int64) = lZ 31 from by decide) ?_)
        refine lv_lmul hx hb dX0_digest_60 ?_
        refine lv_aload_n hx hb dX0_digest_61 rfl (lv_at hl 2 rfl) ?_
        refine gfX hx hb hts hin hown hK hP 9 (by decide) (List.mem_of_getElem? (i := 6) rfl) rfl rfl dX0_digest_62 ?_
        refine lv_iload_n hx hb dX0_digest_65 rfl (lv_at hl 1 rfl) ?_
        refine n_iald hx hb hK hP 8 0 rfl rfl (by omega) (by decide) dX0_digest_66 ?_
        refine lv_i2l hx hb dX0_digest_67 rfl ?_
        refine lv_ladd hx hb dX0_digest_68 ?_
        refine lv_lstore_n (lv' := [(1, .long ((((d * (lZ 31)) + ((nI (PR j)).toInt64)) * (lZ 31)) + ((nI (ST j)).toInt64))), (3, .int (nI j)), (0, .ref (q 0))]) hx hb dX0_digest_69 rfl hl (by decide) rfl (fun ls hl => ?_)
        refine lv_iinc (v := nI (j + 1)) (lv' := [(3, .int (nI (j + 1))), (1, .long ((((d * (lZ 31)) + ((nI (PR j)).toInt64)) * (lZ 31)) + ((nI (ST j)).toInt64))), (0, .ref (q 0))]) hx hb dX0_digest_70 hl (k := 1) rfl (ni_inc _ 1) (by decide) rfl (fun ls hl => ?_)
        refine lv_goto (tgt := 34) hx hb dX0_digest_73 (by decide) ?_
        exact ih_34 (j + 1) ((((d * (lZ 31)) + ((nI (PR j)).toInt64)) * (lZ 31)) + ((nI (ST j)).toInt64)) (by omega) (by omega) (by rw [hs]; rfl) _ _ hP hD hS ls (lv_sub hl [0, 1, 2] rfl)
  exact lp_34 _ 0 (((((dgK V T B P A (hD31 (lZ 181) (nI k).toInt64) k) * (lZ 31)) + ((nI li).toInt64)) * (lZ 31)) + ((nI n).toInt64)) (Nat.lt_succ_self _) (by omega) rfl _ _ hP hD hS ls (lv_sub hl [0, 1, 2] rfl)
theorem hd_X0_digest : yX0_digest.cls = RX0 ∧ yX0_digest.cls ≠ "java/lang/invoke/MethodHandle" ∧ yX0_digest.cls ≠ "java/lang/invoke/VarHandle" ∧ (parseMethodDescriptor yX0_digest.desc).map (fun d => d.parameters.length) = some 0 := by decide +kernel
