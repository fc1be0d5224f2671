set_option maxHeartbeats 4000000 in
set_option maxRecDepth 100000 in
theorem c_X1_addKind (l : Launch) (hst : l.stackTraces = false) (D : va_G) (q : Nat → Nat) (cI cZ cJ : ClassId) (th : Nat) (k : Nat) (V : Nat → Nat) (C : Nat → Nat) (A : Nat → Nat) (T : Nat → Nat) (B : Nat → Nat) (P : Nat → Nat) (OR : Nat → Nat) (n : Nat) (PR : Nat → Nat) (ST : Nat → Nat) (li : Nat) (w : Nat) (WK : Nat → Nat) (so : Nat) (sp : Nat) (CT : Nat → Int64) (FW : Nat → Nat) (sz : Nat) (p0 : Int32) (p1 : Int32) (hk8 : k ≤ 8) (hV : ∀ i, i < k → 1 ≤ V i ∧ V i ≤ 500) (hOR : ordOK V OR k) : Met l yX1_addKind wsX1_addKind ({ frames := 1, cells := 0, slots := 0, locals := 21 }) (va_Pc [.ref (q 0), .int p0, .int p1] (cxP D (ty3 cI cZ cJ) (wM q cI cZ cJ th k V C A T B P OR n PR ST li w WK so sp CT FW) sz)) (va_Qi (fun r (u : Nat × Nat × Nat × (Nat → Nat) × (Nat → Nat) × (Nat → Nat) × (Nat → Nat)) => r = nI u.1 ∧ ((u.2.1 = 0 ∧ ∃ i j, 1 ≤ i ∧ i < 501 ∧ j < 61 ∧ p0 = nI i ∧ p1 = nI j ∧ k < 8 ∧ (¬ ∃ x, x < k ∧ V x = i) ∧ u.1 = k ∧ u.2.2.1 = k + 1 ∧ u.2.2.2.1 = un V k i ∧ u.2.2.2.2.1 = un C k j ∧ u.2.2.2.2.2.1 = un A k 1 ∧ ordOK (un V k i) u.2.2.2.2.2.2 (k + 1)) ∨ (u.2.1 = 1 ∧ ¬ (rg p0 1 501 ∧ rg p1 0 61) ∧ u.2.2.1 = k ∧ u.2.2.2.1 = V ∧ u.2.2.2.2.1 = C ∧ u.2.2.2.2.2.1 = A ∧ u.2.2.2.2.2.2 = OR) ∨ (u.2.1 = 2 ∧ (rg p0 1 501 ∧ rg p1 0 61) ∧ (¬ k < 8 ∨ ∃ x, x < k ∧ nI (V x) = p0) ∧ u.2.2.1 = k ∧ u.2.2.2.1 = V ∧ u.2.2.2.2.1 = C ∧ u.2.2.2.2.2.1 = A ∧ u.2.2.2.2.2.2 = OR))) (bW D (va_A (wM q cI cZ cJ th k V C A T B P OR n PR ST li w WK so sp CT FW) sz) (fun u => (wM q cI cZ cJ u.2.1 u.2.2.1 u.2.2.2.1 u.2.2.2.2.1 u.2.2.2.2.2.1 T B P u.2.2.2.2.2.2 n PR ST li w WK so sp CT FW))) (va_A (wM q cI cZ cJ th k V C A T B P OR n PR ST li w WK so sp CT FW) sz)) 0 0 (va_A (wM q cI cZ cJ th k V C A T B P OR n PR ST li w WK so sp CT FW) sz) := by
  refine Met.ofW (cc := cX1_addKind) (maxL := 4) (ret := (some .int)) (by decide) rfl ?_
  intro p e s m args below meth c s₁ BB hml hv
  obtain ⟨hav, hsz, hP, hK, hD0, hZ, hg⟩ := hv
  subst hsz
  subst hav
  have hx := BB.exec
  have hb := BB.bytes
  have hr := BB.returns
  have hts := atoms_spec (ws := wsX1_addKind) BB.pre
  have hown : s.vm.findClass RX1 = some m.cls := findClass_of_methodNamed BB.named
  have hlocks := BB.notSynchronized
  have hin : ∀ w ∈ wsX10, w ∈ wsX1_addKind := fun w h => (List.mem_cons_of_mem _ (List.mem_append_right _ h))
  have hD := hD0.self (sz := s.heap.size)
  have hA : ∀ q9 : Nat, s.heap.size ≤ q9 → va_A (wM q cI cZ cJ th k V C A T B P OR n PR ST li w WK so sp CT FW) s.heap.size q9 := fun _ h => Or.inr h
  have hl := lv_entry ([.ref (q 0), .int p0, .int p1]) (n := 4) (Nat.le_of_ble_eq_true rfl)
  rw [lg_entry_eq]
  generalize (lg_sl ([.ref (q 0), .int p0, .int p1]) ++ List.replicate (4 - (lg_sl ([.ref (q 0), .int p0, .int p1])).length) Slot.unset).toArray = ls at hl ⊢
  have hl : lv_has ls 4 [(0, .ref (q 0)), (1, .int p0), (2, .int p1)] := hl
  refine W_absR (fun R hR => ?_)
  have hR : R = ({ frames := 1, cells := 0, slots := 0, locals := 21 } : Room) := hR
  refine W_absQ (fun Q hQ => ?_)
  generalize ([.ref (q 0), .int p0, .int p1] : List Value).toArray = args at hts hQ ⊢
  generalize va_A (wM q cI cZ cJ th k V C A T B P OR n PR ST li w WK so sp CT FW) s.heap.size = A9 at hD hZ hA hQ
  refine W_start hP (A := A9) (fun H locs hP hS => ?_)
  refine lv_aload_n hx hb dX1_addKind_0 rfl (lv_at hl 0 rfl) ?_
  refine lv_iconst (v := nI 0) hx hb dX1_addKind_1 (ic_0) ?_
  refine pfM (ws' := (wM q cI cZ cJ 0 k V C A T B P OR n PR ST li w WK so sp CT FW)) hx hb hts hin hown hK hP hD hS 0 (by decide) (List.mem_of_getElem? (i := 1) rfl) rfl ⟨rfl, rfl⟩ rfl rfl dX1_addKind_2 (fun H locs hP hD hS => ?_)
  refine lv_iload_n hx hb dX1_addKind_5 rfl (lv_at hl 1 rfl) ?_
  refine lv_iconst (v := nI 1) hx hb dX1_addKind_6 (ic_1) ?_
  refine lv_icmp_lt (tgt := 27) hx hb dX1_addKind_7 (by decide) (fun c7 => ?_) (fun c7 => ?_)
  · have hno : ¬ (rg p0 1 501 ∧ rg p1 0 61) := fun z => (show ¬ rg p0 1 501 by rw [rg_iff (by omega)]; simp only [Int32.lt_iff_toInt_lt, Int32.le_iff_toInt_le, Int32.toInt_zero, nI_toInt (show 1 < 2 ^ 31 by omega)] at c7; omega) z.1
    refine lv_aload_n hx hb dX1_addKind_27 rfl (lv_at hl 0 rfl) ?_
    refine lv_iconst (v := nI 1) hx hb dX1_addKind_28 (ic_1) ?_
    refine k_i (va_runV (As := [.int (nI 1)]) (rest := []) ⟨hx, hb, hml, hown, hts⟩ (c_X1_fail l hst D q cI cZ cJ 0 k V C A T B P OR n PR ST li w WK so sp CT FW H.size 1) (cwV 1 hts gX1_addKind_X1_fail rfl rfl rfl hd_X1_fail ⟨(by rw [hR]; exact Nat.le_of_ble_eq_true rfl), (by rw [hR]; exact Nat.le_of_ble_eq_true rfl)⟩) (pre_V hP hK hD hS hA hZ hg 0 (ci := 1) rfl rfl) rfl rfl hl.1 rfl (lv_room (Nat.le_of_ble_eq_true rfl)) dX1_addKind_29 ⟨(by rw [hR]; exact Nat.le_of_ble_eq_true rfl), (by rw [hR]; exact Nat.le_of_ble_eq_true rfl)⟩) hD hS hA (fun r_2 u_1 H locs hp_3 hP hD hS => ?_)
    subst hp_3
    subst hQ
    exact e_i (0, 1, k, V, C, A, OR) hx hb hr hlocks hS hP hD (⟨rfl, Or.inr (Or.inl ⟨rfl, hno, rfl, rfl, rfl, rfl, rfl⟩)⟩) (Nat.le_of_ble_eq_true rfl) (Nat.le_of_ble_eq_true rfl) dX1_addKind_32
  · refine lv_iload_n hx hb dX1_addKind_10 rfl (lv_at hl 1 rfl) ?_
    refine lv_sipush (v := nI 500) hx hb dX1_addKind_11 (by decide) ?_
    refine lv_icmp_gt (tgt := 27) hx hb dX1_addKind_14 (by decide) (fun c14 => ?_) (fun c14 => ?_)
    · have hno : ¬ (rg p0 1 501 ∧ rg p1 0 61) := fun z => (show ¬ rg p0 1 501 by rw [rg_iff (by omega)]; simp only [Int32.lt_iff_toInt_lt, Int32.le_iff_toInt_le, Int32.toInt_zero, nI_toInt (show 500 < 2 ^ 31 by omega)] at c14; omega) z.1
      refine lv_aload_n hx hb dX1_addKind_27 rfl (lv_at hl 0 rfl) ?_
      refine lv_iconst (v := nI 1) hx hb dX1_addKind_28 (ic_1) ?_
      refine k_i (va_runV (As := [.int (nI 1)]) (rest := []) ⟨hx, hb, hml, hown, hts⟩ (c_X1_fail l hst D q cI cZ cJ 0 k V C A T B P OR n PR ST li w WK so sp CT FW H.size 1) (cwV 1 hts gX1_addKind_X1_fail rfl rfl rfl hd_X1_fail ⟨(by rw [hR]; exact Nat.le_of_ble_eq_true rfl), (by rw [hR]; exact Nat.le_of_ble_eq_true rfl)⟩) (pre_V hP hK hD hS hA hZ hg 0 (ci := 1) rfl rfl) rfl rfl hl.1 rfl (lv_room (Nat.le_of_ble_eq_true rfl)) dX1_addKind_29 ⟨(by rw [hR]; exact Nat.le_of_ble_eq_true rfl), (by rw [hR]; exact Nat.le_of_ble_eq_true rfl)⟩) hD hS hA (fun r_5 u_4 H locs hp_6 hP hD hS => ?_)
      subst hp_6
      subst hQ
      exact e_i (0, 1, k, V, C, A, OR) hx hb hr hlocks hS hP hD (⟨rfl, Or.inr (Or.inl ⟨rfl, hno, rfl, rfl, rfl, rfl, rfl⟩)⟩) (Nat.le_of_ble_eq_true rfl) (Nat.le_of_ble_eq_true rfl) dX1_addKind_32
    · refine lv_iload_n hx hb dX1_addKind_17 rfl (lv_at hl 2 rfl) ?_
      refine lv_if_lt (tgt := 27) hx hb dX1_addKind_18 (by decide) (fun c18 => ?_) (fun c18 => ?_)
      · have hno : ¬ (rg p0 1 501 ∧ rg p1 0 61) := fun z => (show ¬ rg p1 0 61 by rw [rg_iff (by omega)]; simp only [Int32.lt_iff_toInt_lt, Int32.le_iff_toInt_le, Int32.toInt_zero] at c18; omega) z.2
        refine lv_aload_n hx hb dX1_addKind_27 rfl (lv_at hl 0 rfl) ?_
        refine lv_iconst (v := nI 1) hx hb dX1_addKind_28 (ic_1) ?_
        refine k_i (va_runV (As := [.int (nI 1)]) (rest := []) ⟨hx, hb, hml, hown, hts⟩ (c_X1_fail l hst D q cI cZ cJ 0 k V C A T B P OR n PR ST li w WK so sp CT FW H.size 1) (cwV 1 hts gX1_addKind_X1_fail rfl rfl rfl hd_X1_fail ⟨(by rw [hR]; exact Nat.le_of_ble_eq_true rfl), (by rw [hR]; exact Nat.le_of_ble_eq_true rfl)⟩) (pre_V hP hK hD hS hA hZ hg 0 (ci := 1) rfl rfl) rfl rfl hl.1 rfl (lv_room (Nat.le_of_ble_eq_true rfl)) dX1_addKind_29 ⟨(by rw [hR]; exact Nat.le_of_ble_eq_true rfl), (by rw [hR]; exact Nat.le_of_ble_eq_true rfl)⟩) hD hS hA (fun r_8 u_7 H locs hp_9 hP hD hS => ?_)
        subst hp_9
        subst hQ
        exact e_i (0, 1, k, V, C, A, OR) hx hb hr hlocks hS hP hD (⟨rfl, Or.inr (Or.inl ⟨rfl, hno, rfl, rfl, rfl, rfl, rfl⟩)⟩) (Nat.le_of_ble_eq_true rfl) (Nat.le_of_ble_eq_true rfl) dX1_addKind_32
      · refine lv_iload_n hx hb dX1_addKind_21 rfl (lv_at hl 2 rfl) ?_
        refine lv_bipush (v := nI 60) hx hb dX1_addKind_22 (by decide) ?_
        refine lv_icmp_le (tgt := 33) hx hb dX1_addKind_24 (by decide) (fun c24 => ?_) (fun c24 => ?_)
        · obtain ⟨j0, j0a, j0b, rfl⟩ : rg p0 1 501 := by rw [rg_iff (by omega)]; simp only [Int32.lt_iff_toInt_lt, Int32.le_iff_toInt_le, Int32.toInt_zero, nI_toInt (show 1 < 2 ^ 31 by omega), nI_toInt (show 500 < 2 ^ 31 by omega)] at c7 c14; omega
          obtain ⟨j1, j1a, j1b, rfl⟩ : rg p1 0 61 := by rw [rg_iff (by omega)]; simp only [Int32.lt_iff_toInt_lt, Int32.le_iff_toInt_le, Int32.toInt_zero, nI_toInt (show 60 < 2 ^ 31 by omega)] at c18 c24; omega
          refine lv_aload_n hx hb dX1_addKind_33 rfl (lv_at hl 0 rfl) ?_
          refine gfM hx hb hts hin hown hK hP 1 (by decide) (List.mem_of_getElem? (i := 2) rfl) rfl rfl dX1_addKind_34 ?_
          refine lv_bipush (v := nI 8) hx hb dX1_addKind_37 (by decide) ?_
          refine n_icmp_ne (tgt := 48) hx hb (by omega) (by omega) dX1_addKind_39 (by decide) (fun c39 => ?_) (fun c39 => ?_)
          · refine lv_iconst (v := nI 0) hx hb dX1_addKind_48 (ic_0) ?_
            refine lv_istore_n (lv' := [(3, .int (nI 0)), (0, .ref (q 0)), (1, .int (nI j0)), (2, .int (nI j1))]) hx hb dX1_addKind_49 rfl hl (by decide) rfl (fun ls hl => ?_)
            have lp_50 : ∀ (fu_50 : Nat) (i : Nat), k - i < fu_50 → (i ≤ k) → (∀ x, x < i → V x ≠ j0) → ∀ (H : Heap) (locs : List Loc), va_P D vwCl (wM q cI cZ cJ 0 k V C A T B P OR n PR ST li w WK so sp CT FW) H → va_D A9 (wM q cI cZ cJ 0 k V C A T B P OR n PR ST li w WK so sp CT FW) → va_S A9 s.heap H locs → ∀ ls : Array Slot, lv_has ls 4 [(3, .int (nI i)), (0, .ref (q 0)), (1, .int (nI j0)), (2, .int (nI j1))] → W p l e R s m args below meth c H locs 0 0 Q (F0 m 50 ls []) := by
              intro fu_50
              induction fu_50 with
              | zero =>
                intro i hfu_50
                exact absurd hfu_50 (Nat.not_lt_zero _)
              | succ fu_50 ih_50 =>
                intro i hfu_50 hi hs H locs hP hD hS ls hl
                refine lv_iload_n hx hb dX1_addKind_50 rfl (lv_at hl 0 rfl) ?_
                refine lv_aload_n hx hb dX1_addKind_51 rfl (lv_at hl 1 rfl) ?_
                refine gfM hx hb hts hin hown hK hP 1 (by decide) (List.mem_of_getElem? (i := 2) rfl) rfl rfl dX1_addKind_52 ?_
                refine n_icmp_ge (tgt := 80) hx hb (by omega) (by omega) dX1_addKind_55 (by decide) (fun c55 => ?_) (fun c55 => ?_)
                · have hnx : ¬ ∃ x, x < k ∧ V x = j0 := fun ⟨x, h1, h2⟩ => hs x (by omega) h2
                  refine lv_aload_n hx hb dX1_addKind_80 rfl (lv_at hl 1 rfl) ?_
                  refine gfM hx hb hts hin hown hK hP 2 (by decide) (List.mem_of_getElem? (i := 3) rfl) rfl rfl dX1_addKind_81 ?_
                  refine lv_aload_n hx hb dX1_addKind_84 rfl (lv_at hl 1 rfl) ?_
                  refine gfM hx hb hts hin hown hK hP 1 (by decide) (List.mem_of_getElem? (i := 2) rfl) rfl rfl dX1_addKind_85 ?_
                  refine lv_iload_n hx hb dX1_addKind_88 rfl (lv_at hl 2 rfl) ?_
                  refine n_iast (ws' := (wM q cI cZ cJ 0 k (un V k j0) C A T B P OR n PR ST li w WK so sp CT FW)) hx hb hK hP hD hS 1 0 rfl rfl (by omega) (by decide) rfl dX1_addKind_89 (fun H locs hP hD hS => ?_)
                  refine lv_aload_n hx hb dX1_addKind_90 rfl (lv_at hl 1 rfl) ?_
                  refine gfM hx hb hts hin hown hK hP 3 (by decide) (List.mem_of_getElem? (i := 4) rfl) rfl rfl dX1_addKind_91 ?_
                  refine lv_aload_n hx hb dX1_addKind_94 rfl (lv_at hl 1 rfl) ?_
                  refine gfM hx hb hts hin hown hK hP 1 (by decide) (List.mem_of_getElem? (i := 2) rfl) rfl rfl dX1_addKind_95 ?_
                  refine lv_iload_n hx hb dX1_addKind_98 rfl (lv_at hl 3 rfl) ?_
                  refine n_iast (ws' := (wM q cI cZ cJ 0 k (un V k j0) (un C k j1) A T B P OR n PR ST li w WK so sp CT FW)) hx hb hK hP hD hS 2 0 rfl rfl (by omega) (by decide) rfl dX1_addKind_99 (fun H locs hP hD hS => ?_)
                  refine lv_aload_n hx hb dX1_addKind_100 rfl (lv_at hl 1 rfl) ?_
                  refine gfM hx hb hts hin hown hK hP 4 (by decide) (List.mem_of_getElem? (i := 5) rfl) rfl rfl dX1_addKind_101 ?_
                  refine lv_aload_n hx hb dX1_addKind_104 rfl (lv_at hl 1 rfl) ?_
                  refine gfM hx hb hts hin hown hK hP 1 (by decide) (List.mem_of_getElem? (i := 2) rfl) rfl rfl dX1_addKind_105 ?_
                  refine lv_iconst (v := nI 1) hx hb dX1_addKind_108 (ic_1) ?_
                  refine n_zast (ws' := (wM q cI cZ cJ 0 k (un V k j0) (un C k j1) (un A k 1) T B P OR n PR ST li w WK so sp CT FW)) hx hb hK hP hD hS 3 1 rfl rfl (by omega) (by omega) (by decide) rfl dX1_addKind_109 (fun H locs hP hD hS => ?_)
                  refine lv_aload_n hx hb dX1_addKind_110 rfl (lv_at hl 1 rfl) ?_
                  refine gfM hx hb hts hin hown hK hP 1 (by decide) (List.mem_of_getElem? (i := 2) rfl) rfl rfl dX1_addKind_111 ?_
                  refine lv_istore_n (lv' := [(3, .int (nI k)), (0, .ref (q 0)), (1, .int (nI j0)), (2, .int (nI j1))]) hx hb dX1_addKind_114 rfl hl (by decide) rfl (fun ls hl => ?_)
                  have lp_115 : ∀ (fu_115 : Nat) (pl : Nat) (OX : Nat → Nat), pl < fu_115 → (pl ≤ k) → (∀ j, j < pl → OX j = OR j) → (∀ j, pl < j → j ≤ k → OX j = OR (j - 1)) → (∀ j, pl ≤ j → j < k → j0 < V (OR j)) → ∀ (H : Heap) (locs : List Loc), va_P D vwCl (wM q cI cZ cJ 0 k (un V k j0) (un C k j1) (un A k 1) T B P OX n PR ST li w WK so sp CT FW) H → va_D A9 (wM q cI cZ cJ 0 k (un V k j0) (un C k j1) (un A k 1) T B P OX n PR ST li w WK so sp CT FW) → va_S A9 s.heap H locs → ∀ ls : Array Slot, lv_has ls 4 [(3, .int (nI pl)), (0, .ref (q 0)), (1, .int (nI j0)), (2, .int (nI j1))] → W p l e R s m args below meth c H locs 0 0 Q (F0 m 115 ls []) := by
                    intro fu_115
                    induction fu_115 with
                    | zero =>
                      intro pl OX hfu_115
                      exact absurd hfu_115 (Nat.not_lt_zero _)
                    | succ fu_115 ih_115 =>
                      intro pl OX hfu_115 hpl h1 h2 hgt H locs hP hD hS ls hl
                      refine lv_iload_n hx hb dX1_addKind_115 rfl (lv_at hl 0 rfl) ?_
                      refine n_if_le (tgt := 156) hx hb (by omega) dX1_addKind_116 (by decide) (fun c116 => ?_) (fun c116 => ?_)
                      · have hlo : ∀ j, j < pl → V (OR j) < j0 := fun j hj => absurd hj (by omega)
                        have hord := ord_ins hOR hpl h1 h2 hlo hgt
                        refine lv_aload_n hx hb dX1_addKind_156 rfl (lv_at hl 1 rfl) ?_
                        refine gfM hx hb hts hin hown hK hP 8 (by decide) (List.mem_of_getElem? (i := 6) rfl) rfl rfl dX1_addKind_157 ?_
                        refine lv_iload_n hx hb dX1_addKind_160 rfl (lv_at hl 0 rfl) ?_
                        refine lv_aload_n hx hb dX1_addKind_161 rfl (lv_at hl 1 rfl) ?_
                        refine gfM hx hb hts hin hown hK hP 1 (by decide) (List.mem_of_getElem? (i := 2) rfl) rfl rfl dX1_addKind_162 ?_
                        refine n_iast (ws' := (wM q cI cZ cJ 0 k (un V k j0) (un C k j1) (un A k 1) T B P (un OX pl k) n PR ST li w WK so sp CT FW)) hx hb hK hP hD hS 7 0 rfl rfl (by omega) (by decide) rfl dX1_addKind_165 (fun H locs hP hD hS => ?_)
                        refine lv_aload_n hx hb dX1_addKind_166 rfl (lv_at hl 1 rfl) ?_
                        refine lv_dup hx hb dX1_addKind_167 rfl ?_
                        refine gfM hx hb hts hin hown hK hP 1 (by decide) (List.mem_of_getElem? (i := 2) rfl) rfl rfl dX1_addKind_168 ?_
                        refine lv_iconst (v := nI 1) hx hb dX1_addKind_171 (ic_1) ?_
                        refine n_iadd hx hb dX1_addKind_172 ?_
                        refine pfM (ws' := (wM q cI cZ cJ 0 (k + 1) (un V k j0) (un C k j1) (un A k 1) T B P (un OX pl k) n PR ST li w WK so sp CT FW)) hx hb hts hin hown hK hP hD hS 1 (by decide) (List.mem_of_getElem? (i := 2) rfl) rfl ⟨rfl, rfl⟩ rfl rfl dX1_addKind_173 (fun H locs hP hD hS => ?_)
                        refine lv_aload_n hx hb dX1_addKind_176 rfl (lv_at hl 1 rfl) ?_
                        refine gfM hx hb hts hin hown hK hP 1 (by decide) (List.mem_of_getElem? (i := 2) rfl) rfl rfl dX1_addKind_177 ?_
                        refine lv_iconst (v := nI 1) hx hb dX1_addKind_180 (ic_1) ?_
                        refine n_isub hx hb (by omega) dX1_addKind_181 ?_
                        refine n_top (congrArg nI (show (k + 1) - 1 = k by omega)) ?_
                        subst hQ
                        exact e_i (k, 0, k + 1, un V k j0, un C k j1, un A k 1, un OX pl k) hx hb hr hlocks hS hP hD (⟨rfl, Or.inl ⟨rfl, j0, j1, j0a, j0b, j1b, rfl, rfl, by omega, hnx, rfl, rfl, rfl, rfl, rfl, hord⟩⟩) (Nat.le_of_ble_eq_true rfl) (Nat.le_of_ble_eq_true rfl) dX1_addKind_182
                      · refine lv_aload_n hx hb dX1_addKind_119 rfl (lv_at hl 1 rfl) ?_
                        refine gfM hx hb hts hin hown hK hP 2 (by decide) (List.mem_of_getElem? (i := 3) rfl) rfl rfl dX1_addKind_120 ?_
                        refine lv_aload_n hx hb dX1_addKind_123 rfl (lv_at hl 1 rfl) ?_
                        refine gfM hx hb hts hin hown hK hP 8 (by decide) (List.mem_of_getElem? (i := 6) rfl) rfl rfl dX1_addKind_124 ?_
                        refine lv_iload_n hx hb dX1_addKind_127 rfl (lv_at hl 0 rfl) ?_
                        refine lv_iconst (v := nI 1) hx hb dX1_addKind_128 (ic_1) ?_
                        refine n_isub hx hb (by omega) dX1_addKind_129 ?_
                        refine n_iald hx hb hK hP 7 0 rfl rfl (by omega) (by decide) dX1_addKind_130 ?_
                        refine n_top (congrArg nI (show OX (pl - 1) = OR (pl - 1) from h1 (pl - 1) (by omega))) ?_
                        refine n_iald hx hb hK hP 1 0 rfl rfl (by have := hOR.1 (pl - 1) (by omega); omega) (by decide) dX1_addKind_131 ?_
                        refine n_top (congrArg nI (show (un V k j0) (OR (pl - 1)) = V (OR (pl - 1)) from un_n (by have := hOR.1 (pl - 1) (by omega); omega))) ?_
                        refine lv_iload_n hx hb dX1_addKind_132 rfl (lv_at hl 2 rfl) ?_
                        refine n_icmp_le (tgt := 156) hx hb (by have := hV (OR (pl - 1)) (hOR.1 (pl - 1) (by omega)); omega) (by omega) dX1_addKind_133 (by decide) (fun c133 => ?_) (fun c133 => ?_)
                        · have hlo : ∀ j, j < pl → V (OR j) < j0 := fun j hj => by
                            have h9 : V (OR (pl - 1)) ≠ j0 := fun q => hnx ⟨_, hOR.1 (pl - 1) (by omega), q⟩
                            rcases Nat.lt_or_ge j (pl - 1) with h | h
                            · have := hOR.2 j (pl - 1) h (by omega); omega
                            · rw [show j = pl - 1 by omega]; omega
                          have hord := ord_ins hOR hpl h1 h2 hlo hgt
                          refine lv_aload_n hx hb dX1_addKind_156 rfl (lv_at hl 1 rfl) ?_
                          refine gfM hx hb hts hin hown hK hP 8 (by decide) (List.mem_of_getElem? (i := 6) rfl) rfl rfl dX1_addKind_157 ?_
                          refine lv_iload_n hx hb dX1_addKind_160 rfl (lv_at hl 0 rfl) ?_
                          refine lv_aload_n hx hb dX1_addKind_161 rfl (lv_at hl 1 rfl) ?_
                          refine gfM hx hb hts hin hown hK hP 1 (by decide) (List.mem_of_getElem? (i := 2) rfl) rfl rfl dX1_addKind_162 ?_
                          refine n_iast (ws' := (wM q cI cZ cJ 0 k (un V k j0) (un C k j1) (un A k 1) T B P (un OX pl k) n PR ST li w WK so sp CT FW)) hx hb hK hP hD hS 7 0 rfl rfl (by omega) (by decide) rfl dX1_addKind_165 (fun H locs hP hD hS => ?_)
                          refine lv_aload_n hx hb dX1_addKind_166 rfl (lv_at hl 1 rfl) ?_
                          refine lv_dup hx hb dX1_addKind_167 rfl ?_
                          refine gfM hx hb hts hin hown hK hP 1 (by decide) (List.mem_of_getElem? (i := 2) rfl) rfl rfl dX1_addKind_168 ?_
                          refine lv_iconst (v := nI 1) hx hb dX1_addKind_171 (ic_1) ?_
                          refine n_iadd hx hb dX1_addKind_172 ?_
                          refine pfM (ws' := (wM q cI cZ cJ 0 (k + 1) (un V k j0) (un C k j1) (un A k 1) T B P (un OX pl k) n PR ST li w WK so sp CT FW)) hx hb hts hin hown hK hP hD hS 1 (by decide) (List.mem_of_getElem? (i := 2) rfl) rfl ⟨rfl, rfl⟩ rfl rfl dX1_addKind_173 (fun H locs hP hD hS => ?_)
                          refine lv_aload_n hx hb dX1_addKind_176 rfl (lv_at hl 1 rfl) ?_
                          refine gfM hx hb hts hin hown hK hP 1 (by decide) (List.mem_of_getElem? (i := 2) rfl) rfl rfl dX1_addKind_177 ?_
                          refine lv_iconst (v := nI 1) hx hb dX1_addKind_180 (ic_1) ?_
                          refine n_isub hx hb (by omega) dX1_addKind_181 ?_
                          refine n_top (congrArg nI (show (k + 1) - 1 = k by omega)) ?_
                          subst hQ
                          exact e_i (k, 0, k + 1, un V k j0, un C k j1, un A k 1, un OX pl k) hx hb hr hlocks hS hP hD (⟨rfl, Or.inl ⟨rfl, j0, j1, j0a, j0b, j1b, rfl, rfl, by omega, hnx, rfl, rfl, rfl, rfl, rfl, hord⟩⟩) (Nat.le_of_ble_eq_true rfl) (Nat.le_of_ble_eq_true rfl) dX1_addKind_182
                        · refine lv_aload_n hx hb dX1_addKind_136 rfl (lv_at hl 1 rfl) ?_
                          refine gfM hx hb hts hin hown hK hP 8 (by decide) (List.mem_of_getElem? (i := 6) rfl) rfl rfl dX1_addKind_137 ?_
                          refine lv_iload_n hx hb dX1_addKind_140 rfl (lv_at hl 0 rfl) ?_
                          refine lv_aload_n hx hb dX1_addKind_141 rfl (lv_at hl 1 rfl) ?_
                          refine gfM hx hb hts hin hown hK hP 8 (by decide) (List.mem_of_getElem? (i := 6) rfl) rfl rfl dX1_addKind_142 ?_
                          refine lv_iload_n hx hb dX1_addKind_145 rfl (lv_at hl 0 rfl) ?_
                          refine lv_iconst (v := nI 1) hx hb dX1_addKind_146 (ic_1) ?_
                          refine n_isub hx hb (by omega) dX1_addKind_147 ?_
                          refine n_iald hx hb hK hP 7 0 rfl rfl (by omega) (by decide) dX1_addKind_148 ?_
                          refine n_top (congrArg nI (show OX (pl - 1) = OR (pl - 1) from h1 (pl - 1) (by omega))) ?_
                          refine n_iast (ws' := (wM q cI cZ cJ 0 k (un V k j0) (un C k j1) (un A k 1) T B P (un OX pl (OR (pl - 1))) n PR ST li w WK so sp CT FW)) hx hb hK hP hD hS 7 0 rfl rfl (by omega) (by decide) rfl dX1_addKind_149 (fun H locs hP hD hS => ?_)
                          refine lv_iinc (v := nI (pl - 1)) (lv' := [(3, .int (nI (pl - 1))), (0, .ref (q 0)), (1, .int (nI j0)), (2, .int (nI j1))]) hx hb dX1_addKind_150 hl (k := 0) rfl (ni_dec (by omega)) (by decide) rfl (fun ls hl => ?_)
                          refine lv_goto (tgt := 115) hx hb dX1_addKind_153 (by decide) ?_
                          exact ih_115 (pl - 1) (un OX pl (OR (pl - 1))) (by omega) (by omega) (fun j hj => by rw [un_n (by omega)]; exact h1 j (by omega)) (fun j h9 h10 => by rcases Nat.lt_or_ge pl j with h11 | h11; (rw [un_n (by omega)]; exact h2 j h11 h10); (rw [show j = pl by omega]; exact un_s)) (fun j h9 h10 => by rcases Nat.lt_or_ge j pl with h11 | h11; (rw [show j = pl - 1 by omega]; exact c133); exact hgt j h11 h10) _ _ hP hD hS ls (lv_sub hl [0, 1, 2, 3] rfl)
                  exact lp_115 _ k OR (Nat.lt_succ_self _) (Nat.le_refl k) (fun j hj => rfl) (fun j h9 h10 => absurd h9 (by omega)) (fun j h9 h10 => absurd h9 (by omega)) _ _ hP hD hS ls (lv_sub hl [0, 1, 2, 3] rfl)
                · refine lv_aload_n hx hb dX1_addKind_58 rfl (lv_at hl 1 rfl) ?_
                  refine gfM hx hb hts hin hown hK hP 2 (by decide) (List.mem_of_getElem? (i := 3) rfl) rfl rfl dX1_addKind_59 ?_
                  refine lv_iload_n hx hb dX1_addKind_62 rfl (lv_at hl 0 rfl) ?_
                  refine n_iald hx hb hK hP 1 0 rfl rfl (by omega) (by decide) dX1_addKind_63 ?_
                  refine lv_iload_n hx hb dX1_addKind_64 rfl (lv_at hl 2 rfl) ?_
                  refine n_icmp_ne (tgt := 74) hx hb (by have := hV i (by omega); omega) (by omega) dX1_addKind_65 (by decide) (fun c65 => ?_) (fun c65 => ?_)
                  · refine lv_iinc (v := nI (i + 1)) (lv' := [(3, .int (nI (i + 1))), (0, .ref (q 0)), (1, .int (nI j0)), (2, .int (nI j1))]) hx hb dX1_addKind_74 hl (k := 0) rfl (ni_inc _ 1) (by decide) rfl (fun ls hl => ?_)
                    refine lv_goto (tgt := 50) hx hb dX1_addKind_77 (by decide) ?_
                    exact ih_50 (i + 1) (by omega) (by omega) (fun x h => by rcases Nat.lt_or_ge x i with h9 | h9; exact hs x h9; (rw [show x = i by omega]; exact c65)) _ _ hP hD hS ls (lv_sub hl [0, 1, 2, 3] rfl)
                  · have hw2 : ¬ k < 8 ∨ ∃ x, x < k ∧ nI (V x) = nI j0 := Or.inr ⟨i, by omega, by rw [c65]⟩
                    refine lv_aload_n hx hb dX1_addKind_68 rfl (lv_at hl 1 rfl) ?_
                    refine lv_iconst (v := nI 2) hx hb dX1_addKind_69 (ic_2) ?_
                    refine k_i (va_runV (As := [.int (nI 2)]) (rest := []) ⟨hx, hb, hml, hown, hts⟩ (c_X1_fail l hst D q cI cZ cJ 0 k V C A T B P OR n PR ST li w WK so sp CT FW H.size 2) (cwV 1 hts gX1_addKind_X1_fail rfl rfl rfl hd_X1_fail ⟨(by rw [hR]; exact Nat.le_of_ble_eq_true rfl), (by rw [hR]; exact Nat.le_of_ble_eq_true rfl)⟩) (pre_V hP hK hD hS hA hZ hg 0 (ci := 1) rfl rfl) rfl rfl hl.1 rfl (lv_room (Nat.le_of_ble_eq_true rfl)) dX1_addKind_70 ⟨(by rw [hR]; exact Nat.le_of_ble_eq_true rfl), (by rw [hR]; exact Nat.le_of_ble_eq_true rfl)⟩) hD hS hA (fun r_11 u_10 H locs hp_12 hP hD hS => ?_)
                    subst hp_12
                    subst hQ
                    exact e_i (0, 2, k, V, C, A, OR) hx hb hr hlocks hS hP hD (⟨rfl, Or.inr (Or.inr ⟨rfl, ⟨⟨j0, j0a, j0b, rfl⟩, ⟨j1, j1a, j1b, rfl⟩⟩, hw2, rfl, rfl, rfl, rfl, rfl⟩)⟩) (Nat.le_of_ble_eq_true rfl) (Nat.le_of_ble_eq_true rfl) dX1_addKind_73
            exact lp_50 _ 0 (Nat.lt_succ_self _) (by omega) (fun x h => absurd h (Nat.not_lt_zero x)) _ _ hP hD hS ls (lv_sub hl [0, 1, 2, 3] rfl)
          · have hw2 : ¬ k < 8 ∨ ∃ x, x < k ∧ nI (V x) = nI j0 := Or.inl (by omega)
            refine lv_aload_n hx hb dX1_addKind_42 rfl (lv_at hl 0 rfl) ?_
            refine lv_iconst (v := nI 2) hx hb dX1_addKind_43 (ic_2) ?_
            refine k_i (va_runV (As := [.int (nI 2)]) (rest := []) ⟨hx, hb, hml, hown, hts⟩ (c_X1_fail l hst D q cI cZ cJ 0 k V C A T B P OR n PR ST li w WK so sp CT FW H.size 2) (cwV 1 hts gX1_addKind_X1_fail rfl rfl rfl hd_X1_fail ⟨(by rw [hR]; exact Nat.le_of_ble_eq_true rfl), (by rw [hR]; exact Nat.le_of_ble_eq_true rfl)⟩) (pre_V hP hK hD hS hA hZ hg 0 (ci := 1) rfl rfl) rfl rfl hl.1 rfl (lv_room (Nat.le_of_ble_eq_true rfl)) dX1_addKind_44 ⟨(by rw [hR]; exact Nat.le_of_ble_eq_true rfl), (by rw [hR]; exact Nat.le_of_ble_eq_true rfl)⟩) hD hS hA (fun r_14 u_13 H locs hp_15 hP hD hS => ?_)
            subst hp_15
            subst hQ
            exact e_i (0, 2, k, V, C, A, OR) hx hb hr hlocks hS hP hD (⟨rfl, Or.inr (Or.inr ⟨rfl, ⟨⟨j0, j0a, j0b, rfl⟩, ⟨j1, j1a, j1b, rfl⟩⟩, hw2, rfl, rfl, rfl, rfl, rfl⟩)⟩) (Nat.le_of_ble_eq_true rfl) (Nat.le_of_ble_eq_true rfl) dX1_addKind_47
        · have hno : ¬ (rg p0 1 501 ∧ rg p1 0 61) := fun z => (show ¬ rg p1 0 61 by rw [rg_iff (by omega)]; simp only [Int32.lt_iff_toInt_lt, Int32.le_iff_toInt_le, Int32.toInt_zero, nI_toInt (show 60 < 2 ^ 31 by omega)] at c24; omega) z.2
          refine lv_aload_n hx hb dX1_addKind_27 rfl (lv_at hl 0 rfl) ?_
          refine lv_iconst (v := nI 1) hx hb dX1_addKind_28 (ic_1) ?_
          refine k_i (va_runV (As := [.int (nI 1)]) (rest := []) ⟨hx, hb, hml, hown, hts⟩ (c_X1_fail l hst D q cI cZ cJ 0 k V C A T B P OR n PR ST li w WK so sp CT FW H.size 1) (cwV 1 hts gX1_addKind_X1_fail rfl rfl rfl hd_X1_fail ⟨(by rw [hR]; exact Nat.le_of_ble_eq_true rfl), (by rw [hR]; exact Nat.le_of_ble_eq_true rfl)⟩) (pre_V hP hK hD hS hA hZ hg 0 (ci := 1) rfl rfl) rfl rfl hl.1 rfl (lv_room (Nat.le_of_ble_eq_true rfl)) dX1_addKind_29 ⟨(by rw [hR]; exact Nat.le_of_ble_eq_true rfl), (by rw [hR]; exact Nat.le_of_ble_eq_true rfl)⟩) hD hS hA (fun r_17 u_16 H locs hp_18 hP hD hS => ?_)
          subst hp_18
          subst hQ
          exact e_i (0, 1, k, V, C, A, OR) hx hb hr hlocks hS hP hD (⟨rfl, Or.inr (Or.inl ⟨rfl, hno, rfl, rfl, rfl, rfl, rfl⟩)⟩) (Nat.le_of_ble_eq_true rfl) (Nat.le_of_ble_eq_true rfl) dX1_addKind_32
theorem hd_X1_addKind : yX1_addKind.cls = RX1 ∧ yX1_addKind.cls ≠ "java/lang/invoke/MethodHandle" ∧ yX1_addKind.cls ≠ "java/lang/invoke/VarHandle" ∧ (parseMethodDescriptor yX1_addKind.desc).map (fun d => d.parameters.length) = some 2 := by decide +kernel

set_option maxHeartbeats 4000000 in
set_option maxRecDepth 100000 in
theorem c_X1_refund (l : Launch) (hst : l.stackTraces = false) (D : va_G) (q : Nat → Nat) (cI cZ cJ : ClassId) (th : Nat) (k : Nat) (V : Nat → Nat) (C : Nat → Nat) (A : Nat → Nat) (T : Nat → Nat) (B : Nat → Nat) (P : Nat → Nat) (OR : Nat → Nat) (n : Nat) (PR : Nat → Nat) (ST : Nat → Nat) (li : Nat) (w : Nat) (WK : Nat → Nat) (so : Nat) (sp : Nat) (CT : Nat → Int64) (FW : Nat → Nat) (sz : Nat) (hk8 : k ≤ 8) (hV : ∀ i, i < k → 1 ≤ V i ∧ V i ≤ 500) (hC : ∀ i, i < k → C i ≤ 60 ∧ T i ≤ C i) (hOR : ordOK V OR k) (hn10 : n ≤ 10) (hPR : ∀ j, j < n → 1 ≤ PR j ∧ PR j ≤ 2000 ∧ ST j ≤ 99) (hso : so = 4294967295 ∨ (so < n ∧ 1 ≤ sp ∧ sp ≤ 2000)) : Met l yX1_refund wsX1_refund ({ frames := 3, cells := 0, slots := 0, locals := 72 }) (va_Pc [.ref (q 0)] (cxP D (ty3 cI cZ cJ) (wM q cI cZ cJ th k V C A T B P OR n PR ST li w WK so sp CT FW) sz)) (va_Qi (fun r (u : Nat × Nat × (Nat → Nat) × (Nat → Nat) × (Nat → Nat) × Nat × (Nat → Int64) × (Nat → Nat)) => r = nI u.1 ∧ ((u.2.1 = 1 ∧ so = 4294967295 ∧ u.1 = 0 ∧ u.2.2.1 = T ∧ u.2.2.2.1 = P ∧ u.2.2.2.2.1 = ST ∧ u.2.2.2.2.2.1 = so ∧ u.2.2.2.2.2.2.1 = CT) ∨ (u.2.1 = 0 ∧ so ≠ 4294967295 ∧ so < n ∧ refP k V T P ST so sp CT u.1 u.2.2.1 u.2.2.2.1 u.2.2.2.2.1 u.2.2.2.2.2.1 u.2.2.2.2.2.2.1))) (bW D (va_A (wM q cI cZ cJ th k V C A T B P OR n PR ST li w WK so sp CT FW) sz) (fun u => (wM q cI cZ cJ u.2.1 k V C A u.2.2.1 B u.2.2.2.1 OR n PR u.2.2.2.2.1 li w WK u.2.2.2.2.2.1 sp u.2.2.2.2.2.2.1 u.2.2.2.2.2.2.2))) (va_A (wM q cI cZ cJ th k V C A T B P OR n PR ST li w WK so sp CT FW) sz)) 0 0 (va_A (wM q cI cZ cJ th k V C A T B P OR n PR ST li w WK so sp CT FW) sz) := by
  refine Met.ofW (cc := cX1_refund) (maxL := 1) (ret := (some .boolean)) (by decide) rfl ?_
  intro p e s m args below meth c s₁ BB hml hv
  obtain ⟨hav, hsz, hP, hK, hD0, hZ, hg⟩ := hv
  subst hsz
  subst hav
  have hx := BB.exec
  have hb := BB.bytes
  have hr := BB.returns
  have hts := atoms_spec (ws := wsX1_refund) BB.pre
  have hown : s.vm.findClass RX1 = some m.cls := findClass_of_methodNamed BB.named
  have hlocks := BB.notSynchronized
  have hin : ∀ w ∈ wsX10, w ∈ wsX1_refund := fun w h => (List.mem_cons_of_mem _ (List.mem_append_right _ h))
  have hD := hD0.self (sz := s.heap.size)
  have hA : ∀ q9 : Nat, s.heap.size ≤ q9 → va_A (wM q cI cZ cJ th k V C A T B P OR n PR ST li w WK so sp CT FW) s.heap.size q9 := fun _ h => Or.inr h
  have hl := lv_entry ([.ref (q 0)]) (n := 1) (Nat.le_of_ble_eq_true rfl)
  rw [lg_entry_eq]
  generalize (lg_sl ([.ref (q 0)]) ++ List.replicate (1 - (lg_sl ([.ref (q 0)])).length) Slot.unset).toArray = ls at hl ⊢
  have hl : lv_has ls 1 [(0, .ref (q 0))] := hl
  refine W_absR (fun R hR => ?_)
  have hR : R = ({ frames := 3, cells := 0, slots := 0, locals := 72 } : Room) := hR
  refine W_absQ (fun Q hQ => ?_)
  generalize ([.ref (q 0)] : List Value).toArray = args at hts hQ ⊢
  generalize va_A (wM q cI cZ cJ th k V C A T B P OR n PR ST li w WK so sp CT FW) s.heap.size = A9 at hD hZ hA hQ
  refine W_start hP (A := A9) (fun H locs hP hS => ?_)
  refine lv_aload_n hx hb dX1_refund_0 rfl (lv_at hl 0 rfl) ?_
  refine lv_aload_n hx hb dX1_refund_1 rfl (lv_at hl 0 rfl) ?_
  refine gfM hx hb hts hin hown hK hP 15 (by decide) (List.mem_of_getElem? (i := 1) rfl) rfl rfl dX1_refund_2 ?_
  refine lv_iconst (v := nI 4294967295) hx hb dX1_refund_5 (by decide) ?_
  refine n_icmp_ne (tgt := 13) hx hb (by omega) (by omega) dX1_refund_6 (by decide) (fun c6 => ?_) (fun c6 => ?_)
  · refine lv_iconst (v := nI 0) hx hb dX1_refund_13 (ic_0) ?_
    refine pfM (ws' := (wM q cI cZ cJ 0 k V C A T B P OR n PR ST li w WK so sp CT FW)) hx hb hts hin hown hK hP hD hS 0 (by decide) (List.mem_of_getElem? (i := 2) rfl) rfl ⟨rfl, rfl⟩ rfl rfl dX1_refund_14 (fun H locs hP hD hS => ?_)
    refine lv_aload_n hx hb dX1_refund_17 rfl (lv_at hl 0 rfl) ?_
    refine gfM hx hb hts hin hown hK hP 0 (by decide) (List.mem_of_getElem? (i := 2) rfl) rfl rfl dX1_refund_18 ?_
    refine n_if_ne (tgt := 35) hx hb (by decide) dX1_refund_21 (by decide) (fun c21 => ?_) (fun c21 => ?_)
    · exact absurd c21 (by decide)
    · refine lv_aload_n hx hb dX1_refund_24 rfl (lv_at hl 0 rfl) ?_
      refine lv_aload_n hx hb dX1_refund_25 rfl (lv_at hl 0 rfl) ?_
      refine gfM hx hb hts hin hown hK hP 16 (by decide) (List.mem_of_getElem? (i := 3) rfl) rfl rfl dX1_refund_26 ?_
      refine k_i (va_runV (As := [.int (nI sp)]) (rest := []) ⟨hx, hb, hml, hown, hts⟩ (c_X1_pay l hst D q cI cZ cJ 0 k V C A T B P OR n PR ST li w WK so sp CT FW H.size sp hk8 hV hC hOR (by omega)) (cwV 1 hts gX1_refund_X1_pay rfl rfl rfl hd_X1_pay ⟨(by rw [hR]; exact Nat.le_of_ble_eq_true rfl), (by rw [hR]; exact Nat.le_of_ble_eq_true rfl)⟩) (pre_V hP hK hD hS hA hZ hg 0 (ci := 1) rfl rfl) rfl rfl hl.1 rfl (lv_room (Nat.le_of_ble_eq_true rfl)) dX1_refund_29 ⟨(by rw [hR]; exact Nat.le_of_ble_eq_true rfl), (by rw [hR]; exact Nat.le_of_ble_eq_true rfl)⟩) hD hS hA (fun r_2 u_1 H locs hp_3 hP hD hS => ?_)
      obtain ⟨rfl, hp_3⟩ := hp_3
      obtain ⟨r5, T5, P5, F5⟩ := u_1
      dsimp only at hp_3 hP hD
      show W p l e R s m args below meth c H locs 0 0 Q (F0 m 32 ls [.int (nI r5)])
      rcases hp_3 with ⟨hnw, h5, h6, h7⟩ | ⟨h5, z, hbw, h6, h7⟩
      · replace h5 := h5.symm
        replace h6 := h6.symm
        replace h7 := h7.symm
        subst h5
        subst h6
        subst h7
        refine n_if_ne (tgt := 37) hx hb (by decide) dX1_refund_32 (by decide) (fun c32 => ?_) (fun c32 => ?_)
        · exact absurd c32 (by decide)
        · refine lv_iconst (v := nI 0) hx hb dX1_refund_35 (ic_0) ?_
          subst hQ
          exact e_z (0, 0, T, P, ST, so, CT, F5) hx hb hr hlocks hS (by omega) hP hD (⟨rfl, Or.inr ⟨rfl, c6, by omega, Or.inl ⟨hnw, rfl, rfl, rfl, rfl, rfl, rfl⟩⟩⟩) (Nat.le_of_ble_eq_true rfl) (Nat.le_of_ble_eq_true rfl) dX1_refund_36
      · replace h5 := h5.symm
        replace h6 := h6.symm
        replace h7 := h7.symm
        subst h5
        subst h6
        subst h7
        refine n_if_ne (tgt := 37) hx hb (by decide) dX1_refund_32 (by decide) (fun c32 => ?_) (fun c32 => ?_)
        · have hsn : so < n := by omega
          have hmin : un ST so (min 99 (ST so + 1)) = un ST so (min (ST so + 1) 99) := by rw [Nat.min_comm]
          refine lv_aload_n hx hb dX1_refund_37 rfl (lv_at hl 0 rfl) ?_
          refine gfM hx hb hts hin hown hK hP 11 (by decide) (List.mem_of_getElem? (i := 4) rfl) rfl rfl dX1_refund_38 ?_
          refine lv_aload_n hx hb dX1_refund_41 rfl (lv_at hl 0 rfl) ?_
          refine gfM hx hb hts hin hown hK hP 15 (by decide) (List.mem_of_getElem? (i := 1) rfl) rfl rfl dX1_refund_42 ?_
          refine lv_bipush (v := nI 99) hx hb dX1_refund_45 (by decide) ?_
          refine lv_aload_n hx hb dX1_refund_47 rfl (lv_at hl 0 rfl) ?_
          refine gfM hx hb hts hin hown hK hP 11 (by decide) (List.mem_of_getElem? (i := 4) rfl) rfl rfl dX1_refund_48 ?_
          refine lv_aload_n hx hb dX1_refund_51 rfl (lv_at hl 0 rfl) ?_
          refine gfM hx hb hts hin hown hK hP 15 (by decide) (List.mem_of_getElem? (i := 1) rfl) rfl rfl dX1_refund_52 ?_
          refine n_iald hx hb hK hP 9 0 rfl rfl (by omega) (by decide) dX1_refund_55 ?_
          refine lv_iconst (v := nI 1) hx hb dX1_refund_56 (ic_1) ?_
          refine n_iadd hx hb dX1_refund_57 ?_
          refine va_mmin hx hb (hml.trans hl.1.symm) hown (hts _ (List.mem_of_getElem? (i := 5) rfl)) (hts _ (List.mem_of_getElem? (i := 6) rfl)) (hts _ (List.mem_of_getElem? (i := 7) rfl)) (hts _ (List.mem_of_getElem? (i := 8) rfl)) (by rw [hR]; exact Nat.le_of_ble_eq_true rfl) (by rw [hR]; exact Nat.le_of_ble_eq_true rfl) (by rw [hR]; exact Nat.le_of_ble_eq_true rfl) (by rw [hR]; exact Nat.le_of_ble_eq_true rfl) dX1_refund_58 (n_top (nI_min _ _ (by omega) (by have := hPR so (by omega); omega)) ?_)
          refine n_iast (ws' := (wM q cI cZ cJ 0 k V C A (pT T V k z k) B (pP P V k z k) OR n PR (un ST so (min 99 ((ST so) + 1))) li w WK so sp CT F5)) hx hb hK hP hD hS 9 0 rfl rfl (by omega) (by decide) rfl dX1_refund_61 (fun H locs hP hD hS => ?_)
          refine lv_aload_n hx hb dX1_refund_62 rfl (lv_at hl 0 rfl) ?_
          refine lv_iconst (v := nI 4294967295) hx hb dX1_refund_63 (by decide) ?_
          refine pfM (ws' := (wM q cI cZ cJ 0 k V C A (pT T V k z k) B (pP P V k z k) OR n PR (un ST so (min 99 ((ST so) + 1))) li w WK 4294967295 sp CT F5)) hx hb hts hin hown hK hP hD hS 15 (by decide) (List.mem_of_getElem? (i := 1) rfl) rfl ⟨rfl, rfl⟩ rfl rfl dX1_refund_64 (fun H locs hP hD hS => ?_)
          refine lv_aload_n hx hb dX1_refund_67 rfl (lv_at hl 0 rfl) ?_
          refine gfM hx hb hts hin hown hK hP 17 (by decide) (List.mem_of_getElem? (i := 9) rfl) rfl rfl dX1_refund_68 ?_
          refine lv_iconst (v := nI 3) hx hb dX1_refund_71 (ic_3) ?_
          refine lv_dup2_11 hx hb dX1_refund_72 rfl rfl ?_
          refine n_lald hx hb hK hP 11 2 rfl rfl (by omega) (by decide) dX1_refund_73 ?_
          refine lv_aload_n hx hb dX1_refund_74 rfl (lv_at hl 0 rfl) ?_
          refine gfM hx hb hts hin hown hK hP 16 (by decide) (List.mem_of_getElem? (i := 3) rfl) rfl rfl dX1_refund_75 ?_
          refine n_i2l hx hb (by omega) dX1_refund_78 ?_
          refine lv_ladd hx hb dX1_refund_79 ?_
          refine n_last (ws' := (wM q cI cZ cJ 0 k V C A (pT T V k z k) B (pP P V k z k) OR n PR (un ST so (min 99 ((ST so) + 1))) li w WK 4294967295 sp (vp_updL CT 3 ((CT 3) + (lZ ((sp : Nat) : Int)))) F5)) hx hb hK hP hD hS 11 2 rfl rfl (by omega) (by decide) rfl dX1_refund_80 (fun H locs hP hD hS => ?_)
          refine lv_iconst (v := nI 1) hx hb dX1_refund_81 (ic_1) ?_
          subst hQ
          exact e_z (1, 0, pT T V k z k, pP P V k z k, un ST so (min 99 ((ST so) + 1)), 4294967295, vp_updL CT 3 ((CT 3) + (lZ ((sp : Nat) : Int))), F5) hx hb hr hlocks hS (by omega) hP hD (⟨rfl, Or.inr ⟨rfl, c6, by omega, Or.inr ⟨rfl, z, hbw, rfl, rfl, hmin, rfl, rfl⟩⟩⟩) (Nat.le_of_ble_eq_true rfl) (Nat.le_of_ble_eq_true rfl) dX1_refund_82
        · exact absurd c32 (by decide)
  · refine lv_iconst (v := nI 1) hx hb dX1_refund_9 (ic_1) ?_
    refine lv_goto (tgt := 14) hx hb dX1_refund_10 (by decide) ?_
    refine pfM (ws' := (wM q cI cZ cJ 1 k V C A T B P OR n PR ST li w WK so sp CT FW)) hx hb hts hin hown hK hP hD hS 0 (by decide) (List.mem_of_getElem? (i := 2) rfl) rfl ⟨rfl, rfl⟩ rfl rfl dX1_refund_14 (fun H locs hP hD hS => ?_)
    refine lv_aload_n hx hb dX1_refund_17 rfl (lv_at hl 0 rfl) ?_
    refine gfM hx hb hts hin hown hK hP 0 (by decide) (List.mem_of_getElem? (i := 2) rfl) rfl rfl dX1_refund_18 ?_
    refine n_if_ne (tgt := 35) hx hb (by decide) dX1_refund_21 (by decide) (fun c21 => ?_) (fun c21 => ?_)
    · refine lv_iconst (v := nI 0) hx hb dX1_refund_35 (ic_0) ?_
      subst hQ
      exact e_z (0, 1, T, P, ST, so, CT, FW) hx hb hr hlocks hS (by omega) hP hD (⟨rfl, Or.inl ⟨rfl, c6, rfl, rfl, rfl, rfl, rfl, rfl⟩⟩) (Nat.le_of_ble_eq_true rfl) (Nat.le_of_ble_eq_true rfl) dX1_refund_36
    · exact absurd c21 (by decide)
theorem hd_X1_refund : yX1_refund.cls = RX1 ∧ yX1_refund.cls ≠ "java/lang/invoke/MethodHandle" ∧ yX1_refund.cls ≠ "java/lang/invoke/VarHandle" ∧ (parseMethodDescriptor yX1_refund.desc).map (fun d => d.parameters.length) = some 0 := by decide +kernel
