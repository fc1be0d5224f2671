set_option maxHeartbeats 4000000 in
set_option maxRecDepth 100000 in
theorem c_X0_checkKind (l : Launch) (hst : l.stackTraces = false) (D : va_G) (q : Nat → Nat) (cI cZ cJ : ClassId) (k : Nat) (V : Nat → Nat) (C : Nat → Nat) (T : Nat → Nat) (B : Nat → Nat) (P : Nat → Nat) (A : Nat → Nat) (n : Nat) (PR : Nat → Nat) (ST : Nat → Nat) (li : Nat) (w : Nat) (WK : Nat → Nat) (so : Nat) (sp : Nat) (CT : Nat → Int64) (SC : Nat → Int) (TA : Nat → Nat) (sz : Nat) (p0 : Int32) (hk8 : k ≤ 8) : vx_Met l yX0_checkKind wsX0_checkKind ({ frames := 6, cells := 1, slots := 6, locals := 90 }) (va_Pc [.ref (q 0), .int p0] (cxP D (ty3 cI cZ cJ) (wX q cI cZ cJ k V C T B P A n PR ST li w WK so sp CT SC TA) sz)) (va_Qv (fun (_ : Unit) => rg p0 0 k) (bW D (va_A (wX q cI cZ cJ k V C T B P A n PR ST li w WK so sp CT SC TA) sz) (fun (_ : Unit) => (wX q cI cZ cJ k V C T B P A n PR ST li w WK so sp CT SC TA))) (va_A (wX q cI cZ cJ k V C T B P A n PR ST li w WK so sp CT SC TA) sz)) (xX D (fun E => E = eIB ∧ ¬ rg p0 0 k) (wX q cI cZ cJ k V C T B P A n PR ST li w WK so sp CT SC TA) (va_A (wX q cI cZ cJ k V C T B P A n PR ST li w WK so sp CT SC TA) sz)) 1 6 (va_A (wX q cI cZ cJ k V C T B P A n PR ST li w WK so sp CT SC TA) sz) := by
  refine vx_ofW (cc := cX0_checkKind) (maxL := 2) (ret := none) (by decide) rfl ?_
  intro p e s m args below meth c s₁ BB hml hout hv
  obtain ⟨hav, hsz, hP, hK, hD0, hZ, hg⟩ := hv
  subst hsz
  subst hav
  have hx := BB.exec
  have hb := BB.bytes
  have hr := BB.returns
  have hts := atoms_spec (ws := wsX0_checkKind) BB.pre
  have hown : s.vm.findClass RX0 = some m.cls := findClass_of_methodNamed BB.named
  have hlocks := BB.notSynchronized
  have hin : ∀ w ∈ wsX00, w ∈ wsX0_checkKind := fun w h => (List.mem_cons_of_mem _ (List.mem_append_left _ (List.mem_append_right _ h)))
  have hD := hD0.self (sz := s.heap.size)
  have hA : ∀ q9 : Nat, s.heap.size ≤ q9 → va_A (wX q cI cZ cJ k V C T B P A n PR ST li w WK so sp CT SC TA) s.heap.size q9 := fun _ h => Or.inr h
  have hl := lv_entry ([.ref (q 0), .int p0]) (n := 2) (Nat.le_of_ble_eq_true rfl)
  rw [lg_entry_eq]
  generalize (lg_sl ([.ref (q 0), .int p0]) ++ List.replicate (2 - (lg_sl ([.ref (q 0), .int p0])).length) Slot.unset).toArray = ls at hl ⊢
  have hl : lv_has ls 2 [(0, .ref (q 0)), (1, .int p0)] := hl
  refine W_absR (fun R hR => ?_)
  have hR : R = ({ frames := 6, cells := 1, slots := 6, locals := 90 } : Room) := hR
  refine W_absQ (fun Q hQ => ?_)
  generalize ([.ref (q 0), .int p0] : List Value).toArray = args at hts hQ ⊢
  generalize va_A (wX q cI cZ cJ k V C T B P A n PR ST li w WK so sp CT SC TA) s.heap.size = A9 at hD hZ hA hQ
  refine W_start hP (A := A9) (fun H locs hP hS => ?_)
  refine lv_iload_n hx hb dX0_checkKind_0 rfl (lv_at hl 1 rfl) ?_
  refine lv_if_lt (tgt := 12) hx hb dX0_checkKind_1 (by decide) (fun c1 => ?_) (fun c1 => ?_)
  · have hno : ¬ rg p0 0 k := by rw [rg_iff (by omega)]; simp only [Int32.lt_iff_toInt_lt, Int32.le_iff_toInt_le, Int32.toInt_zero] at c1; omega
    subst hQ
    exact k_throw hx hb hst (cls := eIB) hown (by decide +kernel) (hts _ (List.mem_of_getElem? (i := 1) rfl)) (hts _ (List.mem_of_getElem? (i := 2) rfl)) (hg.1 (184, "no such kind") (by decide)) (k_hat (fun w h => hts w (List.mem_cons_of_mem _ (List.mem_append_right _ h))) (by decide +kernel) hg.2.2.2.1 hg) (by decide +kernel) hZ hS (hl.1.trans hml.symm) dX0_checkKind_12 dX0_checkKind_15 dX0_checkKind_16 dX0_checkKind_18 dX0_checkKind_21 hout (by rw [hR]; exact Nat.le_of_ble_eq_true rfl) (by rw [hR]; exact Nat.le_of_ble_eq_true rfl) (by rw [hR]; exact Nat.le_of_ble_eq_true rfl) (by rw [hR]; exact Nat.le_of_ble_eq_true rfl) hlocks hP hD (⟨rfl, hno⟩) (Nat.le_of_ble_eq_true rfl) (Nat.le_of_ble_eq_true rfl)
  · refine lv_iload_n hx hb dX0_checkKind_4 rfl (lv_at hl 1 rfl) ?_
    refine lv_aload_n hx hb dX0_checkKind_5 rfl (lv_at hl 0 rfl) ?_
    refine gfX hx hb hts hin hown hK hP 0 (by decide) (List.mem_of_getElem? (i := 3) rfl) rfl rfl dX0_checkKind_6 ?_
    refine lv_icmp_lt (tgt := 22) hx hb dX0_checkKind_9 (by decide) (fun c9 => ?_) (fun c9 => ?_)
    · subst hQ
      exact vx_ret (e_v () hx hb hr hlocks hS hP hD (by rw [rg_iff (by omega)]; simp only [Int32.lt_iff_toInt_lt, Int32.le_iff_toInt_le, Int32.toInt_zero, nI_toInt (show k < 2 ^ 31 by omega)] at c1 c9; omega) (Nat.le_of_ble_eq_true rfl) (Nat.le_of_ble_eq_true rfl) dX0_checkKind_22)
    · have hno : ¬ rg p0 0 k := by rw [rg_iff (by omega)]; simp only [Int32.lt_iff_toInt_lt, Int32.le_iff_toInt_le, Int32.toInt_zero, nI_toInt (show k < 2 ^ 31 by omega)] at c9; omega
      subst hQ
      exact k_throw hx hb hst (cls := eIB) hown (by decide +kernel) (hts _ (List.mem_of_getElem? (i := 1) rfl)) (hts _ (List.mem_of_getElem? (i := 2) rfl)) (hg.1 (184, "no such kind") (by decide)) (k_hat (fun w h => hts w (List.mem_cons_of_mem _ (List.mem_append_right _ h))) (by decide +kernel) hg.2.2.2.1 hg) (by decide +kernel) hZ hS (hl.1.trans hml.symm) dX0_checkKind_12 dX0_checkKind_15 dX0_checkKind_16 dX0_checkKind_18 dX0_checkKind_21 hout (by rw [hR]; exact Nat.le_of_ble_eq_true rfl) (by rw [hR]; exact Nat.le_of_ble_eq_true rfl) (by rw [hR]; exact Nat.le_of_ble_eq_true rfl) (by rw [hR]; exact Nat.le_of_ble_eq_true rfl) hlocks hP hD (⟨rfl, hno⟩) (Nat.le_of_ble_eq_true rfl) (Nat.le_of_ble_eq_true rfl)
theorem hd_X0_checkKind : yX0_checkKind.cls = RX0 ∧ yX0_checkKind.cls ≠ "java/lang/invoke/MethodHandle" ∧ yX0_checkKind.cls ≠ "java/lang/invoke/VarHandle" ∧ (parseMethodDescriptor yX0_checkKind.desc).map (fun d => d.parameters.length) = some 1 := by decide +kernel

set_option maxHeartbeats 4000000 in
set_option maxRecDepth 100000 in
theorem c_X0_checkProduct (l : Launch) (hst : l.stackTraces = false) (D : va_G) (q : Nat → Nat) (cI cZ cJ : ClassId) (k : Nat) (V : Nat → Nat) (C : Nat → Nat) (T : Nat → Nat) (B : Nat → Nat) (P : Nat → Nat) (A : Nat → Nat) (n : Nat) (PR : Nat → Nat) (ST : Nat → Nat) (li : Nat) (w : Nat) (WK : Nat → Nat) (so : Nat) (sp : Nat) (CT : Nat → Int64) (SC : Nat → Int) (TA : Nat → Nat) (sz : Nat) (p0 : Int32) (hn10 : n ≤ 10) : vx_Met l yX0_checkProduct wsX0_checkProduct ({ frames := 6, cells := 1, slots := 6, locals := 90 }) (va_Pc [.ref (q 0), .int p0] (cxP D (ty3 cI cZ cJ) (wX q cI cZ cJ k V C T B P A n PR ST li w WK so sp CT SC TA) sz)) (va_Qv (fun (_ : Unit) => rg p0 0 n) (bW D (va_A (wX q cI cZ cJ k V C T B P A n PR ST li w WK so sp CT SC TA) sz) (fun (_ : Unit) => (wX q cI cZ cJ k V C T B P A n PR ST li w WK so sp CT SC TA))) (va_A (wX q cI cZ cJ k V C T B P A n PR ST li w WK so sp CT SC TA) sz)) (xX D (fun E => E = eIB ∧ ¬ rg p0 0 n) (wX q cI cZ cJ k V C T B P A n PR ST li w WK so sp CT SC TA) (va_A (wX q cI cZ cJ k V C T B P A n PR ST li w WK so sp CT SC TA) sz)) 1 6 (va_A (wX q cI cZ cJ k V C T B P A n PR ST li w WK so sp CT SC TA) sz) := by
  refine vx_ofW (cc := cX0_checkProduct) (maxL := 2) (ret := none) (by decide) rfl ?_
  intro p e s m args below meth c s₁ BB hml hout hv
  obtain ⟨hav, hsz, hP, hK, hD0, hZ, hg⟩ := hv
  subst hsz
  subst hav
  have hx := BB.exec
  have hb := BB.bytes
  have hr := BB.returns
  have hts := atoms_spec (ws := wsX0_checkProduct) BB.pre
  have hown : s.vm.findClass RX0 = some m.cls := findClass_of_methodNamed BB.named
  have hlocks := BB.notSynchronized
  have hin : ∀ w ∈ wsX00, w ∈ wsX0_checkProduct := fun w h => (List.mem_cons_of_mem _ (List.mem_append_left _ (List.mem_append_right _ h)))
  have hD := hD0.self (sz := s.heap.size)
  have hA : ∀ q9 : Nat, s.heap.size ≤ q9 → va_A (wX q cI cZ cJ k V C T B P A n PR ST li w WK so sp CT SC TA) s.heap.size q9 := fun _ h => Or.inr h
  have hl := lv_entry ([.ref (q 0), .int p0]) (n := 2) (Nat.le_of_ble_eq_true rfl)
  rw [lg_entry_eq]
  generalize (lg_sl ([.ref (q 0), .int p0]) ++ List.replicate (2 - (lg_sl ([.ref (q 0), .int p0])).length) Slot.unset).toArray = ls at hl ⊢
  have hl : lv_has ls 2 [(0, .ref (q 0)), (1, .int p0)] := hl
  refine W_absR (fun R hR => ?_)
  have hR : R = ({ frames := 6, cells := 1, slots := 6, locals := 90 } : Room) := hR
  refine W_absQ (fun Q hQ => ?_)
  generalize ([.ref (q 0), .int p0] : List Value).toArray = args at hts hQ ⊢
  generalize va_A (wX q cI cZ cJ k V C T B P A n PR ST li w WK so sp CT SC TA) s.heap.size = A9 at hD hZ hA hQ
  refine W_start hP (A := A9) (fun H locs hP hS => ?_)
  refine lv_iload_n hx hb dX0_checkProduct_0 rfl (lv_at hl 1 rfl) ?_
  refine lv_if_lt (tgt := 12) hx hb dX0_checkProduct_1 (by decide) (fun c1 => ?_) (fun c1 => ?_)
  · have hno : ¬ rg p0 0 n := by rw [rg_iff (by omega)]; simp only [Int32.lt_iff_toInt_lt, Int32.le_iff_toInt_le, Int32.toInt_zero] at c1; omega
    subst hQ
    exact k_throw hx hb hst (cls := eIB) hown (by decide +kernel) (hts _ (List.mem_of_getElem? (i := 1) rfl)) (hts _ (List.mem_of_getElem? (i := 2) rfl)) (hg.1 (186, "no such product") (by decide)) (k_hat (fun w h => hts w (List.mem_cons_of_mem _ (List.mem_append_right _ h))) (by decide +kernel) hg.2.2.2.1 hg) (by decide +kernel) hZ hS (hl.1.trans hml.symm) dX0_checkProduct_12 dX0_checkProduct_15 dX0_checkProduct_16 dX0_checkProduct_18 dX0_checkProduct_21 hout (by rw [hR]; exact Nat.le_of_ble_eq_true rfl) (by rw [hR]; exact Nat.le_of_ble_eq_true rfl) (by rw [hR]; exact Nat.le_of_ble_eq_true rfl) (by rw [hR]; exact Nat.le_of_ble_eq_true rfl) hlocks hP hD (⟨rfl, hno⟩) (Nat.le_of_ble_eq_true rfl) (Nat.le_of_ble_eq_true rfl)
  · refine lv_iload_n hx hb dX0_checkProduct_4 rfl (lv_at hl 1 rfl) ?_
    refine lv_aload_n hx hb dX0_checkProduct_5 rfl (lv_at hl 0 rfl) ?_
    refine gfX hx hb hts hin hown hK hP 7 (by decide) (List.mem_of_getElem? (i := 3) rfl) rfl rfl dX0_checkProduct_6 ?_
    refine lv_icmp_lt (tgt := 22) hx hb dX0_checkProduct_9 (by decide) (fun c9 => ?_) (fun c9 => ?_)
    · subst hQ
      exact vx_ret (e_v () hx hb hr hlocks hS hP hD (by rw [rg_iff (by omega)]; simp only [Int32.lt_iff_toInt_lt, Int32.le_iff_toInt_le, Int32.toInt_zero, nI_toInt (show n < 2 ^ 31 by omega)] at c1 c9; omega) (Nat.le_of_ble_eq_true rfl) (Nat.le_of_ble_eq_true rfl) dX0_checkProduct_22)
    · have hno : ¬ rg p0 0 n := by rw [rg_iff (by omega)]; simp only [Int32.lt_iff_toInt_lt, Int32.le_iff_toInt_le, Int32.toInt_zero, nI_toInt (show n < 2 ^ 31 by omega)] at c9; omega
      subst hQ
      exact k_throw hx hb hst (cls := eIB) hown (by decide +kernel) (hts _ (List.mem_of_getElem? (i := 1) rfl)) (hts _ (List.mem_of_getElem? (i := 2) rfl)) (hg.1 (186, "no such product") (by decide)) (k_hat (fun w h => hts w (List.mem_cons_of_mem _ (List.mem_append_right _ h))) (by decide +kernel) hg.2.2.2.1 hg) (by decide +kernel) hZ hS (hl.1.trans hml.symm) dX0_checkProduct_12 dX0_checkProduct_15 dX0_checkProduct_16 dX0_checkProduct_18 dX0_checkProduct_21 hout (by rw [hR]; exact Nat.le_of_ble_eq_true rfl) (by rw [hR]; exact Nat.le_of_ble_eq_true rfl) (by rw [hR]; exact Nat.le_of_ble_eq_true rfl) (by rw [hR]; exact Nat.le_of_ble_eq_true rfl) hlocks hP hD (⟨rfl, hno⟩) (Nat.le_of_ble_eq_true rfl) (Nat.le_of_ble_eq_true rfl)
theorem hd_X0_checkProduct : yX0_checkProduct.cls = RX0 ∧ yX0_checkProduct.cls ≠ "java/lang/invoke/MethodHandle" ∧ yX0_checkProduct.cls ≠ "java/lang/invoke/VarHandle" ∧ (parseMethodDescriptor yX0_checkProduct.desc).map (fun d => d.parameters.length) = some 1 := by decide +kernel

set_option maxHeartbeats 4000000 in
set_option maxRecDepth 100000 in
theorem c_X0_checkMany (l : Launch) (hst : l.stackTraces = false) (D : va_G) (q : Nat → Nat) (cI cZ cJ : ClassId) (k : Nat) (V : Nat → Nat) (C : Nat → Nat) (T : Nat → Nat) (B : Nat → Nat) (P : Nat → Nat) (A : Nat → Nat) (n : Nat) (PR : Nat → Nat) (ST : Nat → Nat) (li : Nat) (w : Nat) (WK : Nat → Nat) (so : Nat) (sp : Nat) (CT : Nat → Int64) (SC : Nat → Int) (TA : Nat → Nat) (sz : Nat) (p0 : Int32) : vx_Met l yX0_checkMany wsX0_checkMany ({ frames := 6, cells := 1, slots := 6, locals := 90 }) (va_Pc [.int p0] (cxP D (ty3 cI cZ cJ) (wX q cI cZ cJ k V C T B P A n PR ST li w WK so sp CT SC TA) sz)) (va_Qv (fun (_ : Unit) => rg p0 0 61) (bW D (va_A (wX q cI cZ cJ k V C T B P A n PR ST li w WK so sp CT SC TA) sz) (fun (_ : Unit) => (wX q cI cZ cJ k V C T B P A n PR ST li w WK so sp CT SC TA))) (va_A (wX q cI cZ cJ k V C T B P A n PR ST li w WK so sp CT SC TA) sz)) (xX D (fun E => E = eIA ∧ ¬ rg p0 0 61) (wX q cI cZ cJ k V C T B P A n PR ST li w WK so sp CT SC TA) (va_A (wX q cI cZ cJ k V C T B P A n PR ST li w WK so sp CT SC TA) sz)) 1 6 (va_A (wX q cI cZ cJ k V C T B P A n PR ST li w WK so sp CT SC TA) sz) := by
  refine vx_ofW (cc := cX0_checkMany) (maxL := 1) (ret := none) (by decide) rfl ?_
  intro p e s m args below meth c s₁ BB hml hout hv
  obtain ⟨hav, hsz, hP, hK, hD0, hZ, hg⟩ := hv
  subst hsz
  subst hav
  have hx := BB.exec
  have hb := BB.bytes
  have hr := BB.returns
  have hts := atoms_spec (ws := wsX0_checkMany) BB.pre
  have hown : s.vm.findClass RX0 = some m.cls := findClass_of_methodNamed BB.named
  have hlocks := BB.notSynchronized
  have hD := hD0.self (sz := s.heap.size)
  have hA : ∀ q9 : Nat, s.heap.size ≤ q9 → va_A (wX q cI cZ cJ k V C T B P A n PR ST li w WK so sp CT SC TA) s.heap.size q9 := fun _ h => Or.inr h
  have hl := lv_entry ([.int p0]) (n := 1) (Nat.le_of_ble_eq_true rfl)
  rw [lg_entry_eq]
  generalize (lg_sl ([.int p0]) ++ List.replicate (1 - (lg_sl ([.int p0])).length) Slot.unset).toArray = ls at hl ⊢
  have hl : lv_has ls 1 [(0, .int p0)] := hl
  refine W_absR (fun R hR => ?_)
  have hR : R = ({ frames := 6, cells := 1, slots := 6, locals := 90 } : Room) := hR
  refine W_absQ (fun Q hQ => ?_)
  generalize ([.int p0] : List Value).toArray = args at hts hQ ⊢
  generalize va_A (wX q cI cZ cJ k V C T B P A n PR ST li w WK so sp CT SC TA) s.heap.size = A9 at hD hZ hA hQ
  refine W_start hP (A := A9) (fun H locs hP hS => ?_)
  refine lv_iload_n hx hb dX0_checkMany_0 rfl (lv_at hl 0 rfl) ?_
  refine lv_if_lt (tgt := 10) hx hb dX0_checkMany_1 (by decide) (fun c1 => ?_) (fun c1 => ?_)
  · have hno : ¬ rg p0 0 61 := by rw [rg_iff (by omega)]; simp only [Int32.lt_iff_toInt_lt, Int32.le_iff_toInt_le, Int32.toInt_zero] at c1; omega
    subst hQ
    exact k_throw hx hb hst (cls := eIA) hown (by decide +kernel) (hts _ (List.mem_of_getElem? (i := 1) rfl)) (hts _ (List.mem_of_getElem? (i := 2) rfl)) (hg.1 (188, "many is not 0 to 60") (by decide)) (k_hat (fun w h => hts w (List.mem_cons_of_mem _ (List.mem_append_right _ h))) (by decide +kernel) hg.2.1 hg) (by decide +kernel) hZ hS (hl.1.trans hml.symm) dX0_checkMany_10 dX0_checkMany_13 dX0_checkMany_14 dX0_checkMany_16 dX0_checkMany_19 hout (by rw [hR]; exact Nat.le_of_ble_eq_true rfl) (by rw [hR]; exact Nat.le_of_ble_eq_true rfl) (by rw [hR]; exact Nat.le_of_ble_eq_true rfl) (by rw [hR]; exact Nat.le_of_ble_eq_true rfl) hlocks hP hD (⟨rfl, hno⟩) (Nat.le_of_ble_eq_true rfl) (Nat.le_of_ble_eq_true rfl)
  · refine lv_iload_n hx hb dX0_checkMany_4 rfl (lv_at hl 0 rfl) ?_
    refine lv_bipush (v := nI 60) hx hb dX0_checkMany_5 (by decide) ?_
    refine lv_icmp_le (tgt := 20) hx hb dX0_checkMany_7 (by decide) (fun c7 => ?_) (fun c7 => ?_)
    · subst hQ
      exact vx_ret (e_v () hx hb hr hlocks hS hP hD (by rw [rg_iff (by omega)]; simp only [Int32.lt_iff_toInt_lt, Int32.le_iff_toInt_le, Int32.toInt_zero, nI_toInt (show 60 < 2 ^ 31 by omega)] at c1 c7; omega) (Nat.le_of_ble_eq_true rfl) (Nat.le_of_ble_eq_true rfl) dX0_checkMany_20)
    · have hno : ¬ rg p0 0 61 := by rw [rg_iff (by omega)]; simp only [Int32.lt_iff_toInt_lt, Int32.le_iff_toInt_le, Int32.toInt_zero, nI_toInt (show 60 < 2 ^ 31 by omega)] at c7; omega
      subst hQ
      exact k_throw hx hb hst (cls := eIA) hown (by decide +kernel) (hts _ (List.mem_of_getElem? (i := 1) rfl)) (hts _ (List.mem_of_getElem? (i := 2) rfl)) (hg.1 (188, "many is not 0 to 60") (by decide)) (k_hat (fun w h => hts w (List.mem_cons_of_mem _ (List.mem_append_right _ h))) (by decide +kernel) hg.2.1 hg) (by decide +kernel) hZ hS (hl.1.trans hml.symm) dX0_checkMany_10 dX0_checkMany_13 dX0_checkMany_14 dX0_checkMany_16 dX0_checkMany_19 hout (by rw [hR]; exact Nat.le_of_ble_eq_true rfl) (by rw [hR]; exact Nat.le_of_ble_eq_true rfl) (by rw [hR]; exact Nat.le_of_ble_eq_true rfl) (by rw [hR]; exact Nat.le_of_ble_eq_true rfl) hlocks hP hD (⟨rfl, hno⟩) (Nat.le_of_ble_eq_true rfl) (Nat.le_of_ble_eq_true rfl)
theorem hd_X0_checkMany : yX0_checkMany.cls = RX0 ∧ yX0_checkMany.cls ≠ "java/lang/invoke/MethodHandle" ∧ yX0_checkMany.cls ≠ "java/lang/invoke/VarHandle" ∧ (parseMethodDescriptor yX0_checkMany.desc).map (fun d => d.parameters.length) = some 1 := by decide +kernel

set_option maxHeartbeats 4000000 in
set_option maxRecDepth 100000 in
theorem c_X0_checkAmount (l : Launch) (hst : l.stackTraces = false) (D : va_G) (q : Nat → Nat) (cI cZ cJ : ClassId) (k : Nat) (V : Nat → Nat) (C : Nat → Nat) (T : Nat → Nat) (B : Nat → Nat) (P : Nat → Nat) (A : Nat → Nat) (n : Nat) (PR : Nat → Nat) (ST : Nat → Nat) (li : Nat) (w : Nat) (WK : Nat → Nat) (so : Nat) (sp : Nat) (CT : Nat → Int64) (SC : Nat → Int) (TA : Nat → Nat) (sz : Nat) (p0 : Int32) : vx_Met l yX0_checkAmount wsX0_checkAmount ({ frames := 6, cells := 1, slots := 6, locals := 90 }) (va_Pc [.int p0] (cxP D (ty3 cI cZ cJ) (wX q cI cZ cJ k V C T B P A n PR ST li w WK so sp CT SC TA) sz)) (va_Qv (fun (_ : Unit) => rg p0 0 2001) (bW D (va_A (wX q cI cZ cJ k V C T B P A n PR ST li w WK so sp CT SC TA) sz) (fun (_ : Unit) => (wX q cI cZ cJ k V C T B P A n PR ST li w WK so sp CT SC TA))) (va_A (wX q cI cZ cJ k V C T B P A n PR ST li w WK so sp CT SC TA) sz)) (xX D (fun E => E = eIA ∧ ¬ rg p0 0 2001) (wX q cI cZ cJ k V C T B P A n PR ST li w WK so sp CT SC TA) (va_A (wX q cI cZ cJ k V C T B P A n PR ST li w WK so sp CT SC TA) sz)) 1 6 (va_A (wX q cI cZ cJ k V C T B P A n PR ST li w WK so sp CT SC TA) sz) := by
  refine vx_ofW (cc := cX0_checkAmount) (maxL := 1) (ret := none) (by decide) rfl ?_
  intro p e s m args below meth c s₁ BB hml hout hv
  obtain ⟨hav, hsz, hP, hK, hD0, hZ, hg⟩ := hv
  subst hsz
  subst hav
  have hx := BB.exec
  have hb := BB.bytes
  have hr := BB.returns
  have hts := atoms_spec (ws := wsX0_checkAmount) BB.pre
  have hown : s.vm.findClass RX0 = some m.cls := findClass_of_methodNamed BB.named
  have hlocks := BB.notSynchronized
  have hD := hD0.self (sz := s.heap.size)
  have hA : ∀ q9 : Nat, s.heap.size ≤ q9 → va_A (wX q cI cZ cJ k V C T B P A n PR ST li w WK so sp CT SC TA) s.heap.size q9 := fun _ h => Or.inr h
  have hl := lv_entry ([.int p0]) (n := 1) (Nat.le_of_ble_eq_true rfl)
  rw [lg_entry_eq]
  generalize (lg_sl ([.int p0]) ++ List.replicate (1 - (lg_sl ([.int p0])).length) Slot.unset).toArray = ls at hl ⊢
  have hl : lv_has ls 1 [(0, .int p0)] := hl
  refine W_absR (fun R hR => ?_)
  have hR : R = ({ frames := 6, cells := 1, slots := 6, locals := 90 } : Room) := hR
  refine W_absQ (fun Q hQ => ?_)
  generalize ([.int p0] : List Value).toArray = args at hts hQ ⊢
  generalize va_A (wX q cI cZ cJ k V C T B P A n PR ST li w WK so sp CT SC TA) s.heap.size = A9 at hD hZ hA hQ
  refine W_start hP (A := A9) (fun H locs hP hS => ?_)
  refine lv_iload_n hx hb dX0_checkAmount_0 rfl (lv_at hl 0 rfl) ?_
  refine lv_if_lt (tgt := 11) hx hb dX0_checkAmount_1 (by decide) (fun c1 => ?_) (fun c1 => ?_)
  · have hno : ¬ rg p0 0 2001 := by rw [rg_iff (by omega)]; simp only [Int32.lt_iff_toInt_lt, Int32.le_iff_toInt_le, Int32.toInt_zero] at c1; omega
    subst hQ
    exact k_throw hx hb hst (cls := eIA) hown (by decide +kernel) (hts _ (List.mem_of_getElem? (i := 1) rfl)) (hts _ (List.mem_of_getElem? (i := 2) rfl)) (hg.1 (194, "amount is not 0 to 2000") (by decide)) (k_hat (fun w h => hts w (List.mem_cons_of_mem _ (List.mem_append_right _ h))) (by decide +kernel) hg.2.1 hg) (by decide +kernel) hZ hS (hl.1.trans hml.symm) dX0_checkAmount_11 dX0_checkAmount_14 dX0_checkAmount_15 dX0_checkAmount_17 dX0_checkAmount_20 hout (by rw [hR]; exact Nat.le_of_ble_eq_true rfl) (by rw [hR]; exact Nat.le_of_ble_eq_true rfl) (by rw [hR]; exact Nat.le_of_ble_eq_true rfl) (by rw [hR]; exact Nat.le_of_ble_eq_true rfl) hlocks hP hD (⟨rfl, hno⟩) (Nat.le_of_ble_eq_true rfl) (Nat.le_of_ble_eq_true rfl)
  · refine lv_iload_n hx hb dX0_checkAmount_4 rfl (lv_at hl 0 rfl) ?_
    refine lv_sipush (v := nI 2000) hx hb dX0_checkAmount_5 (by decide) ?_
    refine lv_icmp_le (tgt := 21) hx hb dX0_checkAmount_8 (by decide) (fun c8 => ?_) (fun c8 => ?_)
    · subst hQ
      exact vx_ret (e_v () hx hb hr hlocks hS hP hD (by rw [rg_iff (by omega)]; simp only [Int32.lt_iff_toInt_lt, Int32.le_iff_toInt_le, Int32.toInt_zero, nI_toInt (show 2000 < 2 ^ 31 by omega)] at c1 c8; omega) (Nat.le_of_ble_eq_true rfl) (Nat.le_of_ble_eq_true rfl) dX0_checkAmount_21)
    · have hno : ¬ rg p0 0 2001 := by rw [rg_iff (by omega)]; simp only [Int32.lt_iff_toInt_lt, Int32.le_iff_toInt_le, Int32.toInt_zero, nI_toInt (show 2000 < 2 ^ 31 by omega)] at c8; omega
      subst hQ
      exact k_throw hx hb hst (cls := eIA) hown (by decide +kernel) (hts _ (List.mem_of_getElem? (i := 1) rfl)) (hts _ (List.mem_of_getElem? (i := 2) rfl)) (hg.1 (194, "amount is not 0 to 2000") (by decide)) (k_hat (fun w h => hts w (List.mem_cons_of_mem _ (List.mem_append_right _ h))) (by decide +kernel) hg.2.1 hg) (by decide +kernel) hZ hS (hl.1.trans hml.symm) dX0_checkAmount_11 dX0_checkAmount_14 dX0_checkAmount_15 dX0_checkAmount_17 dX0_checkAmount_20 hout (by rw [hR]; exact Nat.le_of_ble_eq_true rfl) (by rw [hR]; exact Nat.le_of_ble_eq_true rfl) (by rw [hR]; exact Nat.le_of_ble_eq_true rfl) (by rw [hR]; exact Nat.le_of_ble_eq_true rfl) hlocks hP hD (⟨rfl, hno⟩) (Nat.le_of_ble_eq_true rfl) (Nat.le_of_ble_eq_true rfl)
theorem hd_X0_checkAmount : yX0_checkAmount.cls = RX0 ∧ yX0_checkAmount.cls ≠ "java/lang/invoke/MethodHandle" ∧ yX0_checkAmount.cls ≠ "java/lang/invoke/VarHandle" ∧ (parseMethodDescriptor yX0_checkAmount.desc).map (fun d => d.parameters.length) = some 1 := by decide +kernel

set_option maxHeartbeats 4000000 in
set_option maxRecDepth 100000 in
theorem c_X0_checkPriceAndStock (l : Launch) (hst : l.stackTraces = false) (D : va_G) (q : Nat → Nat) (cI cZ cJ : ClassId) (k : Nat) (V : Nat → Nat) (C : Nat → Nat) (T : Nat → Nat) (B : Nat → Nat) (P : Nat → Nat) (A : Nat → Nat) (n : Nat) (PR : Nat → Nat) (ST : Nat → Nat) (li : Nat) (w : Nat) (WK : Nat → Nat) (so : Nat) (sp : Nat) (CT : Nat → Int64) (SC : Nat → Int) (TA : Nat → Nat) (sz : Nat) (p0 : Int32) (p1 : Int32) : vx_Met l yX0_checkPriceAndStock wsX0_checkPriceAndStock ({ frames := 6, cells := 1, slots := 6, locals := 90 }) (va_Pc [.int p0, .int p1] (cxP D (ty3 cI cZ cJ) (wX q cI cZ cJ k V C T B P A n PR ST li w WK so sp CT SC TA) sz)) (va_Qv (fun (_ : Unit) => rg p0 1 2001 ∧ rg p1 0 100) (bW D (va_A (wX q cI cZ cJ k V C T B P A n PR ST li w WK so sp CT SC TA) sz) (fun (_ : Unit) => (wX q cI cZ cJ k V C T B P A n PR ST li w WK so sp CT SC TA))) (va_A (wX q cI cZ cJ k V C T B P A n PR ST li w WK so sp CT SC TA) sz)) (xX D (fun E => E = eIA ∧ ¬ (rg p0 1 2001 ∧ rg p1 0 100)) (wX q cI cZ cJ k V C T B P A n PR ST li w WK so sp CT SC TA) (va_A (wX q cI cZ cJ k V C T B P A n PR ST li w WK so sp CT SC TA) sz)) 1 6 (va_A (wX q cI cZ cJ k V C T B P A n PR ST li w WK so sp CT SC TA) sz) := by
  refine vx_ofW (cc := cX0_checkPriceAndStock) (maxL := 2) (ret := none) (by decide) rfl ?_
  intro p e s m args below meth c s₁ BB hml hout hv
  obtain ⟨hav, hsz, hP, hK, hD0, hZ, hg⟩ := hv
  subst hsz
  subst hav
  have hx := BB.exec
  have hb := BB.bytes
  have hr := BB.returns
  have hts := atoms_spec (ws := wsX0_checkPriceAndStock) BB.pre
  have hown : s.vm.findClass RX0 = some m.cls := findClass_of_methodNamed BB.named
  have hlocks := BB.notSynchronized
  have hD := hD0.self (sz := s.heap.size)
  have hA : ∀ q9 : Nat, s.heap.size ≤ q9 → va_A (wX q cI cZ cJ k V C T B P A n PR ST li w WK so sp CT SC TA) s.heap.size q9 := fun _ h => Or.inr h
  have hl := lv_entry ([.int p0, .int p1]) (n := 2) (Nat.le_of_ble_eq_true rfl)
  rw [lg_entry_eq]
  generalize (lg_sl ([.int p0, .int p1]) ++ List.replicate (2 - (lg_sl ([.int p0, .int p1])).length) Slot.unset).toArray = ls at hl ⊢
  have hl : lv_has ls 2 [(0, .int p0), (1, .int p1)] := hl
  refine W_absR (fun R hR => ?_)
  have hR : R = ({ frames := 6, cells := 1, slots := 6, locals := 90 } : Room) := hR
  refine W_absQ (fun Q hQ => ?_)
  generalize ([.int p0, .int p1] : List Value).toArray = args at hts hQ ⊢
  generalize va_A (wX q cI cZ cJ k V C T B P A n PR ST li w WK so sp CT SC TA) s.heap.size = A9 at hD hZ hA hQ
  refine W_start hP (A := A9) (fun H locs hP hS => ?_)
  refine lv_iload_n hx hb dX0_checkPriceAndStock_0 rfl (lv_at hl 0 rfl) ?_
  refine lv_iconst (v := nI 1) hx hb dX0_checkPriceAndStock_1 (ic_1) ?_
  refine lv_icmp_lt (tgt := 12) hx hb dX0_checkPriceAndStock_2 (by decide) (fun c2 => ?_) (fun c2 => ?_)
  · have hno : ¬ rg p0 1 2001 := by rw [rg_iff (by omega)]; simp only [Int32.lt_iff_toInt_lt, Int32.le_iff_toInt_le, Int32.toInt_zero, nI_toInt (show 1 < 2 ^ 31 by omega)] at c2; omega
    subst hQ
    exact k_throw hx hb hst (cls := eIA) hown (by decide +kernel) (hts _ (List.mem_of_getElem? (i := 1) rfl)) (hts _ (List.mem_of_getElem? (i := 2) rfl)) (hg.1 (190, "price is not 1 to 2000") (by decide)) (k_hat (fun w h => hts w (List.mem_cons_of_mem _ (List.mem_append_right _ h))) (by decide +kernel) hg.2.1 hg) (by decide +kernel) hZ hS (hl.1.trans hml.symm) dX0_checkPriceAndStock_12 dX0_checkPriceAndStock_15 dX0_checkPriceAndStock_16 dX0_checkPriceAndStock_18 dX0_checkPriceAndStock_21 hout (by rw [hR]; exact Nat.le_of_ble_eq_true rfl) (by rw [hR]; exact Nat.le_of_ble_eq_true rfl) (by rw [hR]; exact Nat.le_of_ble_eq_true rfl) (by rw [hR]; exact Nat.le_of_ble_eq_true rfl) hlocks hP hD (⟨rfl, fun h => hno h.1⟩) (Nat.le_of_ble_eq_true rfl) (Nat.le_of_ble_eq_true rfl)
  · refine lv_iload_n hx hb dX0_checkPriceAndStock_5 rfl (lv_at hl 0 rfl) ?_
    refine lv_sipush (v := nI 2000) hx hb dX0_checkPriceAndStock_6 (by decide) ?_
    refine lv_icmp_le (tgt := 22) hx hb dX0_checkPriceAndStock_9 (by decide) (fun c9 => ?_) (fun c9 => ?_)
    · refine lv_iload_n hx hb dX0_checkPriceAndStock_22 rfl (lv_at hl 1 rfl) ?_
      refine lv_if_lt (tgt := 32) hx hb dX0_checkPriceAndStock_23 (by decide) (fun c23 => ?_) (fun c23 => ?_)
      · have hno : ¬ rg p1 0 100 := by rw [rg_iff (by omega)]; simp only [Int32.lt_iff_toInt_lt, Int32.le_iff_toInt_le, Int32.toInt_zero] at c23; omega
        subst hQ
        exact k_throw hx hb hst (cls := eIA) hown (by decide +kernel) (hts _ (List.mem_of_getElem? (i := 1) rfl)) (hts _ (List.mem_of_getElem? (i := 2) rfl)) (hg.1 (192, "stock is not 0 to 99") (by decide)) (k_hat (fun w h => hts w (List.mem_cons_of_mem _ (List.mem_append_right _ h))) (by decide +kernel) hg.2.1 hg) (by decide +kernel) hZ hS (hl.1.trans hml.symm) dX0_checkPriceAndStock_32 dX0_checkPriceAndStock_35 dX0_checkPriceAndStock_36 dX0_checkPriceAndStock_38 dX0_checkPriceAndStock_41 hout (by rw [hR]; exact Nat.le_of_ble_eq_true rfl) (by rw [hR]; exact Nat.le_of_ble_eq_true rfl) (by rw [hR]; exact Nat.le_of_ble_eq_true rfl) (by rw [hR]; exact Nat.le_of_ble_eq_true rfl) hlocks hP hD (⟨rfl, fun h => hno h.2⟩) (Nat.le_of_ble_eq_true rfl) (Nat.le_of_ble_eq_true rfl)
      · refine lv_iload_n hx hb dX0_checkPriceAndStock_26 rfl (lv_at hl 1 rfl) ?_
        refine lv_bipush (v := nI 99) hx hb dX0_checkPriceAndStock_27 (by decide) ?_
        refine lv_icmp_le (tgt := 42) hx hb dX0_checkPriceAndStock_29 (by decide) (fun c29 => ?_) (fun c29 => ?_)
        · subst hQ
          exact vx_ret (e_v () hx hb hr hlocks hS hP hD (⟨by rw [rg_iff (by omega)]; simp only [Int32.lt_iff_toInt_lt, Int32.le_iff_toInt_le, Int32.toInt_zero, nI_toInt (show 1 < 2 ^ 31 by omega), nI_toInt (show 2000 < 2 ^ 31 by omega)] at c2 c9; omega, by rw [rg_iff (by omega)]; simp only [Int32.lt_iff_toInt_lt, Int32.le_iff_toInt_le, Int32.toInt_zero, nI_toInt (show 99 < 2 ^ 31 by omega)] at c23 c29; omega⟩) (Nat.le_of_ble_eq_true rfl) (Nat.le_of_ble_eq_true rfl) dX0_checkPriceAndStock_42)
        · have hno : ¬ rg p1 0 100 := by rw [rg_iff (by omega)]; simp only [Int32.lt_iff_toInt_lt, Int32.le_iff_toInt_le, Int32.toInt_zero, nI_toInt (show 99 < 2 ^ 31 by omega)] at c29; omega
          subst hQ
          exact k_throw hx hb hst (cls := eIA) hown (by decide +kernel) (hts _ (List.mem_of_getElem? (i := 1) rfl)) (hts _ (List.mem_of_getElem? (i := 2) rfl)) (hg.1 (192, "stock is not 0 to 99") (by decide)) (k_hat (fun w h => hts w (List.mem_cons_of_mem _ (List.mem_append_right _ h))) (by decide +kernel) hg.2.1 hg) (by decide +kernel) hZ hS (hl.1.trans hml.symm) dX0_checkPriceAndStock_32 dX0_checkPriceAndStock_35 dX0_checkPriceAndStock_36 dX0_checkPriceAndStock_38 dX0_checkPriceAndStock_41 hout (by rw [hR]; exact Nat.le_of_ble_eq_true rfl) (by rw [hR]; exact Nat.le_of_ble_eq_true rfl) (by rw [hR]; exact Nat.le_of_ble_eq_true rfl) (by rw [hR]; exact Nat.le_of_ble_eq_true rfl) hlocks hP hD (⟨rfl, fun h => hno h.2⟩) (Nat.le_of_ble_eq_true rfl) (Nat.le_of_ble_eq_true rfl)
    · have hno : ¬ rg p0 1 2001 := by rw [rg_iff (by omega)]; simp only [Int32.lt_iff_toInt_lt, Int32.le_iff_toInt_le, Int32.toInt_zero, nI_toInt (show 2000 < 2 ^ 31 by omega)] at c9; omega
      subst hQ
      exact k_throw hx hb hst (cls := eIA) hown (by decide +kernel) (hts _ (List.mem_of_getElem? (i := 1) rfl)) (hts _ (List.mem_of_getElem? (i := 2) rfl)) (hg.1 (190, "price is not 1 to 2000") (by decide)) (k_hat (fun w h => hts w (List.mem_cons_of_mem _ (List.mem_append_right _ h))) (by decide +kernel) hg.2.1 hg) (by decide +kernel) hZ hS (hl.1.trans hml.symm) dX0_checkPriceAndStock_12 dX0_checkPriceAndStock_15 dX0_checkPriceAndStock_16 dX0_checkPriceAndStock_18 dX0_checkPriceAndStock_21 hout (by rw [hR]; exact Nat.le_of_ble_eq_true rfl) (by rw [hR]; exact Nat.le_of_ble_eq_true rfl) (by rw [hR]; exact Nat.le_of_ble_eq_true rfl) (by rw [hR]; exact Nat.le_of_ble_eq_true rfl) hlocks hP hD (⟨rfl, fun h => hno h.1⟩) (Nat.le_of_ble_eq_true rfl) (Nat.le_of_ble_eq_true rfl)
theorem hd_X0_checkPriceAndStock : yX0_checkPriceAndStock.cls = RX0 ∧ yX0_checkPriceAndStock.cls ≠ "java/lang/invoke/MethodHandle" ∧ yX0_checkPriceAndStock.cls ≠ "java/lang/invoke/VarHandle" ∧ (parseMethodDescriptor yX0_checkPriceAndStock.desc).map (fun d => d.parameters.length) = some 2 := by decide +kernel

set_option maxHeartbeats 4000000 in
set_option maxRecDepth 100000 in
theorem c_X0_waitingOf (l : Launch) (hst : l.stackTraces = false) (D : va_G) (q : Nat → Nat) (cI cZ cJ : ClassId) (k : Nat) (V : Nat → Nat) (C : Nat → Nat) (T : Nat → Nat) (B : Nat → Nat) (P : Nat → Nat) (A : Nat → Nat) (n : Nat) (PR : Nat → Nat) (ST : Nat → Nat) (li : Nat) (w : Nat) (WK : Nat → Nat) (so : Nat) (sp : Nat) (CT : Nat → Int64) (SC : Nat → Int) (TA : Nat → Nat) (sz : Nat) (kd : Nat) (hw12 : w ≤ 12) (hk8 : k ≤ 8) (hWK : ∀ j, j < w → WK j < k) (hkd : kd < 8) : Met l yX0_waitingOf wsX0_waitingOf ({ frames := 0, cells := 0, slots := 0, locals := 0 }) (va_Pc [.ref (q 0), .int (nI kd)] (cxP D (ty3 cI cZ cJ) (wX q cI cZ cJ k V C T B P A n PR ST li w WK so sp CT SC TA) sz)) (va_Qi (fun r (_ : Unit) => r = nI (wo WK kd w)) (bW D (va_A (wX q cI cZ cJ k V C T B P A n PR ST li w WK so sp CT SC TA) sz) (fun (_ : Unit) => (wX q cI cZ cJ k V C T B P A n PR ST li w WK so sp CT SC TA))) (va_A (wX q cI cZ cJ k V C T B P A n PR ST li w WK so sp CT SC TA) sz)) 0 0 (va_A (wX q cI cZ cJ k V C T B P A n PR ST li w WK so sp CT SC TA) sz) := by
  refine Met.ofW (cc := cX0_waitingOf) (maxL := 4) (ret := (some .int)) (by decide) rfl ?_
  intro p e s m args below meth c s₁ BB hml hv
  obtain ⟨hav, hsz, hP, hK, hD0, hZ, hg⟩ := hv
  subst hsz
  subst hav
  have hx := BB.exec
  have hb := BB.bytes
  have hr := BB.returns
  have hts := atoms_spec (ws := wsX0_waitingOf) BB.pre
  have hown : s.vm.findClass RX0 = some m.cls := findClass_of_methodNamed BB.named
  have hlocks := BB.notSynchronized
  have hin : ∀ w ∈ wsX00, w ∈ wsX0_waitingOf := fun w h => (List.mem_cons_of_mem _ (List.mem_append_right _ h))
  have hD := hD0.self (sz := s.heap.size)
  have hA : ∀ q9 : Nat, s.heap.size ≤ q9 → va_A (wX q cI cZ cJ k V C T B P A n PR ST li w WK so sp CT SC TA) s.heap.size q9 := fun _ h => Or.inr h
  have hl := lv_entry ([.ref (q 0), .int (nI kd)]) (n := 4) (Nat.le_of_ble_eq_true rfl)
  rw [lg_entry_eq]
  generalize (lg_sl ([.ref (q 0), .int (nI kd)]) ++ List.replicate (4 - (lg_sl ([.ref (q 0), .int (nI kd)])).length) Slot.unset).toArray = ls at hl ⊢
  have hl : lv_has ls 4 [(0, .ref (q 0)), (1, .int (nI kd))] := hl
  refine W_absR (fun R hR => ?_)
  have hR : R = ({ frames := 0, cells := 0, slots := 0, locals := 0 } : Room) := hR
  refine W_absQ (fun Q hQ => ?_)
  generalize ([.ref (q 0), .int (nI kd)] : List Value).toArray = args at hts hQ ⊢
  generalize va_A (wX q cI cZ cJ k V C T B P A n PR ST li w WK so sp CT SC TA) s.heap.size = A9 at hD hZ hA hQ
  refine W_start hP (A := A9) (fun H locs hP hS => ?_)
  refine lv_iconst (v := nI 0) hx hb dX0_waitingOf_0 (ic_0) ?_
  refine lv_istore_n (lv' := [(2, .int (nI 0)), (0, .ref (q 0)), (1, .int (nI kd))]) hx hb dX0_waitingOf_1 rfl hl (by decide) rfl (fun ls hl => ?_)
  refine lv_iconst (v := nI 0) hx hb dX0_waitingOf_2 (ic_0) ?_
  refine lv_istore_n (lv' := [(3, .int (nI 0)), (2, .int (nI 0)), (0, .ref (q 0)), (1, .int (nI kd))]) hx hb dX0_waitingOf_3 rfl hl (by decide) rfl (fun ls hl => ?_)
  have lp_4 : ∀ (fu_4 : Nat) (j : Nat) (mny : Nat), w - j < fu_4 → (j ≤ w) → (mny = wo WK kd j) → ∀ (H : Heap) (locs : List Loc), va_P D vwCl (wX q cI cZ cJ k V C T B P A n PR ST li w WK so sp CT SC TA) H → va_D A9 (wX q cI cZ cJ k V C T B P A n PR ST li w WK so sp CT SC TA) → va_S A9 s.heap H locs → ∀ ls : Array Slot, lv_has ls 4 [(3, .int (nI j)), (2, .int (nI mny)), (0, .ref (q 0)), (1, .int (nI kd))] → W p l e R s m args below meth c H locs 0 0 Q (F0 m 4 ls []) := by
    intro fu_4
    induction fu_4 with
    | zero =>
      intro j mny hfu_4
      exact absurd hfu_4 (Nat.not_lt_zero _)
    | succ fu_4 ih_4 =>
      intro j mny hfu_4 hj hm H locs hP hD hS ls hl
      refine lv_iload_n hx hb dX0_waitingOf_4 rfl (lv_at hl 0 rfl) ?_
      refine lv_aload_n hx hb dX0_waitingOf_5 rfl (lv_at hl 2 rfl) ?_
      refine gfX hx hb hts hin hown hK hP 11 (by decide) (List.mem_of_getElem? (i := 1) rfl) rfl rfl dX0_waitingOf_6 ?_
      refine n_icmp_ge (tgt := 31) hx hb (by omega) (by omega) dX0_waitingOf_9 (by decide) (fun c9 => ?_) (fun c9 => ?_)
      · have hjw : j = w := by omega
        refine lv_iload_n hx hb dX0_waitingOf_31 rfl (lv_at hl 1 rfl) ?_
        subst hQ
        exact e_i () hx hb hr hlocks hS hP hD (by rw [hm, hjw]) (Nat.le_of_ble_eq_true rfl) (Nat.le_of_ble_eq_true rfl) dX0_waitingOf_32
      · refine lv_aload_n hx hb dX0_waitingOf_12 rfl (lv_at hl 2 rfl) ?_
        refine gfX hx hb hts hin hown hK hP 12 (by decide) (List.mem_of_getElem? (i := 2) rfl) rfl rfl dX0_waitingOf_13 ?_
        refine lv_iload_n hx hb dX0_waitingOf_16 rfl (lv_at hl 0 rfl) ?_
        refine n_iald hx hb hK hP 9 0 rfl rfl (by omega) (by decide) dX0_waitingOf_17 ?_
        refine lv_iload_n hx hb dX0_waitingOf_18 rfl (lv_at hl 3 rfl) ?_
        refine n_icmp_ne (tgt := 25) hx hb (by have := hWK j (by omega); omega) (by omega) dX0_waitingOf_19 (by decide) (fun c19 => ?_) (fun c19 => ?_)
        · have hwo := wo_n (WK := WK) c19
          refine lv_iinc (v := nI (j + 1)) (lv' := [(3, .int (nI (j + 1))), (2, .int (nI mny)), (0, .ref (q 0)), (1, .int (nI kd))]) hx hb dX0_waitingOf_25 hl (k := 0) rfl (ni_inc _ 1) (by decide) rfl (fun ls hl => ?_)
          refine lv_goto (tgt := 4) hx hb dX0_waitingOf_28 (by decide) ?_
          exact ih_4 (j + 1) mny (by omega) (by omega) (by omega) _ _ hP hD hS ls (lv_sub hl [0, 1, 2, 3] rfl)
        · have hwo := wo_y (WK := WK) c19
          refine lv_iinc (v := nI (mny + 1)) (lv' := [(2, .int (nI (mny + 1))), (3, .int (nI j)), (0, .ref (q 0)), (1, .int (nI kd))]) hx hb dX0_waitingOf_22 hl (k := 1) rfl (ni_inc _ 1) (by decide) rfl (fun ls hl => ?_)
          refine lv_iinc (v := nI (j + 1)) (lv' := [(3, .int (nI (j + 1))), (2, .int (nI (mny + 1))), (0, .ref (q 0)), (1, .int (nI kd))]) hx hb dX0_waitingOf_25 hl (k := 1) rfl (ni_inc _ 1) (by decide) rfl (fun ls hl => ?_)
          refine lv_goto (tgt := 4) hx hb dX0_waitingOf_28 (by decide) ?_
          exact ih_4 (j + 1) (mny + 1) (by omega) (by omega) (by omega) _ _ hP hD hS ls (lv_sub hl [0, 1, 2, 3] rfl)
  exact lp_4 _ 0 0 (Nat.lt_succ_self _) (by omega) rfl _ _ hP hD hS ls (lv_sub hl [0, 1, 2, 3] rfl)
theorem hd_X0_waitingOf : yX0_waitingOf.cls = RX0 ∧ yX0_waitingOf.cls ≠ "java/lang/invoke/MethodHandle" ∧ yX0_waitingOf.cls ≠ "java/lang/invoke/VarHandle" ∧ (parseMethodDescriptor yX0_waitingOf.desc).map (fun d => d.parameters.length) = some 1 := by decide +kernel

set_option maxHeartbeats 4000000 in
set_option maxRecDepth 100000 in
theorem c_X0_credit (l : Launch) (hst : l.stackTraces = false) (D : va_G) (q : Nat → Nat) (cI cZ cJ : ClassId) (k : Nat) (V : Nat → Nat) (C : Nat → Nat) (T : Nat → Nat) (B : Nat → Nat) (P : Nat → Nat) (A : Nat → Nat) (n : Nat) (PR : Nat → Nat) (ST : Nat → Nat) (li : Nat) (w : Nat) (WK : Nat → Nat) (so : Nat) (sp : Nat) (CT : Nat → Int64) (SC : Nat → Int) (TA : Nat → Nat) (sz : Nat) (hw12 : w ≤ 12) (hk8 : k ≤ 8) (hWK : ∀ j, j < w → WK j < k) (hV : ∀ i, i < k → 1 ≤ V i ∧ V i ≤ 500) : Met l yX0_credit wsX0_credit ({ frames := 1, cells := 0, slots := 0, locals := 23 }) (va_Pc [.ref (q 0)] (cxP D (ty3 cI cZ cJ) (wX q cI cZ cJ k V C T B P A n PR ST li w WK so sp CT SC TA) sz)) (va_Qi (fun r (_ : Unit) => r = nI (crk V WK w k)) (bW D (va_A (wX q cI cZ cJ k V C T B P A n PR ST li w WK so sp CT SC TA) sz) (fun (_ : Unit) => (wX q cI cZ cJ k V C T B P A n PR ST li w WK so sp CT SC TA))) (va_A (wX q cI cZ cJ k V C T B P A n PR ST li w WK so sp CT SC TA) sz)) 0 0 (va_A (wX q cI cZ cJ k V C T B P A n PR ST li w WK so sp CT SC TA) sz) := by
  refine Met.ofW (cc := cX0_credit) (maxL := 3) (ret := (some .int)) (by decide) rfl ?_
  intro p e s m args below meth c s₁ BB hml hv
  obtain ⟨hav, hsz, hP, hK, hD0, hZ, hg⟩ := hv
  subst hsz
  subst hav
  have hx := BB.exec
  have hb := BB.bytes
  have hr := BB.returns
  have hts := atoms_spec (ws := wsX0_credit) BB.pre
  have hown : s.vm.findClass RX0 = some m.cls := findClass_of_methodNamed BB.named
  have hlocks := BB.notSynchronized
  have hin : ∀ w ∈ wsX00, w ∈ wsX0_credit := fun w h => (List.mem_cons_of_mem _ (List.mem_append_right _ h))
  have hD := hD0.self (sz := s.heap.size)
  have hA : ∀ q9 : Nat, s.heap.size ≤ q9 → va_A (wX q cI cZ cJ k V C T B P A n PR ST li w WK so sp CT SC TA) s.heap.size q9 := fun _ h => Or.inr h
  have hl := lv_entry ([.ref (q 0)]) (n := 3) (Nat.le_of_ble_eq_true rfl)
  rw [lg_entry_eq]
  generalize (lg_sl ([.ref (q 0)]) ++ List.replicate (3 - (lg_sl ([.ref (q 0)])).length) Slot.unset).toArray = ls at hl ⊢
  have hl : lv_has ls 3 [(0, .ref (q 0))] := hl
  refine W_absR (fun R hR => ?_)
  have hR : R = ({ frames := 1, cells := 0, slots := 0, locals := 23 } : Room) := hR
  refine W_absQ (fun Q hQ => ?_)
  generalize ([.ref (q 0)] : List Value).toArray = args at hts hQ ⊢
  generalize va_A (wX q cI cZ cJ k V C T B P A n PR ST li w WK so sp CT SC TA) s.heap.size = A9 at hD hZ hA hQ
  refine W_start hP (A := A9) (fun H locs hP hS => ?_)
  refine lv_iconst (v := nI 0) hx hb dX0_credit_0 (ic_0) ?_
  refine lv_istore_n (lv' := [(1, .int (nI 0)), (0, .ref (q 0))]) hx hb dX0_credit_1 rfl hl (by decide) rfl (fun ls hl => ?_)
  refine lv_iconst (v := nI 0) hx hb dX0_credit_2 (ic_0) ?_
  refine lv_istore_n (lv' := [(2, .int (nI 0)), (1, .int (nI 0)), (0, .ref (q 0))]) hx hb dX0_credit_3 rfl hl (by decide) rfl (fun ls hl => ?_)
  have lp_4 : ∀ (fu_4 : Nat) (i : Nat) (su : Nat), k - i < fu_4 → (i ≤ k) → (su = crk V WK w i) → ∀ (H : Heap) (locs : List Loc), va_P D vwCl (wX q cI cZ cJ k V C T B P A n PR ST li w WK so sp CT SC TA) H → va_D A9 (wX q cI cZ cJ k V C T B P A n PR ST li w WK so sp CT SC TA) → va_S A9 s.heap H locs → ∀ ls : Array Slot, lv_has ls 3 [(2, .int (nI i)), (1, .int (nI su)), (0, .ref (q 0))] → W p l e R s m args below meth c H locs 0 0 Q (F0 m 4 ls []) := by
    intro fu_4
    induction fu_4 with
    | zero =>
      intro i su hfu_4
      exact absurd hfu_4 (Nat.not_lt_zero _)
    | succ fu_4 ih_4 =>
      intro i su hfu_4 hi hs H locs hP hD hS ls hl
      refine lv_iload_n hx hb dX0_credit_4 rfl (lv_at hl 0 rfl) ?_
      refine lv_aload_n hx hb dX0_credit_5 rfl (lv_at hl 2 rfl) ?_
      refine gfX hx hb hts hin hown hK hP 0 (by decide) (List.mem_of_getElem? (i := 1) rfl) rfl rfl dX0_credit_6 ?_
      refine n_icmp_ge (tgt := 33) hx hb (by omega) (by omega) dX0_credit_9 (by decide) (fun c9 => ?_) (fun c9 => ?_)
      · have hik : i = k := by omega
        refine lv_iload_n hx hb dX0_credit_33 rfl (lv_at hl 1 rfl) ?_
        subst hQ
        exact e_i () hx hb hr hlocks hS hP hD (by rw [hs, hik]) (Nat.le_of_ble_eq_true rfl) (Nat.le_of_ble_eq_true rfl) dX0_credit_34
      · refine lv_iload_n hx hb dX0_credit_12 rfl (lv_at hl 1 rfl) ?_
        refine lv_aload_n hx hb dX0_credit_13 rfl (lv_at hl 2 rfl) ?_
        refine lv_iload_n hx hb dX0_credit_14 rfl (lv_at hl 0 rfl) ?_
        refine k_i (va_runV (As := [.int (nI i)]) (rest := [.int (nI su)]) ⟨hx, hb, hml, hown, hts⟩ (c_X0_waitingOf l hst D q cI cZ cJ k V C T B P A n PR ST li w WK so sp CT SC TA H.size i hw12 hk8 hWK (by omega)) (cwV 1 hts gX0_credit_X0_waitingOf rfl rfl rfl hd_X0_waitingOf ⟨(by rw [hR]; exact Nat.le_of_ble_eq_true rfl), (by rw [hR]; exact Nat.le_of_ble_eq_true rfl)⟩) (pre_V hP hK hD hS hA hZ hg 0 (ci := 0) rfl rfl) rfl rfl hl.1 rfl (lv_room (Nat.le_of_ble_eq_true rfl)) dX0_credit_15 ⟨(by rw [hR]; exact Nat.le_of_ble_eq_true rfl), (by rw [hR]; exact Nat.le_of_ble_eq_true rfl)⟩) hD hS hA (fun r_2 u_1 H locs hp_3 hP hD hS => ?_)
        subst hp_3
        refine lv_aload_n hx hb dX0_credit_18 rfl (lv_at hl 2 rfl) ?_
        refine gfX hx hb hts hin hown hK hP 1 (by decide) (List.mem_of_getElem? (i := 2) rfl) rfl rfl dX0_credit_19 ?_
        refine lv_iload_n hx hb dX0_credit_22 rfl (lv_at hl 0 rfl) ?_
        refine n_iald hx hb hK hP 1 0 rfl rfl (by omega) (by decide) dX0_credit_23 ?_
        refine n_imul hx hb dX0_credit_24 ?_
        refine n_iadd hx hb dX0_credit_25 ?_
        refine lv_istore_n (lv' := [(1, .int (nI (su + ((wo WK i w) * (V i))))), (2, .int (nI i)), (0, .ref (q 0))]) hx hb dX0_credit_26 rfl hl (by decide) rfl (fun ls hl => ?_)
        refine lv_iinc (v := nI (i + 1)) (lv' := [(2, .int (nI (i + 1))), (1, .int (nI (su + ((wo WK i w) * (V i))))), (0, .ref (q 0))]) hx hb dX0_credit_27 hl (k := 1) rfl (ni_inc _ 1) (by decide) rfl (fun ls hl => ?_)
        refine lv_goto (tgt := 4) hx hb dX0_credit_30 (by decide) ?_
        exact ih_4 (i + 1) (su + ((wo WK i w) * (V i))) (by omega) (by omega) (by rw [hs]; rfl) _ _ hP hD hS ls (lv_sub hl [0, 1, 2] rfl)
  exact lp_4 _ 0 0 (Nat.lt_succ_self _) (by omega) rfl _ _ hP hD hS ls (lv_sub hl [0, 1, 2] rfl)
theorem hd_X0_credit : yX0_credit.cls = RX0 ∧ yX0_credit.cls ≠ "java/lang/invoke/MethodHandle" ∧ yX0_credit.cls ≠ "java/lang/invoke/VarHandle" ∧ (parseMethodDescriptor yX0_credit.desc).map (fun d => d.parameters.length) = some 0 := by decide +kernel
