set_option maxHeartbeats 4000000 in
set_option maxRecDepth 100000 in
theorem c_X1_thrown (l : Launch) (hst : l.stackTraces = false) (D : va_G) (q : Nat → Nat) (cI cZ cJ : ClassId) (th : Nat) (k : Nat) (V : Nat → Nat) (C : Nat → Nat) (A : Nat → Nat) (T : Nat → Nat) (B : Nat → Nat) (P : Nat → Nat) (OR : Nat → Nat) (n : Nat) (PR : Nat → Nat) (ST : Nat → Nat) (li : Nat) (w : Nat) (WK : Nat → Nat) (so : Nat) (sp : Nat) (CT : Nat → Int64) (FW : Nat → Nat) (sz : Nat) : Met l yX1_thrown wsX1_thrown ({ frames := 0, cells := 0, slots := 0, locals := 0 }) (va_Pc [.ref (q 0)] (cxP D (ty3 cI cZ cJ) (wM q cI cZ cJ th k V C A T B P OR n PR ST li w WK so sp CT FW) sz)) (va_Qi (fun r (_ : Unit) => r = nI th) (bW D (va_A (wM q cI cZ cJ th k V C A T B P OR n PR ST li w WK so sp CT FW) sz) (fun (_ : Unit) => (wM q cI cZ cJ th k V C A T B P OR n PR ST li w WK so sp CT FW))) (va_A (wM q cI cZ cJ th k V C A T B P OR n PR ST li w WK so sp CT FW) sz)) 0 0 (va_A (wM q cI cZ cJ th k V C A T B P OR n PR ST li w WK so sp CT FW) sz) := by
  refine Met.ofW (cc := cX1_thrown) (maxL := 1) (ret := (some .int)) (by decide) rfl ?_
  intro p e s m args below meth c s₁ BB hml hv
  obtain ⟨hav, hsz, hP, hK, hD0, hZ, hg⟩ := hv
  subst hsz
  subst hav
  have hx := BB.exec
  have hb := BB.bytes
  have hr := BB.returns
  have hts := atoms_spec (ws := wsX1_thrown) BB.pre
  have hown : s.vm.findClass RX1 = some m.cls := findClass_of_methodNamed BB.named
  have hlocks := BB.notSynchronized
  have hin : ∀ w ∈ wsX10, w ∈ wsX1_thrown := fun w h => (List.mem_cons_of_mem _ (List.mem_append_right _ h))
  have hD := hD0.self (sz := s.heap.size)
  have hA : ∀ q9 : Nat, s.heap.size ≤ q9 → va_A (wM q cI cZ cJ th k V C A T B P OR n PR ST li w WK so sp CT FW) s.heap.size q9 := fun _ h => Or.inr h
  have hl := lv_entry ([.ref (q 0)]) (n := 1) (Nat.le_of_ble_eq_true rfl)
  rw [lg_entry_eq]
  generalize (lg_sl ([.ref (q 0)]) ++ List.replicate (1 - (lg_sl ([.ref (q 0)])).length) Slot.unset).toArray = ls at hl ⊢
  have hl : lv_has ls 1 [(0, .ref (q 0))] := hl
  refine W_absR (fun R hR => ?_)
  have hR : R = ({ frames := 0, cells := 0, slots := 0, locals := 0 } : Room) := hR
  refine W_absQ (fun Q hQ => ?_)
  generalize ([.ref (q 0)] : List Value).toArray = args at hts hQ ⊢
  generalize va_A (wM q cI cZ cJ th k V C A T B P OR n PR ST li w WK so sp CT FW) s.heap.size = A9 at hD hZ hA hQ
  refine W_start hP (A := A9) (fun H locs hP hS => ?_)
  refine lv_aload_n hx hb dX1_thrown_0 rfl (lv_at hl 0 rfl) ?_
  refine gfM hx hb hts hin hown hK hP 0 (by decide) (List.mem_of_getElem? (i := 1) rfl) rfl rfl dX1_thrown_1 ?_
  subst hQ
  exact e_i () hx hb hr hlocks hS hP hD rfl (Nat.le_of_ble_eq_true rfl) (Nat.le_of_ble_eq_true rfl) dX1_thrown_4
theorem hd_X1_thrown : yX1_thrown.cls = RX1 ∧ yX1_thrown.cls ≠ "java/lang/invoke/MethodHandle" ∧ yX1_thrown.cls ≠ "java/lang/invoke/VarHandle" ∧ (parseMethodDescriptor yX1_thrown.desc).map (fun d => d.parameters.length) = some 0 := by decide +kernel

set_option maxHeartbeats 4000000 in
set_option maxRecDepth 100000 in
theorem c_X1_fail (l : Launch) (hst : l.stackTraces = false) (D : va_G) (q : Nat → Nat) (cI cZ cJ : ClassId) (th : Nat) (k : Nat) (V : Nat → Nat) (C : Nat → Nat) (A : Nat → Nat) (T : Nat → Nat) (B : Nat → Nat) (P : Nat → Nat) (OR : Nat → Nat) (n : Nat) (PR : Nat → Nat) (ST : Nat → Nat) (li : Nat) (w : Nat) (WK : Nat → Nat) (so : Nat) (sp : Nat) (CT : Nat → Int64) (FW : Nat → Nat) (sz : Nat) (num : Nat) : Met l yX1_fail wsX1_fail ({ frames := 0, cells := 0, slots := 0, locals := 0 }) (va_Pc [.ref (q 0), .int (nI num)] (cxP D (ty3 cI cZ cJ) (wM q cI cZ cJ th k V C A T B P OR n PR ST li w WK so sp CT FW) sz)) (va_Qi (fun r (_ : Unit) => r = nI 0) (bW D (va_A (wM q cI cZ cJ th k V C A T B P OR n PR ST li w WK so sp CT FW) sz) (fun (_ : Unit) => (wM q cI cZ cJ num k V C A T B P OR n PR ST li w WK so sp CT FW))) (va_A (wM q cI cZ cJ th k V C A T B P OR n PR ST li w WK so sp CT FW) sz)) 0 0 (va_A (wM q cI cZ cJ th k V C A T B P OR n PR ST li w WK so sp CT FW) sz) := by
  refine Met.ofW (cc := cX1_fail) (maxL := 2) (ret := (some .int)) (by decide) rfl ?_
  intro p e s m args below meth c s₁ BB hml hv
  obtain ⟨hav, hsz, hP, hK, hD0, hZ, hg⟩ := hv
  subst hsz
  subst hav
  have hx := BB.exec
  have hb := BB.bytes
  have hr := BB.returns
  have hts := atoms_spec (ws := wsX1_fail) BB.pre
  have hown : s.vm.findClass RX1 = some m.cls := findClass_of_methodNamed BB.named
  have hlocks := BB.notSynchronized
  have hin : ∀ w ∈ wsX10, w ∈ wsX1_fail := fun w h => (List.mem_cons_of_mem _ (List.mem_append_right _ h))
  have hD := hD0.self (sz := s.heap.size)
  have hA : ∀ q9 : Nat, s.heap.size ≤ q9 → va_A (wM q cI cZ cJ th k V C A T B P OR n PR ST li w WK so sp CT FW) s.heap.size q9 := fun _ h => Or.inr h
  have hl := lv_entry ([.ref (q 0), .int (nI num)]) (n := 2) (Nat.le_of_ble_eq_true rfl)
  rw [lg_entry_eq]
  generalize (lg_sl ([.ref (q 0), .int (nI num)]) ++ List.replicate (2 - (lg_sl ([.ref (q 0), .int (nI num)])).length) Slot.unset).toArray = ls at hl ⊢
  have hl : lv_has ls 2 [(0, .ref (q 0)), (1, .int (nI num))] := hl
  refine W_absR (fun R hR => ?_)
  have hR : R = ({ frames := 0, cells := 0, slots := 0, locals := 0 } : Room) := hR
  refine W_absQ (fun Q hQ => ?_)
  generalize ([.ref (q 0), .int (nI num)] : List Value).toArray = args at hts hQ ⊢
  generalize va_A (wM q cI cZ cJ th k V C A T B P OR n PR ST li w WK so sp CT FW) s.heap.size = A9 at hD hZ hA hQ
  refine W_start hP (A := A9) (fun H locs hP hS => ?_)
  refine lv_aload_n hx hb dX1_fail_0 rfl (lv_at hl 0 rfl) ?_
  refine lv_iload_n hx hb dX1_fail_1 rfl (lv_at hl 1 rfl) ?_
  refine pfM (ws' := (wM q cI cZ cJ num k V C A T B P OR n PR ST li w WK so sp CT FW)) hx hb hts hin hown hK hP hD hS 0 (by decide) (List.mem_of_getElem? (i := 1) rfl) rfl ⟨rfl, rfl⟩ rfl rfl dX1_fail_2 (fun H locs hP hD hS => ?_)
  refine lv_iconst (v := nI 0) hx hb dX1_fail_5 (ic_0) ?_
  subst hQ
  exact e_i () hx hb hr hlocks hS hP hD rfl (Nat.le_of_ble_eq_true rfl) (Nat.le_of_ble_eq_true rfl) dX1_fail_6
theorem hd_X1_fail : yX1_fail.cls = RX1 ∧ yX1_fail.cls ≠ "java/lang/invoke/MethodHandle" ∧ yX1_fail.cls ≠ "java/lang/invoke/VarHandle" ∧ (parseMethodDescriptor yX1_fail.desc).map (fun d => d.parameters.length) = some 1 := by decide +kernel

set_option maxHeartbeats 4000000 in
set_option maxRecDepth 100000 in
theorem c_X1_isKind (l : Launch) (hst : l.stackTraces = false) (D : va_G) (q : Nat → Nat) (cI cZ cJ : ClassId) (th : Nat) (k : Nat) (V : Nat → Nat) (C : Nat → Nat) (A : Nat → Nat) (T : Nat → Nat) (B : Nat → Nat) (P : Nat → Nat) (OR : Nat → Nat) (n : Nat) (PR : Nat → Nat) (ST : Nat → Nat) (li : Nat) (w : Nat) (WK : Nat → Nat) (so : Nat) (sp : Nat) (CT : Nat → Int64) (FW : Nat → Nat) (sz : Nat) (p0 : Int32) (hk8 : k ≤ 8) : Met l yX1_isKind wsX1_isKind ({ frames := 0, cells := 0, slots := 0, locals := 0 }) (va_Pc [.ref (q 0), .int p0] (cxP D (ty3 cI cZ cJ) (wM q cI cZ cJ th k V C A T B P OR n PR ST li w WK so sp CT FW) sz)) (va_Qi (fun r (_ : Unit) => r = nI (b1 (rg p0 0 k))) (bW D (va_A (wM q cI cZ cJ th k V C A T B P OR n PR ST li w WK so sp CT FW) sz) (fun (_ : Unit) => (wM q cI cZ cJ th k V C A T B P OR n PR ST li w WK so sp CT FW))) (va_A (wM q cI cZ cJ th k V C A T B P OR n PR ST li w WK so sp CT FW) sz)) 0 0 (va_A (wM q cI cZ cJ th k V C A T B P OR n PR ST li w WK so sp CT FW) sz) := by
  refine Met.ofW (cc := cX1_isKind) (maxL := 2) (ret := (some .boolean)) (by decide) rfl ?_
  intro p e s m args below meth c s₁ BB hml hv
  obtain ⟨hav, hsz, hP, hK, hD0, hZ, hg⟩ := hv
  subst hsz
  subst hav
  have hx := BB.exec
  have hb := BB.bytes
  have hr := BB.returns
  have hts := atoms_spec (ws := wsX1_isKind) BB.pre
  have hown : s.vm.findClass RX1 = some m.cls := findClass_of_methodNamed BB.named
  have hlocks := BB.notSynchronized
  have hin : ∀ w ∈ wsX10, w ∈ wsX1_isKind := fun w h => (List.mem_cons_of_mem _ (List.mem_append_right _ h))
  have hD := hD0.self (sz := s.heap.size)
  have hA : ∀ q9 : Nat, s.heap.size ≤ q9 → va_A (wM q cI cZ cJ th k V C A T B P OR n PR ST li w WK so sp CT FW) s.heap.size q9 := fun _ h => Or.inr h
  have hl := lv_entry ([.ref (q 0), .int p0]) (n := 2) (Nat.le_of_ble_eq_true rfl)
  rw [lg_entry_eq]
  generalize (lg_sl ([.ref (q 0), .int p0]) ++ List.replicate (2 - (lg_sl ([.ref (q 0), .int p0])).length) Slot.unset).toArray = ls at hl ⊢
  have hl : lv_has ls 2 [(0, .ref (q 0)), (1, .int p0)] := hl
  refine W_absR (fun R hR => ?_)
  have hR : R = ({ frames := 0, cells := 0, slots := 0, locals := 0 } : Room) := hR
  refine W_absQ (fun Q hQ => ?_)
  generalize ([.ref (q 0), .int p0] : List Value).toArray = args at hts hQ ⊢
  generalize va_A (wM q cI cZ cJ th k V C A T B P OR n PR ST li w WK so sp CT FW) s.heap.size = A9 at hD hZ hA hQ
  refine W_start hP (A := A9) (fun H locs hP hS => ?_)
  refine lv_iload_n hx hb dX1_isKind_0 rfl (lv_at hl 1 rfl) ?_
  refine lv_if_lt (tgt := 16) hx hb dX1_isKind_1 (by decide) (fun c1 => ?_) (fun c1 => ?_)
  · have hn : ¬ rg p0 0 k := by rw [rg_iff (by omega)]; simp only [Int32.lt_iff_toInt_lt, Int32.le_iff_toInt_le, Int32.toInt_zero] at c1; omega
    refine lv_iconst (v := nI 0) hx hb dX1_isKind_16 (ic_0) ?_
    subst hQ
    exact e_z () hx hb hr hlocks hS (by omega) hP hD (congrArg nI (b1_n hn).symm) (Nat.le_of_ble_eq_true rfl) (Nat.le_of_ble_eq_true rfl) dX1_isKind_17
  · refine lv_iload_n hx hb dX1_isKind_4 rfl (lv_at hl 1 rfl) ?_
    refine lv_aload_n hx hb dX1_isKind_5 rfl (lv_at hl 0 rfl) ?_
    refine gfM hx hb hts hin hown hK hP 1 (by decide) (List.mem_of_getElem? (i := 1) rfl) rfl rfl dX1_isKind_6 ?_
    refine lv_icmp_ge (tgt := 16) hx hb dX1_isKind_9 (by decide) (fun c9 => ?_) (fun c9 => ?_)
    · have hn : ¬ rg p0 0 k := by rw [rg_iff (by omega)]; simp only [Int32.lt_iff_toInt_lt, Int32.le_iff_toInt_le, Int32.toInt_zero, nI_toInt (show k < 2 ^ 31 by omega)] at c9; omega
      refine lv_iconst (v := nI 0) hx hb dX1_isKind_16 (ic_0) ?_
      subst hQ
      exact e_z () hx hb hr hlocks hS (by omega) hP hD (congrArg nI (b1_n hn).symm) (Nat.le_of_ble_eq_true rfl) (Nat.le_of_ble_eq_true rfl) dX1_isKind_17
    · have hy : rg p0 0 k := by rw [rg_iff (by omega)]; simp only [Int32.lt_iff_toInt_lt, Int32.le_iff_toInt_le, Int32.toInt_zero, nI_toInt (show k < 2 ^ 31 by omega)] at c1 c9; omega
      refine lv_iconst (v := nI 1) hx hb dX1_isKind_12 (ic_1) ?_
      refine lv_goto (tgt := 17) hx hb dX1_isKind_13 (by decide) ?_
      subst hQ
      exact e_z () hx hb hr hlocks hS (by omega) hP hD (congrArg nI (b1_y hy).symm) (Nat.le_of_ble_eq_true rfl) (Nat.le_of_ble_eq_true rfl) dX1_isKind_17
theorem hd_X1_isKind : yX1_isKind.cls = RX1 ∧ yX1_isKind.cls ≠ "java/lang/invoke/MethodHandle" ∧ yX1_isKind.cls ≠ "java/lang/invoke/VarHandle" ∧ (parseMethodDescriptor yX1_isKind.desc).map (fun d => d.parameters.length) = some 1 := by decide +kernel

set_option maxHeartbeats 4000000 in
set_option maxRecDepth 100000 in
theorem c_X1_isProduct (l : Launch) (hst : l.stackTraces = false) (D : va_G) (q : Nat → Nat) (cI cZ cJ : ClassId) (th : Nat) (k : Nat) (V : Nat → Nat) (C : Nat → Nat) (A : Nat → Nat) (T : Nat → Nat) (B : Nat → Nat) (P : Nat → Nat) (OR : Nat → Nat) (n : Nat) (PR : Nat → Nat) (ST : Nat → Nat) (li : Nat) (w : Nat) (WK : Nat → Nat) (so : Nat) (sp : Nat) (CT : Nat → Int64) (FW : Nat → Nat) (sz : Nat) (p0 : Int32) (hn10 : n ≤ 10) : Met l yX1_isProduct wsX1_isProduct ({ frames := 0, cells := 0, slots := 0, locals := 0 }) (va_Pc [.ref (q 0), .int p0] (cxP D (ty3 cI cZ cJ) (wM q cI cZ cJ th k V C A T B P OR n PR ST li w WK so sp CT FW) sz)) (va_Qi (fun r (_ : Unit) => r = nI (b1 (rg p0 0 n))) (bW D (va_A (wM q cI cZ cJ th k V C A T B P OR n PR ST li w WK so sp CT FW) sz) (fun (_ : Unit) => (wM q cI cZ cJ th k V C A T B P OR n PR ST li w WK so sp CT FW))) (va_A (wM q cI cZ cJ th k V C A T B P OR n PR ST li w WK so sp CT FW) sz)) 0 0 (va_A (wM q cI cZ cJ th k V C A T B P OR n PR ST li w WK so sp CT FW) sz) := by
  refine Met.ofW (cc := cX1_isProduct) (maxL := 2) (ret := (some .boolean)) (by decide) rfl ?_
  intro p e s m args below meth c s₁ BB hml hv
  obtain ⟨hav, hsz, hP, hK, hD0, hZ, hg⟩ := hv
  subst hsz
  subst hav
  have hx := BB.exec
  have hb := BB.bytes
  have hr := BB.returns
  have hts := atoms_spec (ws := wsX1_isProduct) BB.pre
  have hown : s.vm.findClass RX1 = some m.cls := findClass_of_methodNamed BB.named
  have hlocks := BB.notSynchronized
  have hin : ∀ w ∈ wsX10, w ∈ wsX1_isProduct := fun w h => (List.mem_cons_of_mem _ (List.mem_append_right _ h))
  have hD := hD0.self (sz := s.heap.size)
  have hA : ∀ q9 : Nat, s.heap.size ≤ q9 → va_A (wM q cI cZ cJ th k V C A T B P OR n PR ST li w WK so sp CT FW) s.heap.size q9 := fun _ h => Or.inr h
  have hl := lv_entry ([.ref (q 0), .int p0]) (n := 2) (Nat.le_of_ble_eq_true rfl)
  rw [lg_entry_eq]
  generalize (lg_sl ([.ref (q 0), .int p0]) ++ List.replicate (2 - (lg_sl ([.ref (q 0), .int p0])).length) Slot.unset).toArray = ls at hl ⊢
  have hl : lv_has ls 2 [(0, .ref (q 0)), (1, .int p0)] := hl
  refine W_absR (fun R hR => ?_)
  have hR : R = ({ frames := 0, cells := 0, slots := 0, locals := 0 } : Room) := hR
  refine W_absQ (fun Q hQ => ?_)
  generalize ([.ref (q 0), .int p0] : List Value).toArray = args at hts hQ ⊢
  generalize va_A (wM q cI cZ cJ th k V C A T B P OR n PR ST li w WK so sp CT FW) s.heap.size = A9 at hD hZ hA hQ
  refine W_start hP (A := A9) (fun H locs hP hS => ?_)
  refine lv_iload_n hx hb dX1_isProduct_0 rfl (lv_at hl 1 rfl) ?_
  refine lv_if_lt (tgt := 16) hx hb dX1_isProduct_1 (by decide) (fun c1 => ?_) (fun c1 => ?_)
  · have hn : ¬ rg p0 0 n := by rw [rg_iff (by omega)]; simp only [Int32.lt_iff_toInt_lt, Int32.le_iff_toInt_le, Int32.toInt_zero] at c1; omega
    refine lv_iconst (v := nI 0) hx hb dX1_isProduct_16 (ic_0) ?_
    subst hQ
    exact e_z () hx hb hr hlocks hS (by omega) hP hD (congrArg nI (b1_n hn).symm) (Nat.le_of_ble_eq_true rfl) (Nat.le_of_ble_eq_true rfl) dX1_isProduct_17
  · refine lv_iload_n hx hb dX1_isProduct_4 rfl (lv_at hl 1 rfl) ?_
    refine lv_aload_n hx hb dX1_isProduct_5 rfl (lv_at hl 0 rfl) ?_
    refine gfM hx hb hts hin hown hK hP 9 (by decide) (List.mem_of_getElem? (i := 1) rfl) rfl rfl dX1_isProduct_6 ?_
    refine lv_icmp_ge (tgt := 16) hx hb dX1_isProduct_9 (by decide) (fun c9 => ?_) (fun c9 => ?_)
    · have hn : ¬ rg p0 0 n := by rw [rg_iff (by omega)]; simp only [Int32.lt_iff_toInt_lt, Int32.le_iff_toInt_le, Int32.toInt_zero, nI_toInt (show n < 2 ^ 31 by omega)] at c9; omega
      refine lv_iconst (v := nI 0) hx hb dX1_isProduct_16 (ic_0) ?_
      subst hQ
      exact e_z () hx hb hr hlocks hS (by omega) hP hD (congrArg nI (b1_n hn).symm) (Nat.le_of_ble_eq_true rfl) (Nat.le_of_ble_eq_true rfl) dX1_isProduct_17
    · have hy : rg p0 0 n := by rw [rg_iff (by omega)]; simp only [Int32.lt_iff_toInt_lt, Int32.le_iff_toInt_le, Int32.toInt_zero, nI_toInt (show n < 2 ^ 31 by omega)] at c1 c9; omega
      refine lv_iconst (v := nI 1) hx hb dX1_isProduct_12 (ic_1) ?_
      refine lv_goto (tgt := 17) hx hb dX1_isProduct_13 (by decide) ?_
      subst hQ
      exact e_z () hx hb hr hlocks hS (by omega) hP hD (congrArg nI (b1_y hy).symm) (Nat.le_of_ble_eq_true rfl) (Nat.le_of_ble_eq_true rfl) dX1_isProduct_17
theorem hd_X1_isProduct : yX1_isProduct.cls = RX1 ∧ yX1_isProduct.cls ≠ "java/lang/invoke/MethodHandle" ∧ yX1_isProduct.cls ≠ "java/lang/invoke/VarHandle" ∧ (parseMethodDescriptor yX1_isProduct.desc).map (fun d => d.parameters.length) = some 1 := by decide +kernel

set_option maxHeartbeats 4000000 in
set_option maxRecDepth 100000 in
theorem c_X1_isAmount (l : Launch) (hst : l.stackTraces = false) (D : va_G) (q : Nat → Nat) (cI cZ cJ : ClassId) (th : Nat) (k : Nat) (V : Nat → Nat) (C : Nat → Nat) (A : Nat → Nat) (T : Nat → Nat) (B : Nat → Nat) (P : Nat → Nat) (OR : Nat → Nat) (n : Nat) (PR : Nat → Nat) (ST : Nat → Nat) (li : Nat) (w : Nat) (WK : Nat → Nat) (so : Nat) (sp : Nat) (CT : Nat → Int64) (FW : Nat → Nat) (sz : Nat) (p0 : Int32) : Met l yX1_isAmount wsX1_isAmount ({ frames := 0, cells := 0, slots := 0, locals := 0 }) (va_Pc [.int p0] (cxP D (ty3 cI cZ cJ) (wM q cI cZ cJ th k V C A T B P OR n PR ST li w WK so sp CT FW) sz)) (va_Qi (fun r (_ : Unit) => r = nI (b1 (rg p0 0 2001))) (bW D (va_A (wM q cI cZ cJ th k V C A T B P OR n PR ST li w WK so sp CT FW) sz) (fun (_ : Unit) => (wM q cI cZ cJ th k V C A T B P OR n PR ST li w WK so sp CT FW))) (va_A (wM q cI cZ cJ th k V C A T B P OR n PR ST li w WK so sp CT FW) sz)) 0 0 (va_A (wM q cI cZ cJ th k V C A T B P OR n PR ST li w WK so sp CT FW) sz) := by
  refine Met.ofW (cc := cX1_isAmount) (maxL := 1) (ret := (some .boolean)) (by decide) rfl ?_
  intro p e s m args below meth c s₁ BB hml hv
  obtain ⟨hav, hsz, hP, hK, hD0, hZ, hg⟩ := hv
  subst hsz
  subst hav
  have hx := BB.exec
  have hb := BB.bytes
  have hr := BB.returns
  have hts := atoms_spec (ws := wsX1_isAmount) BB.pre
  have hown : s.vm.findClass RX1 = some m.cls := findClass_of_methodNamed BB.named
  have hlocks := BB.notSynchronized
  have hD := hD0.self (sz := s.heap.size)
  have hA : ∀ q9 : Nat, s.heap.size ≤ q9 → va_A (wM q cI cZ cJ th k V C A T B P OR n PR ST li w WK so sp CT FW) s.heap.size q9 := fun _ h => Or.inr h
  have hl := lv_entry ([.int p0]) (n := 1) (Nat.le_of_ble_eq_true rfl)
  rw [lg_entry_eq]
  generalize (lg_sl ([.int p0]) ++ List.replicate (1 - (lg_sl ([.int p0])).length) Slot.unset).toArray = ls at hl ⊢
  have hl : lv_has ls 1 [(0, .int p0)] := hl
  refine W_absR (fun R hR => ?_)
  have hR : R = ({ frames := 0, cells := 0, slots := 0, locals := 0 } : Room) := hR
  refine W_absQ (fun Q hQ => ?_)
  generalize ([.int p0] : List Value).toArray = args at hts hQ ⊢
  generalize va_A (wM q cI cZ cJ th k V C A T B P OR n PR ST li w WK so sp CT FW) s.heap.size = A9 at hD hZ hA hQ
  refine W_start hP (A := A9) (fun H locs hP hS => ?_)
  refine lv_iload_n hx hb dX1_isAmount_0 rfl (lv_at hl 0 rfl) ?_
  refine lv_if_lt (tgt := 15) hx hb dX1_isAmount_1 (by decide) (fun c1 => ?_) (fun c1 => ?_)
  · have hn : ¬ rg p0 0 2001 := by rw [rg_iff (by omega)]; simp only [Int32.lt_iff_toInt_lt, Int32.le_iff_toInt_le, Int32.toInt_zero] at c1; omega
    refine lv_iconst (v := nI 0) hx hb dX1_isAmount_15 (ic_0) ?_
    subst hQ
    exact e_z () hx hb hr hlocks hS (by omega) hP hD (congrArg nI (b1_n hn).symm) (Nat.le_of_ble_eq_true rfl) (Nat.le_of_ble_eq_true rfl) dX1_isAmount_16
  · refine lv_iload_n hx hb dX1_isAmount_4 rfl (lv_at hl 0 rfl) ?_
    refine lv_sipush (v := nI 2000) hx hb dX1_isAmount_5 (by decide) ?_
    refine lv_icmp_gt (tgt := 15) hx hb dX1_isAmount_8 (by decide) (fun c8 => ?_) (fun c8 => ?_)
    · have hn : ¬ rg p0 0 2001 := by rw [rg_iff (by omega)]; simp only [Int32.lt_iff_toInt_lt, Int32.le_iff_toInt_le, Int32.toInt_zero, nI_toInt (show 2000 < 2 ^ 31 by omega)] at c8; omega
      refine lv_iconst (v := nI 0) hx hb dX1_isAmount_15 (ic_0) ?_
      subst hQ
      exact e_z () hx hb hr hlocks hS (by omega) hP hD (congrArg nI (b1_n hn).symm) (Nat.le_of_ble_eq_true rfl) (Nat.le_of_ble_eq_true rfl) dX1_isAmount_16
    · have hy : rg p0 0 2001 := by rw [rg_iff (by omega)]; simp only [Int32.lt_iff_toInt_lt, Int32.le_iff_toInt_le, Int32.toInt_zero, nI_toInt (show 2000 < 2 ^ 31 by omega)] at c1 c8; omega
      refine lv_iconst (v := nI 1) hx hb dX1_isAmount_11 (ic_1) ?_
      refine lv_goto (tgt := 16) hx hb dX1_isAmount_12 (by decide) ?_
      subst hQ
      exact e_z () hx hb hr hlocks hS (by omega) hP hD (congrArg nI (b1_y hy).symm) (Nat.le_of_ble_eq_true rfl) (Nat.le_of_ble_eq_true rfl) dX1_isAmount_16
theorem hd_X1_isAmount : yX1_isAmount.cls = RX1 ∧ yX1_isAmount.cls ≠ "java/lang/invoke/MethodHandle" ∧ yX1_isAmount.cls ≠ "java/lang/invoke/VarHandle" ∧ (parseMethodDescriptor yX1_isAmount.desc).map (fun d => d.parameters.length) = some 1 := by decide +kernel

set_option maxHeartbeats 4000000 in
set_option maxRecDepth 100000 in
theorem c_X1_isGoods (l : Launch) (hst : l.stackTraces = false) (D : va_G) (q : Nat → Nat) (cI cZ cJ : ClassId) (th : Nat) (k : Nat) (V : Nat → Nat) (C : Nat → Nat) (A : Nat → Nat) (T : Nat → Nat) (B : Nat → Nat) (P : Nat → Nat) (OR : Nat → Nat) (n : Nat) (PR : Nat → Nat) (ST : Nat → Nat) (li : Nat) (w : Nat) (WK : Nat → Nat) (so : Nat) (sp : Nat) (CT : Nat → Int64) (FW : Nat → Nat) (sz : Nat) (p0 : Int32) (p1 : Int32) : Met l yX1_isGoods wsX1_isGoods ({ frames := 0, cells := 0, slots := 0, locals := 0 }) (va_Pc [.int p0, .int p1] (cxP D (ty3 cI cZ cJ) (wM q cI cZ cJ th k V C A T B P OR n PR ST li w WK so sp CT FW) sz)) (va_Qi (fun r (_ : Unit) => r = nI (b1 (rg p0 1 2001 ∧ rg p1 0 100))) (bW D (va_A (wM q cI cZ cJ th k V C A T B P OR n PR ST li w WK so sp CT FW) sz) (fun (_ : Unit) => (wM q cI cZ cJ th k V C A T B P OR n PR ST li w WK so sp CT FW))) (va_A (wM q cI cZ cJ th k V C A T B P OR n PR ST li w WK so sp CT FW) sz)) 0 0 (va_A (wM q cI cZ cJ th k V C A T B P OR n PR ST li w WK so sp CT FW) sz) := by
  refine Met.ofW (cc := cX1_isGoods) (maxL := 2) (ret := (some .boolean)) (by decide) rfl ?_
  intro p e s m args below meth c s₁ BB hml hv
  obtain ⟨hav, hsz, hP, hK, hD0, hZ, hg⟩ := hv
  subst hsz
  subst hav
  have hx := BB.exec
  have hb := BB.bytes
  have hr := BB.returns
  have hts := atoms_spec (ws := wsX1_isGoods) BB.pre
  have hown : s.vm.findClass RX1 = some m.cls := findClass_of_methodNamed BB.named
  have hlocks := BB.notSynchronized
  have hD := hD0.self (sz := s.heap.size)
  have hA : ∀ q9 : Nat, s.heap.size ≤ q9 → va_A (wM q cI cZ cJ th k V C A T B P OR n PR ST li w WK so sp CT FW) s.heap.size q9 := fun _ h => Or.inr h
  have hl := lv_entry ([.int p0, .int p1]) (n := 2) (Nat.le_of_ble_eq_true rfl)
  rw [lg_entry_eq]
  generalize (lg_sl ([.int p0, .int p1]) ++ List.replicate (2 - (lg_sl ([.int p0, .int p1])).length) Slot.unset).toArray = ls at hl ⊢
  have hl : lv_has ls 2 [(0, .int p0), (1, .int p1)] := hl
  refine W_absR (fun R hR => ?_)
  have hR : R = ({ frames := 0, cells := 0, slots := 0, locals := 0 } : Room) := hR
  refine W_absQ (fun Q hQ => ?_)
  generalize ([.int p0, .int p1] : List Value).toArray = args at hts hQ ⊢
  generalize va_A (wM q cI cZ cJ th k V C A T B P OR n PR ST li w WK so sp CT FW) s.heap.size = A9 at hD hZ hA hQ
  refine W_start hP (A := A9) (fun H locs hP hS => ?_)
  refine lv_iload_n hx hb dX1_isGoods_0 rfl (lv_at hl 0 rfl) ?_
  refine lv_iconst (v := nI 1) hx hb dX1_isGoods_1 (ic_1) ?_
  refine lv_icmp_lt (tgt := 26) hx hb dX1_isGoods_2 (by decide) (fun c2 => ?_) (fun c2 => ?_)
  · have hn : ¬ (rg p0 1 2001 ∧ rg p1 0 100) := fun z => (show ¬ rg p0 1 2001 by rw [rg_iff (by omega)]; simp only [Int32.lt_iff_toInt_lt, Int32.le_iff_toInt_le, Int32.toInt_zero, nI_toInt (show 1 < 2 ^ 31 by omega)] at c2; omega) z.1
    refine lv_iconst (v := nI 0) hx hb dX1_isGoods_26 (ic_0) ?_
    subst hQ
    exact e_z () hx hb hr hlocks hS (by omega) hP hD (congrArg nI (b1_n hn).symm) (Nat.le_of_ble_eq_true rfl) (Nat.le_of_ble_eq_true rfl) dX1_isGoods_27
  · refine lv_iload_n hx hb dX1_isGoods_5 rfl (lv_at hl 0 rfl) ?_
    refine lv_sipush (v := nI 2000) hx hb dX1_isGoods_6 (by decide) ?_
    refine lv_icmp_gt (tgt := 26) hx hb dX1_isGoods_9 (by decide) (fun c9 => ?_) (fun c9 => ?_)
    · have hn : ¬ (rg p0 1 2001 ∧ rg p1 0 100) := fun z => (show ¬ rg p0 1 2001 by rw [rg_iff (by omega)]; simp only [Int32.lt_iff_toInt_lt, Int32.le_iff_toInt_le, Int32.toInt_zero, nI_toInt (show 2000 < 2 ^ 31 by omega)] at c9; omega) z.1
      refine lv_iconst (v := nI 0) hx hb dX1_isGoods_26 (ic_0) ?_
      subst hQ
      exact e_z () hx hb hr hlocks hS (by omega) hP hD (congrArg nI (b1_n hn).symm) (Nat.le_of_ble_eq_true rfl) (Nat.le_of_ble_eq_true rfl) dX1_isGoods_27
    · refine lv_iload_n hx hb dX1_isGoods_12 rfl (lv_at hl 1 rfl) ?_
      refine lv_if_lt (tgt := 26) hx hb dX1_isGoods_13 (by decide) (fun c13 => ?_) (fun c13 => ?_)
      · have hn : ¬ (rg p0 1 2001 ∧ rg p1 0 100) := fun z => (show ¬ rg p1 0 100 by rw [rg_iff (by omega)]; simp only [Int32.lt_iff_toInt_lt, Int32.le_iff_toInt_le, Int32.toInt_zero] at c13; omega) z.2
        refine lv_iconst (v := nI 0) hx hb dX1_isGoods_26 (ic_0) ?_
        subst hQ
        exact e_z () hx hb hr hlocks hS (by omega) hP hD (congrArg nI (b1_n hn).symm) (Nat.le_of_ble_eq_true rfl) (Nat.le_of_ble_eq_true rfl) dX1_isGoods_27
      · refine lv_iload_n hx hb dX1_isGoods_16 rfl (lv_at hl 1 rfl) ?_
        refine lv_bipush (v := nI 99) hx hb dX1_isGoods_17 (by decide) ?_
        refine lv_icmp_gt (tgt := 26) hx hb dX1_isGoods_19 (by decide) (fun c19 => ?_) (fun c19 => ?_)
        · have hn : ¬ (rg p0 1 2001 ∧ rg p1 0 100) := fun z => (show ¬ rg p1 0 100 by rw [rg_iff (by omega)]; simp only [Int32.lt_iff_toInt_lt, Int32.le_iff_toInt_le, Int32.toInt_zero, nI_toInt (show 99 < 2 ^ 31 by omega)] at c19; omega) z.2
          refine lv_iconst (v := nI 0) hx hb dX1_isGoods_26 (ic_0) ?_
          subst hQ
          exact e_z () hx hb hr hlocks hS (by omega) hP hD (congrArg nI (b1_n hn).symm) (Nat.le_of_ble_eq_true rfl) (Nat.le_of_ble_eq_true rfl) dX1_isGoods_27
        · have hy : (rg p0 1 2001 ∧ rg p1 0 100) := ⟨by rw [rg_iff (by omega)]; simp only [Int32.lt_iff_toInt_lt, Int32.le_iff_toInt_le, Int32.toInt_zero, nI_toInt (show 1 < 2 ^ 31 by omega), nI_toInt (show 2000 < 2 ^ 31 by omega)] at c2 c9; omega, by rw [rg_iff (by omega)]; simp only [Int32.lt_iff_toInt_lt, Int32.le_iff_toInt_le, Int32.toInt_zero, nI_toInt (show 99 < 2 ^ 31 by omega)] at c13 c19; omega⟩
          refine lv_iconst (v := nI 1) hx hb dX1_isGoods_22 (ic_1) ?_
          refine lv_goto (tgt := 27) hx hb dX1_isGoods_23 (by decide) ?_
          subst hQ
          exact e_z () hx hb hr hlocks hS (by omega) hP hD (congrArg nI (b1_y hy).symm) (Nat.le_of_ble_eq_true rfl) (Nat.le_of_ble_eq_true rfl) dX1_isGoods_27
theorem hd_X1_isGoods : yX1_isGoods.cls = RX1 ∧ yX1_isGoods.cls ≠ "java/lang/invoke/MethodHandle" ∧ yX1_isGoods.cls ≠ "java/lang/invoke/VarHandle" ∧ (parseMethodDescriptor yX1_isGoods.desc).map (fun d => d.parameters.length) = some 2 := by decide +kernel

set_option maxHeartbeats 4000000 in
set_option maxRecDepth 100000 in
theorem c_X1_fill (l : Launch) (hst : l.stackTraces = false) (D : va_G) (q : Nat → Nat) (cI cZ cJ : ClassId) (th : Nat) (k : Nat) (V : Nat → Nat) (C : Nat → Nat) (A : Nat → Nat) (T : Nat → Nat) (B : Nat → Nat) (P : Nat → Nat) (OR : Nat → Nat) (n : Nat) (PR : Nat → Nat) (ST : Nat → Nat) (li : Nat) (w : Nat) (WK : Nat → Nat) (so : Nat) (sp : Nat) (CT : Nat → Int64) (FW : Nat → Nat) (sz : Nat) (p0 : Int32) (p1 : Int32) (hk8 : k ≤ 8) (hV : ∀ i, i < k → 1 ≤ V i ∧ V i ≤ 500) (hC : ∀ i, i < k → C i ≤ 60 ∧ T i ≤ C i) : Met l yX1_fill wsX1_fill ({ frames := 1, cells := 0, slots := 0, locals := 23 }) (va_Pc [.ref (q 0), .int p0, .int p1] (cxP D (ty3 cI cZ cJ) (wM q cI cZ cJ th k V C A T B P OR n PR ST li w WK so sp CT FW) sz)) (va_Qi (fun r (u : Nat × Nat × (Nat → Nat) × (Nat → Int64)) => r = nI u.1 ∧ ((u.2.1 = 0 ∧ ∃ i j, i < k ∧ j < 61 ∧ p0 = nI i ∧ p1 = nI j ∧ u.1 = j - min j (C i - T i) ∧ u.2.2.1 = un T i (T i + min j (C i - T i)) ∧ u.2.2.2 = vp_updL CT 4 (CT 4 + lZ ((min j (C i - T i) * V i : Nat) : Int))) ∨ (u.2.1 = 1 ∧ ¬ rg p0 0 k ∧ u.2.2.1 = T ∧ u.2.2.2 = CT) ∨ (u.2.1 = 2 ∧ rg p0 0 k ∧ ¬ rg p1 0 61 ∧ u.2.2.1 = T ∧ u.2.2.2 = CT))) (bW D (va_A (wM q cI cZ cJ th k V C A T B P OR n PR ST li w WK so sp CT FW) sz) (fun u => (wM q cI cZ cJ u.2.1 k V C A u.2.2.1 B P OR n PR ST li w WK so sp u.2.2.2 FW))) (va_A (wM q cI cZ cJ th k V C A T B P OR n PR ST li w WK so sp CT FW) sz)) 0 0 (va_A (wM q cI cZ cJ th k V C A T B P OR n PR ST li w WK so sp CT FW) sz) := by
  refine Met.ofW (cc := cX1_fill) (maxL := 4) (ret := (some .int)) (by decide) rfl ?_
  intro p e s m args below meth c s₁ BB hml hv
  obtain ⟨hav, hsz, hP, hK, hD0, hZ, hg⟩ := hv
  subst hsz
  subst hav
  have hx := BB.exec
  have hb := BB.bytes
  have hr := BB.returns
  have hts := atoms_spec (ws := wsX1_fill) BB.pre
  have hown : s.vm.findClass RX1 = some m.cls := findClass_of_methodNamed BB.named
  have hlocks := BB.notSynchronized
  have hin : ∀ w ∈ wsX10, w ∈ wsX1_fill := fun w h => (List.mem_cons_of_mem _ (List.mem_append_right _ h))
  have hD := hD0.self (sz := s.heap.size)
  have hA : ∀ q9 : Nat, s.heap.size ≤ q9 → va_A (wM q cI cZ cJ th k V C A T B P OR n PR ST li w WK so sp CT FW) s.heap.size q9 := fun _ h => Or.inr h
  have hl := lv_entry ([.ref (q 0), .int p0, .int p1]) (n := 4) (Nat.le_of_ble_eq_true rfl)
  rw [lg_entry_eq]
  generalize (lg_sl ([.ref (q 0), .int p0, .int p1]) ++ List.replicate (4 - (lg_sl ([.ref (q 0), .int p0, .int p1])).length) Slot.unset).toArray = ls at hl ⊢
  have hl : lv_has ls 4 [(0, .ref (q 0)), (1, .int p0), (2, .int p1)] := hl
  refine W_absR (fun R hR => ?_)
  have hR : R = ({ frames := 1, cells := 0, slots := 0, locals := 23 } : Room) := hR
  refine W_absQ (fun Q hQ => ?_)
  generalize ([.ref (q 0), .int p0, .int p1] : List Value).toArray = args at hts hQ ⊢
  generalize va_A (wM q cI cZ cJ th k V C A T B P OR n PR ST li w WK so sp CT FW) s.heap.size = A9 at hD hZ hA hQ
  refine W_start hP (A := A9) (fun H locs hP hS => ?_)
  refine lv_aload_n hx hb dX1_fill_0 rfl (lv_at hl 0 rfl) ?_
  refine lv_iconst (v := nI 0) hx hb dX1_fill_1 (ic_0) ?_
  refine pfM (ws' := (wM q cI cZ cJ 0 k V C A T B P OR n PR ST li w WK so sp CT FW)) hx hb hts hin hown hK hP hD hS 0 (by decide) (List.mem_of_getElem? (i := 1) rfl) rfl ⟨rfl, rfl⟩ rfl rfl dX1_fill_2 (fun H locs hP hD hS => ?_)
  refine lv_aload_n hx hb dX1_fill_5 rfl (lv_at hl 0 rfl) ?_
  refine lv_iload_n hx hb dX1_fill_6 rfl (lv_at hl 1 rfl) ?_
  refine k_i (va_runV (As := [.int p0]) (rest := []) ⟨hx, hb, hml, hown, hts⟩ (c_X1_isKind l hst D q cI cZ cJ 0 k V C A T B P OR n PR ST li w WK so sp CT FW H.size p0 hk8) (cwV 1 hts gX1_fill_X1_isKind rfl rfl rfl hd_X1_isKind ⟨(by rw [hR]; exact Nat.le_of_ble_eq_true rfl), (by rw [hR]; exact Nat.le_of_ble_eq_true rfl)⟩) (pre_V hP hK hD hS hA hZ hg 0 (ci := 1) rfl rfl) rfl rfl hl.1 rfl (lv_room (Nat.le_of_ble_eq_true rfl)) dX1_fill_7 ⟨(by rw [hR]; exact Nat.le_of_ble_eq_true rfl), (by rw [hR]; exact Nat.le_of_ble_eq_true rfl)⟩) hD hS hA (fun r_2 u_1 H locs hp_3 hP hD hS => ?_)
  subst hp_3
  refine n_if_ne (tgt := 19) hx hb (by have := b1_le (rg p0 0 k); omega) dX1_fill_10 (by decide) (fun c10 => ?_) (fun c10 => ?_)
  · obtain ⟨j0, j0a, j0b, rfl⟩ := b1_of c10
    refine lv_iload_n hx hb dX1_fill_19 rfl (lv_at hl 2 rfl) ?_
    refine lv_if_lt (tgt := 29) hx hb dX1_fill_20 (by decide) (fun c20 => ?_) (fun c20 => ?_)
    · have hno : ¬ rg p1 0 61 := by rw [rg_iff (by omega)]; simp only [Int32.lt_iff_toInt_lt, Int32.le_iff_toInt_le, Int32.toInt_zero] at c20; omega
      refine lv_aload_n hx hb dX1_fill_29 rfl (lv_at hl 0 rfl) ?_
      refine lv_iconst (v := nI 2) hx hb dX1_fill_30 (ic_2) ?_
      refine k_i (va_runV (As := [.int (nI 2)]) (rest := []) ⟨hx, hb, hml, hown, hts⟩ (c_X1_fail l hst D q cI cZ cJ 0 k V C A T B P OR n PR ST li w WK so sp CT FW H.size 2) (cwV 1 hts gX1_fill_X1_fail rfl rfl rfl hd_X1_fail ⟨(by rw [hR]; exact Nat.le_of_ble_eq_true rfl), (by rw [hR]; exact Nat.le_of_ble_eq_true rfl)⟩) (pre_V hP hK hD hS hA hZ hg 0 (ci := 1) rfl rfl) rfl rfl hl.1 rfl (lv_room (Nat.le_of_ble_eq_true rfl)) dX1_fill_31 ⟨(by rw [hR]; exact Nat.le_of_ble_eq_true rfl), (by rw [hR]; exact Nat.le_of_ble_eq_true rfl)⟩) hD hS hA (fun r_5 u_4 H locs hp_6 hP hD hS => ?_)
      subst hp_6
      subst hQ
      exact e_i (0, 2, T, CT) hx hb hr hlocks hS hP hD (⟨rfl, Or.inr (Or.inr ⟨rfl, ⟨j0, j0a, j0b, rfl⟩, hno, rfl, rfl⟩)⟩) (Nat.le_of_ble_eq_true rfl) (Nat.le_of_ble_eq_true rfl) dX1_fill_34
    · refine lv_iload_n hx hb dX1_fill_23 rfl (lv_at hl 2 rfl) ?_
      refine lv_bipush (v := nI 60) hx hb dX1_fill_24 (by decide) ?_
      refine lv_icmp_le (tgt := 35) hx hb dX1_fill_26 (by decide) (fun c26 => ?_) (fun c26 => ?_)
      · obtain ⟨j1, j1a, j1b, rfl⟩ : rg p1 0 61 := by rw [rg_iff (by omega)]; simp only [Int32.lt_iff_toInt_lt, Int32.le_iff_toInt_le, Int32.toInt_zero, nI_toInt (show 60 < 2 ^ 31 by omega)] at c20 c26; omega
        refine lv_iload_n hx hb dX1_fill_35 rfl (lv_at hl 2 rfl) ?_
        refine lv_aload_n hx hb dX1_fill_36 rfl (lv_at hl 0 rfl) ?_
        refine gfM hx hb hts hin hown hK hP 3 (by decide) (List.mem_of_getElem? (i := 2) rfl) rfl rfl dX1_fill_37 ?_
        refine lv_iload_n hx hb dX1_fill_40 rfl (lv_at hl 1 rfl) ?_
        refine n_iald hx hb hK hP 2 0 rfl rfl (by omega) (by decide) dX1_fill_41 ?_
        refine lv_aload_n hx hb dX1_fill_42 rfl (lv_at hl 0 rfl) ?_
        refine gfM hx hb hts hin hown hK hP 5 (by decide) (List.mem_of_getElem? (i := 3) rfl) rfl rfl dX1_fill_43 ?_
        refine lv_iload_n hx hb dX1_fill_46 rfl (lv_at hl 1 rfl) ?_
        refine n_iald hx hb hK hP 4 0 rfl rfl (by omega) (by decide) dX1_fill_47 ?_
        refine n_isub hx hb (by have h1 := hC j0 j0b; omega) dX1_fill_48 ?_
        refine va_mmin hx hb (hml.trans hl.1.symm) hown (hts _ (List.mem_of_getElem? (i := 4) rfl)) (hts _ (List.mem_of_getElem? (i := 5) rfl)) (hts _ (List.mem_of_getElem? (i := 6) rfl)) (hts _ (List.mem_of_getElem? (i := 7) rfl)) (by rw [hR]; exact Nat.le_of_ble_eq_true rfl) (by rw [hR]; exact Nat.le_of_ble_eq_true rfl) (by rw [hR]; exact Nat.le_of_ble_eq_true rfl) (by rw [hR]; exact Nat.le_of_ble_eq_true rfl) dX1_fill_49 (n_top (nI_min _ _ (by omega) (by have h1 := hC j0 j0b; omega)) ?_)
        refine lv_istore_n (lv' := [(3, .int (nI (min j1 ((C j0) - (T j0))))), (0, .ref (q 0)), (1, .int (nI j0)), (2, .int (nI j1))]) hx hb dX1_fill_52 rfl hl (by decide) rfl (fun ls hl => ?_)
        refine lv_aload_n hx hb dX1_fill_53 rfl (lv_at hl 1 rfl) ?_
        refine gfM hx hb hts hin hown hK hP 5 (by decide) (List.mem_of_getElem? (i := 3) rfl) rfl rfl dX1_fill_54 ?_
        refine lv_iload_n hx hb dX1_fill_57 rfl (lv_at hl 2 rfl) ?_
        refine lv_dup2_11 hx hb dX1_fill_58 rfl rfl ?_
        refine n_iald hx hb hK hP 4 0 rfl rfl (by omega) (by decide) dX1_fill_59 ?_
        refine lv_iload_n hx hb dX1_fill_60 rfl (lv_at hl 0 rfl) ?_
        refine n_iadd hx hb dX1_fill_61 ?_
        refine n_iast (ws' := (wM q cI cZ cJ 0 k V C A (un T j0 ((T j0) + (min j1 ((C j0) - (T j0))))) B P OR n PR ST li w WK so sp CT FW)) hx hb hK hP hD hS 4 0 rfl rfl (by omega) (by decide) rfl dX1_fill_62 (fun H locs hP hD hS => ?_)
        refine lv_aload_n hx hb dX1_fill_63 rfl (lv_at hl 1 rfl) ?_
        refine gfM hx hb hts hin hown hK hP 17 (by decide) (List.mem_of_getElem? (i := 8) rfl) rfl rfl dX1_fill_64 ?_
        refine lv_iconst (v := nI 4) hx hb dX1_fill_67 (ic_4) ?_
        refine lv_dup2_11 hx hb dX1_fill_68 rfl rfl ?_
        refine n_lald hx hb hK hP 11 2 rfl rfl (by omega) (by decide) dX1_fill_69 ?_
        refine lv_iload_n hx hb dX1_fill_70 rfl (lv_at hl 0 rfl) ?_
        refine n_i2l hx hb (by have h1 := hC j0 j0b; omega) dX1_fill_71 ?_
        refine lv_aload_n hx hb dX1_fill_72 rfl (lv_at hl 1 rfl) ?_
        refine gfM hx hb hts hin hown hK hP 2 (by decide) (List.mem_of_getElem? (i := 9) rfl) rfl rfl dX1_fill_73 ?_
        refine lv_iload_n hx hb dX1_fill_76 rfl (lv_at hl 2 rfl) ?_
        refine n_iald hx hb hK hP 1 0 rfl rfl (by omega) (by decide) dX1_fill_77 ?_
        refine n_i2l hx hb (by have h2 := hV j0 j0b; omega) dX1_fill_78 ?_
        refine n_lmul hx hb dX1_fill_79 ?_
        refine lv_ladd hx hb dX1_fill_80 ?_
        refine n_last (ws' := (wM q cI cZ cJ 0 k V C A (un T j0 ((T j0) + (min j1 ((C j0) - (T j0))))) B P OR n PR ST li w WK so sp (vp_updL CT 4 ((CT 4) + (lZ (((min j1 ((C j0) - (T j0)) : Nat) : Int) * ((V j0 : Nat) : Int))))) FW)) hx hb hK hP hD hS 11 2 rfl rfl (by omega) (by decide) rfl dX1_fill_81 (fun H locs hP hD hS => ?_)
        refine lv_iload_n hx hb dX1_fill_82 rfl (lv_at hl 3 rfl) ?_
        refine lv_iload_n hx hb dX1_fill_83 rfl (lv_at hl 0 rfl) ?_
        refine n_isub hx hb (by omega) dX1_fill_84 ?_
        subst hQ
        exact e_i (j1 - (min j1 ((C j0) - (T j0))), 0, un T j0 ((T j0) + (min j1 ((C j0) - (T j0)))), vp_updL CT 4 ((CT 4) + (lZ (((min j1 ((C j0) - (T j0)) : Nat) : Int) * ((V j0 : Nat) : Int))))) hx hb hr hlocks hS hP hD (⟨rfl, Or.inl ⟨rfl, j0, j1, j0b, j1b, rfl, rfl, rfl, rfl, by rw [Int.natCast_mul]⟩⟩) (Nat.le_of_ble_eq_true rfl) (Nat.le_of_ble_eq_true rfl) dX1_fill_85
      · have hno : ¬ rg p1 0 61 := by rw [rg_iff (by omega)]; simp only [Int32.lt_iff_toInt_lt, Int32.le_iff_toInt_le, Int32.toInt_zero, nI_toInt (show 60 < 2 ^ 31 by omega)] at c26; omega
        refine lv_aload_n hx hb dX1_fill_29 rfl (lv_at hl 0 rfl) ?_
        refine lv_iconst (v := nI 2) hx hb dX1_fill_30 (ic_2) ?_
        refine k_i (va_runV (As := [.int (nI 2)]) (rest := []) ⟨hx, hb, hml, hown, hts⟩ (c_X1_fail l hst D q cI cZ cJ 0 k V C A T B P OR n PR ST li w WK so sp CT FW H.size 2) (cwV 1 hts gX1_fill_X1_fail rfl rfl rfl hd_X1_fail ⟨(by rw [hR]; exact Nat.le_of_ble_eq_true rfl), (by rw [hR]; exact Nat.le_of_ble_eq_true rfl)⟩) (pre_V hP hK hD hS hA hZ hg 0 (ci := 1) rfl rfl) rfl rfl hl.1 rfl (lv_room (Nat.le_of_ble_eq_true rfl)) dX1_fill_31 ⟨(by rw [hR]; exact Nat.le_of_ble_eq_true rfl), (by rw [hR]; exact Nat.le_of_ble_eq_true rfl)⟩) hD hS hA (fun r_8 u_7 H locs hp_9 hP hD hS => ?_)
        subst hp_9
        subst hQ
        exact e_i (0, 2, T, CT) hx hb hr hlocks hS hP hD (⟨rfl, Or.inr (Or.inr ⟨rfl, ⟨j0, j0a, j0b, rfl⟩, hno, rfl, rfl⟩)⟩) (Nat.le_of_ble_eq_true rfl) (Nat.le_of_ble_eq_true rfl) dX1_fill_34
  · refine lv_aload_n hx hb dX1_fill_13 rfl (lv_at hl 0 rfl) ?_
    refine lv_iconst (v := nI 1) hx hb dX1_fill_14 (ic_1) ?_
    refine k_i (va_runV (As := [.int (nI 1)]) (rest := []) ⟨hx, hb, hml, hown, hts⟩ (c_X1_fail l hst D q cI cZ cJ 0 k V C A T B P OR n PR ST li w WK so sp CT FW H.size 1) (cwV 1 hts gX1_fill_X1_fail rfl rfl rfl hd_X1_fail ⟨(by rw [hR]; exact Nat.le_of_ble_eq_true rfl), (by rw [hR]; exact Nat.le_of_ble_eq_true rfl)⟩) (pre_V hP hK hD hS hA hZ hg 0 (ci := 1) rfl rfl) rfl rfl hl.1 rfl (lv_room (Nat.le_of_ble_eq_true rfl)) dX1_fill_15 ⟨(by rw [hR]; exact Nat.le_of_ble_eq_true rfl), (by rw [hR]; exact Nat.le_of_ble_eq_true rfl)⟩) hD hS hA (fun r_11 u_10 H locs hp_12 hP hD hS => ?_)
    subst hp_12
    subst hQ
    exact e_i (0, 1, T, CT) hx hb hr hlocks hS hP hD (⟨rfl, Or.inr (Or.inl ⟨rfl, b1_no c10, rfl, rfl⟩)⟩) (Nat.le_of_ble_eq_true rfl) (Nat.le_of_ble_eq_true rfl) dX1_fill_18
theorem hd_X1_fill : yX1_fill.cls = RX1 ∧ yX1_fill.cls ≠ "java/lang/invoke/MethodHandle" ∧ yX1_fill.cls ≠ "java/lang/invoke/VarHandle" ∧ (parseMethodDescriptor yX1_fill.desc).map (fun d => d.parameters.length) = some 2 := by decide +kernel

set_option maxHeartbeats 4000000 in
set_option maxRecDepth 100000 in
theorem c_X1_take (l : Launch) (hst : l.stackTraces = false) (D : va_G) (q : Nat → Nat) (cI cZ cJ : ClassId) (th : Nat) (k : Nat) (V : Nat → Nat) (C : Nat → Nat) (A : Nat → Nat) (T : Nat → Nat) (B : Nat → Nat) (P : Nat → Nat) (OR : Nat → Nat) (n : Nat) (PR : Nat → Nat) (ST : Nat → Nat) (li : Nat) (w : Nat) (WK : Nat → Nat) (so : Nat) (sp : Nat) (CT : Nat → Int64) (FW : Nat → Nat) (sz : Nat) (p0 : Int32) (p1 : Int32) (hk8 : k ≤ 8) (hV : ∀ i, i < k → 1 ≤ V i ∧ V i ≤ 500) (hC : ∀ i, i < k → C i ≤ 60 ∧ T i ≤ C i) : Met l yX1_take wsX1_take ({ frames := 1, cells := 0, slots := 0, locals := 23 }) (va_Pc [.ref (q 0), .int p0, .int p1] (cxP D (ty3 cI cZ cJ) (wM q cI cZ cJ th k V C A T B P OR n PR ST li w WK so sp CT FW) sz)) (va_Qi (fun r (u : Nat × Nat × (Nat → Nat) × (Nat → Int64)) => r = nI u.1 ∧ ((u.2.1 = 0 ∧ ∃ i j, i < k ∧ j < 61 ∧ p0 = nI i ∧ p1 = nI j ∧ u.1 = min j (T i) ∧ u.2.2.1 = un T i (T i - min j (T i)) ∧ u.2.2.2 = vp_updL CT 5 (CT 5 + lZ ((min j (T i) * V i : Nat) : Int))) ∨ (u.2.1 = 1 ∧ ¬ rg p0 0 k ∧ u.2.2.1 = T ∧ u.2.2.2 = CT) ∨ (u.2.1 = 2 ∧ rg p0 0 k ∧ ¬ rg p1 0 61 ∧ u.2.2.1 = T ∧ u.2.2.2 = CT))) (bW D (va_A (wM q cI cZ cJ th k V C A T B P OR n PR ST li w WK so sp CT FW) sz) (fun u => (wM q cI cZ cJ u.2.1 k V C A u.2.2.1 B P OR n PR ST li w WK so sp u.2.2.2 FW))) (va_A (wM q cI cZ cJ th k V C A T B P OR n PR ST li w WK so sp CT FW) sz)) 0 0 (va_A (wM q cI cZ cJ th k V C A T B P OR n PR ST li w WK so sp CT FW) sz) := by
  refine Met.ofW (cc := cX1_take) (maxL := 4) (ret := (some .int)) (by decide) rfl ?_
  intro p e s m args below meth c s₁ BB hml hv
  obtain ⟨hav, hsz, hP, hK, hD0, hZ, hg⟩ := hv
  subst hsz
  subst hav
  have hx := BB.exec
  have hb := BB.bytes
  have hr := BB.returns
  have hts := atoms_spec (ws := wsX1_take) BB.pre
  have hown : s.vm.findClass RX1 = some m.cls := findClass_of_methodNamed BB.named
  have hlocks := BB.notSynchronized
  have hin : ∀ w ∈ wsX10, w ∈ wsX1_take := fun w h => (List.mem_cons_of_mem _ (List.mem_append_right _ h))
  have hD := hD0.self (sz := s.heap.size)
  have hA : ∀ q9 : Nat, s.heap.size ≤ q9 → va_A (wM q cI cZ cJ th k V C A T B P OR n PR ST li w WK so sp CT FW) s.heap.size q9 := fun _ h => Or.inr h
  have hl := lv_entry ([.ref (q 0), .int p0, .int p1]) (n := 4) (Nat.le_of_ble_eq_true rfl)
  rw [lg_entry_eq]
  generalize (lg_sl ([.ref (q 0), .int p0, .int p1]) ++ List.replicate (4 - (lg_sl ([.ref (q 0), .int p0, .int p1])).length) Slot.unset).toArray = ls at hl ⊢
  have hl : lv_has ls 4 [(0, .ref (q 0)), (1, .int p0), (2, .int p1)] := hl
  refine W_absR (fun R hR => ?_)
  have hR : R = ({ frames := 1, cells := 0, slots := 0, locals := 23 } : Room) := hR
  refine W_absQ (fun Q hQ => ?_)
  generalize ([.ref (q 0), .int p0, .int p1] : List Value).toArray = args at hts hQ ⊢
  generalize va_A (wM q cI cZ cJ th k V C A T B P OR n PR ST li w WK so sp CT FW) s.heap.size = A9 at hD hZ hA hQ
  refine W_start hP (A := A9) (fun H locs hP hS => ?_)
  refine lv_aload_n hx hb dX1_take_0 rfl (lv_at hl 0 rfl) ?_
  refine lv_iconst (v := nI 0) hx hb dX1_take_1 (ic_0) ?_
  refine pfM (ws' := (wM q cI cZ cJ 0 k V C A T B P OR n PR ST li w WK so sp CT FW)) hx hb hts hin hown hK hP hD hS 0 (by decide) (List.mem_of_getElem? (i := 1) rfl) rfl ⟨rfl, rfl⟩ rfl rfl dX1_take_2 (fun H locs hP hD hS => ?_)
  refine lv_aload_n hx hb dX1_take_5 rfl (lv_at hl 0 rfl) ?_
  refine lv_iload_n hx hb dX1_take_6 rfl (lv_at hl 1 rfl) ?_
  refine k_i (va_runV (As := [.int p0]) (rest := []) ⟨hx, hb, hml, hown, hts⟩ (c_X1_isKind l hst D q cI cZ cJ 0 k V C A T B P OR n PR ST li w WK so sp CT FW H.size p0 hk8) (cwV 1 hts gX1_take_X1_isKind rfl rfl rfl hd_X1_isKind ⟨(by rw [hR]; exact Nat.le_of_ble_eq_true rfl), (by rw [hR]; exact Nat.le_of_ble_eq_true rfl)⟩) (pre_V hP hK hD hS hA hZ hg 0 (ci := 1) rfl rfl) rfl rfl hl.1 rfl (lv_room (Nat.le_of_ble_eq_true rfl)) dX1_take_7 ⟨(by rw [hR]; exact Nat.le_of_ble_eq_true rfl), (by rw [hR]; exact Nat.le_of_ble_eq_true rfl)⟩) hD hS hA (fun r_2 u_1 H locs hp_3 hP hD hS => ?_)
  subst hp_3
  refine n_if_ne (tgt := 19) hx hb (by have := b1_le (rg p0 0 k); omega) dX1_take_10 (by decide) (fun c10 => ?_) (fun c10 => ?_)
  · obtain ⟨j0, j0a, j0b, rfl⟩ := b1_of c10
    refine lv_iload_n hx hb dX1_take_19 rfl (lv_at hl 2 rfl) ?_
    refine lv_if_lt (tgt := 29) hx hb dX1_take_20 (by decide) (fun c20 => ?_) (fun c20 => ?_)
    · have hno : ¬ rg p1 0 61 := by rw [rg_iff (by omega)]; simp only [Int32.lt_iff_toInt_lt, Int32.le_iff_toInt_le, Int32.toInt_zero] at c20; omega
      refine lv_aload_n hx hb dX1_take_29 rfl (lv_at hl 0 rfl) ?_
      refine lv_iconst (v := nI 2) hx hb dX1_take_30 (ic_2) ?_
      refine k_i (va_runV (As := [.int (nI 2)]) (rest := []) ⟨hx, hb, hml, hown, hts⟩ (c_X1_fail l hst D q cI cZ cJ 0 k V C A T B P OR n PR ST li w WK so sp CT FW H.size 2) (cwV 1 hts gX1_take_X1_fail rfl rfl rfl hd_X1_fail ⟨(by rw [hR]; exact Nat.le_of_ble_eq_true rfl), (by rw [hR]; exact Nat.le_of_ble_eq_true rfl)⟩) (pre_V hP hK hD hS hA hZ hg 0 (ci := 1) rfl rfl) rfl rfl hl.1 rfl (lv_room (Nat.le_of_ble_eq_true rfl)) dX1_take_31 ⟨(by rw [hR]; exact Nat.le_of_ble_eq_true rfl), (by rw [hR]; exact Nat.le_of_ble_eq_true rfl)⟩) hD hS hA (fun r_5 u_4 H locs hp_6 hP hD hS => ?_)
      subst hp_6
      subst hQ
      exact e_i (0, 2, T, CT) hx hb hr hlocks hS hP hD (⟨rfl, Or.inr (Or.inr ⟨rfl, ⟨j0, j0a, j0b, rfl⟩, hno, rfl, rfl⟩)⟩) (Nat.le_of_ble_eq_true rfl) (Nat.le_of_ble_eq_true rfl) dX1_take_34
    · refine lv_iload_n hx hb dX1_take_23 rfl (lv_at hl 2 rfl) ?_
      refine lv_bipush (v := nI 60) hx hb dX1_take_24 (by decide) ?_
      refine lv_icmp_le (tgt := 35) hx hb dX1_take_26 (by decide) (fun c26 => ?_) (fun c26 => ?_)
      · obtain ⟨j1, j1a, j1b, rfl⟩ : rg p1 0 61 := by rw [rg_iff (by omega)]; simp only [Int32.lt_iff_toInt_lt, Int32.le_iff_toInt_le, Int32.toInt_zero, nI_toInt (show 60 < 2 ^ 31 by omega)] at c20 c26; omega
        refine lv_iload_n hx hb dX1_take_35 rfl (lv_at hl 2 rfl) ?_
        refine lv_aload_n hx hb dX1_take_36 rfl (lv_at hl 0 rfl) ?_
        refine gfM hx hb hts hin hown hK hP 5 (by decide) (List.mem_of_getElem? (i := 2) rfl) rfl rfl dX1_take_37 ?_
        refine lv_iload_n hx hb dX1_take_40 rfl (lv_at hl 1 rfl) ?_
        refine n_iald hx hb hK hP 4 0 rfl rfl (by omega) (by decide) dX1_take_41 ?_
        refine va_mmin hx hb (hml.trans hl.1.symm) hown (hts _ (List.mem_of_getElem? (i := 3) rfl)) (hts _ (List.mem_of_getElem? (i := 4) rfl)) (hts _ (List.mem_of_getElem? (i := 5) rfl)) (hts _ (List.mem_of_getElem? (i := 6) rfl)) (by rw [hR]; exact Nat.le_of_ble_eq_true rfl) (by rw [hR]; exact Nat.le_of_ble_eq_true rfl) (by rw [hR]; exact Nat.le_of_ble_eq_true rfl) (by rw [hR]; exact Nat.le_of_ble_eq_true rfl) dX1_take_42 (n_top (nI_min _ _ (by omega) (by have h1 := hC j0 j0b; omega)) ?_)
        refine lv_istore_n (lv' := [(3, .int (nI (min j1 (T j0)))), (0, .ref (q 0)), (1, .int (nI j0)), (2, .int (nI j1))]) hx hb dX1_take_45 rfl hl (by decide) rfl (fun ls hl => ?_)
        refine lv_aload_n hx hb dX1_take_46 rfl (lv_at hl 1 rfl) ?_
        refine gfM hx hb hts hin hown hK hP 5 (by decide) (List.mem_of_getElem? (i := 2) rfl) rfl rfl dX1_take_47 ?_
        refine lv_iload_n hx hb dX1_take_50 rfl (lv_at hl 2 rfl) ?_
        refine lv_dup2_11 hx hb dX1_take_51 rfl rfl ?_
        refine n_iald hx hb hK hP 4 0 rfl rfl (by omega) (by decide) dX1_take_52 ?_
        refine lv_iload_n hx hb dX1_take_53 rfl (lv_at hl 0 rfl) ?_
        refine n_isub hx hb (by omega) dX1_take_54 ?_
        refine n_iast (ws' := (wM q cI cZ cJ 0 k V C A (un T j0 ((T j0) - (min j1 (T j0)))) B P OR n PR ST li w WK so sp CT FW)) hx hb hK hP hD hS 4 0 rfl rfl (by omega) (by decide) rfl dX1_take_55 (fun H locs hP hD hS => ?_)
        refine lv_aload_n hx hb dX1_take_56 rfl (lv_at hl 1 rfl) ?_
        refine gfM hx hb hts hin hown hK hP 17 (by decide) (List.mem_of_getElem? (i := 7) rfl) rfl rfl dX1_take_57 ?_
        refine lv_iconst (v := nI 5) hx hb dX1_take_60 (ic_5) ?_
        refine lv_dup2_11 hx hb dX1_take_61 rfl rfl ?_
        refine n_lald hx hb hK hP 11 2 rfl rfl (by omega) (by decide) dX1_take_62 ?_
        refine lv_iload_n hx hb dX1_take_63 rfl (lv_at hl 0 rfl) ?_
        refine n_i2l hx hb (by have h1 := hC j0 j0b; omega) dX1_take_64 ?_
        refine lv_aload_n hx hb dX1_take_65 rfl (lv_at hl 1 rfl) ?_
        refine gfM hx hb hts hin hown hK hP 2 (by decide) (List.mem_of_getElem? (i := 8) rfl) rfl rfl dX1_take_66 ?_
        refine lv_iload_n hx hb dX1_take_69 rfl (lv_at hl 2 rfl) ?_
        refine n_iald hx hb hK hP 1 0 rfl rfl (by omega) (by decide) dX1_take_70 ?_
        refine n_i2l hx hb (by have h2 := hV j0 j0b; omega) dX1_take_71 ?_
        refine n_lmul hx hb dX1_take_72 ?_
        refine lv_ladd hx hb dX1_take_73 ?_
        refine n_last (ws' := (wM q cI cZ cJ 0 k V C A (un T j0 ((T j0) - (min j1 (T j0)))) B P OR n PR ST li w WK so sp (vp_updL CT 5 ((CT 5) + (lZ (((min j1 (T j0) : Nat) : Int) * ((V j0 : Nat) : Int))))) FW)) hx hb hK hP hD hS 11 2 rfl rfl (by omega) (by decide) rfl dX1_take_74 (fun H locs hP hD hS => ?_)
        refine lv_iload_n hx hb dX1_take_75 rfl (lv_at hl 0 rfl) ?_
        subst hQ
        exact e_i (min j1 (T j0), 0, un T j0 ((T j0) - (min j1 (T j0))), vp_updL CT 5 ((CT 5) + (lZ (((min j1 (T j0) : Nat) : Int) * ((V j0 : Nat) : Int))))) hx hb hr hlocks hS hP hD (⟨rfl, Or.inl ⟨rfl, j0, j1, j0b, j1b, rfl, rfl, rfl, rfl, by rw [Int.natCast_mul]⟩⟩) (Nat.le_of_ble_eq_true rfl) (Nat.le_of_ble_eq_true rfl) dX1_take_76
      · have hno : ¬ rg p1 0 61 := by rw [rg_iff (by omega)]; simp only [Int32.lt_iff_toInt_lt, Int32.le_iff_toInt_le, Int32.toInt_zero, nI_toInt (show 60 < 2 ^ 31 by omega)] at c26; omega
        refine lv_aload_n hx hb dX1_take_29 rfl (lv_at hl 0 rfl) ?_
        refine lv_iconst (v := nI 2) hx hb dX1_take_30 (ic_2) ?_
        refine k_i (va_runV (As := [.int (nI 2)]) (rest := []) ⟨hx, hb, hml, hown, hts⟩ (c_X1_fail l hst D q cI cZ cJ 0 k V C A T B P OR n PR ST li w WK so sp CT FW H.size 2) (cwV 1 hts gX1_take_X1_fail rfl rfl rfl hd_X1_fail ⟨(by rw [hR]; exact Nat.le_of_ble_eq_true rfl), (by rw [hR]; exact Nat.le_of_ble_eq_true rfl)⟩) (pre_V hP hK hD hS hA hZ hg 0 (ci := 1) rfl rfl) rfl rfl hl.1 rfl (lv_room (Nat.le_of_ble_eq_true rfl)) dX1_take_31 ⟨(by rw [hR]; exact Nat.le_of_ble_eq_true rfl), (by rw [hR]; exact Nat.le_of_ble_eq_true rfl)⟩) hD hS hA (fun r_8 u_7 H locs hp_9 hP hD hS => ?_)
        subst hp_9
        subst hQ
        exact e_i (0, 2, T, CT) hx hb hr hlocks hS hP hD (⟨rfl, Or.inr (Or.inr ⟨rfl, ⟨j0, j0a, j0b, rfl⟩, hno, rfl, rfl⟩)⟩) (Nat.le_of_ble_eq_true rfl) (Nat.le_of_ble_eq_true rfl) dX1_take_34
  · refine lv_aload_n hx hb dX1_take_13 rfl (lv_at hl 0 rfl) ?_
    refine lv_iconst (v := nI 1) hx hb dX1_take_14 (ic_1) ?_
    refine k_i (va_runV (As := [.int (nI 1)]) (rest := []) ⟨hx, hb, hml, hown, hts⟩ (c_X1_fail l hst D q cI cZ cJ 0 k V C A T B P OR n PR ST li w WK so sp CT FW H.size 1) (cwV 1 hts gX1_take_X1_fail rfl rfl rfl hd_X1_fail ⟨(by rw [hR]; exact Nat.le_of_ble_eq_true rfl), (by rw [hR]; exact Nat.le_of_ble_eq_true rfl)⟩) (pre_V hP hK hD hS hA hZ hg 0 (ci := 1) rfl rfl) rfl rfl hl.1 rfl (lv_room (Nat.le_of_ble_eq_true rfl)) dX1_take_15 ⟨(by rw [hR]; exact Nat.le_of_ble_eq_true rfl), (by rw [hR]; exact Nat.le_of_ble_eq_true rfl)⟩) hD hS hA (fun r_11 u_10 H locs hp_12 hP hD hS => ?_)
    subst hp_12
    subst hQ
    exact e_i (0, 1, T, CT) hx hb hr hlocks hS hP hD (⟨rfl, Or.inr (Or.inl ⟨rfl, b1_no c10, rfl, rfl⟩)⟩) (Nat.le_of_ble_eq_true rfl) (Nat.le_of_ble_eq_true rfl) dX1_take_18
theorem hd_X1_take : yX1_take.cls = RX1 ∧ yX1_take.cls ≠ "java/lang/invoke/MethodHandle" ∧ yX1_take.cls ≠ "java/lang/invoke/VarHandle" ∧ (parseMethodDescriptor yX1_take.desc).map (fun d => d.parameters.length) = some 2 := by decide +kernel

set_option maxHeartbeats 4000000 in
set_option maxRecDepth 100000 in
theorem c_X1_emptyBox (l : Launch) (hst : l.stackTraces = false) (D : va_G) (q : Nat → Nat) (cI cZ cJ : ClassId) (th : Nat) (k : Nat) (V : Nat → Nat) (C : Nat → Nat) (A : Nat → Nat) (T : Nat → Nat) (B : Nat → Nat) (P : Nat → Nat) (OR : Nat → Nat) (n : Nat) (PR : Nat → Nat) (ST : Nat → Nat) (li : Nat) (w : Nat) (WK : Nat → Nat) (so : Nat) (sp : Nat) (CT : Nat → Int64) (FW : Nat → Nat) (sz : Nat) (hk8 : k ≤ 8) : Met l yX1_emptyBox wsX1_emptyBox ({ frames := 0, cells := 0, slots := 0, locals := 0 }) (va_Pc [.ref (q 0)] (cxP D (ty3 cI cZ cJ) (wM q cI cZ cJ th k V C A T B P OR n PR ST li w WK so sp CT FW) sz)) (va_Qi (fun r (_ : Unit) => r = nI (sm (fun i => B i * V i) k)) (bW D (va_A (wM q cI cZ cJ th k V C A T B P OR n PR ST li w WK so sp CT FW) sz) (fun (_ : Unit) => (wM q cI cZ cJ 0 k V C A T (zb B k) P OR n PR ST li w WK so sp (vp_updL CT 6 (CT 6 + (nI (sm (fun i => B i * V i) k)).toInt64)) FW))) (va_A (wM q cI cZ cJ th k V C A T B P OR n PR ST li w WK so sp CT FW) sz)) 0 0 (va_A (wM q cI cZ cJ th k V C A T B P OR n PR ST li w WK so sp CT FW) sz) := by
  refine Met.ofW (cc := cX1_emptyBox) (maxL := 3) (ret := (some .int)) (by decide) rfl ?_
  intro p e s m args below meth c s₁ BB hml hv
  obtain ⟨hav, hsz, hP, hK, hD0, hZ, hg⟩ := hv
  subst hsz
  subst hav
  have hx := BB.exec
  have hb := BB.bytes
  have hr := BB.returns
  have hts := atoms_spec (ws := wsX1_emptyBox) BB.pre
  have hown : s.vm.findClass RX1 = some m.cls := findClass_of_methodNamed BB.named
  have hlocks := BB.notSynchronized
  have hin : ∀ w ∈ wsX10, w ∈ wsX1_emptyBox := fun w h => (List.mem_cons_of_mem _ (List.mem_append_right _ h))
  have hD := hD0.self (sz := s.heap.size)
  have hA : ∀ q9 : Nat, s.heap.size ≤ q9 → va_A (wM q cI cZ cJ th k V C A T B P OR n PR ST li w WK so sp CT FW) s.heap.size q9 := fun _ h => Or.inr h
  have hl := lv_entry ([.ref (q 0)]) (n := 3) (Nat.le_of_ble_eq_true rfl)
  rw [lg_entry_eq]
  generalize (lg_sl ([.ref (q 0)]) ++ List.replicate (3 - (lg_sl ([.ref (q 0)])).length) Slot.unset).toArray = ls at hl ⊢
  have hl : lv_has ls 3 [(0, .ref (q 0))] := hl
  refine W_absR (fun R hR => ?_)
  have hR : R = ({ frames := 0, cells := 0, slots := 0, locals := 0 } : Room) := hR
  refine W_absQ (fun Q hQ => ?_)
  generalize ([.ref (q 0)] : List Value).toArray = args at hts hQ ⊢
  generalize va_A (wM q cI cZ cJ th k V C A T B P OR n PR ST li w WK so sp CT FW) s.heap.size = A9 at hD hZ hA hQ
  refine W_start hP (A := A9) (fun H locs hP hS => ?_)
  refine lv_aload_n hx hb dX1_emptyBox_0 rfl (lv_at hl 0 rfl) ?_
  refine lv_iconst (v := nI 0) hx hb dX1_emptyBox_1 (ic_0) ?_
  refine pfM (ws' := (wM q cI cZ cJ 0 k V C A T B P OR n PR ST li w WK so sp CT FW)) hx hb hts hin hown hK hP hD hS 0 (by decide) (List.mem_of_getElem? (i := 1) rfl) rfl ⟨rfl, rfl⟩ rfl rfl dX1_emptyBox_2 (fun H locs hP hD hS => ?_)
  refine lv_iconst (v := nI 0) hx hb dX1_emptyBox_5 (ic_0) ?_
  refine lv_istore_n (lv' := [(1, .int (nI 0)), (0, .ref (q 0))]) hx hb dX1_emptyBox_6 rfl hl (by decide) rfl (fun ls hl => ?_)
  refine lv_iconst (v := nI 0) hx hb dX1_emptyBox_7 (ic_0) ?_
  refine lv_istore_n (lv' := [(2, .int (nI 0)), (1, .int (nI 0)), (0, .ref (q 0))]) hx hb dX1_emptyBox_8 rfl hl (by decide) rfl (fun ls hl => ?_)
  have lp_9 : ∀ (fu_9 : Nat) (i : Nat) (su : Nat), k - i < fu_9 → (i ≤ k) → (su = sm (fun i => B i * V i) i) → ∀ (H : Heap) (locs : List Loc), va_P D vwCl (wM q cI cZ cJ 0 k V C A T (zb B i) P OR n PR ST li w WK so sp CT FW) H → va_D A9 (wM q cI cZ cJ 0 k V C A T (zb B i) P OR n PR ST li w WK so sp CT FW) → va_S A9 s.heap H locs → ∀ ls : Array Slot, lv_has ls 3 [(2, .int (nI i)), (1, .int (nI su)), (0, .ref (q 0))] → W p l e R s m args below meth c H locs 0 0 Q (F0 m 9 ls []) := by
    intro fu_9
    induction fu_9 with
    | zero =>
      intro i su hfu_9
      exact absurd hfu_9 (Nat.not_lt_zero _)
    | succ fu_9 ih_9 =>
      intro i su hfu_9 hi hs H locs hP hD hS ls hl
      refine lv_iload_n hx hb dX1_emptyBox_9 rfl (lv_at hl 0 rfl) ?_
      refine lv_aload_n hx hb dX1_emptyBox_10 rfl (lv_at hl 2 rfl) ?_
      refine gfM hx hb hts hin hown hK hP 1 (by decide) (List.mem_of_getElem? (i := 2) rfl) rfl rfl dX1_emptyBox_11 ?_
      refine n_icmp_ge (tgt := 46) hx hb (by omega) (by omega) dX1_emptyBox_14 (by decide) (fun c14 => ?_) (fun c14 => ?_)
      · have hik : k = i := by omega
        subst hik
        subst hs
        refine lv_aload_n hx hb dX1_emptyBox_46 rfl (lv_at hl 2 rfl) ?_
        refine gfM hx hb hts hin hown hK hP 17 (by decide) (List.mem_of_getElem? (i := 5) rfl) rfl rfl dX1_emptyBox_47 ?_
        refine lv_bipush (v := nI 6) hx hb dX1_emptyBox_50 (by decide) ?_
        refine lv_dup2_11 hx hb dX1_emptyBox_52 rfl rfl ?_
        refine n_lald hx hb hK hP 11 2 rfl rfl (by omega) (by decide) dX1_emptyBox_53 ?_
        refine lv_iload_n hx hb dX1_emptyBox_54 rfl (lv_at hl 1 rfl) ?_
        refine lv_i2l hx hb dX1_emptyBox_55 rfl ?_
        refine lv_ladd hx hb dX1_emptyBox_56 ?_
        refine n_last (ws' := (wM q cI cZ cJ 0 k V C A T (zb B k) P OR n PR ST li w WK so sp (vp_updL CT 6 ((CT 6) + ((nI (sm (fun i => B i * V i) k)).toInt64))) FW)) hx hb hK hP hD hS 11 2 rfl rfl (by omega) (by decide) rfl dX1_emptyBox_57 (fun H locs hP hD hS => ?_)
        refine lv_iload_n hx hb dX1_emptyBox_58 rfl (lv_at hl 1 rfl) ?_
        subst hQ
        exact e_i () hx hb hr hlocks hS hP hD rfl (Nat.le_of_ble_eq_true rfl) (Nat.le_of_ble_eq_true rfl) dX1_emptyBox_59
      · refine lv_iload_n hx hb dX1_emptyBox_17 rfl (lv_at hl 1 rfl) ?_
        refine lv_aload_n hx hb dX1_emptyBox_18 rfl (lv_at hl 2 rfl) ?_
        refine gfM hx hb hts hin hown hK hP 6 (by decide) (List.mem_of_getElem? (i := 3) rfl) rfl rfl dX1_emptyBox_19 ?_
        refine lv_iload_n hx hb dX1_emptyBox_22 rfl (lv_at hl 0 rfl) ?_
        refine n_iald hx hb hK hP 5 0 rfl rfl (by omega) (by decide) dX1_emptyBox_23 ?_
        refine n_top (congrArg nI (show (zb B i) i = B i from zb_at B i)) ?_
        refine lv_aload_n hx hb dX1_emptyBox_24 rfl (lv_at hl 2 rfl) ?_
        refine gfM hx hb hts hin hown hK hP 2 (by decide) (List.mem_of_getElem? (i := 4) rfl) rfl rfl dX1_emptyBox_25 ?_
        refine lv_iload_n hx hb dX1_emptyBox_28 rfl (lv_at hl 0 rfl) ?_
        refine n_iald hx hb hK hP 1 0 rfl rfl (by omega) (by decide) dX1_emptyBox_29 ?_
        refine n_imul hx hb dX1_emptyBox_30 ?_
        refine n_iadd hx hb dX1_emptyBox_31 ?_
        refine lv_istore_n (lv' := [(1, .int (nI (su + ((B i) * (V i))))), (2, .int (nI i)), (0, .ref (q 0))]) hx hb dX1_emptyBox_32 rfl hl (by decide) rfl (fun ls hl => ?_)
        refine lv_aload_n hx hb dX1_emptyBox_33 rfl (lv_at hl 2 rfl) ?_
        refine gfM hx hb hts hin hown hK hP 6 (by decide) (List.mem_of_getElem? (i := 3) rfl) rfl rfl dX1_emptyBox_34 ?_
        refine lv_iload_n hx hb dX1_emptyBox_37 rfl (lv_at hl 1 rfl) ?_
        refine lv_iconst (v := nI 0) hx hb dX1_emptyBox_38 (ic_0) ?_
        refine n_iast (ws' := (wM q cI cZ cJ 0 k V C A T (un (zb B i) i 0) P OR n PR ST li w WK so sp CT FW)) hx hb hK hP hD hS 5 0 rfl rfl (by omega) (by decide) rfl dX1_emptyBox_39 (fun H locs hP hD hS => ?_)
        rw [show un (zb B i) i 0 = zb B (i + 1) from zb_s B i] at hP hD
        refine lv_iinc (v := nI (i + 1)) (lv' := [(2, .int (nI (i + 1))), (1, .int (nI (su + ((B i) * (V i))))), (0, .ref (q 0))]) hx hb dX1_emptyBox_40 hl (k := 1) rfl (ni_inc _ 1) (by decide) rfl (fun ls hl => ?_)
        refine lv_goto (tgt := 9) hx hb dX1_emptyBox_43 (by decide) ?_
        exact ih_9 (i + 1) (su + ((B i) * (V i))) (by omega) (by omega) (by rw [hs]; rfl) _ _ hP hD hS ls (lv_sub hl [0, 1, 2] rfl)
  rw [zb_0 B] at hP hD
  exact lp_9 _ 0 0 (Nat.lt_succ_self _) (by omega) rfl _ _ hP hD hS ls (lv_sub hl [0, 1, 2] rfl)
theorem hd_X1_emptyBox : yX1_emptyBox.cls = RX1 ∧ yX1_emptyBox.cls ≠ "java/lang/invoke/MethodHandle" ∧ yX1_emptyBox.cls ≠ "java/lang/invoke/VarHandle" ∧ (parseMethodDescriptor yX1_emptyBox.desc).map (fun d => d.parameters.length) = some 0 := by decide +kernel

set_option maxHeartbeats 4000000 in
set_option maxRecDepth 100000 in
theorem c_X1_accept (l : Launch) (hst : l.stackTraces = false) (D : va_G) (q : Nat → Nat) (cI cZ cJ : ClassId) (th : Nat) (k : Nat) (V : Nat → Nat) (C : Nat → Nat) (A : Nat → Nat) (T : Nat → Nat) (B : Nat → Nat) (P : Nat → Nat) (OR : Nat → Nat) (n : Nat) (PR : Nat → Nat) (ST : Nat → Nat) (li : Nat) (w : Nat) (WK : Nat → Nat) (so : Nat) (sp : Nat) (CT : Nat → Int64) (FW : Nat → Nat) (sz : Nat) (p0 : Int32) (on : Nat) (hk8 : k ≤ 8) (hA1 : ∀ i, i < k → A i ≤ 1) (hon : on ≤ 1) : Met l yX1_accept wsX1_accept ({ frames := 1, cells := 0, slots := 0, locals := 21 }) (va_Pc [.ref (q 0), .int p0, .int (nI on)] (cxP D (ty3 cI cZ cJ) (wM q cI cZ cJ th k V C A T B P OR n PR ST li w WK so sp CT FW) sz)) (va_Qi (fun r (u : Nat × Nat × (Nat → Nat)) => r = nI u.1 ∧ ((u.2.1 = 0 ∧ ∃ i, i < k ∧ p0 = nI i ∧ u.1 = A i ∧ u.2.2 = un A i on) ∨ (u.2.1 = 1 ∧ ¬ rg p0 0 k ∧ u.2.2 = A))) (bW D (va_A (wM q cI cZ cJ th k V C A T B P OR n PR ST li w WK so sp CT FW) sz) (fun u => (wM q cI cZ cJ u.2.1 k V C u.2.2 T B P OR n PR ST li w WK so sp CT FW))) (va_A (wM q cI cZ cJ th k V C A T B P OR n PR ST li w WK so sp CT FW) sz)) 0 0 (va_A (wM q cI cZ cJ th k V C A T B P OR n PR ST li w WK so sp CT FW) sz) := by
  refine Met.ofW (cc := cX1_accept) (maxL := 4) (ret := (some .boolean)) (by decide) rfl ?_
  intro p e s m args below meth c s₁ BB hml hv
  obtain ⟨hav, hsz, hP, hK, hD0, hZ, hg⟩ := hv
  subst hsz
  subst hav
  have hx := BB.exec
  have hb := BB.bytes
  have hr := BB.returns
  have hts := atoms_spec (ws := wsX1_accept) BB.pre
  have hown : s.vm.findClass RX1 = some m.cls := findClass_of_methodNamed BB.named
  have hlocks := BB.notSynchronized
  have hin : ∀ w ∈ wsX10, w ∈ wsX1_accept := fun w h => (List.mem_cons_of_mem _ (List.mem_append_right _ h))
  have hD := hD0.self (sz := s.heap.size)
  have hA : ∀ q9 : Nat, s.heap.size ≤ q9 → va_A (wM q cI cZ cJ th k V C A T B P OR n PR ST li w WK so sp CT FW) s.heap.size q9 := fun _ h => Or.inr h
  have hl := lv_entry ([.ref (q 0), .int p0, .int (nI on)]) (n := 4) (Nat.le_of_ble_eq_true rfl)
  rw [lg_entry_eq]
  generalize (lg_sl ([.ref (q 0), .int p0, .int (nI on)]) ++ List.replicate (4 - (lg_sl ([.ref (q 0), .int p0, .int (nI on)])).length) Slot.unset).toArray = ls at hl ⊢
  have hl : lv_has ls 4 [(0, .ref (q 0)), (1, .int p0), (2, .int (nI on))] := hl
  refine W_absR (fun R hR => ?_)
  have hR : R = ({ frames := 1, cells := 0, slots := 0, locals := 21 } : Room) := hR
  refine W_absQ (fun Q hQ => ?_)
  generalize ([.ref (q 0), .int p0, .int (nI on)] : List Value).toArray = args at hts hQ ⊢
  generalize va_A (wM q cI cZ cJ th k V C A T B P OR n PR ST li w WK so sp CT FW) s.heap.size = A9 at hD hZ hA hQ
  refine W_start hP (A := A9) (fun H locs hP hS => ?_)
  refine lv_aload_n hx hb dX1_accept_0 rfl (lv_at hl 0 rfl) ?_
  refine lv_aload_n hx hb dX1_accept_1 rfl (lv_at hl 0 rfl) ?_
  refine lv_iload_n hx hb dX1_accept_2 rfl (lv_at hl 1 rfl) ?_
  refine k_i (va_runV (As := [.int p0]) (rest := [.ref (q 0)]) ⟨hx, hb, hml, hown, hts⟩ (c_X1_isKind l hst D q cI cZ cJ th k V C A T B P OR n PR ST li w WK so sp CT FW H.size p0 hk8) (cwV 1 hts gX1_accept_X1_isKind rfl rfl rfl hd_X1_isKind ⟨(by rw [hR]; exact Nat.le_of_ble_eq_true rfl), (by rw [hR]; exact Nat.le_of_ble_eq_true rfl)⟩) (pre_V hP hK hD hS hA hZ hg 0 (ci := 1) rfl rfl) rfl rfl hl.1 rfl (lv_room (Nat.le_of_ble_eq_true rfl)) dX1_accept_3 ⟨(by rw [hR]; exact Nat.le_of_ble_eq_true rfl), (by rw [hR]; exact Nat.le_of_ble_eq_true rfl)⟩) hD hS hA (fun r_2 u_1 H locs hp_3 hP hD hS => ?_)
  subst hp_3
  refine n_if_eq (tgt := 13) hx hb (by have := b1_le (rg p0 0 k); omega) dX1_accept_6 (by decide) (fun c6 => ?_) (fun c6 => ?_)
  · refine lv_iconst (v := nI 1) hx hb dX1_accept_13 (ic_1) ?_
    refine pfM (ws' := (wM q cI cZ cJ 1 k V C A T B P OR n PR ST li w WK so sp CT FW)) hx hb hts hin hown hK hP hD hS 0 (by decide) (List.mem_of_getElem? (i := 1) rfl) rfl ⟨rfl, rfl⟩ rfl rfl dX1_accept_14 (fun H locs hP hD hS => ?_)
    refine lv_aload_n hx hb dX1_accept_17 rfl (lv_at hl 0 rfl) ?_
    refine gfM hx hb hts hin hown hK hP 0 (by decide) (List.mem_of_getElem? (i := 1) rfl) rfl rfl dX1_accept_18 ?_
    refine n_if_eq (tgt := 26) hx hb (by decide) dX1_accept_21 (by decide) (fun c21 => ?_) (fun c21 => ?_)
    · exact absurd c21 (by decide)
    · refine lv_iconst (v := nI 0) hx hb dX1_accept_24 (ic_0) ?_
      subst hQ
      exact e_z (0, 1, A) hx hb hr hlocks hS (by first | omega | exact hA1 j0 j0b) hP hD (⟨rfl, Or.inr ⟨rfl, b1_no c6, rfl⟩⟩) (Nat.le_of_ble_eq_true rfl) (Nat.le_of_ble_eq_true rfl) dX1_accept_25
  · obtain ⟨j0, j0a, j0b, rfl⟩ := b1_of c6
    refine lv_iconst (v := nI 0) hx hb dX1_accept_9 (ic_0) ?_
    refine lv_goto (tgt := 14) hx hb dX1_accept_10 (by decide) ?_
    refine pfM (ws' := (wM q cI cZ cJ 0 k V C A T B P OR n PR ST li w WK so sp CT FW)) hx hb hts hin hown hK hP hD hS 0 (by decide) (List.mem_of_getElem? (i := 1) rfl) rfl ⟨rfl, rfl⟩ rfl rfl dX1_accept_14 (fun H locs hP hD hS => ?_)
    refine lv_aload_n hx hb dX1_accept_17 rfl (lv_at hl 0 rfl) ?_
    refine gfM hx hb hts hin hown hK hP 0 (by decide) (List.mem_of_getElem? (i := 1) rfl) rfl rfl dX1_accept_18 ?_
    refine n_if_eq (tgt := 26) hx hb (by decide) dX1_accept_21 (by decide) (fun c21 => ?_) (fun c21 => ?_)
    · refine lv_aload_n hx hb dX1_accept_26 rfl (lv_at hl 0 rfl) ?_
      refine gfM hx hb hts hin hown hK hP 4 (by decide) (List.mem_of_getElem? (i := 2) rfl) rfl rfl dX1_accept_27 ?_
      refine lv_iload_n hx hb dX1_accept_30 rfl (lv_at hl 1 rfl) ?_
      refine n_zald hx hb hK hP 3 1 rfl rfl (by omega) (by decide) dX1_accept_31 ?_
      refine lv_istore_n (lv' := [(3, .int (nI (A j0))), (0, .ref (q 0)), (1, .int (nI j0)), (2, .int (nI on))]) hx hb dX1_accept_32 rfl hl (by decide) rfl (fun ls hl => ?_)
      refine lv_aload_n hx hb dX1_accept_33 rfl (lv_at hl 1 rfl) ?_
      refine gfM hx hb hts hin hown hK hP 4 (by decide) (List.mem_of_getElem? (i := 2) rfl) rfl rfl dX1_accept_34 ?_
      refine lv_iload_n hx hb dX1_accept_37 rfl (lv_at hl 2 rfl) ?_
      refine lv_iload_n hx hb dX1_accept_38 rfl (lv_at hl 3 rfl) ?_
      refine n_zast (ws' := (wM q cI cZ cJ 0 k V C (un A j0 on) T B P OR n PR ST li w WK so sp CT FW)) hx hb hK hP hD hS 3 1 rfl rfl (by omega) hon (by decide) rfl dX1_accept_39 (fun H locs hP hD hS => ?_)
      refine lv_iload_n hx hb dX1_accept_40 rfl (lv_at hl 0 rfl) ?_
      subst hQ
      exact e_z (A j0, 0, un A j0 on) hx hb hr hlocks hS (by first | omega | exact hA1 j0 j0b) hP hD (⟨rfl, Or.inl ⟨rfl, j0, j0b, rfl, rfl, rfl⟩⟩) (Nat.le_of_ble_eq_true rfl) (Nat.le_of_ble_eq_true rfl) dX1_accept_41
    · exact absurd c21 (by decide)
theorem hd_X1_accept : yX1_accept.cls = RX1 ∧ yX1_accept.cls ≠ "java/lang/invoke/MethodHandle" ∧ yX1_accept.cls ≠ "java/lang/invoke/VarHandle" ∧ (parseMethodDescriptor yX1_accept.desc).map (fun d => d.parameters.length) = some 2 := by decide +kernel

set_option maxHeartbeats 4000000 in
set_option maxRecDepth 100000 in
theorem c_X1_setLimit (l : Launch) (hst : l.stackTraces = false) (D : va_G) (q : Nat → Nat) (cI cZ cJ : ClassId) (th : Nat) (k : Nat) (V : Nat → Nat) (C : Nat → Nat) (A : Nat → Nat) (T : Nat → Nat) (B : Nat → Nat) (P : Nat → Nat) (OR : Nat → Nat) (n : Nat) (PR : Nat → Nat) (ST : Nat → Nat) (li : Nat) (w : Nat) (WK : Nat → Nat) (so : Nat) (sp : Nat) (CT : Nat → Int64) (FW : Nat → Nat) (sz : Nat) (p0 : Int32) : Met l yX1_setLimit wsX1_setLimit ({ frames := 1, cells := 0, slots := 0, locals := 21 }) (va_Pc [.ref (q 0), .int p0] (cxP D (ty3 cI cZ cJ) (wM q cI cZ cJ th k V C A T B P OR n PR ST li w WK so sp CT FW) sz)) (va_Qi (fun r (u : Nat × Nat × Nat) => r = nI u.1 ∧ ((u.2.1 = 0 ∧ u.1 = li ∧ u.2.2 < 2001 ∧ p0 = nI u.2.2) ∨ (u.2.1 = 1 ∧ ¬ rg p0 0 2001 ∧ u.2.2 = li))) (bW D (va_A (wM q cI cZ cJ th k V C A T B P OR n PR ST li w WK so sp CT FW) sz) (fun u => (wM q cI cZ cJ u.2.1 k V C A T B P OR n PR ST u.2.2 w WK so sp CT FW))) (va_A (wM q cI cZ cJ th k V C A T B P OR n PR ST li w WK so sp CT FW) sz)) 0 0 (va_A (wM q cI cZ cJ th k V C A T B P OR n PR ST li w WK so sp CT FW) sz) := by
  refine Met.ofW (cc := cX1_setLimit) (maxL := 3) (ret := (some .int)) (by decide) rfl ?_
  intro p e s m args below meth c s₁ BB hml hv
  obtain ⟨hav, hsz, hP, hK, hD0, hZ, hg⟩ := hv
  subst hsz
  subst hav
  have hx := BB.exec
  have hb := BB.bytes
  have hr := BB.returns
  have hts := atoms_spec (ws := wsX1_setLimit) BB.pre
  have hown : s.vm.findClass RX1 = some m.cls := findClass_of_methodNamed BB.named
  have hlocks := BB.notSynchronized
  have hin : ∀ w ∈ wsX10, w ∈ wsX1_setLimit := fun w h => (List.mem_cons_of_mem _ (List.mem_append_right _ h))
  have hD := hD0.self (sz := s.heap.size)
  have hA : ∀ q9 : Nat, s.heap.size ≤ q9 → va_A (wM q cI cZ cJ th k V C A T B P OR n PR ST li w WK so sp CT FW) s.heap.size q9 := fun _ h => Or.inr h
  have hl := lv_entry ([.ref (q 0), .int p0]) (n := 3) (Nat.le_of_ble_eq_true rfl)
  rw [lg_entry_eq]
  generalize (lg_sl ([.ref (q 0), .int p0]) ++ List.replicate (3 - (lg_sl ([.ref (q 0), .int p0])).length) Slot.unset).toArray = ls at hl ⊢
  have hl : lv_has ls 3 [(0, .ref (q 0)), (1, .int p0)] := hl
  refine W_absR (fun R hR => ?_)
  have hR : R = ({ frames := 1, cells := 0, slots := 0, locals := 21 } : Room) := hR
  refine W_absQ (fun Q hQ => ?_)
  generalize ([.ref (q 0), .int p0] : List Value).toArray = args at hts hQ ⊢
  generalize va_A (wM q cI cZ cJ th k V C A T B P OR n PR ST li w WK so sp CT FW) s.heap.size = A9 at hD hZ hA hQ
  refine W_start hP (A := A9) (fun H locs hP hS => ?_)
  refine lv_aload_n hx hb dX1_setLimit_0 rfl (lv_at hl 0 rfl) ?_
  refine lv_iconst (v := nI 0) hx hb dX1_setLimit_1 (ic_0) ?_
  refine pfM (ws' := (wM q cI cZ cJ 0 k V C A T B P OR n PR ST li w WK so sp CT FW)) hx hb hts hin hown hK hP hD hS 0 (by decide) (List.mem_of_getElem? (i := 1) rfl) rfl ⟨rfl, rfl⟩ rfl rfl dX1_setLimit_2 (fun H locs hP hD hS => ?_)
  refine lv_iload_n hx hb dX1_setLimit_5 rfl (lv_at hl 1 rfl) ?_
  refine k_i (va_runS (As := [.int p0]) (rest := []) ⟨hx, hb, hml, hown, hts⟩ (c_X1_isAmount l hst D q cI cZ cJ 0 k V C A T B P OR n PR ST li w WK so sp CT FW H.size p0) (va_cwS 1 hts gX1_setLimit_X1_isAmount rfl rfl rfl hd_X1_isAmount.2 ⟨(by rw [hR]; exact Nat.le_of_ble_eq_true rfl), (by rw [hR]; exact Nat.le_of_ble_eq_true rfl)⟩) (pre_S hP hK hD hS hA hZ hg) rfl rfl hl.1 rfl (lv_room (Nat.le_of_ble_eq_true rfl)) dX1_setLimit_6 ⟨(by rw [hR]; exact Nat.le_of_ble_eq_true rfl), (by rw [hR]; exact Nat.le_of_ble_eq_true rfl)⟩) hD hS hA (fun r_2 u_1 H locs hp_3 hP hD hS => ?_)
  subst hp_3
  refine n_if_ne (tgt := 18) hx hb (by have := b1_le (rg p0 0 2001); omega) dX1_setLimit_9 (by decide) (fun c9 => ?_) (fun c9 => ?_)
  · obtain ⟨j0, j0a, j0b, rfl⟩ := b1_of c9
    refine lv_aload_n hx hb dX1_setLimit_18 rfl (lv_at hl 0 rfl) ?_
    refine gfM hx hb hts hin hown hK hP 12 (by decide) (List.mem_of_getElem? (i := 2) rfl) rfl rfl dX1_setLimit_19 ?_
    refine lv_istore_n (lv' := [(2, .int (nI li)), (0, .ref (q 0)), (1, .int (nI j0))]) hx hb dX1_setLimit_22 rfl hl (by decide) rfl (fun ls hl => ?_)
    refine lv_aload_n hx hb dX1_setLimit_23 rfl (lv_at hl 1 rfl) ?_
    refine lv_iload_n hx hb dX1_setLimit_24 rfl (lv_at hl 2 rfl) ?_
    refine pfM (ws' := (wM q cI cZ cJ 0 k V C A T B P OR n PR ST j0 w WK so sp CT FW)) hx hb hts hin hown hK hP hD hS 12 (by decide) (List.mem_of_getElem? (i := 2) rfl) rfl ⟨rfl, rfl⟩ rfl rfl dX1_setLimit_25 (fun H locs hP hD hS => ?_)
    refine lv_iload_n hx hb dX1_setLimit_28 rfl (lv_at hl 0 rfl) ?_
    subst hQ
    exact e_i (li, 0, j0) hx hb hr hlocks hS hP hD (⟨rfl, Or.inl ⟨rfl, rfl, j0b, rfl⟩⟩) (Nat.le_of_ble_eq_true rfl) (Nat.le_of_ble_eq_true rfl) dX1_setLimit_29
  · refine lv_aload_n hx hb dX1_setLimit_12 rfl (lv_at hl 0 rfl) ?_
    refine lv_iconst (v := nI 1) hx hb dX1_setLimit_13 (ic_1) ?_
    refine k_i (va_runV (As := [.int (nI 1)]) (rest := []) ⟨hx, hb, hml, hown, hts⟩ (c_X1_fail l hst D q cI cZ cJ 0 k V C A T B P OR n PR ST li w WK so sp CT FW H.size 1) (cwV 1 hts gX1_setLimit_X1_fail rfl rfl rfl hd_X1_fail ⟨(by rw [hR]; exact Nat.le_of_ble_eq_true rfl), (by rw [hR]; exact Nat.le_of_ble_eq_true rfl)⟩) (pre_V hP hK hD hS hA hZ hg 0 (ci := 1) rfl rfl) rfl rfl hl.1 rfl (lv_room (Nat.le_of_ble_eq_true rfl)) dX1_setLimit_14 ⟨(by rw [hR]; exact Nat.le_of_ble_eq_true rfl), (by rw [hR]; exact Nat.le_of_ble_eq_true rfl)⟩) hD hS hA (fun r_5 u_4 H locs hp_6 hP hD hS => ?_)
    subst hp_6
    subst hQ
    exact e_i (0, 1, li) hx hb hr hlocks hS hP hD (⟨rfl, Or.inr ⟨rfl, b1_no c9, rfl⟩⟩) (Nat.le_of_ble_eq_true rfl) (Nat.le_of_ble_eq_true rfl) dX1_setLimit_17
theorem hd_X1_setLimit : yX1_setLimit.cls = RX1 ∧ yX1_setLimit.cls ≠ "java/lang/invoke/MethodHandle" ∧ yX1_setLimit.cls ≠ "java/lang/invoke/VarHandle" ∧ (parseMethodDescriptor yX1_setLimit.desc).map (fun d => d.parameters.length) = some 1 := by decide +kernel

set_option maxHeartbeats 4000000 in
set_option maxRecDepth 100000 in
theorem c_X1_addProduct (l : Launch) (hst : l.stackTraces = false) (D : va_G) (q : Nat → Nat) (cI cZ cJ : ClassId) (th : Nat) (k : Nat) (V : Nat → Nat) (C : Nat → Nat) (A : Nat → Nat) (T : Nat → Nat) (B : Nat → Nat) (P : Nat → Nat) (OR : Nat → Nat) (n : Nat) (PR : Nat → Nat) (ST : Nat → Nat) (li : Nat) (w : Nat) (WK : Nat → Nat) (so : Nat) (sp : Nat) (CT : Nat → Int64) (FW : Nat → Nat) (sz : Nat) (p0 : Int32) (p1 : Int32) (hn10 : n ≤ 10) : Met l yX1_addProduct wsX1_addProduct ({ frames := 1, cells := 0, slots := 0, locals := 21 }) (va_Pc [.ref (q 0), .int p0, .int p1] (cxP D (ty3 cI cZ cJ) (wM q cI cZ cJ th k V C A T B P OR n PR ST li w WK so sp CT FW) sz)) (va_Qi (fun r (u : Nat × Nat × Nat × (Nat → Nat) × (Nat → Nat)) => r = nI u.1 ∧ ((u.2.1 = 0 ∧ ∃ i j, 1 ≤ i ∧ i < 2001 ∧ j < 100 ∧ p0 = nI i ∧ p1 = nI j ∧ n < 10 ∧ u.1 = n ∧ u.2.2.1 = n + 1 ∧ u.2.2.2.1 = un PR n i ∧ u.2.2.2.2 = un ST n j) ∨ (u.2.1 = 1 ∧ ¬ (rg p0 1 2001 ∧ rg p1 0 100) ∧ u.2.2.1 = n ∧ u.2.2.2.1 = PR ∧ u.2.2.2.2 = ST) ∨ (u.2.1 = 2 ∧ (rg p0 1 2001 ∧ rg p1 0 100) ∧ ¬ n < 10 ∧ u.2.2.1 = n ∧ u.2.2.2.1 = PR ∧ u.2.2.2.2 = ST))) (bW D (va_A (wM q cI cZ cJ th k V C A T B P OR n PR ST li w WK so sp CT FW) sz) (fun u => (wM q cI cZ cJ u.2.1 k V C A T B P OR u.2.2.1 u.2.2.2.1 u.2.2.2.2 li w WK so sp CT FW))) (va_A (wM q cI cZ cJ th k V C A T B P OR n PR ST li w WK so sp CT FW) sz)) 0 0 (va_A (wM q cI cZ cJ th k V C A T B P OR n PR ST li w WK so sp CT FW) sz) := by
  refine Met.ofW (cc := cX1_addProduct) (maxL := 3) (ret := (some .int)) (by decide) rfl ?_
  intro p e s m args below meth c s₁ BB hml hv
  obtain ⟨hav, hsz, hP, hK, hD0, hZ, hg⟩ := hv
  subst hsz
  subst hav
  have hx := BB.exec
  have hb := BB.bytes
  have hr := BB.returns
  have hts := atoms_spec (ws := wsX1_addProduct) BB.pre
  have hown : s.vm.findClass RX1 = some m.cls := findClass_of_methodNamed BB.named
  have hlocks := BB.notSynchronized
  have hin : ∀ w ∈ wsX10, w ∈ wsX1_addProduct := fun w h => (List.mem_cons_of_mem _ (List.mem_append_right _ h))
  have hD := hD0.self (sz := s.heap.size)
  have hA : ∀ q9 : Nat, s.heap.size ≤ q9 → va_A (wM q cI cZ cJ th k V C A T B P OR n PR ST li w WK so sp CT FW) s.heap.size q9 := fun _ h => Or.inr h
  have hl := lv_entry ([.ref (q 0), .int p0, .int p1]) (n := 3) (Nat.le_of_ble_eq_true rfl)
  rw [lg_entry_eq]
  generalize (lg_sl ([.ref (q 0), .int p0, .int p1]) ++ List.replicate (3 - (lg_sl ([.ref (q 0), .int p0, .int p1])).length) Slot.unset).toArray = ls at hl ⊢
  have hl : lv_has ls 3 [(0, .ref (q 0)), (1, .int p0), (2, .int p1)] := hl
  refine W_absR (fun R hR => ?_)
  have hR : R = ({ frames := 1, cells := 0, slots := 0, locals := 21 } : Room) := hR
  refine W_absQ (fun Q hQ => ?_)
  generalize ([.ref (q 0), .int p0, .int p1] : List Value).toArray = args at hts hQ ⊢
  generalize va_A (wM q cI cZ cJ th k V C A T B P OR n PR ST li w WK so sp CT FW) s.heap.size = A9 at hD hZ hA hQ
  refine W_start hP (A := A9) (fun H locs hP hS => ?_)
  refine lv_aload_n hx hb dX1_addProduct_0 rfl (lv_at hl 0 rfl) ?_
  refine lv_iconst (v := nI 0) hx hb dX1_addProduct_1 (ic_0) ?_
  refine pfM (ws' := (wM q cI cZ cJ 0 k V C A T B P OR n PR ST li w WK so sp CT FW)) hx hb hts hin hown hK hP hD hS 0 (by decide) (List.mem_of_getElem? (i := 1) rfl) rfl ⟨rfl, rfl⟩ rfl rfl dX1_addProduct_2 (fun H locs hP hD hS => ?_)
  refine lv_iload_n hx hb dX1_addProduct_5 rfl (lv_at hl 1 rfl) ?_
  refine lv_iload_n hx hb dX1_addProduct_6 rfl (lv_at hl 2 rfl) ?_
  refine k_i (va_runS (As := [.int p0, .int p1]) (rest := []) ⟨hx, hb, hml, hown, hts⟩ (c_X1_isGoods l hst D q cI cZ cJ 0 k V C A T B P OR n PR ST li w WK so sp CT FW H.size p0 p1) (va_cwS 2 hts gX1_addProduct_X1_isGoods rfl rfl rfl hd_X1_isGoods.2 ⟨(by rw [hR]; exact Nat.le_of_ble_eq_true rfl), (by rw [hR]; exact Nat.le_of_ble_eq_true rfl)⟩) (pre_S hP hK hD hS hA hZ hg) rfl rfl hl.1 rfl (lv_room (Nat.le_of_ble_eq_true rfl)) dX1_addProduct_7 ⟨(by rw [hR]; exact Nat.le_of_ble_eq_true rfl), (by rw [hR]; exact Nat.le_of_ble_eq_true rfl)⟩) hD hS hA (fun r_2 u_1 H locs hp_3 hP hD hS => ?_)
  subst hp_3
  refine n_if_ne (tgt := 19) hx hb (by have := b1_le (rg p0 1 2001 ∧ rg p1 0 100); omega) dX1_addProduct_10 (by decide) (fun c10 => ?_) (fun c10 => ?_)
  · obtain ⟨⟨j0, j0a, j0b, rfl⟩, ⟨j1, j1a, j1b, rfl⟩⟩ := b1_of c10
    refine lv_aload_n hx hb dX1_addProduct_19 rfl (lv_at hl 0 rfl) ?_
    refine gfM hx hb hts hin hown hK hP 9 (by decide) (List.mem_of_getElem? (i := 2) rfl) rfl rfl dX1_addProduct_20 ?_
    refine lv_bipush (v := nI 10) hx hb dX1_addProduct_23 (by decide) ?_
    refine n_icmp_ne (tgt := 34) hx hb (by omega) (by omega) dX1_addProduct_25 (by decide) (fun c25 => ?_) (fun c25 => ?_)
    · refine lv_aload_n hx hb dX1_addProduct_34 rfl (lv_at hl 0 rfl) ?_
      refine gfM hx hb hts hin hown hK hP 10 (by decide) (List.mem_of_getElem? (i := 3) rfl) rfl rfl dX1_addProduct_35 ?_
      refine lv_aload_n hx hb dX1_addProduct_38 rfl (lv_at hl 0 rfl) ?_
      refine gfM hx hb hts hin hown hK hP 9 (by decide) (List.mem_of_getElem? (i := 2) rfl) rfl rfl dX1_addProduct_39 ?_
      refine lv_iload_n hx hb dX1_addProduct_42 rfl (lv_at hl 1 rfl) ?_
      refine n_iast (ws' := (wM q cI cZ cJ 0 k V C A T B P OR n (un PR n j0) ST li w WK so sp CT FW)) hx hb hK hP hD hS 8 0 rfl rfl (by omega) (by decide) rfl dX1_addProduct_43 (fun H locs hP hD hS => ?_)
      refine lv_aload_n hx hb dX1_addProduct_44 rfl (lv_at hl 0 rfl) ?_
      refine gfM hx hb hts hin hown hK hP 11 (by decide) (List.mem_of_getElem? (i := 4) rfl) rfl rfl dX1_addProduct_45 ?_
      refine lv_aload_n hx hb dX1_addProduct_48 rfl (lv_at hl 0 rfl) ?_
      refine gfM hx hb hts hin hown hK hP 9 (by decide) (List.mem_of_getElem? (i := 2) rfl) rfl rfl dX1_addProduct_49 ?_
      refine lv_iload_n hx hb dX1_addProduct_52 rfl (lv_at hl 2 rfl) ?_
      refine n_iast (ws' := (wM q cI cZ cJ 0 k V C A T B P OR n (un PR n j0) (un ST n j1) li w WK so sp CT FW)) hx hb hK hP hD hS 9 0 rfl rfl (by omega) (by decide) rfl dX1_addProduct_53 (fun H locs hP hD hS => ?_)
      refine lv_aload_n hx hb dX1_addProduct_54 rfl (lv_at hl 0 rfl) ?_
      refine lv_dup hx hb dX1_addProduct_55 rfl ?_
      refine gfM hx hb hts hin hown hK hP 9 (by decide) (List.mem_of_getElem? (i := 2) rfl) rfl rfl dX1_addProduct_56 ?_
      refine lv_iconst (v := nI 1) hx hb dX1_addProduct_59 (ic_1) ?_
      refine n_iadd hx hb dX1_addProduct_60 ?_
      refine pfM (ws' := (wM q cI cZ cJ 0 k V C A T B P OR (n + 1) (un PR n j0) (un ST n j1) li w WK so sp CT FW)) hx hb hts hin hown hK hP hD hS 9 (by decide) (List.mem_of_getElem? (i := 2) rfl) rfl ⟨rfl, rfl⟩ rfl rfl dX1_addProduct_61 (fun H locs hP hD hS => ?_)
      refine lv_aload_n hx hb dX1_addProduct_64 rfl (lv_at hl 0 rfl) ?_
      refine gfM hx hb hts hin hown hK hP 9 (by decide) (List.mem_of_getElem? (i := 2) rfl) rfl rfl dX1_addProduct_65 ?_
      refine lv_iconst (v := nI 1) hx hb dX1_addProduct_68 (ic_1) ?_
      refine n_isub hx hb (by omega) dX1_addProduct_69 ?_
      refine n_top (congrArg nI (show (n + 1) - 1 = n by omega)) ?_
      subst hQ
      exact e_i (n, 0, n + 1, un PR n j0, un ST n j1) hx hb hr hlocks hS hP hD (⟨rfl, Or.inl ⟨rfl, j0, j1, j0a, j0b, j1b, rfl, rfl, by omega, rfl, rfl, rfl, rfl⟩⟩) (Nat.le_of_ble_eq_true rfl) (Nat.le_of_ble_eq_true rfl) dX1_addProduct_70
    · refine lv_aload_n hx hb dX1_addProduct_28 rfl (lv_at hl 0 rfl) ?_
      refine lv_iconst (v := nI 2) hx hb dX1_addProduct_29 (ic_2) ?_
      refine k_i (va_runV (As := [.int (nI 2)]) (rest := []) ⟨hx, hb, hml, hown, hts⟩ (c_X1_fail l hst D q cI cZ cJ 0 k V C A T B P OR n PR ST li w WK so sp CT FW H.size 2) (cwV 1 hts gX1_addProduct_X1_fail rfl rfl rfl hd_X1_fail ⟨(by rw [hR]; exact Nat.le_of_ble_eq_true rfl), (by rw [hR]; exact Nat.le_of_ble_eq_true rfl)⟩) (pre_V hP hK hD hS hA hZ hg 0 (ci := 1) rfl rfl) rfl rfl hl.1 rfl (lv_room (Nat.le_of_ble_eq_true rfl)) dX1_addProduct_30 ⟨(by rw [hR]; exact Nat.le_of_ble_eq_true rfl), (by rw [hR]; exact Nat.le_of_ble_eq_true rfl)⟩) hD hS hA (fun r_5 u_4 H locs hp_6 hP hD hS => ?_)
      subst hp_6
      subst hQ
      exact e_i (0, 2, n, PR, ST) hx hb hr hlocks hS hP hD (⟨rfl, Or.inr (Or.inr ⟨rfl, ⟨⟨j0, j0a, j0b, rfl⟩, ⟨j1, j1a, j1b, rfl⟩⟩, by omega, rfl, rfl, rfl⟩)⟩) (Nat.le_of_ble_eq_true rfl) (Nat.le_of_ble_eq_true rfl) dX1_addProduct_33
  · refine lv_aload_n hx hb dX1_addProduct_13 rfl (lv_at hl 0 rfl) ?_
    refine lv_iconst (v := nI 1) hx hb dX1_addProduct_14 (ic_1) ?_
    refine k_i (va_runV (As := [.int (nI 1)]) (rest := []) ⟨hx, hb, hml, hown, hts⟩ (c_X1_fail l hst D q cI cZ cJ 0 k V C A T B P OR n PR ST li w WK so sp CT FW H.size 1) (cwV 1 hts gX1_addProduct_X1_fail rfl rfl rfl hd_X1_fail ⟨(by rw [hR]; exact Nat.le_of_ble_eq_true rfl), (by rw [hR]; exact Nat.le_of_ble_eq_true rfl)⟩) (pre_V hP hK hD hS hA hZ hg 0 (ci := 1) rfl rfl) rfl rfl hl.1 rfl (lv_room (Nat.le_of_ble_eq_true rfl)) dX1_addProduct_15 ⟨(by rw [hR]; exact Nat.le_of_ble_eq_true rfl), (by rw [hR]; exact Nat.le_of_ble_eq_true rfl)⟩) hD hS hA (fun r_8 u_7 H locs hp_9 hP hD hS => ?_)
    subst hp_9
    subst hQ
    exact e_i (0, 1, n, PR, ST) hx hb hr hlocks hS hP hD (⟨rfl, Or.inr (Or.inl ⟨rfl, b1_no c10, rfl, rfl, rfl⟩)⟩) (Nat.le_of_ble_eq_true rfl) (Nat.le_of_ble_eq_true rfl) dX1_addProduct_18
theorem hd_X1_addProduct : yX1_addProduct.cls = RX1 ∧ yX1_addProduct.cls ≠ "java/lang/invoke/MethodHandle" ∧ yX1_addProduct.cls ≠ "java/lang/invoke/VarHandle" ∧ (parseMethodDescriptor yX1_addProduct.desc).map (fun d => d.parameters.length) = some 2 := by decide +kernel

set_option maxHeartbeats 4000000 in
set_option maxRecDepth 100000 in
theorem c_X1_setProduct (l : Launch) (hst : l.stackTraces = false) (D : va_G) (q : Nat → Nat) (cI cZ cJ : ClassId) (th : Nat) (k : Nat) (V : Nat → Nat) (C : Nat → Nat) (A : Nat → Nat) (T : Nat → Nat) (B : Nat → Nat) (P : Nat → Nat) (OR : Nat → Nat) (n : Nat) (PR : Nat → Nat) (ST : Nat → Nat) (li : Nat) (w : Nat) (WK : Nat → Nat) (so : Nat) (sp : Nat) (CT : Nat → Int64) (FW : Nat → Nat) (sz : Nat) (p0 : Int32) (p1 : Int32) (p2 : Int32) (hn10 : n ≤ 10) : Met l yX1_setProduct wsX1_setProduct ({ frames := 1, cells := 0, slots := 0, locals := 21 }) (va_Pc [.ref (q 0), .int p0, .int p1, .int p2] (cxP D (ty3 cI cZ cJ) (wM q cI cZ cJ th k V C A T B P OR n PR ST li w WK so sp CT FW) sz)) (va_Qi (fun r (u : Nat × Nat × (Nat → Nat) × (Nat → Nat)) => r = nI u.1 ∧ ((u.2.1 = 0 ∧ ∃ h i j, h < n ∧ 1 ≤ i ∧ i < 2001 ∧ j < 100 ∧ p0 = nI h ∧ p1 = nI i ∧ p2 = nI j ∧ u.1 = PR h ∧ u.2.2.1 = un PR h i ∧ u.2.2.2 = un ST h j) ∨ (u.2.1 = 1 ∧ ¬ rg p0 0 n ∧ u.2.2.1 = PR ∧ u.2.2.2 = ST) ∨ (u.2.1 = 2 ∧ rg p0 0 n ∧ ¬ (rg p1 1 2001 ∧ rg p2 0 100) ∧ u.2.2.1 = PR ∧ u.2.2.2 = ST))) (bW D (va_A (wM q cI cZ cJ th k V C A T B P OR n PR ST li w WK so sp CT FW) sz) (fun u => (wM q cI cZ cJ u.2.1 k V C A T B P OR n u.2.2.1 u.2.2.2 li w WK so sp CT FW))) (va_A (wM q cI cZ cJ th k V C A T B P OR n PR ST li w WK so sp CT FW) sz)) 0 0 (va_A (wM q cI cZ cJ th k V C A T B P OR n PR ST li w WK so sp CT FW) sz) := by
  refine Met.ofW (cc := cX1_setProduct) (maxL := 5) (ret := (some .int)) (by decide) rfl ?_
  intro p e s m args below meth c s₁ BB hml hv
  obtain ⟨hav, hsz, hP, hK, hD0, hZ, hg⟩ := hv
  subst hsz
  subst hav
  have hx := BB.exec
  have hb := BB.bytes
  have hr := BB.returns
  have hts := atoms_spec (ws := wsX1_setProduct) BB.pre
  have hown : s.vm.findClass RX1 = some m.cls := findClass_of_methodNamed BB.named
  have hlocks := BB.notSynchronized
  have hin : ∀ w ∈ wsX10, w ∈ wsX1_setProduct := fun w h => (List.mem_cons_of_mem _ (List.mem_append_right _ h))
  have hD := hD0.self (sz := s.heap.size)
  have hA : ∀ q9 : Nat, s.heap.size ≤ q9 → va_A (wM q cI cZ cJ th k V C A T B P OR n PR ST li w WK so sp CT FW) s.heap.size q9 := fun _ h => Or.inr h
  have hl := lv_entry ([.ref (q 0), .int p0, .int p1, .int p2]) (n := 5) (Nat.le_of_ble_eq_true rfl)
  rw [lg_entry_eq]
  generalize (lg_sl ([.ref (q 0), .int p0, .int p1, .int p2]) ++ List.replicate (5 - (lg_sl ([.ref (q 0), .int p0, .int p1, .int p2])).length) Slot.unset).toArray = ls at hl ⊢
  have hl : lv_has ls 5 [(0, .ref (q 0)), (1, .int p0), (2, .int p1), (3, .int p2)] := hl
  refine W_absR (fun R hR => ?_)
  have hR : R = ({ frames := 1, cells := 0, slots := 0, locals := 21 } : Room) := hR
  refine W_absQ (fun Q hQ => ?_)
  generalize ([.ref (q 0), .int p0, .int p1, .int p2] : List Value).toArray = args at hts hQ ⊢
  generalize va_A (wM q cI cZ cJ th k V C A T B P OR n PR ST li w WK so sp CT FW) s.heap.size = A9 at hD hZ hA hQ
  refine W_start hP (A := A9) (fun H locs hP hS => ?_)
  refine lv_aload_n hx hb dX1_setProduct_0 rfl (lv_at hl 0 rfl) ?_
  refine lv_iconst (v := nI 0) hx hb dX1_setProduct_1 (ic_0) ?_
  refine pfM (ws' := (wM q cI cZ cJ 0 k V C A T B P OR n PR ST li w WK so sp CT FW)) hx hb hts hin hown hK hP hD hS 0 (by decide) (List.mem_of_getElem? (i := 1) rfl) rfl ⟨rfl, rfl⟩ rfl rfl dX1_setProduct_2 (fun H locs hP hD hS => ?_)
  refine lv_aload_n hx hb dX1_setProduct_5 rfl (lv_at hl 0 rfl) ?_
  refine lv_iload_n hx hb dX1_setProduct_6 rfl (lv_at hl 1 rfl) ?_
  refine k_i (va_runV (As := [.int p0]) (rest := []) ⟨hx, hb, hml, hown, hts⟩ (c_X1_isProduct l hst D q cI cZ cJ 0 k V C A T B P OR n PR ST li w WK so sp CT FW H.size p0 hn10) (cwV 1 hts gX1_setProduct_X1_isProduct rfl rfl rfl hd_X1_isProduct ⟨(by rw [hR]; exact Nat.le_of_ble_eq_true rfl), (by rw [hR]; exact Nat.le_of_ble_eq_true rfl)⟩) (pre_V hP hK hD hS hA hZ hg 0 (ci := 1) rfl rfl) rfl rfl hl.1 rfl (lv_room (Nat.le_of_ble_eq_true rfl)) dX1_setProduct_7 ⟨(by rw [hR]; exact Nat.le_of_ble_eq_true rfl), (by rw [hR]; exact Nat.le_of_ble_eq_true rfl)⟩) hD hS hA (fun r_2 u_1 H locs hp_3 hP hD hS => ?_)
  subst hp_3
  refine n_if_ne (tgt := 19) hx hb (by have := b1_le (rg p0 0 n); omega) dX1_setProduct_10 (by decide) (fun c10 => ?_) (fun c10 => ?_)
  · obtain ⟨j0, j0a, j0b, rfl⟩ := b1_of c10
    refine lv_iload_n hx hb dX1_setProduct_19 rfl (lv_at hl 2 rfl) ?_
    refine lv_iload_n hx hb dX1_setProduct_20 rfl (lv_at hl 3 rfl) ?_
    refine k_i (va_runS (As := [.int p1, .int p2]) (rest := []) ⟨hx, hb, hml, hown, hts⟩ (c_X1_isGoods l hst D q cI cZ cJ 0 k V C A T B P OR n PR ST li w WK so sp CT FW H.size p1 p2) (va_cwS 2 hts gX1_setProduct_X1_isGoods rfl rfl rfl hd_X1_isGoods.2 ⟨(by rw [hR]; exact Nat.le_of_ble_eq_true rfl), (by rw [hR]; exact Nat.le_of_ble_eq_true rfl)⟩) (pre_S hP hK hD hS hA hZ hg) rfl rfl hl.1 rfl (lv_room (Nat.le_of_ble_eq_true rfl)) dX1_setProduct_21 ⟨(by rw [hR]; exact Nat.le_of_ble_eq_true rfl), (by rw [hR]; exact Nat.le_of_ble_eq_true rfl)⟩) hD hS hA (fun r_5 u_4 H locs hp_6 hP hD hS => ?_)
    subst hp_6
    refine n_if_ne (tgt := 33) hx hb (by have := b1_le (rg p1 1 2001 ∧ rg p2 0 100); omega) dX1_setProduct_24 (by decide) (fun c24 => ?_) (fun c24 => ?_)
    · obtain ⟨⟨j1, j1a, j1b, rfl⟩, ⟨j2, j2a, j2b, rfl⟩⟩ := b1_of c24
      refine lv_aload_n hx hb dX1_setProduct_33 rfl (lv_at hl 0 rfl) ?_
      refine gfM hx hb hts hin hown hK hP 10 (by decide) (List.mem_of_getElem? (i := 2) rfl) rfl rfl dX1_setProduct_34 ?_
      refine lv_iload_n hx hb dX1_setProduct_37 rfl (lv_at hl 1 rfl) ?_
      refine n_iald hx hb hK hP 8 0 rfl rfl (by omega) (by decide) dX1_setProduct_38 ?_
      refine lv_istore (lv' := [(4, .int (nI (PR j0))), (0, .ref (q 0)), (1, .int (nI j0)), (2, .int (nI j1)), (3, .int (nI j2))]) hx hb dX1_setProduct_39 hl (by decide) rfl (fun ls hl => ?_)
      refine lv_aload_n hx hb dX1_setProduct_41 rfl (lv_at hl 1 rfl) ?_
      refine gfM hx hb hts hin hown hK hP 10 (by decide) (List.mem_of_getElem? (i := 2) rfl) rfl rfl dX1_setProduct_42 ?_
      refine lv_iload_n hx hb dX1_setProduct_45 rfl (lv_at hl 2 rfl) ?_
      refine lv_iload_n hx hb dX1_setProduct_46 rfl (lv_at hl 3 rfl) ?_
      refine n_iast (ws' := (wM q cI cZ cJ 0 k V C A T B P OR n (un PR j0 j1) ST li w WK so sp CT FW)) hx hb hK hP hD hS 8 0 rfl rfl (by omega) (by decide) rfl dX1_setProduct_47 (fun H locs hP hD hS => ?_)
      refine lv_aload_n hx hb dX1_setProduct_48 rfl (lv_at hl 1 rfl) ?_
      refine gfM hx hb hts hin hown hK hP 11 (by decide) (List.mem_of_getElem? (i := 3) rfl) rfl rfl dX1_setProduct_49 ?_
      refine lv_iload_n hx hb dX1_setProduct_52 rfl (lv_at hl 2 rfl) ?_
      refine lv_iload_n hx hb dX1_setProduct_53 rfl (lv_at hl 4 rfl) ?_
      refine n_iast (ws' := (wM q cI cZ cJ 0 k V C A T B P OR n (un PR j0 j1) (un ST j0 j2) li w WK so sp CT FW)) hx hb hK hP hD hS 9 0 rfl rfl (by omega) (by decide) rfl dX1_setProduct_54 (fun H locs hP hD hS => ?_)
      refine lv_iload hx hb dX1_setProduct_55 (lv_at hl 0 rfl) ?_
      subst hQ
      exact e_i (PR j0, 0, un PR j0 j1, un ST j0 j2) hx hb hr hlocks hS hP hD (⟨rfl, Or.inl ⟨rfl, j0, j1, j2, j0b, j1a, j1b, j2b, rfl, rfl, rfl, rfl, rfl, rfl⟩⟩) (Nat.le_of_ble_eq_true rfl) (Nat.le_of_ble_eq_true rfl) dX1_setProduct_57
    · refine lv_aload_n hx hb dX1_setProduct_27 rfl (lv_at hl 0 rfl) ?_
      refine lv_iconst (v := nI 2) hx hb dX1_setProduct_28 (ic_2) ?_
      refine k_i (va_runV (As := [.int (nI 2)]) (rest := []) ⟨hx, hb, hml, hown, hts⟩ (c_X1_fail l hst D q cI cZ cJ 0 k V C A T B P OR n PR ST li w WK so sp CT FW H.size 2) (cwV 1 hts gX1_setProduct_X1_fail rfl rfl rfl hd_X1_fail ⟨(by rw [hR]; exact Nat.le_of_ble_eq_true rfl), (by rw [hR]; exact Nat.le_of_ble_eq_true rfl)⟩) (pre_V hP hK hD hS hA hZ hg 0 (ci := 1) rfl rfl) rfl rfl hl.1 rfl (lv_room (Nat.le_of_ble_eq_true rfl)) dX1_setProduct_29 ⟨(by rw [hR]; exact Nat.le_of_ble_eq_true rfl), (by rw [hR]; exact Nat.le_of_ble_eq_true rfl)⟩) hD hS hA (fun r_8 u_7 H locs hp_9 hP hD hS => ?_)
      subst hp_9
      subst hQ
      exact e_i (0, 2, PR, ST) hx hb hr hlocks hS hP hD (⟨rfl, Or.inr (Or.inr ⟨rfl, ⟨j0, j0a, j0b, rfl⟩, b1_no c24, rfl, rfl⟩)⟩) (Nat.le_of_ble_eq_true rfl) (Nat.le_of_ble_eq_true rfl) dX1_setProduct_32
  · refine lv_aload_n hx hb dX1_setProduct_13 rfl (lv_at hl 0 rfl) ?_
    refine lv_iconst (v := nI 1) hx hb dX1_setProduct_14 (ic_1) ?_
    refine k_i (va_runV (As := [.int (nI 1)]) (rest := []) ⟨hx, hb, hml, hown, hts⟩ (c_X1_fail l hst D q cI cZ cJ 0 k V C A T B P OR n PR ST li w WK so sp CT FW H.size 1) (cwV 1 hts gX1_setProduct_X1_fail rfl rfl rfl hd_X1_fail ⟨(by rw [hR]; exact Nat.le_of_ble_eq_true rfl), (by rw [hR]; exact Nat.le_of_ble_eq_true rfl)⟩) (pre_V hP hK hD hS hA hZ hg 0 (ci := 1) rfl rfl) rfl rfl hl.1 rfl (lv_room (Nat.le_of_ble_eq_true rfl)) dX1_setProduct_15 ⟨(by rw [hR]; exact Nat.le_of_ble_eq_true rfl), (by rw [hR]; exact Nat.le_of_ble_eq_true rfl)⟩) hD hS hA (fun r_11 u_10 H locs hp_12 hP hD hS => ?_)
    subst hp_12
    subst hQ
    exact e_i (0, 1, PR, ST) hx hb hr hlocks hS hP hD (⟨rfl, Or.inr (Or.inl ⟨rfl, b1_no c10, rfl, rfl⟩)⟩) (Nat.le_of_ble_eq_true rfl) (Nat.le_of_ble_eq_true rfl) dX1_setProduct_18
theorem hd_X1_setProduct : yX1_setProduct.cls = RX1 ∧ yX1_setProduct.cls ≠ "java/lang/invoke/MethodHandle" ∧ yX1_setProduct.cls ≠ "java/lang/invoke/VarHandle" ∧ (parseMethodDescriptor yX1_setProduct.desc).map (fun d => d.parameters.length) = some 3 := by decide +kernel

set_option maxHeartbeats 4000000 in
set_option maxRecDepth 100000 in
theorem c_X1_product (l : Launch) (hst : l.stackTraces = false) (D : va_G) (q : Nat → Nat) (cI cZ cJ : ClassId) (th : Nat) (k : Nat) (V : Nat → Nat) (C : Nat → Nat) (A : Nat → Nat) (T : Nat → Nat) (B : Nat → Nat) (P : Nat → Nat) (OR : Nat → Nat) (n : Nat) (PR : Nat → Nat) (ST : Nat → Nat) (li : Nat) (w : Nat) (WK : Nat → Nat) (so : Nat) (sp : Nat) (CT : Nat → Int64) (FW : Nat → Nat) (sz : Nat) (p0 : Int32) (on : Nat) (hn10 : n ≤ 10) (hon : on ≤ 1) : Met l yX1_product wsX1_product ({ frames := 1, cells := 0, slots := 0, locals := 21 }) (va_Pc [.ref (q 0), .int p0, .int (nI on)] (cxP D (ty3 cI cZ cJ) (wM q cI cZ cJ th k V C A T B P OR n PR ST li w WK so sp CT FW) sz)) (va_Qi (fun r (u : Nat × Nat) => r = nI u.1 ∧ ((u.2 = 0 ∧ ∃ i, i < n ∧ p0 = nI i ∧ u.1 = if on = 0 then PR i else ST i) ∨ (u.2 = 1 ∧ ¬ rg p0 0 n))) (bW D (va_A (wM q cI cZ cJ th k V C A T B P OR n PR ST li w WK so sp CT FW) sz) (fun u => (wM q cI cZ cJ u.2 k V C A T B P OR n PR ST li w WK so sp CT FW))) (va_A (wM q cI cZ cJ th k V C A T B P OR n PR ST li w WK so sp CT FW) sz)) 0 0 (va_A (wM q cI cZ cJ th k V C A T B P OR n PR ST li w WK so sp CT FW) sz) := by
  refine Met.ofW (cc := cX1_product) (maxL := 3) (ret := (some .int)) (by decide) rfl ?_
  intro p e s m args below meth c s₁ BB hml hv
  obtain ⟨hav, hsz, hP, hK, hD0, hZ, hg⟩ := hv
  subst hsz
  subst hav
  have hx := BB.exec
  have hb := BB.bytes
  have hr := BB.returns
  have hts := atoms_spec (ws := wsX1_product) BB.pre
  have hown : s.vm.findClass RX1 = some m.cls := findClass_of_methodNamed BB.named
  have hlocks := BB.notSynchronized
  have hin : ∀ w ∈ wsX10, w ∈ wsX1_product := fun w h => (List.mem_cons_of_mem _ (List.mem_append_right _ h))
  have hD := hD0.self (sz := s.heap.size)
  have hA : ∀ q9 : Nat, s.heap.size ≤ q9 → va_A (wM q cI cZ cJ th k V C A T B P OR n PR ST li w WK so sp CT FW) s.heap.size q9 := fun _ h => Or.inr h
  have hl := lv_entry ([.ref (q 0), .int p0, .int (nI on)]) (n := 3) (Nat.le_of_ble_eq_true rfl)
  rw [lg_entry_eq]
  generalize (lg_sl ([.ref (q 0), .int p0, .int (nI on)]) ++ List.replicate (3 - (lg_sl ([.ref (q 0), .int p0, .int (nI on)])).length) Slot.unset).toArray = ls at hl ⊢
  have hl : lv_has ls 3 [(0, .ref (q 0)), (1, .int p0), (2, .int (nI on))] := hl
  refine W_absR (fun R hR => ?_)
  have hR : R = ({ frames := 1, cells := 0, slots := 0, locals := 21 } : Room) := hR
  refine W_absQ (fun Q hQ => ?_)
  generalize ([.ref (q 0), .int p0, .int (nI on)] : List Value).toArray = args at hts hQ ⊢
  generalize va_A (wM q cI cZ cJ th k V C A T B P OR n PR ST li w WK so sp CT FW) s.heap.size = A9 at hD hZ hA hQ
  refine W_start hP (A := A9) (fun H locs hP hS => ?_)
  refine lv_aload_n hx hb dX1_product_0 rfl (lv_at hl 0 rfl) ?_
  refine lv_iconst (v := nI 0) hx hb dX1_product_1 (ic_0) ?_
  refine pfM (ws' := (wM q cI cZ cJ 0 k V C A T B P OR n PR ST li w WK so sp CT FW)) hx hb hts hin hown hK hP hD hS 0 (by decide) (List.mem_of_getElem? (i := 1) rfl) rfl ⟨rfl, rfl⟩ rfl rfl dX1_product_2 (fun H locs hP hD hS => ?_)
  refine lv_aload_n hx hb dX1_product_5 rfl (lv_at hl 0 rfl) ?_
  refine lv_iload_n hx hb dX1_product_6 rfl (lv_at hl 1 rfl) ?_
  refine k_i (va_runV (As := [.int p0]) (rest := []) ⟨hx, hb, hml, hown, hts⟩ (c_X1_isProduct l hst D q cI cZ cJ 0 k V C A T B P OR n PR ST li w WK so sp CT FW H.size p0 hn10) (cwV 1 hts gX1_product_X1_isProduct rfl rfl rfl hd_X1_isProduct ⟨(by rw [hR]; exact Nat.le_of_ble_eq_true rfl), (by rw [hR]; exact Nat.le_of_ble_eq_true rfl)⟩) (pre_V hP hK hD hS hA hZ hg 0 (ci := 1) rfl rfl) rfl rfl hl.1 rfl (lv_room (Nat.le_of_ble_eq_true rfl)) dX1_product_7 ⟨(by rw [hR]; exact Nat.le_of_ble_eq_true rfl), (by rw [hR]; exact Nat.le_of_ble_eq_true rfl)⟩) hD hS hA (fun r_2 u_1 H locs hp_3 hP hD hS => ?_)
  subst hp_3
  refine n_if_ne (tgt := 21) hx hb (by have := b1_le (rg p0 0 n); omega) dX1_product_10 (by decide) (fun c10 => ?_) (fun c10 => ?_)
  · obtain ⟨j0, j0a, j0b, rfl⟩ := b1_of c10
    refine lv_iload_n hx hb dX1_product_21 rfl (lv_at hl 2 rfl) ?_
    refine n_if_eq (tgt := 34) hx hb (by omega) dX1_product_22 (by decide) (fun c22 => ?_) (fun c22 => ?_)
    · refine lv_aload_n hx hb dX1_product_34 rfl (lv_at hl 0 rfl) ?_
      refine gfM hx hb hts hin hown hK hP 10 (by decide) (List.mem_of_getElem? (i := 3) rfl) rfl rfl dX1_product_35 ?_
      refine lv_iload_n hx hb dX1_product_38 rfl (lv_at hl 1 rfl) ?_
      refine n_iald hx hb hK hP 8 0 rfl rfl (by omega) (by decide) dX1_product_39 ?_
      subst hQ
      exact e_i (PR j0, 0) hx hb hr hlocks hS hP hD (⟨rfl, Or.inl ⟨rfl, j0, j0b, rfl, (if_pos c22).symm⟩⟩) (Nat.le_of_ble_eq_true rfl) (Nat.le_of_ble_eq_true rfl) dX1_product_40
    · refine lv_aload_n hx hb dX1_product_25 rfl (lv_at hl 0 rfl) ?_
      refine gfM hx hb hts hin hown hK hP 11 (by decide) (List.mem_of_getElem? (i := 2) rfl) rfl rfl dX1_product_26 ?_
      refine lv_iload_n hx hb dX1_product_29 rfl (lv_at hl 1 rfl) ?_
      refine n_iald hx hb hK hP 9 0 rfl rfl (by omega) (by decide) dX1_product_30 ?_
      refine lv_goto (tgt := 40) hx hb dX1_product_31 (by decide) ?_
      subst hQ
      exact e_i (ST j0, 0) hx hb hr hlocks hS hP hD (⟨rfl, Or.inl ⟨rfl, j0, j0b, rfl, (if_neg c22).symm⟩⟩) (Nat.le_of_ble_eq_true rfl) (Nat.le_of_ble_eq_true rfl) dX1_product_40
  · refine lv_aload_n hx hb dX1_product_13 rfl (lv_at hl 0 rfl) ?_
    refine lv_iconst (v := nI 1) hx hb dX1_product_14 (ic_1) ?_
    refine k_i (va_runV (As := [.int (nI 1)]) (rest := []) ⟨hx, hb, hml, hown, hts⟩ (c_X1_fail l hst D q cI cZ cJ 0 k V C A T B P OR n PR ST li w WK so sp CT FW H.size 1) (cwV 1 hts gX1_product_X1_fail rfl rfl rfl hd_X1_fail ⟨(by rw [hR]; exact Nat.le_of_ble_eq_true rfl), (by rw [hR]; exact Nat.le_of_ble_eq_true rfl)⟩) (pre_V hP hK hD hS hA hZ hg 0 (ci := 1) rfl rfl) rfl rfl hl.1 rfl (lv_room (Nat.le_of_ble_eq_true rfl)) dX1_product_15 ⟨(by rw [hR]; exact Nat.le_of_ble_eq_true rfl), (by rw [hR]; exact Nat.le_of_ble_eq_true rfl)⟩) hD hS hA (fun r_5 u_4 H locs hp_6 hP hD hS => ?_)
    subst hp_6
    refine lv_goto (tgt := 40) hx hb dX1_product_18 (by decide) ?_
    subst hQ
    exact e_i (0, 1) hx hb hr hlocks hS hP hD (⟨rfl, Or.inr ⟨rfl, b1_no c10⟩⟩) (Nat.le_of_ble_eq_true rfl) (Nat.le_of_ble_eq_true rfl) dX1_product_40
theorem hd_X1_product : yX1_product.cls = RX1 ∧ yX1_product.cls ≠ "java/lang/invoke/MethodHandle" ∧ yX1_product.cls ≠ "java/lang/invoke/VarHandle" ∧ (parseMethodDescriptor yX1_product.desc).map (fun d => d.parameters.length) = some 2 := by decide +kernel

set_option maxHeartbeats 4000000 in
set_option maxRecDepth 100000 in
theorem c_X1_creditNow (l : Launch) (hst : l.stackTraces = false) (D : va_G) (q : Nat → Nat) (cI cZ cJ : ClassId) (th : Nat) (k : Nat) (V : Nat → Nat) (C : Nat → Nat) (A : Nat → Nat) (T : Nat → Nat) (B : Nat → Nat) (P : Nat → Nat) (OR : Nat → Nat) (n : Nat) (PR : Nat → Nat) (ST : Nat → Nat) (li : Nat) (w : Nat) (WK : Nat → Nat) (so : Nat) (sp : Nat) (CT : Nat → Int64) (FW : Nat → Nat) (sz : Nat) (hk8 : k ≤ 8) (hw12 : w ≤ 12) (hWK : ∀ j, j < w → WK j < k) (hV : ∀ i, i < k → 1 ≤ V i ∧ V i ≤ 500) : Met l yX1_creditNow wsX1_creditNow ({ frames := 0, cells := 0, slots := 0, locals := 0 }) (va_Pc [.ref (q 0)] (cxP D (ty3 cI cZ cJ) (wM q cI cZ cJ th k V C A T B P OR n PR ST li w WK so sp CT FW) sz)) (va_Qi (fun r (_ : Unit) => r = nI (cr V WK w)) (bW D (va_A (wM q cI cZ cJ th k V C A T B P OR n PR ST li w WK so sp CT FW) sz) (fun (_ : Unit) => (wM q cI cZ cJ th k V C A T B P OR n PR ST li w WK so sp CT FW))) (va_A (wM q cI cZ cJ th k V C A T B P OR n PR ST li w WK so sp CT FW) sz)) 0 0 (va_A (wM q cI cZ cJ th k V C A T B P OR n PR ST li w WK so sp CT FW) sz) := by
  refine Met.ofW (cc := cX1_creditNow) (maxL := 3) (ret := (some .int)) (by decide) rfl ?_
  intro p e s m args below meth c s₁ BB hml hv
  obtain ⟨hav, hsz, hP, hK, hD0, hZ, hg⟩ := hv
  subst hsz
  subst hav
  have hx := BB.exec
  have hb := BB.bytes
  have hr := BB.returns
  have hts := atoms_spec (ws := wsX1_creditNow) BB.pre
  have hown : s.vm.findClass RX1 = some m.cls := findClass_of_methodNamed BB.named
  have hlocks := BB.notSynchronized
  have hin : ∀ w ∈ wsX10, w ∈ wsX1_creditNow := fun w h => (List.mem_cons_of_mem _ (List.mem_append_right _ h))
  have hD := hD0.self (sz := s.heap.size)
  have hA : ∀ q9 : Nat, s.heap.size ≤ q9 → va_A (wM q cI cZ cJ th k V C A T B P OR n PR ST li w WK so sp CT FW) s.heap.size q9 := fun _ h => Or.inr h
  have hl := lv_entry ([.ref (q 0)]) (n := 3) (Nat.le_of_ble_eq_true rfl)
  rw [lg_entry_eq]
  generalize (lg_sl ([.ref (q 0)]) ++ List.replicate (3 - (lg_sl ([.ref (q 0)])).length) Slot.unset).toArray = ls at hl ⊢
  have hl : lv_has ls 3 [(0, .ref (q 0))] := hl
  refine W_absR (fun R hR => ?_)
  have hR : R = ({ frames := 0, cells := 0, slots := 0, locals := 0 } : Room) := hR
  refine W_absQ (fun Q hQ => ?_)
  generalize ([.ref (q 0)] : List Value).toArray = args at hts hQ ⊢
  generalize va_A (wM q cI cZ cJ th k V C A T B P OR n PR ST li w WK so sp CT FW) s.heap.size = A9 at hD hZ hA hQ
  refine W_start hP (A := A9) (fun H locs hP hS => ?_)
  refine lv_iconst (v := nI 0) hx hb dX1_creditNow_0 (ic_0) ?_
  refine lv_istore_n (lv' := [(1, .int (nI 0)), (0, .ref (q 0))]) hx hb dX1_creditNow_1 rfl hl (by decide) rfl (fun ls hl => ?_)
  refine lv_iconst (v := nI 0) hx hb dX1_creditNow_2 (ic_0) ?_
  refine lv_istore_n (lv' := [(2, .int (nI 0)), (1, .int (nI 0)), (0, .ref (q 0))]) hx hb dX1_creditNow_3 rfl hl (by decide) rfl (fun ls hl => ?_)
  have lp_4 : ∀ (fu_4 : Nat) (j : Nat) (su : Nat), w - j < fu_4 → (j ≤ w) → (su = cr V WK j) → ∀ (H : Heap) (locs : List Loc), va_P D vwCl (wM q cI cZ cJ th k V C A T B P OR n PR ST li w WK so sp CT FW) H → va_D A9 (wM q cI cZ cJ th k V C A T B P OR n PR ST li w WK so sp CT FW) → va_S A9 s.heap H locs → ∀ ls : Array Slot, lv_has ls 3 [(2, .int (nI j)), (1, .int (nI su)), (0, .ref (q 0))] → W p l e R s m args below meth c H locs 0 0 Q (F0 m 4 ls []) := by
    intro fu_4
    induction fu_4 with
    | zero =>
      intro j su hfu_4
      exact absurd hfu_4 (Nat.not_lt_zero _)
    | succ fu_4 ih_4 =>
      intro j su hfu_4 hj hs H locs hP hD hS ls hl
      refine lv_iload_n hx hb dX1_creditNow_4 rfl (lv_at hl 0 rfl) ?_
      refine lv_aload_n hx hb dX1_creditNow_5 rfl (lv_at hl 2 rfl) ?_
      refine gfM hx hb hts hin hown hK hP 13 (by decide) (List.mem_of_getElem? (i := 1) rfl) rfl rfl dX1_creditNow_6 ?_
      refine n_icmp_ge (tgt := 32) hx hb (by omega) (by omega) dX1_creditNow_9 (by decide) (fun c9 => ?_) (fun c9 => ?_)
      · refine lv_iload_n hx hb dX1_creditNow_32 rfl (lv_at hl 1 rfl) ?_
        subst hQ
        exact e_i () hx hb hr hlocks hS hP hD (by rw [hs, show j = w by omega]) (Nat.le_of_ble_eq_true rfl) (Nat.le_of_ble_eq_true rfl) dX1_creditNow_33
      · refine lv_iload_n hx hb dX1_creditNow_12 rfl (lv_at hl 1 rfl) ?_
        refine lv_aload_n hx hb dX1_creditNow_13 rfl (lv_at hl 2 rfl) ?_
        refine gfM hx hb hts hin hown hK hP 2 (by decide) (List.mem_of_getElem? (i := 2) rfl) rfl rfl dX1_creditNow_14 ?_
        refine lv_aload_n hx hb dX1_creditNow_17 rfl (lv_at hl 2 rfl) ?_
        refine gfM hx hb hts hin hown hK hP 14 (by decide) (List.mem_of_getElem? (i := 3) rfl) rfl rfl dX1_creditNow_18 ?_
        refine lv_iload_n hx hb dX1_creditNow_21 rfl (lv_at hl 0 rfl) ?_
        refine n_iald hx hb hK hP 10 0 rfl rfl (by omega) (by decide) dX1_creditNow_22 ?_
        refine n_iald hx hb hK hP 1 0 rfl rfl (by have := hWK j (by omega); omega) (by decide) dX1_creditNow_23 ?_
        refine n_iadd hx hb dX1_creditNow_24 ?_
        refine lv_istore_n (lv' := [(1, .int (nI (su + (V (WK j))))), (2, .int (nI j)), (0, .ref (q 0))]) hx hb dX1_creditNow_25 rfl hl (by decide) rfl (fun ls hl => ?_)
        refine lv_iinc (v := nI (j + 1)) (lv' := [(2, .int (nI (j + 1))), (1, .int (nI (su + (V (WK j))))), (0, .ref (q 0))]) hx hb dX1_creditNow_26 hl (k := 1) rfl (ni_inc _ 1) (by decide) rfl (fun ls hl => ?_)
        refine lv_goto (tgt := 4) hx hb dX1_creditNow_29 (by decide) ?_
        exact ih_4 (j + 1) (su + (V (WK j))) (by omega) (by omega) (by rw [hs]; rfl) _ _ hP hD hS ls (lv_sub hl [0, 1, 2] rfl)
  exact lp_4 _ 0 0 (Nat.lt_succ_self _) (by omega) rfl _ _ hP hD hS ls (lv_sub hl [0, 1, 2] rfl)
theorem hd_X1_creditNow : yX1_creditNow.cls = RX1 ∧ yX1_creditNow.cls ≠ "java/lang/invoke/MethodHandle" ∧ yX1_creditNow.cls ≠ "java/lang/invoke/VarHandle" ∧ (parseMethodDescriptor yX1_creditNow.desc).map (fun d => d.parameters.length) = some 0 := by decide +kernel

set_option maxHeartbeats 4000000 in
set_option maxRecDepth 100000 in
theorem c_X1_cancel (l : Launch) (hst : l.stackTraces = false) (D : va_G) (q : Nat → Nat) (cI cZ cJ : ClassId) (th : Nat) (k : Nat) (V : Nat → Nat) (C : Nat → Nat) (A : Nat → Nat) (T : Nat → Nat) (B : Nat → Nat) (P : Nat → Nat) (OR : Nat → Nat) (n : Nat) (PR : Nat → Nat) (ST : Nat → Nat) (li : Nat) (w : Nat) (WK : Nat → Nat) (so : Nat) (sp : Nat) (CT : Nat → Int64) (FW : Nat → Nat) (sz : Nat) (hk8 : k ≤ 8) (hw12 : w ≤ 12) (hWK : ∀ j, j < w → WK j < k) (hV : ∀ i, i < k → 1 ≤ V i ∧ V i ≤ 500) : Met l yX1_cancel wsX1_cancel ({ frames := 1, cells := 0, slots := 0, locals := 22 }) (va_Pc [.ref (q 0)] (cxP D (ty3 cI cZ cJ) (wM q cI cZ cJ th k V C A T B P OR n PR ST li w WK so sp CT FW) sz)) (va_Qi (fun r (_ : Unit) => r = nI (cr V WK w)) (bW D (va_A (wM q cI cZ cJ th k V C A T B P OR n PR ST li w WK so sp CT FW) sz) (fun (_ : Unit) => (wM q cI cZ cJ 0 k V C A T B P OR n PR ST li 0 WK so sp (vp_updL CT 1 (CT 1 + lZ ((cr V WK w : Nat) : Int))) FW))) (va_A (wM q cI cZ cJ th k V C A T B P OR n PR ST li w WK so sp CT FW) sz)) 0 0 (va_A (wM q cI cZ cJ th k V C A T B P OR n PR ST li w WK so sp CT FW) sz) := by
  refine Met.ofW (cc := cX1_cancel) (maxL := 2) (ret := (some .int)) (by decide) rfl ?_
  intro p e s m args below meth c s₁ BB hml hv
  obtain ⟨hav, hsz, hP, hK, hD0, hZ, hg⟩ := hv
  subst hsz
  subst hav
  have hx := BB.exec
  have hb := BB.bytes
  have hr := BB.returns
  have hts := atoms_spec (ws := wsX1_cancel) BB.pre
  have hown : s.vm.findClass RX1 = some m.cls := findClass_of_methodNamed BB.named
  have hlocks := BB.notSynchronized
  have hin : ∀ w ∈ wsX10, w ∈ wsX1_cancel := fun w h => (List.mem_cons_of_mem _ (List.mem_append_right _ h))
  have hD := hD0.self (sz := s.heap.size)
  have hA : ∀ q9 : Nat, s.heap.size ≤ q9 → va_A (wM q cI cZ cJ th k V C A T B P OR n PR ST li w WK so sp CT FW) s.heap.size q9 := fun _ h => Or.inr h
  have hl := lv_entry ([.ref (q 0)]) (n := 2) (Nat.le_of_ble_eq_true rfl)
  rw [lg_entry_eq]
  generalize (lg_sl ([.ref (q 0)]) ++ List.replicate (2 - (lg_sl ([.ref (q 0)])).length) Slot.unset).toArray = ls at hl ⊢
  have hl : lv_has ls 2 [(0, .ref (q 0))] := hl
  refine W_absR (fun R hR => ?_)
  have hR : R = ({ frames := 1, cells := 0, slots := 0, locals := 22 } : Room) := hR
  refine W_absQ (fun Q hQ => ?_)
  generalize ([.ref (q 0)] : List Value).toArray = args at hts hQ ⊢
  generalize va_A (wM q cI cZ cJ th k V C A T B P OR n PR ST li w WK so sp CT FW) s.heap.size = A9 at hD hZ hA hQ
  refine W_start hP (A := A9) (fun H locs hP hS => ?_)
  refine lv_aload_n hx hb dX1_cancel_0 rfl (lv_at hl 0 rfl) ?_
  refine lv_iconst (v := nI 0) hx hb dX1_cancel_1 (ic_0) ?_
  refine pfM (ws' := (wM q cI cZ cJ 0 k V C A T B P OR n PR ST li w WK so sp CT FW)) hx hb hts hin hown hK hP hD hS 0 (by decide) (List.mem_of_getElem? (i := 1) rfl) rfl ⟨rfl, rfl⟩ rfl rfl dX1_cancel_2 (fun H locs hP hD hS => ?_)
  refine lv_aload_n hx hb dX1_cancel_5 rfl (lv_at hl 0 rfl) ?_
  refine k_i (va_runV (As := []) (rest := []) ⟨hx, hb, hml, hown, hts⟩ (c_X1_creditNow l hst D q cI cZ cJ 0 k V C A T B P OR n PR ST li w WK so sp CT FW H.size hk8 hw12 hWK hV) (cwV 0 hts gX1_cancel_X1_creditNow rfl rfl rfl hd_X1_creditNow ⟨(by rw [hR]; exact Nat.le_of_ble_eq_true rfl), (by rw [hR]; exact Nat.le_of_ble_eq_true rfl)⟩) (pre_V hP hK hD hS hA hZ hg 0 (ci := 1) rfl rfl) rfl rfl hl.1 rfl (lv_room (Nat.le_of_ble_eq_true rfl)) dX1_cancel_6 ⟨(by rw [hR]; exact Nat.le_of_ble_eq_true rfl), (by rw [hR]; exact Nat.le_of_ble_eq_true rfl)⟩) hD hS hA (fun r_2 u_1 H locs hp_3 hP hD hS => ?_)
  subst hp_3
  refine lv_istore_n (lv' := [(1, .int (nI (cr V WK w))), (0, .ref (q 0))]) hx hb dX1_cancel_9 rfl hl (by decide) rfl (fun ls hl => ?_)
  refine lv_aload_n hx hb dX1_cancel_10 rfl (lv_at hl 1 rfl) ?_
  refine lv_iconst (v := nI 0) hx hb dX1_cancel_11 (ic_0) ?_
  refine pfM (ws' := (wM q cI cZ cJ 0 k V C A T B P OR n PR ST li 0 WK so sp CT FW)) hx hb hts hin hown hK hP hD hS 13 (by decide) (List.mem_of_getElem? (i := 2) rfl) rfl ⟨rfl, rfl⟩ rfl rfl dX1_cancel_12 (fun H locs hP hD hS => ?_)
  refine lv_aload_n hx hb dX1_cancel_15 rfl (lv_at hl 1 rfl) ?_
  refine gfM hx hb hts hin hown hK hP 17 (by decide) (List.mem_of_getElem? (i := 3) rfl) rfl rfl dX1_cancel_16 ?_
  refine lv_iconst (v := nI 1) hx hb dX1_cancel_19 (ic_1) ?_
  refine lv_dup2_11 hx hb dX1_cancel_20 rfl rfl ?_
  refine n_lald hx hb hK hP 11 2 rfl rfl (by omega) (by decide) dX1_cancel_21 ?_
  refine lv_iload_n hx hb dX1_cancel_22 rfl (lv_at hl 0 rfl) ?_
  refine n_i2l hx hb (by have := cr_le hw12 hWK hV; omega) dX1_cancel_23 ?_
  refine lv_ladd hx hb dX1_cancel_24 ?_
  refine n_last (ws' := (wM q cI cZ cJ 0 k V C A T B P OR n PR ST li 0 WK so sp (vp_updL CT 1 ((CT 1) + (lZ ((cr V WK w : Nat) : Int)))) FW)) hx hb hK hP hD hS 11 2 rfl rfl (by omega) (by decide) rfl dX1_cancel_25 (fun H locs hP hD hS => ?_)
  refine lv_iload_n hx hb dX1_cancel_26 rfl (lv_at hl 0 rfl) ?_
  subst hQ
  exact e_i () hx hb hr hlocks hS hP hD rfl (Nat.le_of_ble_eq_true rfl) (Nat.le_of_ble_eq_true rfl) dX1_cancel_27
theorem hd_X1_cancel : yX1_cancel.cls = RX1 ∧ yX1_cancel.cls ≠ "java/lang/invoke/MethodHandle" ∧ yX1_cancel.cls ≠ "java/lang/invoke/VarHandle" ∧ (parseMethodDescriptor yX1_cancel.desc).map (fun d => d.parameters.length) = some 0 := by decide +kernel

set_option maxHeartbeats 4000000 in
set_option maxRecDepth 100000 in
theorem c_X1_credit (l : Launch) (hst : l.stackTraces = false) (D : va_G) (q : Nat → Nat) (cI cZ cJ : ClassId) (th : Nat) (k : Nat) (V : Nat → Nat) (C : Nat → Nat) (A : Nat → Nat) (T : Nat → Nat) (B : Nat → Nat) (P : Nat → Nat) (OR : Nat → Nat) (n : Nat) (PR : Nat → Nat) (ST : Nat → Nat) (li : Nat) (w : Nat) (WK : Nat → Nat) (so : Nat) (sp : Nat) (CT : Nat → Int64) (FW : Nat → Nat) (sz : Nat) (hk8 : k ≤ 8) (hw12 : w ≤ 12) (hWK : ∀ j, j < w → WK j < k) (hV : ∀ i, i < k → 1 ≤ V i ∧ V i ≤ 500) : Met l yX1_credit wsX1_credit ({ frames := 1, cells := 0, slots := 0, locals := 22 }) (va_Pc [.ref (q 0)] (cxP D (ty3 cI cZ cJ) (wM q cI cZ cJ th k V C A T B P OR n PR ST li w WK so sp CT FW) sz)) (va_Qi (fun r (_ : Unit) => r = nI (cr V WK w)) (bW D (va_A (wM q cI cZ cJ th k V C A T B P OR n PR ST li w WK so sp CT FW) sz) (fun (_ : Unit) => (wM q cI cZ cJ 0 k V C A T B P OR n PR ST li w WK so sp CT FW))) (va_A (wM q cI cZ cJ th k V C A T B P OR n PR ST li w WK so sp CT FW) sz)) 0 0 (va_A (wM q cI cZ cJ th k V C A T B P OR n PR ST li w WK so sp CT FW) sz) := by
  refine Met.ofW (cc := cX1_credit) (maxL := 1) (ret := (some .int)) (by decide) rfl ?_
  intro p e s m args below meth c s₁ BB hml hv
  obtain ⟨hav, hsz, hP, hK, hD0, hZ, hg⟩ := hv
  subst hsz
  subst hav
  have hx := BB.exec
  have hb := BB.bytes
  have hr := BB.returns
  have hts := atoms_spec (ws := wsX1_credit) BB.pre
  have hown : s.vm.findClass RX1 = some m.cls := findClass_of_methodNamed BB.named
  have hlocks := BB.notSynchronized
  have hin : ∀ w ∈ wsX10, w ∈ wsX1_credit := fun w h => (List.mem_cons_of_mem _ (List.mem_append_right _ h))
  have hD := hD0.self (sz := s.heap.size)
  have hA : ∀ q9 : Nat, s.heap.size ≤ q9 → va_A (wM q cI cZ cJ th k V C A T B P OR n PR ST li w WK so sp CT FW) s.heap.size q9 := fun _ h => Or.inr h
  have hl := lv_entry ([.ref (q 0)]) (n := 1) (Nat.le_of_ble_eq_true rfl)
  rw [lg_entry_eq]
  generalize (lg_sl ([.ref (q 0)]) ++ List.replicate (1 - (lg_sl ([.ref (q 0)])).length) Slot.unset).toArray = ls at hl ⊢
  have hl : lv_has ls 1 [(0, .ref (q 0))] := hl
  refine W_absR (fun R hR => ?_)
  have hR : R = ({ frames := 1, cells := 0, slots := 0, locals := 22 } : Room) := hR
  refine W_absQ (fun Q hQ => ?_)
  generalize ([.ref (q 0)] : List Value).toArray = args at hts hQ ⊢
  generalize va_A (wM q cI cZ cJ th k V C A T B P OR n PR ST li w WK so sp CT FW) s.heap.size = A9 at hD hZ hA hQ
  refine W_start hP (A := A9) (fun H locs hP hS => ?_)
  refine lv_aload_n hx hb dX1_credit_0 rfl (lv_at hl 0 rfl) ?_
  refine lv_iconst (v := nI 0) hx hb dX1_credit_1 (ic_0) ?_
  refine pfM (ws' := (wM q cI cZ cJ 0 k V C A T B P OR n PR ST li w WK so sp CT FW)) hx hb hts hin hown hK hP hD hS 0 (by decide) (List.mem_of_getElem? (i := 1) rfl) rfl ⟨rfl, rfl⟩ rfl rfl dX1_credit_2 (fun H locs hP hD hS => ?_)
  refine lv_aload_n hx hb dX1_credit_5 rfl (lv_at hl 0 rfl) ?_
  refine k_i (va_runV (As := []) (rest := []) ⟨hx, hb, hml, hown, hts⟩ (c_X1_creditNow l hst D q cI cZ cJ 0 k V C A T B P OR n PR ST li w WK so sp CT FW H.size hk8 hw12 hWK hV) (cwV 0 hts gX1_credit_X1_creditNow rfl rfl rfl hd_X1_creditNow ⟨(by rw [hR]; exact Nat.le_of_ble_eq_true rfl), (by rw [hR]; exact Nat.le_of_ble_eq_true rfl)⟩) (pre_V hP hK hD hS hA hZ hg 0 (ci := 1) rfl rfl) rfl rfl hl.1 rfl (lv_room (Nat.le_of_ble_eq_true rfl)) dX1_credit_6 ⟨(by rw [hR]; exact Nat.le_of_ble_eq_true rfl), (by rw [hR]; exact Nat.le_of_ble_eq_true rfl)⟩) hD hS hA (fun r_2 u_1 H locs hp_3 hP hD hS => ?_)
  subst hp_3
  subst hQ
  exact e_i () hx hb hr hlocks hS hP hD rfl (Nat.le_of_ble_eq_true rfl) (Nat.le_of_ble_eq_true rfl) dX1_credit_9
theorem hd_X1_credit : yX1_credit.cls = RX1 ∧ yX1_credit.cls ≠ "java/lang/invoke/MethodHandle" ∧ yX1_credit.cls ≠ "java/lang/invoke/VarHandle" ∧ (parseMethodDescriptor yX1_credit.desc).map (fun d => d.parameters.length) = some 0 := by decide +kernel

set_option maxHeartbeats 4000000 in
set_option maxRecDepth 100000 in
theorem c_X1_escrow (l : Launch) (hst : l.stackTraces = false) (D : va_G) (q : Nat → Nat) (cI cZ cJ : ClassId) (th : Nat) (k : Nat) (V : Nat → Nat) (C : Nat → Nat) (A : Nat → Nat) (T : Nat → Nat) (B : Nat → Nat) (P : Nat → Nat) (OR : Nat → Nat) (n : Nat) (PR : Nat → Nat) (ST : Nat → Nat) (li : Nat) (w : Nat) (WK : Nat → Nat) (so : Nat) (sp : Nat) (CT : Nat → Int64) (FW : Nat → Nat) (sz : Nat) (p0 : Int32) (hw12 : w ≤ 12) : Met l yX1_escrow wsX1_escrow ({ frames := 1, cells := 0, slots := 0, locals := 21 }) (va_Pc [.ref (q 0), .int p0] (cxP D (ty3 cI cZ cJ) (wM q cI cZ cJ th k V C A T B P OR n PR ST li w WK so sp CT FW) sz)) (va_Qi (fun r (u : Nat × Nat) => r = nI u.1 ∧ ((u.2 = 0 ∧ ∃ i, i < w ∧ p0 = nI i ∧ u.1 = WK i) ∨ (u.2 = 1 ∧ ¬ rg p0 0 w))) (bW D (va_A (wM q cI cZ cJ th k V C A T B P OR n PR ST li w WK so sp CT FW) sz) (fun u => (wM q cI cZ cJ u.2 k V C A T B P OR n PR ST li w WK so sp CT FW))) (va_A (wM q cI cZ cJ th k V C A T B P OR n PR ST li w WK so sp CT FW) sz)) 0 0 (va_A (wM q cI cZ cJ th k V C A T B P OR n PR ST li w WK so sp CT FW) sz) := by
  refine Met.ofW (cc := cX1_escrow) (maxL := 2) (ret := (some .int)) (by decide) rfl ?_
  intro p e s m args below meth c s₁ BB hml hv
  obtain ⟨hav, hsz, hP, hK, hD0, hZ, hg⟩ := hv
  subst hsz
  subst hav
  have hx := BB.exec
  have hb := BB.bytes
  have hr := BB.returns
  have hts := atoms_spec (ws := wsX1_escrow) BB.pre
  have hown : s.vm.findClass RX1 = some m.cls := findClass_of_methodNamed BB.named
  have hlocks := BB.notSynchronized
  have hin : ∀ w ∈ wsX10, w ∈ wsX1_escrow := fun w h => (List.mem_cons_of_mem _ (List.mem_append_right _ h))
  have hD := hD0.self (sz := s.heap.size)
  have hA : ∀ q9 : Nat, s.heap.size ≤ q9 → va_A (wM q cI cZ cJ th k V C A T B P OR n PR ST li w WK so sp CT FW) s.heap.size q9 := fun _ h => Or.inr h
  have hl := lv_entry ([.ref (q 0), .int p0]) (n := 2) (Nat.le_of_ble_eq_true rfl)
  rw [lg_entry_eq]
  generalize (lg_sl ([.ref (q 0), .int p0]) ++ List.replicate (2 - (lg_sl ([.ref (q 0), .int p0])).length) Slot.unset).toArray = ls at hl ⊢
  have hl : lv_has ls 2 [(0, .ref (q 0)), (1, .int p0)] := hl
  refine W_absR (fun R hR => ?_)
  have hR : R = ({ frames := 1, cells := 0, slots := 0, locals := 21 } : Room) := hR
  refine W_absQ (fun Q hQ => ?_)
  generalize ([.ref (q 0), .int p0] : List Value).toArray = args at hts hQ ⊢
  generalize va_A (wM q cI cZ cJ th k V C A T B P OR n PR ST li w WK so sp CT FW) s.heap.size = A9 at hD hZ hA hQ
  refine W_start hP (A := A9) (fun H locs hP hS => ?_)
  refine lv_aload_n hx hb dX1_escrow_0 rfl (lv_at hl 0 rfl) ?_
  refine lv_iconst (v := nI 0) hx hb dX1_escrow_1 (ic_0) ?_
  refine pfM (ws' := (wM q cI cZ cJ 0 k V C A T B P OR n PR ST li w WK so sp CT FW)) hx hb hts hin hown hK hP hD hS 0 (by decide) (List.mem_of_getElem? (i := 1) rfl) rfl ⟨rfl, rfl⟩ rfl rfl dX1_escrow_2 (fun H locs hP hD hS => ?_)
  refine lv_iload_n hx hb dX1_escrow_5 rfl (lv_at hl 1 rfl) ?_
  refine lv_if_lt (tgt := 26) hx hb dX1_escrow_6 (by decide) (fun c6 => ?_) (fun c6 => ?_)
  · have hno : ¬ rg p0 0 w := by rw [rg_iff (by omega)]; simp only [Int32.lt_iff_toInt_lt, Int32.le_iff_toInt_le, Int32.toInt_zero] at c6; omega
    refine lv_aload_n hx hb dX1_escrow_26 rfl (lv_at hl 0 rfl) ?_
    refine lv_iconst (v := nI 1) hx hb dX1_escrow_27 (ic_1) ?_
    refine k_i (va_runV (As := [.int (nI 1)]) (rest := []) ⟨hx, hb, hml, hown, hts⟩ (c_X1_fail l hst D q cI cZ cJ 0 k V C A T B P OR n PR ST li w WK so sp CT FW H.size 1) (cwV 1 hts gX1_escrow_X1_fail rfl rfl rfl hd_X1_fail ⟨(by rw [hR]; exact Nat.le_of_ble_eq_true rfl), (by rw [hR]; exact Nat.le_of_ble_eq_true rfl)⟩) (pre_V hP hK hD hS hA hZ hg 0 (ci := 1) rfl rfl) rfl rfl hl.1 rfl (lv_room (Nat.le_of_ble_eq_true rfl)) dX1_escrow_28 ⟨(by rw [hR]; exact Nat.le_of_ble_eq_true rfl), (by rw [hR]; exact Nat.le_of_ble_eq_true rfl)⟩) hD hS hA (fun r_2 u_1 H locs hp_3 hP hD hS => ?_)
    subst hp_3
    subst hQ
    exact e_i (0, 1) hx hb hr hlocks hS hP hD (⟨rfl, Or.inr ⟨rfl, hno⟩⟩) (Nat.le_of_ble_eq_true rfl) (Nat.le_of_ble_eq_true rfl) dX1_escrow_31
  · refine lv_iload_n hx hb dX1_escrow_9 rfl (lv_at hl 1 rfl) ?_
    refine lv_aload_n hx hb dX1_escrow_10 rfl (lv_at hl 0 rfl) ?_
    refine gfM hx hb hts hin hown hK hP 13 (by decide) (List.mem_of_getElem? (i := 2) rfl) rfl rfl dX1_escrow_11 ?_
    refine lv_icmp_ge (tgt := 26) hx hb dX1_escrow_14 (by decide) (fun c14 => ?_) (fun c14 => ?_)
    · have hno : ¬ rg p0 0 w := by rw [rg_iff (by omega)]; simp only [Int32.lt_iff_toInt_lt, Int32.le_iff_toInt_le, Int32.toInt_zero, nI_toInt (show w < 2 ^ 31 by omega)] at c14; omega
      refine lv_aload_n hx hb dX1_escrow_26 rfl (lv_at hl 0 rfl) ?_
      refine lv_iconst (v := nI 1) hx hb dX1_escrow_27 (ic_1) ?_
      refine k_i (va_runV (As := [.int (nI 1)]) (rest := []) ⟨hx, hb, hml, hown, hts⟩ (c_X1_fail l hst D q cI cZ cJ 0 k V C A T B P OR n PR ST li w WK so sp CT FW H.size 1) (cwV 1 hts gX1_escrow_X1_fail rfl rfl rfl hd_X1_fail ⟨(by rw [hR]; exact Nat.le_of_ble_eq_true rfl), (by rw [hR]; exact Nat.le_of_ble_eq_true rfl)⟩) (pre_V hP hK hD hS hA hZ hg 0 (ci := 1) rfl rfl) rfl rfl hl.1 rfl (lv_room (Nat.le_of_ble_eq_true rfl)) dX1_escrow_28 ⟨(by rw [hR]; exact Nat.le_of_ble_eq_true rfl), (by rw [hR]; exact Nat.le_of_ble_eq_true rfl)⟩) hD hS hA (fun r_5 u_4 H locs hp_6 hP hD hS => ?_)
      subst hp_6
      subst hQ
      exact e_i (0, 1) hx hb hr hlocks hS hP hD (⟨rfl, Or.inr ⟨rfl, hno⟩⟩) (Nat.le_of_ble_eq_true rfl) (Nat.le_of_ble_eq_true rfl) dX1_escrow_31
    · obtain ⟨j0, j0a, j0b, rfl⟩ : rg p0 0 w := by rw [rg_iff (by omega)]; simp only [Int32.lt_iff_toInt_lt, Int32.le_iff_toInt_le, Int32.toInt_zero, nI_toInt (show w < 2 ^ 31 by omega)] at c6 c14; omega
      refine lv_aload_n hx hb dX1_escrow_17 rfl (lv_at hl 0 rfl) ?_
      refine gfM hx hb hts hin hown hK hP 14 (by decide) (List.mem_of_getElem? (i := 3) rfl) rfl rfl dX1_escrow_18 ?_
      refine lv_iload_n hx hb dX1_escrow_21 rfl (lv_at hl 1 rfl) ?_
      refine n_iald hx hb hK hP 10 0 rfl rfl (by omega) (by decide) dX1_escrow_22 ?_
      refine lv_goto (tgt := 31) hx hb dX1_escrow_23 (by decide) ?_
      subst hQ
      exact e_i (WK j0, 0) hx hb hr hlocks hS hP hD (⟨rfl, Or.inl ⟨rfl, j0, j0b, rfl, rfl⟩⟩) (Nat.le_of_ble_eq_true rfl) (Nat.le_of_ble_eq_true rfl) dX1_escrow_31
theorem hd_X1_escrow : yX1_escrow.cls = RX1 ∧ yX1_escrow.cls ≠ "java/lang/invoke/MethodHandle" ∧ yX1_escrow.cls ≠ "java/lang/invoke/VarHandle" ∧ (parseMethodDescriptor yX1_escrow.desc).map (fun d => d.parameters.length) = some 1 := by decide +kernel

set_option maxHeartbeats 4000000 in
set_option maxRecDepth 100000 in
theorem c_X1_told (l : Launch) (hst : l.stackTraces = false) (D : va_G) (q : Nat → Nat) (cI cZ cJ : ClassId) (th : Nat) (k : Nat) (V : Nat → Nat) (C : Nat → Nat) (A : Nat → Nat) (T : Nat → Nat) (B : Nat → Nat) (P : Nat → Nat) (OR : Nat → Nat) (n : Nat) (PR : Nat → Nat) (ST : Nat → Nat) (li : Nat) (w : Nat) (WK : Nat → Nat) (so : Nat) (sp : Nat) (CT : Nat → Int64) (FW : Nat → Nat) (sz : Nat) (kd : Nat) (wh : Nat) (hk8 : k ≤ 8) (hkd : kd < 8) (hwh : wh < 4) : Met l yX1_told wsX1_told ({ frames := 0, cells := 0, slots := 0, locals := 0 }) (va_Pc [.ref (q 0), .int (nI kd), .int (nI wh)] (cxP D (ty3 cI cZ cJ) (wM q cI cZ cJ th k V C A T B P OR n PR ST li w WK so sp CT FW) sz)) (va_Qi (fun r (_ : Unit) => r = nI (tld V T B P kd wh)) (bW D (va_A (wM q cI cZ cJ th k V C A T B P OR n PR ST li w WK so sp CT FW) sz) (fun (_ : Unit) => (wM q cI cZ cJ th k V C A T B P OR n PR ST li w WK so sp CT FW))) (va_A (wM q cI cZ cJ th k V C A T B P OR n PR ST li w WK so sp CT FW) sz)) 0 0 (va_A (wM q cI cZ cJ th k V C A T B P OR n PR ST li w WK so sp CT FW) sz) := by
  refine Met.ofW (cc := cX1_told) (maxL := 3) (ret := (some .int)) (by decide) rfl ?_
  intro p e s m args below meth c s₁ BB hml hv
  obtain ⟨hav, hsz, hP, hK, hD0, hZ, hg⟩ := hv
  subst hsz
  subst hav
  have hx := BB.exec
  have hb := BB.bytes
  have hr := BB.returns
  have hts := atoms_spec (ws := wsX1_told) BB.pre
  have hown : s.vm.findClass RX1 = some m.cls := findClass_of_methodNamed BB.named
  have hlocks := BB.notSynchronized
  have hin : ∀ w ∈ wsX10, w ∈ wsX1_told := fun w h => (List.mem_cons_of_mem _ (List.mem_append_right _ h))
  have hD := hD0.self (sz := s.heap.size)
  have hA : ∀ q9 : Nat, s.heap.size ≤ q9 → va_A (wM q cI cZ cJ th k V C A T B P OR n PR ST li w WK so sp CT FW) s.heap.size q9 := fun _ h => Or.inr h
  have hl := lv_entry ([.ref (q 0), .int (nI kd), .int (nI wh)]) (n := 3) (Nat.le_of_ble_eq_true rfl)
  rw [lg_entry_eq]
  generalize (lg_sl ([.ref (q 0), .int (nI kd), .int (nI wh)]) ++ List.replicate (3 - (lg_sl ([.ref (q 0), .int (nI kd), .int (nI wh)])).length) Slot.unset).toArray = ls at hl ⊢
  have hl : lv_has ls 3 [(0, .ref (q 0)), (1, .int (nI kd)), (2, .int (nI wh))] := hl
  refine W_absR (fun R hR => ?_)
  have hR : R = ({ frames := 0, cells := 0, slots := 0, locals := 0 } : Room) := hR
  refine W_absQ (fun Q hQ => ?_)
  generalize ([.ref (q 0), .int (nI kd), .int (nI wh)] : List Value).toArray = args at hts hQ ⊢
  generalize va_A (wM q cI cZ cJ th k V C A T B P OR n PR ST li w WK so sp CT FW) s.heap.size = A9 at hD hZ hA hQ
  refine W_start hP (A := A9) (fun H locs hP hS => ?_)
  refine lv_iload_n hx hb dX1_told_0 rfl (lv_at hl 2 rfl) ?_
  refine n_if_ne (tgt := 13) hx hb (by omega) dX1_told_1 (by decide) (fun c1 => ?_) (fun c1 => ?_)
  · refine lv_iload_n hx hb dX1_told_13 rfl (lv_at hl 2 rfl) ?_
    refine lv_iconst (v := nI 1) hx hb dX1_told_14 (ic_1) ?_
    refine n_icmp_ne (tgt := 27) hx hb (by omega) (by omega) dX1_told_15 (by decide) (fun c15 => ?_) (fun c15 => ?_)
    · refine lv_iload_n hx hb dX1_told_27 rfl (lv_at hl 2 rfl) ?_
      refine lv_iconst (v := nI 2) hx hb dX1_told_28 (ic_2) ?_
      refine n_icmp_ne (tgt := 41) hx hb (by omega) (by omega) dX1_told_29 (by decide) (fun c29 => ?_) (fun c29 => ?_)
      · refine lv_aload_n hx hb dX1_told_41 rfl (lv_at hl 0 rfl) ?_
        refine gfM hx hb hts hin hown hK hP 7 (by decide) (List.mem_of_getElem? (i := 4) rfl) rfl rfl dX1_told_42 ?_
        refine lv_iload_n hx hb dX1_told_45 rfl (lv_at hl 1 rfl) ?_
        refine n_iald hx hb hK hP 6 0 rfl rfl (by omega) (by decide) dX1_told_46 ?_
        subst hQ
        exact e_i () hx hb hr hlocks hS hP hD (by unfold tld; rw [if_neg c1, if_neg c15, if_neg c29]) (Nat.le_of_ble_eq_true rfl) (Nat.le_of_ble_eq_true rfl) dX1_told_47
      · refine lv_aload_n hx hb dX1_told_32 rfl (lv_at hl 0 rfl) ?_
        refine gfM hx hb hts hin hown hK hP 6 (by decide) (List.mem_of_getElem? (i := 3) rfl) rfl rfl dX1_told_33 ?_
        refine lv_iload_n hx hb dX1_told_36 rfl (lv_at hl 1 rfl) ?_
        refine n_iald hx hb hK hP 5 0 rfl rfl (by omega) (by decide) dX1_told_37 ?_
        refine lv_goto (tgt := 47) hx hb dX1_told_38 (by decide) ?_
        subst hQ
        exact e_i () hx hb hr hlocks hS hP hD (by unfold tld; rw [if_neg c1, if_neg c15, if_pos c29]) (Nat.le_of_ble_eq_true rfl) (Nat.le_of_ble_eq_true rfl) dX1_told_47
    · refine lv_aload_n hx hb dX1_told_18 rfl (lv_at hl 0 rfl) ?_
      refine gfM hx hb hts hin hown hK hP 5 (by decide) (List.mem_of_getElem? (i := 2) rfl) rfl rfl dX1_told_19 ?_
      refine lv_iload_n hx hb dX1_told_22 rfl (lv_at hl 1 rfl) ?_
      refine n_iald hx hb hK hP 4 0 rfl rfl (by omega) (by decide) dX1_told_23 ?_
      refine lv_goto (tgt := 47) hx hb dX1_told_24 (by decide) ?_
      subst hQ
      exact e_i () hx hb hr hlocks hS hP hD (by unfold tld; rw [if_neg c1, if_pos c15]) (Nat.le_of_ble_eq_true rfl) (Nat.le_of_ble_eq_true rfl) dX1_told_47
  · refine lv_aload_n hx hb dX1_told_4 rfl (lv_at hl 0 rfl) ?_
    refine gfM hx hb hts hin hown hK hP 2 (by decide) (List.mem_of_getElem? (i := 1) rfl) rfl rfl dX1_told_5 ?_
    refine lv_iload_n hx hb dX1_told_8 rfl (lv_at hl 1 rfl) ?_
    refine n_iald hx hb hK hP 1 0 rfl rfl (by omega) (by decide) dX1_told_9 ?_
    refine lv_goto (tgt := 47) hx hb dX1_told_10 (by decide) ?_
    subst hQ
    exact e_i () hx hb hr hlocks hS hP hD (by unfold tld; rw [if_pos c1]) (Nat.le_of_ble_eq_true rfl) (Nat.le_of_ble_eq_true rfl) dX1_told_47
theorem hd_X1_told : yX1_told.cls = RX1 ∧ yX1_told.cls ≠ "java/lang/invoke/MethodHandle" ∧ yX1_told.cls ≠ "java/lang/invoke/VarHandle" ∧ (parseMethodDescriptor yX1_told.desc).map (fun d => d.parameters.length) = some 2 := by decide +kernel

set_option maxHeartbeats 4000000 in
set_option maxRecDepth 100000 in
theorem c_X1_coins (l : Launch) (hst : l.stackTraces = false) (D : va_G) (q : Nat → Nat) (cI cZ cJ : ClassId) (th : Nat) (k : Nat) (V : Nat → Nat) (C : Nat → Nat) (A : Nat → Nat) (T : Nat → Nat) (B : Nat → Nat) (P : Nat → Nat) (OR : Nat → Nat) (n : Nat) (PR : Nat → Nat) (ST : Nat → Nat) (li : Nat) (w : Nat) (WK : Nat → Nat) (so : Nat) (sp : Nat) (CT : Nat → Int64) (FW : Nat → Nat) (sz : Nat) (p0 : Int32) (p1 : Int32) (hk8 : k ≤ 8) : Met l yX1_coins wsX1_coins ({ frames := 1, cells := 0, slots := 0, locals := 22 }) (va_Pc [.ref (q 0), .int p0, .int p1] (cxP D (ty3 cI cZ cJ) (wM q cI cZ cJ th k V C A T B P OR n PR ST li w WK so sp CT FW) sz)) (va_Qi (fun r (u : Nat × Nat) => r = nI u.1 ∧ ((u.2 = 0 ∧ ∃ i j, i < k ∧ j < 4 ∧ p0 = nI i ∧ p1 = nI j ∧ u.1 = tld V T B P i j) ∨ (u.2 = 1 ∧ ¬ (rg p0 0 k ∧ rg p1 0 4)))) (bW D (va_A (wM q cI cZ cJ th k V C A T B P OR n PR ST li w WK so sp CT FW) sz) (fun u => (wM q cI cZ cJ u.2 k V C A T B P OR n PR ST li w WK so sp CT FW))) (va_A (wM q cI cZ cJ th k V C A T B P OR n PR ST li w WK so sp CT FW) sz)) 0 0 (va_A (wM q cI cZ cJ th k V C A T B P OR n PR ST li w WK so sp CT FW) sz) := by
  refine Met.ofW (cc := cX1_coins) (maxL := 3) (ret := (some .int)) (by decide) rfl ?_
  intro p e s m args below meth c s₁ BB hml hv
  obtain ⟨hav, hsz, hP, hK, hD0, hZ, hg⟩ := hv
  subst hsz
  subst hav
  have hx := BB.exec
  have hb := BB.bytes
  have hr := BB.returns
  have hts := atoms_spec (ws := wsX1_coins) BB.pre
  have hown : s.vm.findClass RX1 = some m.cls := findClass_of_methodNamed BB.named
  have hlocks := BB.notSynchronized
  have hin : ∀ w ∈ wsX10, w ∈ wsX1_coins := fun w h => (List.mem_cons_of_mem _ (List.mem_append_right _ h))
  have hD := hD0.self (sz := s.heap.size)
  have hA : ∀ q9 : Nat, s.heap.size ≤ q9 → va_A (wM q cI cZ cJ th k V C A T B P OR n PR ST li w WK so sp CT FW) s.heap.size q9 := fun _ h => Or.inr h
  have hl := lv_entry ([.ref (q 0), .int p0, .int p1]) (n := 3) (Nat.le_of_ble_eq_true rfl)
  rw [lg_entry_eq]
  generalize (lg_sl ([.ref (q 0), .int p0, .int p1]) ++ List.replicate (3 - (lg_sl ([.ref (q 0), .int p0, .int p1])).length) Slot.unset).toArray = ls at hl ⊢
  have hl : lv_has ls 3 [(0, .ref (q 0)), (1, .int p0), (2, .int p1)] := hl
  refine W_absR (fun R hR => ?_)
  have hR : R = ({ frames := 1, cells := 0, slots := 0, locals := 22 } : Room) := hR
  refine W_absQ (fun Q hQ => ?_)
  generalize ([.ref (q 0), .int p0, .int p1] : List Value).toArray = args at hts hQ ⊢
  generalize va_A (wM q cI cZ cJ th k V C A T B P OR n PR ST li w WK so sp CT FW) s.heap.size = A9 at hD hZ hA hQ
  refine W_start hP (A := A9) (fun H locs hP hS => ?_)
  refine lv_aload_n hx hb dX1_coins_0 rfl (lv_at hl 0 rfl) ?_
  refine lv_iconst (v := nI 0) hx hb dX1_coins_1 (ic_0) ?_
  refine pfM (ws' := (wM q cI cZ cJ 0 k V C A T B P OR n PR ST li w WK so sp CT FW)) hx hb hts hin hown hK hP hD hS 0 (by decide) (List.mem_of_getElem? (i := 1) rfl) rfl ⟨rfl, rfl⟩ rfl rfl dX1_coins_2 (fun H locs hP hD hS => ?_)
  refine lv_aload_n hx hb dX1_coins_5 rfl (lv_at hl 0 rfl) ?_
  refine lv_iload_n hx hb dX1_coins_6 rfl (lv_at hl 1 rfl) ?_
  refine k_i (va_runV (As := [.int p0]) (rest := []) ⟨hx, hb, hml, hown, hts⟩ (c_X1_isKind l hst D q cI cZ cJ 0 k V C A T B P OR n PR ST li w WK so sp CT FW H.size p0 hk8) (cwV 1 hts gX1_coins_X1_isKind rfl rfl rfl hd_X1_isKind ⟨(by rw [hR]; exact Nat.le_of_ble_eq_true rfl), (by rw [hR]; exact Nat.le_of_ble_eq_true rfl)⟩) (pre_V hP hK hD hS hA hZ hg 0 (ci := 1) rfl rfl) rfl rfl hl.1 rfl (lv_room (Nat.le_of_ble_eq_true rfl)) dX1_coins_7 ⟨(by rw [hR]; exact Nat.le_of_ble_eq_true rfl), (by rw [hR]; exact Nat.le_of_ble_eq_true rfl)⟩) hD hS hA (fun r_2 u_1 H locs hp_3 hP hD hS => ?_)
  subst hp_3
  refine n_if_eq (tgt := 31) hx hb (by have := b1_le (rg p0 0 k); omega) dX1_coins_10 (by decide) (fun c10 => ?_) (fun c10 => ?_)
  · have hno : ¬ (rg p0 0 k ∧ rg p1 0 4) := fun z => b1_no c10 z.1
    refine lv_aload_n hx hb dX1_coins_31 rfl (lv_at hl 0 rfl) ?_
    refine lv_iconst (v := nI 1) hx hb dX1_coins_32 (ic_1) ?_
    refine k_i (va_runV (As := [.int (nI 1)]) (rest := []) ⟨hx, hb, hml, hown, hts⟩ (c_X1_fail l hst D q cI cZ cJ 0 k V C A T B P OR n PR ST li w WK so sp CT FW H.size 1) (cwV 1 hts gX1_coins_X1_fail rfl rfl rfl hd_X1_fail ⟨(by rw [hR]; exact Nat.le_of_ble_eq_true rfl), (by rw [hR]; exact Nat.le_of_ble_eq_true rfl)⟩) (pre_V hP hK hD hS hA hZ hg 0 (ci := 1) rfl rfl) rfl rfl hl.1 rfl (lv_room (Nat.le_of_ble_eq_true rfl)) dX1_coins_33 ⟨(by rw [hR]; exact Nat.le_of_ble_eq_true rfl), (by rw [hR]; exact Nat.le_of_ble_eq_true rfl)⟩) hD hS hA (fun r_5 u_4 H locs hp_6 hP hD hS => ?_)
    subst hp_6
    subst hQ
    exact e_i (0, 1) hx hb hr hlocks hS hP hD (⟨rfl, Or.inr ⟨rfl, hno⟩⟩) (Nat.le_of_ble_eq_true rfl) (Nat.le_of_ble_eq_true rfl) dX1_coins_36
  · obtain ⟨j0, j0a, j0b, rfl⟩ := b1_of c10
    refine lv_iload_n hx hb dX1_coins_13 rfl (lv_at hl 2 rfl) ?_
    refine lv_if_lt (tgt := 31) hx hb dX1_coins_14 (by decide) (fun c14 => ?_) (fun c14 => ?_)
    · have hno : ¬ (rg (nI j0) 0 k ∧ rg p1 0 4) := fun z => (show ¬ rg p1 0 4 by rw [rg_iff (by omega)]; simp only [Int32.lt_iff_toInt_lt, Int32.le_iff_toInt_le, Int32.toInt_zero] at c14; omega) z.2
      refine lv_aload_n hx hb dX1_coins_31 rfl (lv_at hl 0 rfl) ?_
      refine lv_iconst (v := nI 1) hx hb dX1_coins_32 (ic_1) ?_
      refine k_i (va_runV (As := [.int (nI 1)]) (rest := []) ⟨hx, hb, hml, hown, hts⟩ (c_X1_fail l hst D q cI cZ cJ 0 k V C A T B P OR n PR ST li w WK so sp CT FW H.size 1) (cwV 1 hts gX1_coins_X1_fail rfl rfl rfl hd_X1_fail ⟨(by rw [hR]; exact Nat.le_of_ble_eq_true rfl), (by rw [hR]; exact Nat.le_of_ble_eq_true rfl)⟩) (pre_V hP hK hD hS hA hZ hg 0 (ci := 1) rfl rfl) rfl rfl hl.1 rfl (lv_room (Nat.le_of_ble_eq_true rfl)) dX1_coins_33 ⟨(by rw [hR]; exact Nat.le_of_ble_eq_true rfl), (by rw [hR]; exact Nat.le_of_ble_eq_true rfl)⟩) hD hS hA (fun r_8 u_7 H locs hp_9 hP hD hS => ?_)
      subst hp_9
      subst hQ
      exact e_i (0, 1) hx hb hr hlocks hS hP hD (⟨rfl, Or.inr ⟨rfl, hno⟩⟩) (Nat.le_of_ble_eq_true rfl) (Nat.le_of_ble_eq_true rfl) dX1_coins_36
    · refine lv_iload_n hx hb dX1_coins_17 rfl (lv_at hl 2 rfl) ?_
      refine lv_iconst (v := nI 3) hx hb dX1_coins_18 (ic_3) ?_
      refine lv_icmp_gt (tgt := 31) hx hb dX1_coins_19 (by decide) (fun c19 => ?_) (fun c19 => ?_)
      · have hno : ¬ (rg (nI j0) 0 k ∧ rg p1 0 4) := fun z => (show ¬ rg p1 0 4 by rw [rg_iff (by omega)]; simp only [Int32.lt_iff_toInt_lt, Int32.le_iff_toInt_le, Int32.toInt_zero, nI_toInt (show 3 < 2 ^ 31 by omega)] at c19; omega) z.2
        refine lv_aload_n hx hb dX1_coins_31 rfl (lv_at hl 0 rfl) ?_
        refine lv_iconst (v := nI 1) hx hb dX1_coins_32 (ic_1) ?_
        refine k_i (va_runV (As := [.int (nI 1)]) (rest := []) ⟨hx, hb, hml, hown, hts⟩ (c_X1_fail l hst D q cI cZ cJ 0 k V C A T B P OR n PR ST li w WK so sp CT FW H.size 1) (cwV 1 hts gX1_coins_X1_fail rfl rfl rfl hd_X1_fail ⟨(by rw [hR]; exact Nat.le_of_ble_eq_true rfl), (by rw [hR]; exact Nat.le_of_ble_eq_true rfl)⟩) (pre_V hP hK hD hS hA hZ hg 0 (ci := 1) rfl rfl) rfl rfl hl.1 rfl (lv_room (Nat.le_of_ble_eq_true rfl)) dX1_coins_33 ⟨(by rw [hR]; exact Nat.le_of_ble_eq_true rfl), (by rw [hR]; exact Nat.le_of_ble_eq_true rfl)⟩) hD hS hA (fun r_11 u_10 H locs hp_12 hP hD hS => ?_)
        subst hp_12
        subst hQ
        exact e_i (0, 1) hx hb hr hlocks hS hP hD (⟨rfl, Or.inr ⟨rfl, hno⟩⟩) (Nat.le_of_ble_eq_true rfl) (Nat.le_of_ble_eq_true rfl) dX1_coins_36
      · obtain ⟨j1, j1a, j1b, rfl⟩ : rg p1 0 4 := by rw [rg_iff (by omega)]; simp only [Int32.lt_iff_toInt_lt, Int32.le_iff_toInt_le, Int32.toInt_zero, nI_toInt (show 3 < 2 ^ 31 by omega)] at c14 c19; omega
        refine lv_aload_n hx hb dX1_coins_22 rfl (lv_at hl 0 rfl) ?_
        refine lv_iload_n hx hb dX1_coins_23 rfl (lv_at hl 1 rfl) ?_
        refine lv_iload_n hx hb dX1_coins_24 rfl (lv_at hl 2 rfl) ?_
        refine k_i (va_runV (As := [.int (nI j0), .int (nI j1)]) (rest := []) ⟨hx, hb, hml, hown, hts⟩ (c_X1_told l hst D q cI cZ cJ 0 k V C A T B P OR n PR ST li w WK so sp CT FW H.size j0 j1 hk8 (by omega) j1b) (cwV 2 hts gX1_coins_X1_told rfl rfl rfl hd_X1_told ⟨(by rw [hR]; exact Nat.le_of_ble_eq_true rfl), (by rw [hR]; exact Nat.le_of_ble_eq_true rfl)⟩) (pre_V hP hK hD hS hA hZ hg 0 (ci := 1) rfl rfl) rfl rfl hl.1 rfl (lv_room (Nat.le_of_ble_eq_true rfl)) dX1_coins_25 ⟨(by rw [hR]; exact Nat.le_of_ble_eq_true rfl), (by rw [hR]; exact Nat.le_of_ble_eq_true rfl)⟩) hD hS hA (fun r_14 u_13 H locs hp_15 hP hD hS => ?_)
        subst hp_15
        refine lv_goto (tgt := 36) hx hb dX1_coins_28 (by decide) ?_
        subst hQ
        exact e_i (tld V T B P j0 j1, 0) hx hb hr hlocks hS hP hD (⟨rfl, Or.inl ⟨rfl, j0, j1, j0b, j1b, rfl, rfl, rfl⟩⟩) (Nat.le_of_ble_eq_true rfl) (Nat.le_of_ble_eq_true rfl) dX1_coins_36
theorem hd_X1_coins : yX1_coins.cls = RX1 ∧ yX1_coins.cls ≠ "java/lang/invoke/MethodHandle" ∧ yX1_coins.cls ≠ "java/lang/invoke/VarHandle" ∧ (parseMethodDescriptor yX1_coins.desc).map (fun d => d.parameters.length) = some 2 := by decide +kernel

set_option maxHeartbeats 4000000 in
set_option maxRecDepth 100000 in
theorem c_X1_audit (l : Launch) (hst : l.stackTraces = false) (D : va_G) (q : Nat → Nat) (cI cZ cJ : ClassId) (th : Nat) (k : Nat) (V : Nat → Nat) (C : Nat → Nat) (A : Nat → Nat) (T : Nat → Nat) (B : Nat → Nat) (P : Nat → Nat) (OR : Nat → Nat) (n : Nat) (PR : Nat → Nat) (ST : Nat → Nat) (li : Nat) (w : Nat) (WK : Nat → Nat) (so : Nat) (sp : Nat) (CT : Nat → Int64) (FW : Nat → Nat) (sz : Nat) (p0 : Int32) : Met l yX1_audit wsX1_audit ({ frames := 0, cells := 0, slots := 0, locals := 0 }) (va_Pc [.ref (q 0), .int p0] (cxP D (ty3 cI cZ cJ) (wM q cI cZ cJ th k V C A T B P OR n PR ST li w WK so sp CT FW) sz)) (va_Ql (fun r (u : Int64 × Nat) => r = u.1 ∧ ((u.2 = 0 ∧ ∃ i, i < 10 ∧ p0 = nI i ∧ u.1 = CT i) ∨ (u.2 = 1 ∧ ¬ rg p0 0 10))) (bW D (va_A (wM q cI cZ cJ th k V C A T B P OR n PR ST li w WK so sp CT FW) sz) (fun u => (wM q cI cZ cJ u.2 k V C A T B P OR n PR ST li w WK so sp CT FW))) (va_A (wM q cI cZ cJ th k V C A T B P OR n PR ST li w WK so sp CT FW) sz)) 0 0 (va_A (wM q cI cZ cJ th k V C A T B P OR n PR ST li w WK so sp CT FW) sz) := by
  refine Met.ofW (cc := cX1_audit) (maxL := 2) (ret := (some .long)) (by decide) rfl ?_
  intro p e s m args below meth c s₁ BB hml hv
  obtain ⟨hav, hsz, hP, hK, hD0, hZ, hg⟩ := hv
  subst hsz
  subst hav
  have hx := BB.exec
  have hb := BB.bytes
  have hr := BB.returns
  have hts := atoms_spec (ws := wsX1_audit) BB.pre
  have hown : s.vm.findClass RX1 = some m.cls := findClass_of_methodNamed BB.named
  have hlocks := BB.notSynchronized
  have hin : ∀ w ∈ wsX10, w ∈ wsX1_audit := fun w h => (List.mem_cons_of_mem _ (List.mem_append_right _ h))
  have hD := hD0.self (sz := s.heap.size)
  have hA : ∀ q9 : Nat, s.heap.size ≤ q9 → va_A (wM q cI cZ cJ th k V C A T B P OR n PR ST li w WK so sp CT FW) s.heap.size q9 := fun _ h => Or.inr h
  have hl := lv_entry ([.ref (q 0), .int p0]) (n := 2) (Nat.le_of_ble_eq_true rfl)
  rw [lg_entry_eq]
  generalize (lg_sl ([.ref (q 0), .int p0]) ++ List.replicate (2 - (lg_sl ([.ref (q 0), .int p0])).length) Slot.unset).toArray = ls at hl ⊢
  have hl : lv_has ls 2 [(0, .ref (q 0)), (1, .int p0)] := hl
  refine W_absR (fun R hR => ?_)
  have hR : R = ({ frames := 0, cells := 0, slots := 0, locals := 0 } : Room) := hR
  refine W_absQ (fun Q hQ => ?_)
  generalize ([.ref (q 0), .int p0] : List Value).toArray = args at hts hQ ⊢
  generalize va_A (wM q cI cZ cJ th k V C A T B P OR n PR ST li w WK so sp CT FW) s.heap.size = A9 at hD hZ hA hQ
  refine W_start hP (A := A9) (fun H locs hP hS => ?_)
  refine lv_aload_n hx hb dX1_audit_0 rfl (lv_at hl 0 rfl) ?_
  refine lv_iload_n hx hb dX1_audit_1 rfl (lv_at hl 1 rfl) ?_
  refine lv_if_lt (tgt := 15) hx hb dX1_audit_2 (by decide) (fun c2 => ?_) (fun c2 => ?_)
  · have hno : ¬ rg p0 0 10 := by rw [rg_iff (by omega)]; simp only [Int32.lt_iff_toInt_lt, Int32.le_iff_toInt_le, Int32.toInt_zero] at c2; omega
    refine lv_iconst (v := nI 1) hx hb dX1_audit_15 (ic_1) ?_
    refine pfM (ws' := (wM q cI cZ cJ 1 k V C A T B P OR n PR ST li w WK so sp CT FW)) hx hb hts hin hown hK hP hD hS 0 (by decide) (List.mem_of_getElem? (i := 1) rfl) rfl ⟨rfl, rfl⟩ rfl rfl dX1_audit_16 (fun H locs hP hD hS => ?_)
    refine lv_aload_n hx hb dX1_audit_19 rfl (lv_at hl 0 rfl) ?_
    refine gfM hx hb hts hin hown hK hP 0 (by decide) (List.mem_of_getElem? (i := 1) rfl) rfl rfl dX1_audit_20 ?_
    refine n_if_ne (tgt := 35) hx hb (by decide) dX1_audit_23 (by decide) (fun c23 => ?_) (fun c23 => ?_)
    · refine lv_lconst (v := lZ 0) hx hb dX1_audit_35 (by decide) ?_
      subst hQ
      exact e_l (lZ 0, 1) hx hb hr hlocks hS hP hD (⟨rfl, Or.inr ⟨rfl, hno⟩⟩) (Nat.le_of_ble_eq_true rfl) (Nat.le_of_ble_eq_true rfl) dX1_audit_36
    · exact absurd c23 (by decide)
  · refine lv_iload_n hx hb dX1_audit_5 rfl (lv_at hl 1 rfl) ?_
    refine lv_bipush (v := nI 10) hx hb dX1_audit_6 (by decide) ?_
    refine lv_icmp_ge (tgt := 15) hx hb dX1_audit_8 (by decide) (fun c8 => ?_) (fun c8 => ?_)
    · have hno : ¬ rg p0 0 10 := by rw [rg_iff (by omega)]; simp only [Int32.lt_iff_toInt_lt, Int32.le_iff_toInt_le, Int32.toInt_zero, nI_toInt (show 10 < 2 ^ 31 by omega)] at c8; omega
      refine lv_iconst (v := nI 1) hx hb dX1_audit_15 (ic_1) ?_
      refine pfM (ws' := (wM q cI cZ cJ 1 k V C A T B P OR n PR ST li w WK so sp CT FW)) hx hb hts hin hown hK hP hD hS 0 (by decide) (List.mem_of_getElem? (i := 1) rfl) rfl ⟨rfl, rfl⟩ rfl rfl dX1_audit_16 (fun H locs hP hD hS => ?_)
      refine lv_aload_n hx hb dX1_audit_19 rfl (lv_at hl 0 rfl) ?_
      refine gfM hx hb hts hin hown hK hP 0 (by decide) (List.mem_of_getElem? (i := 1) rfl) rfl rfl dX1_audit_20 ?_
      refine n_if_ne (tgt := 35) hx hb (by decide) dX1_audit_23 (by decide) (fun c23 => ?_) (fun c23 => ?_)
      · refine lv_lconst (v := lZ 0) hx hb dX1_audit_35 (by decide) ?_
        subst hQ
        exact e_l (lZ 0, 1) hx hb hr hlocks hS hP hD (⟨rfl, Or.inr ⟨rfl, hno⟩⟩) (Nat.le_of_ble_eq_true rfl) (Nat.le_of_ble_eq_true rfl) dX1_audit_36
      · exact absurd c23 (by decide)
    · obtain ⟨j0, j0a, j0b, rfl⟩ : rg p0 0 10 := by rw [rg_iff (by omega)]; simp only [Int32.lt_iff_toInt_lt, Int32.le_iff_toInt_le, Int32.toInt_zero, nI_toInt (show 10 < 2 ^ 31 by omega)] at c2 c8; omega
      refine lv_iconst (v := nI 0) hx hb dX1_audit_11 (ic_0) ?_
      refine lv_goto (tgt := 16) hx hb dX1_audit_12 (by decide) ?_
      refine pfM (ws' := (wM q cI cZ cJ 0 k V C A T B P OR n PR ST li w WK so sp CT FW)) hx hb hts hin hown hK hP hD hS 0 (by decide) (List.mem_of_getElem? (i := 1) rfl) rfl ⟨rfl, rfl⟩ rfl rfl dX1_audit_16 (fun H locs hP hD hS => ?_)
      refine lv_aload_n hx hb dX1_audit_19 rfl (lv_at hl 0 rfl) ?_
      refine gfM hx hb hts hin hown hK hP 0 (by decide) (List.mem_of_getElem? (i := 1) rfl) rfl rfl dX1_audit_20 ?_
      refine n_if_ne (tgt := 35) hx hb (by decide) dX1_audit_23 (by decide) (fun c23 => ?_) (fun c23 => ?_)
      · exact absurd c23 (by decide)
      · refine lv_aload_n hx hb dX1_audit_26 rfl (lv_at hl 0 rfl) ?_
        refine gfM hx hb hts hin hown hK hP 17 (by decide) (List.mem_of_getElem? (i := 2) rfl) rfl rfl dX1_audit_27 ?_
        refine lv_iload_n hx hb dX1_audit_30 rfl (lv_at hl 1 rfl) ?_
        refine n_lald hx hb hK hP 11 2 rfl rfl (by omega) (by decide) dX1_audit_31 ?_
        refine lv_goto (tgt := 36) hx hb dX1_audit_32 (by decide) ?_
        subst hQ
        exact e_l (CT j0, 0) hx hb hr hlocks hS hP hD (⟨rfl, Or.inl ⟨rfl, j0, j0b, rfl, rfl⟩⟩) (Nat.le_of_ble_eq_true rfl) (Nat.le_of_ble_eq_true rfl) dX1_audit_36
theorem hd_X1_audit : yX1_audit.cls = RX1 ∧ yX1_audit.cls ≠ "java/lang/invoke/MethodHandle" ∧ yX1_audit.cls ≠ "java/lang/invoke/VarHandle" ∧ (parseMethodDescriptor yX1_audit.desc).map (fun d => d.parameters.length) = some 1 := by decide +kernel

set_option maxHeartbeats 4000000 in
set_option maxRecDepth 100000 in
theorem c_X1_exactShare (l : Launch) (hst : l.stackTraces = false) (D : va_G) (q : Nat → Nat) (cI cZ cJ : ClassId) (th : Nat) (k : Nat) (V : Nat → Nat) (C : Nat → Nat) (A : Nat → Nat) (T : Nat → Nat) (B : Nat → Nat) (P : Nat → Nat) (OR : Nat → Nat) (n : Nat) (PR : Nat → Nat) (ST : Nat → Nat) (li : Nat) (w : Nat) (WK : Nat → Nat) (so : Nat) (sp : Nat) (CT : Nat → Int64) (FW : Nat → Nat) (sz : Nat) : Met l yX1_exactShare wsX1_exactShare ({ frames := 0, cells := 0, slots := 0, locals := 0 }) (va_Pc [.ref (q 0)] (cxP D (ty3 cI cZ cJ) (wM q cI cZ cJ th k V C A T B P OR n PR ST li w WK so sp CT FW) sz)) (va_Qd (fun r (_ : Unit) => r = exs CT) (bW D (va_A (wM q cI cZ cJ th k V C A T B P OR n PR ST li w WK so sp CT FW) sz) (fun (_ : Unit) => (wM q cI cZ cJ 0 k V C A T B P OR n PR ST li w WK so sp CT FW))) (va_A (wM q cI cZ cJ th k V C A T B P OR n PR ST li w WK so sp CT FW) sz)) 0 0 (va_A (wM q cI cZ cJ th k V C A T B P OR n PR ST li w WK so sp CT FW) sz) := by
  refine Met.ofW (cc := cX1_exactShare) (maxL := 1) (ret := (some .double)) (by decide) rfl ?_
  intro p e s m args below meth c s₁ BB hml hv
  obtain ⟨hav, hsz, hP, hK, hD0, hZ, hg⟩ := hv
  subst hsz
  subst hav
  have hx := BB.exec
  have hb := BB.bytes
  have hr := BB.returns
  have hts := atoms_spec (ws := wsX1_exactShare) BB.pre
  have hown : s.vm.findClass RX1 = some m.cls := findClass_of_methodNamed BB.named
  have hlocks := BB.notSynchronized
  have hin : ∀ w ∈ wsX10, w ∈ wsX1_exactShare := fun w h => (List.mem_cons_of_mem _ (List.mem_append_right _ h))
  have hD := hD0.self (sz := s.heap.size)
  have hA : ∀ q9 : Nat, s.heap.size ≤ q9 → va_A (wM q cI cZ cJ th k V C A T B P OR n PR ST li w WK so sp CT FW) s.heap.size q9 := fun _ h => Or.inr h
  have hl := lv_entry ([.ref (q 0)]) (n := 1) (Nat.le_of_ble_eq_true rfl)
  rw [lg_entry_eq]
  generalize (lg_sl ([.ref (q 0)]) ++ List.replicate (1 - (lg_sl ([.ref (q 0)])).length) Slot.unset).toArray = ls at hl ⊢
  have hl : lv_has ls 1 [(0, .ref (q 0))] := hl
  refine W_absR (fun R hR => ?_)
  have hR : R = ({ frames := 0, cells := 0, slots := 0, locals := 0 } : Room) := hR
  refine W_absQ (fun Q hQ => ?_)
  generalize ([.ref (q 0)] : List Value).toArray = args at hts hQ ⊢
  generalize va_A (wM q cI cZ cJ th k V C A T B P OR n PR ST li w WK so sp CT FW) s.heap.size = A9 at hD hZ hA hQ
  refine W_start hP (A := A9) (fun H locs hP hS => ?_)
  refine lv_aload_n hx hb dX1_exactShare_0 rfl (lv_at hl 0 rfl) ?_
  refine lv_iconst (v := nI 0) hx hb dX1_exactShare_1 (ic_0) ?_
  refine pfM (ws' := (wM q cI cZ cJ 0 k V C A T B P OR n PR ST li w WK so sp CT FW)) hx hb hts hin hown hK hP hD hS 0 (by decide) (List.mem_of_getElem? (i := 1) rfl) rfl ⟨rfl, rfl⟩ rfl rfl dX1_exactShare_2 (fun H locs hP hD hS => ?_)
  refine lv_aload_n hx hb dX1_exactShare_5 rfl (lv_at hl 0 rfl) ?_
  refine gfM hx hb hts hin hown hK hP 17 (by decide) (List.mem_of_getElem? (i := 2) rfl) rfl rfl dX1_exactShare_6 ?_
  refine lv_bipush (v := nI 8) hx hb dX1_exactShare_9 (by decide) ?_
  refine n_lald hx hb hK hP 11 2 rfl rfl (by omega) (by decide) dX1_exactShare_11 ?_
  refine lv_lconst (v := lZ 0) hx hb dX1_exactShare_12 (by decide) ?_
  refine n_lcmp_ne (tgt := 21) hx hb dX1_exactShare_13 dX1_exactShare_14 (by decide) (fun c13 => ?_) (fun c13 => ?_)
  · refine lv_aload_n hx hb dX1_exactShare_21 rfl (lv_at hl 0 rfl) ?_
    refine gfM hx hb hts hin hown hK hP 17 (by decide) (List.mem_of_getElem? (i := 2) rfl) rfl rfl dX1_exactShare_22 ?_
    refine lv_bipush (v := nI 9) hx hb dX1_exactShare_25 (by decide) ?_
    refine n_lald hx hb hK hP 11 2 rfl rfl (by omega) (by decide) dX1_exactShare_27 ?_
    refine lv_l2d hx hb dX1_exactShare_28 ?_
    refine lv_aload_n hx hb dX1_exactShare_29 rfl (lv_at hl 0 rfl) ?_
    refine gfM hx hb hts hin hown hK hP 17 (by decide) (List.mem_of_getElem? (i := 2) rfl) rfl rfl dX1_exactShare_30 ?_
    refine lv_bipush (v := nI 8) hx hb dX1_exactShare_33 (by decide) ?_
    refine n_lald hx hb hK hP 11 2 rfl rfl (by omega) (by decide) dX1_exactShare_35 ?_
    refine lv_l2d hx hb dX1_exactShare_36 ?_
    refine lv_ddiv hx hb dX1_exactShare_37 (div_nn c13) ?_
    subst hQ
    exact e_d () hx hb hr hlocks hS hP hD ((if_neg c13).symm) (Nat.le_of_ble_eq_true rfl) (Nat.le_of_ble_eq_true rfl) dX1_exactShare_38
  · refine lv_dconst1 hx hb dX1_exactShare_17 ?_
    refine lv_goto (tgt := 38) hx hb dX1_exactShare_18 (by decide) ?_
    subst hQ
    exact e_d () hx hb hr hlocks hS hP hD ((if_pos c13).symm) (Nat.le_of_ble_eq_true rfl) (Nat.le_of_ble_eq_true rfl) dX1_exactShare_38
theorem hd_X1_exactShare : yX1_exactShare.cls = RX1 ∧ yX1_exactShare.cls ≠ "java/lang/invoke/MethodHandle" ∧ yX1_exactShare.cls ≠ "java/lang/invoke/VarHandle" ∧ (parseMethodDescriptor yX1_exactShare.desc).map (fun d => d.parameters.length) = some 0 := by decide +kernel

set_option maxHeartbeats 4000000 in
set_option maxRecDepth 100000 in
theorem c_X1_insert (l : Launch) (hst : l.stackTraces = false) (D : va_G) (q : Nat → Nat) (cI cZ cJ : ClassId) (th : Nat) (k : Nat) (V : Nat → Nat) (C : Nat → Nat) (A : Nat → Nat) (T : Nat → Nat) (B : Nat → Nat) (P : Nat → Nat) (OR : Nat → Nat) (n : Nat) (PR : Nat → Nat) (ST : Nat → Nat) (li : Nat) (w : Nat) (WK : Nat → Nat) (so : Nat) (sp : Nat) (CT : Nat → Int64) (FW : Nat → Nat) (sz : Nat) (p0 : Int32) (hk8 : k ≤ 8) (hV : ∀ i, i < k → 1 ≤ V i ∧ V i ≤ 500) (hA1 : ∀ i, i < k → A i ≤ 1) (hw12 : w ≤ 12) (hWK : ∀ j, j < w → WK j < k) (hli : li ≤ 2000) : Met l yX1_insert wsX1_insert ({ frames := 1, cells := 0, slots := 0, locals := 22 }) (va_Pc [.ref (q 0), .int p0] (cxP D (ty3 cI cZ cJ) (wM q cI cZ cJ th k V C A T B P OR n PR ST li w WK so sp CT FW) sz)) (va_Qi (fun r (u : Nat × Nat × Nat × (Nat → Nat) × (Nat → Int64)) => r = nI u.1 ∧ ((u.2.1 = 0 ∧ ∃ i, i < k ∧ p0 = nI i ∧ insP k V A li w WK CT i u.2.2.1 u.2.2.2.1 u.2.2.2.2 u.1) ∨ (u.2.1 = 1 ∧ ¬ rg p0 0 k ∧ u.2.2.1 = w ∧ u.2.2.2.1 = WK ∧ u.2.2.2.2 = CT))) (bW D (va_A (wM q cI cZ cJ th k V C A T B P OR n PR ST li w WK so sp CT FW) sz) (fun u => (wM q cI cZ cJ u.2.1 k V C A T B P OR n PR ST li u.2.2.1 u.2.2.2.1 so sp u.2.2.2.2 FW))) (va_A (wM q cI cZ cJ th k V C A T B P OR n PR ST li w WK so sp CT FW) sz)) 0 0 (va_A (wM q cI cZ cJ th k V C A T B P OR n PR ST li w WK so sp CT FW) sz) := by
  refine Met.ofW (cc := cX1_insert) (maxL := 2) (ret := (some .int)) (by decide) rfl ?_
  intro p e s m args below meth c s₁ BB hml hv
  obtain ⟨hav, hsz, hP, hK, hD0, hZ, hg⟩ := hv
  subst hsz
  subst hav
  have hx := BB.exec
  have hb := BB.bytes
  have hr := BB.returns
  have hts := atoms_spec (ws := wsX1_insert) BB.pre
  have hown : s.vm.findClass RX1 = some m.cls := findClass_of_methodNamed BB.named
  have hlocks := BB.notSynchronized
  have hin : ∀ w ∈ wsX10, w ∈ wsX1_insert := fun w h => (List.mem_cons_of_mem _ (List.mem_append_right _ h))
  have hD := hD0.self (sz := s.heap.size)
  have hA : ∀ q9 : Nat, s.heap.size ≤ q9 → va_A (wM q cI cZ cJ th k V C A T B P OR n PR ST li w WK so sp CT FW) s.heap.size q9 := fun _ h => Or.inr h
  have hl := lv_entry ([.ref (q 0), .int p0]) (n := 2) (Nat.le_of_ble_eq_true rfl)
  rw [lg_entry_eq]
  generalize (lg_sl ([.ref (q 0), .int p0]) ++ List.replicate (2 - (lg_sl ([.ref (q 0), .int p0])).length) Slot.unset).toArray = ls at hl ⊢
  have hl : lv_has ls 2 [(0, .ref (q 0)), (1, .int p0)] := hl
  refine W_absR (fun R hR => ?_)
  have hR : R = ({ frames := 1, cells := 0, slots := 0, locals := 22 } : Room) := hR
  refine W_absQ (fun Q hQ => ?_)
  generalize ([.ref (q 0), .int p0] : List Value).toArray = args at hts hQ ⊢
  generalize va_A (wM q cI cZ cJ th k V C A T B P OR n PR ST li w WK so sp CT FW) s.heap.size = A9 at hD hZ hA hQ
  refine W_start hP (A := A9) (fun H locs hP hS => ?_)
  refine lv_aload_n hx hb dX1_insert_0 rfl (lv_at hl 0 rfl) ?_
  refine lv_iconst (v := nI 0) hx hb dX1_insert_1 (ic_0) ?_
  refine pfM (ws' := (wM q cI cZ cJ 0 k V C A T B P OR n PR ST li w WK so sp CT FW)) hx hb hts hin hown hK hP hD hS 0 (by decide) (List.mem_of_getElem? (i := 1) rfl) rfl ⟨rfl, rfl⟩ rfl rfl dX1_insert_2 (fun H locs hP hD hS => ?_)
  refine lv_aload_n hx hb dX1_insert_5 rfl (lv_at hl 0 rfl) ?_
  refine lv_iload_n hx hb dX1_insert_6 rfl (lv_at hl 1 rfl) ?_
  refine k_i (va_runV (As := [.int p0]) (rest := []) ⟨hx, hb, hml, hown, hts⟩ (c_X1_isKind l hst D q cI cZ cJ 0 k V C A T B P OR n PR ST li w WK so sp CT FW H.size p0 hk8) (cwV 1 hts gX1_insert_X1_isKind rfl rfl rfl hd_X1_isKind ⟨(by rw [hR]; exact Nat.le_of_ble_eq_true rfl), (by rw [hR]; exact Nat.le_of_ble_eq_true rfl)⟩) (pre_V hP hK hD hS hA hZ hg 0 (ci := 1) rfl rfl) rfl rfl hl.1 rfl (lv_room (Nat.le_of_ble_eq_true rfl)) dX1_insert_7 ⟨(by rw [hR]; exact Nat.le_of_ble_eq_true rfl), (by rw [hR]; exact Nat.le_of_ble_eq_true rfl)⟩) hD hS hA (fun r_2 u_1 H locs hp_3 hP hD hS => ?_)
  subst hp_3
  refine n_if_ne (tgt := 19) hx hb (by have := b1_le (rg p0 0 k); omega) dX1_insert_10 (by decide) (fun c10 => ?_) (fun c10 => ?_)
  · obtain ⟨j0, j0a, j0b, rfl⟩ := b1_of c10
    refine lv_aload_n hx hb dX1_insert_19 rfl (lv_at hl 0 rfl) ?_
    refine gfM hx hb hts hin hown hK hP 4 (by decide) (List.mem_of_getElem? (i := 2) rfl) rfl rfl dX1_insert_20 ?_
    refine lv_iload_n hx hb dX1_insert_23 rfl (lv_at hl 1 rfl) ?_
    refine n_zald hx hb hK hP 3 1 rfl rfl (by omega) (by decide) dX1_insert_24 ?_
    refine n_if_ne (tgt := 30) hx hb (by have := hA1 j0 j0b; omega) dX1_insert_25 (by decide) (fun c25 => ?_) (fun c25 => ?_)
    · refine lv_aload_n hx hb dX1_insert_30 rfl (lv_at hl 0 rfl) ?_
      refine gfM hx hb hts hin hown hK hP 13 (by decide) (List.mem_of_getElem? (i := 3) rfl) rfl rfl dX1_insert_31 ?_
      refine lv_bipush (v := nI 12) hx hb dX1_insert_34 (by decide) ?_
      refine n_icmp_ne (tgt := 41) hx hb (by omega) (by omega) dX1_insert_36 (by decide) (fun c36 => ?_) (fun c36 => ?_)
      · refine lv_aload_n hx hb dX1_insert_41 rfl (lv_at hl 0 rfl) ?_
        refine k_i (va_runV (As := []) (rest := []) ⟨hx, hb, hml, hown, hts⟩ (c_X1_creditNow l hst D q cI cZ cJ 0 k V C A T B P OR n PR ST li w WK so sp CT FW H.size hk8 hw12 hWK hV) (cwV 0 hts gX1_insert_X1_creditNow rfl rfl rfl hd_X1_creditNow ⟨(by rw [hR]; exact Nat.le_of_ble_eq_true rfl), (by rw [hR]; exact Nat.le_of_ble_eq_true rfl)⟩) (pre_V hP hK hD hS hA hZ hg 0 (ci := 1) rfl rfl) rfl rfl hl.1 rfl (lv_room (Nat.le_of_ble_eq_true rfl)) dX1_insert_42 ⟨(by rw [hR]; exact Nat.le_of_ble_eq_true rfl), (by rw [hR]; exact Nat.le_of_ble_eq_true rfl)⟩) hD hS hA (fun r_5 u_4 H locs hp_6 hP hD hS => ?_)
        subst hp_6
        have hcl := cr_le hw12 hWK hV
        refine lv_aload_n hx hb dX1_insert_45 rfl (lv_at hl 0 rfl) ?_
        refine gfM hx hb hts hin hown hK hP 2 (by decide) (List.mem_of_getElem? (i := 4) rfl) rfl rfl dX1_insert_46 ?_
        refine lv_iload_n hx hb dX1_insert_49 rfl (lv_at hl 1 rfl) ?_
        refine n_iald hx hb hK hP 1 0 rfl rfl (by omega) (by decide) dX1_insert_50 ?_
        refine n_iadd hx hb dX1_insert_51 ?_
        refine lv_aload_n hx hb dX1_insert_52 rfl (lv_at hl 0 rfl) ?_
        refine gfM hx hb hts hin hown hK hP 12 (by decide) (List.mem_of_getElem? (i := 5) rfl) rfl rfl dX1_insert_53 ?_
        refine n_icmp_le (tgt := 61) hx hb (by have := hV j0 j0b; omega) (by omega) dX1_insert_56 (by decide) (fun c56 => ?_) (fun c56 => ?_)
        · refine lv_aload_n hx hb dX1_insert_61 rfl (lv_at hl 0 rfl) ?_
          refine gfM hx hb hts hin hown hK hP 14 (by decide) (List.mem_of_getElem? (i := 6) rfl) rfl rfl dX1_insert_62 ?_
          refine lv_aload_n hx hb dX1_insert_65 rfl (lv_at hl 0 rfl) ?_
          refine gfM hx hb hts hin hown hK hP 13 (by decide) (List.mem_of_getElem? (i := 3) rfl) rfl rfl dX1_insert_66 ?_
          refine lv_iload_n hx hb dX1_insert_69 rfl (lv_at hl 1 rfl) ?_
          refine n_iast (ws' := (wM q cI cZ cJ 0 k V C A T B P OR n PR ST li w (un WK w j0) so sp CT FW)) hx hb hK hP hD hS 10 0 rfl rfl (by omega) (by decide) rfl dX1_insert_70 (fun H locs hP hD hS => ?_)
          refine lv_aload_n hx hb dX1_insert_71 rfl (lv_at hl 0 rfl) ?_
          refine lv_dup hx hb dX1_insert_72 rfl ?_
          refine gfM hx hb hts hin hown hK hP 13 (by decide) (List.mem_of_getElem? (i := 3) rfl) rfl rfl dX1_insert_73 ?_
          refine lv_iconst (v := nI 1) hx hb dX1_insert_76 (ic_1) ?_
          refine n_iadd hx hb dX1_insert_77 ?_
          refine pfM (ws' := (wM q cI cZ cJ 0 k V C A T B P OR n PR ST li (w + 1) (un WK w j0) so sp CT FW)) hx hb hts hin hown hK hP hD hS 13 (by decide) (List.mem_of_getElem? (i := 3) rfl) rfl ⟨rfl, rfl⟩ rfl rfl dX1_insert_78 (fun H locs hP hD hS => ?_)
          refine lv_aload_n hx hb dX1_insert_81 rfl (lv_at hl 0 rfl) ?_
          refine gfM hx hb hts hin hown hK hP 17 (by decide) (List.mem_of_getElem? (i := 7) rfl) rfl rfl dX1_insert_82 ?_
          refine lv_iconst (v := nI 0) hx hb dX1_insert_85 (ic_0) ?_
          refine lv_dup2_11 hx hb dX1_insert_86 rfl rfl ?_
          refine n_lald hx hb hK hP 11 2 rfl rfl (by omega) (by decide) dX1_insert_87 ?_
          refine lv_aload_n hx hb dX1_insert_88 rfl (lv_at hl 0 rfl) ?_
          refine gfM hx hb hts hin hown hK hP 2 (by decide) (List.mem_of_getElem? (i := 4) rfl) rfl rfl dX1_insert_89 ?_
          refine lv_iload_n hx hb dX1_insert_92 rfl (lv_at hl 1 rfl) ?_
          refine n_iald hx hb hK hP 1 0 rfl rfl (by omega) (by decide) dX1_insert_93 ?_
          refine n_i2l hx hb (by have := hV j0 j0b; omega) dX1_insert_94 ?_
          refine lv_ladd hx hb dX1_insert_95 ?_
          refine n_last (ws' := (wM q cI cZ cJ 0 k V C A T B P OR n PR ST li (w + 1) (un WK w j0) so sp (vp_updL CT 0 ((CT 0) + (lZ ((V j0 : Nat) : Int)))) FW)) hx hb hK hP hD hS 11 2 rfl rfl (by omega) (by decide) rfl dX1_insert_96 (fun H locs hP hD hS => ?_)
          refine lv_iconst (v := nI 0) hx hb dX1_insert_97 (ic_0) ?_
          subst hQ
          exact e_i (0, 0, w + 1, un WK w j0, vp_updL CT 0 ((CT 0) + (lZ ((V j0 : Nat) : Int)))) hx hb hr hlocks hS hP hD (⟨rfl, Or.inl ⟨rfl, j0, j0b, rfl, Or.inr (Or.inr (Or.inr ⟨c25, by omega, c56, rfl, rfl, rfl, rfl⟩))⟩⟩) (Nat.le_of_ble_eq_true rfl) (Nat.le_of_ble_eq_true rfl) dX1_insert_98
        · refine lv_iconst (v := nI 3) hx hb dX1_insert_59 (ic_3) ?_
          subst hQ
          exact e_i (3, 0, w, WK, CT) hx hb hr hlocks hS hP hD (⟨rfl, Or.inl ⟨rfl, j0, j0b, rfl, Or.inr (Or.inr (Or.inl ⟨c25, by omega, c56, rfl, rfl, rfl, rfl⟩))⟩⟩) (Nat.le_of_ble_eq_true rfl) (Nat.le_of_ble_eq_true rfl) dX1_insert_60
      · refine lv_iconst (v := nI 2) hx hb dX1_insert_39 (ic_2) ?_
        subst hQ
        exact e_i (2, 0, w, WK, CT) hx hb hr hlocks hS hP hD (⟨rfl, Or.inl ⟨rfl, j0, j0b, rfl, Or.inr (Or.inl ⟨c25, by omega, rfl, rfl, rfl, rfl⟩)⟩⟩) (Nat.le_of_ble_eq_true rfl) (Nat.le_of_ble_eq_true rfl) dX1_insert_40
    · refine lv_iconst (v := nI 1) hx hb dX1_insert_28 (ic_1) ?_
      subst hQ
      exact e_i (1, 0, w, WK, CT) hx hb hr hlocks hS hP hD (⟨rfl, Or.inl ⟨rfl, j0, j0b, rfl, Or.inl ⟨c25, rfl, rfl, rfl, rfl⟩⟩⟩) (Nat.le_of_ble_eq_true rfl) (Nat.le_of_ble_eq_true rfl) dX1_insert_29
  · refine lv_aload_n hx hb dX1_insert_13 rfl (lv_at hl 0 rfl) ?_
    refine lv_iconst (v := nI 1) hx hb dX1_insert_14 (ic_1) ?_
    refine k_i (va_runV (As := [.int (nI 1)]) (rest := []) ⟨hx, hb, hml, hown, hts⟩ (c_X1_fail l hst D q cI cZ cJ 0 k V C A T B P OR n PR ST li w WK so sp CT FW H.size 1) (cwV 1 hts gX1_insert_X1_fail rfl rfl rfl hd_X1_fail ⟨(by rw [hR]; exact Nat.le_of_ble_eq_true rfl), (by rw [hR]; exact Nat.le_of_ble_eq_true rfl)⟩) (pre_V hP hK hD hS hA hZ hg 0 (ci := 1) rfl rfl) rfl rfl hl.1 rfl (lv_room (Nat.le_of_ble_eq_true rfl)) dX1_insert_15 ⟨(by rw [hR]; exact Nat.le_of_ble_eq_true rfl), (by rw [hR]; exact Nat.le_of_ble_eq_true rfl)⟩) hD hS hA (fun r_8 u_7 H locs hp_9 hP hD hS => ?_)
    subst hp_9
    subst hQ
    exact e_i (0, 1, w, WK, CT) hx hb hr hlocks hS hP hD (⟨rfl, Or.inr ⟨rfl, b1_no c10, rfl, rfl, rfl⟩⟩) (Nat.le_of_ble_eq_true rfl) (Nat.le_of_ble_eq_true rfl) dX1_insert_18
theorem hd_X1_insert : yX1_insert.cls = RX1 ∧ yX1_insert.cls ≠ "java/lang/invoke/MethodHandle" ∧ yX1_insert.cls ≠ "java/lang/invoke/VarHandle" ∧ (parseMethodDescriptor yX1_insert.desc).map (fun d => d.parameters.length) = some 1 := by decide +kernel
