set_option maxHeartbeats 4000000 in
set_option maxRecDepth 100000 in
theorem c_L_below (l : Launch) (hst : l.stackTraces = false) (D : va_G) (q : Nat → Nat) (cI cZ cJ : ClassId) (k : Nat) (V : Nat → Nat) (C : Nat → Nat) (T : Nat → Nat) (B : Nat → Nat) (P : Nat → Nat) (A : Nat → Nat) (n : Nat) (PR : Nat → Nat) (ST : Nat → Nat) (li : Nat) (w : Nat) (WK : Nat → Nat) (so : Nat) (sp : Nat) (CT : Nat → Int64) (SC : Nat → Int) (TA : Nat → Nat) (sz : Nat) (v : Int32) (nn : Nat) (hnn : 1 ≤ nn ∧ nn < 2147483648) : Met l yL_below wsL_below ({ frames := 0, cells := 0, slots := 0, locals := 0 }) (va_Pc [.int v, .int (nI nn)] (cxP D (ty3 cI cZ cJ) (wX q cI cZ cJ k V C T B P A n PR ST li w WK so sp CT SC TA) sz)) (va_Qi (fun r (u : Nat) => r = nI u ∧ u < nn) (bW D (va_A (wX q cI cZ cJ k V C T B P A n PR ST li w WK so sp CT SC TA) sz) (fun u => (wX q cI cZ cJ k V C T B P A n PR ST li w WK so sp CT SC TA))) (va_A (wX q cI cZ cJ k V C T B P A n PR ST li w WK so sp CT SC TA) sz)) 0 0 (va_A (wX q cI cZ cJ k V C T B P A n PR ST li w WK so sp CT SC TA) sz) := by
  refine Met.ofW (cc := cL_below) (maxL := 2) (ret := (some .int)) (by decide) rfl ?_
  intro p e s m args below meth c s₁ BB hml hv
  obtain ⟨hav, hsz, hP, hK, hD0, hZ, hg⟩ := hv
  subst hsz
  subst hav
  have hx := BB.exec
  have hb := BB.bytes
  have hr := BB.returns
  have hts := atoms_spec (ws := wsL_below) BB.pre
  have hown : s.vm.findClass RL = some m.cls := findClass_of_methodNamed BB.named
  have hlocks := BB.notSynchronized
  have hD := hD0.self (sz := s.heap.size)
  have hA : ∀ q9 : Nat, s.heap.size ≤ q9 → va_A (wX q cI cZ cJ k V C T B P A n PR ST li w WK so sp CT SC TA) s.heap.size q9 := fun _ h => Or.inr h
  have hl := lv_entry ([.int v, .int (nI nn)]) (n := 2) (Nat.le_of_ble_eq_true rfl)
  rw [lg_entry_eq]
  generalize (lg_sl ([.int v, .int (nI nn)]) ++ List.replicate (2 - (lg_sl ([.int v, .int (nI nn)])).length) Slot.unset).toArray = ls at hl ⊢
  have hl : lv_has ls 2 [(0, .int v), (1, .int (nI nn))] := hl
  refine W_absR (fun R hR => ?_)
  have hR : R = ({ frames := 0, cells := 0, slots := 0, locals := 0 } : Room) := hR
  refine W_absQ (fun Q hQ => ?_)
  generalize ([.int v, .int (nI nn)] : List Value).toArray = args at hts hQ ⊢
  generalize va_A (wX q cI cZ cJ k V C T B P A n PR ST li w WK so sp CT SC TA) s.heap.size = A9 at hD hZ hA hQ
  refine W_start hP (A := A9) (fun H locs hP hS => ?_)
  refine lv_iload_n hx hb dL_below_0 rfl (lv_at hl 0 rfl) ?_
  refine lv_ldc (v := 2147483647) hx hb hown (hts _ (List.mem_of_getElem? (i := 1) rfl)) dL_below_1 ?_
  refine n_top (show (2147483647 : Int32) = nI 2147483647 from by decide) ?_
  refine lv_iand hx hb dL_below_3 ?_
  obtain ⟨d0, hd0, e0⟩ := mask_31 v
  refine n_top e0 ?_
  refine lv_iload_n hx hb dL_below_4 rfl (lv_at hl 1 rfl) ?_
  refine n_irem hx hb hd0 hnn.1 hnn.2 dL_below_5 ?_
  subst hQ
  exact e_i (d0 % nn) hx hb hr hlocks hS hP hD (⟨rfl, Nat.mod_lt _ hnn.1⟩) (Nat.le_of_ble_eq_true rfl) (Nat.le_of_ble_eq_true rfl) dL_below_6
theorem hd_L_below : yL_below.cls = RL ∧ yL_below.cls ≠ "java/lang/invoke/MethodHandle" ∧ yL_below.cls ≠ "java/lang/invoke/VarHandle" ∧ (parseMethodDescriptor yL_below.desc).map (fun d => d.parameters.length) = some 2 := by decide +kernel

set_option maxHeartbeats 4000000 in
set_option maxRecDepth 100000 in
theorem c_L_cell (l : Launch) (hst : l.stackTraces = false) (D : va_G) (q : Nat → Nat) (cI cZ cJ : ClassId) (k : Nat) (V : Nat → Nat) (C : Nat → Nat) (T : Nat → Nat) (B : Nat → Nat) (P : Nat → Nat) (A : Nat → Nat) (n : Nat) (PR : Nat → Nat) (ST : Nat → Nat) (li : Nat) (w : Nat) (WK : Nat → Nat) (so : Nat) (sp : Nat) (CT : Nat → Int64) (SC : Nat → Int) (TA : Nat → Nat) (sz : Nat) (b : Nat) (L : Nat) (xs : Nat → Int32) (kd : Nat) (hkd : kd < 2147483648) (hL : L ≤ 260) : Met l yL_cell wsL_cell ({ frames := 0, cells := 0, slots := 0, locals := 0 }) (va_Pc [.ref b, .int (nI kd)] (cxS D (ty3 cI cZ cJ) (wX q cI cZ cJ k V C T B P A n PR ST li w WK so sp CT SC TA) sz b L xs)) (va_Qi (fun r (u : Int32) => r = u) (bW D (va_A (wX q cI cZ cJ k V C T B P A n PR ST li w WK so sp CT SC TA) sz) (fun u => (wX q cI cZ cJ k V C T B P A n PR ST li w WK so sp CT SC TA))) (va_A (wX q cI cZ cJ k V C T B P A n PR ST li w WK so sp CT SC TA) sz)) 0 0 (va_A (wX q cI cZ cJ k V C T B P A n PR ST li w WK so sp CT SC TA) sz) := by
  refine Met.ofW (cc := cL_cell) (maxL := 2) (ret := (some .int)) (by decide) rfl ?_
  intro p e s m args below meth c s₁ BB hml hv
  obtain ⟨hav, ⟨hsz, hP, hK, hD0, hZ, hg⟩, hX, hbl, hbA⟩ := hv
  subst hsz
  subst hav
  have hx := BB.exec
  have hb := BB.bytes
  have hr := BB.returns
  have hts := atoms_spec (ws := wsL_cell) BB.pre
  have hown : s.vm.findClass RL = some m.cls := findClass_of_methodNamed BB.named
  have hlocks := BB.notSynchronized
  have hD := hD0.self (sz := s.heap.size)
  have hA : ∀ q9 : Nat, s.heap.size ≤ q9 → va_A (wX q cI cZ cJ k V C T B P A n PR ST li w WK so sp CT SC TA) s.heap.size q9 := fun _ h => Or.inr h
  have hl := lv_entry ([.ref b, .int (nI kd)]) (n := 2) (Nat.le_of_ble_eq_true rfl)
  rw [lg_entry_eq]
  generalize (lg_sl ([.ref b, .int (nI kd)]) ++ List.replicate (2 - (lg_sl ([.ref b, .int (nI kd)])).length) Slot.unset).toArray = ls at hl ⊢
  have hl : lv_has ls 2 [(0, .ref b), (1, .int (nI kd))] := hl
  refine W_absR (fun R hR => ?_)
  have hR : R = ({ frames := 0, cells := 0, slots := 0, locals := 0 } : Room) := hR
  refine W_absQ (fun Q hQ => ?_)
  generalize ([.ref b, .int (nI kd)] : List Value).toArray = args at hts hQ ⊢
  generalize va_A (wX q cI cZ cJ k V C T B P A n PR ST li w WK so sp CT SC TA) s.heap.size = A9 at hD hZ hA hQ hbA
  refine W_start hP (A := A9) (fun H locs hP hS => ?_)
  refine lv_iload_n hx hb dL_cell_0 rfl (lv_at hl 1 rfl) ?_
  refine lv_aload_n hx hb dL_cell_1 rfl (lv_at hl 0 rfl) ?_
  refine n_slen hx hb hX hbl hbA hS dL_cell_2 ?_
  refine n_icmp_ge (tgt := 12) hx hb hkd (by omega) dL_cell_3 (by decide) (fun c3 => ?_) (fun c3 => ?_)
  · refine lv_ldc (v := 790386105) hx hb hown (hts _ (List.mem_of_getElem? (i := 1) rfl)) dL_cell_12 ?_
    refine n_top (show (790386105 : Int32) = nI 790386105 from by decide) ?_
    refine lv_iload_n hx hb dL_cell_14 rfl (lv_at hl 1 rfl) ?_
    refine lv_iconst (v := nI 3) hx hb dL_cell_15 (ic_3) ?_
    refine n_iadd hx hb dL_cell_16 ?_
    refine n_imul hx hb dL_cell_17 ?_
    subst hQ
    exact e_i (nI (790386105 * (kd + 3))) hx hb hr hlocks hS hP hD rfl (Nat.le_of_ble_eq_true rfl) (Nat.le_of_ble_eq_true rfl) dL_cell_18
  · refine lv_aload_n hx hb dL_cell_6 rfl (lv_at hl 0 rfl) ?_
    refine lv_iload_n hx hb dL_cell_7 rfl (lv_at hl 1 rfl) ?_
    refine n_sld hx hb hX hbl hbA hS c3 (by omega) dL_cell_8 ?_
    refine lv_goto (tgt := 18) hx hb dL_cell_9 (by decide) ?_
    subst hQ
    exact e_i (xs kd) hx hb hr hlocks hS hP hD rfl (Nat.le_of_ble_eq_true rfl) (Nat.le_of_ble_eq_true rfl) dL_cell_18
theorem hd_L_cell : yL_cell.cls = RL ∧ yL_cell.cls ≠ "java/lang/invoke/MethodHandle" ∧ yL_cell.cls ≠ "java/lang/invoke/VarHandle" ∧ (parseMethodDescriptor yL_cell.desc).map (fun d => d.parameters.length) = some 2 := by decide +kernel

/-- whether a value is new among the first i; isn is 0 or 1 -/
def isNw (V : Nat → Nat) (vl i isn : Nat) : Prop := (isn = 1 → ∀ j, j < i → V j ≠ vl) ∧ (isn = 0 → ∃ j, j < i ∧ V j = vl)
theorem isNw_0 (V : Nat → Nat) (vl : Nat) : isNw V vl 0 1 := ⟨fun _ j hj => absurd hj (Nat.not_lt_zero j), fun h => absurd h (by decide)⟩
theorem isNw_z {V : Nat → Nat} {vl i isn : Nat} (h : isNw V vl i isn) (h0 : isn = 0) : isNw V vl (i + 1) 0 := ⟨fun h => absurd h (by decide), fun _ => by
  obtain ⟨j, h1, h2⟩ := h.2 h0
  exact ⟨j, by omega, h2⟩⟩
theorem isNw_e {V : Nat → Nat} {vl i : Nat} (h : V i = vl) : isNw V vl (i + 1) 0 := ⟨fun h => absurd h (by decide), fun _ => ⟨i, by omega, h⟩⟩
theorem isNw_n {V : Nat → Nat} {vl i isn : Nat} (h : isNw V vl i isn) (h1 : isn ≠ 0) (h2 : isn ≤ 1) (h3 : V i ≠ vl) : isNw V vl (i + 1) 1 := ⟨fun _ j hj => by
  rcases Nat.lt_or_ge j i with q | q
  · have e : isn = 1 := by omega
    exact h.1 e j q
  · rw [show j = i by omega]; exact h3, fun h => absurd h (by decide)⟩
theorem isNw_new {V : Nat → Nat} {vl k isn : Nat} (h : isNw V vl k isn) (h1 : isn ≠ 0) (h2 : isn ≤ 1) : ∀ j, j < k → V j ≠ vl := by
  have e : isn = 1 := by omega
  exact h.1 e
theorem isNw_old {V : Nat → Nat} {vl k isn : Nat} (h : isNw V vl k isn) (h1 : isn = 0) : 1 ≤ k := by
  obtain ⟨j, h2, -⟩ := h.2 h1
  omega

