set_option maxHeartbeats 4000000 in
set_option maxRecDepth 100000 in
/-- kinds that cells choose -/
theorem c_L_build (l : Launch) (hst : l.stackTraces = false) (D : va_G) (q : Nat → Nat) (cI cZ cJ : ClassId) (k : Nat) (V : Nat → Nat) (C : Nat → Nat) (T : Nat → Nat) (B : Nat → Nat) (P : Nat → Nat) (A : Nat → Nat) (n : Nat) (PR : Nat → Nat) (ST : Nat → Nat) (li : Nat) (w : Nat) (WK : Nat → Nat) (so : Nat) (sp : Nat) (CT : Nat → Int64) (SC : Nat → Int) (TA : Nat → Nat) (sz : Nat) (b : Nat) (L : Nat) (xs : Nat → Int32) (a5 : Nat) (a6 : Nat) (a7 : Nat) (TT : Nat → Nat) (CT0 : Nat → Int64) (hL : L ≤ 260) (hT00 : ∀ i, T i = 0) (hCT00 : ∀ j, j ≠ 4 → CT j = CT0 j) : Met l yL_build wsL_build ({ frames := 8, cells := 19, slots := 124, locals := 134 }) (va_Pc [.ref (q 0), .ref b, .int (nI 0), .int (nI 6), .int (nI 9), .ref a5, .ref a6, .ref a7] (cxS D (ty3 cI cZ cJ) ((wX q cI cZ cJ 0 V C T B P A n PR ST li w WK so sp CT SC TA) ++ [(a5, .inl (cI, 8, .inl (rI V))), (a6, .inl (cI, 8, .inl (rI C))), (a7, .inl (cI, 8, .inl (rI TT)))]) sz b L xs)) (va_Qi (fun r (u : Nat × (Nat → Nat) × (Nat → Nat) × (Nat → Nat) × (Nat → Nat) × (Nat → Int64) × (Nat → Nat)) => r = nI u.1 ∧ (1 ≤ u.1 ∧ u.1 ≤ 6) ∧ (∀ i, i < u.1 → 1 ≤ u.2.1 i ∧ u.2.1 i ≤ 500) ∧ (∀ i, i < u.1 → u.2.2.1 i ≤ 60 ∧ u.2.2.2.1 i ≤ u.2.2.1 i) ∧ (∀ i j, i < u.1 → j < u.1 → u.2.1 i = u.2.1 j → i = j) ∧ (∀ i, i < u.1 → u.2.2.2.2.1 i = 1) ∧ (∀ j, j ≠ 4 → u.2.2.2.2.2.1 j = CT0 j)) (bW D (va_A ((wX q cI cZ cJ 0 V C T B P A n PR ST li w WK so sp CT SC TA) ++ [(a5, .inl (cI, 8, .inl (rI V))), (a6, .inl (cI, 8, .inl (rI C))), (a7, .inl (cI, 8, .inl (rI TT)))]) sz) (fun u => ((wX q cI cZ cJ u.1 u.2.1 u.2.2.1 u.2.2.2.1 B P u.2.2.2.2.1 n PR ST li w WK so sp u.2.2.2.2.2.1 SC TA) ++ [(a5, .inl (cI, 8, .inl (rI u.2.1))), (a6, .inl (cI, 8, .inl (rI u.2.2.1))), (a7, .inl (cI, 8, .inl (rI u.2.2.2.2.2.2)))]))) (va_A ((wX q cI cZ cJ 0 V C T B P A n PR ST li w WK so sp CT SC TA) ++ [(a5, .inl (cI, 8, .inl (rI V))), (a6, .inl (cI, 8, .inl (rI C))), (a7, .inl (cI, 8, .inl (rI TT)))]) sz)) 19 124 (va_A ((wX q cI cZ cJ 0 V C T B P A n PR ST li w WK so sp CT SC TA) ++ [(a5, .inl (cI, 8, .inl (rI V))), (a6, .inl (cI, 8, .inl (rI C))), (a7, .inl (cI, 8, .inl (rI TT)))]) sz) := by
  refine Met.ofW (cc := cL_build) (maxL := 16) (ret := (some .int)) (by decide) rfl ?_
  intro p e s m args below meth c s₁ BB hml hv
  obtain ⟨hav, ⟨hsz, hP, hK, hD0, hZ, hg⟩, hX, hbl, hbA⟩ := hv
  subst hsz
  subst hav
  have hx := BB.exec
  have hb := BB.bytes
  have hr := BB.returns
  have hts := atoms_spec (ws := wsL_build) BB.pre
  have hown : s.vm.findClass RL = some m.cls := findClass_of_methodNamed BB.named
  have hlocks := BB.notSynchronized
  have hD := hD0.self (sz := s.heap.size)
  have hA : ∀ q9 : Nat, s.heap.size ≤ q9 → va_A ((wX q cI cZ cJ 0 V C T B P A n PR ST li w WK so sp CT SC TA) ++ [(a5, .inl (cI, 8, .inl (rI V))), (a6, .inl (cI, 8, .inl (rI C))), (a7, .inl (cI, 8, .inl (rI TT)))]) s.heap.size q9 := fun _ h => Or.inr h
  have hl := lv_entry ([.ref (q 0), .ref b, .int (nI 0), .int (nI 6), .int (nI 9), .ref a5, .ref a6, .ref a7]) (n := 16) (Nat.le_of_ble_eq_true rfl)
  rw [lg_entry_eq]
  generalize (lg_sl ([.ref (q 0), .ref b, .int (nI 0), .int (nI 6), .int (nI 9), .ref a5, .ref a6, .ref a7]) ++ List.replicate (16 - (lg_sl ([.ref (q 0), .ref b, .int (nI 0), .int (nI 6), .int (nI 9), .ref a5, .ref a6, .ref a7])).length) Slot.unset).toArray = ls at hl ⊢
  have hl : lv_has ls 16 [(0, .ref (q 0)), (1, .ref b), (2, .int (nI 0)), (3, .int (nI 6)), (4, .int (nI 9)), (5, .ref a5), (6, .ref a6), (7, .ref a7)] := hl
  refine W_absR (fun R hR => ?_)
  have hR : R = ({ frames := 8, cells := 19, slots := 124, locals := 134 } : Room) := hR
  refine W_absQ (fun Q hQ => ?_)
  generalize ([.ref (q 0), .ref b, .int (nI 0), .int (nI 6), .int (nI 9), .ref a5, .ref a6, .ref a7] : List Value).toArray = args at hts hQ ⊢
  generalize va_A ((wX q cI cZ cJ 0 V C T B P A n PR ST li w WK so sp CT SC TA) ++ [(a5, .inl (cI, 8, .inl (rI V))), (a6, .inl (cI, 8, .inl (rI C))), (a7, .inl (cI, 8, .inl (rI TT)))]) s.heap.size = A9 at hD hZ hA hQ hbA
  refine W_start hP (A := A9) (fun H locs hP hS => ?_)
  refine lv_bipush (v := nI 16) hx hb dL_build_0 (by decide) ?_
  refine n_newI (N := 16) hx hb (hts _ (List.mem_of_getElem? (i := 1) rfl)) hK hP hD hS hA (by decide) (by decide) (by rw [hR]; first | exact Nat.le_of_ble_eq_true rfl | (dsimp only; omega)) (by rw [hR]; first | exact Nat.le_of_ble_eq_true rfl | (dsimp only; omega)) dL_build_2 (fun us H hP hD hS => ?_)
  have hP : va_P D vwCl ((wX q cI cZ cJ 0 V C T B P A n PR ST li w WK so sp CT SC TA) ++ [(a5, .inl (cI, 8, .inl (rI V))), (a6, .inl (cI, 8, .inl (rI C))), (a7, .inl (cI, 8, .inl (rI TT))), (us, .inl (cI, 16, .inl (rI (fun _ => 0))))]) H := hP
  have hD : va_D A9 ((wX q cI cZ cJ 0 V C T B P A n PR ST li w WK so sp CT SC TA) ++ [(a5, .inl (cI, 8, .inl (rI V))), (a6, .inl (cI, 8, .inl (rI C))), (a7, .inl (cI, 8, .inl (rI TT))), (us, .inl (cI, 16, .inl (rI (fun _ => 0))))]) := hD
  refine lv_dup hx hb dL_build_4 rfl ?_
  refine lv_iconst (v := nI 0) hx hb dL_build_5 (ic_0) ?_
  refine lv_iconst (v := nI 1) hx hb dL_build_6 (ic_1) ?_
  refine n_iast (ws' := ((wX q cI cZ cJ 0 V C T B P A n PR ST li w WK so sp CT SC TA) ++ [(a5, .inl (cI, 8, .inl (rI V))), (a6, .inl (cI, 8, .inl (rI C))), (a7, .inl (cI, 8, .inl (rI TT))), (us, .inl (cI, 16, .inl (rI (un (fun _ => 0) 0 1))))])) hx hb hK hP hD hS 16 0 rfl rfl (by omega) (by decide) rfl dL_build_7 (fun H locs hP hD hS => ?_)
  refine lv_dup hx hb dL_build_8 rfl ?_
  refine lv_iconst (v := nI 1) hx hb dL_build_9 (ic_1) ?_
  refine lv_iconst (v := nI 2) hx hb dL_build_10 (ic_2) ?_
  refine n_iast (ws' := ((wX q cI cZ cJ 0 V C T B P A n PR ST li w WK so sp CT SC TA) ++ [(a5, .inl (cI, 8, .inl (rI V))), (a6, .inl (cI, 8, .inl (rI C))), (a7, .inl (cI, 8, .inl (rI TT))), (us, .inl (cI, 16, .inl (rI (un (un (fun _ => 0) 0 1) 1 2))))])) hx hb hK hP hD hS 16 0 rfl rfl (by omega) (by decide) rfl dL_build_11 (fun H locs hP hD hS => ?_)
  refine lv_dup hx hb dL_build_12 rfl ?_
  refine lv_iconst (v := nI 2) hx hb dL_build_13 (ic_2) ?_
  refine lv_iconst (v := nI 5) hx hb dL_build_14 (ic_5) ?_
  refine n_iast (ws' := ((wX q cI cZ cJ 0 V C T B P A n PR ST li w WK so sp CT SC TA) ++ [(a5, .inl (cI, 8, .inl (rI V))), (a6, .inl (cI, 8, .inl (rI C))), (a7, .inl (cI, 8, .inl (rI TT))), (us, .inl (cI, 16, .inl (rI (un (un (un (fun _ => 0) 0 1) 1 2) 2 5))))])) hx hb hK hP hD hS 16 0 rfl rfl (by omega) (by decide) rfl dL_build_15 (fun H locs hP hD hS => ?_)
  refine lv_dup hx hb dL_build_16 rfl ?_
  refine lv_iconst (v := nI 3) hx hb dL_build_17 (ic_3) ?_
  refine lv_bipush (v := nI 10) hx hb dL_build_18 (by decide) ?_
  refine n_iast (ws' := ((wX q cI cZ cJ 0 V C T B P A n PR ST li w WK so sp CT SC TA) ++ [(a5, .inl (cI, 8, .inl (rI V))), (a6, .inl (cI, 8, .inl (rI C))), (a7, .inl (cI, 8, .inl (rI TT))), (us, .inl (cI, 16, .inl (rI (un (un (un (un (fun _ => 0) 0 1) 1 2) 2 5) 3 10))))])) hx hb hK hP hD hS 16 0 rfl rfl (by omega) (by decide) rfl dL_build_20 (fun H locs hP hD hS => ?_)
  refine lv_dup hx hb dL_build_21 rfl ?_
  refine lv_iconst (v := nI 4) hx hb dL_build_22 (ic_4) ?_
  refine lv_bipush (v := nI 20) hx hb dL_build_23 (by decide) ?_
  refine n_iast (ws' := ((wX q cI cZ cJ 0 V C T B P A n PR ST li w WK so sp CT SC TA) ++ [(a5, .inl (cI, 8, .inl (rI V))), (a6, .inl (cI, 8, .inl (rI C))), (a7, .inl (cI, 8, .inl (rI TT))), (us, .inl (cI, 16, .inl (rI (un (un (un (un (un (fun _ => 0) 0 1) 1 2) 2 5) 3 10) 4 20))))])) hx hb hK hP hD hS 16 0 rfl rfl (by omega) (by decide) rfl dL_build_25 (fun H locs hP hD hS => ?_)
  refine lv_dup hx hb dL_build_26 rfl ?_
  refine lv_iconst (v := nI 5) hx hb dL_build_27 (ic_5) ?_
  refine lv_bipush (v := nI 50) hx hb dL_build_28 (by decide) ?_
  refine n_iast (ws' := ((wX q cI cZ cJ 0 V C T B P A n PR ST li w WK so sp CT SC TA) ++ [(a5, .inl (cI, 8, .inl (rI V))), (a6, .inl (cI, 8, .inl (rI C))), (a7, .inl (cI, 8, .inl (rI TT))), (us, .inl (cI, 16, .inl (rI (un (un (un (un (un (un (fun _ => 0) 0 1) 1 2) 2 5) 3 10) 4 20) 5 50))))])) hx hb hK hP hD hS 16 0 rfl rfl (by omega) (by decide) rfl dL_build_30 (fun H locs hP hD hS => ?_)
  refine lv_dup hx hb dL_build_31 rfl ?_
  refine lv_bipush (v := nI 6) hx hb dL_build_32 (by decide) ?_
  refine lv_bipush (v := nI 100) hx hb dL_build_34 (by decide) ?_
  refine n_iast (ws' := ((wX q cI cZ cJ 0 V C T B P A n PR ST li w WK so sp CT SC TA) ++ [(a5, .inl (cI, 8, .inl (rI V))), (a6, .inl (cI, 8, .inl (rI C))), (a7, .inl (cI, 8, .inl (rI TT))), (us, .inl (cI, 16, .inl (rI (un (un (un (un (un (un (un (fun _ => 0) 0 1) 1 2) 2 5) 3 10) 4 20) 5 50) 6 100))))])) hx hb hK hP hD hS 16 0 rfl rfl (by omega) (by decide) rfl dL_build_36 (fun H locs hP hD hS => ?_)
  refine lv_dup hx hb dL_build_37 rfl ?_
  refine lv_bipush (v := nI 7) hx hb dL_build_38 (by decide) ?_
  refine lv_sipush (v := nI 200) hx hb dL_build_40 (by decide) ?_
  refine n_iast (ws' := ((wX q cI cZ cJ 0 V C T B P A n PR ST li w WK so sp CT SC TA) ++ [(a5, .inl (cI, 8, .inl (rI V))), (a6, .inl (cI, 8, .inl (rI C))), (a7, .inl (cI, 8, .inl (rI TT))), (us, .inl (cI, 16, .inl (rI (un (un (un (un (un (un (un (un (fun _ => 0) 0 1) 1 2) 2 5) 3 10) 4 20) 5 50) 6 100) 7 200))))])) hx hb hK hP hD hS 16 0 rfl rfl (by omega) (by decide) rfl dL_build_43 (fun H locs hP hD hS => ?_)
  refine lv_dup hx hb dL_build_44 rfl ?_
  refine lv_bipush (v := nI 8) hx hb dL_build_45 (by decide) ?_
  refine lv_bipush (v := nI 25) hx hb dL_build_47 (by decide) ?_
  refine n_iast (ws' := ((wX q cI cZ cJ 0 V C T B P A n PR ST li w WK so sp CT SC TA) ++ [(a5, .inl (cI, 8, .inl (rI V))), (a6, .inl (cI, 8, .inl (rI C))), (a7, .inl (cI, 8, .inl (rI TT))), (us, .inl (cI, 16, .inl (rI (un (un (un (un (un (un (un (un (un (fun _ => 0) 0 1) 1 2) 2 5) 3 10) 4 20) 5 50) 6 100) 7 200) 8 25))))])) hx hb hK hP hD hS 16 0 rfl rfl (by omega) (by decide) rfl dL_build_49 (fun H locs hP hD hS => ?_)
  refine lv_dup hx hb dL_build_50 rfl ?_
  refine lv_bipush (v := nI 9) hx hb dL_build_51 (by decide) ?_
  refine lv_bipush (v := nI 30) hx hb dL_build_53 (by decide) ?_
  refine n_iast (ws' := ((wX q cI cZ cJ 0 V C T B P A n PR ST li w WK so sp CT SC TA) ++ [(a5, .inl (cI, 8, .inl (rI V))), (a6, .inl (cI, 8, .inl (rI C))), (a7, .inl (cI, 8, .inl (rI TT))), (us, .inl (cI, 16, .inl (rI (un (un (un (un (un (un (un (un (un (un (fun _ => 0) 0 1) 1 2) 2 5) 3 10) 4 20) 5 50) 6 100) 7 200) 8 25) 9 30))))])) hx hb hK hP hD hS 16 0 rfl rfl (by omega) (by decide) rfl dL_build_55 (fun H locs hP hD hS => ?_)
  refine lv_dup hx hb dL_build_56 rfl ?_
  refine lv_bipush (v := nI 10) hx hb dL_build_57 (by decide) ?_
  refine lv_bipush (v := nI 7) hx hb dL_build_59 (by decide) ?_
  refine n_iast (ws' := ((wX q cI cZ cJ 0 V C T B P A n PR ST li w WK so sp CT SC TA) ++ [(a5, .inl (cI, 8, .inl (rI V))), (a6, .inl (cI, 8, .inl (rI C))), (a7, .inl (cI, 8, .inl (rI TT))), (us, .inl (cI, 16, .inl (rI (un (un (un (un (un (un (un (un (un (un (un (fun _ => 0) 0 1) 1 2) 2 5) 3 10) 4 20) 5 50) 6 100) 7 200) 8 25) 9 30) 10 7))))])) hx hb hK hP hD hS 16 0 rfl rfl (by omega) (by decide) rfl dL_build_61 (fun H locs hP hD hS => ?_)
  refine lv_dup hx hb dL_build_62 rfl ?_
  refine lv_bipush (v := nI 11) hx hb dL_build_63 (by decide) ?_
  refine lv_iconst (v := nI 4) hx hb dL_build_65 (ic_4) ?_
  refine n_iast (ws' := ((wX q cI cZ cJ 0 V C T B P A n PR ST li w WK so sp CT SC TA) ++ [(a5, .inl (cI, 8, .inl (rI V))), (a6, .inl (cI, 8, .inl (rI C))), (a7, .inl (cI, 8, .inl (rI TT))), (us, .inl (cI, 16, .inl (rI (un (un (un (un (un (un (un (un (un (un (un (un (fun _ => 0) 0 1) 1 2) 2 5) 3 10) 4 20) 5 50) 6 100) 7 200) 8 25) 9 30) 10 7) 11 4))))])) hx hb hK hP hD hS 16 0 rfl rfl (by omega) (by decide) rfl dL_build_66 (fun H locs hP hD hS => ?_)
  refine lv_dup hx hb dL_build_67 rfl ?_
  refine lv_bipush (v := nI 12) hx hb dL_build_68 (by decide) ?_
  refine lv_bipush (v := nI 9) hx hb dL_build_70 (by decide) ?_
  refine n_iast (ws' := ((wX q cI cZ cJ 0 V C T B P A n PR ST li w WK so sp CT SC TA) ++ [(a5, .inl (cI, 8, .inl (rI V))), (a6, .inl (cI, 8, .inl (rI C))), (a7, .inl (cI, 8, .inl (rI TT))), (us, .inl (cI, 16, .inl (rI (un (un (un (un (un (un (un (un (un (un (un (un (un (fun _ => 0) 0 1) 1 2) 2 5) 3 10) 4 20) 5 50) 6 100) 7 200) 8 25) 9 30) 10 7) 11 4) 12 9))))])) hx hb hK hP hD hS 16 0 rfl rfl (by omega) (by decide) rfl dL_build_72 (fun H locs hP hD hS => ?_)
  refine lv_dup hx hb dL_build_73 rfl ?_
  refine lv_bipush (v := nI 13) hx hb dL_build_74 (by decide) ?_
  refine lv_bipush (v := nI 15) hx hb dL_build_76 (by decide) ?_
  refine n_iast (ws' := ((wX q cI cZ cJ 0 V C T B P A n PR ST li w WK so sp CT SC TA) ++ [(a5, .inl (cI, 8, .inl (rI V))), (a6, .inl (cI, 8, .inl (rI C))), (a7, .inl (cI, 8, .inl (rI TT))), (us, .inl (cI, 16, .inl (rI (un (un (un (un (un (un (un (un (un (un (un (un (un (un (fun _ => 0) 0 1) 1 2) 2 5) 3 10) 4 20) 5 50) 6 100) 7 200) 8 25) 9 30) 10 7) 11 4) 12 9) 13 15))))])) hx hb hK hP hD hS 16 0 rfl rfl (by omega) (by decide) rfl dL_build_78 (fun H locs hP hD hS => ?_)
  refine lv_dup hx hb dL_build_79 rfl ?_
  refine lv_bipush (v := nI 14) hx hb dL_build_80 (by decide) ?_
  refine lv_iconst (v := nI 3) hx hb dL_build_82 (ic_3) ?_
  refine n_iast (ws' := ((wX q cI cZ cJ 0 V C T B P A n PR ST li w WK so sp CT SC TA) ++ [(a5, .inl (cI, 8, .inl (rI V))), (a6, .inl (cI, 8, .inl (rI C))), (a7, .inl (cI, 8, .inl (rI TT))), (us, .inl (cI, 16, .inl (rI (un (un (un (un (un (un (un (un (un (un (un (un (un (un (un (fun _ => 0) 0 1) 1 2) 2 5) 3 10) 4 20) 5 50) 6 100) 7 200) 8 25) 9 30) 10 7) 11 4) 12 9) 13 15) 14 3))))])) hx hb hK hP hD hS 16 0 rfl rfl (by omega) (by decide) rfl dL_build_83 (fun H locs hP hD hS => ?_)
  refine lv_dup hx hb dL_build_84 rfl ?_
  refine lv_bipush (v := nI 15) hx hb dL_build_85 (by decide) ?_
  refine lv_bipush (v := nI 40) hx hb dL_build_87 (by decide) ?_
  refine n_iast (ws' := ((wX q cI cZ cJ 0 V C T B P A n PR ST li w WK so sp CT SC TA) ++ [(a5, .inl (cI, 8, .inl (rI V))), (a6, .inl (cI, 8, .inl (rI C))), (a7, .inl (cI, 8, .inl (rI TT))), (us, .inl (cI, 16, .inl (rI (un (un (un (un (un (un (un (un (un (un (un (un (un (un (un (un (fun _ => 0) 0 1) 1 2) 2 5) 3 10) 4 20) 5 50) 6 100) 7 200) 8 25) 9 30) 10 7) 11 4) 12 9) 13 15) 14 3) 15 40))))])) hx hb hK hP hD hS 16 0 rfl rfl (by omega) (by decide) rfl dL_build_89 (fun H locs hP hD hS => ?_)
  obtain ⟨US, hUS⟩ : ∃ f : Nat → Nat, f = un (un (un (un (un (un (un (un (un (un (un (un (un (un (un (un (fun _ => 0) 0 1) 1 2) 2 5) 3 10) 4 20) 5 50) 6 100) 7 200) 8 25) 9 30) 10 7) 11 4) 12 9) 13 15) 14 3) 15 40 := ⟨_, rfl⟩
  have hU : ∀ i, i < 16 → 1 ≤ US i ∧ US i ≤ 500 := by
    intro i hi
    rw [hUS]
    have h16 : i = 0 ∨ i = 1 ∨ i = 2 ∨ i = 3 ∨ i = 4 ∨ i = 5 ∨ i = 6 ∨ i = 7 ∨ i = 8 ∨ i = 9 ∨ i = 10 ∨ i = 11 ∨ i = 12 ∨ i = 13 ∨ i = 14 ∨ i = 15 := by omega
    rcases h16 with rfl | rfl | rfl | rfl | rfl | rfl | rfl | rfl | rfl | rfl | rfl | rfl | rfl | rfl | rfl | rfl <;> decide
  rw [← hUS] at hP hD
  refine lv_astore (lv' := [(8, .ref us), (0, .ref (q 0)), (1, .ref b), (2, .int (nI 0)), (3, .int (nI 6)), (4, .int (nI 9)), (5, .ref a5), (6, .ref a6), (7, .ref a7)]) hx hb dL_build_90 hl (by decide) rfl (fun ls hl => ?_)
  refine lv_iconst (v := nI 0) hx hb dL_build_92 (ic_0) ?_
  refine lv_istore (lv' := [(9, .int (nI 0)), (8, .ref us), (0, .ref (q 0)), (1, .ref b), (2, .int (nI 0)), (3, .int (nI 6)), (4, .int (nI 9)), (5, .ref a5), (6, .ref a6), (7, .ref a7)]) hx hb dL_build_93 hl (by decide) rfl (fun ls hl => ?_)
  refine lv_iconst (v := nI 1) hx hb dL_build_95 (ic_1) ?_
  refine lv_aload_n hx hb dL_build_96 rfl (lv_at hl 3 rfl) ?_
  refine lv_iload_n hx hb dL_build_97 rfl (lv_at hl 4 rfl) ?_
  refine k3_i (mc := 0) (ms := 0) (wa := []) (wc := (wX q cI cZ cJ 0 V C T B P A n PR ST li w WK so sp CT SC TA)) (wb := [(a5, .inl (cI, 8, .inl (rI V))), (a6, .inl (cI, 8, .inl (rI C))), (a7, .inl (cI, 8, .inl (rI TT))), (us, .inl (cI, 16, .inl (rI US)))]) (va_runS (As := [.ref b, .int (nI 0)]) (rest := [.int (nI 1)]) ⟨hx, hb, hml, hown, hts⟩ (c_L_cell l hst D q cI cZ cJ 0 V C T B P A n PR ST li w WK so sp CT SC TA H.size b L xs 0 (by omega) hL) (va_cwS 2 hts gL_build_L_cell rfl rfl rfl hd_L_cell.2 ⟨(by rw [hR]; first | exact Nat.le_of_ble_eq_true rfl | (dsimp only; omega)), (by rw [hR]; first | exact Nat.le_of_ble_eq_true rfl | (dsimp only; omega))⟩) (pre_SS (wa := []) (wc := (wX q cI cZ cJ 0 V C T B P A n PR ST li w WK so sp CT SC TA)) (wb := [(a5, .inl (cI, 8, .inl (rI V))), (a6, .inl (cI, 8, .inl (rI C))), (a7, .inl (cI, 8, .inl (rI TT))), (us, .inl (cI, 16, .inl (rI US)))]) hP hK hD hS hA hZ hg hX hbl hbA) rfl rfl hl.1 rfl (lv_room (Nat.le_of_ble_eq_true rfl)) dL_build_98 ⟨(by rw [hR]; first | exact Nat.le_of_ble_eq_true rfl | (dsimp only; omega)), (by rw [hR]; first | exact Nat.le_of_ble_eq_true rfl | (dsimp only; omega))⟩) hP hD hS hA (fun r_2 u_1 H locs hp_3 hP hD hS => ?_)
  have hP : va_P D vwCl ((wX q cI cZ cJ 0 V C T B P A n PR ST li w WK so sp CT SC TA) ++ [(a5, .inl (cI, 8, .inl (rI V))), (a6, .inl (cI, 8, .inl (rI C))), (a7, .inl (cI, 8, .inl (rI TT))), (us, .inl (cI, 16, .inl (rI US)))]) H := hP
  have hD : va_D A9 ((wX q cI cZ cJ 0 V C T B P A n PR ST li w WK so sp CT SC TA) ++ [(a5, .inl (cI, 8, .inl (rI V))), (a6, .inl (cI, 8, .inl (rI C))), (a7, .inl (cI, 8, .inl (rI TT))), (us, .inl (cI, 16, .inl (rI US)))]) := hD
  have hp_3 := hp_3.symm
  subst hp_3
  refine lv_iload_n hx hb dL_build_101 rfl (lv_at hl 5 rfl) ?_
  refine k3_i (mc := 0) (ms := 0) (wa := []) (wc := (wX q cI cZ cJ 0 V C T B P A n PR ST li w WK so sp CT SC TA)) (wb := [(a5, .inl (cI, 8, .inl (rI V))), (a6, .inl (cI, 8, .inl (rI C))), (a7, .inl (cI, 8, .inl (rI TT))), (us, .inl (cI, 16, .inl (rI US)))]) (va_runS (As := [.int u_1, .int (nI 6)]) (rest := [.int (nI 1)]) ⟨hx, hb, hml, hown, hts⟩ (c_L_below l hst D q cI cZ cJ 0 V C T B P A n PR ST li w WK so sp CT SC TA H.size u_1 6 (⟨by omega, by omega⟩)) (va_cwS 2 hts gL_build_L_below rfl rfl rfl hd_L_below.2 ⟨(by rw [hR]; first | exact Nat.le_of_ble_eq_true rfl | (dsimp only; omega)), (by rw [hR]; first | exact Nat.le_of_ble_eq_true rfl | (dsimp only; omega))⟩) (pre_S (j_pm (wa := []) (wc := (wX q cI cZ cJ 0 V C T B P A n PR ST li w WK so sp CT SC TA)) (wb := [(a5, .inl (cI, 8, .inl (rI V))), (a6, .inl (cI, 8, .inl (rI C))), (a7, .inl (cI, 8, .inl (rI TT))), (us, .inl (cI, 16, .inl (rI US)))]) hP) hK (j_mid (wa := []) (wc := (wX q cI cZ cJ 0 V C T B P A n PR ST li w WK so sp CT SC TA)) (wb := [(a5, .inl (cI, 8, .inl (rI V))), (a6, .inl (cI, 8, .inl (rI C))), (a7, .inl (cI, 8, .inl (rI TT))), (us, .inl (cI, 16, .inl (rI US)))]) hD) hS hA hZ hg) rfl rfl hl.1 rfl (lv_room (Nat.le_of_ble_eq_true rfl)) dL_build_102 ⟨(by rw [hR]; first | exact Nat.le_of_ble_eq_true rfl | (dsimp only; omega)), (by rw [hR]; first | exact Nat.le_of_ble_eq_true rfl | (dsimp only; omega))⟩) hP hD hS hA (fun r_4 u2 H locs hp_5 hP hD hS => ?_)
  have hP : va_P D vwCl ((wX q cI cZ cJ 0 V C T B P A n PR ST li w WK so sp CT SC TA) ++ [(a5, .inl (cI, 8, .inl (rI V))), (a6, .inl (cI, 8, .inl (rI C))), (a7, .inl (cI, 8, .inl (rI TT))), (us, .inl (cI, 16, .inl (rI US)))]) H := hP
  have hD : va_D A9 ((wX q cI cZ cJ 0 V C T B P A n PR ST li w WK so sp CT SC TA) ++ [(a5, .inl (cI, 8, .inl (rI V))), (a6, .inl (cI, 8, .inl (rI C))), (a7, .inl (cI, 8, .inl (rI TT))), (us, .inl (cI, 16, .inl (rI US)))]) := hD
  obtain ⟨rfl, hp_5⟩ := hp_5
  have hu2 := hp_5
  obtain ⟨tr, htr⟩ : ∃ t : Nat, t = 1 + u2 := ⟨_, rfl⟩
  refine n_iadd hx hb dL_build_105 ?_
  refine n_top (congrArg nI (show 1 + u2 = tr from htr.symm)) ?_
  refine lv_istore (lv' := [(10, .int (nI tr)), (9, .int (nI 0)), (8, .ref us), (0, .ref (q 0)), (1, .ref b), (2, .int (nI 0)), (3, .int (nI 6)), (4, .int (nI 9)), (5, .ref a5), (6, .ref a6), (7, .ref a7)]) hx hb dL_build_106 hl (by decide) rfl (fun ls hl => ?_)
  refine lv_iconst (v := nI 0) hx hb dL_build_108 (ic_0) ?_
  refine lv_istore (lv' := [(11, .int (nI 0)), (10, .int (nI tr)), (9, .int (nI 0)), (8, .ref us), (0, .ref (q 0)), (1, .ref b), (2, .int (nI 0)), (3, .int (nI 6)), (4, .int (nI 9)), (5, .ref a5), (6, .ref a6), (7, .ref a7)]) hx hb dL_build_109 hl (by decide) rfl (fun ls hl => ?_)
  have lp_111 : ∀ (fu_111 : Nat) (kk : Nat) (k : Nat) (V : Nat → Nat) (C : Nat → Nat) (T : Nat → Nat) (A : Nat → Nat) (CT : Nat → Int64) (TT : Nat → Nat), tr - kk < fu_111 → (kk ≤ tr) → (k ≤ kk) → (kk = 0 ∨ 1 ≤ k) → (∀ i, i < k → 1 ≤ V i ∧ V i ≤ 500) → (∀ i, i < k → C i ≤ 60 ∧ T i ≤ C i) → (∀ i j, i < k → j < k → V i = V j → i = j) → (∀ i, i < k → A i = 1) → (∀ i, k ≤ i → T i = 0) → (∀ j, j ≠ 4 → CT j = CT0 j) → ∀ (H : Heap) (locs : List Loc), va_P D vwCl ((wX q cI cZ cJ k V C T B P A n PR ST li w WK so sp CT SC TA) ++ [(a5, .inl (cI, 8, .inl (rI V))), (a6, .inl (cI, 8, .inl (rI C))), (a7, .inl (cI, 8, .inl (rI TT))), (us, .inl (cI, 16, .inl (rI US)))]) H → va_D A9 ((wX q cI cZ cJ k V C T B P A n PR ST li w WK so sp CT SC TA) ++ [(a5, .inl (cI, 8, .inl (rI V))), (a6, .inl (cI, 8, .inl (rI C))), (a7, .inl (cI, 8, .inl (rI TT))), (us, .inl (cI, 16, .inl (rI US)))]) → va_S A9 s.heap H locs → ∀ ls : Array Slot, lv_has ls 16 [(11, .int (nI kk)), (9, .int (nI k)), (10, .int (nI tr)), (8, .ref us), (7, .ref a7), (6, .ref a6), (5, .ref a5), (4, .int (nI 9)), (3, .int (nI 6)), (2, .int (nI 0)), (1, .ref b), (0, .ref (q 0))] → W p l e R s m args below meth c H locs (1 + 3 * kk) (16 + 18 * kk) Q (F0 m 111 ls []) := by
    intro fu_111
    induction fu_111 with
    | zero =>
      intro kk k V C T A CT TT hfu_111
      exact absurd hfu_111 (Nat.not_lt_zero _)
    | succ fu_111 ih_111 =>
      intro kk k V C T A CT TT hfu_111 hkk hk1 hk2 hV hC hVd hAe hT0 hCT H locs hP hD hS ls hl
      refine lv_iload hx hb dL_build_111 (lv_at hl 0 rfl) ?_
      refine lv_iload hx hb dL_build_113 (lv_at hl 2 rfl) ?_
      refine n_icmp_ge (tgt := 327) hx hb (by omega) (by omega) dL_build_115 (by decide) (fun c115 => ?_) (fun c115 => ?_)
      · refine lv_iload hx hb dL_build_327 (lv_at hl 1 rfl) ?_
        subst hQ
        have hP := hP.sub (ws' := ((wX q cI cZ cJ k V C T B P A n PR ST li w WK so sp CT SC TA) ++ [(a5, .inl (cI, 8, .inl (rI V))), (a6, .inl (cI, 8, .inl (rI C))), (a7, .inl (cI, 8, .inl (rI TT)))])) [0, 1, 2, 3, 4, 5, 6, 7, 8, 9, 10, 11, 12, 13, 14, 15] rfl
        have hD := hD.sub (ws' := ((wX q cI cZ cJ k V C T B P A n PR ST li w WK so sp CT SC TA) ++ [(a5, .inl (cI, 8, .inl (rI V))), (a6, .inl (cI, 8, .inl (rI C))), (a7, .inl (cI, 8, .inl (rI TT)))])) [0, 1, 2, 3, 4, 5, 6, 7, 8, 9, 10, 11, 12, 13, 14, 15] (by decide) rfl
        exact e_i (k, V, C, T, A, CT, TT) hx hb hr hlocks hS hP hD ⟨rfl, ⟨by omega, by omega⟩, hV, hC, hVd, hAe, hCT⟩ (by omega) (by omega) dL_build_329
      · have hk8 : k ≤ 8 := by omega
        refine lv_aload_n hx hb dL_build_118 rfl (lv_at hl 10 rfl) ?_
        refine lv_iload_n hx hb dL_build_119 rfl (lv_at hl 9 rfl) ?_
        refine lv_iconst (v := nI 1) hx hb dL_build_120 (ic_1) ?_
        refine n_iadd hx hb dL_build_121 ?_
        refine lv_iload hx hb dL_build_122 (lv_at hl 0 rfl) ?_
        refine lv_iconst (v := nI 4) hx hb dL_build_124 (ic_4) ?_
        refine n_irem hx hb (by omega) (by omega) (by omega) dL_build_125 ?_
        refine n_iadd hx hb dL_build_126 ?_
        refine k3_i (mc := 0) (ms := 0) (wa := []) (wc := (wX q cI cZ cJ k V C T B P A n PR ST li w WK so sp CT SC TA)) (wb := [(a5, .inl (cI, 8, .inl (rI V))), (a6, .inl (cI, 8, .inl (rI C))), (a7, .inl (cI, 8, .inl (rI TT))), (us, .inl (cI, 16, .inl (rI US)))]) (va_runS (As := [.ref b, .int (nI ((0 + 1) + (kk % 4)))]) (rest := []) ⟨hx, hb, hml, hown, hts⟩ (c_L_cell l hst D q cI cZ cJ k V C T B P A n PR ST li w WK so sp CT SC TA H.size b L xs ((0 + 1) + (kk % 4)) (by omega) hL) (va_cwS 2 hts gL_build_L_cell rfl rfl rfl hd_L_cell.2 ⟨(by rw [hR]; first | exact Nat.le_of_ble_eq_true rfl | (dsimp only; omega)), (by rw [hR]; first | exact Nat.le_of_ble_eq_true rfl | (dsimp only; omega))⟩) (pre_SS (wa := []) (wc := (wX q cI cZ cJ k V C T B P A n PR ST li w WK so sp CT SC TA)) (wb := [(a5, .inl (cI, 8, .inl (rI V))), (a6, .inl (cI, 8, .inl (rI C))), (a7, .inl (cI, 8, .inl (rI TT))), (us, .inl (cI, 16, .inl (rI US)))]) hP hK hD hS hA hZ hg hX hbl hbA) rfl rfl hl.1 rfl (lv_room (Nat.le_of_ble_eq_true rfl)) dL_build_127 ⟨(by rw [hR]; first | exact Nat.le_of_ble_eq_true rfl | (dsimp only; omega)), (by rw [hR]; first | exact Nat.le_of_ble_eq_true rfl | (dsimp only; omega))⟩) hP hD hS hA (fun r_7 u_6 H locs hp_8 hP hD hS => ?_)
        have hP : va_P D vwCl ((wX q cI cZ cJ k V C T B P A n PR ST li w WK so sp CT SC TA) ++ [(a5, .inl (cI, 8, .inl (rI V))), (a6, .inl (cI, 8, .inl (rI C))), (a7, .inl (cI, 8, .inl (rI TT))), (us, .inl (cI, 16, .inl (rI US)))]) H := hP
        have hD : va_D A9 ((wX q cI cZ cJ k V C T B P A n PR ST li w WK so sp CT SC TA) ++ [(a5, .inl (cI, 8, .inl (rI V))), (a6, .inl (cI, 8, .inl (rI C))), (a7, .inl (cI, 8, .inl (rI TT))), (us, .inl (cI, 16, .inl (rI US)))]) := hD
        have hp_8 := hp_8.symm
        subst hp_8
        refine lv_iload hx hb dL_build_130 (lv_at hl 0 rfl) ?_
        refine lv_iconst (v := nI 4) hx hb dL_build_132 (ic_4) ?_
        refine n_idiv hx hb (by omega) (by omega) (by omega) dL_build_133 ?_
        refine lv_bipush (v := nI 9) hx hb dL_build_134 (by decide) ?_
        refine n_imul hx hb dL_build_136 ?_
        refine lv_ishr hx hb dL_build_137 ?_
        obtain ⟨x1, hx1⟩ : ∃ x9 : Int32, x9 = u_6 >>> (nI ((kk / 4) * 9) &&& 31) := ⟨_, rfl⟩
        refine n_top hx1.symm ?_
        refine lv_istore (lv' := [(12, .int x1), (11, .int (nI kk)), (9, .int (nI k)), (10, .int (nI tr)), (8, .ref us), (7, .ref a7), (6, .ref a6), (5, .ref a5), (4, .int (nI 9)), (3, .int (nI 6)), (2, .int (nI 0)), (1, .ref b), (0, .ref (q 0))]) hx hb dL_build_138 hl (by decide) rfl (fun ls hl => ?_)
        have lp_176 : ∀ (vl : Nat), (1 ≤ vl ∧ vl ≤ 500) → ∀ (H : Heap) (locs : List Loc), va_P D vwCl ((wX q cI cZ cJ k V C T B P A n PR ST li w WK so sp CT SC TA) ++ [(a5, .inl (cI, 8, .inl (rI V))), (a6, .inl (cI, 8, .inl (rI C))), (a7, .inl (cI, 8, .inl (rI TT))), (us, .inl (cI, 16, .inl (rI US)))]) H → va_D A9 ((wX q cI cZ cJ k V C T B P A n PR ST li w WK so sp CT SC TA) ++ [(a5, .inl (cI, 8, .inl (rI V))), (a6, .inl (cI, 8, .inl (rI C))), (a7, .inl (cI, 8, .inl (rI TT))), (us, .inl (cI, 16, .inl (rI US)))]) → va_S A9 s.heap H locs → ∀ ls : Array Slot, lv_has ls 16 [(12, .int x1), (11, .int (nI kk)), (9, .int (nI k)), (10, .int (nI tr)), (8, .ref us), (7, .ref a7), (6, .ref a6), (5, .ref a5), (4, .int (nI 9)), (3, .int (nI 6)), (2, .int (nI 0)), (1, .ref b), (0, .ref (q 0))] → W p l e R s m args below meth c H locs (1 + 3 * kk) (16 + 18 * kk) Q (F0 m 176 ls [.int (nI vl)]) := by
          intro vl hvl H locs hP hD hS ls hl
          refine lv_istore (lv' := [(13, .int (nI vl)), (12, .int x1), (11, .int (nI kk)), (9, .int (nI k)), (10, .int (nI tr)), (8, .ref us), (7, .ref a7), (6, .ref a6), (5, .ref a5), (4, .int (nI 9)), (3, .int (nI 6)), (2, .int (nI 0)), (1, .ref b), (0, .ref (q 0))]) hx hb dL_build_176 hl (by decide) rfl (fun ls hl => ?_)
          refine lv_iconst (v := nI 1) hx hb dL_build_178 (ic_1) ?_
          refine lv_istore (lv' := [(14, .int (nI 1)), (13, .int (nI vl)), (12, .int x1), (11, .int (nI kk)), (9, .int (nI k)), (10, .int (nI tr)), (8, .ref us), (7, .ref a7), (6, .ref a6), (5, .ref a5), (4, .int (nI 9)), (3, .int (nI 6)), (2, .int (nI 0)), (1, .ref b), (0, .ref (q 0))]) hx hb dL_build_179 hl (by decide) rfl (fun ls hl => ?_)
          refine lv_iconst (v := nI 0) hx hb dL_build_181 (ic_0) ?_
          refine lv_istore (lv' := [(15, .int (nI 0)), (14, .int (nI 1)), (13, .int (nI vl)), (12, .int x1), (11, .int (nI kk)), (9, .int (nI k)), (10, .int (nI tr)), (8, .ref us), (7, .ref a7), (6, .ref a6), (5, .ref a5), (4, .int (nI 9)), (3, .int (nI 6)), (2, .int (nI 0)), (1, .ref b), (0, .ref (q 0))]) hx hb dL_build_182 hl (by decide) rfl (fun ls hl => ?_)
          have lp_184 : ∀ (fu_184 : Nat) (i : Nat) (isn : Nat), k - i < fu_184 → (i ≤ k) → (isn ≤ 1) → (isNw V vl i isn) → ∀ (H : Heap) (locs : List Loc), va_P D vwCl ((wX q cI cZ cJ k V C T B P A n PR ST li w WK so sp CT SC TA) ++ [(a5, .inl (cI, 8, .inl (rI V))), (a6, .inl (cI, 8, .inl (rI C))), (a7, .inl (cI, 8, .inl (rI TT))), (us, .inl (cI, 16, .inl (rI US)))]) H → va_D A9 ((wX q cI cZ cJ k V C T B P A n PR ST li w WK so sp CT SC TA) ++ [(a5, .inl (cI, 8, .inl (rI V))), (a6, .inl (cI, 8, .inl (rI C))), (a7, .inl (cI, 8, .inl (rI TT))), (us, .inl (cI, 16, .inl (rI US)))]) → va_S A9 s.heap H locs → ∀ ls : Array Slot, lv_has ls 16 [(15, .int (nI i)), (14, .int (nI isn)), (13, .int (nI vl)), (12, .int x1), (11, .int (nI kk)), (9, .int (nI k)), (10, .int (nI tr)), (8, .ref us), (7, .ref a7), (6, .ref a6), (5, .ref a5), (4, .int (nI 9)), (3, .int (nI 6)), (2, .int (nI 0)), (1, .ref b), (0, .ref (q 0))] → W p l e R s m args below meth c H locs (1 + 3 * kk) (16 + 18 * kk) Q (F0 m 184 ls []) := by
            intro fu_184
            induction fu_184 with
            | zero =>
              intro i isn hfu_184
              exact absurd hfu_184 (Nat.not_lt_zero _)
            | succ fu_184 ih_184 =>
              intro i isn hfu_184 hi his hne H locs hP hD hS ls hl
              refine lv_iload hx hb dL_build_184 (lv_at hl 0 rfl) ?_
              refine lv_iload hx hb dL_build_186 (lv_at hl 5 rfl) ?_
              refine n_icmp_ge (tgt := 219) hx hb (by omega) (by omega) dL_build_188 (by decide) (fun c188 => ?_) (fun c188 => ?_)
              · have hik : i = k := by omega
                rw [hik] at hne
                refine lv_iload hx hb dL_build_219 (lv_at hl 1 rfl) ?_
                refine n_if_ne (tgt := 227) hx hb (by omega) dL_build_221 (by decide) (fun c221 => ?_) (fun c221 => ?_)
                · have hnew := isNw_new hne c221 his
                  refine lv_aload hx hb dL_build_227 (lv_at hl 10 rfl) ?_
                  refine lv_iload hx hb dL_build_229 (lv_at hl 5 rfl) ?_
                  refine lv_iload hx hb dL_build_231 (lv_at hl 2 rfl) ?_
                  refine n_iast (ws' := ((wX q cI cZ cJ k V C T B P A n PR ST li w WK so sp CT SC TA) ++ [(a5, .inl (cI, 8, .inl (rI (un V k vl)))), (a6, .inl (cI, 8, .inl (rI C))), (a7, .inl (cI, 8, .inl (rI TT))), (us, .inl (cI, 16, .inl (rI US)))])) hx hb hK hP hD hS 13 0 rfl rfl (by omega) (by decide) rfl dL_build_233 (fun H locs hP hD hS => ?_)
                  refine lv_aload hx hb dL_build_234 (lv_at hl 9 rfl) ?_
                  refine lv_iload hx hb dL_build_236 (lv_at hl 5 rfl) ?_
                  refine lv_iload hx hb dL_build_238 (lv_at hl 3 rfl) ?_
                  refine lv_bipush (v := nI 6) hx hb dL_build_240 (by decide) ?_
                  refine lv_ishr hx hb dL_build_242 ?_
                  obtain ⟨xv_9, hxv_9⟩ : ∃ x9 : Int32, x9 = x1 >>> (nI 6 &&& 31) := ⟨_, rfl⟩
                  refine n_top hxv_9.symm ?_
                  refine lv_iload hx hb dL_build_243 (lv_at hl 11 rfl) ?_
                  refine lv_iconst (v := nI 3) hx hb dL_build_245 (ic_3) ?_
                  refine n_iadd hx hb dL_build_246 ?_
                  refine k3_i (mc := 0) (ms := 0) (wa := []) (wc := (wX q cI cZ cJ k V C T B P A n PR ST li w WK so sp CT SC TA)) (wb := [(a5, .inl (cI, 8, .inl (rI (un V k vl)))), (a6, .inl (cI, 8, .inl (rI C))), (a7, .inl (cI, 8, .inl (rI TT))), (us, .inl (cI, 16, .inl (rI US)))]) (va_runS (As := [.int xv_9, .int (nI (9 + 3))]) (rest := [.int (nI k), .ref a6]) ⟨hx, hb, hml, hown, hts⟩ (c_L_below l hst D q cI cZ cJ k V C T B P A n PR ST li w WK so sp CT SC TA H.size xv_9 (9 + 3) (⟨by omega, by omega⟩)) (va_cwS 2 hts gL_build_L_below rfl rfl rfl hd_L_below.2 ⟨(by rw [hR]; first | exact Nat.le_of_ble_eq_true rfl | (dsimp only; omega)), (by rw [hR]; first | exact Nat.le_of_ble_eq_true rfl | (dsimp only; omega))⟩) (pre_S (j_pm (wa := []) (wc := (wX q cI cZ cJ k V C T B P A n PR ST li w WK so sp CT SC TA)) (wb := [(a5, .inl (cI, 8, .inl (rI (un V k vl)))), (a6, .inl (cI, 8, .inl (rI C))), (a7, .inl (cI, 8, .inl (rI TT))), (us, .inl (cI, 16, .inl (rI US)))]) hP) hK (j_mid (wa := []) (wc := (wX q cI cZ cJ k V C T B P A n PR ST li w WK so sp CT SC TA)) (wb := [(a5, .inl (cI, 8, .inl (rI (un V k vl)))), (a6, .inl (cI, 8, .inl (rI C))), (a7, .inl (cI, 8, .inl (rI TT))), (us, .inl (cI, 16, .inl (rI US)))]) hD) hS hA hZ hg) rfl rfl hl.1 rfl (lv_room (Nat.le_of_ble_eq_true rfl)) dL_build_247 ⟨(by rw [hR]; first | exact Nat.le_of_ble_eq_true rfl | (dsimp only; omega)), (by rw [hR]; first | exact Nat.le_of_ble_eq_true rfl | (dsimp only; omega))⟩) hP hD hS hA (fun r_10 ur H locs hp_11 hP hD hS => ?_)
                  have hP : va_P D vwCl ((wX q cI cZ cJ k V C T B P A n PR ST li w WK so sp CT SC TA) ++ [(a5, .inl (cI, 8, .inl (rI (un V k vl)))), (a6, .inl (cI, 8, .inl (rI C))), (a7, .inl (cI, 8, .inl (rI TT))), (us, .inl (cI, 16, .inl (rI US)))]) H := hP
                  have hD : va_D A9 ((wX q cI cZ cJ k V C T B P A n PR ST li w WK so sp CT SC TA) ++ [(a5, .inl (cI, 8, .inl (rI (un V k vl)))), (a6, .inl (cI, 8, .inl (rI C))), (a7, .inl (cI, 8, .inl (rI TT))), (us, .inl (cI, 16, .inl (rI US)))]) := hD
                  obtain ⟨rfl, hp_11⟩ := hp_11
                  have hur := hp_11
                  refine n_iast (ws' := ((wX q cI cZ cJ k V C T B P A n PR ST li w WK so sp CT SC TA) ++ [(a5, .inl (cI, 8, .inl (rI (un V k vl)))), (a6, .inl (cI, 8, .inl (rI (un C k ur)))), (a7, .inl (cI, 8, .inl (rI TT))), (us, .inl (cI, 16, .inl (rI US)))])) hx hb hK hP hD hS 14 0 rfl rfl (by omega) (by decide) rfl dL_build_250 (fun H locs hP hD hS => ?_)
                  refine lv_aload_n hx hb dL_build_251 rfl (lv_at hl 15 rfl) ?_
                  refine lv_iload hx hb dL_build_252 (lv_at hl 2 rfl) ?_
                  refine lv_aload hx hb dL_build_254 (lv_at hl 9 rfl) ?_
                  refine lv_iload hx hb dL_build_256 (lv_at hl 5 rfl) ?_
                  refine n_iald hx hb hK hP 14 0 rfl rfl (by omega) (by decide) dL_build_258 ?_
                  refine n_top (congrArg nI (show (un C k ur) k = ur from un_s)) ?_
                  refine kn3_i (mc := 1) (ms := 6) (wa := []) (wc := (wX q cI cZ cJ k V C T B P A n PR ST li w WK so sp CT SC TA)) (wb := [(a5, .inl (cI, 8, .inl (rI (un V k vl)))), (a6, .inl (cI, 8, .inl (rI (un C k ur)))), (a7, .inl (cI, 8, .inl (rI TT))), (us, .inl (cI, 16, .inl (rI US)))]) (vx_runV (As := [.int (nI vl), .int (nI ur)]) (rest := []) ⟨hx, hb, hml, hown, hts⟩ (c_X0_addKind l hst D q cI cZ cJ k V C T B P A n PR ST li w WK so sp CT SC TA H.size (nI vl) (nI ur) (by omega) hV) (cwV 2 hts gL_build_X0_addKind rfl rfl rfl hd_X0_addKind ⟨(by rw [hR]; first | exact Nat.le_of_ble_eq_true rfl | (dsimp only; omega)), (by rw [hR]; first | exact Nat.le_of_ble_eq_true rfl | (dsimp only; omega))⟩) (pre_V3 (wa := []) (wc := (wX q cI cZ cJ k V C T B P A n PR ST li w WK so sp CT SC TA)) (wb := [(a5, .inl (cI, 8, .inl (rI (un V k vl)))), (a6, .inl (cI, 8, .inl (rI (un C k ur)))), (a7, .inl (cI, 8, .inl (rI TT))), (us, .inl (cI, 16, .inl (rI US)))]) hP hK hD hS hA hZ hg 0 (ci := 0) rfl rfl) rfl rfl hl.1 rfl (lv_room (Nat.le_of_ble_eq_true rfl)) dL_build_259 ⟨(by rw [hR]; first | exact Nat.le_of_ble_eq_true rfl | (dsimp only; omega)), (by rw [hR]; first | exact Nat.le_of_ble_eq_true rfl | (dsimp only; omega))⟩) hP hD hS hA (fun E h => by
                                        rcases h with ⟨-, h⟩ | ⟨-, -, h | ⟨i, h1, h2⟩⟩
                                        · exact h ⟨⟨vl, hvl.1, by omega, rfl⟩, ⟨ur, by omega, by omega, rfl⟩⟩
                                        · omega
                                        · have h3 := hV i h1
                                          exact hnew i h1 ((nI_eq32 (by omega) (by omega)).mp h2)) (fun r_13 u_12 H locs hp_14 hP hD hS => ?_)
                  have hP : va_P D vwCl ((wX q cI cZ cJ (k + 1) (un V k u_12.1) (un C k u_12.2) T B P (un A k 1) n PR ST li w WK so sp CT SC TA) ++ [(a5, .inl (cI, 8, .inl (rI (un V k vl)))), (a6, .inl (cI, 8, .inl (rI (un C k ur)))), (a7, .inl (cI, 8, .inl (rI TT))), (us, .inl (cI, 16, .inl (rI US)))]) H := hP
                  have hD : va_D A9 ((wX q cI cZ cJ (k + 1) (un V k u_12.1) (un C k u_12.2) T B P (un A k 1) n PR ST li w WK so sp CT SC TA) ++ [(a5, .inl (cI, 8, .inl (rI (un V k vl)))), (a6, .inl (cI, 8, .inl (rI (un C k ur)))), (a7, .inl (cI, 8, .inl (rI TT))), (us, .inl (cI, 16, .inl (rI US)))]) := hD
                  obtain ⟨rfl, hp_14⟩ := hp_14
                  have e1 : u_12.1 = vl := (nI_eq32 (by omega) (by omega)).mp hp_14.2.2.2.1.symm
                  have e2 : u_12.2 = ur := (nI_eq32 (by omega) (by omega)).mp hp_14.2.2.2.2.1.symm
                  rw [e1, e2] at hP hD
                  have hk9 : k + 1 ≤ 8 := by omega
                  have hVn : ∀ i, i < k + 1 → 1 ≤ un V k vl i ∧ un V k vl i ≤ 500 := fun i hi => by
                                      by_cases e : i = k
                                      · rw [e, un_s]; exact hvl
                                      · rw [un_n e]; exact hV i (by omega)
                  have hTk : T k = 0 := hT0 k (Nat.le_refl k)
                  have hCn : ∀ i, i < k + 1 → un C k ur i ≤ 60 ∧ T i ≤ un C k ur i := fun i hi => by
                                      by_cases e : i = k
                                      · rw [e, un_s, hTk]; exact ⟨by omega, by omega⟩
                                      · rw [un_n e]; exact hC i (by omega)
                  have hVdn : ∀ i j, i < k + 1 → j < k + 1 → un V k vl i = un V k vl j → i = j := fun i j hi hj h => by
                                      by_cases ei : i = k
                                      · by_cases ej : j = k
                                        · rw [ei, ej]
                                        · rw [ei, un_s, un_n ej] at h; exact absurd h.symm (hnew j (by omega))
                                      · by_cases ej : j = k
                                        · rw [ej, un_s, un_n ei] at h; exact absurd h (hnew i (by omega))
                                        · rw [un_n ei, un_n ej] at h; exact hVd i j (by omega) (by omega) h
                  have hAn : ∀ i, i < k + 1 → un A k 1 i = 1 := fun i hi => by
                                      by_cases e : i = k
                                      · rw [e, un_s]
                                      · rw [un_n e]; exact hAe i (by omega)
                  refine lv_iload hx hb dL_build_262 (lv_at hl 5 rfl) ?_
                  refine n_icmp_eq (tgt := 269) hx hb (by omega) (by omega) dL_build_264 (by decide) (fun c264 => ?_) (fun c264 => ?_)
                  · refine lv_iload hx hb dL_build_269 (lv_at hl 3 rfl) ?_
                    refine lv_iconst (v := nI 5) hx hb dL_build_271 (ic_5) ?_
                    refine lv_ishr hx hb dL_build_272 ?_
                    obtain ⟨xv_15, hxv_15⟩ : ∃ x9 : Int32, x9 = x1 >>> (nI 5 &&& 31) := ⟨_, rfl⟩
                    refine n_top hxv_15.symm ?_
                    refine lv_iload hx hb dL_build_273 (lv_at hl 11 rfl) ?_
                    refine lv_iconst (v := nI 1) hx hb dL_build_275 (ic_1) ?_
                    refine n_iadd hx hb dL_build_276 ?_
                    refine k3_i (mc := 0) (ms := 0) (wa := []) (wc := (wX q cI cZ cJ (k + 1) (un V k vl) (un C k ur) T B P (un A k 1) n PR ST li w WK so sp CT SC TA)) (wb := [(a5, .inl (cI, 8, .inl (rI (un V k vl)))), (a6, .inl (cI, 8, .inl (rI (un C k ur)))), (a7, .inl (cI, 8, .inl (rI TT))), (us, .inl (cI, 16, .inl (rI US)))]) (va_runS (As := [.int xv_15, .int (nI (9 + 1))]) (rest := []) ⟨hx, hb, hml, hown, hts⟩ (c_L_below l hst D q cI cZ cJ (k + 1) (un V k vl) (un C k ur) T B P (un A k 1) n PR ST li w WK so sp CT SC TA H.size xv_15 (9 + 1) (⟨by omega, by omega⟩)) (va_cwS 2 hts gL_build_L_below rfl rfl rfl hd_L_below.2 ⟨(by rw [hR]; first | exact Nat.le_of_ble_eq_true rfl | (dsimp only; omega)), (by rw [hR]; first | exact Nat.le_of_ble_eq_true rfl | (dsimp only; omega))⟩) (pre_S (j_pm (wa := []) (wc := (wX q cI cZ cJ (k + 1) (un V k vl) (un C k ur) T B P (un A k 1) n PR ST li w WK so sp CT SC TA)) (wb := [(a5, .inl (cI, 8, .inl (rI (un V k vl)))), (a6, .inl (cI, 8, .inl (rI (un C k ur)))), (a7, .inl (cI, 8, .inl (rI TT))), (us, .inl (cI, 16, .inl (rI US)))]) hP) hK (j_mid (wa := []) (wc := (wX q cI cZ cJ (k + 1) (un V k vl) (un C k ur) T B P (un A k 1) n PR ST li w WK so sp CT SC TA)) (wb := [(a5, .inl (cI, 8, .inl (rI (un V k vl)))), (a6, .inl (cI, 8, .inl (rI (un C k ur)))), (a7, .inl (cI, 8, .inl (rI TT))), (us, .inl (cI, 16, .inl (rI US)))]) hD) hS hA hZ hg) rfl rfl hl.1 rfl (lv_room (Nat.le_of_ble_eq_true rfl)) dL_build_277 ⟨(by rw [hR]; first | exact Nat.le_of_ble_eq_true rfl | (dsimp only; omega)), (by rw [hR]; first | exact Nat.le_of_ble_eq_true rfl | (dsimp only; omega))⟩) hP hD hS hA (fun r_16 uc H locs hp_17 hP hD hS => ?_)
                    have hP : va_P D vwCl ((wX q cI cZ cJ (k + 1) (un V k vl) (un C k ur) T B P (un A k 1) n PR ST li w WK so sp CT SC TA) ++ [(a5, .inl (cI, 8, .inl (rI (un V k vl)))), (a6, .inl (cI, 8, .inl (rI (un C k ur)))), (a7, .inl (cI, 8, .inl (rI TT))), (us, .inl (cI, 16, .inl (rI US)))]) H := hP
                    have hD : va_D A9 ((wX q cI cZ cJ (k + 1) (un V k vl) (un C k ur) T B P (un A k 1) n PR ST li w WK so sp CT SC TA) ++ [(a5, .inl (cI, 8, .inl (rI (un V k vl)))), (a6, .inl (cI, 8, .inl (rI (un C k ur)))), (a7, .inl (cI, 8, .inl (rI TT))), (us, .inl (cI, 16, .inl (rI US)))]) := hD
                    obtain ⟨rfl, hp_17⟩ := hp_17
                    have huc := hp_17
                    refine lv_istore (lv' := [(15, .int (nI uc)), (14, .int (nI isn)), (13, .int (nI vl)), (12, .int x1), (11, .int (nI kk)), (9, .int (nI k)), (10, .int (nI tr)), (8, .ref us), (7, .ref a7), (6, .ref a6), (5, .ref a5), (4, .int (nI 9)), (3, .int (nI 6)), (2, .int (nI 0)), (1, .ref b), (0, .ref (q 0))]) hx hb dL_build_280 hl (by decide) rfl (fun ls hl => ?_)
                    refine lv_aload hx hb dL_build_282 (lv_at hl 8 rfl) ?_
                    refine lv_iload hx hb dL_build_284 (lv_at hl 5 rfl) ?_
                    refine lv_iload hx hb dL_build_286 (lv_at hl 0 rfl) ?_
                    refine lv_aload hx hb dL_build_288 (lv_at hl 9 rfl) ?_
                    refine lv_iload hx hb dL_build_290 (lv_at hl 5 rfl) ?_
                    refine n_iald hx hb hK hP 14 0 rfl rfl (by omega) (by decide) dL_build_292 ?_
                    refine n_top (congrArg nI (show (un C k ur) k = ur from un_s)) ?_
                    refine va_mmin hx hb (hml.trans hl.1.symm) hown (hts _ (List.mem_of_getElem? (i := 2) rfl)) (hts _ (List.mem_of_getElem? (i := 3) rfl)) (hts _ (List.mem_of_getElem? (i := 4) rfl)) (hts _ (List.mem_of_getElem? (i := 5) rfl)) (by rw [hR]; first | exact Nat.le_of_ble_eq_true rfl | (dsimp only; omega)) (by rw [hR]; first | exact Nat.le_of_ble_eq_true rfl | (dsimp only; omega)) (by rw [hR]; first | exact Nat.le_of_ble_eq_true rfl | (dsimp only; omega)) (by rw [hR]; first | exact Nat.le_of_ble_eq_true rfl | (dsimp only; omega)) dL_build_293 (n_top (nI_min _ _ (by omega) (by omega)) ?_)
                    refine n_iast (ws' := ((wX q cI cZ cJ (k + 1) (un V k vl) (un C k ur) T B P (un A k 1) n PR ST li w WK so sp CT SC TA) ++ [(a5, .inl (cI, 8, .inl (rI (un V k vl)))), (a6, .inl (cI, 8, .inl (rI (un C k ur)))), (a7, .inl (cI, 8, .inl (rI (un TT k (min uc ur))))), (us, .inl (cI, 16, .inl (rI US)))])) hx hb hK hP hD hS 15 0 rfl rfl (by omega) (by decide) rfl dL_build_296 (fun H locs hP hD hS => ?_)
                    refine lv_aload_n hx hb dL_build_297 rfl (lv_at hl 15 rfl) ?_
                    refine lv_iload hx hb dL_build_298 (lv_at hl 5 rfl) ?_
                    refine lv_iload hx hb dL_build_300 (lv_at hl 0 rfl) ?_
                    refine kn3_i (mc := 2) (ms := 12) (wa := []) (wc := (wX q cI cZ cJ (k + 1) (un V k vl) (un C k ur) T B P (un A k 1) n PR ST li w WK so sp CT SC TA)) (wb := [(a5, .inl (cI, 8, .inl (rI (un V k vl)))), (a6, .inl (cI, 8, .inl (rI (un C k ur)))), (a7, .inl (cI, 8, .inl (rI (un TT k (min uc ur))))), (us, .inl (cI, 16, .inl (rI US)))]) (vx_runV (As := [.int (nI k), .int (nI uc)]) (rest := []) ⟨hx, hb, hml, hown, hts⟩ (c_X0_fill l hst D q cI cZ cJ (k + 1) (un V k vl) (un C k ur) T B P (un A k 1) n PR ST li w WK so sp CT SC TA H.size (nI k) (nI uc) hk9 hVn hCn) (cwV 2 hts gL_build_X0_fill rfl rfl rfl hd_X0_fill ⟨(by rw [hR]; first | exact Nat.le_of_ble_eq_true rfl | (dsimp only; omega)), (by rw [hR]; first | exact Nat.le_of_ble_eq_true rfl | (dsimp only; omega))⟩) (pre_V3 (wa := []) (wc := (wX q cI cZ cJ (k + 1) (un V k vl) (un C k ur) T B P (un A k 1) n PR ST li w WK so sp CT SC TA)) (wb := [(a5, .inl (cI, 8, .inl (rI (un V k vl)))), (a6, .inl (cI, 8, .inl (rI (un C k ur)))), (a7, .inl (cI, 8, .inl (rI (un TT k (min uc ur))))), (us, .inl (cI, 16, .inl (rI US)))]) hP hK hD hS hA hZ hg 0 (ci := 0) rfl rfl) rfl rfl hl.1 rfl (lv_room (Nat.le_of_ble_eq_true rfl)) dL_build_302 ⟨(by rw [hR]; first | exact Nat.le_of_ble_eq_true rfl | (dsimp only; omega)), (by rw [hR]; first | exact Nat.le_of_ble_eq_true rfl | (dsimp only; omega))⟩) hP hD hS hA (fun E h => by
                                            rcases h with ⟨-, h⟩ | ⟨-, -, h⟩
                                            · exact h ⟨k, by omega, by omega, rfl⟩
                                            · exact h ⟨uc, by omega, by omega, rfl⟩) (fun r_19 u_18 H locs hp_20 hP hD hS => ?_)
                    have hP : va_P D vwCl ((wX q cI cZ cJ (k + 1) (un V k vl) (un C k ur) (un T u_18.1 (T u_18.1 + min u_18.2 ((un C k ur) u_18.1 - T u_18.1))) B P (un A k 1) n PR ST li w WK so sp (vp_updL CT 4 (CT 4 + lZ ((min u_18.2 ((un C k ur) u_18.1 - T u_18.1) * (un V k vl) u_18.1 : Nat) : Int))) SC TA) ++ [(a5, .inl (cI, 8, .inl (rI (un V k vl)))), (a6, .inl (cI, 8, .inl (rI (un C k ur)))), (a7, .inl (cI, 8, .inl (rI (un TT k (min uc ur))))), (us, .inl (cI, 16, .inl (rI US)))]) H := hP
                    have hD : va_D A9 ((wX q cI cZ cJ (k + 1) (un V k vl) (un C k ur) (un T u_18.1 (T u_18.1 + min u_18.2 ((un C k ur) u_18.1 - T u_18.1))) B P (un A k 1) n PR ST li w WK so sp (vp_updL CT 4 (CT 4 + lZ ((min u_18.2 ((un C k ur) u_18.1 - T u_18.1) * (un V k vl) u_18.1 : Nat) : Int))) SC TA) ++ [(a5, .inl (cI, 8, .inl (rI (un V k vl)))), (a6, .inl (cI, 8, .inl (rI (un C k ur)))), (a7, .inl (cI, 8, .inl (rI (un TT k (min uc ur))))), (us, .inl (cI, 16, .inl (rI US)))]) := hD
                    obtain ⟨rfl, hp_20⟩ := hp_20
                    have e3 : u_18.1 = k := (nI_eq32 (by omega) (by omega)).mp hp_20.2.2.1.symm
                    have e4 : u_18.2 = uc := (nI_eq32 (by omega) (by omega)).mp hp_20.2.2.2.symm
                    rw [e3, e4, un_s (f := C) (i := k) (x := ur), hTk, Nat.sub_zero, Nat.zero_add] at hP hD
                    rw [e3, e4, un_s (f := C) (i := k) (x := ur), hTk, Nat.sub_zero]
                    have hCm : ∀ i, i < k + 1 → un C k ur i ≤ 60 ∧ un T k (min uc ur) i ≤ un C k ur i := fun i hi => by
                                          by_cases e : i = k
                                          · rw [e, un_s, un_s]; exact ⟨by omega, by omega⟩
                                          · rw [un_n e, un_n e]; exact hC i (by omega)
                    have hTn : ∀ i, k + 1 ≤ i → un T k (min uc ur) i = 0 := fun i hi => by rw [un_n (by omega)]; exact hT0 i (by omega)
                    have hCTn : ∀ j, j ≠ 4 → (vp_updL CT 4 (CT 4 + lZ ((min uc ur * un V k vl k : Nat) : Int))) j = CT0 j := fun j hj => by rw [updL_n hj]; exact hCT j hj
                    have hk2n : kk + 1 = 0 ∨ 1 ≤ k + 1 := Or.inr (by omega)
                    refine lv_iload hx hb dL_build_305 (lv_at hl 0 rfl) ?_
                    refine lv_aload hx hb dL_build_307 (lv_at hl 8 rfl) ?_
                    refine lv_iload hx hb dL_build_309 (lv_at hl 5 rfl) ?_
                    refine n_iald hx hb hK hP 15 0 rfl rfl (by omega) (by decide) dL_build_311 ?_
                    refine n_top (congrArg nI (show (un TT k (min uc ur)) k = min uc ur from un_s)) ?_
                    refine n_isub hx hb (by omega) dL_build_312 ?_
                    refine n_icmp_eq (tgt := 318) hx hb (by omega) (by omega) dL_build_313 (by decide) (fun c313 => ?_) (fun c313 => ?_)
                    · refine lv_iinc (v := nI (k + 1)) (lv' := [(9, .int (nI (k + 1))), (15, .int (nI uc)), (14, .int (nI isn)), (13, .int (nI vl)), (12, .int x1), (11, .int (nI kk)), (10, .int (nI tr)), (8, .ref us), (7, .ref a7), (6, .ref a6), (5, .ref a5), (4, .int (nI 9)), (3, .int (nI 6)), (2, .int (nI 0)), (1, .ref b), (0, .ref (q 0))]) hx hb dL_build_318 hl (k := 5) rfl (ni_inc _ 1) (by decide) rfl (fun ls hl => ?_)
                      refine lv_iinc (v := nI (kk + 1)) (lv' := [(11, .int (nI (kk + 1))), (9, .int (nI (k + 1))), (15, .int (nI uc)), (14, .int (nI isn)), (13, .int (nI vl)), (12, .int x1), (10, .int (nI tr)), (8, .ref us), (7, .ref a7), (6, .ref a6), (5, .ref a5), (4, .int (nI 9)), (3, .int (nI 6)), (2, .int (nI 0)), (1, .ref b), (0, .ref (q 0))]) hx hb dL_build_321 hl (k := 5) rfl (ni_inc _ 1) (by decide) rfl (fun ls hl => ?_)
                      refine lv_goto (tgt := 111) hx hb dL_build_324 (by decide) ?_
                      refine W.widen (k := 1 + 3 * (kk + 1)) (n := 16 + 18 * (kk + 1)) (by omega) (by omega) ?_
                      exact ih_111 (kk + 1) (k + 1) (un V k vl) (un C k ur) (un T k (min uc ur)) (un A k 1) (vp_updL CT 4 (CT 4 + lZ ((min uc ur * un V k vl k : Nat) : Int))) (un TT k (min uc ur)) (by omega) (by omega) (by omega) hk2n hVn hCm hVdn hAn hTn hCTn _ _ hP hD hS ls (lv_sub hl [0, 1, 6, 7, 8, 9, 10, 11, 12, 13, 14, 15] rfl)
                    · exact absurd rfl c313
                  · exact absurd rfl c264
                · have hk2n : kk + 1 = 0 ∨ 1 ≤ k := Or.inr (isNw_old hne c221)
                  have hVn := hV
                  have hCm := hC
                  have hVdn := hVd
                  have hAn := hAe
                  have hTn := hT0
                  have hCTn := hCT
                  refine lv_goto (tgt := 321) hx hb dL_build_224 (by decide) ?_
                  refine lv_iinc (v := nI (kk + 1)) (lv' := [(11, .int (nI (kk + 1))), (15, .int (nI i)), (14, .int (nI isn)), (13, .int (nI vl)), (12, .int x1), (9, .int (nI k)), (10, .int (nI tr)), (8, .ref us), (7, .ref a7), (6, .ref a6), (5, .ref a5), (4, .int (nI 9)), (3, .int (nI 6)), (2, .int (nI 0)), (1, .ref b), (0, .ref (q 0))]) hx hb dL_build_321 hl (k := 4) rfl (ni_inc _ 1) (by decide) rfl (fun ls hl => ?_)
                  refine lv_goto (tgt := 111) hx hb dL_build_324 (by decide) ?_
                  refine W.widen (k := 1 + 3 * (kk + 1)) (n := 16 + 18 * (kk + 1)) (by omega) (by omega) ?_
                  exact ih_111 (kk + 1) k V C T A CT TT (by omega) (by omega) (by omega) hk2n hVn hCm hVdn hAn hTn hCTn _ _ hP hD hS ls (lv_sub hl [0, 5, 6, 7, 8, 9, 10, 11, 12, 13, 14, 15] rfl)
              · refine lv_iload hx hb dL_build_191 (lv_at hl 1 rfl) ?_
                refine n_if_eq (tgt := 210) hx hb (by omega) dL_build_193 (by decide) (fun c193 => ?_) (fun c193 => ?_)
                · have hne2 := isNw_z hne c193
                  refine lv_iconst (v := nI 0) hx hb dL_build_210 (ic_0) ?_
                  refine lv_istore (lv' := [(14, .int (nI 0)), (15, .int (nI i)), (13, .int (nI vl)), (12, .int x1), (11, .int (nI kk)), (9, .int (nI k)), (10, .int (nI tr)), (8, .ref us), (7, .ref a7), (6, .ref a6), (5, .ref a5), (4, .int (nI 9)), (3, .int (nI 6)), (2, .int (nI 0)), (1, .ref b), (0, .ref (q 0))]) hx hb dL_build_211 hl (by decide) rfl (fun ls hl => ?_)
                  refine lv_iinc (v := nI (i + 1)) (lv' := [(15, .int (nI (i + 1))), (14, .int (nI 0)), (13, .int (nI vl)), (12, .int x1), (11, .int (nI kk)), (9, .int (nI k)), (10, .int (nI tr)), (8, .ref us), (7, .ref a7), (6, .ref a6), (5, .ref a5), (4, .int (nI 9)), (3, .int (nI 6)), (2, .int (nI 0)), (1, .ref b), (0, .ref (q 0))]) hx hb dL_build_213 hl (k := 1) rfl (ni_inc _ 1) (by decide) rfl (fun ls hl => ?_)
                  refine lv_goto (tgt := 184) hx hb dL_build_216 (by decide) ?_
                  exact ih_184 (i + 1) 0 (by omega) (by omega) (by omega) hne2 _ _ hP hD hS ls (lv_sub hl [0, 1, 2, 3, 4, 5, 6, 7, 8, 9, 10, 11, 12, 13, 14, 15] rfl)
                · refine lv_aload hx hb dL_build_196 (lv_at hl 10 rfl) ?_
                  refine lv_iload hx hb dL_build_198 (lv_at hl 0 rfl) ?_
                  refine n_iald hx hb hK hP 13 0 rfl rfl (by omega) (by decide) dL_build_200 ?_
                  refine lv_iload hx hb dL_build_201 (lv_at hl 2 rfl) ?_
                  refine n_icmp_eq (tgt := 210) hx hb (by have := hV i (by omega); omega) (by omega) dL_build_203 (by decide) (fun c203 => ?_) (fun c203 => ?_)
                  · have hne2 := isNw_e (V := V) c203
                    refine lv_iconst (v := nI 0) hx hb dL_build_210 (ic_0) ?_
                    refine lv_istore (lv' := [(14, .int (nI 0)), (15, .int (nI i)), (13, .int (nI vl)), (12, .int x1), (11, .int (nI kk)), (9, .int (nI k)), (10, .int (nI tr)), (8, .ref us), (7, .ref a7), (6, .ref a6), (5, .ref a5), (4, .int (nI 9)), (3, .int (nI 6)), (2, .int (nI 0)), (1, .ref b), (0, .ref (q 0))]) hx hb dL_build_211 hl (by decide) rfl (fun ls hl => ?_)
                    refine lv_iinc (v := nI (i + 1)) (lv' := [(15, .int (nI (i + 1))), (14, .int (nI 0)), (13, .int (nI vl)), (12, .int x1), (11, .int (nI kk)), (9, .int (nI k)), (10, .int (nI tr)), (8, .ref us), (7, .ref a7), (6, .ref a6), (5, .ref a5), (4, .int (nI 9)), (3, .int (nI 6)), (2, .int (nI 0)), (1, .ref b), (0, .ref (q 0))]) hx hb dL_build_213 hl (k := 1) rfl (ni_inc _ 1) (by decide) rfl (fun ls hl => ?_)
                    refine lv_goto (tgt := 184) hx hb dL_build_216 (by decide) ?_
                    exact ih_184 (i + 1) 0 (by omega) (by omega) (by omega) hne2 _ _ hP hD hS ls (lv_sub hl [0, 1, 2, 3, 4, 5, 6, 7, 8, 9, 10, 11, 12, 13, 14, 15] rfl)
                  · have hne2 := isNw_n hne c193 his c203
                    refine lv_iconst (v := nI 1) hx hb dL_build_206 (ic_1) ?_
                    refine lv_goto (tgt := 211) hx hb dL_build_207 (by decide) ?_
                    refine lv_istore (lv' := [(14, .int (nI 1)), (15, .int (nI i)), (13, .int (nI vl)), (12, .int x1), (11, .int (nI kk)), (9, .int (nI k)), (10, .int (nI tr)), (8, .ref us), (7, .ref a7), (6, .ref a6), (5, .ref a5), (4, .int (nI 9)), (3, .int (nI 6)), (2, .int (nI 0)), (1, .ref b), (0, .ref (q 0))]) hx hb dL_build_211 hl (by decide) rfl (fun ls hl => ?_)
                    refine lv_iinc (v := nI (i + 1)) (lv' := [(15, .int (nI (i + 1))), (14, .int (nI 1)), (13, .int (nI vl)), (12, .int x1), (11, .int (nI kk)), (9, .int (nI k)), (10, .int (nI tr)), (8, .ref us), (7, .ref a7), (6, .ref a6), (5, .ref a5), (4, .int (nI 9)), (3, .int (nI 6)), (2, .int (nI 0)), (1, .ref b), (0, .ref (q 0))]) hx hb dL_build_213 hl (k := 1) rfl (ni_inc _ 1) (by decide) rfl (fun ls hl => ?_)
                    refine lv_goto (tgt := 184) hx hb dL_build_216 (by decide) ?_
                    exact ih_184 (i + 1) 1 (by omega) (by omega) (by omega) hne2 _ _ hP hD hS ls (lv_sub hl [0, 1, 2, 3, 4, 5, 6, 7, 8, 9, 10, 11, 12, 13, 14, 15] rfl)
          exact lp_184 _ 0 1 (Nat.lt_succ_self _) (by omega) (by omega) (isNw_0 V vl) _ _ hP hD hS ls (lv_sub hl [0, 1, 2, 3, 4, 5, 6, 7, 8, 9, 10, 11, 12, 13, 14, 15] rfl)
        refine lv_iload hx hb dL_build_140 (lv_at hl 0 rfl) ?_
        refine lv_bipush (v := nI 6) hx hb dL_build_142 (by decide) ?_
        refine k3_i (mc := 0) (ms := 0) (wa := []) (wc := (wX q cI cZ cJ k V C T B P A n PR ST li w WK so sp CT SC TA)) (wb := [(a5, .inl (cI, 8, .inl (rI V))), (a6, .inl (cI, 8, .inl (rI C))), (a7, .inl (cI, 8, .inl (rI TT))), (us, .inl (cI, 16, .inl (rI US)))]) (va_runS (As := [.int x1, .int (nI 6)]) (rest := []) ⟨hx, hb, hml, hown, hts⟩ (c_L_below l hst D q cI cZ cJ k V C T B P A n PR ST li w WK so sp CT SC TA H.size x1 6 (⟨by omega, by omega⟩)) (va_cwS 2 hts gL_build_L_below rfl rfl rfl hd_L_below.2 ⟨(by rw [hR]; first | exact Nat.le_of_ble_eq_true rfl | (dsimp only; omega)), (by rw [hR]; first | exact Nat.le_of_ble_eq_true rfl | (dsimp only; omega))⟩) (pre_S (j_pm (wa := []) (wc := (wX q cI cZ cJ k V C T B P A n PR ST li w WK so sp CT SC TA)) (wb := [(a5, .inl (cI, 8, .inl (rI V))), (a6, .inl (cI, 8, .inl (rI C))), (a7, .inl (cI, 8, .inl (rI TT))), (us, .inl (cI, 16, .inl (rI US)))]) hP) hK (j_mid (wa := []) (wc := (wX q cI cZ cJ k V C T B P A n PR ST li w WK so sp CT SC TA)) (wb := [(a5, .inl (cI, 8, .inl (rI V))), (a6, .inl (cI, 8, .inl (rI C))), (a7, .inl (cI, 8, .inl (rI TT))), (us, .inl (cI, 16, .inl (rI US)))]) hD) hS hA hZ hg) rfl rfl hl.1 rfl (lv_room (Nat.le_of_ble_eq_true rfl)) dL_build_144 ⟨(by rw [hR]; first | exact Nat.le_of_ble_eq_true rfl | (dsimp only; omega)), (by rw [hR]; first | exact Nat.le_of_ble_eq_true rfl | (dsimp only; omega))⟩) hP hD hS hA (fun r_22 u_21 H locs hp_23 hP hD hS => ?_)
        have hP : va_P D vwCl ((wX q cI cZ cJ k V C T B P A n PR ST li w WK so sp CT SC TA) ++ [(a5, .inl (cI, 8, .inl (rI V))), (a6, .inl (cI, 8, .inl (rI C))), (a7, .inl (cI, 8, .inl (rI TT))), (us, .inl (cI, 16, .inl (rI US)))]) H := hP
        have hD : va_D A9 ((wX q cI cZ cJ k V C T B P A n PR ST li w WK so sp CT SC TA) ++ [(a5, .inl (cI, 8, .inl (rI V))), (a6, .inl (cI, 8, .inl (rI C))), (a7, .inl (cI, 8, .inl (rI TT))), (us, .inl (cI, 16, .inl (rI US)))]) := hD
        obtain ⟨rfl, hp_23⟩ := hp_23
        have hu6 := hp_23
        refine n_if_ne (tgt := 164) hx hb (by omega) dL_build_147 (by decide) (fun c147 => ?_) (fun c147 => ?_)
        · refine lv_aload hx hb dL_build_164 (lv_at hl 4 rfl) ?_
          refine lv_iload hx hb dL_build_166 (lv_at hl 0 rfl) ?_
          refine lv_iconst (v := nI 3) hx hb dL_build_168 (ic_3) ?_
          refine lv_ishr hx hb dL_build_169 ?_
          obtain ⟨xv_24, hxv_24⟩ : ∃ x9 : Int32, x9 = x1 >>> (nI 3 &&& 31) := ⟨_, rfl⟩
          refine n_top hxv_24.symm ?_
          refine lv_bipush (v := nI 16) hx hb dL_build_170 (by decide) ?_
          refine k3_i (mc := 0) (ms := 0) (wa := []) (wc := (wX q cI cZ cJ k V C T B P A n PR ST li w WK so sp CT SC TA)) (wb := [(a5, .inl (cI, 8, .inl (rI V))), (a6, .inl (cI, 8, .inl (rI C))), (a7, .inl (cI, 8, .inl (rI TT))), (us, .inl (cI, 16, .inl (rI US)))]) (va_runS (As := [.int xv_24, .int (nI 16)]) (rest := [.ref us]) ⟨hx, hb, hml, hown, hts⟩ (c_L_below l hst D q cI cZ cJ k V C T B P A n PR ST li w WK so sp CT SC TA H.size xv_24 16 (⟨by omega, by omega⟩)) (va_cwS 2 hts gL_build_L_below rfl rfl rfl hd_L_below.2 ⟨(by rw [hR]; first | exact Nat.le_of_ble_eq_true rfl | (dsimp only; omega)), (by rw [hR]; first | exact Nat.le_of_ble_eq_true rfl | (dsimp only; omega))⟩) (pre_S (j_pm (wa := []) (wc := (wX q cI cZ cJ k V C T B P A n PR ST li w WK so sp CT SC TA)) (wb := [(a5, .inl (cI, 8, .inl (rI V))), (a6, .inl (cI, 8, .inl (rI C))), (a7, .inl (cI, 8, .inl (rI TT))), (us, .inl (cI, 16, .inl (rI US)))]) hP) hK (j_mid (wa := []) (wc := (wX q cI cZ cJ k V C T B P A n PR ST li w WK so sp CT SC TA)) (wb := [(a5, .inl (cI, 8, .inl (rI V))), (a6, .inl (cI, 8, .inl (rI C))), (a7, .inl (cI, 8, .inl (rI TT))), (us, .inl (cI, 16, .inl (rI US)))]) hD) hS hA hZ hg) rfl rfl hl.1 rfl (lv_room (Nat.le_of_ble_eq_true rfl)) dL_build_172 ⟨(by rw [hR]; first | exact Nat.le_of_ble_eq_true rfl | (dsimp only; omega)), (by rw [hR]; first | exact Nat.le_of_ble_eq_true rfl | (dsimp only; omega))⟩) hP hD hS hA (fun r_26 u_25 H locs hp_27 hP hD hS => ?_)
          have hP : va_P D vwCl ((wX q cI cZ cJ k V C T B P A n PR ST li w WK so sp CT SC TA) ++ [(a5, .inl (cI, 8, .inl (rI V))), (a6, .inl (cI, 8, .inl (rI C))), (a7, .inl (cI, 8, .inl (rI TT))), (us, .inl (cI, 16, .inl (rI US)))]) H := hP
          have hD : va_D A9 ((wX q cI cZ cJ k V C T B P A n PR ST li w WK so sp CT SC TA) ++ [(a5, .inl (cI, 8, .inl (rI V))), (a6, .inl (cI, 8, .inl (rI C))), (a7, .inl (cI, 8, .inl (rI TT))), (us, .inl (cI, 16, .inl (rI US)))]) := hD
          obtain ⟨rfl, hp_27⟩ := hp_27
          have hU1 := hU u_25 hp_27
          refine n_iald hx hb hK hP 16 0 rfl rfl hp_27 (by decide) dL_build_175 ?_
          exact lp_176 (US u_25) (by omega) _ _ hP hD hS ls (lv_sub hl [0, 1, 2, 3, 4, 5, 6, 7, 8, 9, 10, 11, 12] rfl)
        · refine lv_iconst (v := nI 1) hx hb dL_build_150 (ic_1) ?_
          refine lv_iload hx hb dL_build_151 (lv_at hl 0 rfl) ?_
          refine lv_iconst (v := nI 3) hx hb dL_build_153 (ic_3) ?_
          refine lv_ishr hx hb dL_build_154 ?_
          obtain ⟨xv_28, hxv_28⟩ : ∃ x9 : Int32, x9 = x1 >>> (nI 3 &&& 31) := ⟨_, rfl⟩
          refine n_top hxv_28.symm ?_
          refine lv_bipush (v := nI 60) hx hb dL_build_155 (by decide) ?_
          refine k3_i (mc := 0) (ms := 0) (wa := []) (wc := (wX q cI cZ cJ k V C T B P A n PR ST li w WK so sp CT SC TA)) (wb := [(a5, .inl (cI, 8, .inl (rI V))), (a6, .inl (cI, 8, .inl (rI C))), (a7, .inl (cI, 8, .inl (rI TT))), (us, .inl (cI, 16, .inl (rI US)))]) (va_runS (As := [.int xv_28, .int (nI 60)]) (rest := [.int (nI 1)]) ⟨hx, hb, hml, hown, hts⟩ (c_L_below l hst D q cI cZ cJ k V C T B P A n PR ST li w WK so sp CT SC TA H.size xv_28 60 (⟨by omega, by omega⟩)) (va_cwS 2 hts gL_build_L_below rfl rfl rfl hd_L_below.2 ⟨(by rw [hR]; first | exact Nat.le_of_ble_eq_true rfl | (dsimp only; omega)), (by rw [hR]; first | exact Nat.le_of_ble_eq_true rfl | (dsimp only; omega))⟩) (pre_S (j_pm (wa := []) (wc := (wX q cI cZ cJ k V C T B P A n PR ST li w WK so sp CT SC TA)) (wb := [(a5, .inl (cI, 8, .inl (rI V))), (a6, .inl (cI, 8, .inl (rI C))), (a7, .inl (cI, 8, .inl (rI TT))), (us, .inl (cI, 16, .inl (rI US)))]) hP) hK (j_mid (wa := []) (wc := (wX q cI cZ cJ k V C T B P A n PR ST li w WK so sp CT SC TA)) (wb := [(a5, .inl (cI, 8, .inl (rI V))), (a6, .inl (cI, 8, .inl (rI C))), (a7, .inl (cI, 8, .inl (rI TT))), (us, .inl (cI, 16, .inl (rI US)))]) hD) hS hA hZ hg) rfl rfl hl.1 rfl (lv_room (Nat.le_of_ble_eq_true rfl)) dL_build_157 ⟨(by rw [hR]; first | exact Nat.le_of_ble_eq_true rfl | (dsimp only; omega)), (by rw [hR]; first | exact Nat.le_of_ble_eq_true rfl | (dsimp only; omega))⟩) hP hD hS hA (fun r_30 u_29 H locs hp_31 hP hD hS => ?_)
          have hP : va_P D vwCl ((wX q cI cZ cJ k V C T B P A n PR ST li w WK so sp CT SC TA) ++ [(a5, .inl (cI, 8, .inl (rI V))), (a6, .inl (cI, 8, .inl (rI C))), (a7, .inl (cI, 8, .inl (rI TT))), (us, .inl (cI, 16, .inl (rI US)))]) H := hP
          have hD : va_D A9 ((wX q cI cZ cJ k V C T B P A n PR ST li w WK so sp CT SC TA) ++ [(a5, .inl (cI, 8, .inl (rI V))), (a6, .inl (cI, 8, .inl (rI C))), (a7, .inl (cI, 8, .inl (rI TT))), (us, .inl (cI, 16, .inl (rI US)))]) := hD
          obtain ⟨rfl, hp_31⟩ := hp_31
          have hu60 := hp_31
          refine n_iadd hx hb dL_build_160 ?_
          refine lv_goto (tgt := 176) hx hb dL_build_161 (by decide) ?_
          exact lp_176 (1 + u_29) (by omega) _ _ hP hD hS ls (lv_sub hl [0, 1, 2, 3, 4, 5, 6, 7, 8, 9, 10, 11, 12] rfl)
  refine W.widen (k := 1 + 3 * 0) (n := 16 + 18 * 0) (by omega) (by omega) ?_
  exact lp_111 _ 0 0 V C T A CT TT (Nat.lt_succ_self _) (by omega) (by omega) (Or.inl rfl) (fun i h => absurd h (Nat.not_lt_zero i)) (fun i h => absurd h (Nat.not_lt_zero i)) (fun i j h => absurd h (Nat.not_lt_zero i)) (fun i h => absurd h (Nat.not_lt_zero i)) (fun i _ => hT00 i) hCT00 _ _ hP hD hS ls (lv_sub hl [0, 2, 1, 3, 11, 10, 9, 8, 7, 6, 5, 4] rfl)
theorem hd_L_build : yL_build.cls = RL ∧ yL_build.cls ≠ "java/lang/invoke/MethodHandle" ∧ yL_build.cls ≠ "java/lang/invoke/VarHandle" ∧ (parseMethodDescriptor yL_build.desc).map (fun d => d.parameters.length) = some 8 := by decide +kernel

