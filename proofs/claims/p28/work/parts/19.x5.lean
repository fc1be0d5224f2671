set_option maxHeartbeats 4000000 in
set_option maxRecDepth 100000 in
theorem c_X0_buy (l : Launch) (hst : l.stackTraces = false) (D : va_G) (q : Nat → Nat) (cI cZ cJ : ClassId) (k : Nat) (V : Nat → Nat) (C : Nat → Nat) (T : Nat → Nat) (B : Nat → Nat) (P : Nat → Nat) (A : Nat → Nat) (n : Nat) (PR : Nat → Nat) (ST : Nat → Nat) (li : Nat) (w : Nat) (WK : Nat → Nat) (so : Nat) (sp : Nat) (CT : Nat → Int64) (SC : Nat → Int) (TA : Nat → Nat) (sz : Nat) (p0 : Int32) (hk8 : k ≤ 8) (hV : ∀ i, i < k → 1 ≤ V i ∧ V i ≤ 500) (hC : ∀ i, i < k → C i ≤ 60 ∧ T i ≤ C i) (hVd : ∀ i j, i < k → j < k → V i = V j → i = j) (hn10 : n ≤ 10) (hPR : ∀ j, j < n → 1 ≤ PR j ∧ PR j ≤ 2000 ∧ ST j ≤ 99) (hw12 : w ≤ 12) (hWK : ∀ j, j < w → WK j < k) (hcr : cr V WK w ≤ 2000) : vx_Met l yX0_buy wsX0_buy ({ frames := 7, cells := 1, slots := 6, locals := 111 }) (va_Pc [.ref (q 0), .int p0] (cxP D (ty3 cI cZ cJ) (wX q cI cZ cJ k V C T B P A n PR ST li w WK so sp CT SC TA) sz)) (va_Qi (fun r (u : Nat × Nat × (Nat → Nat) × (Nat → Nat) × (Nat → Nat) × Nat × (Nat → Nat) × Nat × Nat × (Nat → Int64) × (Nat → Int) × (Nat → Nat)) => r = nI u.2.1 ∧ u.1 < n ∧ p0 = nI u.1 ∧ buyP k V C T B P PR ST w WK so sp CT u.1 u.2.1 u.2.2.1 u.2.2.2.1 u.2.2.2.2.1 u.2.2.2.2.2.1 u.2.2.2.2.2.2.1 u.2.2.2.2.2.2.2.1 u.2.2.2.2.2.2.2.2.1 u.2.2.2.2.2.2.2.2.2.1) (bW D (va_A (wX q cI cZ cJ k V C T B P A n PR ST li w WK so sp CT SC TA) sz) (fun u => (wX q cI cZ cJ k V C u.2.2.1 u.2.2.2.1 u.2.2.2.2.1 A n PR u.2.2.2.2.2.2.1 li u.2.2.2.2.2.1 WK u.2.2.2.2.2.2.2.1 u.2.2.2.2.2.2.2.2.1 u.2.2.2.2.2.2.2.2.2.1 u.2.2.2.2.2.2.2.2.2.2.1 u.2.2.2.2.2.2.2.2.2.2.2))) (va_A (wX q cI cZ cJ k V C T B P A n PR ST li w WK so sp CT SC TA) sz)) (xX D (fun E => E = eIB ∧ ¬ rg p0 0 n) (wX q cI cZ cJ k V C T B P A n PR ST li w WK so sp CT SC TA) (va_A (wX q cI cZ cJ k V C T B P A n PR ST li w WK so sp CT SC TA) sz)) 1 6 (va_A (wX q cI cZ cJ k V C T B P A n PR ST li w WK so sp CT SC TA) sz) := by
  refine vx_ofW (cc := cX0_buy) (maxL := 6) (ret := (some .int)) (by decide) rfl ?_
  intro p e s m args below meth c s₁ BB hml hout hv
  obtain ⟨hav, hsz, hP, hK, hD0, hZ, hg⟩ := hv
  subst hsz
  subst hav
  have hx := BB.exec
  have hb := BB.bytes
  have hr := BB.returns
  have hts := atoms_spec (ws := wsX0_buy) BB.pre
  have hown : s.vm.findClass RX0 = some m.cls := findClass_of_methodNamed BB.named
  have hlocks := BB.notSynchronized
  have hin : ∀ w ∈ wsX00, w ∈ wsX0_buy := fun w h => (List.mem_cons_of_mem _ (List.mem_append_left _ (List.mem_append_right _ h)))
  have hD := hD0.self (sz := s.heap.size)
  have hA : ∀ q9 : Nat, s.heap.size ≤ q9 → va_A (wX q cI cZ cJ k V C T B P A n PR ST li w WK so sp CT SC TA) s.heap.size q9 := fun _ h => Or.inr h
  have hl := lv_entry ([.ref (q 0), .int p0]) (n := 6) (Nat.le_of_ble_eq_true rfl)
  rw [lg_entry_eq]
  generalize (lg_sl ([.ref (q 0), .int p0]) ++ List.replicate (6 - (lg_sl ([.ref (q 0), .int p0])).length) Slot.unset).toArray = ls at hl ⊢
  have hl : lv_has ls 6 [(0, .ref (q 0)), (1, .int p0)] := hl
  refine W_absR (fun R hR => ?_)
  have hR : R = ({ frames := 7, cells := 1, slots := 6, locals := 111 } : Room) := hR
  refine W_absQ (fun Q hQ => ?_)
  generalize ([.ref (q 0), .int p0] : List Value).toArray = args at hts hQ ⊢
  generalize va_A (wX q cI cZ cJ k V C T B P A n PR ST li w WK so sp CT SC TA) s.heap.size = A9 at hD hZ hA hQ
  refine W_start hP (A := A9) (fun H locs hP hS => ?_)
  refine lv_aload_n hx hb dX0_buy_0 rfl (lv_at hl 0 rfl) ?_
  refine lv_iload_n hx hb dX0_buy_1 rfl (lv_at hl 1 rfl) ?_
  subst hQ
  refine kx_v (vx_runV (As := [.int p0]) (rest := []) ⟨hx, hb, hml, hown, hts⟩ (c_X0_checkProduct l hst D q cI cZ cJ k V C T B P A n PR ST li w WK so sp CT SC TA H.size p0 hn10) (cwV 1 hts gX0_buy_X0_checkProduct rfl rfl rfl hd_X0_checkProduct ⟨(by rw [hR]; exact Nat.le_of_ble_eq_true rfl), (by rw [hR]; exact Nat.le_of_ble_eq_true rfl)⟩) (pre_V hP hK hD hS hA hZ hg 0 (ci := 0) rfl rfl) rfl rfl hl.1 rfl (lv_room (Nat.le_of_ble_eq_true rfl)) dX0_buy_2 ⟨(by rw [hR]; exact Nat.le_of_ble_eq_true rfl), (by rw [hR]; exact Nat.le_of_ble_eq_true rfl)⟩) hD hS hA rfl (fun E h => h) hout hlocks (Nat.le_of_ble_eq_true rfl) (Nat.le_of_ble_eq_true rfl) (fun u_1 H locs hp_3 hP hD hS => ?_)
  refine W_absQ (fun Q hQ => ?_)
  obtain ⟨j0, j0a, j0b, rfl⟩ := hp_3
  refine lv_aload_n hx hb dX0_buy_5 rfl (lv_at hl 0 rfl) ?_
  refine gfX hx hb hts hin hown hK hP 9 (by decide) (List.mem_of_getElem? (i := 1) rfl) rfl rfl dX0_buy_6 ?_
  refine lv_iload_n hx hb dX0_buy_9 rfl (lv_at hl 1 rfl) ?_
  refine n_iald hx hb hK hP 8 0 rfl rfl (by omega) (by decide) dX0_buy_10 ?_
  refine n_if_ne (tgt := 16) hx hb (by have := hPR j0 j0b; omega) dX0_buy_11 (by decide) (fun c11 => ?_) (fun c11 => ?_)
  · refine lv_aload_n hx hb dX0_buy_16 rfl (lv_at hl 0 rfl) ?_
    refine gfX hx hb hts hin hown hK hP 8 (by decide) (List.mem_of_getElem? (i := 2) rfl) rfl rfl dX0_buy_17 ?_
    refine lv_iload_n hx hb dX0_buy_20 rfl (lv_at hl 1 rfl) ?_
    refine n_iald hx hb hK hP 7 0 rfl rfl (by omega) (by decide) dX0_buy_21 ?_
    refine lv_istore_n (lv' := [(2, .int (nI (PR j0))), (0, .ref (q 0)), (1, .int (nI j0))]) hx hb dX0_buy_22 rfl hl (by decide) rfl (fun ls hl => ?_)
    refine lv_aload_n hx hb dX0_buy_23 rfl (lv_at hl 1 rfl) ?_
    refine k_i (va_runV (As := []) (rest := []) ⟨hx, hb, hml, hown, hts⟩ (c_X0_credit l hst D q cI cZ cJ k V C T B P A n PR ST li w WK so sp CT SC TA H.size hw12 hk8 hWK hV) (cwV 0 hts gX0_buy_X0_credit rfl rfl rfl hd_X0_credit ⟨(by rw [hR]; exact Nat.le_of_ble_eq_true rfl), (by rw [hR]; exact Nat.le_of_ble_eq_true rfl)⟩) (pre_V hP hK hD hS hA hZ hg 0 (ci := 0) rfl rfl) rfl rfl hl.1 rfl (lv_room (Nat.le_of_ble_eq_true rfl)) dX0_buy_24 ⟨(by rw [hR]; exact Nat.le_of_ble_eq_true rfl), (by rw [hR]; exact Nat.le_of_ble_eq_true rfl)⟩) hD hS hA (fun r_5 u_4 H locs hp_6 hP hD hS => ?_)
    subst hp_6
    rw [crk_cr V WK k w hWK]
    refine lv_iload_n hx hb dX0_buy_27 rfl (lv_at hl 0 rfl) ?_
    rcases Nat.lt_or_ge (cr V WK w) (PR j0) with hlt | hge
    · refine lv_isub hx hb dX0_buy_28 ?_
      refine lv_istore_n (lv' := [(3, .int (nI (cr V WK w) - nI (PR j0))), (2, .int (nI (PR j0))), (0, .ref (q 0)), (1, .int (nI j0))]) hx hb dX0_buy_29 rfl hl (by decide) rfl (fun ls hl => ?_)
      refine lv_iload_n hx hb dX0_buy_30 rfl (lv_at hl 0 rfl) ?_
      refine lv_if_ge (tgt := 36) hx hb dX0_buy_31 (by decide) (fun c31 => ?_) (fun c31 => ?_)
      · exact absurd c31 (fun q => by have z := pk_sneg (a := cr V WK w) (b := PR j0) (by have := hPR j0 j0b; omega) hlt; rw [Int32.lt_iff_toInt_lt, Int32.toInt_zero] at z; rw [Int32.le_iff_toInt_le, Int32.toInt_zero] at q; omega)
      · refine lv_iconst (v := nI 2) hx hb dX0_buy_34 (ic_2) ?_
        subst hQ
        exact vx_ret (e_i (j0, 2, T, B, P, w, ST, so, sp, CT, SC, TA) hx hb hr hlocks hS hP hD (⟨rfl, j0b, rfl, Or.inl ⟨⟨rfl, rfl, rfl, rfl, rfl, rfl, rfl, rfl⟩, Or.inr (Or.inl ⟨c11, hlt, rfl⟩)⟩⟩) (Nat.le_of_ble_eq_true rfl) (Nat.le_of_ble_eq_true rfl) dX0_buy_35)
    · refine n_isub hx hb hge dX0_buy_28 ?_
      refine lv_istore_n (lv' := [(3, .int (nI ((cr V WK w) - (PR j0)))), (2, .int (nI (PR j0))), (0, .ref (q 0)), (1, .int (nI j0))]) hx hb dX0_buy_29 rfl hl (by decide) rfl (fun ls hl => ?_)
      refine lv_iload_n hx hb dX0_buy_30 rfl (lv_at hl 0 rfl) ?_
      refine n_if_ge (tgt := 36) hx hb (by omega) dX0_buy_31 (by decide) ?_
      refine lv_aload_n hx hb dX0_buy_36 rfl (lv_at hl 2 rfl) ?_
      refine k_v (va_runV (As := []) (rest := []) ⟨hx, hb, hml, hown, hts⟩ (c_X0_foreseeTubes l hst D q cI cZ cJ k V C T B P A n PR ST li w WK so sp CT SC TA H.size hk8 hC hw12 hWK) (cwV 0 hts gX0_buy_X0_foreseeTubes rfl rfl rfl hd_X0_foreseeTubes ⟨(by rw [hR]; exact Nat.le_of_ble_eq_true rfl), (by rw [hR]; exact Nat.le_of_ble_eq_true rfl)⟩) (pre_V hP hK hD hS hA hZ hg 0 (ci := 0) rfl rfl) rfl rfl hl.1 rfl (lv_room (Nat.le_of_ble_eq_true rfl)) dX0_buy_37 ⟨(by rw [hR]; exact Nat.le_of_ble_eq_true rfl), (by rw [hR]; exact Nat.le_of_ble_eq_true rfl)⟩) hD hS hA (fun u_7 H locs hp_9 hP hD hS => ?_)
      have hta := hp_9
      refine lv_aload_n hx hb dX0_buy_40 rfl (lv_at hl 2 rfl) ?_
      refine lv_iload_n hx hb dX0_buy_41 rfl (lv_at hl 0 rfl) ?_
      refine lv_aload_n hx hb dX0_buy_42 rfl (lv_at hl 2 rfl) ?_
      refine gfX hx hb hts hin hown hK hP 17 (by decide) (List.mem_of_getElem? (i := 3) rfl) rfl rfl dX0_buy_43 ?_
      refine k_v (va_runV (As := [.int (nI ((cr V WK w) - (PR j0))), .ref (q 17)]) (rest := []) ⟨hx, hb, hml, hown, hts⟩ (c_X0_scoreWays_A l hst D q cI cZ cJ k V C T B P A n PR ST li w WK so sp CT SC u_7 H.size ((cr V WK w) - (PR j0)) hk8 hV (by omega) (fun i hi => by have h1 := hta i hi; have h2 := hC i hi; omega)) (cwV 2 hts gX0_buy_X0_scoreWays rfl rfl rfl hd_X0_scoreWays ⟨(by rw [hR]; exact Nat.le_of_ble_eq_true rfl), (by rw [hR]; exact Nat.le_of_ble_eq_true rfl)⟩) (pre_V hP hK hD hS hA hZ hg 0 (ci := 0) rfl rfl) rfl rfl hl.1 rfl (lv_room (Nat.le_of_ble_eq_true rfl)) dX0_buy_46 ⟨(by rw [hR]; exact Nat.le_of_ble_eq_true rfl), (by rw [hR]; exact Nat.le_of_ble_eq_true rfl)⟩) hD hS hA (fun u_10 H locs hp_12 hP hD hS => ?_)
      have hsw := hp_12
      rw [wS_cong (dT_min hC hta)] at hsw
      refine lv_aload_n hx hb dX0_buy_49 rfl (lv_at hl 2 rfl) ?_
      refine lv_iload_n hx hb dX0_buy_50 rfl (lv_at hl 0 rfl) ?_
      refine k_l (va_runV (As := [.int (nI ((cr V WK w) - (PR j0)))]) (rest := []) ⟨hx, hb, hml, hown, hts⟩ (c_X0_scoreOf l hst D q cI cZ cJ k V C T B P A n PR ST li w WK so sp CT u_10 u_7 H.size ((cr V WK w) - (PR j0)) (by omega)) (cwV 1 hts gX0_buy_X0_scoreOf rfl rfl rfl hd_X0_scoreOf ⟨(by rw [hR]; exact Nat.le_of_ble_eq_true rfl), (by rw [hR]; exact Nat.le_of_ble_eq_true rfl)⟩) (pre_V hP hK hD hS hA hZ hg 0 (ci := 0) rfl rfl) rfl rfl hl.1 rfl (lv_room (Nat.le_of_ble_eq_true rfl)) dX0_buy_51 ⟨(by rw [hR]; exact Nat.le_of_ble_eq_true rfl), (by rw [hR]; exact Nat.le_of_ble_eq_true rfl)⟩) hD hS hA (fun r_14 u_13 H locs hp_15 hP hD hS => ?_)
      subst hp_15
      refine lv_lstore (lv' := [(4, .long (lZ (u_10 ((cr V WK w) - (PR j0))))), (3, .int (nI ((cr V WK w) - (PR j0)))), (2, .int (nI (PR j0))), (0, .ref (q 0)), (1, .int (nI j0))]) hx hb dX0_buy_54 hl (by decide) rfl (fun ls hl => ?_)
      refine lv_lload hx hb dX0_buy_56 (lv_at hl 0 rfl) ?_
      refine lv_ldc2 (v := (-4611686018427387904)) hx hb hown (hts _ (List.mem_of_getElem? (i := 4) rfl)) dX0_buy_58 (n_topl (show ((-4611686018427387904) : Int64) = lZ (-4611686018427387904) from by decide) ?_)
      refine n_lcmp_ne (tgt := 67) hx hb dX0_buy_61 dX0_buy_62 (by decide) (fun c61 => ?_) (fun c61 => ?_)
      · have hne : u_10 (cr V WK w - PR j0) ≠ NW := fun q => c61 (congrArg lZ q)
        have hbw := isB_y hsw (Nat.le_refl _) hne
        have hwb := NW_bd (isB_bd (wS_bd8 hk8 (fun i hi => by have h1 := dT_le (WK := WK) (w := w) hC i hi; have h2 := hC i hi; omega) k (Nat.le_refl k)) hsw _ (Nat.le_refl _)) hne
        refine lv_aload_n hx hb dX0_buy_67 rfl (lv_at hl 3 rfl) ?_
        refine k_v (va_runV (As := []) (rest := []) ⟨hx, hb, hml, hown, hts⟩ (c_X0_dropWaiting l hst D q cI cZ cJ k V C T B P A n PR ST li w WK so sp CT u_10 u_7 H.size hk8 hC hw12 hWK) (cwV 0 hts gX0_buy_X0_dropWaiting rfl rfl rfl hd_X0_dropWaiting ⟨(by rw [hR]; exact Nat.le_of_ble_eq_true rfl), (by rw [hR]; exact Nat.le_of_ble_eq_true rfl)⟩) (pre_V hP hK hD hS hA hZ hg 0 (ci := 0) rfl rfl) rfl rfl hl.1 rfl (lv_room (Nat.le_of_ble_eq_true rfl)) dX0_buy_68 ⟨(by rw [hR]; exact Nat.le_of_ble_eq_true rfl), (by rw [hR]; exact Nat.le_of_ble_eq_true rfl)⟩) hD hS hA (fun u_16 H locs hp_18 hP hD hS => ?_)
        refine lv_aload_n hx hb dX0_buy_71 rfl (lv_at hl 3 rfl) ?_
        refine lv_lload hx hb dX0_buy_72 (lv_at hl 0 rfl) ?_
        refine k_v (va_runV (As := [.long (lZ (u_10 ((cr V WK w) - (PR j0))))]) (rest := []) ⟨hx, hb, hml, hown, hts⟩ (c_X0_payOut l hst D q cI cZ cJ k V C (dT C T WK w k) (dB C T B WK w k) P A n PR ST li 0 WK so sp CT u_10 u_7 H.size (u_10 ((cr V WK w) - (PR j0))) hwb hk8 hV (pz_le hk8 (fun i hi => by have h1 := dT_le (WK := WK) (w := w) hC i hi; have h2 := hC i hi; omega) hVd hbw.1)) (cwV 1 hts gX0_buy_X0_payOut rfl rfl rfl hd_X0_payOut ⟨(by rw [hR]; exact Nat.le_of_ble_eq_true rfl), (by rw [hR]; exact Nat.le_of_ble_eq_true rfl)⟩) (pre_V hP hK hD hS hA hZ hg 0 (ci := 0) rfl rfl) rfl rfl hl.1 rfl (lv_room (Nat.le_of_ble_eq_true rfl)) dX0_buy_74 ⟨(by rw [hR]; exact Nat.le_of_ble_eq_true rfl), (by rw [hR]; exact Nat.le_of_ble_eq_true rfl)⟩) hD hS hA (fun u_19 H locs hp_21 hP hD hS => ?_)
        refine lv_aload_n hx hb dX0_buy_77 rfl (lv_at hl 3 rfl) ?_
        refine gfX hx hb hts hin hown hK hP 9 (by decide) (List.mem_of_getElem? (i := 1) rfl) rfl rfl dX0_buy_78 ?_
        refine lv_iload_n hx hb dX0_buy_81 rfl (lv_at hl 4 rfl) ?_
        refine lv_dup2_11 hx hb dX0_buy_82 rfl rfl ?_
        refine n_iald hx hb hK hP 8 0 rfl rfl (by omega) (by decide) dX0_buy_83 ?_
        refine lv_iconst (v := nI 1) hx hb dX0_buy_84 (ic_1) ?_
        refine n_isub hx hb (by have := hPR j0 j0b; omega) dX0_buy_85 ?_
        refine n_iast (ws' := (wX q cI cZ cJ k V C (pT (dT C T WK w k) V k (u_10 ((cr V WK w) - (PR j0))) k) (dB C T B WK w k) (pP P V k (u_10 ((cr V WK w) - (PR j0))) k) A n PR (un ST j0 ((ST j0) - 1)) li 0 WK so sp CT u_10 u_7)) hx hb hK hP hD hS 8 0 rfl rfl (by omega) (by decide) rfl dX0_buy_86 (fun H locs hP hD hS => ?_)
        refine lv_aload_n hx hb dX0_buy_87 rfl (lv_at hl 3 rfl) ?_
        refine lv_iload_n hx hb dX0_buy_88 rfl (lv_at hl 4 rfl) ?_
        refine pfX (ws' := (wX q cI cZ cJ k V C (pT (dT C T WK w k) V k (u_10 ((cr V WK w) - (PR j0))) k) (dB C T B WK w k) (pP P V k (u_10 ((cr V WK w) - (PR j0))) k) A n PR (un ST j0 ((ST j0) - 1)) li 0 WK j0 sp CT u_10 u_7)) hx hb hts hin hown hK hP hD hS 13 (by decide) (List.mem_of_getElem? (i := 5) rfl) rfl ⟨rfl, rfl⟩ rfl rfl dX0_buy_89 (fun H locs hP hD hS => ?_)
        refine lv_aload_n hx hb dX0_buy_92 rfl (lv_at hl 3 rfl) ?_
        refine lv_iload_n hx hb dX0_buy_93 rfl (lv_at hl 2 rfl) ?_
        refine pfX (ws' := (wX q cI cZ cJ k V C (pT (dT C T WK w k) V k (u_10 ((cr V WK w) - (PR j0))) k) (dB C T B WK w k) (pP P V k (u_10 ((cr V WK w) - (PR j0))) k) A n PR (un ST j0 ((ST j0) - 1)) li 0 WK j0 (PR j0) CT u_10 u_7)) hx hb hts hin hown hK hP hD hS 14 (by decide) (List.mem_of_getElem? (i := 6) rfl) rfl ⟨rfl, rfl⟩ rfl rfl dX0_buy_94 (fun H locs hP hD hS => ?_)
        refine lv_aload_n hx hb dX0_buy_97 rfl (lv_at hl 3 rfl) ?_
        refine lv_iload_n hx hb dX0_buy_98 rfl (lv_at hl 2 rfl) ?_
        refine lv_iload_n hx hb dX0_buy_99 rfl (lv_at hl 1 rfl) ?_
        refine k_v (va_runV (As := [.int (nI (PR j0)), .int (nI ((cr V WK w) - (PR j0)))]) (rest := []) ⟨hx, hb, hml, hown, hts⟩ (c_X0_countSale l hst D q cI cZ cJ k V C (pT (dT C T WK w k) V k (u_10 ((cr V WK w) - (PR j0))) k) (dB C T B WK w k) (pP P V k (u_10 ((cr V WK w) - (PR j0))) k) A n PR (un ST j0 ((ST j0) - 1)) li 0 WK j0 (PR j0) CT u_10 u_7 H.size (PR j0) ((cr V WK w) - (PR j0)) ((hPR j0 j0b).2.1) (by omega)) (cwV 2 hts gX0_buy_X0_countSale rfl rfl rfl hd_X0_countSale ⟨(by rw [hR]; exact Nat.le_of_ble_eq_true rfl), (by rw [hR]; exact Nat.le_of_ble_eq_true rfl)⟩) (pre_V hP hK hD hS hA hZ hg 0 (ci := 0) rfl rfl) rfl rfl hl.1 rfl (lv_room (Nat.le_of_ble_eq_true rfl)) dX0_buy_100 ⟨(by rw [hR]; exact Nat.le_of_ble_eq_true rfl), (by rw [hR]; exact Nat.le_of_ble_eq_true rfl)⟩) hD hS hA (fun u_22 H locs hp_24 hP hD hS => ?_)
        have hcs := hp_24
        refine lv_iconst (v := nI 0) hx hb dX0_buy_103 (ic_0) ?_
        subst hQ
        exact vx_ret (e_i (j0, 0, pT (dT C T WK w k) V k (u_10 ((cr V WK w) - (PR j0))) k, dB C T B WK w k, pP P V k (u_10 ((cr V WK w) - (PR j0))) k, 0, un ST j0 ((ST j0) - 1), j0, PR j0, u_22, u_10, u_7) hx hb hr hlocks hS hP hD (⟨rfl, j0b, rfl, Or.inr ⟨c11, hge, rfl, _, hbw, rfl, rfl, rfl, rfl, rfl, rfl, rfl, hcs⟩⟩) (Nat.le_of_ble_eq_true rfl) (Nat.le_of_ble_eq_true rfl) dX0_buy_104)
      · have hbo := isB_bd (wS_bd8 hk8 (fun i hi => by have h1 := dT_le (WK := WK) (w := w) hC i hi; have h2 := hC i hi; omega) k (Nat.le_refl k)) hsw (cr V WK w - PR j0) (Nat.le_refl _)
        have hNWl : NW = -4611686018427387904 := rfl
        have hnw := (isB_n hsw (Nat.le_refl _)).mp ((lZ_eq (by omega) (by omega) (by omega) (by omega)).mp c61)
        refine lv_iconst (v := nI 3) hx hb dX0_buy_65 (ic_3) ?_
        subst hQ
        exact vx_ret (e_i (j0, 3, T, B, P, w, ST, so, sp, CT, u_10, u_7) hx hb hr hlocks hS hP hD (⟨rfl, j0b, rfl, Or.inl ⟨⟨rfl, rfl, rfl, rfl, rfl, rfl, rfl, rfl⟩, Or.inr (Or.inr ⟨c11, hge, hnw, rfl⟩)⟩⟩) (Nat.le_of_ble_eq_true rfl) (Nat.le_of_ble_eq_true rfl) dX0_buy_66)
  · refine lv_iconst (v := nI 1) hx hb dX0_buy_14 (ic_1) ?_
    subst hQ
    exact vx_ret (e_i (j0, 1, T, B, P, w, ST, so, sp, CT, SC, TA) hx hb hr hlocks hS hP hD (⟨rfl, j0b, rfl, Or.inl ⟨⟨rfl, rfl, rfl, rfl, rfl, rfl, rfl, rfl⟩, Or.inl ⟨c11, rfl⟩⟩⟩) (Nat.le_of_ble_eq_true rfl) (Nat.le_of_ble_eq_true rfl) dX0_buy_15)
theorem hd_X0_buy : yX0_buy.cls = RX0 ∧ yX0_buy.cls ≠ "java/lang/invoke/MethodHandle" ∧ yX0_buy.cls ≠ "java/lang/invoke/VarHandle" ∧ (parseMethodDescriptor yX0_buy.desc).map (fun d => d.parameters.length) = some 1 := by decide +kernel
