/-! one coin more keeps every way; what a way's parts come to; what the unit divides -/
theorem xt_up {S S' : Nat → Int → Prop} {v : Nat} {w : Int} {T T' : Nat} (hS : ∀ a z, S a z → S' a z) (h : T ≤ T') {a : Nat} {z : Int} (q : xt S v w T a z) : xt S' v w T' a z := by
  obtain ⟨c, h1, h2, h3⟩ := q
  exact ⟨c, Nat.le_trans h1 h, h2, hS _ _ h3⟩
theorem wS_up {t t' V : Nat → Nat} {g : Nat → Int} : ∀ {m : Nat}, (∀ i, i < m → t i ≤ t' i) → ∀ (a : Nat) (z : Int), wS t V g m a z → wS t' V g m a z
  | 0, _, _, _, h => h
  | m + 1, ht, a, z, h => by
    show xt (wS t' V g m) (V m) (g m) (t' m) a z
    exact xt_up (wS_up (fun i hi => ht i (by omega))) (ht m (by omega)) h
theorem nway_up {t t' V : Nat → Nat} {k a : Nat} (ht : ∀ i, i < k → t i ≤ t' i) (h : nway t' V k a) : nway t V k a := fun z q => h z (wS_up ht a z q)
theorem bway_up {t t' V : Nat → Nat} {k a : Nat} {z z' : Int} (ht : ∀ i, i < k → t i ≤ t' i) (h : bway t V k a z) (h' : bway t' V k a z') : z ≤ z' := h'.2 z (wS_up ht a z h.1)
theorem cnz_anti {z z' : Int} (h : z ≤ z') : cnz z' ≤ cnz z := by
  unfold cnz
  have := Int.ediv_le_ediv (show (0 : Int) < 281474976710656 by decide) h
  omega
theorem gpc_up {P Q : Nat → Prop} (h : ∀ b, P b → Q b) : ∀ a, gpc P a ≤ gpc Q a
  | 0 => Nat.le_refl 0
  | a + 1 => by
    show gpc P a + b1 (P (a + 1)) ≤ gpc Q a + b1 (Q (a + 1))
    have h1 := gpc_up h a
    rcases Classical.em (P (a + 1)) with q | q
    · rw [b1_y q, b1_y (h _ q)]; omega
    · rw [b1_n q]; omega
theorem gpR_up {t t' V : Nat → Nat} {k : Nat} (ht : ∀ i, i < k → t i ≤ t' i) (a : Nat) : gpR t' V k a ≤ gpR t V k a := by
  unfold gpR
  by_cases h : gu V k < 1
  · rw [if_pos h]; omega
  · rw [if_neg h, if_neg h]
    exact gpc_up (fun b q => ⟨q.1, nway_up ht q.2⟩) a
theorem gpR_le {t V : Nat → Nat} {k : Nat} (a : Nat) : gpR t V k a ≤ a := by
  unfold gpR
  by_cases h : gu V k < 1
  · rw [if_pos h]; omega
  · rw [if_neg h]
    exact gpc_le _ a
theorem blR_up {t t' V : Nat → Nat} {k a r r' : Nat} (ht : ∀ i, i < k → t i ≤ t' i) (h : blR t V k a r) (h' : blR t' V k a r') : r ≤ r' :=
  Nat.le_of_not_lt fun q => h.2.1 (nway_up ht (h'.2.2 r q h.1))
theorem blR_y {t V : Nat → Nat} {k a r : Nat} {z : Int} (hb : bway t V k a z) (h : blR t V k a r) : r = a := by
  rcases Nat.lt_or_ge r a with q | q
  · exact absurd hb.1 (h.2.2 a q (Nat.le_refl a) z)
  · exact Nat.le_antisymm h.1 q
theorem blR_n {t V : Nat → Nat} {k a r : Nat} (hn : nway t V k a) (h : blR t V k a r) : r < a := by
  rcases Nat.lt_or_ge r a with q | q
  · exact q
  · exact absurd (show nway t V k r by rw [Nat.le_antisymm h.1 q]; exact hn) h.2.1
theorem wS_dvd {t V : Nat → Nat} {g : Nat → Int} {d : Nat} : ∀ {m : Nat}, (∀ i, i < m → V i % d = 0) → ∀ (a : Nat) (z : Int), wS t V g m a z → a % d = 0
  | 0, _, a, z, h => by
    obtain rfl : a = 0 := h.1
    exact Nat.zero_mod d
  | m + 1, hV, a, z, h => by
    obtain ⟨c, h1, h2, h3⟩ := h
    have e1 : d ∣ a - c * V m := Nat.dvd_of_mod_eq_zero (wS_dvd (fun i hi => hV i (by omega)) _ _ h3)
    have e2 : d ∣ c * V m := Nat.dvd_trans (Nat.dvd_of_mod_eq_zero (hV m (by omega))) (Nat.dvd_mul_left _ _)
    have e3 : (a - c * V m) + c * V m = a := Nat.sub_add_cancel h2
    rw [← e3]
    exact Nat.mod_eq_zero_of_dvd (Nat.dvd_add e1 e2)
theorem fd_dv {V : Nat → Nat} {k : Nat} : ∀ {d : Nat}, 1 ≤ d → dv V k (fd V k d) = 1
  | 0, h => absurd h (by omega)
  | d + 1, _ => by
    by_cases h : dv V k (d + 1) = 1
    · rw [fd_y (by omega) h]; exact h
    · rw [fd_n (by omega) h]
      show dv V k (fd V k d) = 1
      by_cases e : d = 0
      · subst e
        exact absurd (dv_1 V k) h
      · exact fd_dv (by omega)
theorem dv_all {V : Nat → Nat} {k d : Nat} (h : dv V k d = 1) : ∀ i, i < k → V i % d = 0 := by
  unfold dv at h
  by_cases q : ∀ i, i < k → V i % d = 0
  · exact q
  · rw [if_neg q] at h
    omega
theorem gu_fd {V : Nat → Nat} {k : Nat} (hk : 1 ≤ k) : gu V k = fd V k 500 := if_neg (by omega)
theorem gu_pos {V : Nat → Nat} {k : Nat} (hk : 1 ≤ k) : 1 ≤ gu V k := by rw [gu_fd hk]; exact fd_pos (by decide)
theorem gu_le (V : Nat → Nat) (k : Nat) : gu V k ≤ 500 := by
  unfold gu
  split
  · omega
  · exact fd_le V k 500
/-- the unit divides what can be paid -/
theorem unit_div {t V : Nat → Nat} {g : Nat → Int} {k a : Nat} {z : Int} (hk : 1 ≤ k) (h : wS t V g k a z) : a % gu V k = 0 :=
  wS_dvd (dv_all (by rw [gu_fd hk]; exact fd_dv (by decide))) a z h
/-- the parts of a way come to its amount, and to its coins -/
theorem way_sums {t V : Nat → Nat} {k a : Nat} {z : Int} (hk : k ≤ 8) (ht : ∀ i, i < k → t i ≤ 60) (hd : ∀ i j, i < k → j < k → V i = V j → i = j) (h : wS t V (wg V k) k a z) : sm (fun i => pz z (lc V (V i) k) * V i) k = a ∧ sm (fun i => pz z (lc V (V i) k)) k = cnz z ∧ cnz z ≤ 480 := by
  obtain ⟨c, h1, h2, -, -, h5, h6⟩ := way_dec hk ht hd h
  refine ⟨?_, ?_, ?_⟩
  · rw [← h2]; exact sm_cong (fun i hi => by rw [h6 i hi])
  · rw [h5]; exact sm_cong (fun i hi => h6 i hi)
  · rw [h5]
    have q := sm_le (f := c) (c := 60) (n := k) (fun i hi => Nat.le_trans (h1 i hi) (ht i hi))
    have : k * 60 ≤ 8 * 60 := Nat.mul_le_mul_right _ hk
    omega
theorem bway_fn {t V : Nat → Nat} {k a : Nat} {z z' : Int} (h : bway t V k a z) (h' : bway t V k a z') : z = z' := Int.le_antisymm (h'.2 z h.1) (h.2 z' h'.1)
theorem fwR_y {t V : Nat → Nat} {k a r : Nat} {z : Int} (hb : bway t V k a z) (h : fwR t V k a r) : r = cnz z := by
  rcases h with ⟨h1, -⟩ | ⟨z', h1, h2⟩
  · exact absurd hb.1 (h1 z)
  · rw [h2, bway_fn hb h1]
theorem ptR_y {t V : Nat → Nat} {k a i r : Nat} {z : Int} (hb : bway t V k a z) (h : ptR t V k a i r) : r = pz z (lc V (V i) k) := by
  rcases h with ⟨h1, -⟩ | ⟨z', h1, h2⟩
  · exact absurd hb.1 (h1 z)
  · rw [h2, bway_fn hb h1]
theorem ptR_n {t V : Nat → Nat} {k a i r : Nat} (hn : nway t V k a) (h : ptR t V k a i r) : r = 4294967295 := by
  rcases h with ⟨-, h2⟩ | ⟨z', h1, -⟩
  · exact h2
  · exact absurd h1.1 (hn z')
/-- .. what can be paid is told by a way -/
theorem fwR_s {t V : Nat → Nat} {k a r : Nat} (hn : ¬ nway t V k a) (h : fwR t V k a r) : ∃ z, bway t V k a z ∧ r = cnz z := by
  rcases h with ⟨h1, -⟩ | h
  · exact absurd h1 hn
  · exact h
/-- one coin more: as many coins or fewer -/
theorem fwR_up {t t' V : Nat → Nat} {k a r : Nat} {z : Int} (ht : ∀ i, i < k → t i ≤ t' i) (hb : bway t V k a z) (h : fwR t' V k a r) : ∃ z', bway t' V k a z' ∧ r = cnz z' ∧ cnz z' ≤ cnz z := by
  rcases h with ⟨h1, -⟩ | ⟨z', h1, h2⟩
  · exact absurd (wS_up ht a z hb.1) (h1 z)
  · exact ⟨z', h1, h2, cnz_anti (bway_up ht hb h1)⟩
theorem un_up {T : Nat → Nat} {j x : Nat} (h : T j ≤ x) : ∀ i, T i ≤ un T j x i := by
  intro i
  by_cases e : i = j
  · subst e; rw [un_s]; exact h
  · rw [un_n e]; exact Nat.le_refl _
theorem mask_31 (x : Int32) : ∃ d, d < 2147483648 ∧ x &&& nI 2147483647 = nI d := by
  have h : (x &&& nI 2147483647).toBitVec.toNat ≤ 2147483647 := by
    rw [Int32.toBitVec_and, BitVec.toNat_and]
    exact Nat.le_trans Nat.and_le_right (by decide)
  refine ⟨(x &&& nI 2147483647).toBitVec.toNat, by omega, ?_⟩
  apply Int32.toBitVec_inj.mp
  show _ = (Int32.ofNat _).toBitVec
  rw [Int32.toBitVec_ofNat']
  apply BitVec.eq_of_toNat_eq
  rw [BitVec.toNat_ofNat]
  omega
theorem m1_neg : nI 4294967295 < 0 := by decide
theorem m1_le {x : Nat} (h : x < 2147483648) : nI 4294967295 ≤ nI x := by
  rw [Int32.le_iff_toInt_le, nI_toInt h]
  have e : (nI 4294967295).toInt = -1 := by decide
  rw [e]
  omega
theorem cs_0 (CT : Nat → Int64) (pr ch : Nat) : cs CT pr ch 0 = CT 0 := by
  unfold cs
  split <;> simp [vp_updL]
theorem cs_2 (CT : Nat → Int64) (pr ch : Nat) : cs CT pr ch 2 = CT 2 + lZ (ch : Int) := by
  unfold cs
  split <;> simp [vp_updL]
theorem cs_7 (CT : Nat → Int64) (pr ch : Nat) : cs CT pr ch 7 = CT 7 + lZ (pr : Int) := by
  unfold cs
  split <;> simp [vp_updL]
theorem updL_s {f : Nat → Int64} {i : Nat} {x : Int64} : vp_updL f i x i = x := if_pos rfl
theorem updL_n {f : Nat → Int64} {i j : Nat} {x : Int64} (h : j ≠ i) : vp_updL f i x j = f j := if_neg h
theorem cr_un {V WK : Nat → Nat} {w i : Nat} : cr V (un WK w i) (w + 1) = cr V WK w + V i := by
  unfold cr
  show sm (fun j => V (un WK w i j)) w + V (un WK w i w) = _
  rw [un_s, sm_cong (g := fun j => V (WK j)) (fun j hj => by rw [un_n (Nat.ne_of_lt hj)])]
