/-! the class and what the law holds it against: one and the same -/
def IV (k : Nat) (V C T A OR : Nat → Nat) (n : Nat) (PR ST : Nat → Nat) (li w : Nat) (WK : Nat → Nat) (so sp : Nat) : Prop :=
  (k ≤ 8) ∧ (n ≤ 10) ∧ (w ≤ 12) ∧ (∀ i, i < k → 1 ≤ V i ∧ V i ≤ 500) ∧ (∀ i, i < k → C i ≤ 60 ∧ T i ≤ C i) ∧ (∀ j, j < w → WK j < k) ∧ (∀ j, j < n → 1 ≤ PR j ∧ PR j ≤ 2000 ∧ ST j ≤ 99) ∧ (li ≤ 2000) ∧ (∀ i, i < k → A i ≤ 1) ∧ (∀ i j, i < k → j < k → V i = V j → i = j) ∧ (cr V WK w ≤ 2000) ∧ (so = 4294967295 ∨ (so < n ∧ 1 ≤ sp ∧ sp ≤ 2000)) ∧ (ordOK V OR k) ∧ (∀ i, k ≤ i → T i = 0)
theorem IV.hk8 {k : Nat} {V C T A OR : Nat → Nat} {n : Nat} {PR ST : Nat → Nat} {li w : Nat} {WK : Nat → Nat} {so sp : Nat} (h : IV k V C T A OR n PR ST li w WK so sp) : k ≤ 8 := h.1
theorem IV.hn10 {k : Nat} {V C T A OR : Nat → Nat} {n : Nat} {PR ST : Nat → Nat} {li w : Nat} {WK : Nat → Nat} {so sp : Nat} (h : IV k V C T A OR n PR ST li w WK so sp) : n ≤ 10 := h.2.1
theorem IV.hw12 {k : Nat} {V C T A OR : Nat → Nat} {n : Nat} {PR ST : Nat → Nat} {li w : Nat} {WK : Nat → Nat} {so sp : Nat} (h : IV k V C T A OR n PR ST li w WK so sp) : w ≤ 12 := h.2.2.1
theorem IV.hV {k : Nat} {V C T A OR : Nat → Nat} {n : Nat} {PR ST : Nat → Nat} {li w : Nat} {WK : Nat → Nat} {so sp : Nat} (h : IV k V C T A OR n PR ST li w WK so sp) : ∀ i, i < k → 1 ≤ V i ∧ V i ≤ 500 := h.2.2.2.1
theorem IV.hC {k : Nat} {V C T A OR : Nat → Nat} {n : Nat} {PR ST : Nat → Nat} {li w : Nat} {WK : Nat → Nat} {so sp : Nat} (h : IV k V C T A OR n PR ST li w WK so sp) : ∀ i, i < k → C i ≤ 60 ∧ T i ≤ C i := h.2.2.2.2.1
theorem IV.hWK {k : Nat} {V C T A OR : Nat → Nat} {n : Nat} {PR ST : Nat → Nat} {li w : Nat} {WK : Nat → Nat} {so sp : Nat} (h : IV k V C T A OR n PR ST li w WK so sp) : ∀ j, j < w → WK j < k := h.2.2.2.2.2.1
theorem IV.hPR {k : Nat} {V C T A OR : Nat → Nat} {n : Nat} {PR ST : Nat → Nat} {li w : Nat} {WK : Nat → Nat} {so sp : Nat} (h : IV k V C T A OR n PR ST li w WK so sp) : ∀ j, j < n → 1 ≤ PR j ∧ PR j ≤ 2000 ∧ ST j ≤ 99 := h.2.2.2.2.2.2.1
theorem IV.hli {k : Nat} {V C T A OR : Nat → Nat} {n : Nat} {PR ST : Nat → Nat} {li w : Nat} {WK : Nat → Nat} {so sp : Nat} (h : IV k V C T A OR n PR ST li w WK so sp) : li ≤ 2000 := h.2.2.2.2.2.2.2.1
theorem IV.hA1 {k : Nat} {V C T A OR : Nat → Nat} {n : Nat} {PR ST : Nat → Nat} {li w : Nat} {WK : Nat → Nat} {so sp : Nat} (h : IV k V C T A OR n PR ST li w WK so sp) : ∀ i, i < k → A i ≤ 1 := h.2.2.2.2.2.2.2.2.1
theorem IV.hVd {k : Nat} {V C T A OR : Nat → Nat} {n : Nat} {PR ST : Nat → Nat} {li w : Nat} {WK : Nat → Nat} {so sp : Nat} (h : IV k V C T A OR n PR ST li w WK so sp) : ∀ i j, i < k → j < k → V i = V j → i = j := h.2.2.2.2.2.2.2.2.2.1
theorem IV.hcr {k : Nat} {V C T A OR : Nat → Nat} {n : Nat} {PR ST : Nat → Nat} {li w : Nat} {WK : Nat → Nat} {so sp : Nat} (h : IV k V C T A OR n PR ST li w WK so sp) : cr V WK w ≤ 2000 := h.2.2.2.2.2.2.2.2.2.2.1
theorem IV.hso {k : Nat} {V C T A OR : Nat → Nat} {n : Nat} {PR ST : Nat → Nat} {li w : Nat} {WK : Nat → Nat} {so sp : Nat} (h : IV k V C T A OR n PR ST li w WK so sp) : so = 4294967295 ∨ (so < n ∧ 1 ≤ sp ∧ sp ≤ 2000) := h.2.2.2.2.2.2.2.2.2.2.2.1
theorem IV.hOR {k : Nat} {V C T A OR : Nat → Nat} {n : Nat} {PR ST : Nat → Nat} {li w : Nat} {WK : Nat → Nat} {so sp : Nat} (h : IV k V C T A OR n PR ST li w WK so sp) : ordOK V OR k := h.2.2.2.2.2.2.2.2.2.2.2.2.1
theorem IV.hT0 {k : Nat} {V C T A OR : Nat → Nat} {n : Nat} {PR ST : Nat → Nat} {li w : Nat} {WK : Nat → Nat} {so sp : Nat} (h : IV k V C T A OR n PR ST li w WK so sp) : ∀ i, k ≤ i → T i = 0 := h.2.2.2.2.2.2.2.2.2.2.2.2.2
theorem IV.mk {k : Nat} {V C T A OR : Nat → Nat} {n : Nat} {PR ST : Nat → Nat} {li w : Nat} {WK : Nat → Nat} {so sp : Nat} (hk8 : k ≤ 8) (hn10 : n ≤ 10) (hw12 : w ≤ 12) (hV : ∀ i, i < k → 1 ≤ V i ∧ V i ≤ 500) (hC : ∀ i, i < k → C i ≤ 60 ∧ T i ≤ C i) (hWK : ∀ j, j < w → WK j < k) (hPR : ∀ j, j < n → 1 ≤ PR j ∧ PR j ≤ 2000 ∧ ST j ≤ 99) (hli : li ≤ 2000) (hA1 : ∀ i, i < k → A i ≤ 1) (hVd : ∀ i j, i < k → j < k → V i = V j → i = j) (hcr : cr V WK w ≤ 2000) (hso : so = 4294967295 ∨ (so < n ∧ 1 ≤ sp ∧ sp ≤ 2000)) (hOR : ordOK V OR k) (hT0 : ∀ i, k ≤ i → T i = 0) : IV k V C T A OR n PR ST li w WK so sp := ⟨hk8, hn10, hw12, hV, hC, hWK, hPR, hli, hA1, hVd, hcr, hso, hOR, hT0⟩
theorem bway_fn {t V : Nat → Nat} {k a : Nat} {z z' : Int} (h : bway t V k a z) (h' : bway t V k a z') : z = z' := Int.le_antisymm (h'.2 z h.1) (h.2 z' h'.1)
theorem nb_no {t V : Nat → Nat} {k a : Nat} {z : Int} (h : nway t V k a) (h' : bway t V k a z) : False := h z h'.1
theorem fwR_fn {T V : Nat → Nat} {k a r r' : Nat} (h : fwR T V k a r) (h' : fwR T V k a r') : r = r' := by
  rcases h with ⟨h1, rfl⟩ | ⟨z, h1, rfl⟩
  · rcases h' with ⟨h2, rfl⟩ | ⟨z, h2, rfl⟩
    · rfl
    · exact (nb_no h1 h2).elim
  · rcases h' with ⟨h2, rfl⟩ | ⟨z, h2, rfl⟩
    · exact (nb_no h2 h1).elim
    · rw [bway_fn h1 h2]
theorem ptR_fn {T V : Nat → Nat} {k a i r r' : Nat} (h : ptR T V k a i r) (h' : ptR T V k a i r') : r = r' := by
  rcases h with ⟨h1, rfl⟩ | ⟨z, h1, rfl⟩
  · rcases h' with ⟨h2, rfl⟩ | ⟨z, h2, rfl⟩
    · rfl
    · exact (nb_no h1 h2).elim
  · rcases h' with ⟨h2, rfl⟩ | ⟨z, h2, rfl⟩
    · exact (nb_no h2 h1).elim
    · rw [bway_fn h1 h2]
theorem blR_fn {T V : Nat → Nat} {k a r r' : Nat} (h : blR T V k a r) (h' : blR T V k a r') : r = r' := by
  rcases Nat.lt_trichotomy r r' with q | q | q
  · exact absurd (h.2.2 r' q h'.1) h'.2.1
  · exact q
  · exact absurd (h'.2.2 r q h.1) h.2.1
theorem insP_fn {k : Nat} {V A : Nat → Nat} {li w : Nat} {WK : Nat → Nat} {CT : Nat → Int64} {i w1 : Nat} {K1 : Nat → Nat} {C1 : Nat → Int64} {r1 w2 : Nat} {K2 : Nat → Nat} {C2 : Nat → Int64} {r2 : Nat} (h : insP k V A li w WK CT i w1 K1 C1 r1) (h' : insP k V A li w WK CT i w2 K2 C2 r2) : r1 = r2 ∧ w1 = w2 ∧ K1 = K2 ∧ C1 = C2 := by
  rcases h with ⟨q1, rfl, rfl, rfl, rfl⟩ | ⟨q1, q2, rfl, rfl, rfl, rfl⟩ | ⟨q1, q2, q3, rfl, rfl, rfl, rfl⟩ | ⟨q1, q2, q3, rfl, rfl, rfl, rfl⟩ <;> rcases h' with ⟨p1, rfl, rfl, rfl, rfl⟩ | ⟨p1, p2, rfl, rfl, rfl, rfl⟩ | ⟨p1, p2, p3, rfl, rfl, rfl, rfl⟩ | ⟨p1, p2, p3, rfl, rfl, rfl, rfl⟩ <;> first | exact ⟨rfl, rfl, rfl, rfl⟩ | (exfalso; omega)
theorem buyP_fn {k : Nat} {V C T B P PR ST : Nat → Nat} {w : Nat} {WK : Nat → Nat} {so sp : Nat} {CT : Nat → Int64} {j r1 : Nat} {T1 B1 P1 : Nat → Nat} {w1 : Nat} {S1 : Nat → Nat} {o1 p1 : Nat} {C1 : Nat → Int64} {r2 : Nat} {T2 B2 P2 : Nat → Nat} {w2 : Nat} {S2 : Nat → Nat} {o2 p2 : Nat} {C2 : Nat → Int64} (h : buyP k V C T B P PR ST w WK so sp CT j r1 T1 B1 P1 w1 S1 o1 p1 C1) (h' : buyP k V C T B P PR ST w WK so sp CT j r2 T2 B2 P2 w2 S2 o2 p2 C2) : r1 = r2 ∧ T1 = T2 ∧ B1 = B2 ∧ P1 = P2 ∧ w1 = w2 ∧ S1 = S2 ∧ o1 = o2 ∧ p1 = p2 ∧ C1 = C2 := by
  rcases h with ⟨⟨rfl, rfl, rfl, rfl, rfl, rfl, rfl, rfl⟩, g⟩ | ⟨a1, a2, rfl, z, a3, rfl, rfl, rfl, rfl, rfl, rfl, rfl, rfl⟩
  · rcases h' with ⟨⟨rfl, rfl, rfl, rfl, rfl, rfl, rfl, rfl⟩, g'⟩ | ⟨b1, b2, rfl, z, b3, rfl, rfl, rfl, rfl, rfl, rfl, rfl, rfl⟩
    · refine ⟨?_, rfl, rfl, rfl, rfl, rfl, rfl, rfl, rfl⟩
      rcases g with ⟨q1, rfl⟩ | ⟨q1, q2, rfl⟩ | ⟨q1, q2, q3, rfl⟩ <;> rcases g' with ⟨s1, rfl⟩ | ⟨s1, s2, rfl⟩ | ⟨s1, s2, s3, rfl⟩ <;> first | rfl | (exfalso; omega)
    · exfalso
      rcases g with ⟨q1, rfl⟩ | ⟨q1, q2, rfl⟩ | ⟨q1, q2, q3, rfl⟩
      · omega
      · omega
      · exact nb_no q3 b3
  · rcases h' with ⟨⟨rfl, rfl, rfl, rfl, rfl, rfl, rfl, rfl⟩, g'⟩ | ⟨b1, b2, rfl, z', b3, rfl, rfl, rfl, rfl, rfl, rfl, rfl, rfl⟩
    · exfalso
      rcases g' with ⟨q1, rfl⟩ | ⟨q1, q2, rfl⟩ | ⟨q1, q2, q3, rfl⟩
      · omega
      · omega
      · exact nb_no q3 a3
    · obtain rfl := bway_fn a3 b3
      exact ⟨rfl, rfl, rfl, rfl, rfl, rfl, rfl, rfl, rfl⟩
theorem refP_fn {k : Nat} {V T P ST : Nat → Nat} {so sp : Nat} {CT : Nat → Int64} {r1 : Nat} {T1 P1 S1 : Nat → Nat} {o1 : Nat} {C1 : Nat → Int64} {r2 : Nat} {T2 P2 S2 : Nat → Nat} {o2 : Nat} {C2 : Nat → Int64} (h : refP k V T P ST so sp CT r1 T1 P1 S1 o1 C1) (h' : refP k V T P ST so sp CT r2 T2 P2 S2 o2 C2) : r1 = r2 ∧ T1 = T2 ∧ P1 = P2 ∧ S1 = S2 ∧ o1 = o2 ∧ C1 = C2 := by
  rcases h with ⟨a3, rfl, rfl, rfl, rfl, rfl, rfl⟩ | ⟨rfl, z, a3, rfl, rfl, rfl, rfl, rfl⟩
  · rcases h' with ⟨b3, rfl, rfl, rfl, rfl, rfl, rfl⟩ | ⟨rfl, z', b3, rfl, rfl, rfl, rfl, rfl⟩
    · exact ⟨rfl, rfl, rfl, rfl, rfl, rfl⟩
    · exact (nb_no a3 b3).elim
  · rcases h' with ⟨b3, rfl, rfl, rfl, rfl, rfl, rfl⟩ | ⟨rfl, z', b3, rfl, rfl, rfl, rfl, rfl⟩
    · exact (nb_no b3 a3).elim
    · obtain rfl := bway_fn a3 b3
      exact ⟨rfl, rfl, rfl, rfl, rfl, rfl⟩
theorem bw_le {t V C : Nat → Nat} {k a : Nat} {z : Int} (hC : ∀ i, i < k → t i ≤ C i) (i : Nat) (hi : i < k) : pT t V k z k i ≤ C i := by
  have h := hC i hi
  show (if i < k then t i - _ else t i) ≤ C i
  rw [if_pos hi]
  omega
theorem pT_hi {t V : Nat → Nat} {k : Nat} {z : Int} {i : Nat} (hi : k ≤ i) : pT t V k z k i = t i := if_neg (by omega)
theorem dT_hi {C T WK : Nat → Nat} {w k i : Nat} (hi : k ≤ i) : dT C T WK w k i = T i := if_neg (by omega)
theorem cr_un {V WK : Nat → Nat} {k x : Nat} : ∀ {w : Nat}, (∀ j, j < w → WK j < k) → cr (un V k x) WK w = cr V WK w := fun {w} h => sm_cong (fun j hj => un_n (by have := h j hj; omega))
theorem cr_s {V WK : Nat → Nat} {w i : Nat} : cr V (un WK w i) (w + 1) = cr V WK w + V i := by
  show sm (fun j => V (un WK w i j)) w + V (un WK w i w) = _
  rw [un_s, sm_cong (g := fun j => V (WK j)) (fun j hj => by rw [un_n (by omega)])]
  rfl
section IVS
variable {k : Nat} {V C T A OR : Nat → Nat} {n : Nat} {PR ST : Nat → Nat} {li w : Nat} {WK : Nat → Nat} {so sp : Nat}
theorem iv_T (h : IV k V C T A OR n PR ST li w WK so sp) {i x : Nat} (hi : i < k) (hx : x ≤ C i) : IV k V C (un T i x) A OR n PR ST li w WK so sp :=
  IV.mk  (hk8 := h.hk8) (hn10 := h.hn10) (hw12 := h.hw12) (hV := h.hV)
    (hC := fun j hj => by
      by_cases e : j = i
      · subst e; rw [un_s]; exact ⟨(h.hC j hj).1, hx⟩
      · rw [un_n e]; exact h.hC j hj) (hWK := h.hWK) (hPR := h.hPR) (hli := h.hli) (hA1 := h.hA1) (hVd := h.hVd) (hcr := h.hcr) (hso := h.hso) (hOR := h.hOR)
    (hT0 := fun j hj => by rw [un_n (by omega)]; exact h.hT0 j hj)
theorem iv_fill (h : IV k V C T A OR n PR ST li w WK so sp) {i j : Nat} (hi : i < k) : IV k V C (un T i (T i + min j (C i - T i))) A OR n PR ST li w WK so sp := iv_T h hi (by have := h.hC i hi; omega)
theorem iv_take (h : IV k V C T A OR n PR ST li w WK so sp) {i j : Nat} (hi : i < k) : IV k V C (un T i (T i - min j (T i))) A OR n PR ST li w WK so sp := iv_T h hi (by have := h.hC i hi; omega)
theorem iv_accept (h : IV k V C T A OR n PR ST li w WK so sp) {i x : Nat} (hx : x ≤ 1) : IV k V C T (un A i x) OR n PR ST li w WK so sp :=
  IV.mk  (hk8 := h.hk8) (hn10 := h.hn10) (hw12 := h.hw12) (hV := h.hV) (hC := h.hC) (hWK := h.hWK) (hPR := h.hPR) (hli := h.hli)
    (hA1 := fun j hj => by
      by_cases e : j = i
      · subst e; rw [un_s]; exact hx
      · rw [un_n e]; exact h.hA1 j hj) (hVd := h.hVd) (hcr := h.hcr) (hso := h.hso) (hOR := h.hOR) (hT0 := h.hT0)
theorem iv_setLimit (h : IV k V C T A OR n PR ST li w WK so sp) {x : Nat} (hx : x < 2001) : IV k V C T A OR n PR ST x w WK so sp := IV.mk  (hk8 := h.hk8) (hn10 := h.hn10) (hw12 := h.hw12) (hV := h.hV) (hC := h.hC) (hWK := h.hWK) (hPR := h.hPR)
    (hli := by omega) (hA1 := h.hA1) (hVd := h.hVd) (hcr := h.hcr) (hso := h.hso) (hOR := h.hOR) (hT0 := h.hT0)
theorem iv_addProduct (h : IV k V C T A OR n PR ST li w WK so sp) {x y : Nat} (h1 : 1 ≤ x) (h2 : x < 2001) (h3 : y < 100) (h4 : n < 10) : IV k V C T A OR (n + 1) (un PR n x) (un ST n y) li w WK so sp :=
  IV.mk  (hk8 := h.hk8)
    (hn10 := by omega) (hw12 := h.hw12) (hV := h.hV) (hC := h.hC) (hWK := h.hWK)
    (hPR := fun j hj => by
      by_cases e : j = n
      · subst e; rw [un_s, un_s]; exact ⟨h1, by omega, by omega⟩
      · rw [un_n e, un_n e]; exact h.hPR j (by omega)) (hli := h.hli) (hA1 := h.hA1) (hVd := h.hVd) (hcr := h.hcr)
    (hso := by
      rcases h.hso with q | ⟨q1, q2⟩
      · exact Or.inl q
      · exact Or.inr ⟨by omega, q2⟩) (hOR := h.hOR) (hT0 := h.hT0)
theorem iv_setProduct (h : IV k V C T A OR n PR ST li w WK so sp) {i x y : Nat} (h1 : 1 ≤ x) (h2 : x < 2001) (h3 : y < 100) : IV k V C T A OR n (un PR i x) (un ST i y) li w WK so sp :=
  IV.mk  (hk8 := h.hk8) (hn10 := h.hn10) (hw12 := h.hw12) (hV := h.hV) (hC := h.hC) (hWK := h.hWK)
    (hPR := fun j hj => by
      by_cases e : j = i
      · subst e; rw [un_s, un_s]; exact ⟨h1, by omega, by omega⟩
      · rw [un_n e, un_n e]; exact h.hPR j hj) (hli := h.hli) (hA1 := h.hA1) (hVd := h.hVd) (hcr := h.hcr) (hso := h.hso) (hOR := h.hOR) (hT0 := h.hT0)
theorem iv_cancel (h : IV k V C T A OR n PR ST li w WK so sp) : IV k V C T A OR n PR ST li 0 WK so sp :=
  IV.mk  (hk8 := h.hk8) (hn10 := h.hn10)
    (hw12 := by omega) (hV := h.hV) (hC := h.hC)
    (hWK := fun j hj => absurd hj (by omega)) (hPR := h.hPR) (hli := h.hli) (hA1 := h.hA1) (hVd := h.hVd)
    (hcr := Nat.zero_le _) (hso := h.hso) (hOR := h.hOR) (hT0 := h.hT0)
theorem iv_insert (h : IV k V C T A OR n PR ST li w WK so sp) {CT CT' : Nat → Int64} {i w' r : Nat} {WK' : Nat → Nat} (hi : i < k) (hp : insP k V A li w WK CT i w' WK' CT' r) : IV k V C T A OR n PR ST li w' WK' so sp := by
  rcases hp with ⟨q1, rfl, rfl, rfl, rfl⟩ | ⟨q1, q2, rfl, rfl, rfl, rfl⟩ | ⟨q1, q2, q3, rfl, rfl, rfl, rfl⟩ | ⟨q1, q2, q3, rfl, rfl, rfl, rfl⟩
  · exact h
  · exact h
  · exact h
  · exact IV.mk  (hk8 := h.hk8) (hn10 := h.hn10)
        (hw12 := by omega) (hV := h.hV) (hC := h.hC)
        (hWK := fun j hj => by
            by_cases e : j = w
            · subst e; rw [un_s]; exact hi
            · rw [un_n e]; exact h.hWK j (by omega)) (hPR := h.hPR) (hli := h.hli) (hA1 := h.hA1) (hVd := h.hVd)
        (hcr := by rw [cr_s]; have := h.hli; omega) (hso := h.hso) (hOR := h.hOR) (hT0 := h.hT0)
theorem iv_buy (h : IV k V C T A OR n PR ST li w WK so sp) {B P : Nat → Nat} {CT CT' : Nat → Int64} {j r : Nat} {T' B' P' : Nat → Nat} {w' : Nat} {ST' : Nat → Nat} {so' sp' : Nat} (hj : j < n) (hp : buyP k V C T B P PR ST w WK so sp CT j r T' B' P' w' ST' so' sp' CT') : IV k V C T' A OR n PR ST' li w' WK so' sp' := by
  rcases hp with ⟨⟨rfl, rfl, rfl, rfl, rfl, rfl, rfl, rfl⟩, g⟩ | ⟨a1, a2, rfl, z, a3, rfl, rfl, rfl, rfl, rfl, rfl, rfl, rfl⟩
  · exact h
  · exact IV.mk  (hk8 := (iv_cancel h).hk8) (hn10 := (iv_cancel h).hn10) (hw12 := (iv_cancel h).hw12) (hV := (iv_cancel h).hV)
        (hC := fun i hi => ⟨(h.hC i hi).1, bw_le (a := 0) (dT_le h.hC) i hi⟩) (hWK := (iv_cancel h).hWK)
        (hPR := fun i hi => by
            by_cases e : i = so'
            · subst e; rw [un_s]; have := h.hPR i hi; exact ⟨this.1, this.2.1, by omega⟩
            · rw [un_n e]; exact h.hPR i hi) (hli := (iv_cancel h).hli) (hA1 := (iv_cancel h).hA1) (hVd := (iv_cancel h).hVd) (hcr := (iv_cancel h).hcr)
        (hso := Or.inr ⟨hj, (h.hPR so' hj).1, (h.hPR so' hj).2.1⟩) (hOR := (iv_cancel h).hOR)
        (hT0 := fun i hi => by rw [pT_hi hi, dT_hi hi]; exact h.hT0 i hi)
theorem iv_refund (h : IV k V C T A OR n PR ST li w WK so sp) {P : Nat → Nat} {CT CT' : Nat → Int64} {r : Nat} {T' P' ST' : Nat → Nat} {so' : Nat} (hs : so < n) (hp : refP k V T P ST so sp CT r T' P' ST' so' CT') : IV k V C T' A OR n PR ST' li w WK so' sp := by
  rcases hp with ⟨a3, rfl, rfl, rfl, rfl, rfl, rfl⟩ | ⟨rfl, z, a3, rfl, rfl, rfl, rfl, rfl⟩
  · exact h
  · exact IV.mk  (hk8 := h.hk8) (hn10 := h.hn10) (hw12 := h.hw12) (hV := h.hV)
        (hC := fun i hi => ⟨(h.hC i hi).1, bw_le (a := 0) (fun i hi => (h.hC i hi).2) i hi⟩) (hWK := h.hWK)
        (hPR := fun i hi => by
            by_cases e : i = so
            · subst e; rw [un_s]; have := h.hPR i hi; exact ⟨this.1, this.2.1, by omega⟩
            · rw [un_n e]; exact h.hPR i hi) (hli := h.hli) (hA1 := h.hA1) (hVd := h.hVd) (hcr := h.hcr)
        (hso := Or.inl rfl) (hOR := h.hOR)
        (hT0 := fun i hi => by rw [pT_hi hi]; exact h.hT0 i hi)
theorem iv_addKind (h : IV k V C T A OR n PR ST li w WK so sp) {x y : Nat} {OR' : Nat → Nat} (h1 : 1 ≤ x) (h2 : x < 501) (h3 : y < 61) (h4 : k < 8) (hO : ordOK (un V k x) OR' (k + 1)) : IV (k + 1) (un V k x) (un C k y) T (un A k 1) OR' n PR ST li w WK so sp :=
  IV.mk 
    (hk8 := by omega) (hn10 := h.hn10) (hw12 := h.hw12)
    (hV := fun i hi => by
      by_cases e : i = k
      · subst e; rw [un_s]; exact ⟨h1, by omega⟩
      · rw [un_n e]; exact h.hV i (by omega))
    (hC := fun i hi => by
      by_cases e : i = k
      · subst e; rw [un_s, h.hT0 _ (Nat.le_refl _)]; exact ⟨by omega, Nat.zero_le _⟩
      · rw [un_n e]; exact h.hC i (by omega))
    (hWK := fun j hj => by have := h.hWK j hj; omega) (hPR := h.hPR) (hli := h.hli)
    (hA1 := fun i hi => by
      by_cases e : i = k
      · subst e; rw [un_s]; exact Nat.le_refl _
      · rw [un_n e]; exact h.hA1 i (by omega))
    (hVd := ord_vinj hO)
    (hcr := by rw [cr_un h.hWK]; exact h.hcr) (hso := h.hso)
    (hOR := hO)
    (hT0 := fun i hi => h.hT0 i (by omega))
end IVS
section QS
variable {k : Nat} {V C T B P A : Nat → Nat} {n : Nat} {PR ST : Nat → Nat} {li w : Nat} {WK : Nat → Nat} {so sp : Nat} {CT : Nat → Int64} {OR : Nat → Nat} {p0 p1 p2 : Int32} {on : Nat}

theorem q_addKind_0 {u : Nat × Nat} {v0 : Nat} {v1 : Nat} {v2 : Nat} {v3 : (Nat → Nat)} {v4 : (Nat → Nat)} {v5 : (Nat → Nat)} {v6 : (Nat → Nat)} (hV : ∀ i, i < k → 1 ≤ V i ∧ V i ≤ 500) (hp : 1 ≤ u.1 ∧ u.1 < 501 ∧ u.2 < 61 ∧ p0 = nI u.1 ∧ p1 = nI u.2 ∧ k < 8 ∧ ¬ ∃ i, i < k ∧ V i = u.1) (hq : ((v1 = 0 ∧ ∃ i j, 1 ≤ i ∧ i < 501 ∧ j < 61 ∧ p0 = nI i ∧ p1 = nI j ∧ k < 8 ∧ (¬ ∃ x, x < k ∧ V x = i) ∧ v0 = k ∧ v2 = k + 1 ∧ v3 = un V k i ∧ v4 = un C k j ∧ v5 = un A k 1 ∧ ordOK (un V k i) v6 (k + 1)) ∨ (v1 = 1 ∧ ¬ (rg p0 1 501 ∧ rg p1 0 61) ∧ v2 = k ∧ v3 = V ∧ v4 = C ∧ v5 = A ∧ v6 = OR) ∨ (v1 = 2 ∧ (rg p0 1 501 ∧ rg p1 0 61) ∧ (¬ k < 8 ∨ ∃ x, x < k ∧ nI (V x) = p0) ∧ v2 = k ∧ v3 = V ∧ v4 = C ∧ v5 = A ∧ v6 = OR))) : v1 = 0 ∧ v0 = k ∧ v2 = k + 1 ∧ v3 = un V k u.1 ∧ v4 = un C k u.2 ∧ v5 = un A k 1 ∧ ordOK (un V k u.1) v6 (k + 1) := by
  obtain ⟨a1, a2, a3, e1, e2, a4, a5⟩ := hp
  rcases hq with ⟨h0, i, j, b1, b2, b3, f1, f2, b4, b5, g⟩ | ⟨h0, hn, g⟩ | ⟨h0, hr, hn, g⟩
  · obtain rfl : u.1 = i := (nI_eq32 (by omega) (by omega)).mp (e1.symm.trans f1)
    obtain rfl : u.2 = j := (nI_eq32 (by omega) (by omega)).mp (e2.symm.trans f2)
    exact ⟨h0, g⟩
  · exact absurd ⟨⟨_, a1, a2, e1⟩, ⟨_, Nat.zero_le _, a3, e2⟩⟩ hn
  · rcases hn with q | ⟨x, q1, q2⟩
    · exact absurd a4 q
    · have q3 := hV x q1
      exact absurd ⟨x, q1, (nI_eq32 (by omega) (by omega)).mp (q2.trans e1)⟩ a5
theorem q_addKind_1 {v0 : Nat} {v1 : Nat} {v2 : Nat} {v3 : (Nat → Nat)} {v4 : (Nat → Nat)} {v5 : (Nat → Nat)} {v6 : (Nat → Nat)} (hV : ∀ i, i < k → 1 ≤ V i ∧ V i ≤ 500) (hp : ¬ (rg p0 1 501 ∧ rg p1 0 61)) (hq : ((v1 = 0 ∧ ∃ i j, 1 ≤ i ∧ i < 501 ∧ j < 61 ∧ p0 = nI i ∧ p1 = nI j ∧ k < 8 ∧ (¬ ∃ x, x < k ∧ V x = i) ∧ v0 = k ∧ v2 = k + 1 ∧ v3 = un V k i ∧ v4 = un C k j ∧ v5 = un A k 1 ∧ ordOK (un V k i) v6 (k + 1)) ∨ (v1 = 1 ∧ ¬ (rg p0 1 501 ∧ rg p1 0 61) ∧ v2 = k ∧ v3 = V ∧ v4 = C ∧ v5 = A ∧ v6 = OR) ∨ (v1 = 2 ∧ (rg p0 1 501 ∧ rg p1 0 61) ∧ (¬ k < 8 ∨ ∃ x, x < k ∧ nI (V x) = p0) ∧ v2 = k ∧ v3 = V ∧ v4 = C ∧ v5 = A ∧ v6 = OR))) : v1 = 1 ∧ v2 = k ∧ v3 = V ∧ v4 = C ∧ v5 = A ∧ v6 = OR := by
  rcases hq with ⟨h0, i, j, b1, b2, b3, f1, f2, b4, b5, g⟩ | ⟨h0, hn, g⟩ | ⟨h0, hr, hn, g⟩
  · exact absurd ⟨⟨i, b1, b2, f1⟩, ⟨j, Nat.zero_le _, b3, f2⟩⟩ hp
  · exact ⟨h0, g⟩
  · exact absurd hr hp
theorem q_addKind_2 {v0 : Nat} {v1 : Nat} {v2 : Nat} {v3 : (Nat → Nat)} {v4 : (Nat → Nat)} {v5 : (Nat → Nat)} {v6 : (Nat → Nat)} (hV : ∀ i, i < k → 1 ≤ V i ∧ V i ≤ 500) (hp : (rg p0 1 501 ∧ rg p1 0 61) ∧ (¬ k < 8 ∨ ∃ i, i < k ∧ nI (V i) = p0)) (hq : ((v1 = 0 ∧ ∃ i j, 1 ≤ i ∧ i < 501 ∧ j < 61 ∧ p0 = nI i ∧ p1 = nI j ∧ k < 8 ∧ (¬ ∃ x, x < k ∧ V x = i) ∧ v0 = k ∧ v2 = k + 1 ∧ v3 = un V k i ∧ v4 = un C k j ∧ v5 = un A k 1 ∧ ordOK (un V k i) v6 (k + 1)) ∨ (v1 = 1 ∧ ¬ (rg p0 1 501 ∧ rg p1 0 61) ∧ v2 = k ∧ v3 = V ∧ v4 = C ∧ v5 = A ∧ v6 = OR) ∨ (v1 = 2 ∧ (rg p0 1 501 ∧ rg p1 0 61) ∧ (¬ k < 8 ∨ ∃ x, x < k ∧ nI (V x) = p0) ∧ v2 = k ∧ v3 = V ∧ v4 = C ∧ v5 = A ∧ v6 = OR))) : v1 = 2 ∧ v2 = k ∧ v3 = V ∧ v4 = C ∧ v5 = A ∧ v6 = OR := by
  rcases hq with ⟨h0, i, j, b1, b2, b3, f1, f2, b4, b5, g⟩ | ⟨h0, hn, g⟩ | ⟨h0, hr, hn, g⟩
  · rcases hp.2 with q | ⟨x, q1, q2⟩
    · exact absurd b4 q
    · have q3 := hV x q1
      exact absurd ⟨x, q1, (nI_eq32 (by omega) (by omega)).mp (q2.trans f1)⟩ b5
  · exact absurd hp.1 hn
  · exact ⟨h0, g⟩
theorem q_fill_0 {u : Nat × Nat} {v0 : Nat} {v1 : Nat} {v2 : (Nat → Nat)} {v3 : (Nat → Int64)} (hk8 : k ≤ 8) (hp : u.1 < k ∧ u.2 < 61 ∧ p0 = nI u.1 ∧ p1 = nI u.2) (hq : ((v1 = 0 ∧ ∃ i j, i < k ∧ j < 61 ∧ p0 = nI i ∧ p1 = nI j ∧ v0 = j - min j (C i - T i) ∧ v2 = un T i (T i + min j (C i - T i)) ∧ v3 = vp_updL CT 4 (CT 4 + lZ ((min j (C i - T i) * V i : Nat) : Int))) ∨ (v1 = 1 ∧ ¬ rg p0 0 k ∧ v2 = T ∧ v3 = CT) ∨ (v1 = 2 ∧ rg p0 0 k ∧ ¬ rg p1 0 61 ∧ v2 = T ∧ v3 = CT))) : v1 = 0 ∧ v0 = u.2 - min u.2 (C u.1 - T u.1) ∧ v2 = un T u.1 (T u.1 + min u.2 (C u.1 - T u.1)) ∧ v3 = vp_updL CT 4 (CT 4 + lZ ((min u.2 (C u.1 - T u.1) * V u.1 : Nat) : Int)) := by
  obtain ⟨a1, a2, e1, e2⟩ := hp
  rcases hq with ⟨h0, i, j, b1, b2, f1, f2, g⟩ | ⟨h0, hn, g⟩ | ⟨h0, hr, hn, g⟩
  · obtain rfl : u.1 = i := (nI_eq32 (by omega) (by omega)).mp (e1.symm.trans f1)
    obtain rfl : u.2 = j := (nI_eq32 (by omega) (by omega)).mp (e2.symm.trans f2)
    exact ⟨h0, g⟩
  · exact absurd ⟨_, Nat.zero_le _, a1, e1⟩ hn
  · exact absurd ⟨_, Nat.zero_le _, a2, e2⟩ hn
theorem q_fill_1 {v0 : Nat} {v1 : Nat} {v2 : (Nat → Nat)} {v3 : (Nat → Int64)} (hk8 : k ≤ 8) (hp : ¬ rg p0 0 k) (hq : ((v1 = 0 ∧ ∃ i j, i < k ∧ j < 61 ∧ p0 = nI i ∧ p1 = nI j ∧ v0 = j - min j (C i - T i) ∧ v2 = un T i (T i + min j (C i - T i)) ∧ v3 = vp_updL CT 4 (CT 4 + lZ ((min j (C i - T i) * V i : Nat) : Int))) ∨ (v1 = 1 ∧ ¬ rg p0 0 k ∧ v2 = T ∧ v3 = CT) ∨ (v1 = 2 ∧ rg p0 0 k ∧ ¬ rg p1 0 61 ∧ v2 = T ∧ v3 = CT))) : v1 = 1 ∧ v2 = T ∧ v3 = CT := by
  rcases hq with ⟨h0, i, j, b1, b2, f1, f2, g⟩ | ⟨h0, hn, g⟩ | ⟨h0, hr, hn, g⟩
  · exact absurd ⟨i, Nat.zero_le _, b1, f1⟩ hp
  · exact ⟨h0, g⟩
  · exact absurd hr hp
theorem q_fill_2 {v0 : Nat} {v1 : Nat} {v2 : (Nat → Nat)} {v3 : (Nat → Int64)} (hk8 : k ≤ 8) (hp : rg p0 0 k ∧ ¬ rg p1 0 61) (hq : ((v1 = 0 ∧ ∃ i j, i < k ∧ j < 61 ∧ p0 = nI i ∧ p1 = nI j ∧ v0 = j - min j (C i - T i) ∧ v2 = un T i (T i + min j (C i - T i)) ∧ v3 = vp_updL CT 4 (CT 4 + lZ ((min j (C i - T i) * V i : Nat) : Int))) ∨ (v1 = 1 ∧ ¬ rg p0 0 k ∧ v2 = T ∧ v3 = CT) ∨ (v1 = 2 ∧ rg p0 0 k ∧ ¬ rg p1 0 61 ∧ v2 = T ∧ v3 = CT))) : v1 = 2 ∧ v2 = T ∧ v3 = CT := by
  rcases hq with ⟨h0, i, j, b1, b2, f1, f2, g⟩ | ⟨h0, hn, g⟩ | ⟨h0, hr, hn, g⟩
  · exact absurd ⟨j, Nat.zero_le _, b2, f2⟩ hp.2
  · exact absurd hp.1 hn
  · exact ⟨h0, g⟩
theorem q_take_0 {u : Nat × Nat} {v0 : Nat} {v1 : Nat} {v2 : (Nat → Nat)} {v3 : (Nat → Int64)} (hk8 : k ≤ 8) (hp : u.1 < k ∧ u.2 < 61 ∧ p0 = nI u.1 ∧ p1 = nI u.2) (hq : ((v1 = 0 ∧ ∃ i j, i < k ∧ j < 61 ∧ p0 = nI i ∧ p1 = nI j ∧ v0 = min j (T i) ∧ v2 = un T i (T i - min j (T i)) ∧ v3 = vp_updL CT 5 (CT 5 + lZ ((min j (T i) * V i : Nat) : Int))) ∨ (v1 = 1 ∧ ¬ rg p0 0 k ∧ v2 = T ∧ v3 = CT) ∨ (v1 = 2 ∧ rg p0 0 k ∧ ¬ rg p1 0 61 ∧ v2 = T ∧ v3 = CT))) : v1 = 0 ∧ v0 = min u.2 (T u.1) ∧ v2 = un T u.1 (T u.1 - min u.2 (T u.1)) ∧ v3 = vp_updL CT 5 (CT 5 + lZ ((min u.2 (T u.1) * V u.1 : Nat) : Int)) := by
  obtain ⟨a1, a2, e1, e2⟩ := hp
  rcases hq with ⟨h0, i, j, b1, b2, f1, f2, g⟩ | ⟨h0, hn, g⟩ | ⟨h0, hr, hn, g⟩
  · obtain rfl : u.1 = i := (nI_eq32 (by omega) (by omega)).mp (e1.symm.trans f1)
    obtain rfl : u.2 = j := (nI_eq32 (by omega) (by omega)).mp (e2.symm.trans f2)
    exact ⟨h0, g⟩
  · exact absurd ⟨_, Nat.zero_le _, a1, e1⟩ hn
  · exact absurd ⟨_, Nat.zero_le _, a2, e2⟩ hn
theorem q_take_1 {v0 : Nat} {v1 : Nat} {v2 : (Nat → Nat)} {v3 : (Nat → Int64)} (hk8 : k ≤ 8) (hp : ¬ rg p0 0 k) (hq : ((v1 = 0 ∧ ∃ i j, i < k ∧ j < 61 ∧ p0 = nI i ∧ p1 = nI j ∧ v0 = min j (T i) ∧ v2 = un T i (T i - min j (T i)) ∧ v3 = vp_updL CT 5 (CT 5 + lZ ((min j (T i) * V i : Nat) : Int))) ∨ (v1 = 1 ∧ ¬ rg p0 0 k ∧ v2 = T ∧ v3 = CT) ∨ (v1 = 2 ∧ rg p0 0 k ∧ ¬ rg p1 0 61 ∧ v2 = T ∧ v3 = CT))) : v1 = 1 ∧ v2 = T ∧ v3 = CT := by
  rcases hq with ⟨h0, i, j, b1, b2, f1, f2, g⟩ | ⟨h0, hn, g⟩ | ⟨h0, hr, hn, g⟩
  · exact absurd ⟨i, Nat.zero_le _, b1, f1⟩ hp
  · exact ⟨h0, g⟩
  · exact absurd hr hp
theorem q_take_2 {v0 : Nat} {v1 : Nat} {v2 : (Nat → Nat)} {v3 : (Nat → Int64)} (hk8 : k ≤ 8) (hp : rg p0 0 k ∧ ¬ rg p1 0 61) (hq : ((v1 = 0 ∧ ∃ i j, i < k ∧ j < 61 ∧ p0 = nI i ∧ p1 = nI j ∧ v0 = min j (T i) ∧ v2 = un T i (T i - min j (T i)) ∧ v3 = vp_updL CT 5 (CT 5 + lZ ((min j (T i) * V i : Nat) : Int))) ∨ (v1 = 1 ∧ ¬ rg p0 0 k ∧ v2 = T ∧ v3 = CT) ∨ (v1 = 2 ∧ rg p0 0 k ∧ ¬ rg p1 0 61 ∧ v2 = T ∧ v3 = CT))) : v1 = 2 ∧ v2 = T ∧ v3 = CT := by
  rcases hq with ⟨h0, i, j, b1, b2, f1, f2, g⟩ | ⟨h0, hn, g⟩ | ⟨h0, hr, hn, g⟩
  · exact absurd ⟨j, Nat.zero_le _, b2, f2⟩ hp.2
  · exact absurd hp.1 hn
  · exact ⟨h0, g⟩
theorem q_accept_0 {u : Nat} {v0 : Nat} {v1 : Nat} {v2 : (Nat → Nat)} (hk8 : k ≤ 8) (hp : u < k ∧ p0 = nI u) (hq : ((v1 = 0 ∧ ∃ i, i < k ∧ p0 = nI i ∧ v0 = A i ∧ v2 = un A i on) ∨ (v1 = 1 ∧ ¬ rg p0 0 k ∧ v2 = A))) : v1 = 0 ∧ v0 = A u ∧ v2 = un A u on := by
  obtain ⟨a1, e1⟩ := hp
  rcases hq with ⟨h0, i, b1, f1, g⟩ | ⟨h0, hn, g⟩
  · obtain rfl : u = i := (nI_eq32 (by omega) (by omega)).mp (e1.symm.trans f1)
    exact ⟨h0, g⟩
  · exact absurd ⟨_, Nat.zero_le _, a1, e1⟩ hn
theorem q_accept_1 {v0 : Nat} {v1 : Nat} {v2 : (Nat → Nat)} (hk8 : k ≤ 8) (hp : ¬ rg p0 0 k) (hq : ((v1 = 0 ∧ ∃ i, i < k ∧ p0 = nI i ∧ v0 = A i ∧ v2 = un A i on) ∨ (v1 = 1 ∧ ¬ rg p0 0 k ∧ v2 = A))) : v1 = 1 ∧ v2 = A := by
  rcases hq with ⟨h0, i, b1, f1, g⟩ | ⟨h0, hn, g⟩
  · exact absurd ⟨i, Nat.zero_le _, b1, f1⟩ hp
  · exact ⟨h0, g⟩
theorem q_setLimit_0 {u : Nat} {v0 : Nat} {v1 : Nat} {v2 : Nat}  (hp : u < 2001 ∧ p0 = nI u) (hq : ((v1 = 0 ∧ v0 = li ∧ v2 < 2001 ∧ p0 = nI v2) ∨ (v1 = 1 ∧ ¬ rg p0 0 2001 ∧ v2 = li))) : v1 = 0 ∧ v0 = li ∧ v2 = u := by
  obtain ⟨a1, e1⟩ := hp
  rcases hq with ⟨h0, g, b1, f1⟩ | ⟨h0, hn, g⟩
  · exact ⟨h0, g, (nI_eq32 (by omega) (by omega)).mp (f1.symm.trans e1)⟩
  · exact absurd ⟨_, Nat.zero_le _, a1, e1⟩ hn
theorem q_setLimit_1 {v0 : Nat} {v1 : Nat} {v2 : Nat}  (hp : ¬ rg p0 0 2001) (hq : ((v1 = 0 ∧ v0 = li ∧ v2 < 2001 ∧ p0 = nI v2) ∨ (v1 = 1 ∧ ¬ rg p0 0 2001 ∧ v2 = li))) : v1 = 1 ∧ v2 = li := by
  rcases hq with ⟨h0, g, b1, f1⟩ | ⟨h0, hn, g⟩
  · exact absurd ⟨_, Nat.zero_le _, b1, f1⟩ hp
  · exact ⟨h0, g⟩
theorem q_addProduct_0 {u : Nat × Nat} {v0 : Nat} {v1 : Nat} {v2 : Nat} {v3 : (Nat → Nat)} {v4 : (Nat → Nat)}  (hp : 1 ≤ u.1 ∧ u.1 < 2001 ∧ u.2 < 100 ∧ p0 = nI u.1 ∧ p1 = nI u.2 ∧ n < 10) (hq : ((v1 = 0 ∧ ∃ i j, 1 ≤ i ∧ i < 2001 ∧ j < 100 ∧ p0 = nI i ∧ p1 = nI j ∧ n < 10 ∧ v0 = n ∧ v2 = n + 1 ∧ v3 = un PR n i ∧ v4 = un ST n j) ∨ (v1 = 1 ∧ ¬ (rg p0 1 2001 ∧ rg p1 0 100) ∧ v2 = n ∧ v3 = PR ∧ v4 = ST) ∨ (v1 = 2 ∧ (rg p0 1 2001 ∧ rg p1 0 100) ∧ ¬ n < 10 ∧ v2 = n ∧ v3 = PR ∧ v4 = ST))) : v1 = 0 ∧ v0 = n ∧ v2 = n + 1 ∧ v3 = un PR n u.1 ∧ v4 = un ST n u.2 := by
  obtain ⟨a1, a2, a3, e1, e2, a4⟩ := hp
  rcases hq with ⟨h0, i, j, b1, b2, b3, f1, f2, b4, g⟩ | ⟨h0, hn, g⟩ | ⟨h0, hr, hn, g⟩
  · obtain rfl : u.1 = i := (nI_eq32 (by omega) (by omega)).mp (e1.symm.trans f1)
    obtain rfl : u.2 = j := (nI_eq32 (by omega) (by omega)).mp (e2.symm.trans f2)
    exact ⟨h0, g⟩
  · exact absurd ⟨⟨_, a1, a2, e1⟩, ⟨_, Nat.zero_le _, a3, e2⟩⟩ hn
  · exact absurd a4 hn
theorem q_addProduct_1 {v0 : Nat} {v1 : Nat} {v2 : Nat} {v3 : (Nat → Nat)} {v4 : (Nat → Nat)}  (hp : ¬ (rg p0 1 2001 ∧ rg p1 0 100)) (hq : ((v1 = 0 ∧ ∃ i j, 1 ≤ i ∧ i < 2001 ∧ j < 100 ∧ p0 = nI i ∧ p1 = nI j ∧ n < 10 ∧ v0 = n ∧ v2 = n + 1 ∧ v3 = un PR n i ∧ v4 = un ST n j) ∨ (v1 = 1 ∧ ¬ (rg p0 1 2001 ∧ rg p1 0 100) ∧ v2 = n ∧ v3 = PR ∧ v4 = ST) ∨ (v1 = 2 ∧ (rg p0 1 2001 ∧ rg p1 0 100) ∧ ¬ n < 10 ∧ v2 = n ∧ v3 = PR ∧ v4 = ST))) : v1 = 1 ∧ v2 = n ∧ v3 = PR ∧ v4 = ST := by
  rcases hq with ⟨h0, i, j, b1, b2, b3, f1, f2, b4, g⟩ | ⟨h0, hn, g⟩ | ⟨h0, hr, hn, g⟩
  · exact absurd ⟨⟨i, b1, b2, f1⟩, ⟨j, Nat.zero_le _, b3, f2⟩⟩ hp
  · exact ⟨h0, g⟩
  · exact absurd hr hp
theorem q_addProduct_2 {v0 : Nat} {v1 : Nat} {v2 : Nat} {v3 : (Nat → Nat)} {v4 : (Nat → Nat)}  (hp : (rg p0 1 2001 ∧ rg p1 0 100) ∧ ¬ n < 10) (hq : ((v1 = 0 ∧ ∃ i j, 1 ≤ i ∧ i < 2001 ∧ j < 100 ∧ p0 = nI i ∧ p1 = nI j ∧ n < 10 ∧ v0 = n ∧ v2 = n + 1 ∧ v3 = un PR n i ∧ v4 = un ST n j) ∨ (v1 = 1 ∧ ¬ (rg p0 1 2001 ∧ rg p1 0 100) ∧ v2 = n ∧ v3 = PR ∧ v4 = ST) ∨ (v1 = 2 ∧ (rg p0 1 2001 ∧ rg p1 0 100) ∧ ¬ n < 10 ∧ v2 = n ∧ v3 = PR ∧ v4 = ST))) : v1 = 2 ∧ v2 = n ∧ v3 = PR ∧ v4 = ST := by
  rcases hq with ⟨h0, i, j, b1, b2, b3, f1, f2, b4, g⟩ | ⟨h0, hn, g⟩ | ⟨h0, hr, hn, g⟩
  · exact absurd b4 hp.2
  · exact absurd hp.1 hn
  · exact ⟨h0, g⟩
theorem q_setProduct_0 {u : Nat × Nat × Nat} {v0 : Nat} {v1 : Nat} {v2 : (Nat → Nat)} {v3 : (Nat → Nat)} (hn10 : n ≤ 10) (hp : u.1 < n ∧ 1 ≤ u.2.1 ∧ u.2.1 < 2001 ∧ u.2.2 < 100 ∧ p0 = nI u.1 ∧ p1 = nI u.2.1 ∧ p2 = nI u.2.2) (hq : ((v1 = 0 ∧ ∃ h i j, h < n ∧ 1 ≤ i ∧ i < 2001 ∧ j < 100 ∧ p0 = nI h ∧ p1 = nI i ∧ p2 = nI j ∧ v0 = PR h ∧ v2 = un PR h i ∧ v3 = un ST h j) ∨ (v1 = 1 ∧ ¬ rg p0 0 n ∧ v2 = PR ∧ v3 = ST) ∨ (v1 = 2 ∧ rg p0 0 n ∧ ¬ (rg p1 1 2001 ∧ rg p2 0 100) ∧ v2 = PR ∧ v3 = ST))) : v1 = 0 ∧ v0 = PR u.1 ∧ v2 = un PR u.1 u.2.1 ∧ v3 = un ST u.1 u.2.2 := by
  obtain ⟨a0, a1, a2, a3, e0, e1, e2⟩ := hp
  rcases hq with ⟨h0, h, i, j, b0, b1, b2, b3, f0, f1, f2, g⟩ | ⟨h0, hn, g⟩ | ⟨h0, hr, hn, g⟩
  · obtain rfl : u.1 = h := (nI_eq32 (by omega) (by omega)).mp (e0.symm.trans f0)
    obtain rfl : u.2.1 = i := (nI_eq32 (by omega) (by omega)).mp (e1.symm.trans f1)
    obtain rfl : u.2.2 = j := (nI_eq32 (by omega) (by omega)).mp (e2.symm.trans f2)
    exact ⟨h0, g⟩
  · exact absurd ⟨_, Nat.zero_le _, a0, e0⟩ hn
  · exact absurd ⟨⟨_, a1, a2, e1⟩, ⟨_, Nat.zero_le _, a3, e2⟩⟩ hn
theorem q_setProduct_1 {v0 : Nat} {v1 : Nat} {v2 : (Nat → Nat)} {v3 : (Nat → Nat)} (hn10 : n ≤ 10) (hp : ¬ rg p0 0 n) (hq : ((v1 = 0 ∧ ∃ h i j, h < n ∧ 1 ≤ i ∧ i < 2001 ∧ j < 100 ∧ p0 = nI h ∧ p1 = nI i ∧ p2 = nI j ∧ v0 = PR h ∧ v2 = un PR h i ∧ v3 = un ST h j) ∨ (v1 = 1 ∧ ¬ rg p0 0 n ∧ v2 = PR ∧ v3 = ST) ∨ (v1 = 2 ∧ rg p0 0 n ∧ ¬ (rg p1 1 2001 ∧ rg p2 0 100) ∧ v2 = PR ∧ v3 = ST))) : v1 = 1 ∧ v2 = PR ∧ v3 = ST := by
  rcases hq with ⟨h0, h, i, j, b0, b1, b2, b3, f0, f1, f2, g⟩ | ⟨h0, hn, g⟩ | ⟨h0, hr, hn, g⟩
  · exact absurd ⟨h, Nat.zero_le _, b0, f0⟩ hp
  · exact ⟨h0, g⟩
  · exact absurd hr hp
theorem q_setProduct_2 {v0 : Nat} {v1 : Nat} {v2 : (Nat → Nat)} {v3 : (Nat → Nat)} (hn10 : n ≤ 10) (hp : rg p0 0 n ∧ ¬ (rg p1 1 2001 ∧ rg p2 0 100)) (hq : ((v1 = 0 ∧ ∃ h i j, h < n ∧ 1 ≤ i ∧ i < 2001 ∧ j < 100 ∧ p0 = nI h ∧ p1 = nI i ∧ p2 = nI j ∧ v0 = PR h ∧ v2 = un PR h i ∧ v3 = un ST h j) ∨ (v1 = 1 ∧ ¬ rg p0 0 n ∧ v2 = PR ∧ v3 = ST) ∨ (v1 = 2 ∧ rg p0 0 n ∧ ¬ (rg p1 1 2001 ∧ rg p2 0 100) ∧ v2 = PR ∧ v3 = ST))) : v1 = 2 ∧ v2 = PR ∧ v3 = ST := by
  rcases hq with ⟨h0, h, i, j, b0, b1, b2, b3, f0, f1, f2, g⟩ | ⟨h0, hn, g⟩ | ⟨h0, hr, hn, g⟩
  · exact absurd ⟨⟨i, b1, b2, f1⟩, ⟨j, Nat.zero_le _, b3, f2⟩⟩ hp.2
  · exact absurd hp.1 hn
  · exact ⟨h0, g⟩
theorem q_product_0 {u : Nat} {v0 : Nat} {v1 : Nat} (hn10 : n ≤ 10) (hp : u < n ∧ p0 = nI u) (hq : ((v1 = 0 ∧ ∃ i, i < n ∧ p0 = nI i ∧ v0 = if on = 0 then PR i else ST i) ∨ (v1 = 1 ∧ ¬ rg p0 0 n))) : v1 = 0 ∧ v0 = if on = 0 then PR u else ST u := by
  obtain ⟨a1, e1⟩ := hp
  rcases hq with ⟨h0, i, b1, f1, g⟩ | ⟨h0, hn⟩
  · obtain rfl : u = i := (nI_eq32 (by omega) (by omega)).mp (e1.symm.trans f1)
    exact ⟨h0, g⟩
  · exact absurd ⟨_, Nat.zero_le _, a1, e1⟩ hn
theorem q_product_1 {v0 : Nat} {v1 : Nat} (hn10 : n ≤ 10) (hp : ¬ rg p0 0 n) (hq : ((v1 = 0 ∧ ∃ i, i < n ∧ p0 = nI i ∧ v0 = if on = 0 then PR i else ST i) ∨ (v1 = 1 ∧ ¬ rg p0 0 n))) : v1 = 1 := by
  rcases hq with ⟨h0, i, b1, f1, g⟩ | ⟨h0, hn⟩
  · exact absurd ⟨i, Nat.zero_le _, b1, f1⟩ hp
  · exact h0
theorem q_insert_0 {u : Nat × Nat × Nat × (Nat → Nat) × (Nat → Int64)} {v0 : Nat} {v1 : Nat} {v2 : Nat} {v3 : (Nat → Nat)} {v4 : (Nat → Int64)} (hk8 : k ≤ 8) (hp : u.1 < k ∧ p0 = nI u.1 ∧ insP k V A li w WK CT u.1 u.2.2.1 u.2.2.2.1 u.2.2.2.2 u.2.1) (hq : ((v1 = 0 ∧ ∃ i, i < k ∧ p0 = nI i ∧ insP k V A li w WK CT i v2 v3 v4 v0) ∨ (v1 = 1 ∧ ¬ rg p0 0 k ∧ v2 = w ∧ v3 = WK ∧ v4 = CT))) : v1 = 0 ∧ v0 = u.2.1 ∧ v2 = u.2.2.1 ∧ v3 = u.2.2.2.1 ∧ v4 = u.2.2.2.2 := by
  obtain ⟨a1, e1, z⟩ := hp
  rcases hq with ⟨h0, i, b1, f1, g⟩ | ⟨h0, hn, g⟩
  · obtain rfl : u.1 = i := (nI_eq32 (by omega) (by omega)).mp (e1.symm.trans f1)
    exact ⟨h0, insP_fn g z⟩
  · exact absurd ⟨_, Nat.zero_le _, a1, e1⟩ hn
theorem q_insert_1 {v0 : Nat} {v1 : Nat} {v2 : Nat} {v3 : (Nat → Nat)} {v4 : (Nat → Int64)} (hk8 : k ≤ 8) (hp : ¬ rg p0 0 k) (hq : ((v1 = 0 ∧ ∃ i, i < k ∧ p0 = nI i ∧ insP k V A li w WK CT i v2 v3 v4 v0) ∨ (v1 = 1 ∧ ¬ rg p0 0 k ∧ v2 = w ∧ v3 = WK ∧ v4 = CT))) : v1 = 1 ∧ v2 = w ∧ v3 = WK ∧ v4 = CT := by
  rcases hq with ⟨h0, i, b1, f1, g⟩ | ⟨h0, hn, g⟩
  · exact absurd ⟨i, Nat.zero_le _, b1, f1⟩ hp
  · exact ⟨h0, g⟩
theorem q_buy_0 {u : Nat × Nat × (Nat → Nat) × (Nat → Nat) × (Nat → Nat) × Nat × (Nat → Nat) × Nat × Nat × (Nat → Int64) × (Nat → Int) × (Nat → Nat)} {v0 : Nat} {v1 : Nat} {v2 : (Nat → Nat)} {v3 : (Nat → Nat)} {v4 : (Nat → Nat)} {v5 : Nat} {v6 : (Nat → Nat)} {v7 : Nat} {v8 : Nat} {v9 : (Nat → Int64)} (hn10 : n ≤ 10) (hp : u.1 < n ∧ p0 = nI u.1 ∧ buyP k V C T B P PR ST w WK so sp CT u.1 u.2.1 u.2.2.1 u.2.2.2.1 u.2.2.2.2.1 u.2.2.2.2.2.1 u.2.2.2.2.2.2.1 u.2.2.2.2.2.2.2.1 u.2.2.2.2.2.2.2.2.1 u.2.2.2.2.2.2.2.2.2.1) (hq : ((v1 = 1 ∧ ¬ rg p0 0 n ∧ v2 = T ∧ v3 = B ∧ v4 = P ∧ v5 = w ∧ v6 = ST ∧ v7 = so ∧ v8 = sp ∧ v9 = CT) ∨ (v1 = 0 ∧ ∃ j, j < n ∧ p0 = nI j ∧ buyP k V C T B P PR ST w WK so sp CT j v0 v2 v3 v4 v5 v6 v7 v8 v9))) : v1 = 0 ∧ v0 = u.2.1 ∧ v2 = u.2.2.1 ∧ v3 = u.2.2.2.1 ∧ v4 = u.2.2.2.2.1 ∧ v5 = u.2.2.2.2.2.1 ∧ v6 = u.2.2.2.2.2.2.1 ∧ v7 = u.2.2.2.2.2.2.2.1 ∧ v8 = u.2.2.2.2.2.2.2.2.1 ∧ v9 = u.2.2.2.2.2.2.2.2.2.1 := by
  obtain ⟨a1, e1, z⟩ := hp
  rcases hq with ⟨h0, hn, g⟩ | ⟨h0, i, b1, f1, g⟩
  · exact absurd ⟨_, Nat.zero_le _, a1, e1⟩ hn
  · obtain rfl : u.1 = i := (nI_eq32 (by omega) (by omega)).mp (e1.symm.trans f1)
    exact ⟨h0, buyP_fn g z⟩
theorem q_buy_1 {v0 : Nat} {v1 : Nat} {v2 : (Nat → Nat)} {v3 : (Nat → Nat)} {v4 : (Nat → Nat)} {v5 : Nat} {v6 : (Nat → Nat)} {v7 : Nat} {v8 : Nat} {v9 : (Nat → Int64)} (hn10 : n ≤ 10) (hp : ¬ rg p0 0 n) (hq : ((v1 = 1 ∧ ¬ rg p0 0 n ∧ v2 = T ∧ v3 = B ∧ v4 = P ∧ v5 = w ∧ v6 = ST ∧ v7 = so ∧ v8 = sp ∧ v9 = CT) ∨ (v1 = 0 ∧ ∃ j, j < n ∧ p0 = nI j ∧ buyP k V C T B P PR ST w WK so sp CT j v0 v2 v3 v4 v5 v6 v7 v8 v9))) : v1 = 1 ∧ v2 = T ∧ v3 = B ∧ v4 = P ∧ v5 = w ∧ v6 = ST ∧ v7 = so ∧ v8 = sp ∧ v9 = CT := by
  rcases hq with ⟨h0, hn, g⟩ | ⟨h0, i, b1, f1, g⟩
  · exact ⟨h0, g⟩
  · exact absurd ⟨i, Nat.zero_le _, b1, f1⟩ hp
theorem q_refund_0 {u : Nat × (Nat → Nat) × (Nat → Nat) × (Nat → Nat) × Nat × (Nat → Int64) × (Nat → Int)} {v0 : Nat} {v1 : Nat} {v2 : (Nat → Nat)} {v3 : (Nat → Nat)} {v4 : (Nat → Nat)} {v5 : Nat} {v6 : (Nat → Int64)}  (hp : so ≠ 4294967295 ∧ so < n ∧ refP k V T P ST so sp CT u.1 u.2.1 u.2.2.1 u.2.2.2.1 u.2.2.2.2.1 u.2.2.2.2.2.1) (hq : ((v1 = 1 ∧ so = 4294967295 ∧ v0 = 0 ∧ v2 = T ∧ v3 = P ∧ v4 = ST ∧ v5 = so ∧ v6 = CT) ∨ (v1 = 0 ∧ so ≠ 4294967295 ∧ so < n ∧ refP k V T P ST so sp CT v0 v2 v3 v4 v5 v6))) : v1 = 0 ∧ v0 = u.1 ∧ v2 = u.2.1 ∧ v3 = u.2.2.1 ∧ v4 = u.2.2.2.1 ∧ v5 = u.2.2.2.2.1 ∧ v6 = u.2.2.2.2.2.1 := by
  obtain ⟨a1, a2, z⟩ := hp
  rcases hq with ⟨h0, hn, _, g⟩ | ⟨h0, b1, b2, g⟩
  · exact absurd hn a1
  · exact ⟨h0, refP_fn g z⟩
theorem q_refund_1 {v0 : Nat} {v1 : Nat} {v2 : (Nat → Nat)} {v3 : (Nat → Nat)} {v4 : (Nat → Nat)} {v5 : Nat} {v6 : (Nat → Int64)}  (hp : so = 4294967295) (hq : ((v1 = 1 ∧ so = 4294967295 ∧ v0 = 0 ∧ v2 = T ∧ v3 = P ∧ v4 = ST ∧ v5 = so ∧ v6 = CT) ∨ (v1 = 0 ∧ so ≠ 4294967295 ∧ so < n ∧ refP k V T P ST so sp CT v0 v2 v3 v4 v5 v6))) : v1 = 1 ∧ v2 = T ∧ v3 = P ∧ v4 = ST ∧ v5 = so ∧ v6 = CT := by
  rcases hq with ⟨h0, hn, _, g⟩ | ⟨h0, b1, b2, g⟩
  · exact ⟨h0, g⟩
  · exact absurd hp b1
theorem q_escrow_0 {u : Nat} {v0 : Nat} {v1 : Nat} (hw12 : w ≤ 12) (hp : u < w ∧ p0 = nI u) (hq : ((v1 = 0 ∧ ∃ i, i < w ∧ p0 = nI i ∧ v0 = WK i) ∨ (v1 = 1 ∧ ¬ rg p0 0 w))) : v1 = 0 ∧ v0 = WK u := by
  obtain ⟨a1, e1⟩ := hp
  rcases hq with ⟨h0, i, b1, f1, g⟩ | ⟨h0, hn⟩
  · obtain rfl : u = i := (nI_eq32 (by omega) (by omega)).mp (e1.symm.trans f1)
    exact ⟨h0, g⟩
  · exact absurd ⟨_, Nat.zero_le _, a1, e1⟩ hn
theorem q_escrow_1 {v0 : Nat} {v1 : Nat} (hw12 : w ≤ 12) (hp : ¬ rg p0 0 w) (hq : ((v1 = 0 ∧ ∃ i, i < w ∧ p0 = nI i ∧ v0 = WK i) ∨ (v1 = 1 ∧ ¬ rg p0 0 w))) : v1 = 1 := by
  rcases hq with ⟨h0, i, b1, f1, g⟩ | ⟨h0, hn⟩
  · exact absurd ⟨i, Nat.zero_le _, b1, f1⟩ hp
  · exact h0
theorem q_coins_0 {u : Nat × Nat} {v0 : Nat} {v1 : Nat} (hk8 : k ≤ 8) (hp : u.1 < k ∧ u.2 < 4 ∧ p0 = nI u.1 ∧ p1 = nI u.2) (hq : ((v1 = 0 ∧ ∃ i j, i < k ∧ j < 4 ∧ p0 = nI i ∧ p1 = nI j ∧ v0 = tld V T B P i j) ∨ (v1 = 1 ∧ ¬ (rg p0 0 k ∧ rg p1 0 4)))) : v1 = 0 ∧ v0 = tld V T B P u.1 u.2 := by
  obtain ⟨a1, a2, e1, e2⟩ := hp
  rcases hq with ⟨h0, i, j, b1, b2, f1, f2, g⟩ | ⟨h0, hn⟩
  · obtain rfl : u.1 = i := (nI_eq32 (by omega) (by omega)).mp (e1.symm.trans f1)
    obtain rfl : u.2 = j := (nI_eq32 (by omega) (by omega)).mp (e2.symm.trans f2)
    exact ⟨h0, g⟩
  · exact absurd ⟨⟨_, Nat.zero_le _, a1, e1⟩, ⟨_, Nat.zero_le _, a2, e2⟩⟩ hn
theorem q_coins_1 {v0 : Nat} {v1 : Nat} (hk8 : k ≤ 8) (hp : ¬ (rg p0 0 k ∧ rg p1 0 4)) (hq : ((v1 = 0 ∧ ∃ i j, i < k ∧ j < 4 ∧ p0 = nI i ∧ p1 = nI j ∧ v0 = tld V T B P i j) ∨ (v1 = 1 ∧ ¬ (rg p0 0 k ∧ rg p1 0 4)))) : v1 = 1 := by
  rcases hq with ⟨h0, i, j, b1, b2, f1, f2, g⟩ | ⟨h0, hn⟩
  · exact absurd ⟨⟨_, Nat.zero_le _, b1, f1⟩, ⟨_, Nat.zero_le _, b2, f2⟩⟩ hp
  · exact h0
theorem q_fewest_0 {u : Nat × Nat × (Nat → Int)} {v0 : Nat} {v1 : Nat}  (hp : u.1 < 2001 ∧ p0 = nI u.1 ∧ fwR T V k u.1 u.2.1) (hq : ((v1 = 0 ∧ ∃ i, i < 2001 ∧ p0 = nI i ∧ fwR T V k i v0) ∨ (v1 = 1 ∧ ¬ rg p0 0 2001))) : v1 = 0 ∧ v0 = u.2.1 := by
  obtain ⟨a1, e1, z⟩ := hp
  rcases hq with ⟨h0, i, b1, f1, g⟩ | ⟨h0, hn⟩
  · obtain rfl : u.1 = i := (nI_eq32 (by omega) (by omega)).mp (e1.symm.trans f1)
    exact ⟨h0, fwR_fn g z⟩
  · exact absurd ⟨_, Nat.zero_le _, a1, e1⟩ hn
theorem q_fewest_1 {v0 : Nat} {v1 : Nat}  (hp : ¬ rg p0 0 2001) (hq : ((v1 = 0 ∧ ∃ i, i < 2001 ∧ p0 = nI i ∧ fwR T V k i v0) ∨ (v1 = 1 ∧ ¬ rg p0 0 2001))) : v1 = 1 := by
  rcases hq with ⟨h0, i, b1, f1, g⟩ | ⟨h0, hn⟩
  · exact absurd ⟨_, Nat.zero_le _, b1, f1⟩ hp
  · exact h0
theorem q_part_0 {u : Nat × Nat × Nat × (Nat → Int)} {v0 : Nat} {v1 : Nat} (hk8 : k ≤ 8) (hp : u.1 < 2001 ∧ u.2.1 < k ∧ p0 = nI u.1 ∧ p1 = nI u.2.1 ∧ ptR T V k u.1 u.2.1 u.2.2.1) (hq : ((v1 = 0 ∧ ∃ i j, i < 2001 ∧ j < k ∧ p0 = nI i ∧ p1 = nI j ∧ ptR T V k i j v0) ∨ (v1 = 1 ∧ ¬ rg p0 0 2001) ∨ (v1 = 2 ∧ rg p0 0 2001 ∧ ¬ rg p1 0 k))) : v1 = 0 ∧ v0 = u.2.2.1 := by
  obtain ⟨a1, a2, e1, e2, z⟩ := hp
  rcases hq with ⟨h0, i, j, b1, b2, f1, f2, g⟩ | ⟨h0, hn⟩ | ⟨h0, hr, hn⟩
  · obtain rfl : u.1 = i := (nI_eq32 (by omega) (by omega)).mp (e1.symm.trans f1)
    obtain rfl : u.2.1 = j := (nI_eq32 (by omega) (by omega)).mp (e2.symm.trans f2)
    exact ⟨h0, ptR_fn g z⟩
  · exact absurd ⟨_, Nat.zero_le _, a1, e1⟩ hn
  · exact absurd ⟨_, Nat.zero_le _, a2, e2⟩ hn
theorem q_part_1 {v0 : Nat} {v1 : Nat} (hk8 : k ≤ 8) (hp : ¬ rg p0 0 2001) (hq : ((v1 = 0 ∧ ∃ i j, i < 2001 ∧ j < k ∧ p0 = nI i ∧ p1 = nI j ∧ ptR T V k i j v0) ∨ (v1 = 1 ∧ ¬ rg p0 0 2001) ∨ (v1 = 2 ∧ rg p0 0 2001 ∧ ¬ rg p1 0 k))) : v1 = 1 := by
  rcases hq with ⟨h0, i, j, b1, b2, f1, f2, g⟩ | ⟨h0, hn⟩ | ⟨h0, hr, hn⟩
  · exact absurd ⟨i, Nat.zero_le _, b1, f1⟩ hp
  · exact h0
  · exact absurd hr hp
theorem q_part_2 {v0 : Nat} {v1 : Nat} (hk8 : k ≤ 8) (hp : rg p0 0 2001 ∧ ¬ rg p1 0 k) (hq : ((v1 = 0 ∧ ∃ i j, i < 2001 ∧ j < k ∧ p0 = nI i ∧ p1 = nI j ∧ ptR T V k i j v0) ∨ (v1 = 1 ∧ ¬ rg p0 0 2001) ∨ (v1 = 2 ∧ rg p0 0 2001 ∧ ¬ rg p1 0 k))) : v1 = 2 := by
  rcases hq with ⟨h0, i, j, b1, b2, f1, f2, g⟩ | ⟨h0, hn⟩ | ⟨h0, hr, hn⟩
  · exact absurd ⟨j, Nat.zero_le _, b2, f2⟩ hp.2
  · exact absurd hp.1 hn
  · exact h0
theorem q_below_0 {u : Nat × Nat × (Nat → Int)} {v0 : Nat} {v1 : Nat}  (hp : u.1 < 2001 ∧ p0 = nI u.1 ∧ blR T V k u.1 u.2.1) (hq : ((v1 = 0 ∧ ∃ i, i < 2001 ∧ p0 = nI i ∧ blR T V k i v0) ∨ (v1 = 1 ∧ ¬ rg p0 0 2001))) : v1 = 0 ∧ v0 = u.2.1 := by
  obtain ⟨a1, e1, z⟩ := hp
  rcases hq with ⟨h0, i, b1, f1, g⟩ | ⟨h0, hn⟩
  · obtain rfl : u.1 = i := (nI_eq32 (by omega) (by omega)).mp (e1.symm.trans f1)
    exact ⟨h0, blR_fn g z⟩
  · exact absurd ⟨_, Nat.zero_le _, a1, e1⟩ hn
theorem q_below_1 {v0 : Nat} {v1 : Nat}  (hp : ¬ rg p0 0 2001) (hq : ((v1 = 0 ∧ ∃ i, i < 2001 ∧ p0 = nI i ∧ blR T V k i v0) ∨ (v1 = 1 ∧ ¬ rg p0 0 2001))) : v1 = 1 := by
  rcases hq with ⟨h0, i, b1, f1, g⟩ | ⟨h0, hn⟩
  · exact absurd ⟨_, Nat.zero_le _, b1, f1⟩ hp
  · exact h0
theorem q_gaps_0 {u : Nat × (Nat → Int)} {v0 : Nat} {v1 : Nat}  (hp : u.1 < 2001 ∧ p0 = nI u.1) (hq : ((v1 = 0 ∧ ∃ i, i < 2001 ∧ p0 = nI i ∧ v0 = gpR T V k i) ∨ (v1 = 1 ∧ ¬ rg p0 0 2001))) : v1 = 0 ∧ v0 = gpR T V k u.1 := by
  obtain ⟨a1, e1⟩ := hp
  rcases hq with ⟨h0, i, b1, f1, g⟩ | ⟨h0, hn⟩
  · obtain rfl : u.1 = i := (nI_eq32 (by omega) (by omega)).mp (e1.symm.trans f1)
    exact ⟨h0, g⟩
  · exact absurd ⟨_, Nat.zero_le _, a1, e1⟩ hn
theorem q_gaps_1 {v0 : Nat} {v1 : Nat}  (hp : ¬ rg p0 0 2001) (hq : ((v1 = 0 ∧ ∃ i, i < 2001 ∧ p0 = nI i ∧ v0 = gpR T V k i) ∨ (v1 = 1 ∧ ¬ rg p0 0 2001))) : v1 = 1 := by
  rcases hq with ⟨h0, i, b1, f1, g⟩ | ⟨h0, hn⟩
  · exact absurd ⟨_, Nat.zero_le _, b1, f1⟩ hp
  · exact h0
theorem q_audit_0 {u : Nat} {v0 : Int64} {v1 : Nat}  (hp : u < 10 ∧ p0 = nI u) (hq : ((v1 = 0 ∧ ∃ i, i < 10 ∧ p0 = nI i ∧ v0 = CT i) ∨ (v1 = 1 ∧ ¬ rg p0 0 10))) : v1 = 0 ∧ v0 = CT u := by
  obtain ⟨a1, e1⟩ := hp
  rcases hq with ⟨h0, i, b1, f1, g⟩ | ⟨h0, hn⟩
  · obtain rfl : u = i := (nI_eq32 (by omega) (by omega)).mp (e1.symm.trans f1)
    exact ⟨h0, g⟩
  · exact absurd ⟨_, Nat.zero_le _, a1, e1⟩ hn
theorem q_audit_1 {v0 : Int64} {v1 : Nat}  (hp : ¬ rg p0 0 10) (hq : ((v1 = 0 ∧ ∃ i, i < 10 ∧ p0 = nI i ∧ v0 = CT i) ∨ (v1 = 1 ∧ ¬ rg p0 0 10))) : v1 = 1 := by
  rcases hq with ⟨h0, i, b1, f1, g⟩ | ⟨h0, hn⟩
  · exact absurd ⟨_, Nat.zero_le _, b1, f1⟩ hp
  · exact h0
end QS
