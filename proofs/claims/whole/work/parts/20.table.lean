/-! the reference's table: the fewest coins, kind by kind in the order of their values -/
abbrev NN : Nat := 4294967295
theorem b1_of {P : Prop} (h : b1 P ≠ 0) : P := Classical.byContradiction fun q => h (b1_n q)
theorem b1_no {P : Prop} (h : b1 P = 0) : ¬ P := fun q => by rw [b1_y q] at h; omega
/-- m coins of the first n kinds make a -/
def mS (t V o : Nat → Nat) : Nat → Nat → Nat → Prop
  | 0 => fun a m => a = 0 ∧ m = 0
  | n + 1 => fun a m => ∃ g, g ≤ t (o n) ∧ g * V (o n) ≤ a ∧ g ≤ m ∧ mS t V o n (a - g * V (o n)) (m - g)
/-- e is the least of them, NN if there is none -/
def isM (e : Nat) (t V o : Nat → Nat) (n a : Nat) : Prop := (e = 4294967295 ∧ ∀ m, ¬ mS t V o n a m) ∨ (mS t V o n a e ∧ (∀ m, mS t V o n a m → e ≤ m) ∧ e ≤ 60 * n)
/-- g coins of the kind of row n are paid of a -/
def isC (F : Nat → Nat → Nat) (V o : Nat → Nat) (n a g : Nat) : Prop := F n (a - g * V (o n)) ≠ 4294967295 ∧ F n (a - g * V (o n)) + g = F (n + 1) a
def isG (F : Nat → Nat → Nat) (t V o : Nat → Nat) (n a g : Nat) : Prop := g ≤ t (o n) ∧ g * V (o n) ≤ a ∧ isC F V o n a g ∧ ∀ g', g < g' → g' ≤ t (o n) → g' * V (o n) ≤ a → ¬ isC F V o n a g'
def isV (F : Nat → Nat → Nat) (t V o : Nat → Nat) : Nat → Nat → (Nat → Nat) → Prop
  | 0 => fun _ _ => True
  | n + 1 => fun a g => isG F t V o n a (g n) ∧ isV F t V o n (a - g n * V (o n)) g
theorem isV_cong {F : Nat → Nat → Nat} {t V o : Nat → Nat} : ∀ {n a : Nat} {g g' : Nat → Nat}, (∀ j, j < n → g j = g' j) → isV F t V o n a g → isV F t V o n a g'
  | 0, _, _, _, _, _ => trivial
  | n + 1, a, g, g', h, q => by
    obtain ⟨q1, q2⟩ := q
    have e := h n (by omega)
    exact ⟨e ▸ q1, e ▸ isV_cong (fun j hj => h j (by omega)) q2⟩
/-- the ways as numbers of coins -/
theorem mS_vec {t V o : Nat → Nat} : ∀ {n a m : Nat}, mS t V o n a m → ∃ g : Nat → Nat, (∀ j, j < n → g j ≤ t (o j)) ∧ sm (fun j => g j * V (o j)) n = a ∧ sm g n = m
  | 0, a, m, h => ⟨fun _ => 0, fun j hj => absurd hj (Nat.not_lt_zero j), h.1.symm, h.2.symm⟩
  | n + 1, a, m, h => by
    obtain ⟨g, h1, h2, h3, h4⟩ := h
    obtain ⟨d, e1, e2, e3⟩ := mS_vec h4
    refine ⟨un d n g, fun j hj => ?_, ?_, ?_⟩
    · by_cases q : j = n
      · subst q; rw [un_s]; exact h1
      · rw [un_n q]; exact e1 j (by omega)
    · show sm (fun j => un d n g j * V (o j)) n + un d n g n * V (o n) = a
      rw [un_s, sm_cong (g := fun j => d j * V (o j)) (fun j hj => by rw [un_n (by omega)]), e2]; omega
    · show sm (un d n g) n + un d n g n = m
      rw [un_s, sm_cong (g := d) (fun j hj => un_n (by omega)), e3]; omega
theorem vec_mS {t V o g : Nat → Nat} : ∀ {n : Nat}, (∀ j, j < n → g j ≤ t (o j)) → mS t V o n (sm (fun j => g j * V (o j)) n) (sm g n)
  | 0, _ => ⟨rfl, rfl⟩
  | n + 1, h => by
    refine ⟨g n, h n (by omega), ?_, ?_, ?_⟩
    · show g n * V (o n) ≤ sm (fun j => g j * V (o j)) n + g n * V (o n)
      omega
    · show g n ≤ sm g n + g n
      omega
    · have e1 : sm (fun j => g j * V (o j)) (n + 1) - g n * V (o n) = sm (fun j => g j * V (o j)) n := by
        show sm (fun j => g j * V (o j)) n + g n * V (o n) - g n * V (o n) = _
        omega
      have e2 : sm g (n + 1) - g n = sm g n := by
        show sm g n + g n - g n = _
        omega
      rw [e1, e2]
      exact vec_mS (fun j hj => h j (by omega))
theorem sm_dig {d : Nat → Nat} : ∀ {n : Nat}, (∀ j, j < n → d j ≤ 63) → sm (fun j => d j * 2 ^ (j * 6)) n < 2 ^ (n * 6)
  | 0, _ => by simp [sm]
  | n + 1, h => by
    have ih := sm_dig (d := d) (n := n) (fun j hj => h j (by omega))
    have h1 := h n (by omega)
    show sm (fun j => d j * 2 ^ (j * 6)) n + d n * 2 ^ (n * 6) < 2 ^ ((n + 1) * 6)
    have e : 2 ^ ((n + 1) * 6) = 64 * 2 ^ (n * 6) := by rw [Nat.succ_mul, Nat.pow_add]; omega
    have h2 : d n * 2 ^ (n * 6) ≤ 63 * 2 ^ (n * 6) := Nat.mul_le_mul_right _ h1
    omega
/-- the greedy choice: it is a way of the fewest coins, and its digits are the greatest -/
theorem greedy {F : Nat → Nat → Nat} {t V o : Nat → Nat} {k am : Nat} (hk : k ≤ 8) (ht : ∀ j, j < k → t (o j) ≤ 60) (hM : ∀ n, n ≤ k → ∀ a, a ≤ am → isM (F n a) t V o n a) : ∀ n, n ≤ k → ∀ a, a ≤ am → F n a ≠ 4294967295 → ∃ g : Nat → Nat, isV F t V o n a g ∧ (∀ j, j < n → g j ≤ t (o j)) ∧ sm (fun j => g j * V (o j)) n = a ∧ sm g n = F n a ∧ ∀ d : Nat → Nat, (∀ j, j < n → d j ≤ t (o j)) → sm (fun j => d j * V (o j)) n = a → sm d n = F n a → sm (fun j => d j * 2 ^ (j * 6)) n ≤ sm (fun j => g j * 2 ^ (j * 6)) n := by
  intro n
  induction n with
  | zero =>
    intro _ a ha hF
    rcases hM 0 (by omega) a ha with ⟨h, -⟩ | ⟨h, -, -⟩
    · exact absurd h hF
    · exact ⟨fun _ => 0, trivial, fun j hj => absurd hj (Nat.not_lt_zero j), h.1.symm, h.2.symm, fun d _ _ _ => Nat.le_refl _⟩
  | succ n ih =>
    intro hn a ha hF
    obtain ⟨hS, hmin, hb⟩ : mS t V o (n + 1) a (F (n + 1) a) ∧ (∀ m, mS t V o (n + 1) a m → F (n + 1) a ≤ m) ∧ F (n + 1) a ≤ 60 * (n + 1) := by
      rcases hM (n + 1) hn a ha with ⟨h, -⟩ | h
      · exact absurd h hF
      · exact h
    -- what every way of the fewest coins has at row n
    have key : ∀ g, g ≤ t (o n) → g * V (o n) ≤ a → g ≤ F (n + 1) a → mS t V o n (a - g * V (o n)) (F (n + 1) a - g) → isC F V o n a g := by
      intro g h1 h2 h3 h4
      rcases hM n (by omega) (a - g * V (o n)) (by omega) with ⟨-, h⟩ | ⟨q1, q2, q3⟩
      · exact absurd h4 (h _)
      · have h5 := q2 _ h4
        have h6 := hmin (F n (a - g * V (o n)) + g) ⟨g, h1, h2, by omega, by rw [Nat.add_sub_cancel]; exact q1⟩
        exact ⟨by omega, by omega⟩
    obtain ⟨g0, a1, a2, a3, a4⟩ := hS
    have c0 := key g0 a1 a2 a3 a4
    -- the greatest such
    obtain ⟨g, hg1, hg2, hgc, hgm⟩ : ∃ g, g ≤ t (o n) ∧ g * V (o n) ≤ a ∧ isC F V o n a g ∧ ∀ g', g < g' → g' ≤ t (o n) → g' * V (o n) ≤ a → ¬ isC F V o n a g' := by
      have up : ∀ r, ∀ g, g ≤ t (o n) → t (o n) - g ≤ r → g * V (o n) ≤ a → isC F V o n a g → ∃ g, g ≤ t (o n) ∧ g * V (o n) ≤ a ∧ isC F V o n a g ∧ ∀ g', g < g' → g' ≤ t (o n) → g' * V (o n) ≤ a → ¬ isC F V o n a g' := by
        intro r
        induction r with
        | zero =>
          intro g b1 b2 b3 b4
          exact ⟨g, b1, b3, b4, fun g' x y => absurd x (by omega)⟩
        | succ r ihr =>
          intro g b1 b2 b3 b4
          rcases Classical.em (∃ g', g < g' ∧ g' ≤ t (o n) ∧ g' * V (o n) ≤ a ∧ isC F V o n a g') with ⟨g', x1, x2, x3, x4⟩ | hx
          · exact ihr g' x2 (by omega) x3 x4
          · exact ⟨g, b1, b3, b4, fun g' x y z u => hx ⟨g', x, y, z, u⟩⟩
      exact up (t (o n)) g0 a1 (by omega) a2 c0
    obtain ⟨d0, v1, v2, v3, v4, v5⟩ := ih (by omega) (a - g * V (o n)) (by omega) hgc.1
    have eV : sm (fun j => un d0 n g j * V (o j)) n = sm (fun j => d0 j * V (o j)) n := sm_cong (fun j hj => by rw [un_n (by omega)])
    have eS : sm (un d0 n g) n = sm d0 n := sm_cong (fun j hj => un_n (by omega))
    have eD : sm (fun j => un d0 n g j * 2 ^ (j * 6)) n = sm (fun j => d0 j * 2 ^ (j * 6)) n := sm_cong (fun j hj => by rw [un_n (by omega)])
    refine ⟨un d0 n g, ⟨by rw [un_s]; exact ⟨hg1, hg2, hgc, hgm⟩, by rw [un_s]; exact isV_cong (fun j hj => (un_n (by omega)).symm) v1⟩, fun j hj => ?_, ?_, ?_, ?_⟩
    · by_cases q : j = n
      · subst q; rw [un_s]; exact hg1
      · rw [un_n q]; exact v2 j (by omega)
    · show sm (fun j => un d0 n g j * V (o j)) n + un d0 n g n * V (o n) = a
      rw [un_s, eV, v3]; omega
    · show sm (un d0 n g) n + un d0 n g n = F (n + 1) a
      rw [un_s, eS, v4]; exact hgc.2
    · intro d w1 w2 w3
      have w2' : sm (fun j => d j * V (o j)) n + d n * V (o n) = a := w2
      have w3' : sm d n + d n = F (n + 1) a := w3
      have hd1 := w1 n (by omega)
      have hdS : mS t V o n (a - d n * V (o n)) (F (n + 1) a - d n) := by
        have := vec_mS (t := t) (V := V) (o := o) (g := d) (n := n) (fun j hj => w1 j (by omega))
        rw [show a - d n * V (o n) = sm (fun j => d j * V (o j)) n by omega, show F (n + 1) a - d n = sm d n by omega]
        exact this
      have hdc := key (d n) hd1 (by omega) (by omega) hdS
      have hle : d n ≤ g := by
        rcases Nat.lt_or_ge g (d n) with q | q
        · exact absurd hdc (hgm (d n) q hd1 (by omega))
        · exact q
      show sm (fun j => d j * 2 ^ (j * 6)) n + d n * 2 ^ (n * 6) ≤ sm (fun j => un d0 n g j * 2 ^ (j * 6)) n + un d0 n g n * 2 ^ (n * 6)
      rw [un_s, eD]
      rcases Nat.lt_or_ge (d n) g with q | q
      · have h1 := sm_dig (d := d) (n := n) (fun j hj => by have := w1 j (by omega); have := ht j (by omega); omega)
        have h2 : (d n + 1) * 2 ^ (n * 6) ≤ g * 2 ^ (n * 6) := Nat.mul_le_mul_right _ q
        rw [Nat.succ_mul] at h2
        omega
      · have e : d n = g := by omega
        rw [e] at w2' w3' ⊢
        have h3 := v5 d (fun j hj => w1 j (by omega)) (by omega) (by have := hgc.2; omega)
        omega
/-- the order: kinds by their values -/
def ordOK (V o : Nat → Nat) (k : Nat) : Prop := (∀ j, j < k → o j < k) ∧ ∀ i j, i < j → j < k → V (o i) < V (o j)
theorem ord_inj {V o : Nat → Nat} {k : Nat} (h : ordOK V o k) : ∀ a b, a < k → b < k → o a = o b → a = b := by
  intro a b ha hb e
  rcases Nat.lt_trichotomy a b with q | q | q
  · have := h.2 a b q hb; rw [e] at this; omega
  · exact q
  · have := h.2 b a q ha; rw [e] at this; omega
theorem lc_sm (V : Nat → Nat) (x : Nat) : ∀ n, lc V x n = sm (fun i => if V i < x then 1 else 0) n
  | 0 => rfl
  | n + 1 => by
    show lc V x n + _ = sm (fun i => if V i < x then 1 else 0) n + _
    rw [lc_sm V x n]
theorem sm_lt (j : Nat) : ∀ n, sm (fun i => if i < j then 1 else 0) n = min n j
  | 0 => by simp [sm]
  | n + 1 => by
    show sm (fun i => if i < j then 1 else 0) n + (if n < j then 1 else 0) = min (n + 1) j
    rw [sm_lt j n]
    split <;> omega
theorem ord_rank {V o : Nat → Nat} {k j : Nat} (h : ordOK V o k) (hj : j < k) : lc V (V (o j)) k = j := by
  rw [lc_sm, ← sm_perm h.1 (ord_inj h) (fun i => if V i < V (o j) then 1 else 0)]
  have e : sm (fun n => if V (o n) < V (o j) then 1 else 0) k = sm (fun i => if i < j then 1 else 0) k := by
    apply sm_cong
    intro i hi
    by_cases q : i < j
    · rw [if_pos q, if_pos (h.2 i j q hj)]
    · rw [if_neg q, if_neg]
      rcases Nat.lt_or_ge j i with r | r
      · have := h.2 j i r hi; omega
      · rw [show i = j by omega]; omega
  show sm (fun n => if V (o n) < V (o j) then 1 else 0) k = j
  rw [e, sm_lt]
  omega
/-- the table tells what can be paid, and how -/
theorem tab_best {F : Nat → Nat → Nat} {T V o : Nat → Nat} {k am : Nat} (hk : k ≤ 8) (hT : ∀ i, i < k → T i ≤ 60) (ho : ordOK V o k) (hM : ∀ n, n ≤ k → ∀ a, a ≤ am → isM (F n a) T V o n a) : (F k am = 4294967295 ∧ nway T V k am) ∨ (F k am ≠ 4294967295 ∧ F k am ≤ 480 ∧ ∃ (gv : Nat → Nat) (z : Int), isV F T V o k am gv ∧ bway T V k am z ∧ cnz z = F k am ∧ ∀ j, j < k → pz z (lc V (V (o j)) k) = gv j) := by
  have hd : ∀ i j, i < k → j < k → V i = V j → i = j := by
    intro i j hi hj e
    obtain ⟨a, ha, rfl⟩ := fb_onto (n := k) (f := o) ho.1 (fun a b hab hb q => by have := ord_inj ho a b (by omega) hb q; omega) hi
    obtain ⟨b, hb, rfl⟩ := fb_onto (n := k) (f := o) ho.1 (fun a b hab hb q => by have := ord_inj ho a b (by omega) hb q; omega) hj
    have h1 := ord_rank ho ha
    have h2 := ord_rank ho hb
    rw [e] at h1
    rw [show a = b by omega]
  have perm := fun f => sm_perm ho.1 (ord_inj ho) f
  -- a way by creation, read in the order
  have toS : ∀ {a : Nat} {c : Nat → Nat}, (∀ i, i < k → c i ≤ T i) → sm (fun i => c i * V i) k = a → mS T V o k a (sm c k) := by
    intro a c h1 h2
    have := vec_mS (t := T) (V := V) (o := o) (g := fun j => c (o j)) (n := k) (fun j hj => h1 _ (ho.1 j hj))
    rw [perm (fun i => c i * V i), h2, perm c] at this
    exact this
  by_cases hF : F k am = 4294967295
  · refine Or.inl ⟨hF, fun z hz => ?_⟩
    obtain ⟨c, h1, h2, -⟩ := wS_vec hz
    rcases hM k (Nat.le_refl k) am (Nat.le_refl am) with ⟨-, h⟩ | ⟨-, -, h⟩
    · exact h _ (toS h1 h2)
    · omega
  · refine Or.inr ⟨hF, ?_, ?_⟩
    · rcases hM k (Nat.le_refl k) am (Nat.le_refl am) with ⟨h, -⟩ | ⟨-, -, h⟩
      · exact absurd h hF
      · omega
    obtain ⟨g, g1, g2, g3, g4, g5⟩ := greedy hk (fun j hj => hT _ (ho.1 j hj)) hM k (Nat.le_refl k) am (Nat.le_refl am) hF
    -- the greedy way by creation
    have hc : ∀ j, j < k → sm (fun j2 => if o j2 = o j then g j2 else 0) k = g j := fun j hj => sm_one (ord_inj ho) hj rfl
    obtain ⟨c, hcd⟩ : ∃ c : Nat → Nat, c = fun i => sm (fun j2 => if o j2 = i then g j2 else 0) k := ⟨_, rfl⟩
    have hco : ∀ j, j < k → c (o j) = g j := fun j hj => by rw [hcd]; exact hc j hj
    have hcT : ∀ i, i < k → c i ≤ T i := by
      intro i hi
      obtain ⟨j, hj, rfl⟩ := fb_onto (n := k) (f := o) ho.1 (fun a b hab hb q => by have := ord_inj ho a b (by omega) hb q; omega) hi
      rw [hco j hj]; exact g2 j hj
    have hcV : sm (fun i => c i * V i) k = am := by
      rw [← perm (fun i => c i * V i), ← g3]
      exact sm_cong (fun j hj => by rw [hco j hj])
    have hcS : sm c k = F k am := by
      rw [← perm c, ← g4]
      exact sm_cong (fun j hj => hco j hj)
    have dig : ∀ d : Nat → Nat, sm (fun i => d i * 2 ^ (lc V (V i) k * 6)) k = sm (fun j => d (o j) * 2 ^ (j * 6)) k := by
      intro d
      rw [← perm (fun i => d i * 2 ^ (lc V (V i) k * 6))]
      exact sm_cong (fun j hj => by rw [ord_rank ho hj])
    have hw := vec_wS (V := V) (g := wg V k) hcT
    rw [hcV] at hw
    refine ⟨g, smz (fun i => (c i : Int) * wg V k i) k, g1, ⟨hw, fun z' hz' => ?_⟩, ?_, ?_⟩
    · obtain ⟨d, d1, d2, d3, d4, d5, d6⟩ := way_dec hk hT hd hz'
      rw [smz_wg, d3, dig c, dig d]
      have hmin : F k am ≤ sm d k := by
        rcases hM k (Nat.le_refl k) am (Nat.le_refl am) with ⟨h, -⟩ | ⟨-, h, -⟩
        · exact absurd h hF
        · exact h _ (toS d1 d2)
      rw [hcS]
      rw [dig d] at d4
      rcases Nat.lt_or_ge (F k am) (sm d k) with q | q
      · omega
      · have e : sm d k = F k am := by omega
        have h5 := g5 (fun j => d (o j)) (fun j hj => d1 _ (ho.1 j hj)) (by rw [perm (fun i => d i * V i)]; exact d2) (by rw [perm d]; exact e)
        have h6 : sm (fun j => c (o j) * 2 ^ (j * 6)) k = sm (fun j => g j * 2 ^ (j * 6)) k := sm_cong (fun j hj => by rw [hco j hj])
        rw [h6, e]
        omega
    · obtain ⟨d, d1, d2, d3, d4, d5, d6⟩ := way_dec hk hT hd hw
      have hl := dg_lt (rk := fun i => lc V (V i) k) (c := c) (fun i hi => by have := lc_lt (V := V) hi; omega) (rk_inj hd) (fun i hi => by have := hcT i hi; have := hT i hi; omega)
      rw [z_dec (smz_wg k) hl]; exact hcS
    · intro j hj
      have h8 : ∀ i, i < k → lc V (V i) k < 8 := fun i hi => by have := lc_lt (V := V) hi; omega
      rw [z_dig (smz_wg k) (h8 _ (ho.1 j hj))]
      rw [(dg_at (rk := fun i => lc V (V i) k) (c := c) h8 (rk_inj hd) (fun i hi => by have := hcT i hi; have := hT i hi; omega) (ho.1 j hj)).2]
      exact hco j hj
theorem dv_s (V : Nat → Nat) (i d : Nat) : dv V (i + 1) d = if dv V i d = 1 ∧ V i % d = 0 then 1 else 0 := by
  by_cases h : dv V i d = 1 ∧ V i % d = 0
  · rw [if_pos h]
    apply dv_y
    have h1 : ∀ j, j < i → V j % d = 0 := by
      have h2 := h.1
      unfold dv at h2
      by_cases q : ∀ j, j < i → V j % d = 0
      · exact q
      · rw [if_neg q] at h2; omega
    intro j hj
    rcases Nat.lt_or_ge j i with q | q
    · exact h1 j q
    · rw [show j = i by omega]; exact h.2
  · rw [if_neg h]
    rcases Classical.em (∀ j, j < i + 1 → V j % d = 0) with q | q
    · exact absurd ⟨dv_y (fun j hj => q j (by omega)), q i (by omega)⟩ h
    · unfold dv; rw [if_neg q]
/-- the reference's flat table -/
abbrev fl (FW : Nat → Nat) : Nat → Nat → Nat := fun n a => FW (2001 * n + a)
/-- the best of the first g numbers of coins -/
def isL (F : Nat → Nat → Nat) (t v n a g le : Nat) : Prop := (le = 4294967295 ∧ ∀ c, c < g → c ≤ t → c * v ≤ a → F n (a - c * v) = 4294967295) ∨ (le ≤ 60 * n + 60 ∧ (∃ c, c < g ∧ c ≤ t ∧ c * v ≤ a ∧ F n (a - c * v) ≠ 4294967295 ∧ le = F n (a - c * v) + c) ∧ ∀ c, c < g → c ≤ t → c * v ≤ a → F n (a - c * v) ≠ 4294967295 → le ≤ F n (a - c * v) + c)
theorem isL_0 {F : Nat → Nat → Nat} {t v n a : Nat} : isL F t v n a 0 4294967295 := Or.inl ⟨rfl, fun c h => absurd h (Nat.not_lt_zero c)⟩
theorem isL_skip {F : Nat → Nat → Nat} {t v n a g le : Nat} (h : isL F t v n a g le) (hs : F n (a - g * v) = 4294967295 ∨ (le ≠ 4294967295 ∧ le ≤ F n (a - g * v) + g)) : isL F t v n a (g + 1) le := by
  rcases h with ⟨h1, h2⟩ | ⟨h1, ⟨c, c1, c2, c3, c4, c5⟩, h3⟩
  · refine Or.inl ⟨h1, fun c hc ht hv => ?_⟩
    rcases Nat.lt_or_ge c g with q | q
    · exact h2 c q ht hv
    · have e : c = g := by omega
      subst e
      rcases hs with hs | hs
      · exact hs
      · exact absurd h1 hs.1
  · refine Or.inr ⟨h1, ⟨c, by omega, c2, c3, c4, c5⟩, fun c' hc ht hv hF => ?_⟩
    rcases Nat.lt_or_ge c' g with q | q
    · exact h3 c' q ht hv hF
    · have e : c' = g := by omega
      subst e
      rcases hs with hs | hs
      · exact absurd hs hF
      · exact hs.2
theorem isL_take {F : Nat → Nat → Nat} {t v n a g le : Nat} (h : isL F t v n a g le) (hn : n ≤ 8) (hg : g ≤ t) (ht60 : t ≤ 60) (hv : g * v ≤ a) (hF : F n (a - g * v) ≠ 4294967295) (hFb : F n (a - g * v) ≤ 60 * n) (hs : le = 4294967295 ∨ F n (a - g * v) + g < le) : isL F t v n a (g + 1) (F n (a - g * v) + g) := by
  refine Or.inr ⟨by omega, ⟨g, by omega, hg, hv, hF, rfl⟩, fun c' hc ht hv' hF' => ?_⟩
  rcases Nat.lt_or_ge c' g with q | q
  · rcases h with ⟨h1, h2⟩ | ⟨h1, -, h3⟩
    · exact absurd (h2 c' q ht hv') hF'
    · have := h3 c' q ht hv' hF'
      omega
  · have e : c' = g := by omega
    subst e
    exact Nat.le_refl _
theorem isL_end {F : Nat → Nat → Nat} {T V o : Nat → Nat} {n a g le : Nat} (h : isL F (T (o n)) (V (o n)) n a g le) (hn : n ≤ 8) (hend : ∀ c, c ≤ T (o n) → c * V (o n) ≤ a → c < g) (hM : ∀ b, b ≤ a → isM (F n b) T V o n b) : isM le T V o (n + 1) a := by
  rcases h with ⟨h1, h2⟩ | ⟨h1, ⟨c, c1, c2, c3, c4, c5⟩, h3⟩
  · refine Or.inl ⟨h1, fun m hm => ?_⟩
    obtain ⟨c, q1, q2, q3, q4⟩ := hm
    have h5 := h2 c (hend c q1 q2) q1 q2
    rcases hM (a - c * V (o n)) (by omega) with ⟨-, q⟩ | ⟨-, -, q⟩
    · exact q _ q4
    · omega
  · refine Or.inr ⟨?_, fun m hm => ?_, by omega⟩
    · rcases hM (a - c * V (o n)) (by omega) with ⟨q, -⟩ | ⟨q, -, -⟩
      · exact absurd q c4
      · exact ⟨c, c2, c3, by omega, by rw [c5, Nat.add_sub_cancel]; exact q⟩
    · obtain ⟨d, q1, q2, q3, q4⟩ := hm
      rcases hM (a - d * V (o n)) (by omega) with ⟨-, q⟩ | ⟨r1, r2, r3⟩
      · exact absurd q4 (q _)
      · have r4 := r2 _ q4
        have r5 := h3 d (hend d q1 q2) q1 q2 (by omega)
        omega
theorem isM_0 {T V o : Nat → Nat} (a : Nat) : isM (if a = 0 then 0 else 4294967295) T V o 0 a := by
  by_cases h : a = 0
  · rw [if_pos h]
    exact Or.inr ⟨⟨h, rfl⟩, fun m hm => Nat.zero_le m, by omega⟩
  · rw [if_neg h]
    exact Or.inl ⟨rfl, fun m hm => h hm.1⟩
theorem isM_bd {e : Nat} {T V o : Nat → Nat} {n a : Nat} (h : isM e T V o n a) : e = 4294967295 ∨ e ≤ 60 * n := h.elim (fun q => Or.inl q.1) (fun q => Or.inr q.2.2)
/-- what too much is, as the reference counts it -/
theorem ovp_ref {pr v : Nat} (hv : 1 ≤ v) : pr ≤ (pr + v - 1) / v * v ∧ (pr + v - 1) / v * v - pr = ovp pr v := by
  have e := Nat.div_add_mod pr v
  have hm := Nat.mod_lt pr (show v > 0 by omega)
  unfold ovp
  generalize hq : pr / v = q at e
  generalize hr : pr % v = r at e hm ⊢
  have e2 : q * v + r = pr := by rw [Nat.mul_comm]; exact e
  by_cases h0 : r = 0
  · have h1 : (pr + v - 1) / v = q := by
      apply Nat.div_eq_of_lt_le
      · omega
      · rw [Nat.succ_mul]; omega
    rw [if_pos h0, h1]; omega
  · have h1 : (pr + v - 1) / v = q + 1 := by
      apply Nat.div_eq_of_lt_le
      · rw [Nat.succ_mul]; omega
      · rw [Nat.succ_mul, Nat.succ_mul]; omega
    rw [if_neg h0, h1, Nat.succ_mul]; omega
theorem gpc_gap {P : Nat → Prop} {lo : Nat} : ∀ {hi : Nat}, lo ≤ hi → (∀ b, lo < b → b ≤ hi → ¬ P b) → gpc P hi = gpc P lo
  | 0, h, _ => by rw [show lo = 0 by omega]
  | hi + 1, h, hn => by
    rcases Nat.lt_or_ge hi lo with q | q
    · rw [show lo = hi + 1 by omega]
    · rw [gpc_n (hn (hi + 1) (by omega) (Nat.le_refl _))]
      exact gpc_gap q (fun b h1 h2 => hn b h1 (by omega))
theorem mod_gap {a g b : Nat} (hg : 1 ≤ g) (h : a % g = 0) (ha : g ≤ a) (h1 : a - g < b) (h2 : b < a) : b % g ≠ 0 := by
  intro q
  have e1 := Nat.div_add_mod a g
  have e2 := Nat.div_add_mod b g
  rw [h] at e1; rw [q] at e2
  generalize a / g = x at e1
  generalize b / g = y at e2
  rcases Nat.lt_or_ge y x with r | r
  · have h3 : g * (y + 1) ≤ g * x := Nat.mul_le_mul_left _ r
    rw [Nat.mul_succ] at h3
    omega
  · have h3 : g * x ≤ g * y := Nat.mul_le_mul_left _ r
    omega
theorem ord_vinj {V o : Nat → Nat} {k : Nat} (ho : ordOK V o k) : ∀ i j, i < k → j < k → V i = V j → i = j := by
  intro i j hi hj e
  obtain ⟨a, ha, rfl⟩ := fb_onto (n := k) (f := o) ho.1 (fun a b hab hb q => by have := ord_inj ho a b (by omega) hb q; omega) hi
  obtain ⟨b, hb, rfl⟩ := fb_onto (n := k) (f := o) ho.1 (fun a b hab hb q => by have := ord_inj ho a b (by omega) hb q; omega) hj
  have h1 := ord_rank ho ha
  have h2 := ord_rank ho hb
  rw [e] at h1
  rw [show a = b by omega]
theorem lamp_s {k p : Nat} {PP : Nat → Prop} : ((∃ j, j < p ∧ PP j) ∨ PP p) ↔ ∃ j, j < p + 1 ∧ PP j := by
  constructor
  · rintro (⟨j, h1, h2⟩ | h)
    · exact ⟨j, by omega, h2⟩
    · exact ⟨p, by omega, h⟩
  · rintro ⟨j, h1, h2⟩
    rcases Nat.lt_or_ge j p with q | q
    · exact Or.inl ⟨j, q, h2⟩
    · rw [show p = j by omega]; exact Or.inr h2
theorem lamp_i {X S : Prop} {i : Nat} {f g : Nat → Prop} (hn : ¬ (f i ∧ g i)) : (X ∨ (S ∧ ∃ j, j < i ∧ f j ∧ g j)) ↔ (X ∨ (S ∧ ∃ j, j < i + 1 ∧ f j ∧ g j)) := by
  constructor
  · rintro (h | ⟨h, j, a, b⟩)
    · exact Or.inl h
    · exact Or.inr ⟨h, j, by omega, b⟩
  · rintro (h | ⟨h, j, a, b⟩)
    · exact Or.inl h
    · rcases Nat.lt_or_ge j i with q | q
      · exact Or.inr ⟨h, j, q, b⟩
      · have e : j = i := by omega
        subst e
        exact absurd b hn
theorem ord_ins {V OR OX : Nat → Nat} {k pl va : Nat} (h : ordOK V OR k) (hpl : pl ≤ k) (h1 : ∀ j, j < pl → OX j = OR j) (h2 : ∀ j, pl < j → j ≤ k → OX j = OR (j - 1)) (hlo : ∀ j, j < pl → V (OR j) < va) (hgt : ∀ j, pl ≤ j → j < k → va < V (OR j)) : ordOK (un V k va) (un OX pl k) (k + 1) := by
  have e : ∀ j, j ≤ k → (j = pl ∧ un OX pl k j = k) ∨ (j < pl ∧ un OX pl k j = OR j) ∨ (pl < j ∧ un OX pl k j = OR (j - 1)) := by
    intro j hj
    rcases Nat.lt_trichotomy j pl with q | q | q
    · exact Or.inr (Or.inl ⟨q, by rw [un_n (by omega)]; exact h1 j q⟩)
    · exact Or.inl ⟨q, by rw [q]; exact un_s⟩
    · exact Or.inr (Or.inr ⟨q, by rw [un_n (by omega)]; exact h2 j q hj⟩)
  have ev : ∀ j, j < k → un V k va (OR j) = V (OR j) := fun j hj => un_n (by have := h.1 j hj; omega)
  refine ⟨fun j hj => ?_, fun i j hij hj => ?_⟩
  · rcases e j (by omega) with ⟨-, q⟩ | ⟨a, q⟩ | ⟨a, q⟩
    · rw [q]; omega
    · rw [q]; have := h.1 j (by omega); omega
    · rw [q]; have := h.1 (j - 1) (by omega); omega
  · rcases e i (by omega) with ⟨a, q⟩ | ⟨a, q⟩ | ⟨a, q⟩ <;> rcases e j (by omega) with ⟨b, r⟩ | ⟨b, r⟩ | ⟨b, r⟩
    · omega
    · omega
    · rw [q, r, un_s, ev _ (by omega)]; exact hgt (j - 1) (by omega) (by omega)
    · rw [q, r, un_s, ev _ (by omega)]; exact hlo i a
    · rw [q, r, ev _ (by omega), ev _ (by omega)]; exact h.2 i j hij (by omega)
    · rw [q, r, ev _ (by omega), ev _ (by omega)]
      rcases Nat.lt_or_ge i (j - 1) with x | x
      · exact h.2 i (j - 1) x (by omega)
      · omega
    · omega
    · omega
    · rw [q, r, ev _ (by omega), ev _ (by omega)]; exact h.2 (i - 1) (j - 1) (by omega) (by omega)
/-- the escrow's coins dropped one by one -/
theorem dT_00 (C T WK : Nat → Nat) (k : Nat) : T = dT C T WK 0 k := by
  funext j
  show T j = if j < k then T j + min 0 (C j - T j) else T j
  split <;> omega
theorem dB_00 (C T B WK : Nat → Nat) (k : Nat) : B = dB C T B WK 0 k := by
  funext j
  show B j = if j < k then B j + (0 - min 0 (C j - T j)) else B j
  split <;> omega
theorem dT_in {C T WK : Nat → Nat} {w k j : Nat} (h : j < k) : dT C T WK w k j = T j + min (wo WK j w) (C j - T j) := if_pos h
theorem dT_w1 {C T WK : Nat → Nat} {w k : Nat} (hx : WK w < k) (hc : T (WK w) ≤ C (WK w)) (hl : dT C T WK w k (WK w) < C (WK w)) : un (dT C T WK w k) (WK w) (dT C T WK w k (WK w) + 1) = dT C T WK (w + 1) k := by
  rw [dT_in hx] at hl ⊢
  funext j
  show (if j = WK w then _ else if j < k then T j + min (wo WK j w) (C j - T j) else T j) = if j < k then T j + min (wo WK j (w + 1)) (C j - T j) else T j
  by_cases e : j = WK w
  · subst e
    rw [if_pos rfl, if_pos hx, wo_y rfl]; omega
  · rw [if_neg e, wo_n (fun q => e q.symm)]
theorem dB_w1 {C T B WK : Nat → Nat} {w k : Nat} (hx : WK w < k) (hc : T (WK w) ≤ C (WK w)) (hl : dT C T WK w k (WK w) < C (WK w)) : dB C T B WK w k = dB C T B WK (w + 1) k := by
  rw [dT_in hx] at hl
  funext j
  show (if j < k then B j + (wo WK j w - min (wo WK j w) (C j - T j)) else B j) = if j < k then B j + (wo WK j (w + 1) - min (wo WK j (w + 1)) (C j - T j)) else B j
  by_cases e : j = WK w
  · subst e
    rw [if_pos hx, if_pos hx, wo_y rfl]; omega
  · rw [wo_n (fun q => e q.symm)]
theorem dT_w2 {C T WK : Nat → Nat} {w k : Nat} (hx : WK w < k) (hc : T (WK w) ≤ C (WK w)) (hl : C (WK w) ≤ dT C T WK w k (WK w)) : dT C T WK w k = dT C T WK (w + 1) k := by
  rw [dT_in hx] at hl
  funext j
  show (if j < k then T j + min (wo WK j w) (C j - T j) else T j) = if j < k then T j + min (wo WK j (w + 1)) (C j - T j) else T j
  by_cases e : j = WK w
  · subst e
    rw [if_pos hx, if_pos hx, wo_y rfl]; omega
  · rw [wo_n (fun q => e q.symm)]
theorem dB_w2 {C T B WK : Nat → Nat} {w k : Nat} (hx : WK w < k) (hc : T (WK w) ≤ C (WK w)) (hl : C (WK w) ≤ dT C T WK w k (WK w)) : un (dB C T B WK w k) (WK w) (dB C T B WK w k (WK w) + 1) = dB C T B WK (w + 1) k := by
  rw [dT_in hx] at hl
  funext j
  have eb : dB C T B WK w k (WK w) = B (WK w) + (wo WK (WK w) w - min (wo WK (WK w) w) (C (WK w) - T (WK w))) := if_pos hx
  rw [eb]
  show (if j = WK w then _ else if j < k then B j + (wo WK j w - min (wo WK j w) (C j - T j)) else B j) = if j < k then B j + (wo WK j (w + 1) - min (wo WK j (w + 1)) (C j - T j)) else B j
  by_cases e : j = WK w
  · subst e
    rw [if_pos rfl, if_pos hx, wo_y rfl]; omega
  · rw [if_neg e, wo_n (fun q => e q.symm)]
/-- put back, the first i -/
def mx (T D : Nat → Nat) (i : Nat) : Nat → Nat := fun j => if j < i then T j else D j
theorem mx_0 (T D : Nat → Nat) : D = mx T D 0 := by
  funext j
  show D j = if j < 0 then T j else D j
  rw [if_neg (Nat.not_lt_zero j)]
theorem mx_s (T D : Nat → Nat) (i : Nat) : un (mx T D i) i (T i) = mx T D (i + 1) := by
  funext j
  show (if j = i then T i else if j < i then T j else D j) = if j < i + 1 then T j else D j
  by_cases h : j = i
  · rw [if_pos h, if_pos (by omega), h]
  · rw [if_neg h]
    by_cases h2 : j < i
    · rw [if_pos h2, if_pos (by omega)]
    · rw [if_neg h2, if_neg (by omega)]
theorem mx_T {C T WK : Nat → Nat} {w k : Nat} (hk : k ≤ 8) : mx T (dT C T WK w k) 8 = T := by
  funext j
  show (if j < 8 then T j else if j < k then _ else T j) = T j
  by_cases h : j < 8
  · rw [if_pos h]
  · rw [if_neg h, if_neg (by omega)]
theorem mx_B {C T B WK : Nat → Nat} {w k : Nat} (hk : k ≤ 8) : mx B (dB C T B WK w k) 8 = B := by
  funext j
  show (if j < 8 then B j else if j < k then _ else B j) = B j
  by_cases h : j < 8
  · rw [if_pos h]
  · rw [if_neg h, if_neg (by omega)]
theorem updL_0 (c : Nat → Int64) (i : Nat) : vp_updL c i (c i + lZ 0) = c := by
  funext j
  unfold vp_updL
  by_cases h : j = i
  · rw [if_pos h, h, show lZ 0 = 0 by decide, Int64.add_zero]
  · rw [if_neg h]
theorem unit_res {V : Nat → Nat} {k uu cd : Nat} (hu : (uu = 0 ∧ (0 < k → gu V k = fd V k cd)) ∨ (uu ≠ 0 ∧ uu ≤ 500 ∧ uu = gu V k)) (hx : cd = 0 ∨ k = 0 ∨ uu ≠ 0) : uu = gu V k := by
  rcases hu with ⟨h1, h2⟩ | h1
  · rcases Nat.eq_zero_or_pos k with h | h
    · rw [h1]; unfold gu; rw [if_pos h]
    · rcases hx with e | e | e
      · rw [h1, h2 h, e]; rfl
      · omega
      · exact absurd h1 e
  · exact h1.2.2
