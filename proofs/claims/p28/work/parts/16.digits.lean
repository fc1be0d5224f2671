theorem fb_holes : ∀ (m n : Nat) (f : Nat → Nat), (∀ i, i < n → f i < m) → (∀ i j, i < j → j < n → f i ≠ f j) → n ≤ m := by
  intro m
  induction m with
  | zero =>
    intro n f h1 _
    rcases Nat.eq_zero_or_pos n with h | h
    · omega
    · exact absurd (h1 0 h) (Nat.not_lt_zero _)
  | succ m ih =>
    intro n f h1 h2
    by_cases hx : ∃ i, i < n ∧ f i = m
    · obtain ⟨a, ha, hfa⟩ := hx
      have hg := ih (n - 1) (fun i => if i < a then f i else f (i + 1)) (by
        intro i hi
        by_cases q : i < a
        · simp only [if_pos q]
          have b1 := h1 i (by omega)
          have b2 := h2 i a q ha
          omega
        · simp only [if_neg q]
          have b1 := h1 (i + 1) (by omega)
          have b2 := h2 a (i + 1) (by omega) (by omega)
          omega) (by
        intro i j hij hj
        by_cases q : i < a
        · by_cases r : j < a
          · simp only [if_pos q, if_pos r]
            exact h2 i j hij (by omega)
          · simp only [if_pos q, if_neg r]
            exact h2 i (j + 1) (by omega) (by omega)
        · have r : ¬ j < a := by omega
          simp only [if_neg q, if_neg r]
          exact h2 (i + 1) (j + 1) (by omega) (by omega))
      omega
    · have hg := ih n f (fun i hi => by
        have b1 := h1 i hi
        have b2 : f i ≠ m := fun e => hx ⟨i, hi, e⟩
        omega) h2
      omega
theorem fb_onto {n : Nat} {f : Nat → Nat} (h : ∀ i, i < n → f i < n) (h2 : ∀ i j, i < j → j < n → f i ≠ f j) {y : Nat} (hy : y < n) : ∃ i, i < n ∧ f i = y := by
  refine Classical.byContradiction fun hx => ?_
  have hne : ∀ i, i < n → f i ≠ y := fun i hi e => hx ⟨i, hi, e⟩
  have := fb_holes (n - 1) n (fun i => if f i < y then f i else f i - 1) (by
    intro i hi
    have b1 := h i hi
    have b2 := hne i hi
    by_cases q : f i < y
    · simp only [if_pos q]; omega
    · simp only [if_neg q]; omega) (by
    intro i j hij hj
    have b1 := hne i (by omega)
    have b2 := hne j hj
    have b3 := h2 i j hij hj
    by_cases q : f i < y
    · by_cases r : f j < y
      · simp only [if_pos q, if_pos r]; exact b3
      · simp only [if_pos q, if_neg r]; omega
    · by_cases r : f j < y
      · simp only [if_neg q, if_pos r]; omega
      · simp only [if_neg q, if_neg r]; omega)
  omega
/-! sums, put in another order -/
theorem sm_add (f g : Nat → Nat) : ∀ n, sm (fun i => f i + g i) n = sm f n + sm g n
  | 0 => rfl
  | n + 1 => by
    show sm (fun i => f i + g i) n + (f n + g n) = sm f n + f n + (sm g n + g n)
    rw [sm_add f g n]; omega
theorem sm_zero {f : Nat → Nat} : ∀ {n : Nat}, (∀ i, i < n → f i = 0) → sm f n = 0
  | 0, _ => rfl
  | n + 1, h => by
    show sm f n + f n = 0
    rw [sm_zero (fun i hi => h i (by omega)), h n (by omega)]
theorem sm_swap (F : Nat → Nat → Nat) (k : Nat) : ∀ m, sm (fun a => sm (fun b => F a b) k) m = sm (fun b => sm (fun a => F a b) m) k
  | 0 => by
    have h : sm (fun b => sm (fun a => F a b) 0) k = 0 := sm_zero (fun i _ => rfl)
    rw [h]; rfl
  | m + 1 => by
    show sm (fun a => sm (fun b => F a b) k) m + sm (fun b => F m b) k = sm (fun b => sm (fun a => F a b) m + F m b) k
    rw [sm_swap F k m, sm_add]
/-- one place alone counts -/
theorem sm_one {rk c : Nat → Nat} {r n0 : Nat} : ∀ {n : Nat}, (∀ i j, i < n → j < n → rk i = rk j → i = j) → n0 < n → rk n0 = r → sm (fun i => if rk i = r then c i else 0) n = c n0
  | 0, _, h, _ => absurd h (Nat.not_lt_zero _)
  | n + 1, hi, h, he => by
    show sm (fun i => if rk i = r then c i else 0) n + (if rk n = r then c n else 0) = c n0
    by_cases e : n0 = n
    · subst e
      rw [if_pos he, sm_zero (fun i hi2 => if_neg (fun q => by have := hi i n0 (by omega) (by omega) (q.trans he.symm); omega))]
      omega
    · rw [if_neg (fun q => by have := hi n n0 (by omega) (by omega) (q.trans he.symm); omega), sm_one (fun i j h1 h2 => hi i j (by omega) (by omega)) (by omega) he]
      omega
theorem sm_perm {o : Nat → Nat} {k : Nat} (h1 : ∀ n, n < k → o n < k) (h2 : ∀ a b, a < k → b < k → o a = o b → a = b) (f : Nat → Nat) : sm (fun n => f (o n)) k = sm f k := by
  have e1 : sm (fun n => f (o n)) k = sm (fun n => sm (fun i => if o n = i then f i else 0) k) k := by
    apply sm_cong
    intro n hn
    have := sm_one (rk := fun i => i) (c := f) (r := o n) (n0 := o n) (n := k) (fun i j _ _ h => h) (h1 n hn) rfl
    rw [← this]
    apply sm_cong
    intro i _
    by_cases e : i = o n
    · rw [if_pos e, if_pos e.symm]
    · rw [if_neg e, if_neg (fun q => e q.symm)]
  rw [e1, sm_swap]
  apply sm_cong
  intro i hi
  obtain ⟨n0, hn0, he⟩ := fb_onto (n := k) (f := o) h1 (fun a b hab hb q => by have := h2 a b (by omega) hb q; omega) hi
  have := sm_one (rk := o) (c := fun _ => f i) (r := i) (n0 := n0) (n := k) h2 hn0 he
  exact this
theorem sm_mono {f g : Nat → Nat} : ∀ {n : Nat}, (∀ i, i < n → f i ≤ g i) → sm f n ≤ sm g n
  | 0, _ => Nat.le_refl _
  | n + 1, h => by
    have a := sm_mono (n := n) (fun i hi => h i (by omega))
    have b := h n (by omega)
    show sm f n + f n ≤ sm g n + g n
    omega
/-! digits: eight places of sixty-four -/
def dgr (rk c : Nat → Nat) (r m : Nat) : Nat := sm (fun i => if rk i = r then c i else 0) m
theorem dgr_s (rk c : Nat → Nat) (r m : Nat) : dgr rk c r (m + 1) = dgr rk c r m + (if rk m = r then c m else 0) := rfl
theorem dg_sum {rk c : Nat → Nat} : ∀ {m : Nat}, (∀ i, i < m → rk i < 8) → sm (fun i => c i * 2 ^ (rk i * 6)) m = dgr rk c 0 m + dgr rk c 1 m * 64 + dgr rk c 2 m * 4096 + dgr rk c 3 m * 262144 + dgr rk c 4 m * 16777216 + dgr rk c 5 m * 1073741824 + dgr rk c 6 m * 68719476736 + dgr rk c 7 m * 4398046511104
  | 0, _ => by simp [dgr, sm]
  | m + 1, h => by
    have ih := dg_sum (rk := rk) (c := c) (m := m) (fun i hi => h i (by omega))
    show sm (fun i => c i * 2 ^ (rk i * 6)) m + c m * 2 ^ (rk m * 6) = _
    rw [ih]
    simp only [dgr_s]
    have h8 := h m (by omega)
    have h2 : rk m = 0 ∨ rk m = 1 ∨ rk m = 2 ∨ rk m = 3 ∨ rk m = 4 ∨ rk m = 5 ∨ rk m = 6 ∨ rk m = 7 := by omega
    rcases h2 with e | e | e | e | e | e | e | e <;> rw [e] <;> simp only [if_pos, if_neg, Nat.reduceMul, Nat.reducePow, reduceIte, Nat.reduceEqDiff, Nat.add_zero] <;> (try simp) <;> omega
theorem dgr_le {rk c : Nat → Nat} {m : Nat} (hi : ∀ i j, i < m → j < m → rk i = rk j → i = j) (hc : ∀ i, i < m → c i ≤ 63) (r : Nat) : dgr rk c r m ≤ 63 := by
  rcases Classical.em (∃ i, i < m ∧ rk i = r) with ⟨i, h1, h2⟩ | h
  · unfold dgr
    rw [sm_one hi h1 h2]; exact hc i h1
  · unfold dgr
    rw [sm_zero (fun i hi2 => if_neg (fun q => h ⟨i, hi2, q⟩))]; omega
theorem dg_at {rk c : Nat → Nat} {m i : Nat} (h8 : ∀ i, i < m → rk i < 8) (hi : ∀ i j, i < m → j < m → rk i = rk j → i = j) (hc : ∀ i, i < m → c i ≤ 63) (hm : i < m) : sm (fun i => c i * 2 ^ (rk i * 6)) m < 281474976710656 ∧ sm (fun i => c i * 2 ^ (rk i * 6)) m / 2 ^ (rk i * 6) % 64 = c i := by
  rw [dg_sum h8]
  have d0 := dgr_le hi hc 0
  have d1 := dgr_le hi hc 1
  have d2 := dgr_le hi hc 2
  have d3 := dgr_le hi hc 3
  have d4 := dgr_le hi hc 4
  have d5 := dgr_le hi hc 5
  have d6 := dgr_le hi hc 6
  have d7 := dgr_le hi hc 7
  have hk : dgr rk c (rk i) m = c i := sm_one hi hm rfl
  refine ⟨by omega, ?_⟩
  have h := h8 i hm
  have h2 : rk i = 0 ∨ rk i = 1 ∨ rk i = 2 ∨ rk i = 3 ∨ rk i = 4 ∨ rk i = 5 ∨ rk i = 6 ∨ rk i = 7 := by omega
  rcases h2 with e | e | e | e | e | e | e | e <;> rw [e] at hk ⊢ <;> simp only [Nat.reduceMul, Nat.reducePow] <;> omega
theorem dg_lt {rk c : Nat → Nat} {m : Nat} (h8 : ∀ i, i < m → rk i < 8) (hi : ∀ i j, i < m → j < m → rk i = rk j → i = j) (hc : ∀ i, i < m → c i ≤ 63) : sm (fun i => c i * 2 ^ (rk i * 6)) m < 281474976710656 := by
  rw [dg_sum h8]
  have d0 := dgr_le hi hc 0
  have d1 := dgr_le hi hc 1
  have d2 := dgr_le hi hc 2
  have d3 := dgr_le hi hc 3
  have d4 := dgr_le hi hc 4
  have d5 := dgr_le hi hc 5
  have d6 := dgr_le hi hc 6
  have d7 := dgr_le hi hc 7
  omega
/-! ranks -/
theorem lc_mono (V : Nat → Nat) {x y : Nat} (h : x ≤ y) : ∀ n, lc V x n ≤ lc V y n
  | 0 => Nat.le_refl _
  | n + 1 => by
    have ih := lc_mono V h n
    show lc V x n + (if V n < x then 1 else 0) ≤ lc V y n + (if V n < y then 1 else 0)
    by_cases q : V n < x
    · rw [if_pos q, if_pos (by omega)]; omega
    · rw [if_neg q]; omega
theorem lc_strict (V : Nat → Nat) {y i : Nat} (h : V i < y) : ∀ n, i < n → lc V (V i) n < lc V y n
  | 0, hn => absurd hn (Nat.not_lt_zero _)
  | n + 1, hn => by
    show lc V (V i) n + (if V n < V i then 1 else 0) < lc V y n + (if V n < y then 1 else 0)
    by_cases e : i = n
    · subst e
      have := lc_mono V (x := V i) (y := y) (by omega) i
      rw [if_neg (by omega), if_pos h]; omega
    · have ih := lc_strict V h n (by omega)
      by_cases q : V n < V i
      · rw [if_pos q, if_pos (by omega)]; omega
      · rw [if_neg q]; omega
theorem rk_inj {V : Nat → Nat} {k : Nat} (hd : ∀ i j, i < k → j < k → V i = V j → i = j) : ∀ i j, i < k → j < k → lc V (V i) k = lc V (V j) k → i = j := by
  intro i j hi hj h
  rcases Nat.lt_trichotomy (V i) (V j) with q | q | q
  · have := lc_strict V q k hi; omega
  · exact hd i j hi hj q
  · have := lc_strict V q k hj; omega
/-! a way as its numbers of coins -/
def smz (f : Nat → Int) : Nat → Int
  | 0 => 0
  | n + 1 => smz f n + f n
theorem wS_vec {t V : Nat → Nat} {g : Nat → Int} : ∀ {m a : Nat} {z : Int}, wS t V g m a z → ∃ c : Nat → Nat, (∀ i, i < m → c i ≤ t i) ∧ sm (fun i => c i * V i) m = a ∧ smz (fun i => (c i : Int) * g i) m = z
  | 0, a, z, h => ⟨fun _ => 0, fun i hi => absurd hi (Nat.not_lt_zero i), h.1.symm, h.2.symm⟩
  | m + 1, a, z, h => by
    obtain ⟨c, h1, h2, h3⟩ := h
    obtain ⟨d, e1, e2, e3⟩ := wS_vec h3
    refine ⟨un d m c, fun i hi => ?_, ?_, ?_⟩
    · by_cases q : i = m
      · subst q; rw [un_s]; exact h1
      · rw [un_n q]; exact e1 i (by omega)
    · show sm (fun i => un d m c i * V i) m + un d m c m * V m = a
      rw [un_s, sm_cong (g := fun i => d i * V i) (fun i hi => by rw [un_n (by omega)]), e2]
      omega
    · show smz (fun i => (un d m c i : Int) * g i) m + (un d m c m : Int) * g m = z
      have e4 : smz (fun i => (un d m c i : Int) * g i) m = smz (fun i => (d i : Int) * g i) m := by
        have key : ∀ n, n ≤ m → smz (fun i => (un d m c i : Int) * g i) n = smz (fun i => (d i : Int) * g i) n := by
          intro n
          induction n with
          | zero => intro _; rfl
          | succ n ih =>
            intro hn
            show smz (fun i => (un d m c i : Int) * g i) n + (un d m c n : Int) * g n = smz (fun i => (d i : Int) * g i) n + (d n : Int) * g n
            rw [ih (by omega), un_n (by omega)]
        exact key m (Nat.le_refl m)
      rw [un_s, e4, e3]
      omega
theorem vec_wS {t V : Nat → Nat} {g : Nat → Int} {c : Nat → Nat} : ∀ {m : Nat}, (∀ i, i < m → c i ≤ t i) → wS t V g m (sm (fun i => c i * V i) m) (smz (fun i => (c i : Int) * g i) m)
  | 0, _ => ⟨rfl, rfl⟩
  | m + 1, h => by
    refine ⟨c m, h m (by omega), ?_, ?_⟩
    · show c m * V m ≤ sm (fun i => c i * V i) m + c m * V m
      omega
    · have e1 : sm (fun i => c i * V i) (m + 1) - c m * V m = sm (fun i => c i * V i) m := by
        show sm (fun i => c i * V i) m + c m * V m - c m * V m = _
        omega
      have e2 : smz (fun i => (c i : Int) * g i) (m + 1) - (c m : Int) * g m = smz (fun i => (c i : Int) * g i) m := by
        show smz (fun i => (c i : Int) * g i) m + (c m : Int) * g m - (c m : Int) * g m = _
        omega
      rw [e1, e2]
      exact vec_wS (fun i hi => h i (by omega))
/-- the score out of the digits and the number of coins -/
theorem smz_wg {c V : Nat → Nat} {k : Nat} : ∀ m, smz (fun i => (c i : Int) * wg V k i) m = ((sm (fun i => c i * 2 ^ (lc V (V i) k * 6)) m : Nat) : Int) - 281474976710656 * ((sm c m : Nat) : Int)
  | 0 => rfl
  | m + 1 => by
    show smz (fun i => (c i : Int) * wg V k i) m + (c m : Int) * wg V k m = ((sm (fun i => c i * 2 ^ (lc V (V i) k * 6)) m + c m * 2 ^ (lc V (V m) k * 6) : Nat) : Int) - 281474976710656 * ((sm c m + c m : Nat) : Int)
    rw [smz_wg m]
    have e : (c m : Int) * wg V k m = ((c m * 2 ^ (lc V (V m) k * 6) : Nat) : Int) - 281474976710656 * (c m : Int) := by
      unfold wg
      rw [Int.mul_sub, Int.natCast_mul, Int.natCast_pow, Int.mul_comm (c m : Int) 281474976710656]
      rfl
    rw [e]
    omega
theorem z_dec {d c : Nat} {z : Int} (hz : z = (d : Int) - 281474976710656 * (c : Int)) (hd : d < 281474976710656) : cnz z = c := by
  unfold cnz
  rw [hz]
  omega
theorem z_dig {d c r : Nat} {z : Int} (hz : z = (d : Int) - 281474976710656 * (c : Int)) (hr : r < 8) : pz z r = d / 2 ^ (r * 6) % 64 := by
  unfold pz
  rw [hz]
  have h2 : r = 0 ∨ r = 1 ∨ r = 2 ∨ r = 3 ∨ r = 4 ∨ r = 5 ∨ r = 6 ∨ r = 7 := by omega
  rcases h2 with rfl | rfl | rfl | rfl | rfl | rfl | rfl | rfl <;> simp only [Nat.reduceMul, Nat.reducePow, Int.reducePow] <;> omega
/-- what a way's score tells -/
theorem way_dec {t V : Nat → Nat} {k a : Nat} {z : Int} (hk : k ≤ 8) (ht : ∀ i, i < k → t i ≤ 60) (hd : ∀ i j, i < k → j < k → V i = V j → i = j) (h : wS t V (wg V k) k a z) : ∃ c : Nat → Nat, (∀ i, i < k → c i ≤ t i) ∧ sm (fun i => c i * V i) k = a ∧ z = ((sm (fun i => c i * 2 ^ (lc V (V i) k * 6)) k : Nat) : Int) - 281474976710656 * ((sm c k : Nat) : Int) ∧ sm (fun i => c i * 2 ^ (lc V (V i) k * 6)) k < 281474976710656 ∧ cnz z = sm c k ∧ ∀ i, i < k → pz z (lc V (V i) k) = c i := by
  obtain ⟨c, h1, h2, h3⟩ := wS_vec h
  rw [smz_wg] at h3
  have h8 : ∀ i, i < k → lc V (V i) k < 8 := fun i hi => by have := lc_lt (V := V) hi; omega
  have hc : ∀ i, i < k → c i ≤ 63 := fun i hi => by have a := h1 i hi; have b := ht i hi; omega
  have hl := dg_lt (rk := fun i => lc V (V i) k) (c := c) h8 (rk_inj hd) hc
  refine ⟨c, h1, h2, h3.symm, hl, z_dec h3.symm hl, fun i hi => ?_⟩
  rw [z_dig h3.symm (h8 i hi)]
  exact (dg_at (rk := fun i => lc V (V i) k) (c := c) h8 (rk_inj hd) hc hi).2
theorem pz_le {t V : Nat → Nat} {k a : Nat} {z : Int} (hk : k ≤ 8) (ht : ∀ i, i < k → t i ≤ 60) (hd : ∀ i j, i < k → j < k → V i = V j → i = j) (h : wS t V (wg V k) k a z) : ∀ i, i < k → pz z (lc V (V i) k) ≤ t i := by
  obtain ⟨c, h1, -, -, -, -, h2⟩ := way_dec hk ht hd h
  intro i hi
  rw [h2 i hi]; exact h1 i hi
theorem wS_cong {t t' V : Nat → Nat} {g : Nat → Int} : ∀ {m : Nat}, (∀ i, i < m → t i = t' i) → wS t V g m = wS t' V g m
  | 0, _ => rfl
  | m + 1, h => by
    show xt (wS t V g m) (V m) (g m) (t m) = xt (wS t' V g m) (V m) (g m) (t' m)
    rw [wS_cong (fun i hi => h i (by omega)), h m (by omega)]
theorem wS_00 {t V : Nat → Nat} {g : Nat → Int} : ∀ m, wS t V g m 0 0
  | 0 => ⟨rfl, rfl⟩
  | m + 1 => ⟨0, Nat.zero_le _, by omega, by simpa using wS_00 m⟩
theorem nway_0 {t V : Nat → Nat} {k : Nat} : ¬ nway t V k 0 := fun h => h 0 (wS_00 k)
/-- what fewest, part, below, gaps answer -/
def fwR (T V : Nat → Nat) (k a r : Nat) : Prop := (nway T V k a ∧ r = 4294967295) ∨ ∃ z, bway T V k a z ∧ r = cnz z
def ptR (T V : Nat → Nat) (k a i r : Nat) : Prop := (nway T V k a ∧ r = 4294967295) ∨ ∃ z, bway T V k a z ∧ r = pz z (lc V (V i) k)
def blR (T V : Nat → Nat) (k a r : Nat) : Prop := r ≤ a ∧ ¬ nway T V k r ∧ ∀ b, r < b → b ≤ a → nway T V k b
noncomputable def gpR (T V : Nat → Nat) (k a : Nat) : Nat := if gu V k < 1 then 0 else gpc (fun b => b % gu V k = 0 ∧ nway T V k b) a
