/-! ways to pay, by their scores -/
abbrev NW : Int := -4611686018427387904
/-- more coins of one kind: at most T of value v, each adding w -/
def xt (S : Nat → Int → Prop) (v : Nat) (w : Int) (T : Nat) : Nat → Int → Prop := fun a z => ∃ c : Nat, c ≤ T ∧ c * v ≤ a ∧ S (a - c * v) (z - (c : Int) * w)
/-- f tells for every amount up to en the best score, NW where there is none -/
def isB (f : Nat → Int) (en : Nat) (S : Nat → Int → Prop) : Prop := ∀ a, a ≤ en → (f a = NW ∧ ∀ z, ¬ S a z) ∨ (S a (f a) ∧ (∀ z, S a z → z ≤ f a) ∧ f a ≠ NW)
def bd (S : Nat → Int → Prop) : Prop := ∀ a z, S a z → -288230376151711744 ≤ z ∧ z ≤ 0
theorem xt_mono {S : Nat → Int → Prop} {v : Nat} {w : Int} {T T' : Nat} (h : T ≤ T') {a : Nat} {z : Int} (q : xt S v w T a z) : xt S v w T' a z := by
  obtain ⟨c, h1, h2, h3⟩ := q
  exact ⟨c, by omega, h2, h3⟩
theorem bd_mono {S : Nat → Int → Prop} {v : Nat} {w : Int} {T T' : Nat} (h : T ≤ T') (q : bd (xt S v w T')) : bd (xt S v w T) := fun a z hz => q a z (xt_mono h hz)
theorem isB_cong {f : Nat → Int} {en : Nat} {S S' : Nat → Int → Prop} (h : ∀ a z, S a z ↔ S' a z) (q : isB f en S) : isB f en S' := by
  intro a ha
  rcases q a ha with ⟨h1, h2⟩ | ⟨h1, h2, h3⟩
  · exact Or.inl ⟨h1, fun z hz => h2 z ((h a z).mpr hz)⟩
  · exact Or.inr ⟨(h _ _).mp h1, fun z hz => h2 z ((h a z).mpr hz), h3⟩
theorem isB_bd {f : Nat → Int} {en : Nat} {S : Nat → Int → Prop} (hb : bd S) (q : isB f en S) : ∀ a, a ≤ en → f a = NW ∨ (-288230376151711744 ≤ f a ∧ f a ≤ 0) := by
  intro a ha
  rcases q a ha with ⟨h1, h2⟩ | ⟨h1, h2, h3⟩
  · exact Or.inl h1
  · exact Or.inr (hb _ _ h1)
theorem xt_0 {S : Nat → Int → Prop} {v : Nat} {w : Int} (a : Nat) (z : Int) : S a z ↔ xt S v w 0 a z := by
  constructor
  · intro h
    exact ⟨0, Nat.le_refl 0, by omega, by simpa using h⟩
  · rintro ⟨c, h1, h2, h3⟩
    obtain rfl : c = 0 := by omega
    simpa using h3
/-- one pack of s coins -/
def ap (f : Nat → Int) (s : Nat) (z : Int) (a : Nat) : Int := if s ≤ a ∧ f (a - s) ≠ NW then max (f a) (f (a - s) + z) else f a
theorem xt_pack {S : Nat → Int → Prop} {v : Nat} {w : Int} {T s : Nat} (hs : s ≤ T + 1) (a : Nat) (z : Int) : xt S v w (T + s) a z ↔ xt S v w T a z ∨ (s * v ≤ a ∧ xt S v w T (a - s * v) (z - (s : Int) * w)) := by
  constructor
  · rintro ⟨c, h1, h2, h3⟩
    rcases Nat.lt_or_ge T c with q | q
    · right
      have e1 : c * v = (c - s) * v + s * v := by rw [← Nat.add_mul, Nat.sub_add_cancel (by omega)]
      refine ⟨by omega, c - s, by omega, by omega, ?_⟩
      have e2 : a - s * v - (c - s) * v = a - c * v := by omega
      have e3 : z - (s : Int) * w - ((c - s : Nat) : Int) * w = z - (c : Int) * w := by
        rw [Int.ofNat_sub (by omega), Int.sub_mul]; omega
      rw [e2, e3]
      exact h3
    · exact Or.inl ⟨c, q, h2, h3⟩
  · rintro (h | ⟨h0, c, h1, h2, h3⟩)
    · exact xt_mono (by omega) h
    · refine ⟨c + s, by omega, ?_, ?_⟩
      · rw [Nat.add_mul]; omega
      · have e2 : a - (c + s) * v = a - s * v - c * v := by rw [Nat.add_mul]; omega
        have e3 : z - ((c + s : Nat) : Int) * w = z - (s : Int) * w - (c : Int) * w := by
          rw [Int.natCast_add, Int.add_mul]; omega
        rw [e2, e3]
        exact h3
theorem isB_pack {f g : Nat → Int} {en : Nat} {S : Nat → Int → Prop} {v : Nat} {w : Int} {T s : Nat} (hs : s ≤ T + 1) (hb : bd (xt S v w (T + s))) (q : isB f en (xt S v w T)) (hg : ∀ a, a ≤ en → g a = ap f (s * v) ((s : Int) * w) a) : isB g en (xt S v w (T + s)) := by
  have hNW : NW = -4611686018427387904 := rfl
  intro a ha
  have hga := hg a ha
  unfold ap at hga
  have q1 := q a ha
  by_cases h1 : s * v ≤ a
  · have q2 := q (a - s * v) (by omega)
    by_cases h2 : f (a - s * v) = NW
    · rw [if_neg (fun z => z.2 h2)] at hga
      rw [hga]
      have n2 : ∀ z, ¬ xt S v w T (a - s * v) z := by
        rcases q2 with ⟨-, n⟩ | ⟨-, -, n⟩
        · exact n
        · exact absurd h2 n
      rcases q1 with ⟨a1, a2⟩ | ⟨a1, a2, a3⟩
      · refine Or.inl ⟨a1, fun z hz => ?_⟩
        rcases (xt_pack hs a z).mp hz with b | b
        · exact a2 z b
        · exact n2 _ b.2
      · refine Or.inr ⟨xt_mono (by omega) a1, fun z hz => ?_, a3⟩
        rcases (xt_pack hs a z).mp hz with b | b
        · exact a2 z b
        · exact absurd b.2 (n2 _)
    · rw [if_pos ⟨h1, h2⟩] at hga
      rw [hga]
      obtain ⟨c1, c2⟩ : xt S v w T (a - s * v) (f (a - s * v)) ∧ ∀ z, xt S v w T (a - s * v) z → z ≤ f (a - s * v) := by
        rcases q2 with ⟨n, -⟩ | ⟨n1, n2, -⟩
        · exact absurd n h2
        · exact ⟨n1, n2⟩
      have m2 : xt S v w (T + s) a (f (a - s * v) + (s : Int) * w) := (xt_pack hs a _).mpr (Or.inr ⟨h1, by rw [Int.add_sub_cancel]; exact c1⟩)
      have m3 := hb _ _ m2
      rcases q1 with ⟨a1, a2⟩ | ⟨a1, a2, a3⟩
      · have e : max (f a) (f (a - s * v) + (s : Int) * w) = f (a - s * v) + (s : Int) * w := by rw [a1]; omega
        rw [e]
        refine Or.inr ⟨m2, fun z hz => ?_, by omega⟩
        rcases (xt_pack hs a z).mp hz with b | b
        · exact absurd b (a2 z)
        · have := c2 _ b.2; omega
      · have m4 := hb _ _ (xt_mono (by omega) a1)
        refine Or.inr ⟨?_, fun z hz => ?_, by omega⟩
        · rcases Int.le_total (f a) (f (a - s * v) + (s : Int) * w) with e | e
          · rw [Int.max_eq_right e]; exact m2
          · rw [Int.max_eq_left e]; exact xt_mono (by omega) a1
        · rcases (xt_pack hs a z).mp hz with b | b
          · have := a2 z b; omega
          · have := c2 _ b.2; omega
  · rw [if_neg (fun z => h1 z.1)] at hga
    rw [hga]
    rcases q1 with ⟨a1, a2⟩ | ⟨a1, a2, a3⟩
    · refine Or.inl ⟨a1, fun z hz => ?_⟩
      rcases (xt_pack hs a z).mp hz with b | b
      · exact a2 z b
      · exact h1 b.1
    · refine Or.inr ⟨xt_mono (by omega) a1, fun z hz => ?_, a3⟩
      rcases (xt_pack hs a z).mp hz with b | b
      · exact a2 z b
      · exact absurd b.1 h1
/-- the ways with the first m kinds -/
def wS (t V : Nat → Nat) (g : Nat → Int) : Nat → Nat → Int → Prop
  | 0 => fun a z => a = 0 ∧ z = 0
  | m + 1 => xt (wS t V g m) (V m) (g m) (t m)
/-- a coin's score -/
def wg (V : Nat → Nat) (k : Nat) (i : Nat) : Int := 2 ^ (lc V (V i) k * 6) - 281474976710656
theorem lc_lt {V : Nat → Nat} {k i : Nat} (h : i < k) : lc V (V i) k < k := by
  have key : ∀ n, i < n → lc V (V i) n < n := by
    intro n
    induction n with
    | zero => intro h; omega
    | succ n ih =>
      intro hn
      have h1 := lc_le V (V i) n
      by_cases e : i = n
      · rw [← e]; rw [lc_n (Nat.le_refl _)]
        have := lc_le V (V i) i
        omega
      · have h2 := ih (by omega)
        show lc V (V i) n + (if V n < V i then 1 else 0) < n + 1
        split <;> omega
  exact key k h
theorem wg_bd {V : Nat → Nat} {k i : Nat} (hk : k ≤ 8) (h : i < k) : -281474976710656 ≤ wg V k i ∧ wg V k i ≤ 0 := by
  have h1 := lc_lt (V := V) h
  unfold wg
  generalize lc V (V i) k = r at h1
  have h2 : r = 0 ∨ r = 1 ∨ r = 2 ∨ r = 3 ∨ r = 4 ∨ r = 5 ∨ r = 6 ∨ r = 7 := by omega
  rcases h2 with rfl | rfl | rfl | rfl | rfl | rfl | rfl | rfl <;> decide
theorem wS_bd {t V : Nat → Nat} {g : Nat → Int} {k : Nat} (ht : ∀ i, i < k → t i ≤ 60) (hg : ∀ i, i < k → -281474976710656 ≤ g i ∧ g i ≤ 0) : ∀ m, m ≤ k → ∀ a z, wS t V g m a z → -((m : Int) * 16888498602639360) ≤ z ∧ z ≤ 0
  | 0, _, a, z, h => by have h1 : a = 0 ∧ z = 0 := h; omega
  | m + 1, hm, a, z, h => by
    obtain ⟨c, h1, h2, h3⟩ := h
    have h4 := wS_bd ht hg m (by omega) _ _ h3
    have h5 := ht m (by omega)
    have h6 := hg m (by omega)
    have h7 : -((60 : Int) * 281474976710656) ≤ (c : Int) * g m := by
      have e1 : (c : Int) * (-281474976710656) ≤ (c : Int) * g m := Int.mul_le_mul_of_nonneg_left h6.1 (by omega)
      omega
    have h8 : (c : Int) * g m ≤ 0 := Int.mul_nonpos_of_nonneg_of_nonpos (by omega) h6.2
    rw [Int.natCast_add, Int.add_mul]
    omega
theorem wS_bd8 {t V : Nat → Nat} {k : Nat} (hk : k ≤ 8) (ht : ∀ i, i < k → t i ≤ 60) : ∀ m, m ≤ k → bd (wS t V (wg V k) m) := by
  intro m hm a z h
  have h1 := wS_bd ht (fun i hi => wg_bd hk hi) m hm a z h
  have h2 : (m : Int) * 16888498602639360 ≤ 8 * 16888498602639360 := Int.mul_le_mul_of_nonneg_right (by omega) (by omega)
  omega
theorem isB_0 {t V : Nat → Nat} {g : Nat → Int} {f : Nat → Int} {en : Nat} (h0 : f 0 = 0) (h : ∀ a, 1 ≤ a → a ≤ en → f a = NW) : isB f en (wS t V g 0) := by
  intro a ha
  by_cases e : a = 0
  · subst e
    refine Or.inr ⟨⟨rfl, h0⟩, fun z hz => ?_, by rw [h0]; decide⟩
    have := hz.2; omega
  · exact Or.inl ⟨h a (by omega) ha, fun z hz => e hz.1⟩
theorem lZ_shl (r : Nat) (h : r < 8) : lZ 1 <<< ((nI (r * 6)).toInt64 &&& 63) = lZ (2 ^ (r * 6)) := by
  have h2 : r = 0 ∨ r = 1 ∨ r = 2 ∨ r = 3 ∨ r = 4 ∨ r = 5 ∨ r = 6 ∨ r = 7 := by omega
  rcases h2 with rfl | rfl | rfl | rfl | rfl | rfl | rfl | rfl <;> decide
theorem lZ_shr {x : Int} (h1 : -9223372036854775808 ≤ x) (h2 : x < 9223372036854775808) (D : Int64) (d : Nat) (hD : (D.toBitVec.smod 64).toNat = d) : lZ x >>> D = lZ (x / 2 ^ d) := by
  apply Int64.toInt_inj.mp
  have e : (lZ x >>> D).toInt = (lZ x).toInt >>> d := by
    rw [← hD]
    exact BitVec.toInt_sshiftRight ..
  have hp : (0 : Int) < 2 ^ d := Int.pow_pos (by decide)
  have h3 : -9223372036854775808 ≤ x / 2 ^ d := by
    rcases Int.lt_or_le x 0 with q | q
    · have := Int.ediv_le_ediv hp (show -9223372036854775808 ≤ x from h1)
      have h5 : (-9223372036854775808 : Int) ≤ -9223372036854775808 / 2 ^ d := by
        apply Int.le_ediv_of_mul_le hp
        have h6 : (1 : Int) ≤ 2 ^ d := hp
        omega
      omega
    · have := Int.ediv_nonneg q (Int.le_of_lt hp); omega
  have h4 : x / 2 ^ d < 9223372036854775808 := by
    rcases Int.lt_or_le x 0 with q | q
    · have := Int.ediv_neg_of_neg_of_pos q hp; omega
    · have := Int.ediv_le_self (2 ^ d) q; omega
  rw [e, lZ_toInt h1 h2, lZ_toInt h3 h4, Int.shiftRight_eq_div_pow]
  first | rfl | norm_cast | (push_cast; rfl) | simp
theorem lZ_and63 (x : Int) : lZ x &&& lZ 63 = lZ (x % 64) := by
  apply Int64.toBitVec_inj.mp
  apply BitVec.eq_of_toNat_eq
  show ((lZ x).toBitVec &&& (lZ 63).toBitVec).toNat = (lZ (x % 64)).toBitVec.toNat
  rw [BitVec.toNat_and]
  have e1 : (lZ 63).toBitVec.toNat = 2 ^ 6 - 1 := by decide
  have e2 : ∀ y : Int, (lZ y).toBitVec.toNat = (y % 18446744073709551616).toNat := by
    intro y
    show (BitVec.ofInt 64 y).toNat = _
    rw [BitVec.toNat_ofInt]
    rfl
  rw [e1, Nat.and_two_pow_sub_one_eq_mod, e2, e2]
  omega
/-- the coins of a way, by its score; those of a kind of rank r -/
def cnz (z : Int) : Nat := (-(z / 281474976710656)).toNat
def pz (z : Int) (r : Nat) : Nat := ((z / 2 ^ (r * 6)) % 64).toNat
theorem lZ_i {x : Int} (h1 : 0 ≤ x) (h2 : x < 2147483648) : (lZ x).toInt32 = nI x.toNat := by
  apply Int32.toInt_inj.mp
  rw [Int64.toInt_toInt32, lZ_toInt (by omega) (by omega), nI_toInt (by omega)]
  have e : x.bmod (2 ^ 32) = x := Int.bmod_eq_of_le (by omega) (by omega)
  rw [e]; omega
theorem pz_lt (z : Int) (r : Nat) : pz z r < 64 := by unfold pz; omega
theorem ap_stepN {f g : Nat → Int} {s amt en : Nat} {z : Int} (h : ∀ a, g a = if amt < a ∧ a ≤ en then ap f s z a else f a) (h0 : 1 ≤ amt) (hn : ¬ (s ≤ amt ∧ f (amt - s) ≠ NW)) : ∀ a, g a = if amt - 1 < a ∧ a ≤ en then ap f s z a else f a := by
  intro a
  rw [h a]
  by_cases e : a = amt
  · subst e
    rw [if_neg (by omega)]
    have : ap f s z a = f a := if_neg hn
    split
    · exact this.symm
    · rfl
  · by_cases c : amt < a ∧ a ≤ en
    · rw [if_pos c, if_pos (by omega)]
    · rw [if_neg c, if_neg (by omega)]
theorem ap_stepY {f g : Nat → Int} {s amt en : Nat} {z : Int} (h : ∀ a, g a = if amt < a ∧ a ≤ en then ap f s z a else f a) (h0 : 1 ≤ amt) (hy : s ≤ amt ∧ f (amt - s) ≠ NW) (he : amt ≤ en) : ∀ a, uz g amt (max (f amt) (f (amt - s) + z)) a = if amt - 1 < a ∧ a ≤ en then ap f s z a else f a := by
  intro a
  by_cases e : a = amt
  · subst e
    rw [uz_s, if_pos (by omega)]
    exact (if_pos hy).symm
  · rw [uz_n e, h a]
    by_cases c : amt < a ∧ a ≤ en
    · rw [if_pos c, if_pos (by omega)]
    · rw [if_neg c, if_neg (by omega)]
theorem ap_end {f g : Nat → Int} {s amt en : Nat} {z : Int} (h : ∀ a, g a = if amt < a ∧ a ≤ en then ap f s z a else f a) (hs : amt < s) : ∀ a, a ≤ en → g a = ap f s z a := by
  intro a ha
  rw [h a]
  by_cases c : amt < a
  · rw [if_pos ⟨c, ha⟩]
  · rw [if_neg (fun q => c q.1)]
    exact (if_neg (fun q => by omega)).symm
/-- the number of a truth -/
noncomputable def b1 (P : Prop) : Nat := @ite Nat P (Classical.propDecidable P) 1 0
theorem b1_y {P : Prop} (h : P) : b1 P = 1 := @if_pos P (Classical.propDecidable P) h Nat 1 0
theorem b1_n {P : Prop} (h : ¬ P) : b1 P = 0 := @if_neg P (Classical.propDecidable P) h Nat 1 0
theorem b1_le (P : Prop) : b1 P ≤ 1 := by
  rcases Classical.em P with h | h
  · rw [b1_y h]; omega
  · rw [b1_n h]; omega
theorem b1_c {P R : Prop} (h : P ↔ R) : b1 P = b1 R := by rw [propext h]
noncomputable def gpc (P : Nat → Prop) : Nat → Nat
  | 0 => 0
  | a + 1 => gpc P a + b1 (P (a + 1))
theorem gpc_le (P : Nat → Prop) : ∀ a, gpc P a ≤ a
  | 0 => Nat.le_refl 0
  | a + 1 => by
    have h := gpc_le P a
    have h2 := b1_le (P (a + 1))
    show gpc P a + b1 (P (a + 1)) ≤ a + 1
    omega
theorem gpc_y {P : Nat → Prop} {a : Nat} (h : P (a + 1)) : gpc P (a + 1) = gpc P a + 1 := by
  show gpc P a + b1 (P (a + 1)) = _
  rw [b1_y h]
theorem gpc_n {P : Nat → Prop} {a : Nat} (h : ¬ P (a + 1)) : gpc P (a + 1) = gpc P a := by
  show gpc P a + b1 (P (a + 1)) = _
  rw [b1_n h, Nat.add_zero]
theorem gpc_c {P R : Nat → Prop} : ∀ {a : Nat}, (∀ b, 1 ≤ b → b ≤ a → (P b ↔ R b)) → gpc P a = gpc R a
  | 0, _ => rfl
  | a + 1, h => by
    show gpc P a + b1 (P (a + 1)) = gpc R a + b1 (R (a + 1))
    rw [gpc_c (fun b h1 h2 => h b h1 (by omega)), b1_c (h (a + 1) (by omega) (Nat.le_refl _))]
/-- an amount cannot be paid; its best way's score -/
def nway (t V : Nat → Nat) (k a : Nat) : Prop := ∀ z, ¬ wS t V (wg V k) k a z
def bway (t V : Nat → Nat) (k a : Nat) (z : Int) : Prop := wS t V (wg V k) k a z ∧ ∀ z', wS t V (wg V k) k a z' → z' ≤ z
theorem isB_n {f : Nat → Int} {en k a : Nat} {t V : Nat → Nat} (h : isB f en (wS t V (wg V k) k)) (ha : a ≤ en) : f a = NW ↔ nway t V k a := by
  rcases h a ha with ⟨h1, h2⟩ | ⟨h1, h2, h3⟩
  · exact ⟨fun _ => h2, fun _ => h1⟩
  · exact ⟨fun q => absurd q h3, fun q => absurd h1 (q _)⟩
theorem isB_y {f : Nat → Int} {en k a : Nat} {t V : Nat → Nat} (h : isB f en (wS t V (wg V k) k)) (ha : a ≤ en) (q : f a ≠ NW) : bway t V k a (f a) := by
  rcases h a ha with ⟨h1, h2⟩ | ⟨h1, h2, h3⟩
  · exact absurd h1 q
  · exact ⟨h1, h2⟩
def pP (P V : Nat → Nat) (k : Nat) (z : Int) (i : Nat) : Nat → Nat := fun j => if j < i then pz z (lc V (V j) k) else P j
def pT (T V : Nat → Nat) (k : Nat) (z : Int) (i : Nat) : Nat → Nat := fun j => if j < i then T j - pz z (lc V (V j) k) else T j
theorem pP_0 (P V : Nat → Nat) (k : Nat) (z : Int) : P = pP P V k z 0 := by
  funext j
  show P j = if j < 0 then _ else P j
  rw [if_neg (Nat.not_lt_zero j)]
theorem pT_0 (T V : Nat → Nat) (k : Nat) (z : Int) : T = pT T V k z 0 := by
  funext j
  show T j = if j < 0 then _ else T j
  rw [if_neg (Nat.not_lt_zero j)]
theorem pP_in (P V : Nat → Nat) (k : Nat) (z : Int) (i : Nat) : pP P V k z (i + 1) i = pz z (lc V (V i) k) := if_pos (Nat.lt_succ_self i)
theorem pT_at (T V : Nat → Nat) (k : Nat) (z : Int) (i : Nat) : pT T V k z i i = T i := if_neg (Nat.lt_irrefl i)
theorem pP_s (P V : Nat → Nat) (k : Nat) (z : Int) (i : Nat) : un (pP P V k z i) i (pz z (lc V (V i) k)) = pP P V k z (i + 1) := by
  funext j
  show (if j = i then _ else if j < i then _ else P j) = if j < i + 1 then _ else P j
  by_cases h : j = i
  · subst h
    rw [if_pos rfl, if_pos (by omega)]
  · rw [if_neg h]
    by_cases h2 : j < i
    · rw [if_pos h2, if_pos (by omega)]
    · rw [if_neg h2, if_neg (by omega)]
theorem pT_s (T V : Nat → Nat) (k : Nat) (z : Int) (i : Nat) : un (pT T V k z i) i (T i - pz z (lc V (V i) k)) = pT T V k z (i + 1) := by
  funext j
  show (if j = i then _ else if j < i then _ else T j) = if j < i + 1 then _ else T j
  by_cases h : j = i
  · subst h
    rw [if_pos rfl, if_pos (by omega)]
  · rw [if_neg h]
    by_cases h2 : j < i
    · rw [if_pos h2, if_pos (by omega)]
    · rw [if_neg h2, if_neg (by omega)]
theorem wmul_bd {c : Nat} {w : Int} (hc : c ≤ 60) (h : -281474976710656 ≤ w ∧ w ≤ 0) : -288230376151711744 ≤ (c : Int) * w ∧ (c : Int) * w ≤ 0 := by
  have e1 : (c : Int) * (-281474976710656) ≤ (c : Int) * w := Int.mul_le_mul_of_nonneg_left h.1 (by omega)
  have e2 : (c : Int) * w ≤ 0 := Int.mul_nonpos_of_nonneg_of_nonpos (by omega) h.2
  omega
theorem shr_cnt (r : Nat) (h : r < 8) : (((nI (r * 6)).toInt64 &&& 63).toBitVec.smod 64).toNat = r * 6 := by
  have h2 : r = 0 ∨ r = 1 ∨ r = 2 ∨ r = 3 ∨ r = 4 ∨ r = 5 ∨ r = 6 ∨ r = 7 := by omega
  rcases h2 with rfl | rfl | rfl | rfl | rfl | rfl | rfl | rfl <;> decide
theorem ovp_le {pr v : Nat} (h1 : 1 ≤ v) (h2 : v ≤ 500) : ovp pr v < 500 := by
  unfold ovp
  have := Nat.mod_lt pr (show v > 0 by omega)
  split <;> omega
theorem PR_ex {T V : Nat → Nat} {k : Nat} {A : Nat → Nat} {SC : Nat → Int} {pr : Nat} (h : ∀ i, i < k → (SC (ovp pr (V i)) = NW ↔ nway T V k (ovp pr (V i)))) : (∃ i, i < k ∧ A i ≠ 0 ∧ SC (ovp pr (V i)) = -4611686018427387904) ↔ (∃ i, i < k ∧ A i ≠ 0 ∧ nway T V k (ovp pr (V i))) := by
  constructor
  · rintro ⟨i, h1, h2, h3⟩
    exact ⟨i, h1, h2, (h i h1).mp h3⟩
  · rintro ⟨i, h1, h2, h3⟩
    exact ⟨i, h1, h2, (h i h1).mpr h3⟩
