/-! an argument in a range; counts, sums -/
def rg (x : Int32) (a b : Nat) : Prop := ∃ j, a ≤ j ∧ j < b ∧ x = nI j
theorem rg_iff {x : Int32} {a b : Nat} (hb : b ≤ 2147483648) : rg x a b ↔ (a : Int) ≤ x.toInt ∧ x.toInt < b := by
  constructor
  · rintro ⟨j, h1, h2, rfl⟩
    rw [nI_toInt (by omega)]; omega
  · rintro ⟨h1, h2⟩
    have h0 : ¬ x < 0 := by rw [Int32.lt_iff_toInt_lt, Int32.toInt_zero]; omega
    obtain ⟨j, hj, rfl⟩ := nI_of h0
    rw [nI_toInt hj] at h1 h2
    exact ⟨j, by omega, by omega, rfl⟩
/-- the sum of the first n -/
def sm (f : Nat → Nat) : Nat → Nat
  | 0 => 0
  | n + 1 => sm f n + f n
theorem sm_cong {f g : Nat → Nat} : ∀ {n : Nat}, (∀ i, i < n → f i = g i) → sm f n = sm g n
  | 0, _ => rfl
  | n + 1, h => by
    show sm f n + f n = sm g n + g n
    rw [sm_cong (fun i hi => h i (by omega)), h n (by omega)]
theorem sm_le {f : Nat → Nat} {c : Nat} : ∀ {n : Nat}, (∀ i, i < n → f i ≤ c) → sm f n ≤ n * c
  | 0, _ => by simp [sm]
  | n + 1, h => by
    have h1 := sm_le (n := n) (fun i hi => h i (by omega))
    have h2 := h n (by omega)
    show sm f n + f n ≤ (n + 1) * c
    rw [Nat.succ_mul]; omega
/-- how many of the first n are kd -/
def wo (WK : Nat → Nat) (kd : Nat) : Nat → Nat
  | 0 => 0
  | n + 1 => wo WK kd n + (if WK n = kd then 1 else 0)
theorem wo_le (WK : Nat → Nat) (kd : Nat) : ∀ n, wo WK kd n ≤ n
  | 0 => Nat.le_refl 0
  | n + 1 => by
    have h := wo_le WK kd n
    show wo WK kd n + (if WK n = kd then 1 else 0) ≤ n + 1
    split <;> omega
theorem wo_y {WK : Nat → Nat} {kd n : Nat} (h : WK n = kd) : wo WK kd (n + 1) = wo WK kd n + 1 := by
  show wo WK kd n + (if WK n = kd then 1 else 0) = _
  rw [if_pos h]
theorem wo_n {WK : Nat → Nat} {kd n : Nat} (h : WK n ≠ kd) : wo WK kd (n + 1) = wo WK kd n := by
  show wo WK kd n + (if WK n = kd then 1 else 0) = _
  rw [if_neg h, Nat.add_zero]
/-- the credit: the values of the coins in the escrow -/
def cr (V WK : Nat → Nat) (w : Nat) : Nat := sm (fun j => V (WK j)) w
/-- .. kind by kind -/
def crk (V WK : Nat → Nat) (w k : Nat) : Nat := sm (fun i => wo WK i w * V i) k
theorem crk_0 (V WK : Nat → Nat) : ∀ k, crk V WK 0 k = 0
  | 0 => rfl
  | k + 1 => by
    show crk V WK 0 k + wo WK k 0 * V k = 0
    rw [crk_0 V WK k]; simp [wo]
theorem crk_s (V WK : Nat → Nat) (w : Nat) : ∀ k, crk V WK (w + 1) k = crk V WK w k + (if WK w < k then V (WK w) else 0)
  | 0 => by simp [crk, sm]
  | k + 1 => by
    show crk V WK (w + 1) k + wo WK k (w + 1) * V k = crk V WK w k + wo WK k w * V k + _
    rw [crk_s V WK w k]
    by_cases h : WK w = k
    · rw [wo_y h, if_neg (by omega), if_pos (by omega), h, Nat.succ_mul]; omega
    · rw [wo_n h]
      by_cases h2 : WK w < k
      · rw [if_pos h2, if_pos (by omega)]; omega
      · rw [if_neg h2, if_neg (by omega)]; omega
theorem crk_cr (V WK : Nat → Nat) (k : Nat) : ∀ w, (∀ j, j < w → WK j < k) → crk V WK w k = cr V WK w
  | 0, _ => crk_0 V WK k
  | w + 1, h => by
    rw [crk_s, crk_cr V WK k w (fun j hj => h j (by omega)), if_pos (h w (by omega))]
    rfl
/-- B with the first i emptied -/
def zb (B : Nat → Nat) (i : Nat) : Nat → Nat := fun j => if j < i then 0 else B j
theorem zb_0 (B : Nat → Nat) : B = zb B 0 := by
  funext j
  show B j = if j < 0 then 0 else B j
  rw [if_neg (Nat.not_lt_zero j)]
theorem zb_at (B : Nat → Nat) (i : Nat) : zb B i i = B i := by
  show (if i < i then 0 else B i) = B i
  rw [if_neg (Nat.lt_irrefl i)]
theorem zb_s (B : Nat → Nat) (i : Nat) : un (zb B i) i 0 = zb B (i + 1) := by
  funext j
  show (if j = i then 0 else if j < i then 0 else B j) = if j < i + 1 then 0 else B j
  by_cases h : j = i
  · rw [if_pos h, if_pos (by omega)]
  · rw [if_neg h]
    by_cases h2 : j < i
    · rw [if_pos h2, if_pos (by omega)]
    · rw [if_neg h2, if_neg (by omega)]
/-- what coins() tells of a kind -/
def tld (V T B P : Nat → Nat) (kd wh : Nat) : Nat := if wh = 0 then V kd else if wh = 1 then T kd else if wh = 2 then B kd else P kd
/-- how many of the first n values are less than x -/
def lc (V : Nat → Nat) (x : Nat) : Nat → Nat
  | 0 => 0
  | n + 1 => lc V x n + (if V n < x then 1 else 0)
theorem lc_y {V : Nat → Nat} {x n : Nat} (h : V n < x) : lc V x (n + 1) = lc V x n + 1 := by
  show lc V x n + (if V n < x then 1 else 0) = _
  rw [if_pos h]
theorem lc_n {V : Nat → Nat} {x n : Nat} (h : x ≤ V n) : lc V x (n + 1) = lc V x n := by
  show lc V x n + (if V n < x then 1 else 0) = _
  rw [if_neg (by omega), Nat.add_zero]
theorem lc_le (V : Nat → Nat) (x : Nat) : ∀ n, lc V x n ≤ n
  | 0 => Nat.le_refl 0
  | n + 1 => by
    have h := lc_le V x n
    show lc V x n + (if V n < x then 1 else 0) ≤ n + 1
    split <;> omega
/-- what is paid too much with coins of v for pr -/
def ovp (pr v : Nat) : Nat := if pr % v = 0 then 0 else v - pr % v
/-- the unit -/
def dv (V : Nat → Nat) (k d : Nat) : Nat := if ∀ i, i < k → V i % d = 0 then 1 else 0
theorem dv_le (V : Nat → Nat) (k d : Nat) : dv V k d ≤ 1 := by unfold dv; split <;> omega
theorem dv_1 (V : Nat → Nat) (k : Nat) : dv V k 1 = 1 := by
  unfold dv
  rw [if_pos (fun i _ => Nat.mod_one _)]
theorem dv_n {V : Nat → Nat} {k d i : Nat} (h : i < k) (h2 : V i % d ≠ 0) : dv V k d = 0 := by
  unfold dv
  rw [if_neg (fun q => h2 (q i h))]
theorem dv_y {V : Nat → Nat} {k d : Nat} (h : ∀ i, i < k → V i % d = 0) : dv V k d = 1 := by
  unfold dv
  rw [if_pos h]
def fd (V : Nat → Nat) (k : Nat) : Nat → Nat
  | 0 => 0
  | d + 1 => if dv V k (d + 1) = 1 then d + 1 else fd V k d
theorem fd_y {V : Nat → Nat} {k d : Nat} (h0 : 1 ≤ d) (h : dv V k d = 1) : fd V k d = d := by
  obtain ⟨c, rfl⟩ : ∃ c, d = c + 1 := ⟨d - 1, by omega⟩
  show (if dv V k (c + 1) = 1 then c + 1 else fd V k c) = c + 1
  rw [if_pos h]
theorem fd_n {V : Nat → Nat} {k d : Nat} (h0 : 1 ≤ d) (h : dv V k d ≠ 1) : fd V k d = fd V k (d - 1) := by
  obtain ⟨c, rfl⟩ : ∃ c, d = c + 1 := ⟨d - 1, by omega⟩
  show (if dv V k (c + 1) = 1 then c + 1 else fd V k c) = fd V k c
  rw [if_neg h]
def gu (V : Nat → Nat) (k : Nat) : Nat := if k = 0 then 0 else fd V k 500
theorem fd_le (V : Nat → Nat) (k : Nat) : ∀ d, fd V k d ≤ d
  | 0 => Nat.le_refl 0
  | d + 1 => by
    have h := fd_le V k d
    show (if dv V k (d + 1) = 1 then d + 1 else fd V k d) ≤ d + 1
    split <;> omega
theorem fd_pos {V : Nat → Nat} {k : Nat} : ∀ {d : Nat}, 1 ≤ d → 1 ≤ fd V k d
  | 0, h => absurd h (by omega)
  | 1, _ => by rw [fd_y (Nat.le_refl 1) (dv_1 V k)]; omega
  | d + 2, _ => by
    have h := fd_pos (V := V) (k := k) (d := d + 1) (by omega)
    show 1 ≤ (if dv V k (d + 2) = 1 then d + 2 else fd V k (d + 1))
    split <;> omega
/-- the escrow's coins dropped, kinds below i -/
def dT (C T WK : Nat → Nat) (w i : Nat) : Nat → Nat := fun j => if j < i then T j + min (wo WK j w) (C j - T j) else T j
def dB (C T B WK : Nat → Nat) (w i : Nat) : Nat → Nat := fun j => if j < i then B j + (wo WK j w - min (wo WK j w) (C j - T j)) else B j
theorem dT_0 (C T WK : Nat → Nat) (w : Nat) : T = dT C T WK w 0 := by
  funext j
  show T j = if j < 0 then _ else T j
  rw [if_neg (Nat.not_lt_zero j)]
theorem dB_0 (C T B WK : Nat → Nat) (w : Nat) : B = dB C T B WK w 0 := by
  funext j
  show B j = if j < 0 then _ else B j
  rw [if_neg (Nat.not_lt_zero j)]
theorem dT_at (C T WK : Nat → Nat) (w i : Nat) : dT C T WK w i i = T i := by
  show (if i < i then _ else T i) = T i
  rw [if_neg (Nat.lt_irrefl i)]
theorem dB_at (C T B WK : Nat → Nat) (w i : Nat) : dB C T B WK w i i = B i := by
  show (if i < i then _ else B i) = B i
  rw [if_neg (Nat.lt_irrefl i)]
theorem dT_s (C T WK : Nat → Nat) (w i : Nat) : un (dT C T WK w i) i (T i + min (wo WK i w) (C i - T i)) = dT C T WK w (i + 1) := by
  funext j
  show (if j = i then _ else if j < i then _ else T j) = if j < i + 1 then _ else T j
  by_cases h : j = i
  · subst h
    rw [if_pos rfl, if_pos (by omega)]
  · rw [if_neg h]
    by_cases h2 : j < i
    · rw [if_pos h2, if_pos (by omega)]
    · rw [if_neg h2, if_neg (by omega)]
theorem dB_s (C T B WK : Nat → Nat) (w i : Nat) : un (dB C T B WK w i) i (B i + (wo WK i w - min (wo WK i w) (C i - T i))) = dB C T B WK w (i + 1) := by
  funext j
  show (if j = i then _ else if j < i then _ else B j) = if j < i + 1 then _ else B j
  by_cases h : j = i
  · subst h
    rw [if_pos rfl, if_pos (by omega)]
  · rw [if_neg h]
    by_cases h2 : j < i
    · rw [if_pos h2, if_pos (by omega)]
    · rw [if_neg h2, if_neg (by omega)]
/-- a sale's counters -/
def cs (CT : Nat → Int64) (pr ch : Nat) : Nat → Int64 :=
  let c1 := vp_updL CT 2 (CT 2 + lZ (ch : Int))
  let c2 := vp_updL c1 7 (c1 7 + lZ (pr : Int))
  let c3 := vp_updL c2 8 (c2 8 + lZ 1)
  if ch = 0 then vp_updL c3 9 (c3 9 + lZ 1) else c3
/-- what insert does -/
def insP (k : Nat) (V A : Nat → Nat) (li w : Nat) (WK : Nat → Nat) (CT : Nat → Int64) (i : Nat) (w' : Nat) (WK' : Nat → Nat) (CT' : Nat → Int64) (r : Nat) : Prop :=
  (A i = 0 ∧ r = 1 ∧ w' = w ∧ WK' = WK ∧ CT' = CT) ∨ (A i ≠ 0 ∧ 12 ≤ w ∧ r = 2 ∧ w' = w ∧ WK' = WK ∧ CT' = CT) ∨ (A i ≠ 0 ∧ w < 12 ∧ li < cr V WK w + V i ∧ r = 3 ∧ w' = w ∧ WK' = WK ∧ CT' = CT) ∨
  (A i ≠ 0 ∧ w < 12 ∧ cr V WK w + V i ≤ li ∧ r = 0 ∧ w' = w + 1 ∧ WK' = un WK w i ∧ CT' = vp_updL CT 0 (CT 0 + lZ ((V i : Nat) : Int)))
theorem cr_le {k : Nat} {V WK : Nat → Nat} {w : Nat} (hw : w ≤ 12) (hWK : ∀ j, j < w → WK j < k) (hV : ∀ i, i < k → 1 ≤ V i ∧ V i ≤ 500) : cr V WK w ≤ 6000 := by
  have h := sm_le (f := fun j => V (WK j)) (c := 500) (n := w) (fun j hj => (hV _ (hWK j hj)).2)
  unfold cr
  have h2 : w * 500 ≤ 12 * 500 := Nat.mul_le_mul_right _ hw
  omega
