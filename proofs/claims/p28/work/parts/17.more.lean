section KD
variable {p : Program} {l : Launch} {e : Env} {R : Room} {s : State} {m : MethodId} {args : Array Value} {below : List Frame} {meth : Method} {c : Code} {H : Heap} {locs : List Loc} {cells slots : Nat} {Q : State → Prop}
variable {cc : ByteArray} {mc ms pc : Nat} {rest st0 : List Value} {ls : Array Slot} {D : va_G} {wc : va_W} {A : Nat → Prop} {S : Type} {Wf : S → va_W}
end KD
/-- digest's words -/
def hD31 (d x : Int64) : Int64 := d * lZ 31 + x
def fo (f : Nat → Int64 → Int64) (d : Int64) : Nat → Int64
  | 0 => d
  | n + 1 => f n (fo f d n)
def dgI (V T B P : Nat → Nat) (i : Nat) (d : Int64) : Nat → Int64 := fo (fun wh d => hD31 d (nI (tld V T B P i wh)).toInt64) d
def dgK (V T B P A : Nat → Nat) (d : Int64) : Nat → Int64 := fo (fun i d => hD31 (dgI V T B P i d 4) (lZ ((A i : Nat) : Int))) d
def dgP (PR ST : Nat → Nat) (d : Int64) : Nat → Int64 := fo (fun j d => hD31 (hD31 d (nI (PR j)).toInt64) (nI (ST j)).toInt64) d
def dgW (WK : Nat → Nat) (d : Int64) : Nat → Int64 := fo (fun j d => hD31 d (nI (WK j)).toInt64) d
def dgC (CT : Nat → Int64) (d : Int64) : Nat → Int64 := fo (fun j d => hD31 d (CT j)) d
def dgs (k : Nat) (V T B P A : Nat → Nat) (n : Nat) (PR ST : Nat → Nat) (li w : Nat) (WK : Nat → Nat) (CT : Nat → Int64) : Int64 :=
  dgC CT (dgW WK (hD31 (dgP PR ST (hD31 (hD31 (dgK V T B P A (hD31 (lZ 181) (nI k).toInt64) k) (nI li).toInt64) (nI n).toInt64) n) (nI w).toInt64) w) 10
theorem gpc_y' {P : Nat → Prop} {a : Nat} (h1 : 1 ≤ a) (h : P a) : gpc P a = gpc P (a - 1) + 1 := by
  obtain ⟨b, rfl⟩ : ∃ b, a = b + 1 := ⟨a - 1, by omega⟩
  exact gpc_y h
theorem gpc_n' {P : Nat → Prop} {a : Nat} (h1 : 1 ≤ a) (h : ¬ P a) : gpc P a = gpc P (a - 1) := by
  obtain ⟨b, rfl⟩ : ∃ b, a = b + 1 := ⟨a - 1, by omega⟩
  exact gpc_n h
/-- what buy does: to r, and the state's parts -/
def buyP (k : Nat) (V C T B P PR ST : Nat → Nat) (w : Nat) (WK : Nat → Nat) (so sp : Nat) (CT : Nat → Int64) (j r : Nat) (T' B' P' : Nat → Nat) (w' : Nat) (ST' : Nat → Nat) (so' sp' : Nat) (CT' : Nat → Int64) : Prop :=
  ((T' = T ∧ B' = B ∧ P' = P ∧ w' = w ∧ ST' = ST ∧ so' = so ∧ sp' = sp ∧ CT' = CT) ∧ ((ST j = 0 ∧ r = 1) ∨ (ST j ≠ 0 ∧ cr V WK w < PR j ∧ r = 2) ∨ (ST j ≠ 0 ∧ PR j ≤ cr V WK w ∧ nway (dT C T WK w k) V k (cr V WK w - PR j) ∧ r = 3))) ∨
  (ST j ≠ 0 ∧ PR j ≤ cr V WK w ∧ r = 0 ∧ ∃ z, bway (dT C T WK w k) V k (cr V WK w - PR j) z ∧ T' = pT (dT C T WK w k) V k z k ∧ B' = dB C T B WK w k ∧ P' = pP P V k z k ∧ w' = 0 ∧ ST' = un ST j (ST j - 1) ∧ so' = j ∧ sp' = PR j ∧ CT' = cs CT (PR j) (cr V WK w - PR j))
/-- what refund does -/
def refP (k : Nat) (V T P ST : Nat → Nat) (so sp : Nat) (CT : Nat → Int64) (r : Nat) (T' P' ST' : Nat → Nat) (so' : Nat) (CT' : Nat → Int64) : Prop :=
  (nway T V k sp ∧ r = 0 ∧ T' = T ∧ P' = P ∧ ST' = ST ∧ so' = so ∧ CT' = CT) ∨
  (r = 1 ∧ ∃ z, bway T V k sp z ∧ T' = pT T V k z k ∧ P' = pP P V k z k ∧ ST' = un ST so (min (ST so + 1) 99) ∧ so' = 4294967295 ∧ CT' = vp_updL CT 3 (CT 3 + lZ ((sp : Nat) : Int)))
theorem dT_min {C T WK : Nat → Nat} {w k : Nat} {TA : Nat → Nat} (hC : ∀ i, i < k → C i ≤ 60 ∧ T i ≤ C i) (h : ∀ i, i < k → TA i = min (T i + wo WK i w) (C i)) : ∀ i, i < k → TA i = dT C T WK w k i := by
  intro i hi
  have h1 := hC i hi
  rw [h i hi]
  show _ = if i < k then T i + min (wo WK i w) (C i - T i) else T i
  rw [if_pos hi]
  omega
theorem dT_le {C T WK : Nat → Nat} {w k : Nat} (hC : ∀ i, i < k → C i ≤ 60 ∧ T i ≤ C i) : ∀ i, i < k → dT C T WK w k i ≤ C i := by
  intro i hi
  have h1 := hC i hi
  show (if i < k then T i + min (wo WK i w) (C i - T i) else T i) ≤ C i
  rw [if_pos hi]
  omega
theorem NW_bd {SC : Nat → Int} {a : Nat} (h : SC a = NW ∨ (-288230376151711744 ≤ SC a ∧ SC a ≤ 0)) (h2 : SC a ≠ NW) : -288230376151711744 ≤ SC a ∧ SC a ≤ 0 := h.elim (fun q => absurd q h2) (fun q => q)
