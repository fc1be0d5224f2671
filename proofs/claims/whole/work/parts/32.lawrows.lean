/-! the law: its walk -/
abbrev lA (s : State) : Nat → Prop := fun q9 => s.heap.size ≤ q9
def Lc (p : Program) (s : State) (m : MethodId) (meth : Method) (c : Code) (b L : Nat) (xs : Nat → Int32) (D : va_G) (cI cZ cJ : ClassId) : Prop :=
  p.tables.exec = Jvm.exec ∧ c.code = cL_law ∧ meth.sig.returnType = ret ∧ c.maxLocals = 9 ∧ s.vm.findClass RL = some m.cls ∧ (∀ w ∈ wsL_law, w.before #[Value.ref b] s = true) ∧ va_X b L xs s s.heap ∧ b < s.heap.size ∧ meth.locks = false ∧ va_K D vwCl (ty3 cI cZ cJ) s ∧ zz (lA s) s s.heap ∧ gg s ∧ nc s ∧ L ≤ 2048
abbrev wL (r q : Nat → Nat) (qo : Nat) (cI cZ cJ : ClassId) (th : Nat) (k : Nat) (V : Nat → Nat) (C : Nat → Nat) (T : Nat → Nat) (B : Nat → Nat) (P : Nat → Nat) (A : Nat → Nat) (OR : Nat → Nat) (n : Nat) (PR : Nat → Nat) (ST : Nat → Nat) (li : Nat) (w : Nat) (WK : Nat → Nat) (so : Nat) (sp : Nat) (CT : Nat → Int64) (SC : Nat → Int) (TA : Nat → Nat) (FW : Nat → Nat) (O : Nat → Int64) : va_W :=
  wM r cI cZ cJ th k V C A T B P OR n PR ST li w WK so sp CT FW ++ (wX q cI cZ cJ k V C T B P A n PR ST li w WK so sp CT SC TA ++ [(qo, .inl (cJ, 1, .inr (.inl O)))])
/-- what the law goes on from, behind one command -/
def Nx (p : Program) (l : Launch) (e : Env) (s : State) (m : MethodId) (below : List Frame) (meth : Method) (c : Code) (b : Nat) (D : va_G) (r q : Nat → Nat) (qo : Nat) (cI cZ cJ : ClassId) (Q : State → Prop) (jj : Nat) : Prop :=
  ∀ (th : Nat) (k : Nat) (V : Nat → Nat) (C : Nat → Nat) (T : Nat → Nat) (B : Nat → Nat) (P : Nat → Nat) (A : Nat → Nat) (OR : Nat → Nat) (n : Nat) (PR : Nat → Nat) (ST : Nat → Nat) (li : Nat) (w : Nat) (WK : Nat → Nat) (so : Nat) (sp : Nat) (CT : Nat → Int64) (SC : Nat → Int) (TA : Nat → Nat) (FW : Nat → Nat) (O : Nat → Int64) (H : Heap) (locs : List Loc), IV k V C T A OR n PR ST li w WK so sp → va_P D vwCl (wL r q qo cI cZ cJ th k V C T B P A OR n PR ST li w WK so sp CT SC TA FW O) H → va_D (lA s) (wL r q qo cI cZ cJ th k V C T B P A OR n PR ST li w WK so sp CT SC TA FW O) → va_S (lA s) s.heap H locs → ∀ ls : Array Slot, lv_has ls 9 [(4, .int (nI (4 * jj))), (3, .ref qo), (2, .ref (r 0)), (1, .ref (q 0)), (0, .ref b)] → W p l e room_1 s m #[Value.ref b] below meth c H locs (27 + 8 * (jj + 1)) (20244 + 64 * (jj + 1)) Q (F0 m 1433 ls [])
theorem updL_s {f : Nat → Int64} {i : Nat} {x : Int64} : vp_updL f i x i = x := if_pos rfl
section LR
variable {p : Program} {l : Launch} {e : Env} {R : Room} {s : State} {m : MethodId} {args : Array Value} {below : List Frame} {meth : Method} {c : Code} {H : Heap} {locs : List Loc} {cells slots : Nat} {Q : State → Prop} {pc : Nat} {ls : Array Slot} {rest : List Value} {A : Nat → Prop} {cc : ByteArray}
theorem n_sld (hx : p.tables.exec = Jvm.exec) (hb : c.code = cc) {b L : Nat} {xs : Nat → Int32} (hX : va_X b L xs s s.heap) (hbl : b < s.heap.size) (hbA : ¬ A b) (hS : va_S A s.heap H locs) {i : Nat} (hi : i < L) (hn : L < 2147483648) (hd : decode cc pc = .ok (.iaload, 1)) (kk : W p l e R s m args below meth c H locs cells slots Q (F0 m (pc + 1) ls (.int (xs i) :: rest))) : W p l e R s m args below meth c H locs cells slots Q (F0 m pc ls (.int (nI i) :: .ref b :: rest)) := by
  refine va_sld hx hb hX hbl hbA hS (vp_in_nI hi hn) hd ?_
  rw [nI_clamp (Nat.lt_trans hi hn)]
  exact kk
end LR
