theorem ic_0 : Int32.ofInt 0 = nI 0 := by decide
theorem ic_1 : Int32.ofInt 1 = nI 1 := by decide
theorem ic_2 : Int32.ofInt 2 = nI 2 := by decide
theorem ic_3 : Int32.ofInt 3 = nI 3 := by decide
theorem ic_4 : Int32.ofInt 4 = nI 4 := by decide
theorem ic_5 : Int32.ofInt 5 = nI 5 := by decide
theorem ni_inc (a k : Nat) : nI a + Int32.ofInt (k : Int) = nI (a + k) := by
  rw [show Int32.ofInt (k : Int) = nI k from by
    apply Int32.toBitVec_inj.mp
    show BitVec.ofInt 32 (k : Int) = BitVec.ofNat 32 k
    exact BitVec.ofInt_natCast 32 k]
  exact nI_add a k
theorem ni_dec {a : Nat} (h : 1 ≤ a) : nI a + Int32.ofInt (-1) = nI (a - 1) := by
  obtain ⟨b, rfl⟩ : ∃ b, a = b + 1 := ⟨a - 1, by omega⟩
  rw [show Int32.ofInt (-1) = (-1 : Int32) from by decide]
  exact pk_m1 b
section RW
variable {p : Program} {l : Launch} {e : Env} {R : Room} {s : State} {m : MethodId} {args : Array Value} {below : List Frame} {meth : Method} {c : Code} {H : Heap} {locs : List Loc} {cells slots : Nat} {Q : State → Prop}
variable {cc : ByteArray} {pc : Nat} {ls : Array Slot} {rest : List Value} {D : va_G} {A : Nat → Prop} {a : Nat} {tys : List (ClassId × FieldType)} {ws ws' : va_W} {H0 : Heap} {index : Nat} {Ts : List Cond} {fs : List Value}
theorem W_absQ {g : JFrame} (h : ∀ Q', Q' = Q → W p l e R s m args below meth c H locs cells slots Q' g) : W p l e R s m args below meth c H locs cells slots Q g := h Q rfl
theorem W_absR {g : JFrame} (h : ∀ R', R' = R → W p l e R' s m args below meth c H locs cells slots Q g) : W p l e R s m args below meth c H locs cells slots Q g := h R rfl
theorem W_start {g : JFrame} (hP : va_P D vwCl ws s.heap) (h : ∀ (H : Heap) (locs : List Loc), va_P D vwCl ws H → va_S A s.heap H locs → W p l e R s m args below meth c H locs 0 0 Q g) : W p l e R s m args below meth c s.heap [] 0 0 Q g := h s.heap [] hP va_S.rf
theorem gfX (hx : p.tables.exec = Jvm.exec) (hb : c.code = cc) (hts : ∀ w ∈ Ts, w.before args s = true) (hin : ∀ w ∈ wsX00, w ∈ Ts) (hown : s.vm.findClass RX0 = some m.cls) (hK : va_K D vwCl tys s) (hP : va_P D vwCl ws H) (k : Nat) (hk : k < 18) (hm : Cond.fieldLink RX0 index "CoinMechanism" (TX0 k).2.1 (TX0 k).2.2.1 ∈ Ts) {v : Value} (he : ws[0]? = some (a, .inr (0, fs))) (hv : fs[k]? = some v) (hd : decode cc pc = .ok (.getfield index, 3)) (kk : W p l e R s m args below meth c H locs cells slots Q (F0 m (pc + 3) ls (v :: rest))) : W p l e R s m args below meth c H locs cells slots Q (F0 m pc ls (.ref a :: rest)) :=
  va_get (D := D) (ci := 0) (C := RX0) (T := TX0) (N := 18) (ref := "CoinMechanism") hx hb hts hin hown hK hP 0 he rfl k hk (hts _ hm) (fun x h9 => by
    have e0 : (TX0 k).1 = "CoinMechanism" := by
      have h : ∀ k, k < 18 → (TX0 k).1 = "CoinMechanism" := by decide +kernel
      exact h k hk
    rw [e0] at h9; exact h9) hv hd kk
theorem pfX (hx : p.tables.exec = Jvm.exec) (hb : c.code = cc) (hts : ∀ w ∈ Ts, w.before args s = true) (hin : ∀ w ∈ wsX00, w ∈ Ts) (hown : s.vm.findClass RX0 = some m.cls) (hK : va_K D vwCl tys s) (hP : va_P D vwCl ws H) (hD : va_D A ws) (hS : va_S A H0 H locs) (k : Nat) (hk : k < 18) (hm : Cond.fieldLink RX0 index "CoinMechanism" (TX0 k).2.1 (TX0 k).2.2.1 ∈ Ts) {x : Int32} (he : ws[0]? = some (a, .inr (0, fs))) (hf : (TX0 k).2.2.2 = false ∧ tyX0 k = .int) (hlen : fs.length = 18) (hw : ws.set 0 (a, .inr (0, fs.set k (.int x))) = ws') (hd : decode cc pc = .ok (.putfield index, 3)) (kk : ∀ (H1 : Heap) (locs1 : List Loc), va_P D vwCl ws' H1 → va_D A ws' → va_S A H0 H1 locs1 → W p l e R s m args below meth c H1 locs1 cells slots Q (F0 m (pc + 3) ls rest)) : W p l e R s m args below meth c H locs cells slots Q (F0 m pc ls (.int x :: .ref a :: rest)) :=
  va_put (D := D) (ci := 0) (C := RX0) (T := TX0) (N := 18) (ref := "CoinMechanism") (v := .int x) (ty := .int) hx hb hts hin tyX0 tyX0_ok nmX0 hown hK hP hD hS 0 he rfl k hk (hts _ hm) (fun x h9 => by
    have e0 : (TX0 k).1 = "CoinMechanism" := by
      have h : ∀ k, k < 18 → (TX0 k).1 = "CoinMechanism" := by decide +kernel
      exact h k hk
    rw [e0] at h9; exact h9) hf.1 ((tyX0_ok k hk).trans (congrArg some hf.2)) rfl rfl (by rw [hlen]; exact hk) hd (fun H1 locs1 h1 h2 h3 => kk H1 locs1 (hw ▸ h1) (hw ▸ h2) h3)
theorem n_zast {cl : List vw_C} (hx : p.tables.exec = Jvm.exec) (hb : c.code = cc) (hK : va_K D cl tys s) (hP : va_P D cl ws H) (hD : va_D A ws) (hS : va_S A H0 H locs) (q0 t0 : Nat) {cA : ClassId} {n : Nat} {f : Nat → Nat} (ha : ws[q0]? = some (a, .inl (cA, n, .inl (rI f)))) (ht : tys[t0]? = some (cA, .boolean)) {i x : Nat} (hi : i < n) (hz : x ≤ 1) (hn : n < 2147483648) (hw : ws.set q0 (a, .inl (cA, n, .inl (rI (un f i x)))) = ws') (hd : decode cc pc = .ok (.bastore, 1)) (kk : ∀ (H1 : Heap) (locs1 : List Loc), va_P D cl ws' H1 → va_D A ws' → va_S A H0 H1 locs1 → W p l e R s m args below meth c H1 locs1 cells slots Q (F0 m (pc + 1) ls rest)) : W p l e R s m args below meth c H locs cells slots Q (F0 m pc ls (.int (nI x) :: .int (nI i) :: .ref a :: rest)) := by
  refine va_zast hx hb hK hP hD hS q0 t0 ha ht (vp_in_nI hi hn) hd (fun H1 locs1 h1 h2 h3 => ?_)
  have hv : vp_nar .boolean (nI x) = nI x := by
    have h : x = 0 ∨ x = 1 := by omega
    rcases h with rfl | rfl <;> rfl
  rw [nI_clamp (Nat.lt_trans hi hn), hv, rI_up, hw] at h1 h2
  exact kk H1 locs1 h1 h2 h3
end RW
