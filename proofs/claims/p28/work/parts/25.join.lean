/-! a call on the middle part of a world -/
theorem va_P_l {D : va_G} {cl : List vw_C} {u v : va_W} {H : Heap} (h : va_P D cl (u ++ v) H) : va_P D cl u H := fun k q hq => h k q (by rw [List.getElem?_append_left (List.getElem?_eq_some_iff.mp hq).1]; exact hq)
theorem va_P_r {D : va_G} {cl : List vw_C} {u v : va_W} {H : Heap} (h : va_P D cl (u ++ v) H) : va_P D cl v H := fun k q hq => h (u.length + k) q (by rw [List.getElem?_append_right (Nat.le_add_right _ _), Nat.add_sub_cancel_left]; exact hq)
theorem va_D_l {A : Nat → Prop} {u v : va_W} (h : va_D A (u ++ v)) : va_D A u :=
  ⟨fun i j p q hi hj e => h.1 i j p q (by rw [List.getElem?_append_left (List.getElem?_eq_some_iff.mp hi).1]; exact hi) (by rw [List.getElem?_append_left (List.getElem?_eq_some_iff.mp hj).1]; exact hj) e,
   fun k q hq => h.2 k q (by rw [List.getElem?_append_left (List.getElem?_eq_some_iff.mp hq).1]; exact hq)⟩
theorem va_D_r {A : Nat → Prop} {u v : va_W} (h : va_D A (u ++ v)) : va_D A v :=
  ⟨fun i j p q hi hj e => by
    have h1 := h.1 (u.length + i) (u.length + j) p q (by rw [List.getElem?_append_right (Nat.le_add_right _ _), Nat.add_sub_cancel_left]; exact hi) (by rw [List.getElem?_append_right (Nat.le_add_right _ _), Nat.add_sub_cancel_left]; exact hj) e
    omega,
   fun k q hq => h.2 (u.length + k) q (by rw [List.getElem?_append_right (Nat.le_add_right _ _), Nat.add_sub_cancel_left]; exact hq)⟩
theorem va_D_x {A : Nat → Prop} {u v : va_W} (h : va_D A (u ++ v)) : ∀ (i j : Nat) (p q : Nat × va_E), u[i]? = some p → v[j]? = some q → p.1 ≠ q.1 := by
  intro i j p q hi hj e
  have hlt := (List.getElem?_eq_some_iff.mp hi).1
  have h1 := h.1 i (u.length + j) p q (by rw [List.getElem?_append_left hlt]; exact hi) (by rw [List.getElem?_append_right (Nat.le_add_right _ _), Nat.add_sub_cancel_left]; exact hj) e
  omega
theorem j_join {A : Nat → Prop} {D : va_G} {cl : List vw_C} {wa wc wb w1 : va_W} {H H1 : Heap} (hP : va_P D cl (wa ++ (wc ++ wb)) H) (hD : va_D A (wa ++ (wc ++ wb))) (hk : ∀ q : Nat, q < H.size → ¬ va_A wc H.size q → H1[q]? = H[q]?) (hF : ∀ q, va_A wc H.size q → A q) (hP1 : va_P D cl w1 H1) (hD1 : va_D (va_A wc H.size) w1) : va_P D cl (wa ++ (w1 ++ wb)) H1 ∧ va_D A (wa ++ (w1 ++ wb)) := by
  have hPa := va_P_l hP
  have hPb := va_P_r (va_P_r hP)
  have hDa := va_D_l hD
  have hDcb := va_D_r hD
  have hDb := va_D_r hDcb
  have xac : ∀ (i j : Nat) (p q : Nat × va_E), wa[i]? = some p → wc[j]? = some q → p.1 ≠ q.1 := fun i j p q hi hj => va_D_x hD i j p q hi (by rw [List.getElem?_append_left (List.getElem?_eq_some_iff.mp hj).1]; exact hj)
  have xab : ∀ (i j : Nat) (p q : Nat × va_E), wa[i]? = some p → wb[j]? = some q → p.1 ≠ q.1 := fun i j p q hi hj => va_D_x hD i (wc.length + j) p q hi (by rw [List.getElem?_append_right (Nat.le_add_right _ _), Nat.add_sub_cancel_left]; exact hj)
  have xcb := va_D_x hDcb
  have outA : ∀ (k : Nat) (q : Nat × va_E), wa[k]? = some q → ¬ va_A wc H.size q.1 := by
    intro k q hq h
    rcases h with ⟨j, e, hj⟩ | h
    · exact xac k j q (q.1, e) hq hj rfl
    · have := (hPa k q hq).lt; omega
  have outB : ∀ (k : Nat) (q : Nat × va_E), wb[k]? = some q → ¬ va_A wc H.size q.1 := by
    intro k q hq h
    rcases h with ⟨j, e, hj⟩ | h
    · exact xcb j k (q.1, e) q hj hq rfl
    · have := (hPb k q hq).lt; omega
  have hPa1 : va_P D cl wa H1 := hPa.kept (fun k q hq => hk q.1 (hPa k q hq).lt (outA k q hq))
  have hPb1 : va_P D cl wb H1 := hPb.kept (fun k q hq => hk q.1 (hPb k q hq).lt (outB k q hq))
  have hD1A : va_D A w1 := hD1.weaken (fun k q _ h => hF q.1 h)
  refine ⟨hPa1.app (hP1.app hPb1), va_D.app hDa (va_D.app hD1A hDb (fun i j p q hi hj e => ?_)) (fun i j p q hi hj e => ?_)⟩
  · exact outB j q hj (e ▸ hD1.2 i p hi)
  · rcases Nat.lt_or_ge j w1.length with z | z
    · rw [List.getElem?_append_left z] at hj
      exact outA i p hi (e ▸ hD1.2 j q hj)
    · rw [List.getElem?_append_right z] at hj
      exact xab i (j - w1.length) p q hi hj e
section KJ
variable {p : Program} {l : Launch} {e : Env} {R : Room} {s : State} {m : MethodId} {args : Array Value} {below : List Frame} {meth : Method} {c : Code} {H : Heap} {locs : List Loc} {cells slots : Nat} {Q : State → Prop}
variable {mc ms pc : Nat} {b : Addr} {As rest st0 : List Value} {ls : Array Slot} {D : va_G} {tys : List (ClassId × FieldType)} {wa wc wb : va_W} {A : Nat → Prop} {S : Type} {Wf : S → va_W}
theorem j_mid (hD : va_D A (wa ++ (wc ++ wb))) : va_D A wc := va_D_l (va_D_r hD)
theorem j_pm {cl : List vw_C} (hP : va_P D cl (wa ++ (wc ++ wb)) H) : va_P D cl wc H := va_P_l (va_P_r hP)
theorem pre_V3 (hP : va_P D vwCl (wa ++ (wc ++ wb)) H) (hK : va_K D vwCl tys s) (hD : va_D A (wa ++ (wc ++ wb))) (hS : va_S A s.heap H locs) (hA : ∀ q, s.heap.size ≤ q → A q) (hZ : zz A s s.heap) (hg : gg s) (q0 : Nat) {ci : Nat} {fs : List Value} {q : vw_C} (hc : vwCl[ci]? = some q) (he : wc[q0]? = some (b, .inr (ci, fs))) : PreV s H q.1 b (va_Pc (.ref b :: As) (cxP D tys wc H.size)) As :=
  pre_V (j_pm hP) hK (j_mid hD) hS hA hZ hg q0 hc he
theorem k3_i {post : Int32 → S → Prop} {a : Array Value} (hr : va_Run p l e R s m args below meth c H locs cells slots mc ms (F0 m pc ls st0) rest (va_Qi post (bW D (va_A wc H.size) Wf) (va_A wc H.size) a) (va_A wc H.size)) (hP : va_P D vwCl (wa ++ (wc ++ wb)) H) (hD : va_D A (wa ++ (wc ++ wb))) (hS : va_S A s.heap H locs) (hA : ∀ q, s.heap.size ≤ q → A q) (kk : ∀ (r : Int32) (u : S) (H1 : Heap) (locs1 : List Loc), post r u → va_P D vwCl (wa ++ (Wf u ++ wb)) H1 → va_D A (wa ++ (Wf u ++ wb)) → va_S A s.heap H1 locs1 → W p l e R s m args below meth c H1 locs1 (cells + mc) (slots + ms) Q (F0 m (pc + 3) ls (.int r :: rest))) : W p l e R s m args below meth c H locs cells slots Q (F0 m pc ls st0) :=
  va_calli hr hS (fun q _ h => free_all (j_mid hD) hS hA q h) (free_all (j_mid hD) hS hA) (fun r u t H1 locs1 ht _ hp hB _ hk hS1 => by
    obtain ⟨h1, h2⟩ := j_join hP hD hk (free_all (j_mid hD) hS hA) (ht ▸ hB.1) hB.2
    exact kk r u H1 locs1 hp h1 h2 hS1)
theorem k3_l {post : Int64 → S → Prop} {a : Array Value} (hr : va_Run p l e R s m args below meth c H locs cells slots mc ms (F0 m pc ls st0) rest (va_Ql post (bW D (va_A wc H.size) Wf) (va_A wc H.size) a) (va_A wc H.size)) (hP : va_P D vwCl (wa ++ (wc ++ wb)) H) (hD : va_D A (wa ++ (wc ++ wb))) (hS : va_S A s.heap H locs) (hA : ∀ q, s.heap.size ≤ q → A q) (kk : ∀ (r : Int64) (u : S) (H1 : Heap) (locs1 : List Loc), post r u → va_P D vwCl (wa ++ (Wf u ++ wb)) H1 → va_D A (wa ++ (Wf u ++ wb)) → va_S A s.heap H1 locs1 → W p l e R s m args below meth c H1 locs1 (cells + mc) (slots + ms) Q (F0 m (pc + 3) ls (.long r :: rest))) : W p l e R s m args below meth c H locs cells slots Q (F0 m pc ls st0) :=
  va_calll hr hS (fun q _ h => free_all (j_mid hD) hS hA q h) (free_all (j_mid hD) hS hA) (fun r u t H1 locs1 ht _ hp hB _ hk hS1 => by
    obtain ⟨h1, h2⟩ := j_join hP hD hk (free_all (j_mid hD) hS hA) (ht ▸ hB.1) hB.2
    exact kk r u H1 locs1 hp h1 h2 hS1)
/-- an array of ints fits -/
theorem fit_rI {cA : ClassId} {n : Nat} {f : Nat → Nat} : ∀ (i : Nat) (v : Value), (vp_cell cA (n, .inl (rI f))).slots[i]? = some v → fits .int v = true := by
  intro i v h
  have e : (vp_cell cA (n, .inl (rI f))) = arrCell cA n (rI f) := rfl
  rw [e] at h
  have hlt := (Array.getElem?_eq_some_iff.mp h).1
  rw [arr_size] at hlt
  rw [arr_read _ _ hlt] at h
  cases h
  rfl
end KJ
