/-! the law's own methods, that catch what the class throws -/
section KXJ
variable {p : Program} {l : Launch} {e : Env} {R : Room} {s : State} {m : MethodId} {args : Array Value} {below : List Frame} {meth : Method} {c : Code} {H : Heap} {locs : List Loc} {cells slots : Nat} {Q : State → Prop}
variable {mc ms pc : Nat} {b : Addr} {As rest st0 : List Value} {ls : Array Slot} {D : va_G} {tys : List (ClassId × FieldType)} {wa wc wb : va_W} {A : Nat → Prop} {S : Type} {Wf : S → va_W}
theorem k3x_i {post : Int32 → S → Prop} {pe : String → Prop} {a : Array Value} (hr : vx_Run p l e R s m args below meth c H locs cells slots mc ms (F0 m pc ls st0) rest (va_Qi post (bW D (va_A wc H.size) Wf) (va_A wc H.size) a) (xX D pe wc (va_A wc H.size)) (va_A wc H.size)) (hP : va_P D vwCl (wa ++ (wc ++ wb)) H) (hD : va_D A (wa ++ (wc ++ wb))) (hS : va_S A s.heap H locs) (hA : ∀ q, s.heap.size ≤ q → A q) (kx : ∀ (E : String) (ce : Cell) (q9 : Addr) (H1 : Heap) (locs1 : List Loc), pe E → va_P D vwCl (wa ++ (wc ++ wb)) H1 → va_D A (wa ++ (wc ++ wb)) → va_S A s.heap H1 locs1 → H1[q9]? = some ce → ce.vm = .none → s.vm.findClass E = some ce.cls → vx_W p l e R s m args below meth c H1 locs1 (cells + mc) (slots + ms) Q (F0 m pc ls rest) q9) (kk : ∀ (r : Int32) (u : S) (H1 : Heap) (locs1 : List Loc), post r u → va_P D vwCl (wa ++ (Wf u ++ wb)) H1 → va_D A (wa ++ (Wf u ++ wb)) → va_S A s.heap H1 locs1 → W p l e R s m args below meth c H1 locs1 (cells + mc) (slots + ms) Q (F0 m (pc + 3) ls (.int r :: rest))) : W p l e R s m args below meth c H locs cells slots Q (F0 m pc ls st0) :=
  vx_calli hr hS (fun q _ h => free_all (j_mid hD) hS hA q h) (free_all (j_mid hD) hS hA) (fun q _ h => free_all (j_mid hD) hS hA q h) (fun E ce q9 u t H1 locs1 ht _ _ hB _ hk hS1 h1 h2 h3 => by
    obtain ⟨j1, j2⟩ := j_join hP hD hk (free_all (j_mid hD) hS hA) (ht ▸ hB.2.1) hB.2.2
    exact kx E ce q9 H1 locs1 hB.1 j1 j2 hS1 h1 h2 h3) (fun r u t H1 locs1 ht _ hp hB _ hk hS1 => by
    obtain ⟨h1, h2⟩ := j_join hP hD hk (free_all (j_mid hD) hS hA) (ht ▸ hB.1) hB.2
    exact kk r u H1 locs1 hp h1 h2 hS1)
theorem k3x_l {post : Int64 → S → Prop} {pe : String → Prop} {a : Array Value} (hr : vx_Run p l e R s m args below meth c H locs cells slots mc ms (F0 m pc ls st0) rest (va_Ql post (bW D (va_A wc H.size) Wf) (va_A wc H.size) a) (xX D pe wc (va_A wc H.size)) (va_A wc H.size)) (hP : va_P D vwCl (wa ++ (wc ++ wb)) H) (hD : va_D A (wa ++ (wc ++ wb))) (hS : va_S A s.heap H locs) (hA : ∀ q, s.heap.size ≤ q → A q) (kx : ∀ (E : String) (ce : Cell) (q9 : Addr) (H1 : Heap) (locs1 : List Loc), pe E → va_P D vwCl (wa ++ (wc ++ wb)) H1 → va_D A (wa ++ (wc ++ wb)) → va_S A s.heap H1 locs1 → H1[q9]? = some ce → ce.vm = .none → s.vm.findClass E = some ce.cls → vx_W p l e R s m args below meth c H1 locs1 (cells + mc) (slots + ms) Q (F0 m pc ls rest) q9) (kk : ∀ (r : Int64) (u : S) (H1 : Heap) (locs1 : List Loc), post r u → va_P D vwCl (wa ++ (Wf u ++ wb)) H1 → va_D A (wa ++ (Wf u ++ wb)) → va_S A s.heap H1 locs1 → W p l e R s m args below meth c H1 locs1 (cells + mc) (slots + ms) Q (F0 m (pc + 3) ls (.long r :: rest))) : W p l e R s m args below meth c H locs cells slots Q (F0 m pc ls st0) :=
  vx_calll hr hS (fun q _ h => free_all (j_mid hD) hS hA q h) (free_all (j_mid hD) hS hA) (fun q _ h => free_all (j_mid hD) hS hA q h) (fun E ce q9 u t H1 locs1 ht _ _ hB _ hk hS1 h1 h2 h3 => by
    obtain ⟨j1, j2⟩ := j_join hP hD hk (free_all (j_mid hD) hS hA) (ht ▸ hB.2.1) hB.2.2
    exact kx E ce q9 H1 locs1 hB.1 j1 j2 hS1 h1 h2 h3) (fun r u t H1 locs1 ht _ hp hB _ hk hS1 => by
    obtain ⟨h1, h2⟩ := j_join hP hD hk (free_all (j_mid hD) hS hA) (ht ▸ hB.1) hB.2
    exact kk r u H1 locs1 hp h1 h2 hS1)
end KXJ
/-- which of the three exceptions are not which -/
def nc (U : State) : Prop := va_Nc eIS eIA U ∧ va_Nc eIA eIB U ∧ va_Nc eIB eIA U
theorem nc.moved {u U : State} (hvm : u.vm.Alike U.vm) (h : nc u) : nc U := ⟨h.1.moved hvm, h.2.1.moved hvm, h.2.2.moved hvm⟩
def cxN (D : va_G) (tys : List (ClassId × FieldType)) (ws : va_W) (sz : Nat) (U : State) : Prop := cxP D tys ws sz U ∧ nc U
theorem cxN.blind {D : va_G} {tys : List (ClassId × FieldType)} {ws : va_W} {sz : Nat} {av : List Value} : FrameBlind (va_Pc av (cxN D tys ws sz)) := by
  intro a U g mk h
  exact ⟨h.1, (cxP.blind (av := av) a U g mk ⟨h.1, h.2.1⟩).2, nc.moved (u := U) (U := U.calling g mk a) (Vm.Alike.refl U.vm) h.2.2⟩
theorem pre_N {D : va_G} {tys : List (ClassId × FieldType)} {wa wc wb : va_W} {A : Nat → Prop} {s : State} {H : Heap} {locs : List Loc} {As : List Value} (hP : va_P D vwCl (wa ++ (wc ++ wb)) H) (hK : va_K D vwCl tys s) (hD : va_D A (wa ++ (wc ++ wb))) (hS : va_S A s.heap H locs) (hA : ∀ q, s.heap.size ≤ q → A q) (hZ : zz A s s.heap) (hg : gg s) (hn : nc s) : PreS s H (va_Pc As (cxN D tys wc H.size)) As :=
  ⟨cxN.blind, fun _ hU hW => ⟨rfl, cxP.give (j_pm hP) hK (j_mid hD) hS (free_all (j_mid hD) hS hA) hZ hg hU hW, nc.moved hW.alike hn⟩⟩
