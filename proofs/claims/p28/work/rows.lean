section
-- ===== PART A: goes FIRST, ahead of the names: the tables' words, and 'selects' of the private methods out of them =====
/-- a private method of a class that the tables say can be made, by its rows of tables_1 -/
def lw_okq (q : MethodName × Nat) : Prop := (q.1.cls ≠ "java/lang/invoke/MethodHandle" ∧ q.1.cls ≠ "java/lang/invoke/VarHandle") ∧ Cond.instantiable q.1.cls q.2 ∈ tables_1 ∧ Cond.privateMethod q.1 ∈ tables_1 ∧ Cond.instanceMethod q.1 ∈ tables_1
theorem lw_p0 : lw_okq (⟨"CoinMechanism", "checkKind", "(I)V"⟩, 18) := ⟨⟨by decide +kernel, by decide +kernel⟩, List.mem_of_getElem? (i := 10) (by decide +kernel), List.mem_of_getElem? (i := 80) (by decide +kernel), List.mem_of_getElem? (i := 81) (by decide +kernel)⟩
theorem lw_p1 : lw_okq (⟨"java/lang/Throwable", "fillInStackTrace", "(I)Ljava/lang/Throwable;"⟩, 6) := ⟨⟨by decide +kernel, by decide +kernel⟩, List.mem_of_getElem? (i := 122) (by decide +kernel), List.mem_of_getElem? (i := 120) (by decide +kernel), List.mem_of_getElem? (i := 121) (by decide +kernel)⟩
theorem lw_p2 : lw_okq (⟨"CoinMechanism", "waitingOf", "(I)I"⟩, 18) := ⟨⟨by decide +kernel, by decide +kernel⟩, List.mem_of_getElem? (i := 10) (by decide +kernel), List.mem_of_getElem? (i := 207) (by decide +kernel), List.mem_of_getElem? (i := 208) (by decide +kernel)⟩
theorem lw_p3 : lw_okq (⟨"CoinMechanism", "checkProduct", "(I)V"⟩, 18) := ⟨⟨by decide +kernel, by decide +kernel⟩, List.mem_of_getElem? (i := 10) (by decide +kernel), List.mem_of_getElem? (i := 219) (by decide +kernel), List.mem_of_getElem? (i := 220) (by decide +kernel)⟩
theorem lw_p4 : lw_okq (⟨"CoinMechanism", "foreseeTubes", "()V"⟩, 18) := ⟨⟨by decide +kernel, by decide +kernel⟩, List.mem_of_getElem? (i := 10) (by decide +kernel), List.mem_of_getElem? (i := 224) (by decide +kernel), List.mem_of_getElem? (i := 225) (by decide +kernel)⟩
theorem lw_p5 : lw_okq (⟨"CoinMechanism", "scoreWays", "(I[I)V"⟩, 18) := ⟨⟨by decide +kernel, by decide +kernel⟩, List.mem_of_getElem? (i := 10) (by decide +kernel), List.mem_of_getElem? (i := 228) (by decide +kernel), List.mem_of_getElem? (i := 229) (by decide +kernel)⟩
theorem lw_p6 : lw_okq (⟨"CoinMechanism", "addKindToWays", "(III)V"⟩, 18) := ⟨⟨by decide +kernel, by decide +kernel⟩, List.mem_of_getElem? (i := 10) (by decide +kernel), List.mem_of_getElem? (i := 233) (by decide +kernel), List.mem_of_getElem? (i := 234) (by decide +kernel)⟩
theorem lw_p7 : lw_okq (⟨"CoinMechanism", "digitOf", "(I)I"⟩, 18) := ⟨⟨by decide +kernel, by decide +kernel⟩, List.mem_of_getElem? (i := 10) (by decide +kernel), List.mem_of_getElem? (i := 237) (by decide +kernel), List.mem_of_getElem? (i := 238) (by decide +kernel)⟩
theorem lw_p8 : lw_okq (⟨"CoinMechanism", "addPackToWays", "(IJI)V"⟩, 18) := ⟨⟨by decide +kernel, by decide +kernel⟩, List.mem_of_getElem? (i := 10) (by decide +kernel), List.mem_of_getElem? (i := 242) (by decide +kernel), List.mem_of_getElem? (i := 243) (by decide +kernel)⟩
theorem lw_p9 : lw_okq (⟨"CoinMechanism", "scoreOf", "(I)J"⟩, 18) := ⟨⟨by decide +kernel, by decide +kernel⟩, List.mem_of_getElem? (i := 10) (by decide +kernel), List.mem_of_getElem? (i := 249) (by decide +kernel), List.mem_of_getElem? (i := 250) (by decide +kernel)⟩
theorem lw_p10 : lw_okq (⟨"CoinMechanism", "dropWaiting", "()V"⟩, 18) := ⟨⟨by decide +kernel, by decide +kernel⟩, List.mem_of_getElem? (i := 10) (by decide +kernel), List.mem_of_getElem? (i := 253) (by decide +kernel), List.mem_of_getElem? (i := 254) (by decide +kernel)⟩
theorem lw_p11 : lw_okq (⟨"CoinMechanism", "payOut", "(J)V"⟩, 18) := ⟨⟨by decide +kernel, by decide +kernel⟩, List.mem_of_getElem? (i := 10) (by decide +kernel), List.mem_of_getElem? (i := 257) (by decide +kernel), List.mem_of_getElem? (i := 258) (by decide +kernel)⟩
theorem lw_p12 : lw_okq (⟨"CoinMechanism", "coinsOfKindInWay", "(JI)I"⟩, 18) := ⟨⟨by decide +kernel, by decide +kernel⟩, List.mem_of_getElem? (i := 10) (by decide +kernel), List.mem_of_getElem? (i := 261) (by decide +kernel), List.mem_of_getElem? (i := 262) (by decide +kernel)⟩
theorem lw_p13 : lw_okq (⟨"CoinMechanism", "countSale", "(II)V"⟩, 18) := ⟨⟨by decide +kernel, by decide +kernel⟩, List.mem_of_getElem? (i := 10) (by decide +kernel), List.mem_of_getElem? (i := 266) (by decide +kernel), List.mem_of_getElem? (i := 267) (by decide +kernel)⟩
theorem lw_p14 : lw_okq (⟨"CoinMechanism", "toldOfKind", "(II)I"⟩, 18) := ⟨⟨by decide +kernel, by decide +kernel⟩, List.mem_of_getElem? (i := 10) (by decide +kernel), List.mem_of_getElem? (i := 275) (by decide +kernel), List.mem_of_getElem? (i := 276) (by decide +kernel)⟩
theorem lw_p15 : lw_okq (⟨"CoinMechanism", "dividesAllValues", "(I)Z"⟩, 18) := ⟨⟨by decide +kernel, by decide +kernel⟩, List.mem_of_getElem? (i := 10) (by decide +kernel), List.mem_of_getElem? (i := 306) (by decide +kernel), List.mem_of_getElem? (i := 307) (by decide +kernel)⟩
def lw_privs_1 : List (MethodName × Nat) := [(⟨"CoinMechanism", "checkKind", "(I)V"⟩, 18), (⟨"java/lang/Throwable", "fillInStackTrace", "(I)Ljava/lang/Throwable;"⟩, 6), (⟨"CoinMechanism", "waitingOf", "(I)I"⟩, 18), (⟨"CoinMechanism", "checkProduct", "(I)V"⟩, 18), (⟨"CoinMechanism", "foreseeTubes", "()V"⟩, 18), (⟨"CoinMechanism", "scoreWays", "(I[I)V"⟩, 18), (⟨"CoinMechanism", "addKindToWays", "(III)V"⟩, 18), (⟨"CoinMechanism", "digitOf", "(I)I"⟩, 18), (⟨"CoinMechanism", "addPackToWays", "(IJI)V"⟩, 18), (⟨"CoinMechanism", "scoreOf", "(I)J"⟩, 18), (⟨"CoinMechanism", "dropWaiting", "()V"⟩, 18), (⟨"CoinMechanism", "payOut", "(J)V"⟩, 18), (⟨"CoinMechanism", "coinsOfKindInWay", "(JI)I"⟩, 18), (⟨"CoinMechanism", "countSale", "(II)V"⟩, 18), (⟨"CoinMechanism", "toldOfKind", "(II)I"⟩, 18), (⟨"CoinMechanism", "dividesAllValues", "(I)Z"⟩, 18)]
theorem lw_r1 : ∀ q ∈ lw_privs_1, lw_okq q := List.forall_mem_cons.mpr ⟨lw_p0, List.forall_mem_cons.mpr ⟨lw_p1, List.forall_mem_cons.mpr ⟨lw_p2, List.forall_mem_cons.mpr ⟨lw_p3, List.forall_mem_cons.mpr ⟨lw_p4, List.forall_mem_cons.mpr ⟨lw_p5, List.forall_mem_cons.mpr ⟨lw_p6, List.forall_mem_cons.mpr ⟨lw_p7, List.forall_mem_cons.mpr ⟨lw_p8, List.forall_mem_cons.mpr ⟨lw_p9, List.forall_mem_cons.mpr ⟨lw_p10, List.forall_mem_cons.mpr ⟨lw_p11, List.forall_mem_cons.mpr ⟨lw_p12, List.forall_mem_cons.mpr ⟨lw_p13, List.forall_mem_cons.mpr ⟨lw_p14, List.forall_mem_cons.mpr ⟨lw_p15, fun _ h => absurd h List.not_mem_nil⟩⟩⟩⟩⟩⟩⟩⟩⟩⟩⟩⟩⟩⟩⟩⟩
theorem lw_p16 : lw_okq (⟨"CoinMechanism", "digestOfKinds", "(J)J"⟩, 18) := ⟨⟨by decide +kernel, by decide +kernel⟩, List.mem_of_getElem? (i := 10) (by decide +kernel), List.mem_of_getElem? (i := 321) (by decide +kernel), List.mem_of_getElem? (i := 322) (by decide +kernel)⟩
theorem lw_p17 : lw_okq (⟨"CoinMechanism", "hasKindOfValue", "(I)Z"⟩, 18) := ⟨⟨by decide +kernel, by decide +kernel⟩, List.mem_of_getElem? (i := 10) (by decide +kernel), List.mem_of_getElem? (i := 344) (by decide +kernel), List.mem_of_getElem? (i := 345) (by decide +kernel)⟩
def lw_privs_2 : List (MethodName × Nat) := [(⟨"CoinMechanism", "digestOfKinds", "(J)J"⟩, 18), (⟨"CoinMechanism", "hasKindOfValue", "(I)Z"⟩, 18)]
theorem lw_r2 : ∀ q ∈ lw_privs_2, lw_okq q := List.forall_mem_cons.mpr ⟨lw_p16, List.forall_mem_cons.mpr ⟨lw_p17, fun _ h => absurd h List.not_mem_nil⟩⟩
def lw_privs : List (MethodName × Nat) := lw_privs_1 ++ (lw_privs_2)
def lw_tbl : List Cond := k2_sels lw_privs ++ tables_1
theorem lw_privs_ok : ∀ q ∈ lw_privs, lw_okq q := by
  show ∀ q ∈ lw_privs_1 ++ (lw_privs_2), lw_okq q
  exact List.forall_mem_append.mpr ⟨lw_r1, lw_r2⟩
-- ===== end of PART A; then your names; then what follows =====
end
section
/-! ===== BEGIN words of one list among another's, by their places ===== -/
theorem goodIn_r {big : List Cond} (ws : List Cond) (ps : List Nat) (hp : ws = ps.filterMap (fun i => big[i]?)) (h : ws.all goodWord = true) : GoodIn big ws := by
  intro w hw
  have h1 := List.all_eq_true.mp h w hw
  rw [hp] at hw
  obtain ⟨i, -, hi⟩ := List.mem_filterMap.mp hw
  have hm : w ∈ big := by first | exact List.mem_of_getElem? hi | exact List.getElem?_mem hi
  exact ⟨hm, good_of_word h1⟩
theorem goodIn_app {big a b : List Cond} (ha : GoodIn big a) (hb : GoodIn big b) : GoodIn big (a ++ b) := fun w h => (List.mem_append.mp h).elim (ha w) (hb w)
theorem goodIn_ca {big a b : List Cond} {c : Cond} (ha : GoodIn big (c :: a)) (hb : GoodIn big b) : GoodIn big (c :: (a ++ b)) := fun w h => (List.mem_cons.mp h).elim (fun e => ha w (List.mem_cons.mpr (Or.inl e))) (fun h => (List.mem_append.mp h).elim (fun h => ha w (List.mem_cons.mpr (Or.inr h))) (hb w))
theorem goodIn_sub {big ws : List Cond} (hm : ∀ w ∈ ws, w ∈ big) (h : ws.all goodWord = true) : GoodIn big ws := fun w hw => ⟨hm w hw, good_of_word (List.all_eq_true.mp h w hw)⟩
/-! ===== END ===== -/

/-! ===== BEGIN exceptions that leave a method, and their catching by the caller (launches without stack traces) ===== -/
section VXA
/-! The laws vx_back, vx_callV, vx_callS, vx_callSW, vx_throw0, vx_throwS follow proofs of the library, with one case more: JvmDerived/Free/Laws.lean (Back.of_free), Shelf42/LK1.lean (callV, callS), Shelf/KitTraced.lean (throwNew0V, throwNewS). -/
/-- where a method has thrown q: the class by its name, the cell, what was written, the world -/
def vx_T (XC : String → State → State → Prop) (st : State) (q : Addr) (t : State) (mc ms : Nat) (free : Addr → Prop) : Prop :=
  ∃ (E : String) (ce : Cell) (L : List Loc), XC E st t ∧ t.heap[q]? = some ce ∧ ce.vm = .none ∧ st.vm.findClass E = some ce.cls ∧ st.WarmedH t.vm ∧ st.sameButNew ({ t with vm := st.vm } : State) L mc ms ∧ ∀ z ∈ L, free z.base
def vx_Q (Qc : Array Value → State → Outcome → State → Prop) (XC : String → State → State → Prop) (mc ms : Nat) (free : Addr → Prop) : Array Value → State → Outcome → State → Prop := fun a st o t =>
  (Qc a st o t ∧ ∃ L, FrameEnd st o t L mc ms ∧ ∀ q ∈ L, free q.base) ∨ ∃ q, o = .threw q ∧ vx_T XC st q t mc ms free
/-- a callee that returns or throws -/
def vx_Met (l : Launch) (y : MethodName) (ws : List Cond) (rm : Room) (Pc : Array Value → State → Prop) (Qc : Array Value → State → Outcome → State → Prop) (XC : String → State → State → Prop) (mc ms : Nat) (free : Addr → Prop) : Prop :=
  MetFree l y (headSpec ws rm) Pc (fun _ _ _ _ _ => True) (vx_Q Qc XC mc ms free)
def vx_Post (XC : String → State → State → Prop) (mc ms : Nat) (free : Addr → Prop) : Pt → Array Value → Addr → Pt → Prop := fun A a q B =>
  ∃ (g : JFrame) (mk : MethodId) (t : State) (L : List Loc) (E : String) (ce : Cell), B.U.heap = t.heap ∧ B.U.vm = t.vm ∧ XC E (A.U.calling g mk a) t ∧ t.heap[q]? = some ce ∧ ce.vm = .none ∧ A.U.vm.findClass E = some ce.cls ∧ B.locs = A.locs ++ L ∧ (∀ z ∈ L, free z.base) ∧ B.cells = A.cells + mc ∧ B.slots = A.slots + ms
def vx_Back (l : Launch) (R : Room) (p : Program) (e : Env) (below : List Frame) (s : State) (sargs : Array Value) (y : MethodName) (len W9 : Nat)
    (Pre : Pt → Array Value → Prop) (Post : Pt → Array Value → Option Value → Pt → Prop) (PostX : Pt → Array Value → Addr → Pt → Prop) : Prop :=
  ∀ (m : MethodId) (meth : Method) (c : Code) (A : Pt) (g : JFrame) (ig : Instr) (mk : MethodId) (a : Array Value),
    Stand p l e R s m sargs below meth c A.U A.locs A.cells A.slots → g.method = m → g.locals.size = c.maxLocals → decode c.code g.pc = .ok (ig, len) →
    2 * g.monitorRoom + (g.stack.map fun v => v.category).sum ≤ W9 → A.U.methodNamed? y = some mk → Pre A a →
    (∃ (v : Option Value) (B : Pt), Stand p l e R s m sargs below meth c B.U B.locs B.cells B.slots ∧ Post A a v B ∧
      Steps p.tables e below (doInvoke e (A.U.setTop g) [] mk a).1 (B.U.setTop { g with pc := g.pc + len, stack := v.toList ++ g.stack })) ∨
    (∃ (q : Addr) (B : Pt), Stand p l e R s m sargs below meth c B.U B.locs B.cells B.slots ∧ PostX A a q B ∧
      Steps p.tables e below (doInvoke e (A.U.setTop g) [] mk a).1 ((B.U.setTop g).pushFrame (.throwing q)))
section Payer
variable {l : Launch} {R : Room} {p : Program} {e : Env} {below : List Frame} {s : State} {sargs : Array Value} {y : MethodName} {len W9 : Nat}
theorem vx_back {ws : List Cond} {rm : Room} {Pc : Array Value → State → Prop} {Qc : Array Value → State → Outcome → State → Prop} {XC : String → State → State → Prop} {mc ms : Nat} {free : Addr → Prop} {bytes : ByteArray} {maxL : Nat} {ret : Option FieldType}
    (hM : vx_Met l y ws rm Pc Qc XC mc ms free) (hblind : FrameBlind Pc) (hrc : rm.cells = mc) (hrs : rm.slots = ms)
    (hframes : rm.frames + 1 ≤ R.frames) (hlocals : W9 + (maxL + 11) + rm.locals ≤ R.locals)
    (hws : ∀ w ∈ ws, ∀ a' U, s.WarmedH U.vm → w.before a' U = true) (hcode : Cond.code y bytes maxL ret ∈ ws) (hinit : ∀ a' U, s.WarmedH U.vm → (Cond.initialized y.cls).before a' U = true) :
    vx_Back l R p e below s sargs y len W9 (PreOf R mc ms Pc) (PostOf Qc mc ms free) (vx_Post XC mc ms free) := by
  intro m meth c A g ig mk a X hg hsize hdg hW hn hp
  have h1 : (headSpec ws rm).pre.before a A.U = true := atoms_intro fun w hw => hws w hw _ _ X.warmed
  have h2 : (Cond.code y bytes maxL ret).before a A.U = true := hws _ hcode _ _ X.warmed
  have h3 : (Cond.initialized y.cls).before a A.U = true := hinit _ _ X.warmed
  have h4 : A.cells + (headSpec ws rm).room.cells ≤ R.cells := by rw [show (headSpec ws rm).room.cells = mc from hrc]; exact hp.1
  have h5 : A.slots + (headSpec ws rm).room.slots ≤ R.slots := by rw [show (headSpec ws rm).room.slots = ms from hrs]; exact hp.2.1
  have hPc : Pc a (A.U.calling g mk a) := hblind _ _ _ _ hp.2.2
  obtain ⟨U, Ls, c0, s0⟩ := A
  dsimp only [Pt.U, Pt.locs, Pt.cells, Pt.slots] at h1 h2 h3 h4 h5 X hn hPc ⊢
  obtain ⟨methY, cY, hmY, hcY, -, hlY, -, -, -, -⟩ := Cond.code_spec hn h2
  obtain ⟨kY, hkY, -⟩ := className_of_methodNamed hn
  have hinitY : kY.init = .initialized := Cond.initialized_spec (findClass_of_methodNamed hn) hkY h3
  have h : At U g.method c below := by rw [hg]; exact X.here
  have hlocals9 : W9 + (maxL + 11) + (headSpec ws rm).room.locals ≤ R.locals := hlocals
  have happ : (headSpec ws rm).appliesLoose y e.platform (U.calling g mk a) = true :=
    Spec.appliesLoose_calling (g := g) h hdg hn hkY hinitY
      (X.room_calling (g := g) (R' := (headSpec ws rm).room) hsize hmY hcY hframes (by rw [hlY]; omega) h4 h5) h1
  obtain ⟨mid, hmid⟩ := h.above
  have hfr : (U.setTop g).frames = (.java g :: mid) ++ below := by rw [State.frames_setTop' g h.top, hmid]; rfl
  obtain ⟨o, s₂, hsteps, -, hend, hq⟩ := Steps.callFree hM p X.admits X.cas X.clock (acts := []) hfr happ hPc trivial
  have hq' : vx_Q Qc XC mc ms free a (U.calling g mk a) o s₂ := hq
  rw [State.frames_setTop' g h.top] at hend
  obtain ⟨g₀, hg0⟩ := Option.isSome_iff_exists.mp h.top
  obtain ⟨r, hr⟩ := State.topJava?_eq_some.mp hg0
  have hr' : (({ U with heap := s₂.heap, slotsUsed := s₂.slotsUsed } : State).setVm s₂.vm).frames = .java g₀ :: r := hr
  rcases hq' with ⟨hqc, L, hfe, hL⟩ | ⟨q, rfl, E, ce, L, hx, hce, hcv, hcl, hW₂, hsm, hL⟩
  · obtain ⟨⟨v, rfl⟩, hW₂, e2, q2, q3, q4, q5, q6⟩ := id hfe
    have e3 : s₂ = ({ (U.calling g mk a).setFrames s₂.frames with heap := s₂.heap, slotsUsed := s₂.slotsUsed } : State).setVm s₂.vm := by
      have : s₂ = ({ s₂ with vm := (U.calling g mk a).vm } : State).setVm s₂.vm := rfl
      rw [e2] at this
      exact this
    obtain ⟨c₂, i₂, len₂, hc₂, hd₂, hf₂⟩ := hend
    have hW' : U.WarmedH s₂.vm := hW₂
    have hcc : c₂ = c := by
      have h1 : s₂.code? g.method = U.code? g.method := by
        rw [State.code?_eq, State.code?_eq, hW'.alike.method?]
      exact Option.some.inj (hc₂.symm.trans (h1.trans h.code))
    subst hcc
    have hlen : len₂ = len := by rw [hdg] at hd₂; cases hd₂; rfl
    subst hlen
    have hs₂ : s₂ = (({ U with heap := s₂.heap, slotsUsed := s₂.slotsUsed } : State).setVm s₂.vm).setTop { g with pc := g.pc + len₂, stack := v.toList ++ g.stack } := by
      refine e3.trans ?_
      rw [hf₂, State.calling_eq h.top, State.setFrames_setFrames, State.setTop_of_frames _ hr', hr]
      rfl
    have hsame : U.sameButNew ({ U with heap := s₂.heap, slotsUsed := s₂.slotsUsed } : State) L mc ms := by
      refine ⟨?_, q2, q3, q4, q5, q6⟩
      obtain ⟨t, ht, -⟩ := State.frames_cons hr
      show ({ U with heap := s₂.heap, slotsUsed := s₂.slotsUsed } : State) = { U.setFrames U.frames with heap := s₂.heap, slotsUsed := s₂.slotsUsed }
      rw [State.setFrames_self ht]
    subst hg
    refine Or.inl ⟨v, ⟨(({ U with heap := s₂.heap, slotsUsed := s₂.slotsUsed } : State).setVm s₂.vm), Ls ++ L, c0 + mc, s0 + ms⟩,
      ⟨X.admits, X.cas, X.clock, X.frames, X.room, X.hears, X.method, X.code, (X.here.setHeapUsed s₂.heap s₂.slotsUsed).setVm hW'.alike, X.tail, State.WarmedH.trans X.warmed hW', X.limits, X.bytes, X.same.trans (hsame.setVm s.vm)⟩,
      ⟨g, mk, s₂, L, rfl, rfl, hqc, rfl, hL, rfl, rfl⟩, ?_⟩
    show Steps p.tables e below _ ((({ U with heap := s₂.heap, slotsUsed := s₂.slotsUsed } : State).setVm s₂.vm).setTop { g with pc := g.pc + len₂, stack := v.toList ++ g.stack })
    rw [← hs₂]
    exact hsteps
  · obtain ⟨e2, q2, q3, q4, q5, q6⟩ := id hsm
    have e3 : s₂ = ({ (U.calling g mk a).setFrames s₂.frames with heap := s₂.heap, slotsUsed := s₂.slotsUsed } : State).setVm s₂.vm := by
      have : s₂ = ({ s₂ with vm := (U.calling g mk a).vm } : State).setVm s₂.vm := rfl
      rw [e2] at this
      exact this
    have hf₂ : s₂.frames = .throwing q :: .java g :: U.frames.tail := hend
    have hW' : U.WarmedH s₂.vm := hW₂
    have hs₂ : s₂ = ((({ U with heap := s₂.heap, slotsUsed := s₂.slotsUsed } : State).setVm s₂.vm).setTop g).pushFrame (.throwing q) := by
      refine e3.trans ?_
      rw [hf₂, State.calling_eq h.top, State.setFrames_setFrames, State.pushFrame, State.frames_setTop _ hr', State.setTop_of_frames _ hr', State.setFrames_setFrames, hr]
      rfl
    have hsame : U.sameButNew ({ U with heap := s₂.heap, slotsUsed := s₂.slotsUsed } : State) L mc ms := by
      refine ⟨?_, q2, q3, q4, q5, q6⟩
      obtain ⟨t, ht, -⟩ := State.frames_cons hr
      show ({ U with heap := s₂.heap, slotsUsed := s₂.slotsUsed } : State) = { U.setFrames U.frames with heap := s₂.heap, slotsUsed := s₂.slotsUsed }
      rw [State.setFrames_self ht]
    subst hg
    refine Or.inr ⟨q, ⟨(({ U with heap := s₂.heap, slotsUsed := s₂.slotsUsed } : State).setVm s₂.vm), Ls ++ L, c0 + mc, s0 + ms⟩,
      ⟨X.admits, X.cas, X.clock, X.frames, X.room, X.hears, X.method, X.code, (X.here.setHeapUsed s₂.heap s₂.slotsUsed).setVm hW'.alike, X.tail, State.WarmedH.trans X.warmed hW', X.limits, X.bytes, X.same.trans (hsame.setVm s.vm)⟩,
      ⟨g, mk, s₂, L, E, ce, rfl, rfl, hx, hce, hcv, hcl, rfl, hL, rfl, rfl⟩, ?_⟩
    show Steps p.tables e below _ (((({ U with heap := s₂.heap, slotsUsed := s₂.slotsUsed } : State).setVm s₂.vm).setTop g).pushFrame (.throwing q))
    rw [← hs₂]
    exact hsteps
end Payer
section Calls
variable {p : Program} {l : Launch} {e : Env} {R : Room} {s : State} {m : MethodId} {args : Array Value} {below : List Frame} {meth : Method} {c : Code} {T : State} {locs : List Loc} {cells slots : Nat}
theorem vx_callV (X : Stand p l e R s m args below meth c T locs cells slots) (hexec : p.tables.exec = Jvm.exec) {own C : String} {index : Nat} {y : MethodName} {bytes : ByteArray} {maxL : Nat} {ret : Option FieldType}
    (hown : s.vm.findClass own = some m.cls) (hlink : (Cond.methodLink own index y).before args s = true) (hinst : (Cond.instanceMethod y).before args s = true) (hsel : (Cond.selects C y y).before args s = true)
    (hcode : (Cond.code y bytes maxL ret).before args s = true) (hy : y.cls ≠ "java/lang/invoke/MethodHandle" ∧ y.cls ≠ "java/lang/invoke/VarHandle")
    {W9 : Nat} {Pre : Pt → Array Value → Prop} {Post : Pt → Array Value → Option Value → Pt → Prop} {PostX : Pt → Array Value → Addr → Pt → Prop} (hK : vx_Back l R p e below s args y 3 W9 Pre Post PostX)
    {b : Addr} {cellB : Cell} (hcell : T.heap[b]? = some cellB) (hobj : cellB.vm.isStatics = false) (hcls : s.vm.findClass C = some cellB.cls)
    {g : JFrame} (hg : g.method = m) (hsize : g.locals.size = c.maxLocals) {argsL rest : List Value} (hlen : ∀ sig, parseMethodDescriptor y.desc = some sig → argsL.length = sig.parameters.length)
    (hstack : g.stack = argsL.reverse ++ .ref b :: rest) (hW : 2 * g.monitorRoom + (rest.map fun v => v.category).sum ≤ W9) (hdg : decode c.code g.pc = .ok (.invokevirtual index, 3))
    (hpre : ∀ vm₁, s.WarmedH vm₁ → Pre ⟨T.setVm vm₁, locs, cells, slots⟩ (Value.ref b :: argsL).toArray) :
    (∃ (v : Option Value) (vm₁ : Vm) (B : Pt), s.WarmedH vm₁ ∧ Stand p l e R s m args below meth c B.U B.locs B.cells B.slots ∧ Post ⟨T.setVm vm₁, locs, cells, slots⟩ (Value.ref b :: argsL).toArray v B ∧
      ∀ target, Steps p.tables e below (B.U.setTop { g with pc := g.pc + 3, stack := v.toList ++ rest }) target → Steps p.tables e below (T.setTop g) target) ∨
    (∃ (q : Addr) (vm₁ : Vm) (B : Pt), s.WarmedH vm₁ ∧ Stand p l e R s m args below meth c B.U B.locs B.cells B.slots ∧ PostX ⟨T.setVm vm₁, locs, cells, slots⟩ (Value.ref b :: argsL).toArray q B ∧
      Steps p.tables e below (T.setTop g) ((B.U.setTop { g with stack := rest }).pushFrame (.throwing q))) := by
  obtain ⟨mk, methM, hnamed, hmethM, hstM, habM⟩ := Cond.instanceMethod_spec hinst
  obtain ⟨methM', cM, hmethM', -, -, -, -, -, -, hsigM⟩ := Cond.code_spec hnamed hcode
  cases hmethM.symm.trans hmethM'
  obtain ⟨c2, r2, m2, q1, q2, q3, q4, kP, hkP, hkPi⟩ := Cond.selects_spec hsel
  cases hcls.symm.trans q1
  cases (State.methodFound?_of_named hnamed hy).symm.trans q2
  cases hnamed.symm.trans q3
  have hselP : selectMethod e.platform s.vm cellB.cls mk = .method mk := by rw [Launch.admits_selectMethod X.admits]; exact q4
  obtain ⟨vm₁, X₁, hstep₁⟩ := X.invokevirtual hexec hown hlink hnamed hmethM hstM hkP hkPi hy (a := b) (cell := cellB) hcell
    (fun z h => by rw [h] at hobj; cases hobj) hselP hmethM habM hkP hkPi (g := g) hg (argsL := argsL) (rest := rest) (hlen _ hsigM) hstack hdg
  rcases hK m meth c ⟨T.setVm vm₁, locs, cells, slots⟩ { g with stack := rest } (.invokevirtual index) mk (Value.ref b :: argsL).toArray X₁ hg hsize hdg hW (X₁.named hnamed) (hpre vm₁ X₁.warmed) with ⟨v, B, X', hpost, hsteps⟩ | ⟨q, B, X', hpost, hsteps⟩
  · exact Or.inl ⟨v, vm₁, B, X₁.warmed, X', hpost, fun target h => hstep₁ _ fun acts => by rw [doInvoke_state]; exact hsteps.trans h⟩
  · exact Or.inr ⟨q, vm₁, B, X₁.warmed, X', hpost, hstep₁ _ fun acts => by rw [doInvoke_state]; exact hsteps⟩
theorem vx_callS (X : Stand p l e R s m args below meth c T locs cells slots) (hexec : p.tables.exec = Jvm.exec) {own : String} {index : Nat} {y : MethodName} {bytes : ByteArray} {maxL : Nat} {ret : Option FieldType}
    (hown : s.vm.findClass own = some m.cls) (hlink : (Cond.methodLink own index y).before args s = true) (hstat : (Cond.static y).before args s = true) (hinit : (Cond.initialized y.cls).before args s = true)
    (hcode : (Cond.code y bytes maxL ret).before args s = true) (hy : y.cls ≠ "java/lang/invoke/MethodHandle" ∧ y.cls ≠ "java/lang/invoke/VarHandle")
    {W9 : Nat} {Pre : Pt → Array Value → Prop} {Post : Pt → Array Value → Option Value → Pt → Prop} {PostX : Pt → Array Value → Addr → Pt → Prop} (hK : vx_Back l R p e below s args y 3 W9 Pre Post PostX)
    {g : JFrame} (hg : g.method = m) (hsize : g.locals.size = c.maxLocals) {argsL rest : List Value} (hlen : ∀ sig, parseMethodDescriptor y.desc = some sig → argsL.length = sig.parameters.length)
    (hstack : g.stack = argsL.reverse ++ rest) (hW : 2 * g.monitorRoom + (rest.map fun v => v.category).sum ≤ W9) (hdg : decode c.code g.pc = .ok (.invokestatic index, 3))
    (hpre : ∀ vm₁, s.WarmedH vm₁ → Pre ⟨T.setVm vm₁, locs, cells, slots⟩ argsL.toArray) :
    (∃ (v : Option Value) (vm₁ : Vm) (B : Pt), s.WarmedH vm₁ ∧ Stand p l e R s m args below meth c B.U B.locs B.cells B.slots ∧ Post ⟨T.setVm vm₁, locs, cells, slots⟩ argsL.toArray v B ∧
      ∀ target, Steps p.tables e below (B.U.setTop { g with pc := g.pc + 3, stack := v.toList ++ rest }) target → Steps p.tables e below (T.setTop g) target) ∨
    (∃ (q : Addr) (vm₁ : Vm) (B : Pt), s.WarmedH vm₁ ∧ Stand p l e R s m args below meth c B.U B.locs B.cells B.slots ∧ PostX ⟨T.setVm vm₁, locs, cells, slots⟩ argsL.toArray q B ∧
      Steps p.tables e below (T.setTop g) ((B.U.setTop { g with stack := rest }).pushFrame (.throwing q))) := by
  obtain ⟨mk, hnamed⟩ := Cond.code_named hcode
  obtain ⟨methM, cM, hmethM, -, -, -, -, -, -, hsigM⟩ := Cond.code_spec hnamed hcode
  have hstatic : methM.isStatic = true := Cond.static_spec hnamed hmethM hstat
  obtain ⟨kP, hkP, -⟩ := className_of_methodNamed hnamed
  have hinitP : kP.init = .initialized := Cond.initialized_spec (findClass_of_methodNamed hnamed) hkP hinit
  obtain ⟨vm₁, X₁, hstep₁⟩ := X.invokestatic hexec hown hlink hnamed hmethM hstatic hkP hinitP hy (g := g) hg (argsL := argsL) (rest := rest) (hlen _ hsigM) hstack hdg
  rcases hK m meth c ⟨T.setVm vm₁, locs, cells, slots⟩ { g with stack := rest } (.invokestatic index) mk argsL.toArray X₁ hg hsize hdg hW (X₁.named hnamed) (hpre vm₁ X₁.warmed) with ⟨v, B, X', hpost, hsteps⟩ | ⟨q, B, X', hpost, hsteps⟩
  · exact Or.inl ⟨v, vm₁, B, X₁.warmed, X', hpost, fun target h => hstep₁ _ fun acts => by rw [doInvoke_state]; exact hsteps.trans h⟩
  · exact Or.inr ⟨q, vm₁, B, X₁.warmed, X', hpost, hstep₁ _ fun acts => by rw [doInvoke_state]; exact hsteps⟩
end Calls
theorem vx_cls {s : State} {T : State} {vm₁ : Vm} {E : String} {k : ClassId} (hW : s.WarmedH vm₁) (h : (T.setVm vm₁).vm.findClass E = some k) : s.vm.findClass E = some k := by
  have h1 : vm₁.findClass E = some k := h
  rw [hW.alike.findClass] at h1
  exact h1
/-- the method's frame g, with q thrown over it -/
def vx_W (p : Program) (l : Launch) (e : Env) (R : Room) (s : State) (m : MethodId) (args : Array Value) (below : List Frame) (meth : Method) (c : Code) (H : Heap) (locs : List Loc) (cells slots : Nat) (Q : State → Prop) (g : JFrame) (q : Addr) : Prop :=
  ∀ T : State, T.heap = H → Stand p l e R s m args below meth c T locs cells slots → ∃ t, Steps p.tables e below ((T.setTop g).pushFrame (.throwing q)) t ∧ Q t
def vx_Run (p : Program) (l : Launch) (e : Env) (R : Room) (s : State) (m : MethodId) (args : Array Value) (below : List Frame) (meth : Method) (c : Code) (H : Heap) (locs : List Loc) (cells slots mc ms : Nat) (g : JFrame) (rest : List Value) (Qa : State → Outcome → State → Prop) (XC : String → State → State → Prop) (free : Addr → Prop) : Prop :=
  ∀ T : State, T.heap = H → Stand p l e R s m args below meth c T locs cells slots →
    (∃ (v : Option Value) (st₀ t T' : State) (L : List Loc), st₀.heap = H ∧ Stand p l e R s m args below meth c T' (locs ++ L) (cells + mc) (slots + ms) ∧ (∀ q ∈ L, free q.base) ∧ T'.heap = t.heap ∧ T'.vm = t.vm ∧ Qa st₀ (.returned v) t ∧
      Goes p e below T g T' { g with pc := g.pc + 3, stack := v.toList ++ rest }) ∨
    (∃ (q : Addr) (st₀ t T' : State) (L : List Loc) (E : String) (ce : Cell), st₀.heap = H ∧ Stand p l e R s m args below meth c T' (locs ++ L) (cells + mc) (slots + ms) ∧ (∀ z ∈ L, free z.base) ∧ T'.heap = t.heap ∧ T'.vm = t.vm ∧ XC E st₀ t ∧ t.heap[q]? = some ce ∧ ce.vm = .none ∧ s.vm.findClass E = some ce.cls ∧
      Steps p.tables e below (T.setTop g) ((T'.setTop { g with stack := rest }).pushFrame (.throwing q)))
def vx_X {S : Type} (px : S → Prop) (B : String → S → State → Prop) (A : Nat → Prop) : String → State → State → Prop := fun E st t => ∃ u : S, px u ∧ B E u t ∧ va_F A st t
section Runs
variable {p : Program} {l : Launch} {e : Env} {R : Room} {s : State} {m : MethodId} {args : Array Value} {below : List Frame} {meth : Method} {c : Code} {H : Heap} {locs : List Loc} {cells slots : Nat}
variable {y : MethodName} {bytes cc : ByteArray} {maxL nL mc ms n index : Nat} {ret : Option FieldType} {ws : List Cond} {rm : Room} {Pc : Array Value → State → Prop} {Qc : Array Value → State → Outcome → State → Prop} {XC : String → State → State → Prop} {free : Addr → Prop} {Ts : List Cond} {own C : String} {b : Addr} {As rest : List Value} {g : JFrame}
theorem vx_callBack (cb : CallB R s args own index y bytes maxL ret ws rm mc ms n) (hM : vx_Met l y ws rm Pc Qc XC mc ms free) (hbl : FrameBlind Pc) : vx_Back l R p e below s args y 3 8 (PreOf R mc ms Pc) (PostOf Qc mc ms free) (vx_Post XC mc ms free) := by
  obtain ⟨hrc, hrs, hfr, hlo, hws, hcw, -, hini, -⟩ := cb
  exact vx_back (bytes := bytes) (maxL := maxL) (ret := ret) hM hbl hrc hrs hfr hlo hws hcw (fun a' U hW => word_at hW (Or.inl (by first | rfl | simp [Cond.onTables, Cond.keeps, Cond.steady])) hini)
theorem vx_runV (S : CallFix p m c cc nL s args Ts own) (hM : vx_Met l y ws rm Pc Qc XC mc ms free) (cw : CallW R s args own C index y bytes maxL ret ws rm mc ms n) (hp : PreV s H C b Pc As)
    (hg : g.method = m) (hn : As.length = n) (hsize : g.locals.size = nL) (hstack : g.stack = As.reverse ++ .ref b :: rest) (hW : 2 * g.monitorRoom + (rest.map fun v => v.category).sum ≤ 8) (hdg : decode cc g.pc = .ok (.invokevirtual index, 3)) (hf : cells + mc ≤ R.cells ∧ slots + ms ≤ R.slots) :
    vx_Run p l e R s m args below meth c H locs cells slots mc ms g rest (Qc (Value.ref b :: As).toArray) XC free := by
  have hK : vx_Back l R p e below s args y 3 8 (PreOf R mc ms Pc) (PostOf Qc mc ms free) (vx_Post XC mc ms free) := vx_callBack cw.1 hM hp.1
  obtain ⟨⟨-, -, -, -, -, -, hcode, -, hy, hlen, hl⟩, hin, hse⟩ := cw
  obtain ⟨hx, hb, hml, ho, -⟩ := S
  obtain ⟨-, ⟨cellB, hcB, hoB, hclB⟩, hPc⟩ := hp
  intro T hT X
  rcases vx_callV X hx (C := C) (bytes := bytes) (maxL := maxL) (ret := ret) ho hl hin hse hcode hy hK (by rw [hT]; exact hcB) hoB hclB hg (hsize.trans hml.symm) (argsL := As) (rest := rest) (fun sig h => hn.trans (hlen sig h)) hstack hW (by rw [hb]; exact hdg)
    (fun vm₁ hW₁ => ⟨hf.1, hf.2, hPc (T.setVm vm₁) hT hW₁⟩) with ⟨v, vm₁, ⟨U', l2, c2, s2⟩, hW₁, X', ⟨g', mk, t, L, e1, e2, hq, h1, hL, h2, h3⟩, st⟩ | ⟨q, vm₁, ⟨U', l2, c2, s2⟩, hW₁, X', ⟨g', mk, t, L, E, ce, e1, e2, hq, hce, hcv, hcl, h1, hL, h2, h3⟩, st⟩
  · dsimp only [Pt.U, Pt.locs, Pt.cells, Pt.slots] at X' e1 e2 h1 h2 h3 st
    subst h1; subst h2; subst h3
    exact Or.inl ⟨v, (T.setVm vm₁).calling g' mk (Value.ref b :: As).toArray, t, U', L, hT, X', hL, e1, e2, hq, st⟩
  · dsimp only [Pt.U, Pt.locs, Pt.cells, Pt.slots] at X' e1 e2 h1 h2 h3 st hcl
    subst h1; subst h2; subst h3
    exact Or.inr ⟨q, (T.setVm vm₁).calling g' mk (Value.ref b :: As).toArray, t, U', L, E, ce, hT, X', hL, e1, e2, hq, hce, hcv, vx_cls hW₁ hcl, st⟩
theorem vx_runS (S : CallFix p m c cc nL s args Ts own) (hM : vx_Met l y ws rm Pc Qc XC mc ms free) (cw : CallB R s args own index y bytes maxL ret ws rm mc ms n ∧ (Cond.static y).before args s = true) (hp : PreS s H Pc As)
    (hg : g.method = m) (hn : As.length = n) (hsize : g.locals.size = nL) (hstack : g.stack = As.reverse ++ rest) (hW : 2 * g.monitorRoom + (rest.map fun v => v.category).sum ≤ 8) (hdg : decode cc g.pc = .ok (.invokestatic index, 3)) (hf : cells + mc ≤ R.cells ∧ slots + ms ≤ R.slots) :
    vx_Run p l e R s m args below meth c H locs cells slots mc ms g rest (Qc As.toArray) XC free := by
  have hK : vx_Back l R p e below s args y 3 8 (PreOf R mc ms Pc) (PostOf Qc mc ms free) (vx_Post XC mc ms free) := vx_callBack cw.1 hM hp.1
  obtain ⟨⟨-, -, -, -, -, -, hcode, hini, hy, hlen, hl⟩, hstt⟩ := cw
  obtain ⟨hx, hb, hml, ho, -⟩ := S
  intro T hT X
  rcases vx_callS X hx (bytes := bytes) (maxL := maxL) (ret := ret) ho hl hstt hini hcode hy hK hg (hsize.trans hml.symm) (argsL := As) (rest := rest) (fun sig h => hn.trans (hlen sig h)) hstack hW (by rw [hb]; exact hdg)
    (fun vm₁ hW₁ => ⟨hf.1, hf.2, hp.2 (T.setVm vm₁) hT hW₁⟩) with ⟨v, vm₁, ⟨U', l2, c2, s2⟩, hW₁, X', ⟨g', mk, t, L, e1, e2, hq, h1, hL, h2, h3⟩, st⟩ | ⟨q, vm₁, ⟨U', l2, c2, s2⟩, hW₁, X', ⟨g', mk, t, L, E, ce, e1, e2, hq, hce, hcv, hcl, h1, hL, h2, h3⟩, st⟩
  · dsimp only [Pt.U, Pt.locs, Pt.cells, Pt.slots] at X' e1 e2 h1 h2 h3 st
    subst h1; subst h2; subst h3
    exact Or.inl ⟨v, (T.setVm vm₁).calling g' mk As.toArray, t, U', L, hT, X', hL, e1, e2, hq, st⟩
  · dsimp only [Pt.U, Pt.locs, Pt.cells, Pt.slots] at X' e1 e2 h1 h2 h3 st hcl
    subst h1; subst h2; subst h3
    exact Or.inr ⟨q, (T.setVm vm₁).calling g' mk As.toArray, t, U', L, E, ce, hT, X', hL, e1, e2, hq, hce, hcv, vx_cls hW₁ hcl, st⟩
end Runs
section Rows
variable {p : Program} {l : Launch} {e : Env} {R : Room} {s : State} {m : MethodId} {args : Array Value} {below : List Frame} {meth : Method} {c : Code} {H : Heap} {locs : List Loc} {cells slots : Nat} {Q : State → Prop}
variable {mc ms : Nat} {free : Addr → Prop} {A0 A1 : Nat → Prop} {H0 : Heap} {a : Array Value} {pc : Nat} {ls : Array Slot} {st0 rest : List Value}
theorem vx_keep {st₀ t T' : State} {L : List Loc} (h0 : st₀.heap = H) (e1 : T'.heap = t.heap) (hS : va_S A0 H0 H locs) (hA : ∀ q, q < H.size → A1 q → A0 q) (hf : ∀ q, free q → A0 q) (hL : ∀ q ∈ L, free q.base) (hF : va_F A1 st₀ t) :
    H.size ≤ T'.heap.size ∧ (∀ q : Nat, q < H.size → ¬ A1 q → T'.heap[q]? = H[q]?) ∧ va_S A0 H0 T'.heap (locs ++ L) := by
  obtain ⟨hz, hk⟩ := hF
  rw [h0] at hz hk
  exact ⟨by rw [e1]; exact hz, fun q h1 h2 => by rw [e1]; exact hk q h1 h2,
    ⟨Nat.le_trans hS.1 (by rw [e1]; exact hz), fun q h1 h2 => by rw [e1, hk q (Nat.lt_of_lt_of_le h1 hS.1) (fun z => h2 (hA q (Nat.lt_of_lt_of_le h1 hS.1) z))]; exact hS.2.1 q h1 h2, fun q hq => by
      rcases List.mem_append.mp hq with h | h
      · exact hS.2.2 q h
      · exact hf _ (hL q h)⟩⟩
theorem vx_calli {S SX : Type} {post : Int32 → S → Prop} {px : SX → Prop} {B : S → State → Prop} {BX : String → SX → State → Prop} {AX : Nat → Prop} (hr : vx_Run p l e R s m args below meth c H locs cells slots mc ms (F0 m pc ls st0) rest (va_Qi post B A1 a) (vx_X px BX AX) free) (hS : va_S A0 H0 H locs) (hA : ∀ q, q < H.size → A1 q → A0 q) (hf : ∀ q, free q → A0 q) (hAX : ∀ q, q < H.size → AX q → A0 q)
    (kx : ∀ (E : String) (ce : Cell) (q9 : Addr) (u : SX) (t : State) (H1 : Heap) (locs1 : List Loc), t.heap = H1 → s.vm.Alike t.vm → px u → BX E u t → H.size ≤ H1.size → (∀ q : Nat, q < H.size → ¬ AX q → H1[q]? = H[q]?) → va_S A0 H0 H1 locs1 → H1[q9]? = some ce → ce.vm = .none → s.vm.findClass E = some ce.cls → vx_W p l e R s m args below meth c H1 locs1 (cells + mc) (slots + ms) Q (F0 m pc ls rest) q9)
    (kk : ∀ (r : Int32) (u : S) (t : State) (H1 : Heap) (locs1 : List Loc), t.heap = H1 → s.vm.Alike t.vm → post r u → B u t → H.size ≤ H1.size → (∀ q : Nat, q < H.size → ¬ A1 q → H1[q]? = H[q]?) → va_S A0 H0 H1 locs1 → W p l e R s m args below meth c H1 locs1 (cells + mc) (slots + ms) Q (F0 m (pc + 3) ls (.int r :: rest))) : W p l e R s m args below meth c H locs cells slots Q (F0 m pc ls st0) := by
  intro T hT X
  rcases hr T hT X with ⟨v, st₀, t, T', L, h0, X', hL, e1, e2, ⟨⟨r, u, hv, hp, hb⟩, hF⟩, st⟩ | ⟨q, st₀, t, T', L, E, ce, h0, X', hL, e1, e2, ⟨u, hp, hb, hF⟩, hce, hcv, hcl, st⟩
  · cases hv
    obtain ⟨k1, k2, k3⟩ := vx_keep h0 e1 hS hA hf hL hF
    obtain ⟨t2, a1, b1⟩ := kk r u t T'.heap (locs ++ L) e1.symm (by rw [← e2]; exact X'.warmed.alike) hp hb k1 k2 k3 T' rfl X'
    exact ⟨t2, st t2 a1, b1⟩
  · obtain ⟨k1, k2, k3⟩ := vx_keep h0 e1 hS hAX hf hL hF
    obtain ⟨t2, a1, b1⟩ := kx E ce q u t T'.heap (locs ++ L) e1.symm (by rw [← e2]; exact X'.warmed.alike) hp hb k1 k2 k3 (by rw [e1]; exact hce) hcv hcl T' rfl X'
    exact ⟨t2, st.trans a1, b1⟩
theorem vx_calll {S SX : Type} {post : Int64 → S → Prop} {px : SX → Prop} {B : S → State → Prop} {BX : String → SX → State → Prop} {AX : Nat → Prop} (hr : vx_Run p l e R s m args below meth c H locs cells slots mc ms (F0 m pc ls st0) rest (va_Ql post B A1 a) (vx_X px BX AX) free) (hS : va_S A0 H0 H locs) (hA : ∀ q, q < H.size → A1 q → A0 q) (hf : ∀ q, free q → A0 q) (hAX : ∀ q, q < H.size → AX q → A0 q)
    (kx : ∀ (E : String) (ce : Cell) (q9 : Addr) (u : SX) (t : State) (H1 : Heap) (locs1 : List Loc), t.heap = H1 → s.vm.Alike t.vm → px u → BX E u t → H.size ≤ H1.size → (∀ q : Nat, q < H.size → ¬ AX q → H1[q]? = H[q]?) → va_S A0 H0 H1 locs1 → H1[q9]? = some ce → ce.vm = .none → s.vm.findClass E = some ce.cls → vx_W p l e R s m args below meth c H1 locs1 (cells + mc) (slots + ms) Q (F0 m pc ls rest) q9)
    (kk : ∀ (r : Int64) (u : S) (t : State) (H1 : Heap) (locs1 : List Loc), t.heap = H1 → s.vm.Alike t.vm → post r u → B u t → H.size ≤ H1.size → (∀ q : Nat, q < H.size → ¬ A1 q → H1[q]? = H[q]?) → va_S A0 H0 H1 locs1 → W p l e R s m args below meth c H1 locs1 (cells + mc) (slots + ms) Q (F0 m (pc + 3) ls (.long r :: rest))) : W p l e R s m args below meth c H locs cells slots Q (F0 m pc ls st0) := by
  intro T hT X
  rcases hr T hT X with ⟨v, st₀, t, T', L, h0, X', hL, e1, e2, ⟨⟨r, u, hv, hp, hb⟩, hF⟩, st⟩ | ⟨q, st₀, t, T', L, E, ce, h0, X', hL, e1, e2, ⟨u, hp, hb, hF⟩, hce, hcv, hcl, st⟩
  · cases hv
    obtain ⟨k1, k2, k3⟩ := vx_keep h0 e1 hS hA hf hL hF
    obtain ⟨t2, a1, b1⟩ := kk r u t T'.heap (locs ++ L) e1.symm (by rw [← e2]; exact X'.warmed.alike) hp hb k1 k2 k3 T' rfl X'
    exact ⟨t2, st t2 a1, b1⟩
  · obtain ⟨k1, k2, k3⟩ := vx_keep h0 e1 hS hAX hf hL hF
    obtain ⟨t2, a1, b1⟩ := kx E ce q u t T'.heap (locs ++ L) e1.symm (by rw [← e2]; exact X'.warmed.alike) hp hb k1 k2 k3 (by rw [e1]; exact hce) hcv hcl T' rfl X'
    exact ⟨t2, st.trans a1, b1⟩
theorem vx_callf {S SX : Type} {post : UInt32 → S → Prop} {px : SX → Prop} {B : S → State → Prop} {BX : String → SX → State → Prop} {AX : Nat → Prop} (hr : vx_Run p l e R s m args below meth c H locs cells slots mc ms (F0 m pc ls st0) rest (va_Qf post B A1 a) (vx_X px BX AX) free) (hS : va_S A0 H0 H locs) (hA : ∀ q, q < H.size → A1 q → A0 q) (hf : ∀ q, free q → A0 q) (hAX : ∀ q, q < H.size → AX q → A0 q)
    (kx : ∀ (E : String) (ce : Cell) (q9 : Addr) (u : SX) (t : State) (H1 : Heap) (locs1 : List Loc), t.heap = H1 → s.vm.Alike t.vm → px u → BX E u t → H.size ≤ H1.size → (∀ q : Nat, q < H.size → ¬ AX q → H1[q]? = H[q]?) → va_S A0 H0 H1 locs1 → H1[q9]? = some ce → ce.vm = .none → s.vm.findClass E = some ce.cls → vx_W p l e R s m args below meth c H1 locs1 (cells + mc) (slots + ms) Q (F0 m pc ls rest) q9)
    (kk : ∀ (r : UInt32) (u : S) (t : State) (H1 : Heap) (locs1 : List Loc), t.heap = H1 → s.vm.Alike t.vm → post r u → B u t → H.size ≤ H1.size → (∀ q : Nat, q < H.size → ¬ A1 q → H1[q]? = H[q]?) → va_S A0 H0 H1 locs1 → W p l e R s m args below meth c H1 locs1 (cells + mc) (slots + ms) Q (F0 m (pc + 3) ls (.float r :: rest))) : W p l e R s m args below meth c H locs cells slots Q (F0 m pc ls st0) := by
  intro T hT X
  rcases hr T hT X with ⟨v, st₀, t, T', L, h0, X', hL, e1, e2, ⟨⟨r, u, hv, hp, hb⟩, hF⟩, st⟩ | ⟨q, st₀, t, T', L, E, ce, h0, X', hL, e1, e2, ⟨u, hp, hb, hF⟩, hce, hcv, hcl, st⟩
  · cases hv
    obtain ⟨k1, k2, k3⟩ := vx_keep h0 e1 hS hA hf hL hF
    obtain ⟨t2, a1, b1⟩ := kk r u t T'.heap (locs ++ L) e1.symm (by rw [← e2]; exact X'.warmed.alike) hp hb k1 k2 k3 T' rfl X'
    exact ⟨t2, st t2 a1, b1⟩
  · obtain ⟨k1, k2, k3⟩ := vx_keep h0 e1 hS hAX hf hL hF
    obtain ⟨t2, a1, b1⟩ := kx E ce q u t T'.heap (locs ++ L) e1.symm (by rw [← e2]; exact X'.warmed.alike) hp hb k1 k2 k3 (by rw [e1]; exact hce) hcv hcl T' rfl X'
    exact ⟨t2, st.trans a1, b1⟩
theorem vx_calld {S SX : Type} {post : UInt64 → S → Prop} {px : SX → Prop} {B : S → State → Prop} {BX : String → SX → State → Prop} {AX : Nat → Prop} (hr : vx_Run p l e R s m args below meth c H locs cells slots mc ms (F0 m pc ls st0) rest (va_Qd post B A1 a) (vx_X px BX AX) free) (hS : va_S A0 H0 H locs) (hA : ∀ q, q < H.size → A1 q → A0 q) (hf : ∀ q, free q → A0 q) (hAX : ∀ q, q < H.size → AX q → A0 q)
    (kx : ∀ (E : String) (ce : Cell) (q9 : Addr) (u : SX) (t : State) (H1 : Heap) (locs1 : List Loc), t.heap = H1 → s.vm.Alike t.vm → px u → BX E u t → H.size ≤ H1.size → (∀ q : Nat, q < H.size → ¬ AX q → H1[q]? = H[q]?) → va_S A0 H0 H1 locs1 → H1[q9]? = some ce → ce.vm = .none → s.vm.findClass E = some ce.cls → vx_W p l e R s m args below meth c H1 locs1 (cells + mc) (slots + ms) Q (F0 m pc ls rest) q9)
    (kk : ∀ (r : UInt64) (u : S) (t : State) (H1 : Heap) (locs1 : List Loc), t.heap = H1 → s.vm.Alike t.vm → post r u → B u t → H.size ≤ H1.size → (∀ q : Nat, q < H.size → ¬ A1 q → H1[q]? = H[q]?) → va_S A0 H0 H1 locs1 → W p l e R s m args below meth c H1 locs1 (cells + mc) (slots + ms) Q (F0 m (pc + 3) ls (.double r :: rest))) : W p l e R s m args below meth c H locs cells slots Q (F0 m pc ls st0) := by
  intro T hT X
  rcases hr T hT X with ⟨v, st₀, t, T', L, h0, X', hL, e1, e2, ⟨⟨r, u, hv, hp, hb⟩, hF⟩, st⟩ | ⟨q, st₀, t, T', L, E, ce, h0, X', hL, e1, e2, ⟨u, hp, hb, hF⟩, hce, hcv, hcl, st⟩
  · cases hv
    obtain ⟨k1, k2, k3⟩ := vx_keep h0 e1 hS hA hf hL hF
    obtain ⟨t2, a1, b1⟩ := kk r u t T'.heap (locs ++ L) e1.symm (by rw [← e2]; exact X'.warmed.alike) hp hb k1 k2 k3 T' rfl X'
    exact ⟨t2, st t2 a1, b1⟩
  · obtain ⟨k1, k2, k3⟩ := vx_keep h0 e1 hS hAX hf hL hF
    obtain ⟨t2, a1, b1⟩ := kx E ce q u t T'.heap (locs ++ L) e1.symm (by rw [← e2]; exact X'.warmed.alike) hp hb k1 k2 k3 (by rw [e1]; exact hce) hcv hcl T' rfl X'
    exact ⟨t2, st.trans a1, b1⟩
theorem vx_callv {S SX : Type} {post : S → Prop} {px : SX → Prop} {B : S → State → Prop} {BX : String → SX → State → Prop} {AX : Nat → Prop} (hr : vx_Run p l e R s m args below meth c H locs cells slots mc ms (F0 m pc ls st0) rest (va_Qv post B A1 a) (vx_X px BX AX) free) (hS : va_S A0 H0 H locs) (hA : ∀ q, q < H.size → A1 q → A0 q) (hf : ∀ q, free q → A0 q) (hAX : ∀ q, q < H.size → AX q → A0 q)
    (kx : ∀ (E : String) (ce : Cell) (q9 : Addr) (u : SX) (t : State) (H1 : Heap) (locs1 : List Loc), t.heap = H1 → s.vm.Alike t.vm → px u → BX E u t → H.size ≤ H1.size → (∀ q : Nat, q < H.size → ¬ AX q → H1[q]? = H[q]?) → va_S A0 H0 H1 locs1 → H1[q9]? = some ce → ce.vm = .none → s.vm.findClass E = some ce.cls → vx_W p l e R s m args below meth c H1 locs1 (cells + mc) (slots + ms) Q (F0 m pc ls rest) q9)
    (kk : ∀ (u : S) (t : State) (H1 : Heap) (locs1 : List Loc), t.heap = H1 → s.vm.Alike t.vm → post u → B u t → H.size ≤ H1.size → (∀ q : Nat, q < H.size → ¬ A1 q → H1[q]? = H[q]?) → va_S A0 H0 H1 locs1 → W p l e R s m args below meth c H1 locs1 (cells + mc) (slots + ms) Q (F0 m (pc + 3) ls (rest))) : W p l e R s m args below meth c H locs cells slots Q (F0 m pc ls st0) := by
  intro T hT X
  rcases hr T hT X with ⟨v, st₀, t, T', L, h0, X', hL, e1, e2, ⟨⟨u, hv, hp, hb⟩, hF⟩, st⟩ | ⟨q, st₀, t, T', L, E, ce, h0, X', hL, e1, e2, ⟨u, hp, hb, hF⟩, hce, hcv, hcl, st⟩
  · cases hv
    obtain ⟨k1, k2, k3⟩ := vx_keep h0 e1 hS hA hf hL hF
    obtain ⟨t2, a1, b1⟩ := kk u t T'.heap (locs ++ L) e1.symm (by rw [← e2]; exact X'.warmed.alike) hp hb k1 k2 k3 T' rfl X'
    exact ⟨t2, st t2 a1, b1⟩
  · obtain ⟨k1, k2, k3⟩ := vx_keep h0 e1 hS hAX hf hL hF
    obtain ⟨t2, a1, b1⟩ := kx E ce q u t T'.heap (locs ++ L) e1.symm (by rw [← e2]; exact X'.warmed.alike) hp hb k1 k2 k3 (by rw [e1]; exact hce) hcv hcl T' rfl X'
    exact ⟨t2, st.trans a1, b1⟩
/-- caught by the row x of this method's table; the rows ahead don't take it -/
theorem vx_catch {own name : String} {E : String} {ce : Cell} {q : Addr} (hown : s.vm.findClass own = some m.cls) (pre : List ExceptionTableEntry) (x : ExceptionTableEntry) (suf : List ExceptionTableEntry) (hsplit : c.exceptionTable.toList = pre ++ x :: suf)
    (hpass : ∀ z ∈ pre, covers z pc = false ∨ (z.catchType ≠ 0 ∧ ∃ nm : String, (Cond.classLink own z.catchType nm).before args s = true ∧ va_Nc E nm s)) (hx : covers x pc = true) (h0 : x.catchType ≠ 0)
    (hlink : (Cond.classLink own x.catchType name).before args s = true) (hcast : (Cond.castable E name).before args s = true) (hcell : H[q]? = some ce) (hv : ce.vm = .none) (hcl : s.vm.findClass E = some ce.cls)
    (kk : W p l e R s m args below meth c H locs cells slots Q (F0 m x.handlerPc ls [.ref q])) : vx_W p l e R s m args below meth c H locs cells slots Q (F0 m pc ls rest) q := by
  intro T hT X
  have hpl : e.platform.magicAccessors = ({} : Platform).magicAccessors := by rw [X.admits.platform]
  obtain ⟨c3, c4, hc3, hc4, hasg⟩ := Cond.castable_spec hcast
  cases Option.some.inj (hc3.symm.trans hcl)
  obtain ⟨c5, hc5, hcl5⟩ := Cond.classLink_spec hown hlink e.platform hpl
  cases Option.some.inj (hc4.symm.trans hc5)
  obtain ⟨vm', X', st⟩ := X.thenCaughtThrough q (g := F0 m pc ls rest) rfl (Steps.refl _) (by rw [hT]; exact hcell) (by rw [hv]; rfl) (by obtain ⟨k9, h9, -⟩ := Vm.findClass_spec hcl; exact ⟨k9, h9⟩) pre x suf hsplit
    (fun z hz => by
      rcases hpass z hz with h | ⟨hz0, nm, hl1, hn1⟩
      · exact Or.inl h
      · obtain ⟨c6, hc6, hcl6⟩ := Cond.classLink_spec hown hl1 e.platform hpl
        obtain ⟨a8, b8, h1, h2, h3⟩ := hn1
        cases Option.some.inj (h1.symm.trans hcl)
        cases Option.some.inj (h2.symm.trans hc6)
        exact Or.inr ⟨hz0, _, hcl6, h3⟩) hx (Or.inr ⟨h0, c4, hcl5, hasg⟩)
  obtain ⟨t, a1, b1⟩ := kk (T.setVm vm') hT X'
  exact ⟨t, st.trans a1, b1⟩
end Rows
section Ends
variable {p : Program} {l : Launch} {e : Env} {R : Room} {s : State} {m : MethodId} {args : Array Value} {below : List Frame} {meth : Method} {c : Code} {H : Heap} {locs : List Loc} {cells slots : Nat} {Q : State → Prop}
variable {mc ms : Nat} {free : Addr → Prop} {A0 A1 : Nat → Prop} {H0 : Heap} {a : Array Value} {ls : Array Slot} {st0 rest : List Value}
variable {Qc : Array Value → State → Outcome → State → Prop} {XC : String → State → State → Prop}
/-- what a body that may throw owes at its end -/
def vx_MQ (below : List Frame) (Qc : Array Value → State → Outcome → State → Prop) (XC : String → State → State → Prop) (a : Array Value) (s : State) (mc ms : Nat) (free : Addr → Prop) : State → Prop := fun t =>
  ∃ o, t.status = .running ∧ Ended t below o ∧ vx_Q Qc XC mc ms free a s o t
theorem vx_ret {g : JFrame} {mc ms : Nat} (k : W p l e R s m args below meth c H locs cells slots (MQ below Qc args s mc ms free) g) : W p l e R s m args below meth c H locs cells slots (vx_MQ below Qc XC args s mc ms free) g := by
  intro T hT X
  obtain ⟨t, a1, o, b1, b2, b3, b4⟩ := k T hT X
  exact ⟨t, a1, o, b1, b2, Or.inl ⟨b3, b4⟩⟩
/-- not caught here: it goes on to the caller -/
theorem vx_widen {g : JFrame} {q : Addr} {k n : Nat} (h1 : cells ≤ k) (h2 : slots ≤ n) (kk : vx_W p l e R s m args below meth c H locs k n Q g q) : vx_W p l e R s m args below meth c H locs cells slots Q g q := fun T hT X => kk T hT (stand_widen X h1 h2)
theorem vx_out {pc : Nat} {E : String} {ce : Cell} {q : Addr} {mc ms : Nat} (hout : ∀ x ∈ c.exceptionTable.toList, covers x pc = false) (hlocks : meth.locks = false) (hcell : H[q]? = some ce) (hv : ce.vm = .none) (hcl : s.vm.findClass E = some ce.cls)
    (hx : ∀ t : State, t.heap = H → s.vm.Alike t.vm → XC E s t) (hf : ∀ z ∈ locs, free z.base) (hc : cells ≤ mc) (hs : slots ≤ ms) :
    vx_W p l e R s m args below meth c H locs cells slots (vx_MQ below Qc XC args s mc ms free) (F0 m pc ls rest) q := by
  intro T hT X
  obtain ⟨st1, hrun, hend, hW, hsm⟩ := X.leaveThrown q (g := F0 m pc ls rest) rfl rfl rfl hout hlocks
  have hcell9 : (T.setFrames (.throwing q :: below)).heap[q]? = some ce := by
    show T.heap[q]? = some ce
    rw [hT]; exact hcell
  exact ⟨_, st1, .threw q, hrun, hend, Or.inr ⟨q, rfl, E, ce, locs, hx _ hT hW.alike, hcell9, hv, hcl, hW, hsm.mono hc hs, hf⟩⟩
theorem vx_frame {U : State} {k n : Nat} (h : s.sameButNew ({ U with vm := s.vm } : State) locs k n) : s.heap.size ≤ U.heap.size ∧ ∀ q : Nat, q < s.heap.size → (∀ z ∈ locs, z.base ≠ q) → U.heap[q]? = s.heap[q]? := by
  obtain ⟨-, h2, -, -, -, h6⟩ := h
  refine ⟨h2, fun q hq hz => ?_⟩
  obtain ⟨c9, e1, e2, e3, e4⟩ := h6 q _ (Array.getElem?_eq_getElem hq)
  have hs : c9.slots = (s.heap[q]).slots := Array.ext_getElem? fun i => e4 i fun hm => hz _ hm rfl
  have h9 : c9 = s.heap[q] := by
    rw [hs] at e2
    exact e2
  have e5 : U.heap[q]? = some c9 := e1
  rw [e5, h9, Array.getElem?_eq_getElem hq]
/-- the words of a throw but the four that speak of the heap -/
def vx_no (w : Cond) : Bool := decide (w ≠ .isRef (.static Bundle.tN "UNASSIGNED_STACK" Bundle.steD)) && decide (w ≠ .isRef (.static Bundle.tN "SUPPRESSED_SENTINEL" Bundle.listD)) && decide (w ≠ .laysStatic Bundle.tN "UNASSIGNED_STACK" Bundle.steD) && decide (w ≠ .laysStatic Bundle.tN "SUPPRESSED_SENTINEL" Bundle.listD)
def vx_at0 (own : String) (ic : Nat) (X : String) (names : List String) : List Cond := (Bundle.ownAtoms0 own ic X names).filter vx_no
def vx_atS (own : String) (ic : Nat) (X : String) (names : List String) : List Cond := (Bundle.ownAtoms own ic X names).filter vx_no
/-- a word that the tables alone decide, or a good one -/
def vx_ot (w : Cond) : Bool := w.onTables || goodWord w
theorem vx_ot_at {args a' : Array Value} {s U : State} {w : Cond} (hW : s.WarmedH U.vm) (hvm : s.vm = U.vm) (hg : vx_ot w = true) (h : w.before args s = true) : w.before a' U = true := by
  simp only [vx_ot, Bool.or_eq_true] at hg
  rcases hg with hg | hg
  · exact va_tabs hg hvm h
  · exact word_at hW (good_of_word hg) h
/-- a list's words: the good ones out of the method's own list, the others by premises of their own -/
theorem vx_hat {args : Array Value} {s : State} {L B : List Cond} (h1 : ∀ w ∈ L.filter goodWord, w.before args s = true) (h2 : ∀ w ∈ L.filter (fun w => !goodWord w), w ∈ B) (h3 : ∀ w ∈ B, w.before args s = true) : ∀ w ∈ L, w.before args s = true := by
  intro w hw
  by_cases g : goodWord w = true
  · exact h1 w (List.mem_filter.mpr ⟨hw, g⟩)
  · refine h3 w (h2 w (List.mem_filter.mpr ⟨hw, ?_⟩))
    show (!goodWord w) = true
    cases hgw : goodWord w
    · rfl
    · exact absurd hgw g
theorem vx_c {args : Array Value} {s : State} {w : Cond} {B : List Cond} (h : w.before args s = true) (t : ∀ w ∈ B, w.before args s = true) : ∀ w' ∈ w :: B, w'.before args s = true := fun w' h' => (List.mem_cons.mp h').elim (fun e => by rw [e]; exact h) (t w')
theorem vx_n {args : Array Value} {s : State} : ∀ w ∈ ([] : List Cond), w.before args s = true := fun _ h => nomatch h
theorem vx_own {args : Array Value} {s : State} {L : List Cond} (h1 : ∀ w ∈ L.filter vx_no, w.before args s = true)
    (hU : (Cond.isRef (.static Bundle.tN "UNASSIGNED_STACK" Bundle.steD)).before args s = true) (hN : (Cond.isRef (.static Bundle.tN "SUPPRESSED_SENTINEL" Bundle.listD)).before args s = true)
    (lU : (Cond.laysStatic Bundle.tN "UNASSIGNED_STACK" Bundle.steD).before args s = true) (lN : (Cond.laysStatic Bundle.tN "SUPPRESSED_SENTINEL" Bundle.listD).before args s = true) : ∀ w ∈ L, w.before args s = true := by
  intro w hw
  by_cases e1 : w = .isRef (.static Bundle.tN "UNASSIGNED_STACK" Bundle.steD)
  · rw [e1]; exact hU
  · by_cases e2 : w = .isRef (.static Bundle.tN "SUPPRESSED_SENTINEL" Bundle.listD)
    · rw [e2]; exact hN
    · by_cases e3 : w = .laysStatic Bundle.tN "UNASSIGNED_STACK" Bundle.steD
      · rw [e3]; exact lU
      · by_cases e4 : w = .laysStatic Bundle.tN "SUPPRESSED_SENTINEL" Bundle.listD
        · rw [e4]; exact lN
        · exact h1 w (List.mem_filter.mpr ⟨hw, by unfold vx_no; rw [decide_eq_true e1, decide_eq_true e2, decide_eq_true e3, decide_eq_true e4]; rfl⟩)
/-- where a static field lies, its class's statics cell in H -/
def vx_L (C n d : String) (A : Nat → Prop) (U : State) (H : Heap) : Prop := ∃ (c : ClassId) (k : Class) (i : Nat) (f : Field) (a : Nat) (cell : Cell), U.vm.findClass C = some c ∧ U.fieldFound? C n d = some (c, k, i, f) ∧ f.isStatic = true ∧ k.statics = some a ∧ H[a]? = some cell ∧ cell.vm.isStatics = true ∧ cell.cls = c ∧ f.slot < cell.slots.size ∧ k.staticTypes[f.slot]? = some f.type ∧ ¬ A a
theorem vx_L.moved {C n d : String} {A : Nat → Prop} {u U : State} {H : Heap} (hvm : u.vm.Alike U.vm) (h : vx_L C n d A u H) : vx_L C n d A U H := by
  obtain ⟨c, k, i, f, a, cell, h1, h2, h3, h4, h5, h6, h7, h8, h9, h10⟩ := h
  obtain ⟨k', hi', he⟩ := State.fieldFound?_setVm hvm h2
  exact ⟨c, k', i, f, a, cell, by rw [hvm.findClass]; exact h1, hi', h3, by rw [he]; exact h4, h5, h6, h7, h8, by rw [he]; exact h9, h10⟩
theorem vx_L.kept {C n d : String} {A : Nat → Prop} {U : State} {H H1 : Heap} (h : vx_L C n d A U H) (hq : ∀ a : Nat, a < H.size → ¬ A a → H1[a]? = H[a]?) : vx_L C n d A U H1 := by
  obtain ⟨c, k, i, f, a, cell, h1, h2, h3, h4, h5, h6, h7, h8, h9, h10⟩ := h
  exact ⟨c, k, i, f, a, cell, h1, h2, h3, h4, by rw [hq a (Array.getElem?_eq_some_iff.mp h5).1 h10]; exact h5, h6, h7, h8, h9, h10⟩
theorem vx_L.narrow {C n d : String} {A B : Nat → Prop} {U : State} {H : Heap} (h : vx_L C n d A U H) (hAB : ∀ q, B q → A q) : vx_L C n d B U H := by
  obtain ⟨c, k, i, f, a, cell, h1, h2, h3, h4, h5, h6, h7, h8, h9, h10⟩ := h
  exact ⟨c, k, i, f, a, cell, h1, h2, h3, h4, h5, h6, h7, h8, h9, fun z => h10 (hAB _ z)⟩
theorem vx_L.word {C n d : String} {A : Nat → Prop} {s : State} {args : Array Value} (h : vx_L C n d A s s.heap) : (Cond.laysStatic C n d).before args s = true := by
  obtain ⟨c, k, i, f, a, cell, h1, h2, h3, h4, h5, h6, h7, h8, h9, -⟩ := h
  show (Cond.laysStatic C n d).holds args s none s [] = true
  exact Cond.laysStatic_of h1 h2 h3 h4 h5 h6 h7 h8 h9
/-- .. and what it holds: null or some reference -/
def vx_Zq (C n d : String) (A : Nat → Prop) (U : State) (H : Heap) : Prop := va_Zq C n d A U H ∧ vx_L C n d A U H
theorem vx_Zq.moved {C n d : String} {A : Nat → Prop} {u U : State} {H : Heap} (hvm : u.vm.Alike U.vm) (h : vx_Zq C n d A u H) : vx_Zq C n d A U H := ⟨va_Zq.moved hvm h.1, vx_L.moved hvm h.2⟩
theorem vx_Zq.kept {C n d : String} {A : Nat → Prop} {U : State} {H H1 : Heap} (h : vx_Zq C n d A U H) (hq : ∀ a : Nat, a < H.size → ¬ A a → H1[a]? = H[a]?) : vx_Zq C n d A U H1 := ⟨va_Zq.kept h.1 hq, vx_L.kept h.2 hq⟩
theorem vx_Zq.narrow {C n d : String} {A B : Nat → Prop} {U : State} {H : Heap} (h : vx_Zq C n d A U H) (hAB : ∀ q, B q → A q) : vx_Zq C n d B U H := ⟨va_Zq.narrow h.1 hAB, vx_L.narrow h.2 hAB⟩
theorem vx_Zqof {args : Array Value} {s : State} {C n d : String} {A : Nat → Prop} (hl : (Cond.laysStatic C n d).before args s = true) (hini : (Cond.initialized C).before args s = true) (h : (Cond.isRef (.static C n d)).before args s = true) (hA : ∀ a : Nat, a < s.heap.size → ¬ A a) : vx_Zq C n d A s s.heap := by
  refine ⟨va_Zqof hl hini h hA, ?_⟩
  obtain ⟨c, k, i, f, a, cell, h1, h2, h3, h4, h5, h6, h7, h8, h9⟩ := Cond.laysStatic_spec hl
  exact ⟨c, k, i, f, a, cell, h1, h2, h3, h4, h5, h6, h7, h8, h9, hA a (Array.getElem?_eq_some_iff.mp h5).1⟩
theorem vx_isRef {C n d : String} {v : Value} {A : Nat → Prop} {s : State} {args : Array Value} (h : va_Z C n d v A s s.heap) (hv : v.isRef = true) : (Cond.isRef (.static C n d)).before args s = true := by
  obtain ⟨cf, kf, fi, f, a, cell, h1, h2, h3, h4, h5, h6, h7, -⟩ := h
  have he : (Term.static C n d).eval args s none [] s = some v := by
    simp [Term.eval, State.fieldNamed?, h1, h2, h4, h5, h6, h7]
  simp only [Cond.before, Cond.holds, Cond.value, he]
  cases v <;> simp_all [Value.isRef]
theorem vx_isRefq {C n d : String} {A : Nat → Prop} {s : State} {args : Array Value} (h : va_Zq C n d A s s.heap) : (Cond.isRef (.static C n d)).before args s = true := by
  rcases h with h | ⟨t, h⟩
  · exact vx_isRef h rfl
  · exact vx_isRef h rfl
/-- the same frame, seen from here: as if the method were called anew in this heap -/
theorem vx_rebase {T : State} (X : Stand p l e R s m args below meth c T locs cells slots) {R' : Room} (hf : R'.frames ≤ R.frames) (hl : R'.locals ≤ R.locals) (hc : cells + R'.cells ≤ R.cells) (hs : slots + R'.slots ≤ R.slots) :
    Stand p l e R' ((T.setVm s.vm).setFrames (.invoking m args :: below)) m args below meth c T [] 0 0 := by
  have htop : (T.setVm s.vm).topJava?.isSome := X.here.top
  have hF : ((T.setVm s.vm).setFrames (.invoking m args :: below)).frames = .invoking m args :: below := State.frames_setFrames _ (State.cur_lt_of_top htop)
  obtain ⟨g₀, hg0⟩ := Option.isSome_iff_exists.mp htop
  obtain ⟨r, hr⟩ := State.topJava?_eq_some.mp hg0
  have hl9 : e.platform.stackLimits (T.setVm s.vm).me = e.platform.stackLimits s.me := X.limits
  have hb9 : (T.setVm s.vm).me.stackBytes = s.me.stackBytes := X.bytes
  refine ⟨X.admits, X.cas, X.clock, hF, ?_, X.hears, X.method, X.code, X.here, X.tail, X.warmed, ?_, ?_, ?_⟩
  · have h := X.room
    have hU : ((T.setVm s.vm).setFrames (.invoking m args :: below)).localsInUse = s.localsInUse := by
      rw [State.localsInUse_invoking hF (meth := meth) (c := c) X.method X.code, State.localsInUse_invoking X.frames X.method X.code]
    simp only [State.hasRoom, Bool.and_eq_true, decide_eq_true_eq] at h ⊢
    obtain ⟨⟨⟨⟨h1, h2, h3, h4, h5, h6⟩, h7⟩, h8⟩, h9⟩ := h
    rw [X.frames, List.length_cons] at h2 h3
    have q1 := X.heapSize
    have q2 := X.used
    simp only [hF, hU, List.length_cons, State.stackLimits_setFrames, State.stackBytes_setFrames, hl9, hb9]
    refine ⟨⟨⟨⟨by omega, by omega, by omega, by omega, by omega, h6⟩, ?_⟩, ?_⟩, X.book⟩
    · show T.heap.size + R'.cells ≤ e.platform.maxCells
      omega
    · show T.slotsUsed + R'.slots ≤ e.platform.maxSlots
      omega
  · rw [State.stackLimits_setFrames]; rfl
  · rw [State.stackBytes_setFrames]; rfl
  · refine ⟨?_, Nat.le_refl _, Nat.le_refl _, ?_, ?_, fun a c9 h9 => ⟨c9, h9, rfl, rfl, fun _ _ => rfl⟩⟩
    · obtain ⟨t, ht, -⟩ := State.frames_cons hr
      show T.setVm s.vm = { ((T.setVm s.vm).setFrames (.invoking m args :: below)).setFrames (T.setVm s.vm).frames with heap := T.heap, slotsUsed := T.slotsUsed }
      rw [State.setFrames_setFrames, State.setFrames_self ht]
      rfl
    · show T.slotsUsed = T.slotsUsed + ((T.heap.toList.drop T.heap.size).map (·.slots.size)).sum
      rw [List.drop_eq_nil_of_le (Nat.le_of_eq Array.length_toList)]
      rfl
    · show ((T.heap.toList.drop T.heap.size).map (·.slots.size)).sum ≤ 0
      rw [List.drop_eq_nil_of_le (Nat.le_of_eq Array.length_toList)]
      exact Nat.le_refl _
/-- 'throw new E()': new; dup; invokespecial; athrow -/
theorem vx_throw0 {cc : ByteArray} {pc : Nat} (hexec : p.tables.exec = Jvm.exec) (hb : c.code = cc) (hl : l.stackTraces = false) {own cls : String} {names : List String} {ik ic mc ms : Nat} {A : Nat → Prop}
    (hown : s.vm.findClass own = some m.cls) (hcls : Bundle.fit cls = true) (hnames : ∀ n ∈ names, Bundle.fit n = true)
    (hk : (Cond.classLink own ik cls).before args s = true) (hini : (Cond.initialized cls).before args s = true) (hat : ∀ w ∈ vx_at0 own ic cls names, w.before args s = true)
    (hgood : ∀ w ∈ Cond.classLink own ik cls :: Cond.initialized cls :: vx_at0 own ic cls names, vx_ot w = true)
    (hU : vx_Zq Bundle.tN "UNASSIGNED_STACK" Bundle.steD A s s.heap) (hN : vx_Zq Bundle.tN "SUPPRESSED_SENTINEL" Bundle.listD A s s.heap) (hS : va_S A s.heap H locs) (hsize : ls.size = c.maxLocals)
    (d0 : decode cc pc = .ok (.new ik, 3)) (d3 : decode cc (pc + 3) = .ok (.dup, 1)) (d4 : decode cc (pc + 4) = .ok (.invokespecial ic, 3)) (d7 : decode cc (pc + 7) = .ok (.athrow, 1))
    (hout : ∀ x ∈ c.exceptionTable.toList, covers x (pc + 7) = false)
    (hRframes : names.length + 3 < R.frames) (hRlocals : (rest.map fun v => v.category).sum + (13 * (names.length + 1) + 42) ≤ R.locals) (hRcells : cells + 1 ≤ R.cells) (hRslots : slots + 6 ≤ R.slots) (hlocks : meth.locks = false)
    (hx : ∀ t : State, s.vm.Alike t.vm → H.size ≤ t.heap.size → (∀ q : Nat, q < H.size → t.heap[q]? = H[q]?) → XC cls s t)
    (hf : ∀ z ∈ locs, free z.base) (hc : cells + 1 ≤ mc) (hs : slots + 6 ≤ ms) :
    W p l e R s m args below meth c H locs cells slots (vx_MQ below Qc XC args s mc ms free) (F0 m pc ls rest) := by
  intro T hT X
  have htr : e.platform.stackTraces = false := (show e.platform.stackTraces = l.stackTraces by rw [X.admits.platform]).trans hl
  have Y := vx_rebase X (R' := { frames := R.frames, locals := R.locals, cells := 1, slots := 6 }) (Nat.le_refl _) (Nat.le_refl _) hRcells hRslots
  obtain ⟨s', hA⟩ : ∃ z, z = (T.setVm s.vm).setFrames (.invoking m args :: below) := ⟨_, rfl⟩
  rw [← hA] at Y
  have hvm : s'.vm = s.vm := by rw [hA]; rfl
  have hhp : s'.heap = H := by rw [hA]; exact hT
  have hW0 : s.WarmedH s'.vm := by rw [hvm]; exact State.WarmedH.refl s
  have hat' : ∀ w ∈ vx_at0 own ic cls names, w.before args s' = true := fun w hw => vx_ot_at hW0 hvm.symm (hgood w (List.mem_cons_of_mem _ (List.mem_cons_of_mem _ hw))) (hat w hw)
  have hk' : (Cond.classLink own ik cls).before args s' = true := vx_ot_at hW0 hvm.symm (hgood _ List.mem_cons_self) hk
  have hini' : (Cond.initialized cls).before args s' = true := vx_ot_at hW0 hvm.symm (hgood _ (List.mem_cons_of_mem _ List.mem_cons_self)) hini
  have hU' : vx_Zq Bundle.tN "UNASSIGNED_STACK" Bundle.steD A s' s'.heap := by rw [hhp]; exact vx_Zq.moved hW0.alike (hU.kept hS.2.1)
  have hN' : vx_Zq Bundle.tN "SUPPRESSED_SENTINEL" Bundle.listD A s' s'.heap := by rw [hhp]; exact vx_Zq.moved hW0.alike (hN.kept hS.2.1)
  have h : ∀ w ∈ Bundle.ownAtoms0 own ic cls names, w.before args s' = true := vx_own hat' (vx_isRefq hU'.1) (vx_isRefq hN'.1) hU'.2.word hN'.2.word
  have hown' : s'.vm.findClass own = some m.cls := by rw [hvm]; exact hown
  have hins : (Cond.instantiable cls 6).before args s' = true := h _ (by simp [Bundle.ownAtoms0])
  obtain ⟨vm₁, cX, kX, hfX, hkX, -, -, X₁, st1⟩ := Y.newCold hexec (own := own) (C := cls) (index := ik) (n := 6) hown' hk' hins hini'
    (g := F0 m pc ls rest) rfl (by rw [hb]; exact d0) (Nat.le_refl _) (Nat.le_refl _)
  generalize hT1 : (T.setVm vm₁).pushCell { cls := cX, slots := kX.instanceTypes.map defaultValue, vm := .none } = T1 at X₁ st1
  have hcat : (Value.ref T.heap.size).category = 1 := rfl
  have hcellA : T1.heap[T.heap.size]? = some (freshCell cX kX) := by rw [← hT1]; exact State.heap_pushCell_size _ _
  have d3' : decode c.code (pc + 3) = .ok (.dup, 1) := by rw [hb]; exact d3
  obtain ⟨U, hsteps, hrun, hend, hW, hsame, ce, hce, hO⟩ := X₁.ctorThrow0 hexec htr (own := own) (cls := cls) (names := names) (ic := ic) hown' hcls hnames h (fun x hx => nomatch hx) hfX hkX hcellA (by rw [hhp, hT]; exact Nat.le_refl _)
    (g := { method := m, pc := pc + 4, locals := ls, stack := .ref T.heap.size :: .ref T.heap.size :: rest, locked := none }) rfl hsize rfl rfl (rest := rest) rfl
    (by rw [hb]; exact d4) (by rw [hb]; exact d7) hout hRframes (by simp only [List.map_cons, List.sum_cons, hcat]; omega) hlocks
  obtain ⟨f1, f2⟩ := vx_frame hsame
  rw [hhp] at f1 f2
  have hWs : s.WarmedH U.vm := State.WarmedH.trans hW0 hW
  have hcl : s.vm.findClass cls = some ce.cls := by
    have h9 := hO.cls
    rw [hvm] at h9
    exact h9
  have hall : s.sameButNew ({ U with vm := s.vm } : State) locs mc ms := by
    subst hA
    obtain ⟨e1, e2⟩ := hsame
    rw [State.setFrames_setFrames] at e1
    have h2 : (T.setVm s.vm).sameButNew ({ U with vm := s.vm } : State) [] (0 + 1) (0 + 6) := ⟨e1, e2⟩
    have h3 := X.same.trans h2
    rw [List.append_nil] at h3
    exact h3.mono hc hs
  refine ⟨U, ?_, .threw T.heap.size, hrun, hend, Or.inr ⟨T.heap.size, rfl, cls, ce, locs, hx U hWs.alike f1 (fun q hq => f2 q hq (fun z hz => nomatch hz)), hce, hO.vm, hcl, hWs, hall, hf⟩⟩
  refine st1 _ ?_
  show Steps p.tables e below (T1.setTop { method := m, pc := pc + 3, locals := ls, stack := .ref T.heap.size :: rest, locked := none }) _
  jvm_step X₁.here [X₁.here.top, hexec, d3', Value.category]
  exact hsteps
/-- 'throw new E("text")': new; dup; ldc; invokespecial; athrow -/
theorem vx_throwS {cc : ByteArray} {pc : Nat} (hexec : p.tables.exec = Jvm.exec) (hb : c.code = cc) (hl : l.stackTraces = false) {own cls text : String} {names : List String} {ik is ic mc ms sa : Nat} {A : Nat → Prop}
    (hown : s.vm.findClass own = some m.cls) (hcls : Bundle.fit cls = true) (hnames : ∀ n ∈ names, Bundle.fit n = true)
    (hk : (Cond.classLink own ik cls).before args s = true) (hini : (Cond.initialized cls).before args s = true) (hstr : vk_R own is text sa s) (hat : ∀ w ∈ vx_atS own ic cls names, w.before args s = true)
    (hgood : ∀ w ∈ Cond.classLink own ik cls :: Cond.initialized cls :: vx_atS own ic cls names, vx_ot w = true)
    (hU : vx_Zq Bundle.tN "UNASSIGNED_STACK" Bundle.steD A s s.heap) (hN : vx_Zq Bundle.tN "SUPPRESSED_SENTINEL" Bundle.listD A s s.heap) (hS : va_S A s.heap H locs) (hsize : ls.size = c.maxLocals)
    (d0 : decode cc pc = .ok (.new ik, 3)) (d3 : decode cc (pc + 3) = .ok (.dup, 1)) (d4 : decode cc (pc + 4) = .ok (.ldc is, 2)) (d6 : decode cc (pc + 6) = .ok (.invokespecial ic, 3)) (d9 : decode cc (pc + 9) = .ok (.athrow, 1))
    (hout : ∀ x ∈ c.exceptionTable.toList, covers x (pc + 9) = false)
    (hRframes : names.length + 3 < R.frames) (hRlocals : (rest.map fun v => v.category).sum + (13 * (names.length + 1) + 43) ≤ R.locals) (hRcells : cells + 1 ≤ R.cells) (hRslots : slots + 6 ≤ R.slots) (hlocks : meth.locks = false)
    (hx : ∀ t : State, s.vm.Alike t.vm → H.size ≤ t.heap.size → (∀ q : Nat, q < H.size → t.heap[q]? = H[q]?) → XC cls s t)
    (hf : ∀ z ∈ locs, free z.base) (hc : cells + 1 ≤ mc) (hs : slots + 6 ≤ ms) :
    W p l e R s m args below meth c H locs cells slots (vx_MQ below Qc XC args s mc ms free) (F0 m pc ls rest) := by
  intro T hT X
  have htr : e.platform.stackTraces = false := (show e.platform.stackTraces = l.stackTraces by rw [X.admits.platform]).trans hl
  have Y := vx_rebase X (R' := { frames := R.frames, locals := R.locals, cells := 1, slots := 6 }) (Nat.le_refl _) (Nat.le_refl _) hRcells hRslots
  obtain ⟨s', hA⟩ : ∃ z, z = (T.setVm s.vm).setFrames (.invoking m args :: below) := ⟨_, rfl⟩
  rw [← hA] at Y
  have hvm : s'.vm = s.vm := by rw [hA]; rfl
  have hhp : s'.heap = H := by rw [hA]; exact hT
  have hW0 : s.WarmedH s'.vm := by rw [hvm]; exact State.WarmedH.refl s
  have hat' : ∀ w ∈ vx_atS own ic cls names, w.before args s' = true := fun w hw => vx_ot_at hW0 hvm.symm (hgood w (List.mem_cons_of_mem _ (List.mem_cons_of_mem _ hw))) (hat w hw)
  have hk' : (Cond.classLink own ik cls).before args s' = true := vx_ot_at hW0 hvm.symm (hgood _ List.mem_cons_self) hk
  have hini' : (Cond.initialized cls).before args s' = true := vx_ot_at hW0 hvm.symm (hgood _ (List.mem_cons_of_mem _ List.mem_cons_self)) hini
  have hU' : vx_Zq Bundle.tN "UNASSIGNED_STACK" Bundle.steD A s' s'.heap := by rw [hhp]; exact vx_Zq.moved hW0.alike (hU.kept hS.2.1)
  have hN' : vx_Zq Bundle.tN "SUPPRESSED_SENTINEL" Bundle.listD A s' s'.heap := by rw [hhp]; exact vx_Zq.moved hW0.alike (hN.kept hS.2.1)
  have h : ∀ w ∈ Bundle.ownAtoms own ic cls names, w.before args s' = true := vx_own hat' (vx_isRefq hU'.1) (vx_isRefq hN'.1) hU'.2.word hN'.2.word
  have hown' : s'.vm.findClass own = some m.cls := by rw [hvm]; exact hown
  have hins : (Cond.instantiable cls 6).before args s' = true := h _ (by simp [Bundle.ownAtoms])
  obtain ⟨vm₁, cX, kX, hfX, hkX, -, -, X₁, st1⟩ := Y.newCold hexec (own := own) (C := cls) (index := ik) (n := 6) hown' hk' hins hini'
    (g := F0 m pc ls rest) rfl (by rw [hb]; exact d0) (Nat.le_refl _) (Nat.le_refl _)
  generalize hT1 : (T.setVm vm₁).pushCell { cls := cX, slots := kX.instanceTypes.map defaultValue, vm := .none } = T1 at X₁ st1
  have hcat : (Value.ref T.heap.size).category = 1 := rfl
  have hcellA : T1.heap[T.heap.size]? = some (freshCell cX kX) := by rw [← hT1]; exact State.heap_pushCell_size _ _
  have d3' : decode c.code (pc + 3) = .ok (.dup, 1) := by rw [hb]; exact d3
  have d4' : decode c.code (pc + 4) = .ok (.ldc is, 2) := by rw [hb]; exact d4
  have hstr' : vk_R own is text sa s' := vk_R.warm hW0 hstr
  obtain ⟨U, hsteps, hrun, hend, hW, hsame, ce, hce, hO⟩ := X₁.ctorThrowS hexec htr (own := own) (cls := cls) (names := names) (ic := ic) hown' hcls hnames h (fun x hx => nomatch hx) hfX hkX hcellA (by rw [hhp, hT]; exact Nat.le_refl _) (msg := .ref sa) rfl
    (g := { method := m, pc := pc + 6, locals := ls, stack := .ref sa :: .ref T.heap.size :: .ref T.heap.size :: rest, locked := none }) rfl hsize rfl rfl (rest := rest) rfl
    (by rw [hb]; exact d6) (by rw [hb]; exact d9) hout hRframes (by simp only [List.map_cons, List.sum_cons, hcat]; omega) hlocks
  obtain ⟨f1, f2⟩ := vx_frame hsame
  rw [hhp] at f1 f2
  have hWs : s.WarmedH U.vm := State.WarmedH.trans hW0 hW
  have hcl : s.vm.findClass cls = some ce.cls := by
    have h9 := hO.cls
    rw [hvm] at h9
    exact h9
  have hall : s.sameButNew ({ U with vm := s.vm } : State) locs mc ms := by
    subst hA
    obtain ⟨e1, e2⟩ := hsame
    rw [State.setFrames_setFrames] at e1
    have h2 : (T.setVm s.vm).sameButNew ({ U with vm := s.vm } : State) [] (0 + 1) (0 + 6) := ⟨e1, e2⟩
    have h3 := X.same.trans h2
    rw [List.append_nil] at h3
    exact h3.mono hc hs
  refine ⟨U, ?_, .threw T.heap.size, hrun, hend, Or.inr ⟨T.heap.size, rfl, cls, ce, locs, hx U hWs.alike f1 (fun q hq => f2 q hq (fun z hz => nomatch hz)), hce, hO.vm, hcl, hWs, hall, hf⟩⟩
  refine st1 _ ?_
  show Steps p.tables e below (T1.setTop { method := m, pc := pc + 3, locals := ls, stack := .ref T.heap.size :: rest, locked := none }) _
  jvm_step X₁.here [X₁.here.top, hexec, d3', Value.category]
  exact X₁.ldcString hexec (own := own) (text := text) (index := is) (a := sa) hown' hstr'.1 hstr'.2
    (g := { method := m, pc := pc + 4, locals := ls, stack := .ref T.heap.size :: .ref T.heap.size :: rest, locked := none }) rfl d4' _ hsteps
/-- 'throw new E("text")', the text by a wide index -/
theorem vx_throwSW {cc : ByteArray} {pc : Nat} (hexec : p.tables.exec = Jvm.exec) (hb : c.code = cc) (hl : l.stackTraces = false) {own cls text : String} {names : List String} {ik is ic mc ms sa : Nat} {A : Nat → Prop}
    (hown : s.vm.findClass own = some m.cls) (hcls : Bundle.fit cls = true) (hnames : ∀ n ∈ names, Bundle.fit n = true)
    (hk : (Cond.classLink own ik cls).before args s = true) (hini : (Cond.initialized cls).before args s = true) (hstr : vk_R own is text sa s) (hat : ∀ w ∈ vx_atS own ic cls names, w.before args s = true)
    (hgood : ∀ w ∈ Cond.classLink own ik cls :: Cond.initialized cls :: vx_atS own ic cls names, vx_ot w = true)
    (hU : vx_Zq Bundle.tN "UNASSIGNED_STACK" Bundle.steD A s s.heap) (hN : vx_Zq Bundle.tN "SUPPRESSED_SENTINEL" Bundle.listD A s s.heap) (hS : va_S A s.heap H locs) (hsize : ls.size = c.maxLocals)
    (d0 : decode cc pc = .ok (.new ik, 3)) (d3 : decode cc (pc + 3) = .ok (.dup, 1)) (d4 : decode cc (pc + 4) = .ok (.ldc_w is, 3)) (d7 : decode cc (pc + 7) = .ok (.invokespecial ic, 3)) (d10 : decode cc (pc + 10) = .ok (.athrow, 1))
    (hout : ∀ x ∈ c.exceptionTable.toList, covers x (pc + 10) = false)
    (hRframes : names.length + 3 < R.frames) (hRlocals : (rest.map fun v => v.category).sum + (13 * (names.length + 1) + 43) ≤ R.locals) (hRcells : cells + 1 ≤ R.cells) (hRslots : slots + 6 ≤ R.slots) (hlocks : meth.locks = false)
    (hx : ∀ t : State, s.vm.Alike t.vm → H.size ≤ t.heap.size → (∀ q : Nat, q < H.size → t.heap[q]? = H[q]?) → XC cls s t)
    (hf : ∀ z ∈ locs, free z.base) (hc : cells + 1 ≤ mc) (hs : slots + 6 ≤ ms) :
    W p l e R s m args below meth c H locs cells slots (vx_MQ below Qc XC args s mc ms free) (F0 m pc ls rest) := by
  intro T hT X
  have htr : e.platform.stackTraces = false := (show e.platform.stackTraces = l.stackTraces by rw [X.admits.platform]).trans hl
  have Y := vx_rebase X (R' := { frames := R.frames, locals := R.locals, cells := 1, slots := 6 }) (Nat.le_refl _) (Nat.le_refl _) hRcells hRslots
  obtain ⟨s', hA⟩ : ∃ z, z = (T.setVm s.vm).setFrames (.invoking m args :: below) := ⟨_, rfl⟩
  rw [← hA] at Y
  have hvm : s'.vm = s.vm := by rw [hA]; rfl
  have hhp : s'.heap = H := by rw [hA]; exact hT
  have hW0 : s.WarmedH s'.vm := by rw [hvm]; exact State.WarmedH.refl s
  have hat' : ∀ w ∈ vx_atS own ic cls names, w.before args s' = true := fun w hw => vx_ot_at hW0 hvm.symm (hgood w (List.mem_cons_of_mem _ (List.mem_cons_of_mem _ hw))) (hat w hw)
  have hk' : (Cond.classLink own ik cls).before args s' = true := vx_ot_at hW0 hvm.symm (hgood _ List.mem_cons_self) hk
  have hini' : (Cond.initialized cls).before args s' = true := vx_ot_at hW0 hvm.symm (hgood _ (List.mem_cons_of_mem _ List.mem_cons_self)) hini
  have hU' : vx_Zq Bundle.tN "UNASSIGNED_STACK" Bundle.steD A s' s'.heap := by rw [hhp]; exact vx_Zq.moved hW0.alike (hU.kept hS.2.1)
  have hN' : vx_Zq Bundle.tN "SUPPRESSED_SENTINEL" Bundle.listD A s' s'.heap := by rw [hhp]; exact vx_Zq.moved hW0.alike (hN.kept hS.2.1)
  have h : ∀ w ∈ Bundle.ownAtoms own ic cls names, w.before args s' = true := vx_own hat' (vx_isRefq hU'.1) (vx_isRefq hN'.1) hU'.2.word hN'.2.word
  have hown' : s'.vm.findClass own = some m.cls := by rw [hvm]; exact hown
  have hins : (Cond.instantiable cls 6).before args s' = true := h _ (by simp [Bundle.ownAtoms])
  obtain ⟨vm₁, cX, kX, hfX, hkX, -, -, X₁, st1⟩ := Y.newCold hexec (own := own) (C := cls) (index := ik) (n := 6) hown' hk' hins hini'
    (g := F0 m pc ls rest) rfl (by rw [hb]; exact d0) (Nat.le_refl _) (Nat.le_refl _)
  generalize hT1 : (T.setVm vm₁).pushCell { cls := cX, slots := kX.instanceTypes.map defaultValue, vm := .none } = T1 at X₁ st1
  have hcat : (Value.ref T.heap.size).category = 1 := rfl
  have hcellA : T1.heap[T.heap.size]? = some (freshCell cX kX) := by rw [← hT1]; exact State.heap_pushCell_size _ _
  have d3' : decode c.code (pc + 3) = .ok (.dup, 1) := by rw [hb]; exact d3
  have d4' : decode c.code (pc + 4) = .ok (.ldc_w is, 3) := by rw [hb]; exact d4
  have hstr' : vk_R own is text sa s' := vk_R.warm hW0 hstr
  obtain ⟨U, hsteps, hrun, hend, hW, hsame, ce, hce, hO⟩ := X₁.ctorThrowS hexec htr (own := own) (cls := cls) (names := names) (ic := ic) hown' hcls hnames h (fun x hx => nomatch hx) hfX hkX hcellA (by rw [hhp, hT]; exact Nat.le_refl _) (msg := .ref sa) rfl
    (g := { method := m, pc := pc + 7, locals := ls, stack := .ref sa :: .ref T.heap.size :: .ref T.heap.size :: rest, locked := none }) rfl hsize rfl rfl (rest := rest) rfl
    (by rw [hb]; exact d7) (by rw [hb]; exact d10) hout hRframes (by simp only [List.map_cons, List.sum_cons, hcat]; omega) hlocks
  obtain ⟨f1, f2⟩ := vx_frame hsame
  rw [hhp] at f1 f2
  have hWs : s.WarmedH U.vm := State.WarmedH.trans hW0 hW
  have hcl : s.vm.findClass cls = some ce.cls := by
    have h9 := hO.cls
    rw [hvm] at h9
    exact h9
  have hall : s.sameButNew ({ U with vm := s.vm } : State) locs mc ms := by
    subst hA
    obtain ⟨e1, e2⟩ := hsame
    rw [State.setFrames_setFrames] at e1
    have h2 : (T.setVm s.vm).sameButNew ({ U with vm := s.vm } : State) [] (0 + 1) (0 + 6) := ⟨e1, e2⟩
    have h3 := X.same.trans h2
    rw [List.append_nil] at h3
    exact h3.mono hc hs
  refine ⟨U, ?_, .threw T.heap.size, hrun, hend, Or.inr ⟨T.heap.size, rfl, cls, ce, locs, hx U hWs.alike f1 (fun q hq => f2 q hq (fun z hz => nomatch hz)), hce, hO.vm, hcl, hWs, hall, hf⟩⟩
  refine st1 _ ?_
  show Steps p.tables e below (T1.setTop { method := m, pc := pc + 3, locals := ls, stack := .ref T.heap.size :: rest, locked := none }) _
  jvm_step X₁.here [X₁.here.top, hexec, d3', Value.category]
  exact X₁.ldcStringW hexec (own := own) (text := text) (index := is) (a := sa) hown' hstr'.1 hstr'.2
    (g := { method := m, pc := pc + 4, locals := ls, stack := .ref T.heap.size :: .ref T.heap.size :: rest, locked := none }) rfl d4' _ hsteps
end Ends
section Bodies
variable {l : Launch}
theorem vx_ofW {y : MethodName} {ws ws' : List Cond} {rm : Room} {Pc : Array Value → State → Prop} {Qc : Array Value → State → Outcome → State → Prop} {XC : String → State → State → Prop} {mc ms : Nat} {free : Addr → Prop} {cc : ByteArray} {maxL : Nat} {ret : Option FieldType}
    (hy : plainName y.cls = true) (hw : ws = Cond.code y cc maxL ret :: ws')
    (body : ∀ p e s m args below meth c s₁, BodyLoose p l y (headSpec ws rm) cc maxL ret e s m args below meth c s₁ → c.maxLocals = maxL → (∀ x ∈ c.exceptionTable.toList, False) → Pc args s →
      W p l e (headSpec ws rm).room s m args below meth c s.heap [] 0 0 (vx_MQ below Qc XC args s mc ms free) (entryFrame m args maxL)) : vx_Met l y ws rm Pc Qc XC mc ms free := by
  refine MetFree.of_bodyS (code := cc) (maxLocals := maxL) (ret := ret) hy ?_ ?_
  · intro args s m h hn
    obtain ⟨meth, c, h1, h2, h3, h4, h5, h6, -, -⟩ := Cond.code_spec hn (atoms_spec (ws := ws) h _ (by rw [hw]; exact List.mem_cons_self))
    exact ⟨meth, c, h1, h2, h3, h4, h5, h6⟩
  · intro p e s m args below meth c s₁ B hml hP _
    have hh0 : s₁.heap = s.heap := by rw [B.state]; rfl
    have ht : ∀ x ∈ c.exceptionTable.toList, False := by
      obtain ⟨meth9, c9, h1, h2, -, -, -, -, h7, -⟩ := Cond.code_spec B.named (atoms_spec (ws := ws) B.pre _ (by rw [hw]; exact List.mem_cons_self))
      cases Option.some.inj (h1.symm.trans B.method)
      cases Option.some.inj (h2.symm.trans (Stand.of_body B).code)
      intro x hx
      rw [Array.isEmpty_iff.mp h7] at hx
      cases hx
    obtain ⟨t, a1, o, b1, b2, b3⟩ := body p e s m args below meth c s₁ B hml ht hP s₁ hh0 (Stand.of_body B)
    exact ⟨t, o, a1, b1, b2, b3⟩
/-- the table of a body with handlers -/
theorem vx_table {p : Program} {x y : MethodName} {S : Spec} {cc bytes : ByteArray} {maxL maxL' : Nat} {ret ret' : Option FieldType} {e : Env} {s s₁ : State} {m : MethodId} {args : Array Value} {below : List Frame} {meth : Method} {c : Code} {hh : List (Nat × Nat × Nat × Nat)}
    (B : BodyLoose p l y S cc maxL ret e s m args below meth c s₁) (h : (Cond.codeWith y bytes maxL' ret' hh).before args s = true) : c.exceptionTable.toList = tableOf hh := by
  obtain ⟨m9, meth9, c9, hn9, h1, h2, -, -, h6, -⟩ := Cond.codeWith_spec h
  cases Option.some.inj (hn9.symm.trans B.named)
  cases Option.some.inj (h1.symm.trans B.method)
  cases Option.some.inj (h2.symm.trans (Stand.of_body B).code)
  rw [← h6, table_eq]
end Bodies
end VXA
/-! ===== END ===== -/
/-! ===== BEGIN a static call of a method with an exception table ===== -/
section VXS
variable {p : Program} {l : Launch} {e : Env} {R : Room} {s : State} {m : MethodId} {args : Array Value} {below : List Frame} {meth : Method} {c : Code} {T : State} {H : Heap} {locs : List Loc} {cells slots : Nat}
abbrev vx_CSW (R : Room) (s : State) (args : Array Value) (own : String) (index : Nat) (y : MethodName) (bytes : ByteArray) (maxL : Nat) (ret : Option FieldType) (hh : List (Nat × Nat × Nat × Nat)) (ws : List Cond) (rm : Room) (mc ms n : Nat) : Prop :=
  (rm.cells = mc ∧ rm.slots = ms ∧ rm.frames + 1 ≤ R.frames ∧ 8 + (maxL + 11) + rm.locals ≤ R.locals ∧ (∀ w ∈ ws, ∀ (a' : Array Value) (U : State), s.WarmedH U.vm → w.before a' U = true) ∧ Cond.codeWith y bytes maxL ret hh ∈ ws) ∧
  (Cond.codeWith y bytes maxL ret hh).before args s = true ∧ (Cond.initialized y.cls).before args s = true ∧ (y.cls ≠ "java/lang/invoke/MethodHandle" ∧ y.cls ≠ "java/lang/invoke/VarHandle") ∧
  (∀ sig, parseMethodDescriptor y.desc = some sig → n = sig.parameters.length) ∧ (Cond.methodLink own index y).before args s = true ∧ (Cond.static y).before args s = true
theorem vx_cwSW {own : String} {index maxL mc ms : Nat} {y : MethodName} {bytes : ByteArray} {ret : Option FieldType} {hh : List (Nat × Nat × Nat × Nat)} {Ts ws ws' : List Cond} {rm : Room} (n : Nat) (ht : ∀ w ∈ Ts, w.before args s = true) (hT : GoodIn Ts (va_wsS own index y ws)) (hw : ws = Cond.codeWith y bytes maxL ret hh :: ws') (hrc : rm.cells = mc) (hrs : rm.slots = ms)
    (hd : y.cls ≠ "java/lang/invoke/MethodHandle" ∧ y.cls ≠ "java/lang/invoke/VarHandle" ∧ (parseMethodDescriptor y.desc).map (fun d => d.parameters.length) = some n) (hR : rm.frames + 1 ≤ R.frames ∧ 8 + (maxL + 11) + rm.locals ≤ R.locals) :
    vx_CSW R s args own index y bytes maxL ret hh ws rm mc ms n := by
  have ok : ∀ w ∈ va_wsS own index y ws, w.before args s = true := fun w h => ht w (hT w h).1
  have hG : GoodIn Ts ws := fun w h => hT w (by unfold va_wsS; exact List.mem_append_right _ h)
  have hc : Cond.codeWith y bytes maxL ret hh ∈ ws := by rw [hw]; exact List.mem_cons_self
  refine ⟨⟨hrc, hrs, hR.1, hR.2, pay_in ht hG, hc⟩, ht _ (hG _ hc).1, ok _ (by simp [va_wsS]), ⟨hd.1, hd.2.1⟩, fun sig h => ?_, ok _ (by simp [va_wsS]), ok _ (by simp [va_wsS])⟩
  have h2 := hd.2.2
  rw [h] at h2
  exact (Option.some.inj h2).symm
theorem vx_callSW (X : Stand p l e R s m args below meth c T locs cells slots) (hexec : p.tables.exec = Jvm.exec) {own : String} {index : Nat} {y : MethodName} {bytes : ByteArray} {maxL : Nat} {ret : Option FieldType} {hh : List (Nat × Nat × Nat × Nat)}
    (hown : s.vm.findClass own = some m.cls) (hlink : (Cond.methodLink own index y).before args s = true) (hstat : (Cond.static y).before args s = true) (hinit : (Cond.initialized y.cls).before args s = true)
    (hcode : (Cond.codeWith y bytes maxL ret hh).before args s = true) (hy : y.cls ≠ "java/lang/invoke/MethodHandle" ∧ y.cls ≠ "java/lang/invoke/VarHandle")
    {W9 : Nat} {Pre : Pt → Array Value → Prop} {Post : Pt → Array Value → Option Value → Pt → Prop} (hK : Back l R p e below s args y 3 W9 Pre Post)
    {g : JFrame} (hg : g.method = m) (hsize : g.locals.size = c.maxLocals) {argsL rest : List Value} (hlen : ∀ sig, parseMethodDescriptor y.desc = some sig → argsL.length = sig.parameters.length)
    (hstack : g.stack = argsL.reverse ++ rest) (hW : 2 * g.monitorRoom + (rest.map fun v => v.category).sum ≤ W9) (hdg : decode c.code g.pc = .ok (.invokestatic index, 3))
    (hpre : ∀ vm₁, s.WarmedH vm₁ → Pre ⟨T.setVm vm₁, locs, cells, slots⟩ argsL.toArray) :
    ∃ (v : Option Value) (vm₁ : Vm) (B : Pt), s.WarmedH vm₁ ∧ Stand p l e R s m args below meth c B.U B.locs B.cells B.slots ∧ Post ⟨T.setVm vm₁, locs, cells, slots⟩ argsL.toArray v B ∧
      ∀ target, Steps p.tables e below (B.U.setTop { g with pc := g.pc + 3, stack := v.toList ++ rest }) target → Steps p.tables e below (T.setTop g) target := by
  obtain ⟨mk, methM, cM, hnamed, hmethM, -, -, -, -, -, -, hsigM⟩ := Cond.codeWith_spec hcode
  have hstatic : methM.isStatic = true := Cond.static_spec hnamed hmethM hstat
  obtain ⟨kP, hkP, -⟩ := className_of_methodNamed hnamed
  have hinitP : kP.init = .initialized := Cond.initialized_spec (findClass_of_methodNamed hnamed) hkP hinit
  obtain ⟨vm₁, X₁, hstep₁⟩ := X.invokestatic hexec hown hlink hnamed hmethM hstatic hkP hinitP hy (g := g) hg (argsL := argsL) (rest := rest) (hlen _ hsigM) hstack hdg
  obtain ⟨v, B, X', hpost, hsteps⟩ := hK m meth c ⟨T.setVm vm₁, locs, cells, slots⟩ { g with stack := rest } (.invokestatic index) mk argsL.toArray X₁ hg hsize hdg hW (X₁.named hnamed) (hpre vm₁ X₁.warmed)
  exact ⟨v, vm₁, B, X₁.warmed, X', hpost, fun target h => hstep₁ _ fun acts => by rw [doInvoke_state]; exact hsteps.trans h⟩
theorem vx_runSW {y : MethodName} {bytes cc : ByteArray} {maxL nL mc ms n index : Nat} {ret : Option FieldType} {hh : List (Nat × Nat × Nat × Nat)} {ws : List Cond} {rm : Room} {Pc : Array Value → State → Prop} {Qc : Array Value → State → Outcome → State → Prop} {free : Addr → Prop} {Ts : List Cond} {own : String} {As rest : List Value} {g : JFrame}
    (S : CallFix p m c cc nL s args Ts own) (hM : Met l y ws rm Pc Qc mc ms free) (cw : vx_CSW R s args own index y bytes maxL ret hh ws rm mc ms n) (hp : PreS s H Pc As)
    (hg : g.method = m) (hn : As.length = n) (hsize : g.locals.size = nL) (hstack : g.stack = As.reverse ++ rest) (hW : 2 * g.monitorRoom + (rest.map fun v => v.category).sum ≤ 8) (hdg : decode cc g.pc = .ok (.invokestatic index, 3)) (hf : cells + mc ≤ R.cells ∧ slots + ms ≤ R.slots) :
    va_Run p l e R s m args below meth c H locs cells slots mc ms g rest (Qc As.toArray) (free) := by
  obtain ⟨⟨hrc, hrs, hfr, hlo, hws, hcw⟩, hcode, hini, hy, hlen, hl, hstt⟩ := cw
  have hK : Back l R p e below s args y 3 8 (PreOf R mc ms Pc) (PostOf Qc mc ms free) := va_backW (hh := hh) (bytes := bytes) (maxL := maxL) (ret := ret) hM hp.1 hrc hrs hfr hlo hws hcw (fun a' U hW => word_at hW (Or.inl (by first | rfl | simp [Cond.onTables, Cond.keeps, Cond.steady])) hini)
  obtain ⟨hx, hb, hml, ho, -⟩ := S
  intro T hT X
  obtain ⟨v, vm₁, ⟨U', l2, c2, s2⟩, hW₁, X', ⟨g', mk, t, L, e1, e2, hq, h1, hL, h2, h3⟩, st⟩ := vx_callSW X hx (hh := hh) (bytes := bytes) (maxL := maxL) (ret := ret) ho hl hstt hini hcode hy hK hg (hsize.trans hml.symm) (argsL := As) (rest := rest) (fun sig h => hn.trans (hlen sig h)) hstack hW (by rw [hb]; exact hdg)
    (fun vm₁ hW₁ => ⟨hf.1, hf.2, hp.2 (T.setVm vm₁) hT hW₁⟩)
  dsimp only [Pt.U, Pt.locs, Pt.cells, Pt.slots] at X' e1 e2 h1 h2 h3 st
  subst h1; subst h2; subst h3
  exact ⟨v, (T.setVm vm₁).calling g' mk As.toArray, t, U', L, hT, X', hL, e1, e2, hq, st⟩
/-- not caught here, past rows that name other classes: it goes on to the caller -/
theorem vx_outP {p : Program} {l : Launch} {e : Env} {R : Room} {s : State} {m : MethodId} {args : Array Value} {below : List Frame} {meth : Method} {c : Code} {H : Heap} {locs : List Loc} {cells slots : Nat} {free : Addr → Prop} {ls : Array Slot} {rest : List Value} {Qc : Array Value → State → Outcome → State → Prop} {XC : String → State → State → Prop}
    {pc : Nat} {own E : String} {ce : Cell} {q : Addr} {mc ms : Nat} (hown : s.vm.findClass own = some m.cls) (hlocks : meth.locks = false)
    (hpass : ∀ z ∈ c.exceptionTable.toList, covers z pc = false ∨ (z.catchType ≠ 0 ∧ ∃ nm : String, (Cond.classLink own z.catchType nm).before args s = true ∧ va_Nc E nm s)) (hcell : H[q]? = some ce) (hv : ce.vm = .none) (hcl : s.vm.findClass E = some ce.cls)
    (hx : ∀ t : State, t.heap = H → s.vm.Alike t.vm → XC E s t) (hf : ∀ z ∈ locs, free z.base) (hc : cells ≤ mc) (hs : slots ≤ ms) :
    vx_W p l e R s m args below meth c H locs cells slots (vx_MQ below Qc XC args s mc ms free) (F0 m pc ls rest) q := by
  intro T hT X
  have hpl : e.platform.magicAccessors = ({} : Platform).magicAccessors := by rw [X.admits.platform]
  obtain ⟨vm', hW', X', st⟩ := X.outThrough hlocks q (g := F0 m pc ls rest) rfl rfl rfl (cell := ce) (by rw [hT]; exact hcell) (by rw [hv]; rfl)
    (by obtain ⟨k9, h9, -⟩ := Vm.findClass_spec hcl; exact ⟨k9, h9⟩) (fun z hz => by
      rcases hpass z hz with h | ⟨hz0, nm, hl1, hn1⟩
      · exact Or.inl h
      · obtain ⟨c6, hc6, hcl6⟩ := Cond.classLink_spec hown hl1 e.platform hpl
        obtain ⟨a8, b8, h1, h2, h3⟩ := hn1
        cases Option.some.inj (h1.symm.trans hcl)
        cases Option.some.inj (h2.symm.trans hc6)
        exact Or.inr ⟨hz0, _, hcl6, h3⟩)
  obtain ⟨g₀, hfr⟩ := X'.frames_eq
  have hcell9 : ((T.setVm vm').setFrames (.throwing q :: below)).heap[q]? = some ce := by
    show T.heap[q]? = some ce
    rw [hT]; exact hcell
  have hend : Ended ((T.setVm vm').setFrames (.throwing q :: below)) below (.threw q) := State.frames_setFrames _ (State.cur_lt_of_frames hfr)
  refine ⟨(T.setVm vm').setFrames (.throwing q :: below), ?_, .threw q, X'.here.running, hend, Or.inr ⟨q, rfl, E, ce, locs, hx _ hT (X'.ends _).1.alike, hcell9, hv, hcl, (X'.ends _).1, (X'.ends _).2.mono hc hs, hf⟩⟩
  rw [X.pushThrowing_eq]
  exact st
/-- a thing of a world lies in the heap -/
theorem vx_lt {D : va_G} {cl : List vw_C} {ws : va_W} {H1 : Heap} (h : va_P D cl ws H1) {k : Nat} {q : Nat × va_E} (hk : ws[k]? = some q) : q.1 < H1.size := (h k q hk).lt
end VXS
/-! ===== END ===== -/
/-! ===== BEGIN methods with a table of their own: called by a name, returning or throwing ===== -/
section VXH
/-! vx_backW, vx_callVX, vx_callSX, vx_callVW, vx_runVW, vx_runVX, vx_runSX, vx_ofWH follow the same proofs as their sisters above (Free/Laws.lean, Shelf42/LK1.lean); vx_outP calls Shelf42/NT130.lean (outThrough). -/
section
variable {l : Launch} {R : Room} {p : Program} {e : Env} {below : List Frame} {s : State} {sargs : Array Value} {y : MethodName} {len W9 : Nat}
theorem vx_backW {ws : List Cond} {rm : Room} {Pc : Array Value → State → Prop} {Qc : Array Value → State → Outcome → State → Prop} {XC : String → State → State → Prop} {mc ms : Nat} {free : Addr → Prop} {bytes : ByteArray} {maxL : Nat} {ret : Option FieldType} {hh : List (Nat × Nat × Nat × Nat)}
    (hM : vx_Met l y ws rm Pc Qc XC mc ms free) (hblind : FrameBlind Pc) (hrc : rm.cells = mc) (hrs : rm.slots = ms)
    (hframes : rm.frames + 1 ≤ R.frames) (hlocals : W9 + (maxL + 11) + rm.locals ≤ R.locals)
    (hws : ∀ w ∈ ws, ∀ a' U, s.WarmedH U.vm → w.before a' U = true) (hcode : Cond.codeWith y bytes maxL ret hh ∈ ws) (hinit : ∀ a' U, s.WarmedH U.vm → (Cond.initialized y.cls).before a' U = true) :
    vx_Back l R p e below s sargs y len W9 (PreOf R mc ms Pc) (PostOf Qc mc ms free) (vx_Post XC mc ms free) := by
  intro m meth c A g ig mk a X hg hsize hdg hW hn hp
  have h1 : (headSpec ws rm).pre.before a A.U = true := atoms_intro fun w hw => hws w hw _ _ X.warmed
  have h2 : (Cond.codeWith y bytes maxL ret hh).before a A.U = true := hws _ hcode _ _ X.warmed
  have h3 : (Cond.initialized y.cls).before a A.U = true := hinit _ _ X.warmed
  have h4 : A.cells + (headSpec ws rm).room.cells ≤ R.cells := by rw [show (headSpec ws rm).room.cells = mc from hrc]; exact hp.1
  have h5 : A.slots + (headSpec ws rm).room.slots ≤ R.slots := by rw [show (headSpec ws rm).room.slots = ms from hrs]; exact hp.2.1
  have hPc : Pc a (A.U.calling g mk a) := hblind _ _ _ _ hp.2.2
  obtain ⟨U, Ls, c0, s0⟩ := A
  dsimp only [Pt.U, Pt.locs, Pt.cells, Pt.slots] at h1 h2 h3 h4 h5 X hn hPc ⊢
  obtain ⟨m9, methY, cY, hn9, hmY, hcY, -, hlY, -⟩ := Cond.codeWith_spec h2
  cases Option.some.inj (hn9.symm.trans hn)
  obtain ⟨kY, hkY, -⟩ := className_of_methodNamed hn
  have hinitY : kY.init = .initialized := Cond.initialized_spec (findClass_of_methodNamed hn) hkY h3
  have h : At U g.method c below := by rw [hg]; exact X.here
  have hlocals9 : W9 + (maxL + 11) + (headSpec ws rm).room.locals ≤ R.locals := hlocals
  have happ : (headSpec ws rm).appliesLoose y e.platform (U.calling g mk a) = true :=
    Spec.appliesLoose_calling (g := g) h hdg hn hkY hinitY
      (X.room_calling (g := g) (R' := (headSpec ws rm).room) hsize hmY hcY hframes (by rw [hlY]; omega) h4 h5) h1
  obtain ⟨mid, hmid⟩ := h.above
  have hfr : (U.setTop g).frames = (.java g :: mid) ++ below := by rw [State.frames_setTop' g h.top, hmid]; rfl
  obtain ⟨o, s₂, hsteps, -, hend, hq⟩ := Steps.callFree hM p X.admits X.cas X.clock (acts := []) hfr happ hPc trivial
  have hq' : vx_Q Qc XC mc ms free a (U.calling g mk a) o s₂ := hq
  rw [State.frames_setTop' g h.top] at hend
  obtain ⟨g₀, hg0⟩ := Option.isSome_iff_exists.mp h.top
  obtain ⟨r, hr⟩ := State.topJava?_eq_some.mp hg0
  have hr' : (({ U with heap := s₂.heap, slotsUsed := s₂.slotsUsed } : State).setVm s₂.vm).frames = .java g₀ :: r := hr
  rcases hq' with ⟨hqc, L, hfe, hL⟩ | ⟨q, rfl, E, ce, L, hx, hce, hcv, hcl, hW₂, hsm, hL⟩
  · obtain ⟨⟨v, rfl⟩, hW₂, e2, q2, q3, q4, q5, q6⟩ := id hfe
    have e3 : s₂ = ({ (U.calling g mk a).setFrames s₂.frames with heap := s₂.heap, slotsUsed := s₂.slotsUsed } : State).setVm s₂.vm := by
      have : s₂ = ({ s₂ with vm := (U.calling g mk a).vm } : State).setVm s₂.vm := rfl
      rw [e2] at this
      exact this
    obtain ⟨c₂, i₂, len₂, hc₂, hd₂, hf₂⟩ := hend
    have hW' : U.WarmedH s₂.vm := hW₂
    have hcc : c₂ = c := by
      have h1 : s₂.code? g.method = U.code? g.method := by
        rw [State.code?_eq, State.code?_eq, hW'.alike.method?]
      exact Option.some.inj (hc₂.symm.trans (h1.trans h.code))
    subst hcc
    have hlen : len₂ = len := by rw [hdg] at hd₂; cases hd₂; rfl
    subst hlen
    have hs₂ : s₂ = (({ U with heap := s₂.heap, slotsUsed := s₂.slotsUsed } : State).setVm s₂.vm).setTop { g with pc := g.pc + len₂, stack := v.toList ++ g.stack } := by
      refine e3.trans ?_
      rw [hf₂, State.calling_eq h.top, State.setFrames_setFrames, State.setTop_of_frames _ hr', hr]
      rfl
    have hsame : U.sameButNew ({ U with heap := s₂.heap, slotsUsed := s₂.slotsUsed } : State) L mc ms := by
      refine ⟨?_, q2, q3, q4, q5, q6⟩
      obtain ⟨t, ht, -⟩ := State.frames_cons hr
      show ({ U with heap := s₂.heap, slotsUsed := s₂.slotsUsed } : State) = { U.setFrames U.frames with heap := s₂.heap, slotsUsed := s₂.slotsUsed }
      rw [State.setFrames_self ht]
    subst hg
    refine Or.inl ⟨v, ⟨(({ U with heap := s₂.heap, slotsUsed := s₂.slotsUsed } : State).setVm s₂.vm), Ls ++ L, c0 + mc, s0 + ms⟩,
      ⟨X.admits, X.cas, X.clock, X.frames, X.room, X.hears, X.method, X.code, (X.here.setHeapUsed s₂.heap s₂.slotsUsed).setVm hW'.alike, X.tail, State.WarmedH.trans X.warmed hW', X.limits, X.bytes, X.same.trans (hsame.setVm s.vm)⟩,
      ⟨g, mk, s₂, L, rfl, rfl, hqc, rfl, hL, rfl, rfl⟩, ?_⟩
    show Steps p.tables e below _ ((({ U with heap := s₂.heap, slotsUsed := s₂.slotsUsed } : State).setVm s₂.vm).setTop { g with pc := g.pc + len₂, stack := v.toList ++ g.stack })
    rw [← hs₂]
    exact hsteps
  · obtain ⟨e2, q2, q3, q4, q5, q6⟩ := id hsm
    have e3 : s₂ = ({ (U.calling g mk a).setFrames s₂.frames with heap := s₂.heap, slotsUsed := s₂.slotsUsed } : State).setVm s₂.vm := by
      have : s₂ = ({ s₂ with vm := (U.calling g mk a).vm } : State).setVm s₂.vm := rfl
      rw [e2] at this
      exact this
    have hf₂ : s₂.frames = .throwing q :: .java g :: U.frames.tail := hend
    have hW' : U.WarmedH s₂.vm := hW₂
    have hs₂ : s₂ = ((({ U with heap := s₂.heap, slotsUsed := s₂.slotsUsed } : State).setVm s₂.vm).setTop g).pushFrame (.throwing q) := by
      refine e3.trans ?_
      rw [hf₂, State.calling_eq h.top, State.setFrames_setFrames, State.pushFrame, State.frames_setTop _ hr', State.setTop_of_frames _ hr', State.setFrames_setFrames, hr]
      rfl
    have hsame : U.sameButNew ({ U with heap := s₂.heap, slotsUsed := s₂.slotsUsed } : State) L mc ms := by
      refine ⟨?_, q2, q3, q4, q5, q6⟩
      obtain ⟨t, ht, -⟩ := State.frames_cons hr
      show ({ U with heap := s₂.heap, slotsUsed := s₂.slotsUsed } : State) = { U.setFrames U.frames with heap := s₂.heap, slotsUsed := s₂.slotsUsed }
      rw [State.setFrames_self ht]
    subst hg
    refine Or.inr ⟨q, ⟨(({ U with heap := s₂.heap, slotsUsed := s₂.slotsUsed } : State).setVm s₂.vm), Ls ++ L, c0 + mc, s0 + ms⟩,
      ⟨X.admits, X.cas, X.clock, X.frames, X.room, X.hears, X.method, X.code, (X.here.setHeapUsed s₂.heap s₂.slotsUsed).setVm hW'.alike, X.tail, State.WarmedH.trans X.warmed hW', X.limits, X.bytes, X.same.trans (hsame.setVm s.vm)⟩,
      ⟨g, mk, s₂, L, E, ce, rfl, rfl, hx, hce, hcv, hcl, rfl, hL, rfl, rfl⟩, ?_⟩
    show Steps p.tables e below _ (((({ U with heap := s₂.heap, slotsUsed := s₂.slotsUsed } : State).setVm s₂.vm).setTop g).pushFrame (.throwing q))
    rw [← hs₂]
    exact hsteps
end
variable {p : Program} {l : Launch} {e : Env} {R : Room} {s : State} {m : MethodId} {args : Array Value} {below : List Frame} {meth : Method} {c : Code} {T : State} {H : Heap} {locs : List Loc} {cells slots : Nat}
theorem vx_callVX (X : Stand p l e R s m args below meth c T locs cells slots) (hexec : p.tables.exec = Jvm.exec) {own C : String} {index : Nat} {y : MethodName} {bytes : ByteArray} {maxL : Nat} {ret : Option FieldType} {hh : List (Nat × Nat × Nat × Nat)}
    (hown : s.vm.findClass own = some m.cls) (hlink : (Cond.methodLink own index y).before args s = true) (hinst : (Cond.instanceMethod y).before args s = true) (hsel : (Cond.selects C y y).before args s = true)
    (hcode : (Cond.codeWith y bytes maxL ret hh).before args s = true) (hy : y.cls ≠ "java/lang/invoke/MethodHandle" ∧ y.cls ≠ "java/lang/invoke/VarHandle")
    {W9 : Nat} {Pre : Pt → Array Value → Prop} {Post : Pt → Array Value → Option Value → Pt → Prop} {PostX : Pt → Array Value → Addr → Pt → Prop} (hK : vx_Back l R p e below s args y 3 W9 Pre Post PostX)
    {b : Addr} {cellB : Cell} (hcell : T.heap[b]? = some cellB) (hobj : cellB.vm.isStatics = false) (hcls : s.vm.findClass C = some cellB.cls)
    {g : JFrame} (hg : g.method = m) (hsize : g.locals.size = c.maxLocals) {argsL rest : List Value} (hlen : ∀ sig, parseMethodDescriptor y.desc = some sig → argsL.length = sig.parameters.length)
    (hstack : g.stack = argsL.reverse ++ .ref b :: rest) (hW : 2 * g.monitorRoom + (rest.map fun v => v.category).sum ≤ W9) (hdg : decode c.code g.pc = .ok (.invokevirtual index, 3))
    (hpre : ∀ vm₁, s.WarmedH vm₁ → Pre ⟨T.setVm vm₁, locs, cells, slots⟩ (Value.ref b :: argsL).toArray) :
    (∃ (v : Option Value) (vm₁ : Vm) (B : Pt), s.WarmedH vm₁ ∧ Stand p l e R s m args below meth c B.U B.locs B.cells B.slots ∧ Post ⟨T.setVm vm₁, locs, cells, slots⟩ (Value.ref b :: argsL).toArray v B ∧
      ∀ target, Steps p.tables e below (B.U.setTop { g with pc := g.pc + 3, stack := v.toList ++ rest }) target → Steps p.tables e below (T.setTop g) target) ∨
    (∃ (q : Addr) (vm₁ : Vm) (B : Pt), s.WarmedH vm₁ ∧ Stand p l e R s m args below meth c B.U B.locs B.cells B.slots ∧ PostX ⟨T.setVm vm₁, locs, cells, slots⟩ (Value.ref b :: argsL).toArray q B ∧
      Steps p.tables e below (T.setTop g) ((B.U.setTop { g with stack := rest }).pushFrame (.throwing q))) := by
  obtain ⟨mk, methM, hnamed, hmethM, hstM, habM⟩ := Cond.instanceMethod_spec hinst
  obtain ⟨m8, methM', cM, hn8, hmethM', -, -, -, -, -, -, hsigM⟩ := Cond.codeWith_spec hcode
  cases Option.some.inj (hn8.symm.trans hnamed)
  cases hmethM.symm.trans hmethM'
  obtain ⟨c2, r2, m2, q1, q2, q3, q4, kP, hkP, hkPi⟩ := Cond.selects_spec hsel
  cases hcls.symm.trans q1
  cases (State.methodFound?_of_named hnamed hy).symm.trans q2
  cases hnamed.symm.trans q3
  have hselP : selectMethod e.platform s.vm cellB.cls mk = .method mk := by rw [Launch.admits_selectMethod X.admits]; exact q4
  obtain ⟨vm₁, X₁, hstep₁⟩ := X.invokevirtual hexec hown hlink hnamed hmethM hstM hkP hkPi hy (a := b) (cell := cellB) hcell
    (fun z h => by rw [h] at hobj; cases hobj) hselP hmethM habM hkP hkPi (g := g) hg (argsL := argsL) (rest := rest) (hlen _ hsigM) hstack hdg
  rcases hK m meth c ⟨T.setVm vm₁, locs, cells, slots⟩ { g with stack := rest } (.invokevirtual index) mk (Value.ref b :: argsL).toArray X₁ hg hsize hdg hW (X₁.named hnamed) (hpre vm₁ X₁.warmed) with ⟨v, B, X', hpost, hsteps⟩ | ⟨q, B, X', hpost, hsteps⟩
  · exact Or.inl ⟨v, vm₁, B, X₁.warmed, X', hpost, fun target h => hstep₁ _ fun acts => by rw [doInvoke_state]; exact hsteps.trans h⟩
  · exact Or.inr ⟨q, vm₁, B, X₁.warmed, X', hpost, hstep₁ _ fun acts => by rw [doInvoke_state]; exact hsteps⟩
theorem vx_callSX (X : Stand p l e R s m args below meth c T locs cells slots) (hexec : p.tables.exec = Jvm.exec) {own : String} {index : Nat} {y : MethodName} {bytes : ByteArray} {maxL : Nat} {ret : Option FieldType} {hh : List (Nat × Nat × Nat × Nat)}
    (hown : s.vm.findClass own = some m.cls) (hlink : (Cond.methodLink own index y).before args s = true) (hstat : (Cond.static y).before args s = true) (hinit : (Cond.initialized y.cls).before args s = true)
    (hcode : (Cond.codeWith y bytes maxL ret hh).before args s = true) (hy : y.cls ≠ "java/lang/invoke/MethodHandle" ∧ y.cls ≠ "java/lang/invoke/VarHandle")
    {W9 : Nat} {Pre : Pt → Array Value → Prop} {Post : Pt → Array Value → Option Value → Pt → Prop} {PostX : Pt → Array Value → Addr → Pt → Prop} (hK : vx_Back l R p e below s args y 3 W9 Pre Post PostX)
    {g : JFrame} (hg : g.method = m) (hsize : g.locals.size = c.maxLocals) {argsL rest : List Value} (hlen : ∀ sig, parseMethodDescriptor y.desc = some sig → argsL.length = sig.parameters.length)
    (hstack : g.stack = argsL.reverse ++ rest) (hW : 2 * g.monitorRoom + (rest.map fun v => v.category).sum ≤ W9) (hdg : decode c.code g.pc = .ok (.invokestatic index, 3))
    (hpre : ∀ vm₁, s.WarmedH vm₁ → Pre ⟨T.setVm vm₁, locs, cells, slots⟩ argsL.toArray) :
    (∃ (v : Option Value) (vm₁ : Vm) (B : Pt), s.WarmedH vm₁ ∧ Stand p l e R s m args below meth c B.U B.locs B.cells B.slots ∧ Post ⟨T.setVm vm₁, locs, cells, slots⟩ argsL.toArray v B ∧
      ∀ target, Steps p.tables e below (B.U.setTop { g with pc := g.pc + 3, stack := v.toList ++ rest }) target → Steps p.tables e below (T.setTop g) target) ∨
    (∃ (q : Addr) (vm₁ : Vm) (B : Pt), s.WarmedH vm₁ ∧ Stand p l e R s m args below meth c B.U B.locs B.cells B.slots ∧ PostX ⟨T.setVm vm₁, locs, cells, slots⟩ argsL.toArray q B ∧
      Steps p.tables e below (T.setTop g) ((B.U.setTop { g with stack := rest }).pushFrame (.throwing q))) := by
  obtain ⟨mk, methM, cM, hnamed, hmethM, -, -, -, -, -, -, hsigM⟩ := Cond.codeWith_spec hcode
  have hstatic : methM.isStatic = true := Cond.static_spec hnamed hmethM hstat
  obtain ⟨kP, hkP, -⟩ := className_of_methodNamed hnamed
  have hinitP : kP.init = .initialized := Cond.initialized_spec (findClass_of_methodNamed hnamed) hkP hinit
  obtain ⟨vm₁, X₁, hstep₁⟩ := X.invokestatic hexec hown hlink hnamed hmethM hstatic hkP hinitP hy (g := g) hg (argsL := argsL) (rest := rest) (hlen _ hsigM) hstack hdg
  rcases hK m meth c ⟨T.setVm vm₁, locs, cells, slots⟩ { g with stack := rest } (.invokestatic index) mk argsL.toArray X₁ hg hsize hdg hW (X₁.named hnamed) (hpre vm₁ X₁.warmed) with ⟨v, B, X', hpost, hsteps⟩ | ⟨q, B, X', hpost, hsteps⟩
  · exact Or.inl ⟨v, vm₁, B, X₁.warmed, X', hpost, fun target h => hstep₁ _ fun acts => by rw [doInvoke_state]; exact hsteps.trans h⟩
  · exact Or.inr ⟨q, vm₁, B, X₁.warmed, X', hpost, hstep₁ _ fun acts => by rw [doInvoke_state]; exact hsteps⟩
theorem vx_callVW (X : Stand p l e R s m args below meth c T locs cells slots) (hexec : p.tables.exec = Jvm.exec) {own C : String} {index : Nat} {y : MethodName} {bytes : ByteArray} {maxL : Nat} {ret : Option FieldType} {hh : List (Nat × Nat × Nat × Nat)}
    (hown : s.vm.findClass own = some m.cls) (hlink : (Cond.methodLink own index y).before args s = true) (hinst : (Cond.instanceMethod y).before args s = true) (hsel : (Cond.selects C y y).before args s = true)
    (hcode : (Cond.codeWith y bytes maxL ret hh).before args s = true) (hy : y.cls ≠ "java/lang/invoke/MethodHandle" ∧ y.cls ≠ "java/lang/invoke/VarHandle")
    {W9 : Nat} {Pre : Pt → Array Value → Prop} {Post : Pt → Array Value → Option Value → Pt → Prop} (hK : Back l R p e below s args y 3 W9 Pre Post)
    {b : Addr} {cellB : Cell} (hcell : T.heap[b]? = some cellB) (hobj : cellB.vm.isStatics = false) (hcls : s.vm.findClass C = some cellB.cls)
    {g : JFrame} (hg : g.method = m) (hsize : g.locals.size = c.maxLocals) {argsL rest : List Value} (hlen : ∀ sig, parseMethodDescriptor y.desc = some sig → argsL.length = sig.parameters.length)
    (hstack : g.stack = argsL.reverse ++ .ref b :: rest) (hW : 2 * g.monitorRoom + (rest.map fun v => v.category).sum ≤ W9) (hdg : decode c.code g.pc = .ok (.invokevirtual index, 3))
    (hpre : ∀ vm₁, s.WarmedH vm₁ → Pre ⟨T.setVm vm₁, locs, cells, slots⟩ (Value.ref b :: argsL).toArray) :
    ∃ (v : Option Value) (vm₁ : Vm) (B : Pt), s.WarmedH vm₁ ∧ Stand p l e R s m args below meth c B.U B.locs B.cells B.slots ∧ Post ⟨T.setVm vm₁, locs, cells, slots⟩ (Value.ref b :: argsL).toArray v B ∧
      ∀ target, Steps p.tables e below (B.U.setTop { g with pc := g.pc + 3, stack := v.toList ++ rest }) target → Steps p.tables e below (T.setTop g) target := by
  obtain ⟨mk, methM, hnamed, hmethM, hstM, habM⟩ := Cond.instanceMethod_spec hinst
  obtain ⟨m8, methM', cM, hn8, hmethM', -, -, -, -, -, -, hsigM⟩ := Cond.codeWith_spec hcode
  cases Option.some.inj (hn8.symm.trans hnamed)
  cases hmethM.symm.trans hmethM'
  obtain ⟨c2, r2, m2, q1, q2, q3, q4, kP, hkP, hkPi⟩ := Cond.selects_spec hsel
  cases hcls.symm.trans q1
  cases (State.methodFound?_of_named hnamed hy).symm.trans q2
  cases hnamed.symm.trans q3
  have hselP : selectMethod e.platform s.vm cellB.cls mk = .method mk := by rw [Launch.admits_selectMethod X.admits]; exact q4
  obtain ⟨vm₁, X₁, hstep₁⟩ := X.invokevirtual hexec hown hlink hnamed hmethM hstM hkP hkPi hy (a := b) (cell := cellB) hcell
    (fun z h => by rw [h] at hobj; cases hobj) hselP hmethM habM hkP hkPi (g := g) hg (argsL := argsL) (rest := rest) (hlen _ hsigM) hstack hdg
  obtain ⟨v, B, X', hpost, hsteps⟩ := hK m meth c ⟨T.setVm vm₁, locs, cells, slots⟩ { g with stack := rest } (.invokevirtual index) mk (Value.ref b :: argsL).toArray X₁ hg hsize hdg hW (X₁.named hnamed) (hpre vm₁ X₁.warmed)
  exact ⟨v, vm₁, B, X₁.warmed, X', hpost, fun target h => hstep₁ _ fun acts => by rw [doInvoke_state]; exact hsteps.trans h⟩
abbrev vx_CVW (R : Room) (s : State) (args : Array Value) (own C : String) (index : Nat) (y : MethodName) (bytes : ByteArray) (maxL : Nat) (ret : Option FieldType) (hh : List (Nat × Nat × Nat × Nat)) (ws : List Cond) (rm : Room) (mc ms n : Nat) : Prop :=
  (rm.cells = mc ∧ rm.slots = ms ∧ rm.frames + 1 ≤ R.frames ∧ 8 + (maxL + 11) + rm.locals ≤ R.locals ∧ (∀ w ∈ ws, ∀ (a' : Array Value) (U : State), s.WarmedH U.vm → w.before a' U = true) ∧ Cond.codeWith y bytes maxL ret hh ∈ ws) ∧
  (Cond.codeWith y bytes maxL ret hh).before args s = true ∧ (Cond.initialized y.cls).before args s = true ∧ (y.cls ≠ "java/lang/invoke/MethodHandle" ∧ y.cls ≠ "java/lang/invoke/VarHandle") ∧
  (∀ sig, parseMethodDescriptor y.desc = some sig → n = sig.parameters.length) ∧ (Cond.methodLink own index y).before args s = true ∧ (Cond.instanceMethod y).before args s = true ∧ (Cond.selects C y y).before args s = true
theorem vx_cwVW {own C : String} {index maxL mc ms : Nat} {y : MethodName} {bytes : ByteArray} {ret : Option FieldType} {hh : List (Nat × Nat × Nat × Nat)} {Ts ws ws' : List Cond} {rm : Room} (n : Nat) (ht : ∀ w ∈ Ts, w.before args s = true) (hT : GoodIn Ts (wsV own index C y ws)) (hw : ws = Cond.codeWith y bytes maxL ret hh :: ws') (hrc : rm.cells = mc) (hrs : rm.slots = ms)
    (hd : y.cls = C ∧ y.cls ≠ "java/lang/invoke/MethodHandle" ∧ y.cls ≠ "java/lang/invoke/VarHandle" ∧ (parseMethodDescriptor y.desc).map (fun d => d.parameters.length) = some n) (hR : rm.frames + 1 ≤ R.frames ∧ 8 + (maxL + 11) + rm.locals ≤ R.locals) :
    vx_CVW R s args own C index y bytes maxL ret hh ws rm mc ms n := by
  obtain ⟨hC, hd⟩ := hd
  subst hC
  have ok : ∀ w ∈ wsV own index y.cls y ws, w.before args s = true := fun w h => ht w (hT w h).1
  have hG : GoodIn Ts ws := fun w h => hT w (by unfold wsV; exact List.mem_append_right _ h)
  have hc : Cond.codeWith y bytes maxL ret hh ∈ ws := by rw [hw]; exact List.mem_cons_self
  refine ⟨⟨hrc, hrs, hR.1, hR.2, pay_in ht hG, hc⟩, ht _ (hG _ hc).1, ok _ (by simp [wsV]), ⟨hd.1, hd.2.1⟩, fun sig h => ?_, ok _ (by simp [wsV]), ok _ (by simp [wsV]), ok _ (by simp [wsV])⟩
  have h2 := hd.2.2
  rw [h] at h2
  exact (Option.some.inj h2).symm
theorem vx_runVW {y : MethodName} {bytes cc : ByteArray} {maxL nL mc ms n index : Nat} {ret : Option FieldType} {hh : List (Nat × Nat × Nat × Nat)} {ws : List Cond} {rm : Room} {Pc : Array Value → State → Prop} {Qc : Array Value → State → Outcome → State → Prop} {free : Addr → Prop} {Ts : List Cond} {own C : String} {b : Addr} {As rest : List Value} {g : JFrame}
    (S : CallFix p m c cc nL s args Ts own) (hM : Met l y ws rm Pc Qc mc ms free) (cw : vx_CVW R s args own C index y bytes maxL ret hh ws rm mc ms n) (hp : PreV s H C b Pc As)
    (hg : g.method = m) (hn : As.length = n) (hsize : g.locals.size = nL) (hstack : g.stack = As.reverse ++ .ref b :: rest) (hW : 2 * g.monitorRoom + (rest.map fun v => v.category).sum ≤ 8) (hdg : decode cc g.pc = .ok (.invokevirtual index, 3)) (hf : cells + mc ≤ R.cells ∧ slots + ms ≤ R.slots) :
    va_Run p l e R s m args below meth c H locs cells slots mc ms g rest (Qc (Value.ref b :: As).toArray) free := by
  obtain ⟨⟨hrc, hrs, hfr, hlo, hws, hcw⟩, hcode, hini, hy, hlen, hl, hin, hse⟩ := cw
  have hK : Back l R p e below s args y 3 8 (PreOf R mc ms Pc) (PostOf Qc mc ms free) := va_backW (hh := hh) (bytes := bytes) (maxL := maxL) (ret := ret) hM hp.1 hrc hrs hfr hlo hws hcw (fun a' U hW => word_at hW (Or.inl (by first | rfl | simp [Cond.onTables, Cond.keeps, Cond.steady])) hini)
  obtain ⟨hx, hb, hml, ho, -⟩ := S
  obtain ⟨-, ⟨cellB, hcB, hoB, hclB⟩, hPc⟩ := hp
  intro T hT X
  obtain ⟨v, vm₁, ⟨U', l2, c2, s2⟩, hW₁, X', ⟨g', mk, t, L, e1, e2, hq, h1, hL, h2, h3⟩, st⟩ := vx_callVW X hx (C := C) (hh := hh) (bytes := bytes) (maxL := maxL) (ret := ret) ho hl hin hse hcode hy hK (by rw [hT]; exact hcB) hoB hclB hg (hsize.trans hml.symm) (argsL := As) (rest := rest) (fun sig h => hn.trans (hlen sig h)) hstack hW (by rw [hb]; exact hdg)
    (fun vm₁ hW₁ => ⟨hf.1, hf.2, hPc (T.setVm vm₁) hT hW₁⟩)
  dsimp only [Pt.U, Pt.locs, Pt.cells, Pt.slots] at X' e1 e2 h1 h2 h3 st
  subst h1; subst h2; subst h3
  exact ⟨v, (T.setVm vm₁).calling g' mk (Value.ref b :: As).toArray, t, U', L, hT, X', hL, e1, e2, hq, st⟩
section
variable {y : MethodName} {bytes cc : ByteArray} {maxL nL mc ms n index : Nat} {ret : Option FieldType} {ws : List Cond} {rm : Room} {Pc : Array Value → State → Prop} {Qc : Array Value → State → Outcome → State → Prop} {XC : String → State → State → Prop} {free : Addr → Prop} {Ts : List Cond} {own C : String} {b : Addr} {As rest : List Value} {g : JFrame}
theorem vx_runVX {hh : List (Nat × Nat × Nat × Nat)} (S : CallFix p m c cc nL s args Ts own) (hM : vx_Met l y ws rm Pc Qc XC mc ms free) (cw : vx_CVW R s args own C index y bytes maxL ret hh ws rm mc ms n) (hp : PreV s H C b Pc As)
    (hg : g.method = m) (hn : As.length = n) (hsize : g.locals.size = nL) (hstack : g.stack = As.reverse ++ .ref b :: rest) (hW : 2 * g.monitorRoom + (rest.map fun v => v.category).sum ≤ 8) (hdg : decode cc g.pc = .ok (.invokevirtual index, 3)) (hf : cells + mc ≤ R.cells ∧ slots + ms ≤ R.slots) :
    vx_Run p l e R s m args below meth c H locs cells slots mc ms g rest (Qc (Value.ref b :: As).toArray) XC free := by
  obtain ⟨⟨hrc, hrs, hfr, hlo, hws, hcw⟩, hcode, hini, hy, hlen, hl, hin, hse⟩ := cw
  have hK : vx_Back l R p e below s args y 3 8 (PreOf R mc ms Pc) (PostOf Qc mc ms free) (vx_Post XC mc ms free) := vx_backW (hh := hh) (bytes := bytes) (maxL := maxL) (ret := ret) hM hp.1 hrc hrs hfr hlo hws hcw (fun a' U hW => word_at hW (Or.inl (by first | rfl | simp [Cond.onTables, Cond.keeps, Cond.steady])) hini)
  obtain ⟨hx, hb, hml, ho, -⟩ := S
  obtain ⟨-, ⟨cellB, hcB, hoB, hclB⟩, hPc⟩ := hp
  intro T hT X
  rcases vx_callVX X hx (C := C) (hh := hh) (bytes := bytes) (maxL := maxL) (ret := ret) ho hl hin hse hcode hy hK (by rw [hT]; exact hcB) hoB hclB hg (hsize.trans hml.symm) (argsL := As) (rest := rest) (fun sig h => hn.trans (hlen sig h)) hstack hW (by rw [hb]; exact hdg)
    (fun vm₁ hW₁ => ⟨hf.1, hf.2, hPc (T.setVm vm₁) hT hW₁⟩) with ⟨v, vm₁, ⟨U', l2, c2, s2⟩, hW₁, X', ⟨g', mk, t, L, e1, e2, hq, h1, hL, h2, h3⟩, st⟩ | ⟨q, vm₁, ⟨U', l2, c2, s2⟩, hW₁, X', ⟨g', mk, t, L, E, ce, e1, e2, hq, hce, hcv, hcl, h1, hL, h2, h3⟩, st⟩
  · dsimp only [Pt.U, Pt.locs, Pt.cells, Pt.slots] at X' e1 e2 h1 h2 h3 st
    subst h1; subst h2; subst h3
    exact Or.inl ⟨v, (T.setVm vm₁).calling g' mk (Value.ref b :: As).toArray, t, U', L, hT, X', hL, e1, e2, hq, st⟩
  · dsimp only [Pt.U, Pt.locs, Pt.cells, Pt.slots] at X' e1 e2 h1 h2 h3 st hcl
    subst h1; subst h2; subst h3
    exact Or.inr ⟨q, (T.setVm vm₁).calling g' mk (Value.ref b :: As).toArray, t, U', L, E, ce, hT, X', hL, e1, e2, hq, hce, hcv, vx_cls hW₁ hcl, st⟩
theorem vx_runSX {hh : List (Nat × Nat × Nat × Nat)} (S : CallFix p m c cc nL s args Ts own) (hM : vx_Met l y ws rm Pc Qc XC mc ms free) (cw : vx_CSW R s args own index y bytes maxL ret hh ws rm mc ms n) (hp : PreS s H Pc As)
    (hg : g.method = m) (hn : As.length = n) (hsize : g.locals.size = nL) (hstack : g.stack = As.reverse ++ rest) (hW : 2 * g.monitorRoom + (rest.map fun v => v.category).sum ≤ 8) (hdg : decode cc g.pc = .ok (.invokestatic index, 3)) (hf : cells + mc ≤ R.cells ∧ slots + ms ≤ R.slots) :
    vx_Run p l e R s m args below meth c H locs cells slots mc ms g rest (Qc As.toArray) XC free := by
  obtain ⟨⟨hrc, hrs, hfr, hlo, hws, hcw⟩, hcode, hini, hy, hlen, hl, hstt⟩ := cw
  have hK : vx_Back l R p e below s args y 3 8 (PreOf R mc ms Pc) (PostOf Qc mc ms free) (vx_Post XC mc ms free) := vx_backW (hh := hh) (bytes := bytes) (maxL := maxL) (ret := ret) hM hp.1 hrc hrs hfr hlo hws hcw (fun a' U hW => word_at hW (Or.inl (by first | rfl | simp [Cond.onTables, Cond.keeps, Cond.steady])) hini)
  obtain ⟨hx, hb, hml, ho, -⟩ := S
  intro T hT X
  rcases vx_callSX X hx (hh := hh) (bytes := bytes) (maxL := maxL) (ret := ret) ho hl hstt hini hcode hy hK hg (hsize.trans hml.symm) (argsL := As) (rest := rest) (fun sig h => hn.trans (hlen sig h)) hstack hW (by rw [hb]; exact hdg)
    (fun vm₁ hW₁ => ⟨hf.1, hf.2, hp.2 (T.setVm vm₁) hT hW₁⟩) with ⟨v, vm₁, ⟨U', l2, c2, s2⟩, hW₁, X', ⟨g', mk, t, L, e1, e2, hq, h1, hL, h2, h3⟩, st⟩ | ⟨q, vm₁, ⟨U', l2, c2, s2⟩, hW₁, X', ⟨g', mk, t, L, E, ce, e1, e2, hq, hce, hcv, hcl, h1, hL, h2, h3⟩, st⟩
  · dsimp only [Pt.U, Pt.locs, Pt.cells, Pt.slots] at X' e1 e2 h1 h2 h3 st
    subst h1; subst h2; subst h3
    exact Or.inl ⟨v, (T.setVm vm₁).calling g' mk As.toArray, t, U', L, hT, X', hL, e1, e2, hq, st⟩
  · dsimp only [Pt.U, Pt.locs, Pt.cells, Pt.slots] at X' e1 e2 h1 h2 h3 st hcl
    subst h1; subst h2; subst h3
    exact Or.inr ⟨q, (T.setVm vm₁).calling g' mk As.toArray, t, U', L, E, ce, hT, X', hL, e1, e2, hq, hce, hcv, vx_cls hW₁ hcl, st⟩
end
end VXH
theorem vx_ofWH {l : Launch} {y : MethodName} {ws ws' : List Cond} {rm : Room} {Pc : Array Value → State → Prop} {Qc : Array Value → State → Outcome → State → Prop} {XC : String → State → State → Prop} {mc ms : Nat} {free : Addr → Prop} {cc : ByteArray} {maxL : Nat} {ret : Option FieldType} {hh : List (Nat × Nat × Nat × Nat)}
    (hy : plainName y.cls = true) (hw : ws = Cond.codeWith y cc maxL ret hh :: ws')
    (body : ∀ p e s m args below meth c s₁, BodyLoose p l y (headSpec ws rm) cc maxL ret e s m args below meth c s₁ → c.maxLocals = maxL → Pc args s →
      W p l e (headSpec ws rm).room s m args below meth c s.heap [] 0 0 (vx_MQ below Qc XC args s mc ms free) (entryFrame m args maxL)) : vx_Met l y ws rm Pc Qc XC mc ms free := by
  refine MetFree.of_bodyS (code := cc) (maxLocals := maxL) (ret := ret) hy ?_ ?_
  · intro args s m h hn
    obtain ⟨m9, meth, c, hn9, h1, h2, h3, h4, -, h5, h6, -⟩ := Cond.codeWith_spec (atoms_spec (ws := ws) h _ (by rw [hw]; exact List.mem_cons_self))
    cases hn.symm.trans hn9
    exact ⟨meth, c, h1, h2, h3, h4, h5, h6⟩
  · intro p e s m args below meth c s₁ B hml hP _
    have hh0 : s₁.heap = s.heap := by rw [B.state]; rfl
    obtain ⟨t, a1, o, b1, b2, b3⟩ := body p e s m args below meth c s₁ B hml hP s₁ hh0 (Stand.of_body B)
    exact ⟨t, o, a1, b1, b2, b3⟩
/-! ===== END ===== -/
end
section
/-! ===== BEGIN printed: names, fields, word lists, decode rows ===== -/
def RX0 : String := "CoinMechanism"
def TX0 : u_T := fun k => match k with
  | 0 => ("CoinMechanism", "kinds", "I", false)
  | 1 => ("CoinMechanism", "values", "[I", true)
  | 2 => ("CoinMechanism", "capacities", "[I", true)
  | 3 => ("CoinMechanism", "tubes", "[I", true)
  | 4 => ("CoinMechanism", "boxed", "[I", true)
  | 5 => ("CoinMechanism", "paid", "[I", true)
  | 6 => ("CoinMechanism", "accepted", "[Z", true)
  | 7 => ("CoinMechanism", "products", "I", false)
  | 8 => ("CoinMechanism", "prices", "[I", true)
  | 9 => ("CoinMechanism", "stocks", "[I", true)
  | 10 => ("CoinMechanism", "limit", "I", false)
  | 11 => ("CoinMechanism", "waiting", "I", false)
  | 12 => ("CoinMechanism", "waitingKinds", "[I", true)
  | 13 => ("CoinMechanism", "soldProduct", "I", false)
  | 14 => ("CoinMechanism", "soldPrice", "I", false)
  | 15 => ("CoinMechanism", "counters", "[J", true)
  | 16 => ("CoinMechanism", "scores", "[J", true)
  | _ => ("CoinMechanism", "tubesAfter", "[I", true)
def tyX0 : Nat → FieldType := fun k => match k with
  | 0 => .int
  | 1 => .array .int
  | 2 => .array .int
  | 3 => .array .int
  | 4 => .array .int
  | 5 => .array .int
  | 6 => .array .boolean
  | 7 => .int
  | 8 => .array .int
  | 9 => .array .int
  | 10 => .int
  | 11 => .int
  | 12 => .array .int
  | 13 => .int
  | 14 => .int
  | 15 => .array .long
  | 16 => .array .long
  | _ => .array .int
abbrev wsX00 : List Cond := u_ws RX0 TX0 18
theorem nmX0 : ∀ a, a < 18 → ∀ b, b < 18 → a ≠ b → (TX0 a).2.1 ≠ (TX0 b).2.1 := by decide +kernel
theorem tyX0_ok : ∀ k, k < 18 → parseFieldDescriptor (TX0 k).2.2.1 = some (tyX0 k) := by decide +kernel
abbrev cX0_init : ByteArray := prog_1_method_1_code
def yX0_init : MethodName := ⟨RX0, "<init>", "()V"⟩
abbrev cX0_addKind : ByteArray := prog_1_method_2_code
def yX0_addKind : MethodName := ⟨RX0, "addKind", "(II)I"⟩
abbrev cX0_fill : ByteArray := prog_1_method_3_code
def yX0_fill : MethodName := ⟨RX0, "fill", "(II)I"⟩
abbrev cX0_addProduct : ByteArray := prog_1_method_8_code
def yX0_addProduct : MethodName := ⟨RX0, "addProduct", "(II)I"⟩
abbrev cX0_insert : ByteArray := prog_1_method_11_code
def yX0_insert : MethodName := ⟨RX0, "insert", "(I)I"⟩
abbrev cX0_cancel : ByteArray := prog_1_method_12_code
def yX0_cancel : MethodName := ⟨RX0, "cancel", "()I"⟩
abbrev cX0_buy : ByteArray := prog_1_method_13_code
def yX0_buy : MethodName := ⟨RX0, "buy", "(I)I"⟩
abbrev cX0_credit : ByteArray := prog_1_method_15_code
def yX0_credit : MethodName := ⟨RX0, "credit", "()I"⟩
abbrev cX0_coins : ByteArray := prog_1_method_17_code
def yX0_coins : MethodName := ⟨RX0, "coins", "(II)I"⟩
abbrev cX0_fewest : ByteArray := prog_1_method_18_code
def yX0_fewest : MethodName := ⟨RX0, "fewest", "(I)I"⟩
abbrev cX0_part : ByteArray := prog_1_method_19_code
def yX0_part : MethodName := ⟨RX0, "part", "(II)I"⟩
abbrev cX0_below : ByteArray := prog_1_method_20_code
def yX0_below : MethodName := ⟨RX0, "below", "(I)I"⟩
abbrev cX0_gaps : ByteArray := prog_1_method_21_code
def yX0_gaps : MethodName := ⟨RX0, "gaps", "(I)I"⟩
abbrev cX0_unit : ByteArray := prog_1_method_22_code
def yX0_unit : MethodName := ⟨RX0, "unit", "()I"⟩
abbrev cX0_audit : ByteArray := prog_1_method_24_code
def yX0_audit : MethodName := ⟨RX0, "audit", "(I)J"⟩
abbrev cX0_digest : ByteArray := prog_1_method_26_code
def yX0_digest : MethodName := ⟨RX0, "digest", "()J"⟩
abbrev cX0_checkKind : ByteArray := prog_1_method_27_code
def yX0_checkKind : MethodName := ⟨RX0, "checkKind", "(I)V"⟩
abbrev cX0_checkProduct : ByteArray := prog_1_method_28_code
def yX0_checkProduct : MethodName := ⟨RX0, "checkProduct", "(I)V"⟩
abbrev cX0_checkMany : ByteArray := prog_1_method_29_code
def yX0_checkMany : MethodName := ⟨RX0, "checkMany", "(I)V"⟩
abbrev cX0_checkPriceAndStock : ByteArray := prog_1_method_30_code
def yX0_checkPriceAndStock : MethodName := ⟨RX0, "checkPriceAndStock", "(II)V"⟩
abbrev cX0_checkAmount : ByteArray := prog_1_method_31_code
def yX0_checkAmount : MethodName := ⟨RX0, "checkAmount", "(I)V"⟩
abbrev cX0_hasKindOfValue : ByteArray := prog_1_method_32_code
def yX0_hasKindOfValue : MethodName := ⟨RX0, "hasKindOfValue", "(I)Z"⟩
abbrev cX0_dividesAllValues : ByteArray := prog_1_method_33_code
def yX0_dividesAllValues : MethodName := ⟨RX0, "dividesAllValues", "(I)Z"⟩
abbrev cX0_toldOfKind : ByteArray := prog_1_method_34_code
def yX0_toldOfKind : MethodName := ⟨RX0, "toldOfKind", "(II)I"⟩
abbrev cX0_digestOfKinds : ByteArray := prog_1_method_35_code
def yX0_digestOfKinds : MethodName := ⟨RX0, "digestOfKinds", "(J)J"⟩
abbrev cX0_waitingOf : ByteArray := prog_1_method_36_code
def yX0_waitingOf : MethodName := ⟨RX0, "waitingOf", "(I)I"⟩
abbrev cX0_foreseeTubes : ByteArray := prog_1_method_37_code
def yX0_foreseeTubes : MethodName := ⟨RX0, "foreseeTubes", "()V"⟩
abbrev cX0_dropWaiting : ByteArray := prog_1_method_38_code
def yX0_dropWaiting : MethodName := ⟨RX0, "dropWaiting", "()V"⟩
abbrev cX0_payOut : ByteArray := prog_1_method_39_code
def yX0_payOut : MethodName := ⟨RX0, "payOut", "(J)V"⟩
abbrev cX0_countSale : ByteArray := prog_1_method_40_code
def yX0_countSale : MethodName := ⟨RX0, "countSale", "(II)V"⟩
abbrev cX0_scoreWays : ByteArray := prog_1_method_41_code
def yX0_scoreWays : MethodName := ⟨RX0, "scoreWays", "(I[I)V"⟩
abbrev cX0_addKindToWays : ByteArray := prog_1_method_42_code
def yX0_addKindToWays : MethodName := ⟨RX0, "addKindToWays", "(III)V"⟩
abbrev cX0_addPackToWays : ByteArray := prog_1_method_43_code
def yX0_addPackToWays : MethodName := ⟨RX0, "addPackToWays", "(IJI)V"⟩
abbrev cX0_scoreOf : ByteArray := prog_1_method_44_code
def yX0_scoreOf : MethodName := ⟨RX0, "scoreOf", "(I)J"⟩
abbrev cX0_digitOf : ByteArray := prog_1_method_45_code
def yX0_digitOf : MethodName := ⟨RX0, "digitOf", "(I)I"⟩
abbrev cX0_coinsInWay : ByteArray := prog_1_method_46_code
def yX0_coinsInWay : MethodName := ⟨RX0, "coinsInWay", "(J)I"⟩
abbrev cX0_coinsOfKindInWay : ByteArray := prog_1_method_47_code
def yX0_coinsOfKindInWay : MethodName := ⟨RX0, "coinsOfKindInWay", "(JI)I"⟩
def RX1 : String := "CoinMechanismModel"
def TX1 : u_T := fun k => match k with
  | _ => ("", "", "", false)
def tyX1 : Nat → FieldType := fun k => match k with
  | _ => .int
abbrev wsX10 : List Cond := u_ws RX1 TX1 0
theorem nmX1 : ∀ a, a < 0 → ∀ b, b < 0 → a ≠ b → (TX1 a).2.1 ≠ (TX1 b).2.1 := by decide +kernel
theorem tyX1_ok : ∀ k, k < 0 → parseFieldDescriptor (TX1 k).2.2.1 = some (tyX1 k) := by decide +kernel
def RJ9 : String := "java/lang/Math"
def TJ9 : u_T := fun k => match k with
  | _ => ("", "", "", false)
def tyJ9 : Nat → FieldType := fun k => match k with
  | _ => .int
abbrev wsJ90 : List Cond := u_ws RJ9 TJ9 0
theorem nmJ9 : ∀ a, a < 0 → ∀ b, b < 0 → a ≠ b → (TJ9 a).2.1 ≠ (TJ9 b).2.1 := by decide +kernel
theorem tyJ9_ok : ∀ k, k < 0 → parseFieldDescriptor (TJ9 k).2.2.1 = some (tyJ9 k) := by decide +kernel
abbrev cJ9_max_f86c9 : ByteArray := prog_8_method_66_code
def yJ9_max_f86c9 : MethodName := ⟨RJ9, "max", "(JJ)J"⟩
abbrev cJ9_min_7cf53 : ByteArray := prog_8_method_69_code
def yJ9_min_7cf53 : MethodName := ⟨RJ9, "min", "(II)I"⟩
def RJ0 : String := "java/lang/String"
def TJ0 : u_T := fun k => match k with
  | _ => ("", "", "", false)
def tyJ0 : Nat → FieldType := fun k => match k with
  | _ => .int
abbrev wsJ00 : List Cond := u_ws RJ0 TJ0 0
theorem nmJ0 : ∀ a, a < 0 → ∀ b, b < 0 → a ≠ b → (TJ0 a).2.1 ≠ (TJ0 b).2.1 := by decide +kernel
theorem tyJ0_ok : ∀ k, k < 0 → parseFieldDescriptor (TJ0 k).2.2.1 = some (tyJ0 k) := by decide +kernel
def RL : String := "CoinMechanismLaw"
abbrev cL_below : ByteArray := method_2_code
def yL_below : MethodName := ⟨RL, "below", "(II)I"⟩
abbrev cL_cell : ByteArray := method_3_code
def yL_cell : MethodName := ⟨RL, "cell", "([II)I"⟩
abbrev cL_build : ByteArray := method_4_code
def yL_build : MethodName := ⟨RL, "build", "(LCoinMechanism;[IIII[I[I[I)I"⟩
abbrev cL_law : ByteArray := code
def yL_law : MethodName := ⟨RL, "law", "([I)Z"⟩
def wsX0_init : List Cond := .code yX0_init cX0_init 1 none :: ([.methodLink RX0 3 objectInit, .instanceMethod objectInit, .code objectInit ⟨#[0xb1]⟩ 1 none, .fieldLink RX0 9 "CoinMechanism" "kinds" "I", .arrayClass .int, .fieldLink RX0 13 "CoinMechanism" "values" "[I", .fieldLink RX0 17 "CoinMechanism" "capacities" "[I", .fieldLink RX0 20 "CoinMechanism" "tubes" "[I", .fieldLink RX0 23 "CoinMechanism" "boxed" "[I", .fieldLink RX0 26 "CoinMechanism" "paid" "[I", .arrayClass .boolean, .fieldLink RX0 29 "CoinMechanism" "accepted" "[Z", .fieldLink RX0 33 "CoinMechanism" "products" "I", .fieldLink RX0 36 "CoinMechanism" "prices" "[I", .fieldLink RX0 39 "CoinMechanism" "stocks" "[I", .fieldLink RX0 42 "CoinMechanism" "limit" "I", .fieldLink RX0 45 "CoinMechanism" "waiting" "I", .fieldLink RX0 48 "CoinMechanism" "waitingKinds" "[I", .fieldLink RX0 51 "CoinMechanism" "soldProduct" "I", .fieldLink RX0 54 "CoinMechanism" "soldPrice" "I", .arrayClass .long, .fieldLink RX0 57 "CoinMechanism" "counters" "[J", .fieldLink RX0 61 "CoinMechanism" "scores" "[J", .fieldLink RX0 64 "CoinMechanism" "tubesAfter" "[I"] ++ wsX00)
def wsX0_hasKindOfValue : List Cond := .code yX0_hasKindOfValue cX0_hasKindOfValue 3 (some .boolean) :: ([.fieldLink RX0 9 "CoinMechanism" "kinds" "I", .fieldLink RX0 13 "CoinMechanism" "values" "[I"] ++ wsX00)
def wsX0_addKind : List Cond := .code yX0_addKind cX0_addKind 3 (some .int) :: ([.classLink RX0 67 "java/lang/IllegalArgumentException", .initialized "java/lang/IllegalArgumentException", .classLink RX0 76 "java/lang/IllegalStateException", .initialized "java/lang/IllegalStateException", .fieldLink RX0 9 "CoinMechanism" "kinds" "I", .fieldLink RX0 13 "CoinMechanism" "values" "[I", .fieldLink RX0 17 "CoinMechanism" "capacities" "[I", .fieldLink RX0 29 "CoinMechanism" "accepted" "[Z", .methodLink RX0 81 yX0_hasKindOfValue, .instanceMethod yX0_hasKindOfValue, .selects RX0 yX0_hasKindOfValue yX0_hasKindOfValue, .initialized RX0, .code yX0_hasKindOfValue cX0_hasKindOfValue 3 (some .boolean)] ++ wsX00 ++ (vx_atS RX0 71 "java/lang/IllegalArgumentException" ["java/lang/RuntimeException", "java/lang/Exception"]).filter goodWord ++ (vx_atS RX0 80 "java/lang/IllegalStateException" ["java/lang/RuntimeException", "java/lang/Exception"]).filter goodWord)
def wsX0_checkKind : List Cond := .code yX0_checkKind cX0_checkKind 2 none :: ([.classLink RX0 144 "java/lang/IndexOutOfBoundsException", .initialized "java/lang/IndexOutOfBoundsException", .fieldLink RX0 9 "CoinMechanism" "kinds" "I"] ++ wsX00 ++ (vx_atS RX0 148 "java/lang/IndexOutOfBoundsException" ["java/lang/RuntimeException", "java/lang/Exception"]).filter goodWord)
def wsX0_checkMany : List Cond := .code yX0_checkMany cX0_checkMany 1 none :: ([.classLink RX0 67 "java/lang/IllegalArgumentException", .initialized "java/lang/IllegalArgumentException"] ++ (vx_atS RX0 71 "java/lang/IllegalArgumentException" ["java/lang/RuntimeException", "java/lang/Exception"]).filter goodWord)
def wsX0_fill : List Cond := .code yX0_fill cX0_fill 4 (some .int) :: ([.fieldLink RX0 17 "CoinMechanism" "capacities" "[I", .fieldLink RX0 20 "CoinMechanism" "tubes" "[I", .methodLink RX0 94 Lib.Math.min.name, .static Lib.Math.min.name, .initialized "java/lang/Math", .code Lib.Math.min.name Lib.Math.min.code 2 (some .int), .fieldLink RX0 57 "CoinMechanism" "counters" "[J", .fieldLink RX0 13 "CoinMechanism" "values" "[I", .methodLink RX0 87 yX0_checkKind, .instanceMethod yX0_checkKind, .selects RX0 yX0_checkKind yX0_checkKind, .initialized RX0, .code yX0_checkKind cX0_checkKind 2 none, .classLink RX0 144 "java/lang/IndexOutOfBoundsException", .initialized "java/lang/IndexOutOfBoundsException", .fieldLink RX0 9 "CoinMechanism" "kinds" "I", .methodLink RX0 91 yX0_checkMany, .static yX0_checkMany, .code yX0_checkMany cX0_checkMany 1 none, .classLink RX0 67 "java/lang/IllegalArgumentException", .initialized "java/lang/IllegalArgumentException"] ++ wsX00 ++ (vx_atS RX0 148 "java/lang/IndexOutOfBoundsException" ["java/lang/RuntimeException", "java/lang/Exception"]).filter goodWord ++ (vx_atS RX0 71 "java/lang/IllegalArgumentException" ["java/lang/RuntimeException", "java/lang/Exception"]).filter goodWord)
def wsX0_checkPriceAndStock : List Cond := .code yX0_checkPriceAndStock cX0_checkPriceAndStock 2 none :: ([.classLink RX0 67 "java/lang/IllegalArgumentException", .initialized "java/lang/IllegalArgumentException"] ++ (vx_atS RX0 71 "java/lang/IllegalArgumentException" ["java/lang/RuntimeException", "java/lang/Exception"]).filter goodWord)
def wsX0_addProduct : List Cond := .code yX0_addProduct cX0_addProduct 3 (some .int) :: ([.classLink RX0 76 "java/lang/IllegalStateException", .initialized "java/lang/IllegalStateException", .fieldLink RX0 33 "CoinMechanism" "products" "I", .fieldLink RX0 36 "CoinMechanism" "prices" "[I", .fieldLink RX0 39 "CoinMechanism" "stocks" "[I", .methodLink RX0 102 yX0_checkPriceAndStock, .static yX0_checkPriceAndStock, .initialized RX0, .code yX0_checkPriceAndStock cX0_checkPriceAndStock 2 none, .classLink RX0 67 "java/lang/IllegalArgumentException", .initialized "java/lang/IllegalArgumentException"] ++ wsX00 ++ (vx_atS RX0 80 "java/lang/IllegalStateException" ["java/lang/RuntimeException", "java/lang/Exception"]).filter goodWord ++ (vx_atS RX0 71 "java/lang/IllegalArgumentException" ["java/lang/RuntimeException", "java/lang/Exception"]).filter goodWord)
def wsX0_waitingOf : List Cond := .code yX0_waitingOf cX0_waitingOf 4 (some .int) :: ([.fieldLink RX0 45 "CoinMechanism" "waiting" "I", .fieldLink RX0 48 "CoinMechanism" "waitingKinds" "[I"] ++ wsX00)
def wsX0_credit : List Cond := .code yX0_credit cX0_credit 3 (some .int) :: ([.fieldLink RX0 9 "CoinMechanism" "kinds" "I", .fieldLink RX0 13 "CoinMechanism" "values" "[I", .methodLink RX0 140 yX0_waitingOf, .instanceMethod yX0_waitingOf, .selects RX0 yX0_waitingOf yX0_waitingOf, .initialized RX0, .code yX0_waitingOf cX0_waitingOf 4 (some .int), .fieldLink RX0 45 "CoinMechanism" "waiting" "I", .fieldLink RX0 48 "CoinMechanism" "waitingKinds" "[I"] ++ wsX00)
def wsX0_insert : List Cond := .code yX0_insert cX0_insert 2 (some .int) :: ([.fieldLink RX0 29 "CoinMechanism" "accepted" "[Z", .fieldLink RX0 45 "CoinMechanism" "waiting" "I", .fieldLink RX0 13 "CoinMechanism" "values" "[I", .fieldLink RX0 42 "CoinMechanism" "limit" "I", .fieldLink RX0 48 "CoinMechanism" "waitingKinds" "[I", .fieldLink RX0 57 "CoinMechanism" "counters" "[J", .methodLink RX0 87 yX0_checkKind, .instanceMethod yX0_checkKind, .selects RX0 yX0_checkKind yX0_checkKind, .initialized RX0, .code yX0_checkKind cX0_checkKind 2 none, .classLink RX0 144 "java/lang/IndexOutOfBoundsException", .initialized "java/lang/IndexOutOfBoundsException", .fieldLink RX0 9 "CoinMechanism" "kinds" "I", .methodLink RX0 111 yX0_credit, .instanceMethod yX0_credit, .selects RX0 yX0_credit yX0_credit, .code yX0_credit cX0_credit 3 (some .int), .methodLink RX0 140 yX0_waitingOf, .instanceMethod yX0_waitingOf, .selects RX0 yX0_waitingOf yX0_waitingOf, .code yX0_waitingOf cX0_waitingOf 4 (some .int)] ++ wsX00 ++ (vx_atS RX0 148 "java/lang/IndexOutOfBoundsException" ["java/lang/RuntimeException", "java/lang/Exception"]).filter goodWord)
def wsX0_cancel : List Cond := .code yX0_cancel cX0_cancel 2 (some .int) :: ([.fieldLink RX0 45 "CoinMechanism" "waiting" "I", .fieldLink RX0 57 "CoinMechanism" "counters" "[J", .methodLink RX0 111 yX0_credit, .instanceMethod yX0_credit, .selects RX0 yX0_credit yX0_credit, .initialized RX0, .code yX0_credit cX0_credit 3 (some .int), .fieldLink RX0 9 "CoinMechanism" "kinds" "I", .fieldLink RX0 13 "CoinMechanism" "values" "[I", .methodLink RX0 140 yX0_waitingOf, .instanceMethod yX0_waitingOf, .selects RX0 yX0_waitingOf yX0_waitingOf, .code yX0_waitingOf cX0_waitingOf 4 (some .int), .fieldLink RX0 48 "CoinMechanism" "waitingKinds" "[I"] ++ wsX00)
def wsX0_checkProduct : List Cond := .code yX0_checkProduct cX0_checkProduct 2 none :: ([.classLink RX0 144 "java/lang/IndexOutOfBoundsException", .initialized "java/lang/IndexOutOfBoundsException", .fieldLink RX0 33 "CoinMechanism" "products" "I"] ++ wsX00 ++ (vx_atS RX0 148 "java/lang/IndexOutOfBoundsException" ["java/lang/RuntimeException", "java/lang/Exception"]).filter goodWord)
def wsX0_foreseeTubes : List Cond := .code yX0_foreseeTubes cX0_foreseeTubes 2 none :: ([.fieldLink RX0 9 "CoinMechanism" "kinds" "I", .fieldLink RX0 64 "CoinMechanism" "tubesAfter" "[I", .fieldLink RX0 20 "CoinMechanism" "tubes" "[I", .fieldLink RX0 17 "CoinMechanism" "capacities" "[I", .methodLink RX0 94 Lib.Math.min.name, .static Lib.Math.min.name, .initialized "java/lang/Math", .code Lib.Math.min.name Lib.Math.min.code 2 (some .int), .methodLink RX0 140 yX0_waitingOf, .instanceMethod yX0_waitingOf, .selects RX0 yX0_waitingOf yX0_waitingOf, .initialized RX0, .code yX0_waitingOf cX0_waitingOf 4 (some .int), .fieldLink RX0 45 "CoinMechanism" "waiting" "I", .fieldLink RX0 48 "CoinMechanism" "waitingKinds" "[I"] ++ wsX00)
def wsX0_digitOf : List Cond := .code yX0_digitOf cX0_digitOf 4 (some .int) :: ([.fieldLink RX0 9 "CoinMechanism" "kinds" "I", .fieldLink RX0 13 "CoinMechanism" "values" "[I"] ++ wsX00)
def wsX0_addPackToWays : List Cond := .code yX0_addPackToWays cX0_addPackToWays 8 none :: ([.fieldLink RX0 61 "CoinMechanism" "scores" "[J", .constantLong RX0 126 (-4611686018427387904), .methodLink RX0 209 Lib.MathLoose.max_long.x, .static Lib.MathLoose.max_long.x, .initialized "java/lang/Math", .code Lib.MathLoose.max_long.x Lib.MathLoose.max_long.code 4 (some .long)] ++ wsX00)
def wsX0_addKindToWays : List Cond := .code yX0_addKindToWays cX0_addKindToWays 9 none :: ([.constantLong RX0 203 (281474976710656), .methodLink RX0 94 Lib.Math.min.name, .static Lib.Math.min.name, .initialized "java/lang/Math", .code Lib.Math.min.name Lib.Math.min.code 2 (some .int), .fieldLink RX0 13 "CoinMechanism" "values" "[I", .methodLink RX0 200 yX0_digitOf, .instanceMethod yX0_digitOf, .selects RX0 yX0_digitOf yX0_digitOf, .initialized RX0, .code yX0_digitOf cX0_digitOf 4 (some .int), .fieldLink RX0 9 "CoinMechanism" "kinds" "I", .methodLink RX0 205 yX0_addPackToWays, .instanceMethod yX0_addPackToWays, .selects RX0 yX0_addPackToWays yX0_addPackToWays, .code yX0_addPackToWays cX0_addPackToWays 8 none, .fieldLink RX0 61 "CoinMechanism" "scores" "[J", .constantLong RX0 126 (-4611686018427387904), .methodLink RX0 209 Lib.MathLoose.max_long.x, .static Lib.MathLoose.max_long.x, .code Lib.MathLoose.max_long.x Lib.MathLoose.max_long.code 4 (some .long)] ++ wsX00)
def wsX0_scoreWays_r1 : List Cond := [Cond.methodLink RX0 94 Lib.Math.min.name, Cond.static Lib.Math.min.name, Cond.initialized "java/lang/Math", Cond.code Lib.Math.min.name Lib.Math.min.code 2 (some .int), Cond.fieldLink RX0 61 "CoinMechanism" "scores" "[J", Cond.constantLong RX0 126 (-4611686018427387904), Cond.fieldLink RX0 9 "CoinMechanism" "kinds" "I", Cond.methodLink RX0 196 yX0_addKindToWays, Cond.instanceMethod yX0_addKindToWays, Cond.selects RX0 yX0_addKindToWays yX0_addKindToWays, Cond.initialized RX0, Cond.code yX0_addKindToWays cX0_addKindToWays 9 none, Cond.constantLong RX0 203 (281474976710656), Cond.fieldLink RX0 13 "CoinMechanism" "values" "[I", Cond.methodLink RX0 200 yX0_digitOf, Cond.instanceMethod yX0_digitOf, Cond.selects RX0 yX0_digitOf yX0_digitOf, Cond.code yX0_digitOf cX0_digitOf 4 (some .int), Cond.methodLink RX0 205 yX0_addPackToWays, Cond.instanceMethod yX0_addPackToWays, Cond.selects RX0 yX0_addPackToWays yX0_addPackToWays, Cond.code yX0_addPackToWays cX0_addPackToWays 8 none, Cond.methodLink RX0 209 Lib.MathLoose.max_long.x, Cond.static Lib.MathLoose.max_long.x]
def wsX0_scoreWays_r2 : List Cond := [Cond.code Lib.MathLoose.max_long.x Lib.MathLoose.max_long.code 4 (some .long)]
def wsX0_scoreWays : List Cond := .code yX0_scoreWays cX0_scoreWays 5 none :: ((wsX0_scoreWays_r1 ++ wsX0_scoreWays_r2) ++ wsX00)
def wsX0_scoreOf : List Cond := .code yX0_scoreOf cX0_scoreOf 2 (some .long) :: ([.constantLong RX0 126 (-4611686018427387904), .fieldLink RX0 61 "CoinMechanism" "scores" "[J"] ++ wsX00)
def wsX0_dropWaiting : List Cond := .code yX0_dropWaiting cX0_dropWaiting 4 none :: ([.fieldLink RX0 9 "CoinMechanism" "kinds" "I", .fieldLink RX0 17 "CoinMechanism" "capacities" "[I", .fieldLink RX0 20 "CoinMechanism" "tubes" "[I", .methodLink RX0 94 Lib.Math.min.name, .static Lib.Math.min.name, .initialized "java/lang/Math", .code Lib.Math.min.name Lib.Math.min.code 2 (some .int), .fieldLink RX0 23 "CoinMechanism" "boxed" "[I", .fieldLink RX0 45 "CoinMechanism" "waiting" "I", .methodLink RX0 140 yX0_waitingOf, .instanceMethod yX0_waitingOf, .selects RX0 yX0_waitingOf yX0_waitingOf, .initialized RX0, .code yX0_waitingOf cX0_waitingOf 4 (some .int), .fieldLink RX0 48 "CoinMechanism" "waitingKinds" "[I"] ++ wsX00)
def wsX0_coinsOfKindInWay : List Cond := .code yX0_coinsOfKindInWay cX0_coinsOfKindInWay 4 (some .int) :: ([.constantLong RX0 213 (63), .methodLink RX0 200 yX0_digitOf, .instanceMethod yX0_digitOf, .selects RX0 yX0_digitOf yX0_digitOf, .initialized RX0, .code yX0_digitOf cX0_digitOf 4 (some .int), .fieldLink RX0 9 "CoinMechanism" "kinds" "I", .fieldLink RX0 13 "CoinMechanism" "values" "[I"] ++ wsX00)
def wsX0_payOut : List Cond := .code yX0_payOut cX0_payOut 4 none :: ([.fieldLink RX0 9 "CoinMechanism" "kinds" "I", .fieldLink RX0 26 "CoinMechanism" "paid" "[I", .fieldLink RX0 20 "CoinMechanism" "tubes" "[I", .methodLink RX0 161 yX0_coinsOfKindInWay, .instanceMethod yX0_coinsOfKindInWay, .selects RX0 yX0_coinsOfKindInWay yX0_coinsOfKindInWay, .initialized RX0, .code yX0_coinsOfKindInWay cX0_coinsOfKindInWay 4 (some .int), .constantLong RX0 213 (63), .methodLink RX0 200 yX0_digitOf, .instanceMethod yX0_digitOf, .selects RX0 yX0_digitOf yX0_digitOf, .code yX0_digitOf cX0_digitOf 4 (some .int), .fieldLink RX0 13 "CoinMechanism" "values" "[I"] ++ wsX00)
def wsX0_countSale : List Cond := .code yX0_countSale cX0_countSale 3 none :: ([.fieldLink RX0 57 "CoinMechanism" "counters" "[J"] ++ wsX00)
def wsX0_buy_r1 : List Cond := [Cond.fieldLink RX0 39 "CoinMechanism" "stocks" "[I", Cond.fieldLink RX0 36 "CoinMechanism" "prices" "[I", Cond.fieldLink RX0 64 "CoinMechanism" "tubesAfter" "[I", Cond.constantLong RX0 126 (-4611686018427387904), Cond.fieldLink RX0 51 "CoinMechanism" "soldProduct" "I", Cond.fieldLink RX0 54 "CoinMechanism" "soldPrice" "I", Cond.methodLink RX0 108 yX0_checkProduct, Cond.instanceMethod yX0_checkProduct, Cond.selects RX0 yX0_checkProduct yX0_checkProduct, Cond.initialized RX0, Cond.code yX0_checkProduct cX0_checkProduct 2 none, Cond.classLink RX0 144 "java/lang/IndexOutOfBoundsException", Cond.initialized "java/lang/IndexOutOfBoundsException", Cond.fieldLink RX0 33 "CoinMechanism" "products" "I", Cond.methodLink RX0 111 yX0_credit, Cond.instanceMethod yX0_credit, Cond.selects RX0 yX0_credit yX0_credit, Cond.code yX0_credit cX0_credit 3 (some .int), Cond.fieldLink RX0 9 "CoinMechanism" "kinds" "I", Cond.fieldLink RX0 13 "CoinMechanism" "values" "[I", Cond.methodLink RX0 140 yX0_waitingOf, Cond.instanceMethod yX0_waitingOf, Cond.selects RX0 yX0_waitingOf yX0_waitingOf, Cond.code yX0_waitingOf cX0_waitingOf 4 (some .int)]
def wsX0_buy_r2 : List Cond := [Cond.fieldLink RX0 45 "CoinMechanism" "waiting" "I", Cond.fieldLink RX0 48 "CoinMechanism" "waitingKinds" "[I", Cond.methodLink RX0 115 yX0_foreseeTubes, Cond.instanceMethod yX0_foreseeTubes, Cond.selects RX0 yX0_foreseeTubes yX0_foreseeTubes, Cond.code yX0_foreseeTubes cX0_foreseeTubes 2 none, Cond.fieldLink RX0 20 "CoinMechanism" "tubes" "[I", Cond.fieldLink RX0 17 "CoinMechanism" "capacities" "[I", Cond.methodLink RX0 94 Lib.Math.min.name, Cond.static Lib.Math.min.name, Cond.initialized "java/lang/Math", Cond.code Lib.Math.min.name Lib.Math.min.code 2 (some .int), Cond.methodLink RX0 118 yX0_scoreWays, Cond.instanceMethod yX0_scoreWays, Cond.selects RX0 yX0_scoreWays yX0_scoreWays, Cond.code yX0_scoreWays cX0_scoreWays 5 none, Cond.fieldLink RX0 61 "CoinMechanism" "scores" "[J", Cond.methodLink RX0 196 yX0_addKindToWays, Cond.instanceMethod yX0_addKindToWays, Cond.selects RX0 yX0_addKindToWays yX0_addKindToWays, Cond.code yX0_addKindToWays cX0_addKindToWays 9 none, Cond.constantLong RX0 203 (281474976710656), Cond.methodLink RX0 200 yX0_digitOf, Cond.instanceMethod yX0_digitOf]
def wsX0_buy_r3 : List Cond := [Cond.selects RX0 yX0_digitOf yX0_digitOf, Cond.code yX0_digitOf cX0_digitOf 4 (some .int), Cond.methodLink RX0 205 yX0_addPackToWays, Cond.instanceMethod yX0_addPackToWays, Cond.selects RX0 yX0_addPackToWays yX0_addPackToWays, Cond.code yX0_addPackToWays cX0_addPackToWays 8 none, Cond.methodLink RX0 209 Lib.MathLoose.max_long.x, Cond.static Lib.MathLoose.max_long.x, Cond.code Lib.MathLoose.max_long.x Lib.MathLoose.max_long.code 4 (some .long), Cond.methodLink RX0 122 yX0_scoreOf, Cond.instanceMethod yX0_scoreOf, Cond.selects RX0 yX0_scoreOf yX0_scoreOf, Cond.code yX0_scoreOf cX0_scoreOf 2 (some .long), Cond.methodLink RX0 128 yX0_dropWaiting, Cond.instanceMethod yX0_dropWaiting, Cond.selects RX0 yX0_dropWaiting yX0_dropWaiting, Cond.code yX0_dropWaiting cX0_dropWaiting 4 none, Cond.fieldLink RX0 23 "CoinMechanism" "boxed" "[I", Cond.methodLink RX0 131 yX0_payOut, Cond.instanceMethod yX0_payOut, Cond.selects RX0 yX0_payOut yX0_payOut, Cond.code yX0_payOut cX0_payOut 4 none, Cond.fieldLink RX0 26 "CoinMechanism" "paid" "[I", Cond.methodLink RX0 161 yX0_coinsOfKindInWay]
def wsX0_buy_r4 : List Cond := [Cond.instanceMethod yX0_coinsOfKindInWay, Cond.selects RX0 yX0_coinsOfKindInWay yX0_coinsOfKindInWay, Cond.code yX0_coinsOfKindInWay cX0_coinsOfKindInWay 4 (some .int), Cond.constantLong RX0 213 (63), Cond.methodLink RX0 135 yX0_countSale, Cond.instanceMethod yX0_countSale, Cond.selects RX0 yX0_countSale yX0_countSale, Cond.code yX0_countSale cX0_countSale 3 none, Cond.fieldLink RX0 57 "CoinMechanism" "counters" "[J"]
def wsX0_buy : List Cond := .code yX0_buy cX0_buy 6 (some .int) :: ((wsX0_buy_r1 ++ (wsX0_buy_r2 ++ (wsX0_buy_r3 ++ wsX0_buy_r4))) ++ wsX00 ++ (vx_atS RX0 148 "java/lang/IndexOutOfBoundsException" ["java/lang/RuntimeException", "java/lang/Exception"]).filter goodWord)
def wsX0_toldOfKind : List Cond := .code yX0_toldOfKind cX0_toldOfKind 3 (some .int) :: ([.fieldLink RX0 13 "CoinMechanism" "values" "[I", .fieldLink RX0 20 "CoinMechanism" "tubes" "[I", .fieldLink RX0 23 "CoinMechanism" "boxed" "[I", .fieldLink RX0 26 "CoinMechanism" "paid" "[I"] ++ wsX00)
def wsX0_coins : List Cond := .code yX0_coins cX0_coins 3 (some .int) :: ([.classLink RX0 144 "java/lang/IndexOutOfBoundsException", .initialized "java/lang/IndexOutOfBoundsException", .methodLink RX0 87 yX0_checkKind, .instanceMethod yX0_checkKind, .selects RX0 yX0_checkKind yX0_checkKind, .initialized RX0, .code yX0_checkKind cX0_checkKind 2 none, .fieldLink RX0 9 "CoinMechanism" "kinds" "I", .methodLink RX0 151 yX0_toldOfKind, .instanceMethod yX0_toldOfKind, .selects RX0 yX0_toldOfKind yX0_toldOfKind, .code yX0_toldOfKind cX0_toldOfKind 3 (some .int), .fieldLink RX0 13 "CoinMechanism" "values" "[I", .fieldLink RX0 20 "CoinMechanism" "tubes" "[I", .fieldLink RX0 23 "CoinMechanism" "boxed" "[I", .fieldLink RX0 26 "CoinMechanism" "paid" "[I"] ++ wsX00 ++ (vx_atS RX0 148 "java/lang/IndexOutOfBoundsException" ["java/lang/RuntimeException", "java/lang/Exception"]).filter goodWord)
def wsX0_checkAmount : List Cond := .code yX0_checkAmount cX0_checkAmount 1 none :: ([.classLink RX0 67 "java/lang/IllegalArgumentException", .initialized "java/lang/IllegalArgumentException"] ++ (vx_atS RX0 71 "java/lang/IllegalArgumentException" ["java/lang/RuntimeException", "java/lang/Exception"]).filter goodWord)
def wsX0_coinsInWay : List Cond := .code yX0_coinsInWay cX0_coinsInWay 2 (some .int) :: ([])
def wsX0_fewest_r1 : List Cond := [Cond.fieldLink RX0 20 "CoinMechanism" "tubes" "[I", Cond.constantLong RX0 126 (-4611686018427387904), Cond.methodLink RX0 154 yX0_checkAmount, Cond.static yX0_checkAmount, Cond.initialized RX0, Cond.code yX0_checkAmount cX0_checkAmount 1 none, Cond.classLink RX0 67 "java/lang/IllegalArgumentException", Cond.initialized "java/lang/IllegalArgumentException", Cond.methodLink RX0 118 yX0_scoreWays, Cond.instanceMethod yX0_scoreWays, Cond.selects RX0 yX0_scoreWays yX0_scoreWays, Cond.code yX0_scoreWays cX0_scoreWays 5 none, Cond.methodLink RX0 94 Lib.Math.min.name, Cond.static Lib.Math.min.name, Cond.initialized "java/lang/Math", Cond.code Lib.Math.min.name Lib.Math.min.code 2 (some .int), Cond.fieldLink RX0 61 "CoinMechanism" "scores" "[J", Cond.fieldLink RX0 9 "CoinMechanism" "kinds" "I", Cond.methodLink RX0 196 yX0_addKindToWays, Cond.instanceMethod yX0_addKindToWays, Cond.selects RX0 yX0_addKindToWays yX0_addKindToWays, Cond.code yX0_addKindToWays cX0_addKindToWays 9 none, Cond.constantLong RX0 203 (281474976710656), Cond.fieldLink RX0 13 "CoinMechanism" "values" "[I"]
def wsX0_fewest_r2 : List Cond := [Cond.methodLink RX0 200 yX0_digitOf, Cond.instanceMethod yX0_digitOf, Cond.selects RX0 yX0_digitOf yX0_digitOf, Cond.code yX0_digitOf cX0_digitOf 4 (some .int), Cond.methodLink RX0 205 yX0_addPackToWays, Cond.instanceMethod yX0_addPackToWays, Cond.selects RX0 yX0_addPackToWays yX0_addPackToWays, Cond.code yX0_addPackToWays cX0_addPackToWays 8 none, Cond.methodLink RX0 209 Lib.MathLoose.max_long.x, Cond.static Lib.MathLoose.max_long.x, Cond.code Lib.MathLoose.max_long.x Lib.MathLoose.max_long.code 4 (some .long), Cond.methodLink RX0 122 yX0_scoreOf, Cond.instanceMethod yX0_scoreOf, Cond.selects RX0 yX0_scoreOf yX0_scoreOf, Cond.code yX0_scoreOf cX0_scoreOf 2 (some .long), Cond.methodLink RX0 157 yX0_coinsInWay, Cond.static yX0_coinsInWay, Cond.code yX0_coinsInWay cX0_coinsInWay 2 (some .int)]
def wsX0_fewest : List Cond := .code yX0_fewest cX0_fewest 4 (some .int) :: ((wsX0_fewest_r1 ++ wsX0_fewest_r2) ++ wsX00 ++ (vx_atS RX0 71 "java/lang/IllegalArgumentException" ["java/lang/RuntimeException", "java/lang/Exception"]).filter goodWord)
def wsX0_part_r1 : List Cond := [Cond.fieldLink RX0 20 "CoinMechanism" "tubes" "[I", Cond.constantLong RX0 126 (-4611686018427387904), Cond.methodLink RX0 154 yX0_checkAmount, Cond.static yX0_checkAmount, Cond.initialized RX0, Cond.code yX0_checkAmount cX0_checkAmount 1 none, Cond.classLink RX0 67 "java/lang/IllegalArgumentException", Cond.initialized "java/lang/IllegalArgumentException", Cond.methodLink RX0 87 yX0_checkKind, Cond.instanceMethod yX0_checkKind, Cond.selects RX0 yX0_checkKind yX0_checkKind, Cond.code yX0_checkKind cX0_checkKind 2 none, Cond.classLink RX0 144 "java/lang/IndexOutOfBoundsException", Cond.initialized "java/lang/IndexOutOfBoundsException", Cond.fieldLink RX0 9 "CoinMechanism" "kinds" "I", Cond.methodLink RX0 118 yX0_scoreWays, Cond.instanceMethod yX0_scoreWays, Cond.selects RX0 yX0_scoreWays yX0_scoreWays, Cond.code yX0_scoreWays cX0_scoreWays 5 none, Cond.methodLink RX0 94 Lib.Math.min.name, Cond.static Lib.Math.min.name, Cond.initialized "java/lang/Math", Cond.code Lib.Math.min.name Lib.Math.min.code 2 (some .int), Cond.fieldLink RX0 61 "CoinMechanism" "scores" "[J"]
def wsX0_part_r2 : List Cond := [Cond.methodLink RX0 196 yX0_addKindToWays, Cond.instanceMethod yX0_addKindToWays, Cond.selects RX0 yX0_addKindToWays yX0_addKindToWays, Cond.code yX0_addKindToWays cX0_addKindToWays 9 none, Cond.constantLong RX0 203 (281474976710656), Cond.fieldLink RX0 13 "CoinMechanism" "values" "[I", Cond.methodLink RX0 200 yX0_digitOf, Cond.instanceMethod yX0_digitOf, Cond.selects RX0 yX0_digitOf yX0_digitOf, Cond.code yX0_digitOf cX0_digitOf 4 (some .int), Cond.methodLink RX0 205 yX0_addPackToWays, Cond.instanceMethod yX0_addPackToWays, Cond.selects RX0 yX0_addPackToWays yX0_addPackToWays, Cond.code yX0_addPackToWays cX0_addPackToWays 8 none, Cond.methodLink RX0 209 Lib.MathLoose.max_long.x, Cond.static Lib.MathLoose.max_long.x, Cond.code Lib.MathLoose.max_long.x Lib.MathLoose.max_long.code 4 (some .long), Cond.methodLink RX0 122 yX0_scoreOf, Cond.instanceMethod yX0_scoreOf, Cond.selects RX0 yX0_scoreOf yX0_scoreOf, Cond.code yX0_scoreOf cX0_scoreOf 2 (some .long), Cond.methodLink RX0 161 yX0_coinsOfKindInWay, Cond.instanceMethod yX0_coinsOfKindInWay, Cond.selects RX0 yX0_coinsOfKindInWay yX0_coinsOfKindInWay]
def wsX0_part_r3 : List Cond := [Cond.code yX0_coinsOfKindInWay cX0_coinsOfKindInWay 4 (some .int), Cond.constantLong RX0 213 (63)]
def wsX0_part : List Cond := .code yX0_part cX0_part 5 (some .int) :: ((wsX0_part_r1 ++ (wsX0_part_r2 ++ wsX0_part_r3)) ++ wsX00 ++ (vx_atS RX0 71 "java/lang/IllegalArgumentException" ["java/lang/RuntimeException", "java/lang/Exception"]).filter goodWord ++ (vx_atS RX0 148 "java/lang/IndexOutOfBoundsException" ["java/lang/RuntimeException", "java/lang/Exception"]).filter goodWord)
def wsX0_below_r1 : List Cond := [Cond.fieldLink RX0 20 "CoinMechanism" "tubes" "[I", Cond.constantLong RX0 126 (-4611686018427387904), Cond.methodLink RX0 154 yX0_checkAmount, Cond.static yX0_checkAmount, Cond.initialized RX0, Cond.code yX0_checkAmount cX0_checkAmount 1 none, Cond.classLink RX0 67 "java/lang/IllegalArgumentException", Cond.initialized "java/lang/IllegalArgumentException", Cond.methodLink RX0 118 yX0_scoreWays, Cond.instanceMethod yX0_scoreWays, Cond.selects RX0 yX0_scoreWays yX0_scoreWays, Cond.code yX0_scoreWays cX0_scoreWays 5 none, Cond.methodLink RX0 94 Lib.Math.min.name, Cond.static Lib.Math.min.name, Cond.initialized "java/lang/Math", Cond.code Lib.Math.min.name Lib.Math.min.code 2 (some .int), Cond.fieldLink RX0 61 "CoinMechanism" "scores" "[J", Cond.fieldLink RX0 9 "CoinMechanism" "kinds" "I", Cond.methodLink RX0 196 yX0_addKindToWays, Cond.instanceMethod yX0_addKindToWays, Cond.selects RX0 yX0_addKindToWays yX0_addKindToWays, Cond.code yX0_addKindToWays cX0_addKindToWays 9 none, Cond.constantLong RX0 203 (281474976710656), Cond.fieldLink RX0 13 "CoinMechanism" "values" "[I"]
def wsX0_below_r2 : List Cond := [Cond.methodLink RX0 200 yX0_digitOf, Cond.instanceMethod yX0_digitOf, Cond.selects RX0 yX0_digitOf yX0_digitOf, Cond.code yX0_digitOf cX0_digitOf 4 (some .int), Cond.methodLink RX0 205 yX0_addPackToWays, Cond.instanceMethod yX0_addPackToWays, Cond.selects RX0 yX0_addPackToWays yX0_addPackToWays, Cond.code yX0_addPackToWays cX0_addPackToWays 8 none, Cond.methodLink RX0 209 Lib.MathLoose.max_long.x, Cond.static Lib.MathLoose.max_long.x, Cond.code Lib.MathLoose.max_long.x Lib.MathLoose.max_long.code 4 (some .long), Cond.methodLink RX0 122 yX0_scoreOf, Cond.instanceMethod yX0_scoreOf, Cond.selects RX0 yX0_scoreOf yX0_scoreOf, Cond.code yX0_scoreOf cX0_scoreOf 2 (some .long)]
def wsX0_below : List Cond := .code yX0_below cX0_below 3 (some .int) :: ((wsX0_below_r1 ++ wsX0_below_r2) ++ wsX00 ++ (vx_atS RX0 71 "java/lang/IllegalArgumentException" ["java/lang/RuntimeException", "java/lang/Exception"]).filter goodWord)
def wsX0_dividesAllValues : List Cond := .code yX0_dividesAllValues cX0_dividesAllValues 3 (some .boolean) :: ([.fieldLink RX0 9 "CoinMechanism" "kinds" "I", .fieldLink RX0 13 "CoinMechanism" "values" "[I"] ++ wsX00)
def wsX0_unit : List Cond := .code yX0_unit cX0_unit 2 (some .int) :: ([.fieldLink RX0 9 "CoinMechanism" "kinds" "I", .methodLink RX0 168 yX0_dividesAllValues, .instanceMethod yX0_dividesAllValues, .selects RX0 yX0_dividesAllValues yX0_dividesAllValues, .initialized RX0, .code yX0_dividesAllValues cX0_dividesAllValues 3 (some .boolean), .fieldLink RX0 13 "CoinMechanism" "values" "[I"] ++ wsX00)
def wsX0_gaps_r1 : List Cond := [Cond.fieldLink RX0 20 "CoinMechanism" "tubes" "[I", Cond.constantLong RX0 126 (-4611686018427387904), Cond.methodLink RX0 154 yX0_checkAmount, Cond.static yX0_checkAmount, Cond.initialized RX0, Cond.code yX0_checkAmount cX0_checkAmount 1 none, Cond.classLink RX0 67 "java/lang/IllegalArgumentException", Cond.initialized "java/lang/IllegalArgumentException", Cond.methodLink RX0 165 yX0_unit, Cond.instanceMethod yX0_unit, Cond.selects RX0 yX0_unit yX0_unit, Cond.code yX0_unit cX0_unit 2 (some .int), Cond.fieldLink RX0 9 "CoinMechanism" "kinds" "I", Cond.methodLink RX0 168 yX0_dividesAllValues, Cond.instanceMethod yX0_dividesAllValues, Cond.selects RX0 yX0_dividesAllValues yX0_dividesAllValues, Cond.code yX0_dividesAllValues cX0_dividesAllValues 3 (some .boolean), Cond.fieldLink RX0 13 "CoinMechanism" "values" "[I", Cond.methodLink RX0 118 yX0_scoreWays, Cond.instanceMethod yX0_scoreWays, Cond.selects RX0 yX0_scoreWays yX0_scoreWays, Cond.code yX0_scoreWays cX0_scoreWays 5 none, Cond.methodLink RX0 94 Lib.Math.min.name, Cond.static Lib.Math.min.name]
def wsX0_gaps_r2 : List Cond := [Cond.initialized "java/lang/Math", Cond.code Lib.Math.min.name Lib.Math.min.code 2 (some .int), Cond.fieldLink RX0 61 "CoinMechanism" "scores" "[J", Cond.methodLink RX0 196 yX0_addKindToWays, Cond.instanceMethod yX0_addKindToWays, Cond.selects RX0 yX0_addKindToWays yX0_addKindToWays, Cond.code yX0_addKindToWays cX0_addKindToWays 9 none, Cond.constantLong RX0 203 (281474976710656), Cond.methodLink RX0 200 yX0_digitOf, Cond.instanceMethod yX0_digitOf, Cond.selects RX0 yX0_digitOf yX0_digitOf, Cond.code yX0_digitOf cX0_digitOf 4 (some .int), Cond.methodLink RX0 205 yX0_addPackToWays, Cond.instanceMethod yX0_addPackToWays, Cond.selects RX0 yX0_addPackToWays yX0_addPackToWays, Cond.code yX0_addPackToWays cX0_addPackToWays 8 none, Cond.methodLink RX0 209 Lib.MathLoose.max_long.x, Cond.static Lib.MathLoose.max_long.x, Cond.code Lib.MathLoose.max_long.x Lib.MathLoose.max_long.code 4 (some .long), Cond.methodLink RX0 122 yX0_scoreOf, Cond.instanceMethod yX0_scoreOf, Cond.selects RX0 yX0_scoreOf yX0_scoreOf, Cond.code yX0_scoreOf cX0_scoreOf 2 (some .long)]
def wsX0_gaps : List Cond := .code yX0_gaps cX0_gaps 5 (some .int) :: ((wsX0_gaps_r1 ++ wsX0_gaps_r2) ++ wsX00 ++ (vx_atS RX0 71 "java/lang/IllegalArgumentException" ["java/lang/RuntimeException", "java/lang/Exception"]).filter goodWord)
def wsX0_audit : List Cond := .code yX0_audit cX0_audit 2 (some .long) :: ([.classLink RX0 144 "java/lang/IndexOutOfBoundsException", .initialized "java/lang/IndexOutOfBoundsException", .fieldLink RX0 57 "CoinMechanism" "counters" "[J"] ++ wsX00 ++ (vx_atS RX0 148 "java/lang/IndexOutOfBoundsException" ["java/lang/RuntimeException", "java/lang/Exception"]).filter goodWord)
def wsX0_digestOfKinds : List Cond := .code yX0_digestOfKinds cX0_digestOfKinds 7 (some .long) :: ([.constantLong RX0 182 (31), .fieldLink RX0 9 "CoinMechanism" "kinds" "I", .fieldLink RX0 29 "CoinMechanism" "accepted" "[Z", .methodLink RX0 151 yX0_toldOfKind, .instanceMethod yX0_toldOfKind, .selects RX0 yX0_toldOfKind yX0_toldOfKind, .initialized RX0, .code yX0_toldOfKind cX0_toldOfKind 3 (some .int), .fieldLink RX0 13 "CoinMechanism" "values" "[I", .fieldLink RX0 20 "CoinMechanism" "tubes" "[I", .fieldLink RX0 23 "CoinMechanism" "boxed" "[I", .fieldLink RX0 26 "CoinMechanism" "paid" "[I"] ++ wsX00)
def wsX0_digest : List Cond := .code yX0_digest cX0_digest 4 (some .long) :: ([.constantLong RX0 176 (181), .constantLong RX0 182 (31), .fieldLink RX0 42 "CoinMechanism" "limit" "I", .fieldLink RX0 33 "CoinMechanism" "products" "I", .fieldLink RX0 36 "CoinMechanism" "prices" "[I", .fieldLink RX0 39 "CoinMechanism" "stocks" "[I", .fieldLink RX0 45 "CoinMechanism" "waiting" "I", .fieldLink RX0 48 "CoinMechanism" "waitingKinds" "[I", .fieldLink RX0 57 "CoinMechanism" "counters" "[J", .methodLink RX0 178 yX0_digestOfKinds, .instanceMethod yX0_digestOfKinds, .selects RX0 yX0_digestOfKinds yX0_digestOfKinds, .initialized RX0, .code yX0_digestOfKinds cX0_digestOfKinds 7 (some .long), .fieldLink RX0 9 "CoinMechanism" "kinds" "I", .fieldLink RX0 29 "CoinMechanism" "accepted" "[Z", .methodLink RX0 151 yX0_toldOfKind, .instanceMethod yX0_toldOfKind, .selects RX0 yX0_toldOfKind yX0_toldOfKind, .code yX0_toldOfKind cX0_toldOfKind 3 (some .int), .fieldLink RX0 13 "CoinMechanism" "values" "[I", .fieldLink RX0 20 "CoinMechanism" "tubes" "[I", .fieldLink RX0 23 "CoinMechanism" "boxed" "[I", .fieldLink RX0 26 "CoinMechanism" "paid" "[I"] ++ wsX00)
def wsJ9_max_f86c9 : List Cond := .code yJ9_max_f86c9 cJ9_max_f86c9 4 (some .long) :: ([])
def wsJ9_min_7cf53 : List Cond := .code yJ9_min_7cf53 cJ9_min_7cf53 2 (some .int) :: ([])
def wsL_below : List Cond := .code yL_below cL_below 2 (some .int) :: ([.constant RL 7 (2147483647)])
def wsL_cell : List Cond := .code yL_cell cL_cell 2 (some .int) :: ([.constant RL 8 (790386105)])
def wsL_build_r1 : List Cond := [Cond.arrayClass .int, Cond.methodLink RL 24 Lib.Math.min.name, Cond.static Lib.Math.min.name, Cond.initialized "java/lang/Math", Cond.code Lib.Math.min.name Lib.Math.min.code 2 (some .int), Cond.methodLink RL 9 yL_cell, Cond.static yL_cell, Cond.initialized RL, Cond.code yL_cell cL_cell 2 (some .int), Cond.constant RL 8 (790386105), Cond.methodLink RL 15 yL_below, Cond.static yL_below, Cond.code yL_below cL_below 2 (some .int), Cond.constant RL 7 (2147483647), Cond.methodLink RL 19 yX0_addKind, Cond.instanceMethod yX0_addKind, Cond.selects RX0 yX0_addKind yX0_addKind, Cond.initialized RX0, Cond.code yX0_addKind cX0_addKind 3 (some .int), Cond.classLink RX0 67 "java/lang/IllegalArgumentException", Cond.initialized "java/lang/IllegalArgumentException", Cond.classLink RX0 76 "java/lang/IllegalStateException", Cond.initialized "java/lang/IllegalStateException", Cond.fieldLink RX0 9 "CoinMechanism" "kinds" "I"]
def wsL_build_r2 : List Cond := [Cond.fieldLink RX0 13 "CoinMechanism" "values" "[I", Cond.fieldLink RX0 17 "CoinMechanism" "capacities" "[I", Cond.fieldLink RX0 29 "CoinMechanism" "accepted" "[Z", Cond.methodLink RX0 81 yX0_hasKindOfValue, Cond.instanceMethod yX0_hasKindOfValue, Cond.selects RX0 yX0_hasKindOfValue yX0_hasKindOfValue, Cond.code yX0_hasKindOfValue cX0_hasKindOfValue 3 (some .boolean), Cond.methodLink RL 29 yX0_fill, Cond.instanceMethod yX0_fill, Cond.selects RX0 yX0_fill yX0_fill, Cond.code yX0_fill cX0_fill 4 (some .int), Cond.fieldLink RX0 20 "CoinMechanism" "tubes" "[I", Cond.methodLink RX0 94 Lib.Math.min.name, Cond.fieldLink RX0 57 "CoinMechanism" "counters" "[J", Cond.methodLink RX0 87 yX0_checkKind, Cond.instanceMethod yX0_checkKind, Cond.selects RX0 yX0_checkKind yX0_checkKind, Cond.code yX0_checkKind cX0_checkKind 2 none, Cond.classLink RX0 144 "java/lang/IndexOutOfBoundsException", Cond.initialized "java/lang/IndexOutOfBoundsException", Cond.methodLink RX0 91 yX0_checkMany, Cond.static yX0_checkMany, Cond.code yX0_checkMany cX0_checkMany 1 none]
def wsL_build : List Cond := .code yL_build cL_build 16 (some .int) :: ((wsL_build_r1 ++ wsL_build_r2) ++ wsX00 ++ (vx_atS RX0 71 "java/lang/IllegalArgumentException" ["java/lang/RuntimeException", "java/lang/Exception"]).filter goodWord ++ (vx_atS RX0 80 "java/lang/IllegalStateException" ["java/lang/RuntimeException", "java/lang/Exception"]).filter goodWord ++ (vx_atS RX0 148 "java/lang/IndexOutOfBoundsException" ["java/lang/RuntimeException", "java/lang/Exception"]).filter goodWord)
def wsL_law0_r1 : List Cond := [Cond.classLink RL 20 RX0, Cond.instantiable RX0 18, Cond.initialized RX0, Cond.arrayClass .int, Cond.methodLink RL 42 yX0_init, Cond.instanceMethod yX0_init, Cond.code yX0_init cX0_init 1 none, Cond.methodLink RX0 3 objectInit, Cond.instanceMethod objectInit, Cond.code objectInit ⟨#[0xb1]⟩ 1 none, Cond.fieldLink RX0 9 "CoinMechanism" "kinds" "I", Cond.fieldLink RX0 13 "CoinMechanism" "values" "[I", Cond.fieldLink RX0 17 "CoinMechanism" "capacities" "[I", Cond.fieldLink RX0 20 "CoinMechanism" "tubes" "[I", Cond.fieldLink RX0 23 "CoinMechanism" "boxed" "[I", Cond.fieldLink RX0 26 "CoinMechanism" "paid" "[I", Cond.arrayClass .boolean, Cond.fieldLink RX0 29 "CoinMechanism" "accepted" "[Z", Cond.fieldLink RX0 33 "CoinMechanism" "products" "I", Cond.fieldLink RX0 36 "CoinMechanism" "prices" "[I", Cond.fieldLink RX0 39 "CoinMechanism" "stocks" "[I", Cond.fieldLink RX0 42 "CoinMechanism" "limit" "I", Cond.fieldLink RX0 45 "CoinMechanism" "waiting" "I", Cond.fieldLink RX0 48 "CoinMechanism" "waitingKinds" "[I"]
def wsL_law0_r2 : List Cond := [Cond.fieldLink RX0 51 "CoinMechanism" "soldProduct" "I", Cond.fieldLink RX0 54 "CoinMechanism" "soldPrice" "I", Cond.arrayClass .long, Cond.fieldLink RX0 57 "CoinMechanism" "counters" "[J", Cond.fieldLink RX0 61 "CoinMechanism" "scores" "[J", Cond.fieldLink RX0 64 "CoinMechanism" "tubesAfter" "[I", Cond.methodLink RL 43 yL_build, Cond.static yL_build, Cond.initialized RL, Cond.code yL_build cL_build 16 (some .int), Cond.methodLink RL 24 Lib.Math.min.name, Cond.static Lib.Math.min.name, Cond.initialized "java/lang/Math", Cond.code Lib.Math.min.name Lib.Math.min.code 2 (some .int), Cond.methodLink RL 9 yL_cell, Cond.static yL_cell, Cond.code yL_cell cL_cell 2 (some .int), Cond.constant RL 8 (790386105), Cond.methodLink RL 15 yL_below, Cond.static yL_below, Cond.code yL_below cL_below 2 (some .int), Cond.constant RL 7 (2147483647), Cond.methodLink RL 19 yX0_addKind, Cond.instanceMethod yX0_addKind]
def wsL_law0_r3 : List Cond := [Cond.selects RX0 yX0_addKind yX0_addKind, Cond.code yX0_addKind cX0_addKind 3 (some .int), Cond.classLink RX0 67 "java/lang/IllegalArgumentException", Cond.initialized "java/lang/IllegalArgumentException", Cond.classLink RX0 76 "java/lang/IllegalStateException", Cond.initialized "java/lang/IllegalStateException", Cond.methodLink RX0 81 yX0_hasKindOfValue, Cond.instanceMethod yX0_hasKindOfValue, Cond.selects RX0 yX0_hasKindOfValue yX0_hasKindOfValue, Cond.code yX0_hasKindOfValue cX0_hasKindOfValue 3 (some .boolean), Cond.methodLink RL 29 yX0_fill, Cond.instanceMethod yX0_fill, Cond.selects RX0 yX0_fill yX0_fill, Cond.code yX0_fill cX0_fill 4 (some .int), Cond.methodLink RX0 94 Lib.Math.min.name, Cond.methodLink RX0 87 yX0_checkKind, Cond.instanceMethod yX0_checkKind, Cond.selects RX0 yX0_checkKind yX0_checkKind, Cond.code yX0_checkKind cX0_checkKind 2 none, Cond.classLink RX0 144 "java/lang/IndexOutOfBoundsException", Cond.initialized "java/lang/IndexOutOfBoundsException", Cond.methodLink RX0 91 yX0_checkMany, Cond.static yX0_checkMany, Cond.code yX0_checkMany cX0_checkMany 1 none]
def wsL_law0_r4 : List Cond := [Cond.methodLink RL 47 yX0_fewest, Cond.instanceMethod yX0_fewest, Cond.selects RX0 yX0_fewest yX0_fewest, Cond.code yX0_fewest cX0_fewest 4 (some .int), Cond.constantLong RX0 126 (-4611686018427387904), Cond.methodLink RX0 154 yX0_checkAmount, Cond.static yX0_checkAmount, Cond.code yX0_checkAmount cX0_checkAmount 1 none, Cond.methodLink RX0 118 yX0_scoreWays, Cond.instanceMethod yX0_scoreWays, Cond.selects RX0 yX0_scoreWays yX0_scoreWays, Cond.code yX0_scoreWays cX0_scoreWays 5 none, Cond.methodLink RX0 196 yX0_addKindToWays, Cond.instanceMethod yX0_addKindToWays, Cond.selects RX0 yX0_addKindToWays yX0_addKindToWays, Cond.code yX0_addKindToWays cX0_addKindToWays 9 none, Cond.constantLong RX0 203 (281474976710656), Cond.methodLink RX0 200 yX0_digitOf, Cond.instanceMethod yX0_digitOf, Cond.selects RX0 yX0_digitOf yX0_digitOf, Cond.code yX0_digitOf cX0_digitOf 4 (some .int), Cond.methodLink RX0 205 yX0_addPackToWays, Cond.instanceMethod yX0_addPackToWays, Cond.selects RX0 yX0_addPackToWays yX0_addPackToWays]
def wsL_law0_r5 : List Cond := [Cond.code yX0_addPackToWays cX0_addPackToWays 8 none, Cond.methodLink RX0 209 Lib.MathLoose.max_long.x, Cond.static Lib.MathLoose.max_long.x, Cond.code Lib.MathLoose.max_long.x Lib.MathLoose.max_long.code 4 (some .long), Cond.methodLink RX0 122 yX0_scoreOf, Cond.instanceMethod yX0_scoreOf, Cond.selects RX0 yX0_scoreOf yX0_scoreOf, Cond.code yX0_scoreOf cX0_scoreOf 2 (some .long), Cond.methodLink RX0 157 yX0_coinsInWay, Cond.static yX0_coinsInWay, Cond.code yX0_coinsInWay cX0_coinsInWay 2 (some .int), Cond.methodLink RL 51 yX0_below, Cond.instanceMethod yX0_below, Cond.selects RX0 yX0_below yX0_below, Cond.code yX0_below cX0_below 3 (some .int), Cond.methodLink RL 53 yX0_unit, Cond.instanceMethod yX0_unit, Cond.selects RX0 yX0_unit yX0_unit, Cond.code yX0_unit cX0_unit 2 (some .int), Cond.methodLink RX0 168 yX0_dividesAllValues, Cond.instanceMethod yX0_dividesAllValues, Cond.selects RX0 yX0_dividesAllValues yX0_dividesAllValues, Cond.code yX0_dividesAllValues cX0_dividesAllValues 3 (some .boolean), Cond.methodLink RL 57 yX0_part]
def wsL_law0_r6 : List Cond := [Cond.instanceMethod yX0_part, Cond.selects RX0 yX0_part yX0_part, Cond.code yX0_part cX0_part 5 (some .int), Cond.methodLink RX0 161 yX0_coinsOfKindInWay, Cond.instanceMethod yX0_coinsOfKindInWay, Cond.selects RX0 yX0_coinsOfKindInWay yX0_coinsOfKindInWay, Cond.code yX0_coinsOfKindInWay cX0_coinsOfKindInWay 4 (some .int), Cond.constantLong RX0 213 (63), Cond.methodLink RL 60 yX0_coins, Cond.instanceMethod yX0_coins, Cond.selects RX0 yX0_coins yX0_coins, Cond.code yX0_coins cX0_coins 3 (some .int), Cond.methodLink RX0 151 yX0_toldOfKind, Cond.instanceMethod yX0_toldOfKind, Cond.selects RX0 yX0_toldOfKind yX0_toldOfKind, Cond.code yX0_toldOfKind cX0_toldOfKind 3 (some .int), Cond.methodLink RL 63 yX0_gaps, Cond.instanceMethod yX0_gaps, Cond.selects RX0 yX0_gaps yX0_gaps, Cond.code yX0_gaps cX0_gaps 5 (some .int), Cond.methodLink RX0 165 yX0_unit, Cond.methodLink RL 66 yX0_addProduct, Cond.instanceMethod yX0_addProduct, Cond.selects RX0 yX0_addProduct yX0_addProduct]
def wsL_law0_r7 : List Cond := [Cond.code yX0_addProduct cX0_addProduct 3 (some .int), Cond.methodLink RX0 102 yX0_checkPriceAndStock, Cond.static yX0_checkPriceAndStock, Cond.code yX0_checkPriceAndStock cX0_checkPriceAndStock 2 none, Cond.methodLink RL 69 yX0_insert, Cond.instanceMethod yX0_insert, Cond.selects RX0 yX0_insert yX0_insert, Cond.code yX0_insert cX0_insert 2 (some .int), Cond.methodLink RX0 111 yX0_credit, Cond.instanceMethod yX0_credit, Cond.selects RX0 yX0_credit yX0_credit, Cond.code yX0_credit cX0_credit 3 (some .int), Cond.methodLink RX0 140 yX0_waitingOf, Cond.instanceMethod yX0_waitingOf, Cond.selects RX0 yX0_waitingOf yX0_waitingOf, Cond.code yX0_waitingOf cX0_waitingOf 4 (some .int), Cond.methodLink RL 72 yX0_digest, Cond.instanceMethod yX0_digest, Cond.selects RX0 yX0_digest yX0_digest, Cond.code yX0_digest cX0_digest 4 (some .long), Cond.constantLong RX0 176 (181), Cond.constantLong RX0 182 (31), Cond.methodLink RX0 178 yX0_digestOfKinds, Cond.instanceMethod yX0_digestOfKinds]
def wsL_law0_r8 : List Cond := [Cond.selects RX0 yX0_digestOfKinds yX0_digestOfKinds, Cond.code yX0_digestOfKinds cX0_digestOfKinds 7 (some .long), Cond.methodLink RL 76 yX0_buy, Cond.instanceMethod yX0_buy, Cond.selects RX0 yX0_buy yX0_buy, Cond.code yX0_buy cX0_buy 6 (some .int), Cond.methodLink RX0 108 yX0_checkProduct, Cond.instanceMethod yX0_checkProduct, Cond.selects RX0 yX0_checkProduct yX0_checkProduct, Cond.code yX0_checkProduct cX0_checkProduct 2 none, Cond.methodLink RX0 115 yX0_foreseeTubes, Cond.instanceMethod yX0_foreseeTubes, Cond.selects RX0 yX0_foreseeTubes yX0_foreseeTubes, Cond.code yX0_foreseeTubes cX0_foreseeTubes 2 none, Cond.methodLink RX0 128 yX0_dropWaiting, Cond.instanceMethod yX0_dropWaiting, Cond.selects RX0 yX0_dropWaiting yX0_dropWaiting, Cond.code yX0_dropWaiting cX0_dropWaiting 4 none, Cond.methodLink RX0 131 yX0_payOut, Cond.instanceMethod yX0_payOut, Cond.selects RX0 yX0_payOut yX0_payOut, Cond.code yX0_payOut cX0_payOut 4 none, Cond.methodLink RX0 135 yX0_countSale, Cond.instanceMethod yX0_countSale]
def wsL_law0_r9 : List Cond := [Cond.selects RX0 yX0_countSale yX0_countSale, Cond.code yX0_countSale cX0_countSale 3 none, Cond.methodLink RL 79 yX0_cancel, Cond.instanceMethod yX0_cancel, Cond.selects RX0 yX0_cancel yX0_cancel, Cond.code yX0_cancel cX0_cancel 2 (some .int), Cond.methodLink RL 82 yX0_audit, Cond.instanceMethod yX0_audit, Cond.selects RX0 yX0_audit yX0_audit, Cond.code yX0_audit cX0_audit 2 (some .long)]
def wsL_law0 : List Cond := (wsL_law0_r1 ++ (wsL_law0_r2 ++ (wsL_law0_r3 ++ (wsL_law0_r4 ++ (wsL_law0_r5 ++ (wsL_law0_r6 ++ (wsL_law0_r7 ++ (wsL_law0_r8 ++ wsL_law0_r9)))))))) ++ wsX00 ++ ([] : List Cond)
def wsL_law : List Cond := wsL_law0 ++ (vx_atS RX0 71 "java/lang/IllegalArgumentException" ["java/lang/RuntimeException", "java/lang/Exception"]).filter goodWord ++ (vx_atS RX0 80 "java/lang/IllegalStateException" ["java/lang/RuntimeException", "java/lang/Exception"]).filter goodWord ++ (vx_atS RX0 148 "java/lang/IndexOutOfBoundsException" ["java/lang/RuntimeException", "java/lang/Exception"]).filter goodWord
theorem in_r {big : List Cond} (ws : List Cond) (ps : List Nat) (hp : ws = ps.filterMap (fun i => big[i]?)) : ∀ w ∈ ws, w ∈ big := by
  intro w hw
  rw [hp] at hw
  obtain ⟨i, -, hi⟩ := List.mem_filterMap.mp hw
  first | exact List.mem_of_getElem? hi | exact List.getElem?_mem hi
set_option maxRecDepth 100000 in
theorem wsL_law0_r1_in : ∀ w ∈ wsL_law0_r1, w ∈ lw_tbl := in_r _ [27, 28, 19, 90, 29, 30, 31, 32, 33, 34, 35, 36, 37, 38, 39, 40, 91, 41, 42, 43, 44, 45, 46, 47] (by decide +kernel)
set_option maxRecDepth 100000 in
theorem wsL_law0_r2_in : ∀ w ∈ wsL_law0_r2, w ∈ lw_tbl := in_r _ [48, 49, 92, 50, 51, 52, 351, 352, 18, 353, 366, 189, 25, 190, 347, 348, 349, 350, 343, 344, 345, 346, 354, 355] (by decide +kernel)
set_option maxRecDepth 100000 in
theorem wsL_law0_r3_in : ∀ w ∈ wsL_law0_r3, w ∈ lw_tbl := in_r _ [356, 357, 172, 23, 200, 24, 361, 363, 17, 364, 93, 94, 95, 96, 188, 97, 99, 0, 100, 101, 26, 169, 170, 171] (by decide +kernel)
set_option maxRecDepth 100000 in
theorem wsL_law0_r4_in : ∀ w ∈ wsL_law0_r4, w ∈ lw_tbl := in_r _ [296, 297, 298, 299, 249, 300, 301, 302, 245, 247, 5, 248, 250, 252, 6, 253, 258, 254, 256, 7, 257, 259, 261, 8] (by decide +kernel)
set_option maxRecDepth 100000 in
theorem wsL_law0_r5_in : ∀ w ∈ wsL_law0_r5, w ∈ lw_tbl := in_r _ [262, 263, 264, 265, 266, 268, 9, 269, 304, 305, 306, 311, 312, 313, 314, 327, 320, 321, 322, 323, 325, 15, 326, 307] (by decide +kernel)
set_option maxRecDepth 100000 in
theorem wsL_law0_r6_in : ∀ w ∈ wsL_law0_r6, w ∈ lw_tbl := in_r _ [308, 309, 310, 278, 280, 12, 281, 282, 287, 288, 289, 290, 292, 294, 14, 295, 315, 316, 317, 318, 319, 191, 192, 193] (by decide +kernel)
set_option maxRecDepth 100000 in
theorem wsL_law0_r7_in : ∀ w ∈ wsL_law0_r7, w ∈ lw_tbl := in_r _ [194, 195, 196, 197, 216, 217, 218, 219, 220, 221, 222, 223, 224, 226, 2, 227, 333, 334, 335, 336, 337, 342, 338, 340] (by decide +kernel)
set_option maxRecDepth 100000 in
theorem wsL_law0_r8_in : ∀ w ∈ wsL_law0_r8, w ∈ lw_tbl := in_r _ [16, 341, 232, 233, 234, 235, 236, 238, 3, 239, 241, 243, 4, 244, 270, 272, 10, 273, 274, 276, 11, 277, 283, 285] (by decide +kernel)
set_option maxRecDepth 100000 in
theorem wsL_law0_r9_in : ∀ w ∈ wsL_law0_r9, w ∈ lw_tbl := in_r _ [13, 286, 228, 229, 230, 231, 328, 329, 330, 331] (by decide +kernel)
set_option maxRecDepth 100000 in
theorem wsX00_in : ∀ w ∈ wsX00, w ∈ lw_tbl := by decide +kernel
theorem wsL_law_in0 : ∀ w ∈ wsL_law0, w ∈ lw_tbl := fun w h => (List.mem_append.mp h).elim (fun h => (List.mem_append.mp h).elim (fun h => (List.mem_append.mp h).elim (fun h => wsL_law0_r1_in w h) (fun h => (List.mem_append.mp h).elim (fun h => wsL_law0_r2_in w h) (fun h => (List.mem_append.mp h).elim (fun h => wsL_law0_r3_in w h) (fun h => (List.mem_append.mp h).elim (fun h => wsL_law0_r4_in w h) (fun h => (List.mem_append.mp h).elim (fun h => wsL_law0_r5_in w h) (fun h => (List.mem_append.mp h).elim (fun h => wsL_law0_r6_in w h) (fun h => (List.mem_append.mp h).elim (fun h => wsL_law0_r7_in w h) (fun h => (List.mem_append.mp h).elim (fun h => wsL_law0_r8_in w h) (fun h => wsL_law0_r9_in w h))))))))) (fun h => wsX00_in w h)) (fun h => nomatch h)
theorem wsL_law_x0 : ∀ w ∈ (vx_atS RX0 71 "java/lang/IllegalArgumentException" ["java/lang/RuntimeException", "java/lang/Exception"]).filter goodWord, w ∈ lw_tbl := by decide +kernel
theorem wsL_law_x1 : ∀ w ∈ (vx_atS RX0 80 "java/lang/IllegalStateException" ["java/lang/RuntimeException", "java/lang/Exception"]).filter goodWord, w ∈ lw_tbl := by decide +kernel
theorem wsL_law_x2 : ∀ w ∈ (vx_atS RX0 148 "java/lang/IndexOutOfBoundsException" ["java/lang/RuntimeException", "java/lang/Exception"]).filter goodWord, w ∈ lw_tbl := by decide +kernel
theorem wsL_law_in : ∀ w ∈ wsL_law, w ∈ lw_tbl := fun w h => (List.mem_append.mp h).elim (fun h => (List.mem_append.mp h).elim (fun h => (List.mem_append.mp h).elim (fun h => wsL_law_in0 w h) (fun h => wsL_law_x0 w h)) (fun h => wsL_law_x1 w h)) (fun h => wsL_law_x2 w h)
theorem inlX0 : ∀ w ∈ wsX00, w ∈ wsL_law := fun _ h => List.mem_append_left _ (List.mem_append_left _ (List.mem_append_left _ (List.mem_append_left _ (List.mem_append_right _ h))))
theorem inX0 : ∀ w ∈ wsX00, w ∈ lw_tbl := fun w h => wsL_law_in w (inlX0 w h)
theorem inX1 : ∀ w ∈ wsX10, w ∈ lw_tbl := by decide +kernel
theorem inJ9 : ∀ w ∈ wsJ90, w ∈ lw_tbl := by decide +kernel
theorem inJ0 : ∀ w ∈ wsJ00, w ∈ lw_tbl := by decide +kernel
end
section
theorem dX0_init_0 : decode cX0_init 0 = .ok (.aload_n 0, 1) := by decide +kernel
theorem dX0_init_1 : decode cX0_init 1 = .ok (.invokespecial 3, 3) := by decide +kernel
theorem dX0_init_4 : decode cX0_init 4 = .ok (.aload_n 0, 1) := by decide +kernel
theorem dX0_init_5 : decode cX0_init 5 = .ok (.iconst 0, 1) := by decide +kernel
theorem dX0_init_6 : decode cX0_init 6 = .ok (.putfield 9, 3) := by decide +kernel
theorem dX0_init_9 : decode cX0_init 9 = .ok (.aload_n 0, 1) := by decide +kernel
theorem dX0_init_10 : decode cX0_init 10 = .ok (.bipush 8, 2) := by decide +kernel
theorem dX0_init_12 : decode cX0_init 12 = .ok (.newarray .int, 2) := by decide +kernel
theorem dX0_init_14 : decode cX0_init 14 = .ok (.putfield 13, 3) := by decide +kernel
theorem dX0_init_17 : decode cX0_init 17 = .ok (.aload_n 0, 1) := by decide +kernel
theorem dX0_init_18 : decode cX0_init 18 = .ok (.bipush 8, 2) := by decide +kernel
theorem dX0_init_20 : decode cX0_init 20 = .ok (.newarray .int, 2) := by decide +kernel
theorem dX0_init_22 : decode cX0_init 22 = .ok (.putfield 17, 3) := by decide +kernel
theorem dX0_init_25 : decode cX0_init 25 = .ok (.aload_n 0, 1) := by decide +kernel
theorem dX0_init_26 : decode cX0_init 26 = .ok (.bipush 8, 2) := by decide +kernel
theorem dX0_init_28 : decode cX0_init 28 = .ok (.newarray .int, 2) := by decide +kernel
theorem dX0_init_30 : decode cX0_init 30 = .ok (.putfield 20, 3) := by decide +kernel
theorem dX0_init_33 : decode cX0_init 33 = .ok (.aload_n 0, 1) := by decide +kernel
theorem dX0_init_34 : decode cX0_init 34 = .ok (.bipush 8, 2) := by decide +kernel
theorem dX0_init_36 : decode cX0_init 36 = .ok (.newarray .int, 2) := by decide +kernel
theorem dX0_init_38 : decode cX0_init 38 = .ok (.putfield 23, 3) := by decide +kernel
theorem dX0_init_41 : decode cX0_init 41 = .ok (.aload_n 0, 1) := by decide +kernel
theorem dX0_init_42 : decode cX0_init 42 = .ok (.bipush 8, 2) := by decide +kernel
theorem dX0_init_44 : decode cX0_init 44 = .ok (.newarray .int, 2) := by decide +kernel
theorem dX0_init_46 : decode cX0_init 46 = .ok (.putfield 26, 3) := by decide +kernel
theorem dX0_init_49 : decode cX0_init 49 = .ok (.aload_n 0, 1) := by decide +kernel
theorem dX0_init_50 : decode cX0_init 50 = .ok (.bipush 8, 2) := by decide +kernel
theorem dX0_init_52 : decode cX0_init 52 = .ok (.newarray .boolean, 2) := by decide +kernel
theorem dX0_init_54 : decode cX0_init 54 = .ok (.putfield 29, 3) := by decide +kernel
theorem dX0_init_57 : decode cX0_init 57 = .ok (.aload_n 0, 1) := by decide +kernel
theorem dX0_init_58 : decode cX0_init 58 = .ok (.iconst 0, 1) := by decide +kernel
theorem dX0_init_59 : decode cX0_init 59 = .ok (.putfield 33, 3) := by decide +kernel
theorem dX0_init_62 : decode cX0_init 62 = .ok (.aload_n 0, 1) := by decide +kernel
theorem dX0_init_63 : decode cX0_init 63 = .ok (.bipush 10, 2) := by decide +kernel
theorem dX0_init_65 : decode cX0_init 65 = .ok (.newarray .int, 2) := by decide +kernel
theorem dX0_init_67 : decode cX0_init 67 = .ok (.putfield 36, 3) := by decide +kernel
theorem dX0_init_70 : decode cX0_init 70 = .ok (.aload_n 0, 1) := by decide +kernel
theorem dX0_init_71 : decode cX0_init 71 = .ok (.bipush 10, 2) := by decide +kernel
theorem dX0_init_73 : decode cX0_init 73 = .ok (.newarray .int, 2) := by decide +kernel
theorem dX0_init_75 : decode cX0_init 75 = .ok (.putfield 39, 3) := by decide +kernel
theorem dX0_init_78 : decode cX0_init 78 = .ok (.aload_n 0, 1) := by decide +kernel
theorem dX0_init_79 : decode cX0_init 79 = .ok (.sipush 1000, 3) := by decide +kernel
theorem dX0_init_82 : decode cX0_init 82 = .ok (.putfield 42, 3) := by decide +kernel
theorem dX0_init_85 : decode cX0_init 85 = .ok (.aload_n 0, 1) := by decide +kernel
theorem dX0_init_86 : decode cX0_init 86 = .ok (.iconst 0, 1) := by decide +kernel
theorem dX0_init_87 : decode cX0_init 87 = .ok (.putfield 45, 3) := by decide +kernel
theorem dX0_init_90 : decode cX0_init 90 = .ok (.aload_n 0, 1) := by decide +kernel
theorem dX0_init_91 : decode cX0_init 91 = .ok (.bipush 12, 2) := by decide +kernel
theorem dX0_init_93 : decode cX0_init 93 = .ok (.newarray .int, 2) := by decide +kernel
theorem dX0_init_95 : decode cX0_init 95 = .ok (.putfield 48, 3) := by decide +kernel
theorem dX0_init_98 : decode cX0_init 98 = .ok (.aload_n 0, 1) := by decide +kernel
theorem dX0_init_99 : decode cX0_init 99 = .ok (.iconst (-1), 1) := by decide +kernel
theorem dX0_init_100 : decode cX0_init 100 = .ok (.putfield 51, 3) := by decide +kernel
theorem dX0_init_103 : decode cX0_init 103 = .ok (.aload_n 0, 1) := by decide +kernel
theorem dX0_init_104 : decode cX0_init 104 = .ok (.iconst 0, 1) := by decide +kernel
theorem dX0_init_105 : decode cX0_init 105 = .ok (.putfield 54, 3) := by decide +kernel
theorem dX0_init_108 : decode cX0_init 108 = .ok (.aload_n 0, 1) := by decide +kernel
theorem dX0_init_109 : decode cX0_init 109 = .ok (.bipush 10, 2) := by decide +kernel
theorem dX0_init_111 : decode cX0_init 111 = .ok (.newarray .long, 2) := by decide +kernel
theorem dX0_init_113 : decode cX0_init 113 = .ok (.putfield 57, 3) := by decide +kernel
theorem dX0_init_116 : decode cX0_init 116 = .ok (.aload_n 0, 1) := by decide +kernel
theorem dX0_init_117 : decode cX0_init 117 = .ok (.sipush 2001, 3) := by decide +kernel
theorem dX0_init_120 : decode cX0_init 120 = .ok (.newarray .long, 2) := by decide +kernel
theorem dX0_init_122 : decode cX0_init 122 = .ok (.putfield 61, 3) := by decide +kernel
theorem dX0_init_125 : decode cX0_init 125 = .ok (.aload_n 0, 1) := by decide +kernel
theorem dX0_init_126 : decode cX0_init 126 = .ok (.bipush 8, 2) := by decide +kernel
theorem dX0_init_128 : decode cX0_init 128 = .ok (.newarray .int, 2) := by decide +kernel
theorem dX0_init_130 : decode cX0_init 130 = .ok (.putfield 64, 3) := by decide +kernel
theorem dX0_init_133 : decode cX0_init 133 = .ok (.return_, 1) := by decide +kernel
set_option maxRecDepth 20000 in
theorem ggX0_addKind_X0_hasKindOfValue : GoodIn wsX0_addKind wsX0_hasKindOfValue := goodIn_r _ [13, 5, 6, 14, 15, 16, 17, 18, 19, 20, 21, 22, 23, 24, 25, 26, 27, 28, 29, 30, 31] (by decide +kernel) (by decide +kernel)
set_option maxRecDepth 20000 in
theorem gX0_addKind_X0_hasKindOfValue : GoodIn wsX0_addKind (wsV RX0 81 RX0 yX0_hasKindOfValue wsX0_hasKindOfValue) := goodIn_app (goodIn_of _ (by decide +kernel)) ggX0_addKind_X0_hasKindOfValue
theorem dX0_addKind_0 : decode cX0_addKind 0 = .ok (.iload_n 1, 1) := by decide +kernel
theorem dX0_addKind_1 : decode cX0_addKind 1 = .ok (.iconst 1, 1) := by decide +kernel
theorem dX0_addKind_2 : decode cX0_addKind 2 = .ok (.if_icmp .lt 10, 3) := by decide +kernel
theorem dX0_addKind_5 : decode cX0_addKind 5 = .ok (.iload_n 1, 1) := by decide +kernel
theorem dX0_addKind_6 : decode cX0_addKind 6 = .ok (.sipush 500, 3) := by decide +kernel
theorem dX0_addKind_9 : decode cX0_addKind 9 = .ok (.if_icmp .le 13, 3) := by decide +kernel
theorem dX0_addKind_12 : decode cX0_addKind 12 = .ok (.new 67, 3) := by decide +kernel
theorem dX0_addKind_15 : decode cX0_addKind 15 = .ok (.dup, 1) := by decide +kernel
theorem dX0_addKind_16 : decode cX0_addKind 16 = .ok (.ldc 69, 2) := by decide +kernel
theorem dX0_addKind_18 : decode cX0_addKind 18 = .ok (.invokespecial 71, 3) := by decide +kernel
theorem dX0_addKind_21 : decode cX0_addKind 21 = .ok (.athrow, 1) := by decide +kernel
theorem dX0_addKind_22 : decode cX0_addKind 22 = .ok (.iload_n 2, 1) := by decide +kernel
theorem dX0_addKind_23 : decode cX0_addKind 23 = .ok (.ifCond .lt 9, 3) := by decide +kernel
theorem dX0_addKind_26 : decode cX0_addKind 26 = .ok (.iload_n 2, 1) := by decide +kernel
theorem dX0_addKind_27 : decode cX0_addKind 27 = .ok (.bipush 60, 2) := by decide +kernel
theorem dX0_addKind_29 : decode cX0_addKind 29 = .ok (.if_icmp .le 13, 3) := by decide +kernel
theorem dX0_addKind_32 : decode cX0_addKind 32 = .ok (.new 67, 3) := by decide +kernel
theorem dX0_addKind_35 : decode cX0_addKind 35 = .ok (.dup, 1) := by decide +kernel
theorem dX0_addKind_36 : decode cX0_addKind 36 = .ok (.ldc 74, 2) := by decide +kernel
theorem dX0_addKind_38 : decode cX0_addKind 38 = .ok (.invokespecial 71, 3) := by decide +kernel
theorem dX0_addKind_41 : decode cX0_addKind 41 = .ok (.athrow, 1) := by decide +kernel
theorem dX0_addKind_42 : decode cX0_addKind 42 = .ok (.aload_n 0, 1) := by decide +kernel
theorem dX0_addKind_43 : decode cX0_addKind 43 = .ok (.getfield 9, 3) := by decide +kernel
theorem dX0_addKind_46 : decode cX0_addKind 46 = .ok (.bipush 8, 2) := by decide +kernel
theorem dX0_addKind_48 : decode cX0_addKind 48 = .ok (.if_icmp .lt 13, 3) := by decide +kernel
theorem dX0_addKind_51 : decode cX0_addKind 51 = .ok (.new 76, 3) := by decide +kernel
theorem dX0_addKind_54 : decode cX0_addKind 54 = .ok (.dup, 1) := by decide +kernel
theorem dX0_addKind_55 : decode cX0_addKind 55 = .ok (.ldc 78, 2) := by decide +kernel
theorem dX0_addKind_57 : decode cX0_addKind 57 = .ok (.invokespecial 80, 3) := by decide +kernel
theorem dX0_addKind_60 : decode cX0_addKind 60 = .ok (.athrow, 1) := by decide +kernel
theorem dX0_addKind_61 : decode cX0_addKind 61 = .ok (.aload_n 0, 1) := by decide +kernel
theorem dX0_addKind_62 : decode cX0_addKind 62 = .ok (.iload_n 1, 1) := by decide +kernel
theorem dX0_addKind_63 : decode cX0_addKind 63 = .ok (.invokevirtual 81, 3) := by decide +kernel
theorem dX0_addKind_66 : decode cX0_addKind 66 = .ok (.ifCond .eq 13, 3) := by decide +kernel
theorem dX0_addKind_69 : decode cX0_addKind 69 = .ok (.new 76, 3) := by decide +kernel
theorem dX0_addKind_72 : decode cX0_addKind 72 = .ok (.dup, 1) := by decide +kernel
theorem dX0_addKind_73 : decode cX0_addKind 73 = .ok (.ldc 85, 2) := by decide +kernel
theorem dX0_addKind_75 : decode cX0_addKind 75 = .ok (.invokespecial 80, 3) := by decide +kernel
theorem dX0_addKind_78 : decode cX0_addKind 78 = .ok (.athrow, 1) := by decide +kernel
theorem dX0_addKind_79 : decode cX0_addKind 79 = .ok (.aload_n 0, 1) := by decide +kernel
theorem dX0_addKind_80 : decode cX0_addKind 80 = .ok (.getfield 13, 3) := by decide +kernel
theorem dX0_addKind_83 : decode cX0_addKind 83 = .ok (.aload_n 0, 1) := by decide +kernel
theorem dX0_addKind_84 : decode cX0_addKind 84 = .ok (.getfield 9, 3) := by decide +kernel
theorem dX0_addKind_87 : decode cX0_addKind 87 = .ok (.iload_n 1, 1) := by decide +kernel
theorem dX0_addKind_88 : decode cX0_addKind 88 = .ok (.iastore, 1) := by decide +kernel
theorem dX0_addKind_89 : decode cX0_addKind 89 = .ok (.aload_n 0, 1) := by decide +kernel
theorem dX0_addKind_90 : decode cX0_addKind 90 = .ok (.getfield 17, 3) := by decide +kernel
theorem dX0_addKind_93 : decode cX0_addKind 93 = .ok (.aload_n 0, 1) := by decide +kernel
theorem dX0_addKind_94 : decode cX0_addKind 94 = .ok (.getfield 9, 3) := by decide +kernel
theorem dX0_addKind_97 : decode cX0_addKind 97 = .ok (.iload_n 2, 1) := by decide +kernel
theorem dX0_addKind_98 : decode cX0_addKind 98 = .ok (.iastore, 1) := by decide +kernel
theorem dX0_addKind_99 : decode cX0_addKind 99 = .ok (.aload_n 0, 1) := by decide +kernel
theorem dX0_addKind_100 : decode cX0_addKind 100 = .ok (.getfield 29, 3) := by decide +kernel
theorem dX0_addKind_103 : decode cX0_addKind 103 = .ok (.aload_n 0, 1) := by decide +kernel
theorem dX0_addKind_104 : decode cX0_addKind 104 = .ok (.getfield 9, 3) := by decide +kernel
theorem dX0_addKind_107 : decode cX0_addKind 107 = .ok (.iconst 1, 1) := by decide +kernel
theorem dX0_addKind_108 : decode cX0_addKind 108 = .ok (.bastore, 1) := by decide +kernel
theorem dX0_addKind_109 : decode cX0_addKind 109 = .ok (.aload_n 0, 1) := by decide +kernel
theorem dX0_addKind_110 : decode cX0_addKind 110 = .ok (.dup, 1) := by decide +kernel
theorem dX0_addKind_111 : decode cX0_addKind 111 = .ok (.getfield 9, 3) := by decide +kernel
theorem dX0_addKind_114 : decode cX0_addKind 114 = .ok (.iconst 1, 1) := by decide +kernel
theorem dX0_addKind_115 : decode cX0_addKind 115 = .ok (.iadd, 1) := by decide +kernel
theorem dX0_addKind_116 : decode cX0_addKind 116 = .ok (.putfield 9, 3) := by decide +kernel
theorem dX0_addKind_119 : decode cX0_addKind 119 = .ok (.aload_n 0, 1) := by decide +kernel
theorem dX0_addKind_120 : decode cX0_addKind 120 = .ok (.getfield 9, 3) := by decide +kernel
theorem dX0_addKind_123 : decode cX0_addKind 123 = .ok (.iconst 1, 1) := by decide +kernel
theorem dX0_addKind_124 : decode cX0_addKind 124 = .ok (.isub, 1) := by decide +kernel
theorem dX0_addKind_125 : decode cX0_addKind 125 = .ok (.ireturn, 1) := by decide +kernel
set_option maxRecDepth 20000 in
theorem ggX0_fill_X0_checkKind : GoodIn wsX0_fill wsX0_checkKind := goodIn_ca (goodIn_r _ [13, 14, 15, 16, 22, 23, 24, 25, 26, 27, 28, 29, 30, 31, 32, 33, 34, 35, 36, 37, 38, 39] (by decide +kernel) (by decide +kernel)) (goodIn_sub (fun _ h => List.mem_cons_of_mem _ (List.mem_append_left _ (List.mem_append_right _ h))) (by decide +kernel))
set_option maxRecDepth 20000 in
theorem gX0_fill_X0_checkKind : GoodIn wsX0_fill (wsV RX0 87 RX0 yX0_checkKind wsX0_checkKind) := goodIn_app (goodIn_of _ (by decide +kernel)) ggX0_fill_X0_checkKind
set_option maxRecDepth 20000 in
theorem ggX0_fill_X0_checkMany : GoodIn wsX0_fill wsX0_checkMany := goodIn_ca (goodIn_r _ [19, 20, 21] (by decide +kernel) (by decide +kernel)) (goodIn_sub (fun _ h => List.mem_cons_of_mem _ (List.mem_append_right _ h)) (by decide +kernel))
set_option maxRecDepth 20000 in
theorem gX0_fill_X0_checkMany : GoodIn wsX0_fill (va_wsS RX0 91 yX0_checkMany wsX0_checkMany) := goodIn_app (goodIn_of _ (by decide +kernel)) ggX0_fill_X0_checkMany
theorem dX0_fill_0 : decode cX0_fill 0 = .ok (.aload_n 0, 1) := by decide +kernel
theorem dX0_fill_1 : decode cX0_fill 1 = .ok (.iload_n 1, 1) := by decide +kernel
theorem dX0_fill_2 : decode cX0_fill 2 = .ok (.invokevirtual 87, 3) := by decide +kernel
theorem dX0_fill_5 : decode cX0_fill 5 = .ok (.iload_n 2, 1) := by decide +kernel
theorem dX0_fill_6 : decode cX0_fill 6 = .ok (.invokestatic 91, 3) := by decide +kernel
theorem dX0_fill_9 : decode cX0_fill 9 = .ok (.iload_n 2, 1) := by decide +kernel
theorem dX0_fill_10 : decode cX0_fill 10 = .ok (.aload_n 0, 1) := by decide +kernel
theorem dX0_fill_11 : decode cX0_fill 11 = .ok (.getfield 17, 3) := by decide +kernel
theorem dX0_fill_14 : decode cX0_fill 14 = .ok (.iload_n 1, 1) := by decide +kernel
theorem dX0_fill_15 : decode cX0_fill 15 = .ok (.iaload, 1) := by decide +kernel
theorem dX0_fill_16 : decode cX0_fill 16 = .ok (.aload_n 0, 1) := by decide +kernel
theorem dX0_fill_17 : decode cX0_fill 17 = .ok (.getfield 20, 3) := by decide +kernel
theorem dX0_fill_20 : decode cX0_fill 20 = .ok (.iload_n 1, 1) := by decide +kernel
theorem dX0_fill_21 : decode cX0_fill 21 = .ok (.iaload, 1) := by decide +kernel
theorem dX0_fill_22 : decode cX0_fill 22 = .ok (.isub, 1) := by decide +kernel
theorem dX0_fill_23 : decode cX0_fill 23 = .ok (.invokestatic 94, 3) := by decide +kernel
theorem dX0_fill_26 : decode cX0_fill 26 = .ok (.istore_n 3, 1) := by decide +kernel
theorem dX0_fill_27 : decode cX0_fill 27 = .ok (.aload_n 0, 1) := by decide +kernel
theorem dX0_fill_28 : decode cX0_fill 28 = .ok (.getfield 20, 3) := by decide +kernel
theorem dX0_fill_31 : decode cX0_fill 31 = .ok (.iload_n 1, 1) := by decide +kernel
theorem dX0_fill_32 : decode cX0_fill 32 = .ok (.dup2, 1) := by decide +kernel
theorem dX0_fill_33 : decode cX0_fill 33 = .ok (.iaload, 1) := by decide +kernel
theorem dX0_fill_34 : decode cX0_fill 34 = .ok (.iload_n 3, 1) := by decide +kernel
theorem dX0_fill_35 : decode cX0_fill 35 = .ok (.iadd, 1) := by decide +kernel
theorem dX0_fill_36 : decode cX0_fill 36 = .ok (.iastore, 1) := by decide +kernel
theorem dX0_fill_37 : decode cX0_fill 37 = .ok (.aload_n 0, 1) := by decide +kernel
theorem dX0_fill_38 : decode cX0_fill 38 = .ok (.getfield 57, 3) := by decide +kernel
theorem dX0_fill_41 : decode cX0_fill 41 = .ok (.iconst 4, 1) := by decide +kernel
theorem dX0_fill_42 : decode cX0_fill 42 = .ok (.dup2, 1) := by decide +kernel
theorem dX0_fill_43 : decode cX0_fill 43 = .ok (.laload, 1) := by decide +kernel
theorem dX0_fill_44 : decode cX0_fill 44 = .ok (.iload_n 3, 1) := by decide +kernel
theorem dX0_fill_45 : decode cX0_fill 45 = .ok (.aload_n 0, 1) := by decide +kernel
theorem dX0_fill_46 : decode cX0_fill 46 = .ok (.getfield 13, 3) := by decide +kernel
theorem dX0_fill_49 : decode cX0_fill 49 = .ok (.iload_n 1, 1) := by decide +kernel
theorem dX0_fill_50 : decode cX0_fill 50 = .ok (.iaload, 1) := by decide +kernel
theorem dX0_fill_51 : decode cX0_fill 51 = .ok (.imul, 1) := by decide +kernel
theorem dX0_fill_52 : decode cX0_fill 52 = .ok (.i2l, 1) := by decide +kernel
theorem dX0_fill_53 : decode cX0_fill 53 = .ok (.ladd, 1) := by decide +kernel
theorem dX0_fill_54 : decode cX0_fill 54 = .ok (.lastore, 1) := by decide +kernel
theorem dX0_fill_55 : decode cX0_fill 55 = .ok (.iload_n 2, 1) := by decide +kernel
theorem dX0_fill_56 : decode cX0_fill 56 = .ok (.iload_n 3, 1) := by decide +kernel
theorem dX0_fill_57 : decode cX0_fill 57 = .ok (.isub, 1) := by decide +kernel
theorem dX0_fill_58 : decode cX0_fill 58 = .ok (.ireturn, 1) := by decide +kernel
set_option maxRecDepth 20000 in
theorem ggX0_addProduct_X0_checkPriceAndStock : GoodIn wsX0_addProduct wsX0_checkPriceAndStock := goodIn_ca (goodIn_r _ [9, 10, 11] (by decide +kernel) (by decide +kernel)) (goodIn_sub (fun _ h => List.mem_cons_of_mem _ (List.mem_append_right _ h)) (by decide +kernel))
set_option maxRecDepth 20000 in
theorem gX0_addProduct_X0_checkPriceAndStock : GoodIn wsX0_addProduct (va_wsS RX0 102 yX0_checkPriceAndStock wsX0_checkPriceAndStock) := goodIn_app (goodIn_of _ (by decide +kernel)) ggX0_addProduct_X0_checkPriceAndStock
theorem dX0_addProduct_0 : decode cX0_addProduct 0 = .ok (.iload_n 1, 1) := by decide +kernel
theorem dX0_addProduct_1 : decode cX0_addProduct 1 = .ok (.iload_n 2, 1) := by decide +kernel
theorem dX0_addProduct_2 : decode cX0_addProduct 2 = .ok (.invokestatic 102, 3) := by decide +kernel
theorem dX0_addProduct_5 : decode cX0_addProduct 5 = .ok (.aload_n 0, 1) := by decide +kernel
theorem dX0_addProduct_6 : decode cX0_addProduct 6 = .ok (.getfield 33, 3) := by decide +kernel
theorem dX0_addProduct_9 : decode cX0_addProduct 9 = .ok (.bipush 10, 2) := by decide +kernel
theorem dX0_addProduct_11 : decode cX0_addProduct 11 = .ok (.if_icmp .lt 13, 3) := by decide +kernel
theorem dX0_addProduct_14 : decode cX0_addProduct 14 = .ok (.new 76, 3) := by decide +kernel
theorem dX0_addProduct_17 : decode cX0_addProduct 17 = .ok (.dup, 1) := by decide +kernel
theorem dX0_addProduct_18 : decode cX0_addProduct 18 = .ok (.ldc 106, 2) := by decide +kernel
theorem dX0_addProduct_20 : decode cX0_addProduct 20 = .ok (.invokespecial 80, 3) := by decide +kernel
theorem dX0_addProduct_23 : decode cX0_addProduct 23 = .ok (.athrow, 1) := by decide +kernel
theorem dX0_addProduct_24 : decode cX0_addProduct 24 = .ok (.aload_n 0, 1) := by decide +kernel
theorem dX0_addProduct_25 : decode cX0_addProduct 25 = .ok (.getfield 36, 3) := by decide +kernel
theorem dX0_addProduct_28 : decode cX0_addProduct 28 = .ok (.aload_n 0, 1) := by decide +kernel
theorem dX0_addProduct_29 : decode cX0_addProduct 29 = .ok (.getfield 33, 3) := by decide +kernel
theorem dX0_addProduct_32 : decode cX0_addProduct 32 = .ok (.iload_n 1, 1) := by decide +kernel
theorem dX0_addProduct_33 : decode cX0_addProduct 33 = .ok (.iastore, 1) := by decide +kernel
theorem dX0_addProduct_34 : decode cX0_addProduct 34 = .ok (.aload_n 0, 1) := by decide +kernel
theorem dX0_addProduct_35 : decode cX0_addProduct 35 = .ok (.getfield 39, 3) := by decide +kernel
theorem dX0_addProduct_38 : decode cX0_addProduct 38 = .ok (.aload_n 0, 1) := by decide +kernel
theorem dX0_addProduct_39 : decode cX0_addProduct 39 = .ok (.getfield 33, 3) := by decide +kernel
theorem dX0_addProduct_42 : decode cX0_addProduct 42 = .ok (.iload_n 2, 1) := by decide +kernel
theorem dX0_addProduct_43 : decode cX0_addProduct 43 = .ok (.iastore, 1) := by decide +kernel
theorem dX0_addProduct_44 : decode cX0_addProduct 44 = .ok (.aload_n 0, 1) := by decide +kernel
theorem dX0_addProduct_45 : decode cX0_addProduct 45 = .ok (.dup, 1) := by decide +kernel
theorem dX0_addProduct_46 : decode cX0_addProduct 46 = .ok (.getfield 33, 3) := by decide +kernel
theorem dX0_addProduct_49 : decode cX0_addProduct 49 = .ok (.iconst 1, 1) := by decide +kernel
theorem dX0_addProduct_50 : decode cX0_addProduct 50 = .ok (.iadd, 1) := by decide +kernel
theorem dX0_addProduct_51 : decode cX0_addProduct 51 = .ok (.putfield 33, 3) := by decide +kernel
theorem dX0_addProduct_54 : decode cX0_addProduct 54 = .ok (.aload_n 0, 1) := by decide +kernel
theorem dX0_addProduct_55 : decode cX0_addProduct 55 = .ok (.getfield 33, 3) := by decide +kernel
theorem dX0_addProduct_58 : decode cX0_addProduct 58 = .ok (.iconst 1, 1) := by decide +kernel
theorem dX0_addProduct_59 : decode cX0_addProduct 59 = .ok (.isub, 1) := by decide +kernel
theorem dX0_addProduct_60 : decode cX0_addProduct 60 = .ok (.ireturn, 1) := by decide +kernel
set_option maxRecDepth 20000 in
theorem ggX0_insert_X0_checkKind : GoodIn wsX0_insert wsX0_checkKind := goodIn_ca (goodIn_r _ [11, 12, 13, 14, 23, 24, 25, 26, 27, 28, 29, 30, 31, 32, 33, 34, 35, 36, 37, 38, 39, 40] (by decide +kernel) (by decide +kernel)) (goodIn_sub (fun _ h => List.mem_cons_of_mem _ (List.mem_append_right _ h)) (by decide +kernel))
set_option maxRecDepth 20000 in
theorem gX0_insert_X0_checkKind : GoodIn wsX0_insert (wsV RX0 87 RX0 yX0_checkKind wsX0_checkKind) := goodIn_app (goodIn_of _ (by decide +kernel)) ggX0_insert_X0_checkKind
set_option maxRecDepth 20000 in
theorem ggX0_insert_X0_credit : GoodIn wsX0_insert wsX0_credit := goodIn_r _ [18, 14, 3, 19, 20, 21, 10, 22, 2, 5, 23, 24, 25, 26, 27, 28, 29, 30, 31, 32, 33, 34, 35, 36, 37, 38, 39, 40] (by decide +kernel) (by decide +kernel)
set_option maxRecDepth 20000 in
theorem gX0_insert_X0_credit : GoodIn wsX0_insert (wsV RX0 111 RX0 yX0_credit wsX0_credit) := goodIn_app (goodIn_of _ (by decide +kernel)) ggX0_insert_X0_credit
theorem dX0_insert_0 : decode cX0_insert 0 = .ok (.aload_n 0, 1) := by decide +kernel
theorem dX0_insert_1 : decode cX0_insert 1 = .ok (.iload_n 1, 1) := by decide +kernel
theorem dX0_insert_2 : decode cX0_insert 2 = .ok (.invokevirtual 87, 3) := by decide +kernel
theorem dX0_insert_5 : decode cX0_insert 5 = .ok (.aload_n 0, 1) := by decide +kernel
theorem dX0_insert_6 : decode cX0_insert 6 = .ok (.getfield 29, 3) := by decide +kernel
theorem dX0_insert_9 : decode cX0_insert 9 = .ok (.iload_n 1, 1) := by decide +kernel
theorem dX0_insert_10 : decode cX0_insert 10 = .ok (.baload, 1) := by decide +kernel
theorem dX0_insert_11 : decode cX0_insert 11 = .ok (.ifCond .ne 5, 3) := by decide +kernel
theorem dX0_insert_14 : decode cX0_insert 14 = .ok (.iconst 1, 1) := by decide +kernel
theorem dX0_insert_15 : decode cX0_insert 15 = .ok (.ireturn, 1) := by decide +kernel
theorem dX0_insert_16 : decode cX0_insert 16 = .ok (.aload_n 0, 1) := by decide +kernel
theorem dX0_insert_17 : decode cX0_insert 17 = .ok (.getfield 45, 3) := by decide +kernel
theorem dX0_insert_20 : decode cX0_insert 20 = .ok (.bipush 12, 2) := by decide +kernel
theorem dX0_insert_22 : decode cX0_insert 22 = .ok (.if_icmp .lt 5, 3) := by decide +kernel
theorem dX0_insert_25 : decode cX0_insert 25 = .ok (.iconst 2, 1) := by decide +kernel
theorem dX0_insert_26 : decode cX0_insert 26 = .ok (.ireturn, 1) := by decide +kernel
theorem dX0_insert_27 : decode cX0_insert 27 = .ok (.aload_n 0, 1) := by decide +kernel
theorem dX0_insert_28 : decode cX0_insert 28 = .ok (.invokevirtual 111, 3) := by decide +kernel
theorem dX0_insert_31 : decode cX0_insert 31 = .ok (.aload_n 0, 1) := by decide +kernel
theorem dX0_insert_32 : decode cX0_insert 32 = .ok (.getfield 13, 3) := by decide +kernel
theorem dX0_insert_35 : decode cX0_insert 35 = .ok (.iload_n 1, 1) := by decide +kernel
theorem dX0_insert_36 : decode cX0_insert 36 = .ok (.iaload, 1) := by decide +kernel
theorem dX0_insert_37 : decode cX0_insert 37 = .ok (.iadd, 1) := by decide +kernel
theorem dX0_insert_38 : decode cX0_insert 38 = .ok (.aload_n 0, 1) := by decide +kernel
theorem dX0_insert_39 : decode cX0_insert 39 = .ok (.getfield 42, 3) := by decide +kernel
theorem dX0_insert_42 : decode cX0_insert 42 = .ok (.if_icmp .le 5, 3) := by decide +kernel
theorem dX0_insert_45 : decode cX0_insert 45 = .ok (.iconst 3, 1) := by decide +kernel
theorem dX0_insert_46 : decode cX0_insert 46 = .ok (.ireturn, 1) := by decide +kernel
theorem dX0_insert_47 : decode cX0_insert 47 = .ok (.aload_n 0, 1) := by decide +kernel
theorem dX0_insert_48 : decode cX0_insert 48 = .ok (.getfield 48, 3) := by decide +kernel
theorem dX0_insert_51 : decode cX0_insert 51 = .ok (.aload_n 0, 1) := by decide +kernel
theorem dX0_insert_52 : decode cX0_insert 52 = .ok (.getfield 45, 3) := by decide +kernel
theorem dX0_insert_55 : decode cX0_insert 55 = .ok (.iload_n 1, 1) := by decide +kernel
theorem dX0_insert_56 : decode cX0_insert 56 = .ok (.iastore, 1) := by decide +kernel
theorem dX0_insert_57 : decode cX0_insert 57 = .ok (.aload_n 0, 1) := by decide +kernel
theorem dX0_insert_58 : decode cX0_insert 58 = .ok (.dup, 1) := by decide +kernel
theorem dX0_insert_59 : decode cX0_insert 59 = .ok (.getfield 45, 3) := by decide +kernel
theorem dX0_insert_62 : decode cX0_insert 62 = .ok (.iconst 1, 1) := by decide +kernel
theorem dX0_insert_63 : decode cX0_insert 63 = .ok (.iadd, 1) := by decide +kernel
theorem dX0_insert_64 : decode cX0_insert 64 = .ok (.putfield 45, 3) := by decide +kernel
theorem dX0_insert_67 : decode cX0_insert 67 = .ok (.aload_n 0, 1) := by decide +kernel
theorem dX0_insert_68 : decode cX0_insert 68 = .ok (.getfield 57, 3) := by decide +kernel
theorem dX0_insert_71 : decode cX0_insert 71 = .ok (.iconst 0, 1) := by decide +kernel
theorem dX0_insert_72 : decode cX0_insert 72 = .ok (.dup2, 1) := by decide +kernel
theorem dX0_insert_73 : decode cX0_insert 73 = .ok (.laload, 1) := by decide +kernel
theorem dX0_insert_74 : decode cX0_insert 74 = .ok (.aload_n 0, 1) := by decide +kernel
theorem dX0_insert_75 : decode cX0_insert 75 = .ok (.getfield 13, 3) := by decide +kernel
theorem dX0_insert_78 : decode cX0_insert 78 = .ok (.iload_n 1, 1) := by decide +kernel
theorem dX0_insert_79 : decode cX0_insert 79 = .ok (.iaload, 1) := by decide +kernel
theorem dX0_insert_80 : decode cX0_insert 80 = .ok (.i2l, 1) := by decide +kernel
theorem dX0_insert_81 : decode cX0_insert 81 = .ok (.ladd, 1) := by decide +kernel
theorem dX0_insert_82 : decode cX0_insert 82 = .ok (.lastore, 1) := by decide +kernel
theorem dX0_insert_83 : decode cX0_insert 83 = .ok (.iconst 0, 1) := by decide +kernel
theorem dX0_insert_84 : decode cX0_insert 84 = .ok (.ireturn, 1) := by decide +kernel
set_option maxRecDepth 20000 in
theorem ggX0_cancel_X0_credit : GoodIn wsX0_cancel wsX0_credit := goodIn_r _ [7, 8, 9, 10, 11, 12, 6, 13, 1, 14, 15, 16, 17, 18, 19, 20, 21, 22, 23, 24, 25, 26, 27, 28, 29, 30, 31, 32] (by decide +kernel) (by decide +kernel)
set_option maxRecDepth 20000 in
theorem gX0_cancel_X0_credit : GoodIn wsX0_cancel (wsV RX0 111 RX0 yX0_credit wsX0_credit) := goodIn_app (goodIn_of _ (by decide +kernel)) ggX0_cancel_X0_credit
theorem dX0_cancel_0 : decode cX0_cancel 0 = .ok (.aload_n 0, 1) := by decide +kernel
theorem dX0_cancel_1 : decode cX0_cancel 1 = .ok (.invokevirtual 111, 3) := by decide +kernel
theorem dX0_cancel_4 : decode cX0_cancel 4 = .ok (.istore_n 1, 1) := by decide +kernel
theorem dX0_cancel_5 : decode cX0_cancel 5 = .ok (.aload_n 0, 1) := by decide +kernel
theorem dX0_cancel_6 : decode cX0_cancel 6 = .ok (.iconst 0, 1) := by decide +kernel
theorem dX0_cancel_7 : decode cX0_cancel 7 = .ok (.putfield 45, 3) := by decide +kernel
theorem dX0_cancel_10 : decode cX0_cancel 10 = .ok (.aload_n 0, 1) := by decide +kernel
theorem dX0_cancel_11 : decode cX0_cancel 11 = .ok (.getfield 57, 3) := by decide +kernel
theorem dX0_cancel_14 : decode cX0_cancel 14 = .ok (.iconst 1, 1) := by decide +kernel
theorem dX0_cancel_15 : decode cX0_cancel 15 = .ok (.dup2, 1) := by decide +kernel
theorem dX0_cancel_16 : decode cX0_cancel 16 = .ok (.laload, 1) := by decide +kernel
theorem dX0_cancel_17 : decode cX0_cancel 17 = .ok (.iload_n 1, 1) := by decide +kernel
theorem dX0_cancel_18 : decode cX0_cancel 18 = .ok (.i2l, 1) := by decide +kernel
theorem dX0_cancel_19 : decode cX0_cancel 19 = .ok (.ladd, 1) := by decide +kernel
theorem dX0_cancel_20 : decode cX0_cancel 20 = .ok (.lastore, 1) := by decide +kernel
theorem dX0_cancel_21 : decode cX0_cancel 21 = .ok (.iload_n 1, 1) := by decide +kernel
theorem dX0_cancel_22 : decode cX0_cancel 22 = .ok (.ireturn, 1) := by decide +kernel
set_option maxRecDepth 20000 in
theorem ggX0_buy_X0_checkProduct : GoodIn wsX0_buy wsX0_checkProduct := goodIn_ca (goodIn_r _ [11, 12, 13, 14, 82, 83, 84, 85, 86, 87, 88, 89, 90, 91, 92, 93, 94, 95, 96, 97, 98, 99] (by decide +kernel) (by decide +kernel)) (goodIn_sub (fun _ h => List.mem_cons_of_mem _ (List.mem_append_right _ h)) (by decide +kernel))
set_option maxRecDepth 20000 in
theorem gX0_buy_X0_checkProduct : GoodIn wsX0_buy (wsV RX0 108 RX0 yX0_checkProduct wsX0_checkProduct) := goodIn_app (goodIn_of _ (by decide +kernel)) ggX0_buy_X0_checkProduct
set_option maxRecDepth 20000 in
theorem ggX0_buy_X0_credit : GoodIn wsX0_buy wsX0_credit := goodIn_r _ [18, 19, 20, 21, 22, 23, 10, 24, 25, 26, 82, 83, 84, 85, 86, 87, 88, 89, 90, 91, 92, 93, 94, 95, 96, 97, 98, 99] (by decide +kernel) (by decide +kernel)
set_option maxRecDepth 20000 in
theorem gX0_buy_X0_credit : GoodIn wsX0_buy (wsV RX0 111 RX0 yX0_credit wsX0_credit) := goodIn_app (goodIn_of _ (by decide +kernel)) ggX0_buy_X0_credit
set_option maxRecDepth 20000 in
theorem ggX0_buy_X0_foreseeTubes : GoodIn wsX0_buy wsX0_foreseeTubes := goodIn_r _ [30, 19, 3, 31, 32, 33, 34, 35, 36, 21, 22, 23, 10, 24, 25, 26, 82, 83, 84, 85, 86, 87, 88, 89, 90, 91, 92, 93, 94, 95, 96, 97, 98, 99] (by decide +kernel) (by decide +kernel)
set_option maxRecDepth 20000 in
theorem gX0_buy_X0_foreseeTubes : GoodIn wsX0_buy (wsV RX0 115 RX0 yX0_foreseeTubes wsX0_foreseeTubes) := goodIn_app (goodIn_of _ (by decide +kernel)) ggX0_buy_X0_foreseeTubes
set_option maxRecDepth 20000 in
theorem ggX0_buy_X0_scoreWays : GoodIn wsX0_buy wsX0_scoreWays := goodIn_r _ [40, 33, 34, 35, 36, 41, 4, 19, 42, 43, 44, 10, 45, 46, 20, 47, 48, 49, 50, 51, 52, 53, 54, 55, 56, 57, 82, 83, 84, 85, 86, 87, 88, 89, 90, 91, 92, 93, 94, 95, 96, 97, 98, 99] (by decide +kernel) (by decide +kernel)
set_option maxRecDepth 20000 in
theorem gX0_buy_X0_scoreWays : GoodIn wsX0_buy (wsV RX0 118 RX0 yX0_scoreWays wsX0_scoreWays) := goodIn_app (goodIn_of _ (by decide +kernel)) ggX0_buy_X0_scoreWays
set_option maxRecDepth 20000 in
theorem ggX0_buy_X0_scoreOf : GoodIn wsX0_buy wsX0_scoreOf := goodIn_r _ [61, 4, 41, 82, 83, 84, 85, 86, 87, 88, 89, 90, 91, 92, 93, 94, 95, 96, 97, 98, 99] (by decide +kernel) (by decide +kernel)
set_option maxRecDepth 20000 in
theorem gX0_buy_X0_scoreOf : GoodIn wsX0_buy (wsV RX0 122 RX0 yX0_scoreOf wsX0_scoreOf) := goodIn_app (goodIn_of _ (by decide +kernel)) ggX0_buy_X0_scoreOf
set_option maxRecDepth 20000 in
theorem ggX0_buy_X0_dropWaiting : GoodIn wsX0_buy wsX0_dropWaiting := goodIn_r _ [65, 19, 32, 31, 33, 34, 35, 36, 66, 25, 21, 22, 23, 10, 24, 26, 82, 83, 84, 85, 86, 87, 88, 89, 90, 91, 92, 93, 94, 95, 96, 97, 98, 99] (by decide +kernel) (by decide +kernel)
set_option maxRecDepth 20000 in
theorem gX0_buy_X0_dropWaiting : GoodIn wsX0_buy (wsV RX0 128 RX0 yX0_dropWaiting wsX0_dropWaiting) := goodIn_app (goodIn_of _ (by decide +kernel)) ggX0_buy_X0_dropWaiting
set_option maxRecDepth 20000 in
theorem ggX0_buy_X0_payOut : GoodIn wsX0_buy wsX0_payOut := goodIn_r _ [70, 19, 71, 31, 72, 73, 74, 10, 75, 76, 47, 48, 49, 50, 20, 82, 83, 84, 85, 86, 87, 88, 89, 90, 91, 92, 93, 94, 95, 96, 97, 98, 99] (by decide +kernel) (by decide +kernel)
set_option maxRecDepth 20000 in
theorem gX0_buy_X0_payOut : GoodIn wsX0_buy (wsV RX0 131 RX0 yX0_payOut wsX0_payOut) := goodIn_app (goodIn_of _ (by decide +kernel)) ggX0_buy_X0_payOut
set_option maxRecDepth 20000 in
theorem ggX0_buy_X0_countSale : GoodIn wsX0_buy wsX0_countSale := goodIn_r _ [80, 81, 82, 83, 84, 85, 86, 87, 88, 89, 90, 91, 92, 93, 94, 95, 96, 97, 98, 99] (by decide +kernel) (by decide +kernel)
set_option maxRecDepth 20000 in
theorem gX0_buy_X0_countSale : GoodIn wsX0_buy (wsV RX0 135 RX0 yX0_countSale wsX0_countSale) := goodIn_app (goodIn_of _ (by decide +kernel)) ggX0_buy_X0_countSale
theorem dX0_buy_0 : decode cX0_buy 0 = .ok (.aload_n 0, 1) := by decide +kernel
theorem dX0_buy_1 : decode cX0_buy 1 = .ok (.iload_n 1, 1) := by decide +kernel
theorem dX0_buy_2 : decode cX0_buy 2 = .ok (.invokevirtual 108, 3) := by decide +kernel
theorem dX0_buy_5 : decode cX0_buy 5 = .ok (.aload_n 0, 1) := by decide +kernel
theorem dX0_buy_6 : decode cX0_buy 6 = .ok (.getfield 39, 3) := by decide +kernel
theorem dX0_buy_9 : decode cX0_buy 9 = .ok (.iload_n 1, 1) := by decide +kernel
theorem dX0_buy_10 : decode cX0_buy 10 = .ok (.iaload, 1) := by decide +kernel
theorem dX0_buy_11 : decode cX0_buy 11 = .ok (.ifCond .ne 5, 3) := by decide +kernel
theorem dX0_buy_14 : decode cX0_buy 14 = .ok (.iconst 1, 1) := by decide +kernel
theorem dX0_buy_15 : decode cX0_buy 15 = .ok (.ireturn, 1) := by decide +kernel
theorem dX0_buy_16 : decode cX0_buy 16 = .ok (.aload_n 0, 1) := by decide +kernel
theorem dX0_buy_17 : decode cX0_buy 17 = .ok (.getfield 36, 3) := by decide +kernel
theorem dX0_buy_20 : decode cX0_buy 20 = .ok (.iload_n 1, 1) := by decide +kernel
theorem dX0_buy_21 : decode cX0_buy 21 = .ok (.iaload, 1) := by decide +kernel
theorem dX0_buy_22 : decode cX0_buy 22 = .ok (.istore_n 2, 1) := by decide +kernel
theorem dX0_buy_23 : decode cX0_buy 23 = .ok (.aload_n 0, 1) := by decide +kernel
theorem dX0_buy_24 : decode cX0_buy 24 = .ok (.invokevirtual 111, 3) := by decide +kernel
theorem dX0_buy_27 : decode cX0_buy 27 = .ok (.iload_n 2, 1) := by decide +kernel
theorem dX0_buy_28 : decode cX0_buy 28 = .ok (.isub, 1) := by decide +kernel
theorem dX0_buy_29 : decode cX0_buy 29 = .ok (.istore_n 3, 1) := by decide +kernel
theorem dX0_buy_30 : decode cX0_buy 30 = .ok (.iload_n 3, 1) := by decide +kernel
theorem dX0_buy_31 : decode cX0_buy 31 = .ok (.ifCond .ge 5, 3) := by decide +kernel
theorem dX0_buy_34 : decode cX0_buy 34 = .ok (.iconst 2, 1) := by decide +kernel
theorem dX0_buy_35 : decode cX0_buy 35 = .ok (.ireturn, 1) := by decide +kernel
theorem dX0_buy_36 : decode cX0_buy 36 = .ok (.aload_n 0, 1) := by decide +kernel
theorem dX0_buy_37 : decode cX0_buy 37 = .ok (.invokevirtual 115, 3) := by decide +kernel
theorem dX0_buy_40 : decode cX0_buy 40 = .ok (.aload_n 0, 1) := by decide +kernel
theorem dX0_buy_41 : decode cX0_buy 41 = .ok (.iload_n 3, 1) := by decide +kernel
theorem dX0_buy_42 : decode cX0_buy 42 = .ok (.aload_n 0, 1) := by decide +kernel
theorem dX0_buy_43 : decode cX0_buy 43 = .ok (.getfield 64, 3) := by decide +kernel
theorem dX0_buy_46 : decode cX0_buy 46 = .ok (.invokevirtual 118, 3) := by decide +kernel
theorem dX0_buy_49 : decode cX0_buy 49 = .ok (.aload_n 0, 1) := by decide +kernel
theorem dX0_buy_50 : decode cX0_buy 50 = .ok (.iload_n 3, 1) := by decide +kernel
theorem dX0_buy_51 : decode cX0_buy 51 = .ok (.invokevirtual 122, 3) := by decide +kernel
theorem dX0_buy_54 : decode cX0_buy 54 = .ok (.lstore 4, 2) := by decide +kernel
theorem dX0_buy_56 : decode cX0_buy 56 = .ok (.lload 4, 2) := by decide +kernel
theorem dX0_buy_58 : decode cX0_buy 58 = .ok (.ldc2_w 126, 3) := by decide +kernel
theorem dX0_buy_61 : decode cX0_buy 61 = .ok (.lcmp, 1) := by decide +kernel
theorem dX0_buy_62 : decode cX0_buy 62 = .ok (.ifCond .ne 5, 3) := by decide +kernel
theorem dX0_buy_65 : decode cX0_buy 65 = .ok (.iconst 3, 1) := by decide +kernel
theorem dX0_buy_66 : decode cX0_buy 66 = .ok (.ireturn, 1) := by decide +kernel
theorem dX0_buy_67 : decode cX0_buy 67 = .ok (.aload_n 0, 1) := by decide +kernel
theorem dX0_buy_68 : decode cX0_buy 68 = .ok (.invokevirtual 128, 3) := by decide +kernel
theorem dX0_buy_71 : decode cX0_buy 71 = .ok (.aload_n 0, 1) := by decide +kernel
theorem dX0_buy_72 : decode cX0_buy 72 = .ok (.lload 4, 2) := by decide +kernel
theorem dX0_buy_74 : decode cX0_buy 74 = .ok (.invokevirtual 131, 3) := by decide +kernel
theorem dX0_buy_77 : decode cX0_buy 77 = .ok (.aload_n 0, 1) := by decide +kernel
theorem dX0_buy_78 : decode cX0_buy 78 = .ok (.getfield 39, 3) := by decide +kernel
theorem dX0_buy_81 : decode cX0_buy 81 = .ok (.iload_n 1, 1) := by decide +kernel
theorem dX0_buy_82 : decode cX0_buy 82 = .ok (.dup2, 1) := by decide +kernel
theorem dX0_buy_83 : decode cX0_buy 83 = .ok (.iaload, 1) := by decide +kernel
theorem dX0_buy_84 : decode cX0_buy 84 = .ok (.iconst 1, 1) := by decide +kernel
theorem dX0_buy_85 : decode cX0_buy 85 = .ok (.isub, 1) := by decide +kernel
theorem dX0_buy_86 : decode cX0_buy 86 = .ok (.iastore, 1) := by decide +kernel
theorem dX0_buy_87 : decode cX0_buy 87 = .ok (.aload_n 0, 1) := by decide +kernel
theorem dX0_buy_88 : decode cX0_buy 88 = .ok (.iload_n 1, 1) := by decide +kernel
theorem dX0_buy_89 : decode cX0_buy 89 = .ok (.putfield 51, 3) := by decide +kernel
theorem dX0_buy_92 : decode cX0_buy 92 = .ok (.aload_n 0, 1) := by decide +kernel
theorem dX0_buy_93 : decode cX0_buy 93 = .ok (.iload_n 2, 1) := by decide +kernel
theorem dX0_buy_94 : decode cX0_buy 94 = .ok (.putfield 54, 3) := by decide +kernel
theorem dX0_buy_97 : decode cX0_buy 97 = .ok (.aload_n 0, 1) := by decide +kernel
theorem dX0_buy_98 : decode cX0_buy 98 = .ok (.iload_n 2, 1) := by decide +kernel
theorem dX0_buy_99 : decode cX0_buy 99 = .ok (.iload_n 3, 1) := by decide +kernel
theorem dX0_buy_100 : decode cX0_buy 100 = .ok (.invokevirtual 135, 3) := by decide +kernel
theorem dX0_buy_103 : decode cX0_buy 103 = .ok (.iconst 0, 1) := by decide +kernel
theorem dX0_buy_104 : decode cX0_buy 104 = .ok (.ireturn, 1) := by decide +kernel
set_option maxRecDepth 20000 in
theorem ggX0_credit_X0_waitingOf : GoodIn wsX0_credit wsX0_waitingOf := goodIn_r _ [7, 8, 9, 10, 11, 12, 13, 14, 15, 16, 17, 18, 19, 20, 21, 22, 23, 24, 25, 26, 27] (by decide +kernel) (by decide +kernel)
set_option maxRecDepth 20000 in
theorem gX0_credit_X0_waitingOf : GoodIn wsX0_credit (wsV RX0 140 RX0 yX0_waitingOf wsX0_waitingOf) := goodIn_app (goodIn_of _ (by decide +kernel)) ggX0_credit_X0_waitingOf
theorem dX0_credit_0 : decode cX0_credit 0 = .ok (.iconst 0, 1) := by decide +kernel
theorem dX0_credit_1 : decode cX0_credit 1 = .ok (.istore_n 1, 1) := by decide +kernel
theorem dX0_credit_2 : decode cX0_credit 2 = .ok (.iconst 0, 1) := by decide +kernel
theorem dX0_credit_3 : decode cX0_credit 3 = .ok (.istore_n 2, 1) := by decide +kernel
theorem dX0_credit_4 : decode cX0_credit 4 = .ok (.iload_n 2, 1) := by decide +kernel
theorem dX0_credit_5 : decode cX0_credit 5 = .ok (.aload_n 0, 1) := by decide +kernel
theorem dX0_credit_6 : decode cX0_credit 6 = .ok (.getfield 9, 3) := by decide +kernel
theorem dX0_credit_9 : decode cX0_credit 9 = .ok (.if_icmp .ge 24, 3) := by decide +kernel
theorem dX0_credit_12 : decode cX0_credit 12 = .ok (.iload_n 1, 1) := by decide +kernel
theorem dX0_credit_13 : decode cX0_credit 13 = .ok (.aload_n 0, 1) := by decide +kernel
theorem dX0_credit_14 : decode cX0_credit 14 = .ok (.iload_n 2, 1) := by decide +kernel
theorem dX0_credit_15 : decode cX0_credit 15 = .ok (.invokevirtual 140, 3) := by decide +kernel
theorem dX0_credit_18 : decode cX0_credit 18 = .ok (.aload_n 0, 1) := by decide +kernel
theorem dX0_credit_19 : decode cX0_credit 19 = .ok (.getfield 13, 3) := by decide +kernel
theorem dX0_credit_22 : decode cX0_credit 22 = .ok (.iload_n 2, 1) := by decide +kernel
theorem dX0_credit_23 : decode cX0_credit 23 = .ok (.iaload, 1) := by decide +kernel
theorem dX0_credit_24 : decode cX0_credit 24 = .ok (.imul, 1) := by decide +kernel
theorem dX0_credit_25 : decode cX0_credit 25 = .ok (.iadd, 1) := by decide +kernel
theorem dX0_credit_26 : decode cX0_credit 26 = .ok (.istore_n 1, 1) := by decide +kernel
theorem dX0_credit_27 : decode cX0_credit 27 = .ok (.iinc 2 1, 3) := by decide +kernel
theorem dX0_credit_30 : decode cX0_credit 30 = .ok (.goto (-26), 3) := by decide +kernel
theorem dX0_credit_33 : decode cX0_credit 33 = .ok (.iload_n 1, 1) := by decide +kernel
theorem dX0_credit_34 : decode cX0_credit 34 = .ok (.ireturn, 1) := by decide +kernel
set_option maxRecDepth 20000 in
theorem ggX0_coins_X0_checkKind : GoodIn wsX0_coins wsX0_checkKind := goodIn_ca (goodIn_r _ [7, 1, 2, 8, 17, 18, 19, 20, 21, 22, 23, 24, 25, 26, 27, 28, 29, 30, 31, 32, 33, 34] (by decide +kernel) (by decide +kernel)) (goodIn_sub (fun _ h => List.mem_cons_of_mem _ (List.mem_append_right _ h)) (by decide +kernel))
set_option maxRecDepth 20000 in
theorem gX0_coins_X0_checkKind : GoodIn wsX0_coins (wsV RX0 87 RX0 yX0_checkKind wsX0_checkKind) := goodIn_app (goodIn_of _ (by decide +kernel)) ggX0_coins_X0_checkKind
set_option maxRecDepth 20000 in
theorem ggX0_coins_X0_toldOfKind : GoodIn wsX0_coins wsX0_toldOfKind := goodIn_r _ [12, 13, 14, 15, 16, 17, 18, 19, 20, 21, 22, 23, 24, 25, 26, 27, 28, 29, 30, 31, 32, 33, 34] (by decide +kernel) (by decide +kernel)
set_option maxRecDepth 20000 in
theorem gX0_coins_X0_toldOfKind : GoodIn wsX0_coins (wsV RX0 151 RX0 yX0_toldOfKind wsX0_toldOfKind) := goodIn_app (goodIn_of _ (by decide +kernel)) ggX0_coins_X0_toldOfKind
theorem dX0_coins_0 : decode cX0_coins 0 = .ok (.aload_n 0, 1) := by decide +kernel
theorem dX0_coins_1 : decode cX0_coins 1 = .ok (.iload_n 1, 1) := by decide +kernel
theorem dX0_coins_2 : decode cX0_coins 2 = .ok (.invokevirtual 87, 3) := by decide +kernel
theorem dX0_coins_5 : decode cX0_coins 5 = .ok (.iload_n 2, 1) := by decide +kernel
theorem dX0_coins_6 : decode cX0_coins 6 = .ok (.ifCond .lt 8, 3) := by decide +kernel
theorem dX0_coins_9 : decode cX0_coins 9 = .ok (.iload_n 2, 1) := by decide +kernel
theorem dX0_coins_10 : decode cX0_coins 10 = .ok (.iconst 4, 1) := by decide +kernel
theorem dX0_coins_11 : decode cX0_coins 11 = .ok (.if_icmp .lt 13, 3) := by decide +kernel
theorem dX0_coins_14 : decode cX0_coins 14 = .ok (.new 144, 3) := by decide +kernel
theorem dX0_coins_17 : decode cX0_coins 17 = .ok (.dup, 1) := by decide +kernel
theorem dX0_coins_18 : decode cX0_coins 18 = .ok (.ldc 149, 2) := by decide +kernel
theorem dX0_coins_20 : decode cX0_coins 20 = .ok (.invokespecial 148, 3) := by decide +kernel
theorem dX0_coins_23 : decode cX0_coins 23 = .ok (.athrow, 1) := by decide +kernel
theorem dX0_coins_24 : decode cX0_coins 24 = .ok (.aload_n 0, 1) := by decide +kernel
theorem dX0_coins_25 : decode cX0_coins 25 = .ok (.iload_n 1, 1) := by decide +kernel
theorem dX0_coins_26 : decode cX0_coins 26 = .ok (.iload_n 2, 1) := by decide +kernel
theorem dX0_coins_27 : decode cX0_coins 27 = .ok (.invokevirtual 151, 3) := by decide +kernel
theorem dX0_coins_30 : decode cX0_coins 30 = .ok (.ireturn, 1) := by decide +kernel
set_option maxRecDepth 20000 in
theorem ggX0_fewest_X0_checkAmount : GoodIn wsX0_fewest wsX0_checkAmount := goodIn_ca (goodIn_r _ [6, 7, 8] (by decide +kernel) (by decide +kernel)) (goodIn_sub (fun _ h => List.mem_cons_of_mem _ (List.mem_append_right _ h)) (by decide +kernel))
set_option maxRecDepth 20000 in
theorem gX0_fewest_X0_checkAmount : GoodIn wsX0_fewest (va_wsS RX0 154 yX0_checkAmount wsX0_checkAmount) := goodIn_app (goodIn_of _ (by decide +kernel)) ggX0_fewest_X0_checkAmount
set_option maxRecDepth 20000 in
theorem ggX0_fewest_X0_scoreWays : GoodIn wsX0_fewest wsX0_scoreWays := goodIn_r _ [12, 13, 14, 15, 16, 17, 2, 18, 19, 20, 21, 5, 22, 23, 24, 25, 26, 27, 28, 29, 30, 31, 32, 33, 34, 35, 43, 44, 45, 46, 47, 48, 49, 50, 51, 52, 53, 54, 55, 56, 57, 58, 59, 60] (by decide +kernel) (by decide +kernel)
set_option maxRecDepth 20000 in
theorem gX0_fewest_X0_scoreWays : GoodIn wsX0_fewest (wsV RX0 118 RX0 yX0_scoreWays wsX0_scoreWays) := goodIn_app (goodIn_of _ (by decide +kernel)) ggX0_fewest_X0_scoreWays
set_option maxRecDepth 20000 in
theorem ggX0_fewest_X0_scoreOf : GoodIn wsX0_fewest wsX0_scoreOf := goodIn_r _ [39, 2, 17, 43, 44, 45, 46, 47, 48, 49, 50, 51, 52, 53, 54, 55, 56, 57, 58, 59, 60] (by decide +kernel) (by decide +kernel)
set_option maxRecDepth 20000 in
theorem gX0_fewest_X0_scoreOf : GoodIn wsX0_fewest (wsV RX0 122 RX0 yX0_scoreOf wsX0_scoreOf) := goodIn_app (goodIn_of _ (by decide +kernel)) ggX0_fewest_X0_scoreOf
set_option maxRecDepth 20000 in
theorem ggX0_fewest_X0_coinsInWay : GoodIn wsX0_fewest wsX0_coinsInWay := goodIn_r _ [42] (by decide +kernel) (by decide +kernel)
set_option maxRecDepth 20000 in
theorem gX0_fewest_X0_coinsInWay : GoodIn wsX0_fewest (va_wsS RX0 157 yX0_coinsInWay wsX0_coinsInWay) := goodIn_app (goodIn_of _ (by decide +kernel)) ggX0_fewest_X0_coinsInWay
theorem dX0_fewest_0 : decode cX0_fewest 0 = .ok (.iload_n 1, 1) := by decide +kernel
theorem dX0_fewest_1 : decode cX0_fewest 1 = .ok (.invokestatic 154, 3) := by decide +kernel
theorem dX0_fewest_4 : decode cX0_fewest 4 = .ok (.aload_n 0, 1) := by decide +kernel
theorem dX0_fewest_5 : decode cX0_fewest 5 = .ok (.iload_n 1, 1) := by decide +kernel
theorem dX0_fewest_6 : decode cX0_fewest 6 = .ok (.aload_n 0, 1) := by decide +kernel
theorem dX0_fewest_7 : decode cX0_fewest 7 = .ok (.getfield 20, 3) := by decide +kernel
theorem dX0_fewest_10 : decode cX0_fewest 10 = .ok (.invokevirtual 118, 3) := by decide +kernel
theorem dX0_fewest_13 : decode cX0_fewest 13 = .ok (.aload_n 0, 1) := by decide +kernel
theorem dX0_fewest_14 : decode cX0_fewest 14 = .ok (.iload_n 1, 1) := by decide +kernel
theorem dX0_fewest_15 : decode cX0_fewest 15 = .ok (.invokevirtual 122, 3) := by decide +kernel
theorem dX0_fewest_18 : decode cX0_fewest 18 = .ok (.lstore_n 2, 1) := by decide +kernel
theorem dX0_fewest_19 : decode cX0_fewest 19 = .ok (.lload_n 2, 1) := by decide +kernel
theorem dX0_fewest_20 : decode cX0_fewest 20 = .ok (.ldc2_w 126, 3) := by decide +kernel
theorem dX0_fewest_23 : decode cX0_fewest 23 = .ok (.lcmp, 1) := by decide +kernel
theorem dX0_fewest_24 : decode cX0_fewest 24 = .ok (.ifCond .ne 7, 3) := by decide +kernel
theorem dX0_fewest_27 : decode cX0_fewest 27 = .ok (.iconst (-1), 1) := by decide +kernel
theorem dX0_fewest_28 : decode cX0_fewest 28 = .ok (.goto 7, 3) := by decide +kernel
theorem dX0_fewest_31 : decode cX0_fewest 31 = .ok (.lload_n 2, 1) := by decide +kernel
theorem dX0_fewest_32 : decode cX0_fewest 32 = .ok (.invokestatic 157, 3) := by decide +kernel
theorem dX0_fewest_35 : decode cX0_fewest 35 = .ok (.ireturn, 1) := by decide +kernel
set_option maxRecDepth 20000 in
theorem ggX0_part_X0_checkAmount : GoodIn wsX0_part wsX0_checkAmount := goodIn_ca (goodIn_r _ [6, 7, 8] (by decide +kernel) (by decide +kernel)) (goodIn_sub (fun _ h => List.mem_cons_of_mem _ (List.mem_append_left _ (List.mem_append_right _ h))) (by decide +kernel))
set_option maxRecDepth 20000 in
theorem gX0_part_X0_checkAmount : GoodIn wsX0_part (va_wsS RX0 154 yX0_checkAmount wsX0_checkAmount) := goodIn_app (goodIn_of _ (by decide +kernel)) ggX0_part_X0_checkAmount
set_option maxRecDepth 20000 in
theorem ggX0_part_X0_checkKind : GoodIn wsX0_part wsX0_checkKind := goodIn_ca (goodIn_r _ [12, 13, 14, 15, 51, 52, 53, 54, 55, 56, 57, 58, 59, 60, 61, 62, 63, 64, 65, 66, 67, 68] (by decide +kernel) (by decide +kernel)) (goodIn_sub (fun _ h => List.mem_cons_of_mem _ (List.mem_append_right _ h)) (by decide +kernel))
set_option maxRecDepth 20000 in
theorem gX0_part_X0_checkKind : GoodIn wsX0_part (wsV RX0 87 RX0 yX0_checkKind wsX0_checkKind) := goodIn_app (goodIn_of _ (by decide +kernel)) ggX0_part_X0_checkKind
set_option maxRecDepth 20000 in
theorem ggX0_part_X0_scoreWays : GoodIn wsX0_part wsX0_scoreWays := goodIn_r _ [19, 20, 21, 22, 23, 24, 2, 15, 25, 26, 27, 5, 28, 29, 30, 31, 32, 33, 34, 35, 36, 37, 38, 39, 40, 41, 51, 52, 53, 54, 55, 56, 57, 58, 59, 60, 61, 62, 63, 64, 65, 66, 67, 68] (by decide +kernel) (by decide +kernel)
set_option maxRecDepth 20000 in
theorem gX0_part_X0_scoreWays : GoodIn wsX0_part (wsV RX0 118 RX0 yX0_scoreWays wsX0_scoreWays) := goodIn_app (goodIn_of _ (by decide +kernel)) ggX0_part_X0_scoreWays
set_option maxRecDepth 20000 in
theorem ggX0_part_X0_scoreOf : GoodIn wsX0_part wsX0_scoreOf := goodIn_r _ [45, 2, 24, 51, 52, 53, 54, 55, 56, 57, 58, 59, 60, 61, 62, 63, 64, 65, 66, 67, 68] (by decide +kernel) (by decide +kernel)
set_option maxRecDepth 20000 in
theorem gX0_part_X0_scoreOf : GoodIn wsX0_part (wsV RX0 122 RX0 yX0_scoreOf wsX0_scoreOf) := goodIn_app (goodIn_of _ (by decide +kernel)) ggX0_part_X0_scoreOf
set_option maxRecDepth 20000 in
theorem ggX0_part_X0_coinsOfKindInWay : GoodIn wsX0_part wsX0_coinsOfKindInWay := goodIn_r _ [49, 50, 31, 32, 33, 5, 34, 15, 30, 51, 52, 53, 54, 55, 56, 57, 58, 59, 60, 61, 62, 63, 64, 65, 66, 67, 68] (by decide +kernel) (by decide +kernel)
set_option maxRecDepth 20000 in
theorem gX0_part_X0_coinsOfKindInWay : GoodIn wsX0_part (wsV RX0 161 RX0 yX0_coinsOfKindInWay wsX0_coinsOfKindInWay) := goodIn_app (goodIn_of _ (by decide +kernel)) ggX0_part_X0_coinsOfKindInWay
theorem dX0_part_0 : decode cX0_part 0 = .ok (.iload_n 1, 1) := by decide +kernel
theorem dX0_part_1 : decode cX0_part 1 = .ok (.invokestatic 154, 3) := by decide +kernel
theorem dX0_part_4 : decode cX0_part 4 = .ok (.aload_n 0, 1) := by decide +kernel
theorem dX0_part_5 : decode cX0_part 5 = .ok (.iload_n 2, 1) := by decide +kernel
theorem dX0_part_6 : decode cX0_part 6 = .ok (.invokevirtual 87, 3) := by decide +kernel
theorem dX0_part_9 : decode cX0_part 9 = .ok (.aload_n 0, 1) := by decide +kernel
theorem dX0_part_10 : decode cX0_part 10 = .ok (.iload_n 1, 1) := by decide +kernel
theorem dX0_part_11 : decode cX0_part 11 = .ok (.aload_n 0, 1) := by decide +kernel
theorem dX0_part_12 : decode cX0_part 12 = .ok (.getfield 20, 3) := by decide +kernel
theorem dX0_part_15 : decode cX0_part 15 = .ok (.invokevirtual 118, 3) := by decide +kernel
theorem dX0_part_18 : decode cX0_part 18 = .ok (.aload_n 0, 1) := by decide +kernel
theorem dX0_part_19 : decode cX0_part 19 = .ok (.iload_n 1, 1) := by decide +kernel
theorem dX0_part_20 : decode cX0_part 20 = .ok (.invokevirtual 122, 3) := by decide +kernel
theorem dX0_part_23 : decode cX0_part 23 = .ok (.lstore_n 3, 1) := by decide +kernel
theorem dX0_part_24 : decode cX0_part 24 = .ok (.lload_n 3, 1) := by decide +kernel
theorem dX0_part_25 : decode cX0_part 25 = .ok (.ldc2_w 126, 3) := by decide +kernel
theorem dX0_part_28 : decode cX0_part 28 = .ok (.lcmp, 1) := by decide +kernel
theorem dX0_part_29 : decode cX0_part 29 = .ok (.ifCond .ne 7, 3) := by decide +kernel
theorem dX0_part_32 : decode cX0_part 32 = .ok (.iconst (-1), 1) := by decide +kernel
theorem dX0_part_33 : decode cX0_part 33 = .ok (.goto 9, 3) := by decide +kernel
theorem dX0_part_36 : decode cX0_part 36 = .ok (.aload_n 0, 1) := by decide +kernel
theorem dX0_part_37 : decode cX0_part 37 = .ok (.lload_n 3, 1) := by decide +kernel
theorem dX0_part_38 : decode cX0_part 38 = .ok (.iload_n 2, 1) := by decide +kernel
theorem dX0_part_39 : decode cX0_part 39 = .ok (.invokevirtual 161, 3) := by decide +kernel
theorem dX0_part_42 : decode cX0_part 42 = .ok (.ireturn, 1) := by decide +kernel
set_option maxRecDepth 20000 in
theorem ggX0_below_X0_checkAmount : GoodIn wsX0_below wsX0_checkAmount := goodIn_ca (goodIn_r _ [6, 7, 8] (by decide +kernel) (by decide +kernel)) (goodIn_sub (fun _ h => List.mem_cons_of_mem _ (List.mem_append_right _ h)) (by decide +kernel))
set_option maxRecDepth 20000 in
theorem gX0_below_X0_checkAmount : GoodIn wsX0_below (va_wsS RX0 154 yX0_checkAmount wsX0_checkAmount) := goodIn_app (goodIn_of _ (by decide +kernel)) ggX0_below_X0_checkAmount
set_option maxRecDepth 20000 in
theorem ggX0_below_X0_scoreWays : GoodIn wsX0_below wsX0_scoreWays := goodIn_r _ [12, 13, 14, 15, 16, 17, 2, 18, 19, 20, 21, 5, 22, 23, 24, 25, 26, 27, 28, 29, 30, 31, 32, 33, 34, 35, 40, 41, 42, 43, 44, 45, 46, 47, 48, 49, 50, 51, 52, 53, 54, 55, 56, 57] (by decide +kernel) (by decide +kernel)
set_option maxRecDepth 20000 in
theorem gX0_below_X0_scoreWays : GoodIn wsX0_below (wsV RX0 118 RX0 yX0_scoreWays wsX0_scoreWays) := goodIn_app (goodIn_of _ (by decide +kernel)) ggX0_below_X0_scoreWays
set_option maxRecDepth 20000 in
theorem ggX0_below_X0_scoreOf : GoodIn wsX0_below wsX0_scoreOf := goodIn_r _ [39, 2, 17, 40, 41, 42, 43, 44, 45, 46, 47, 48, 49, 50, 51, 52, 53, 54, 55, 56, 57] (by decide +kernel) (by decide +kernel)
set_option maxRecDepth 20000 in
theorem gX0_below_X0_scoreOf : GoodIn wsX0_below (wsV RX0 122 RX0 yX0_scoreOf wsX0_scoreOf) := goodIn_app (goodIn_of _ (by decide +kernel)) ggX0_below_X0_scoreOf
theorem dX0_below_0 : decode cX0_below 0 = .ok (.iload_n 1, 1) := by decide +kernel
theorem dX0_below_1 : decode cX0_below 1 = .ok (.invokestatic 154, 3) := by decide +kernel
theorem dX0_below_4 : decode cX0_below 4 = .ok (.aload_n 0, 1) := by decide +kernel
theorem dX0_below_5 : decode cX0_below 5 = .ok (.iload_n 1, 1) := by decide +kernel
theorem dX0_below_6 : decode cX0_below 6 = .ok (.aload_n 0, 1) := by decide +kernel
theorem dX0_below_7 : decode cX0_below 7 = .ok (.getfield 20, 3) := by decide +kernel
theorem dX0_below_10 : decode cX0_below 10 = .ok (.invokevirtual 118, 3) := by decide +kernel
theorem dX0_below_13 : decode cX0_below 13 = .ok (.iload_n 1, 1) := by decide +kernel
theorem dX0_below_14 : decode cX0_below 14 = .ok (.istore_n 2, 1) := by decide +kernel
theorem dX0_below_15 : decode cX0_below 15 = .ok (.iload_n 2, 1) := by decide +kernel
theorem dX0_below_16 : decode cX0_below 16 = .ok (.ifCond .le 23, 3) := by decide +kernel
theorem dX0_below_19 : decode cX0_below 19 = .ok (.aload_n 0, 1) := by decide +kernel
theorem dX0_below_20 : decode cX0_below 20 = .ok (.iload_n 2, 1) := by decide +kernel
theorem dX0_below_21 : decode cX0_below 21 = .ok (.invokevirtual 122, 3) := by decide +kernel
theorem dX0_below_24 : decode cX0_below 24 = .ok (.ldc2_w 126, 3) := by decide +kernel
theorem dX0_below_27 : decode cX0_below 27 = .ok (.lcmp, 1) := by decide +kernel
theorem dX0_below_28 : decode cX0_below 28 = .ok (.ifCond .eq 5, 3) := by decide +kernel
theorem dX0_below_31 : decode cX0_below 31 = .ok (.iload_n 2, 1) := by decide +kernel
theorem dX0_below_32 : decode cX0_below 32 = .ok (.ireturn, 1) := by decide +kernel
theorem dX0_below_33 : decode cX0_below 33 = .ok (.iinc 2 (-1), 3) := by decide +kernel
theorem dX0_below_36 : decode cX0_below 36 = .ok (.goto (-21), 3) := by decide +kernel
theorem dX0_below_39 : decode cX0_below 39 = .ok (.iconst 0, 1) := by decide +kernel
theorem dX0_below_40 : decode cX0_below 40 = .ok (.ireturn, 1) := by decide +kernel
set_option maxRecDepth 20000 in
theorem ggX0_gaps_X0_checkAmount : GoodIn wsX0_gaps wsX0_checkAmount := goodIn_ca (goodIn_r _ [6, 7, 8] (by decide +kernel) (by decide +kernel)) (goodIn_sub (fun _ h => List.mem_cons_of_mem _ (List.mem_append_right _ h)) (by decide +kernel))
set_option maxRecDepth 20000 in
theorem gX0_gaps_X0_checkAmount : GoodIn wsX0_gaps (va_wsS RX0 154 yX0_checkAmount wsX0_checkAmount) := goodIn_app (goodIn_of _ (by decide +kernel)) ggX0_gaps_X0_checkAmount
set_option maxRecDepth 20000 in
theorem ggX0_gaps_X0_unit : GoodIn wsX0_gaps wsX0_unit := goodIn_r _ [12, 13, 14, 15, 16, 5, 17, 18, 48, 49, 50, 51, 52, 53, 54, 55, 56, 57, 58, 59, 60, 61, 62, 63, 64, 65] (by decide +kernel) (by decide +kernel)
set_option maxRecDepth 20000 in
theorem gX0_gaps_X0_unit : GoodIn wsX0_gaps (wsV RX0 165 RX0 yX0_unit wsX0_unit) := goodIn_app (goodIn_of _ (by decide +kernel)) ggX0_gaps_X0_unit
set_option maxRecDepth 20000 in
theorem ggX0_gaps_X0_scoreWays : GoodIn wsX0_gaps wsX0_scoreWays := goodIn_r _ [22, 23, 24, 25, 26, 27, 2, 13, 28, 29, 30, 5, 31, 32, 18, 33, 34, 35, 36, 37, 38, 39, 40, 41, 42, 43, 48, 49, 50, 51, 52, 53, 54, 55, 56, 57, 58, 59, 60, 61, 62, 63, 64, 65] (by decide +kernel) (by decide +kernel)
set_option maxRecDepth 20000 in
theorem gX0_gaps_X0_scoreWays : GoodIn wsX0_gaps (wsV RX0 118 RX0 yX0_scoreWays wsX0_scoreWays) := goodIn_app (goodIn_of _ (by decide +kernel)) ggX0_gaps_X0_scoreWays
set_option maxRecDepth 20000 in
theorem ggX0_gaps_X0_scoreOf : GoodIn wsX0_gaps wsX0_scoreOf := goodIn_r _ [47, 2, 27, 48, 49, 50, 51, 52, 53, 54, 55, 56, 57, 58, 59, 60, 61, 62, 63, 64, 65] (by decide +kernel) (by decide +kernel)
set_option maxRecDepth 20000 in
theorem gX0_gaps_X0_scoreOf : GoodIn wsX0_gaps (wsV RX0 122 RX0 yX0_scoreOf wsX0_scoreOf) := goodIn_app (goodIn_of _ (by decide +kernel)) ggX0_gaps_X0_scoreOf
theorem dX0_gaps_0 : decode cX0_gaps 0 = .ok (.iload_n 1, 1) := by decide +kernel
theorem dX0_gaps_1 : decode cX0_gaps 1 = .ok (.invokestatic 154, 3) := by decide +kernel
theorem dX0_gaps_4 : decode cX0_gaps 4 = .ok (.aload_n 0, 1) := by decide +kernel
theorem dX0_gaps_5 : decode cX0_gaps 5 = .ok (.invokevirtual 165, 3) := by decide +kernel
theorem dX0_gaps_8 : decode cX0_gaps 8 = .ok (.istore_n 2, 1) := by decide +kernel
theorem dX0_gaps_9 : decode cX0_gaps 9 = .ok (.iload_n 2, 1) := by decide +kernel
theorem dX0_gaps_10 : decode cX0_gaps 10 = .ok (.iconst 1, 1) := by decide +kernel
theorem dX0_gaps_11 : decode cX0_gaps 11 = .ok (.if_icmp .ge 5, 3) := by decide +kernel
theorem dX0_gaps_14 : decode cX0_gaps 14 = .ok (.iconst 0, 1) := by decide +kernel
theorem dX0_gaps_15 : decode cX0_gaps 15 = .ok (.ireturn, 1) := by decide +kernel
theorem dX0_gaps_16 : decode cX0_gaps 16 = .ok (.aload_n 0, 1) := by decide +kernel
theorem dX0_gaps_17 : decode cX0_gaps 17 = .ok (.iload_n 1, 1) := by decide +kernel
theorem dX0_gaps_18 : decode cX0_gaps 18 = .ok (.aload_n 0, 1) := by decide +kernel
theorem dX0_gaps_19 : decode cX0_gaps 19 = .ok (.getfield 20, 3) := by decide +kernel
theorem dX0_gaps_22 : decode cX0_gaps 22 = .ok (.invokevirtual 118, 3) := by decide +kernel
theorem dX0_gaps_25 : decode cX0_gaps 25 = .ok (.iconst 0, 1) := by decide +kernel
theorem dX0_gaps_26 : decode cX0_gaps 26 = .ok (.istore_n 3, 1) := by decide +kernel
theorem dX0_gaps_27 : decode cX0_gaps 27 = .ok (.iconst 1, 1) := by decide +kernel
theorem dX0_gaps_28 : decode cX0_gaps 28 = .ok (.istore 4, 2) := by decide +kernel
theorem dX0_gaps_30 : decode cX0_gaps 30 = .ok (.iload 4, 2) := by decide +kernel
theorem dX0_gaps_32 : decode cX0_gaps 32 = .ok (.iload_n 1, 1) := by decide +kernel
theorem dX0_gaps_33 : decode cX0_gaps 33 = .ok (.if_icmp .gt 32, 3) := by decide +kernel
theorem dX0_gaps_36 : decode cX0_gaps 36 = .ok (.iload 4, 2) := by decide +kernel
theorem dX0_gaps_38 : decode cX0_gaps 38 = .ok (.iload_n 2, 1) := by decide +kernel
theorem dX0_gaps_39 : decode cX0_gaps 39 = .ok (.irem, 1) := by decide +kernel
theorem dX0_gaps_40 : decode cX0_gaps 40 = .ok (.ifCond .ne 19, 3) := by decide +kernel
theorem dX0_gaps_43 : decode cX0_gaps 43 = .ok (.aload_n 0, 1) := by decide +kernel
theorem dX0_gaps_44 : decode cX0_gaps 44 = .ok (.iload 4, 2) := by decide +kernel
theorem dX0_gaps_46 : decode cX0_gaps 46 = .ok (.invokevirtual 122, 3) := by decide +kernel
theorem dX0_gaps_49 : decode cX0_gaps 49 = .ok (.ldc2_w 126, 3) := by decide +kernel
theorem dX0_gaps_52 : decode cX0_gaps 52 = .ok (.lcmp, 1) := by decide +kernel
theorem dX0_gaps_53 : decode cX0_gaps 53 = .ok (.ifCond .ne 6, 3) := by decide +kernel
theorem dX0_gaps_56 : decode cX0_gaps 56 = .ok (.iinc 3 1, 3) := by decide +kernel
theorem dX0_gaps_59 : decode cX0_gaps 59 = .ok (.iinc 4 1, 3) := by decide +kernel
theorem dX0_gaps_62 : decode cX0_gaps 62 = .ok (.goto (-32), 3) := by decide +kernel
theorem dX0_gaps_65 : decode cX0_gaps 65 = .ok (.iload_n 3, 1) := by decide +kernel
theorem dX0_gaps_66 : decode cX0_gaps 66 = .ok (.ireturn, 1) := by decide +kernel
set_option maxRecDepth 20000 in
theorem ggX0_unit_X0_dividesAllValues : GoodIn wsX0_unit wsX0_dividesAllValues := goodIn_r _ [6, 1, 7, 8, 9, 10, 11, 12, 13, 14, 15, 16, 17, 18, 19, 20, 21, 22, 23, 24, 25] (by decide +kernel) (by decide +kernel)
set_option maxRecDepth 20000 in
theorem gX0_unit_X0_dividesAllValues : GoodIn wsX0_unit (wsV RX0 168 RX0 yX0_dividesAllValues wsX0_dividesAllValues) := goodIn_app (goodIn_of _ (by decide +kernel)) ggX0_unit_X0_dividesAllValues
theorem dX0_unit_0 : decode cX0_unit 0 = .ok (.aload_n 0, 1) := by decide +kernel
theorem dX0_unit_1 : decode cX0_unit 1 = .ok (.getfield 9, 3) := by decide +kernel
theorem dX0_unit_4 : decode cX0_unit 4 = .ok (.ifCond .ne 5, 3) := by decide +kernel
theorem dX0_unit_7 : decode cX0_unit 7 = .ok (.iconst 0, 1) := by decide +kernel
theorem dX0_unit_8 : decode cX0_unit 8 = .ok (.ireturn, 1) := by decide +kernel
theorem dX0_unit_9 : decode cX0_unit 9 = .ok (.sipush 500, 3) := by decide +kernel
theorem dX0_unit_12 : decode cX0_unit 12 = .ok (.istore_n 1, 1) := by decide +kernel
theorem dX0_unit_13 : decode cX0_unit 13 = .ok (.iload_n 1, 1) := by decide +kernel
theorem dX0_unit_14 : decode cX0_unit 14 = .ok (.iconst 1, 1) := by decide +kernel
theorem dX0_unit_15 : decode cX0_unit 15 = .ok (.if_icmp .le 19, 3) := by decide +kernel
theorem dX0_unit_18 : decode cX0_unit 18 = .ok (.aload_n 0, 1) := by decide +kernel
theorem dX0_unit_19 : decode cX0_unit 19 = .ok (.iload_n 1, 1) := by decide +kernel
theorem dX0_unit_20 : decode cX0_unit 20 = .ok (.invokevirtual 168, 3) := by decide +kernel
theorem dX0_unit_23 : decode cX0_unit 23 = .ok (.ifCond .eq 5, 3) := by decide +kernel
theorem dX0_unit_26 : decode cX0_unit 26 = .ok (.iload_n 1, 1) := by decide +kernel
theorem dX0_unit_27 : decode cX0_unit 27 = .ok (.ireturn, 1) := by decide +kernel
theorem dX0_unit_28 : decode cX0_unit 28 = .ok (.iinc 1 (-1), 3) := by decide +kernel
theorem dX0_unit_31 : decode cX0_unit 31 = .ok (.goto (-18), 3) := by decide +kernel
theorem dX0_unit_34 : decode cX0_unit 34 = .ok (.iconst 1, 1) := by decide +kernel
theorem dX0_unit_35 : decode cX0_unit 35 = .ok (.ireturn, 1) := by decide +kernel
theorem dX0_audit_0 : decode cX0_audit 0 = .ok (.iload_n 1, 1) := by decide +kernel
theorem dX0_audit_1 : decode cX0_audit 1 = .ok (.ifCond .lt 9, 3) := by decide +kernel
theorem dX0_audit_4 : decode cX0_audit 4 = .ok (.iload_n 1, 1) := by decide +kernel
theorem dX0_audit_5 : decode cX0_audit 5 = .ok (.bipush 10, 2) := by decide +kernel
theorem dX0_audit_7 : decode cX0_audit 7 = .ok (.if_icmp .lt 13, 3) := by decide +kernel
theorem dX0_audit_10 : decode cX0_audit 10 = .ok (.new 144, 3) := by decide +kernel
theorem dX0_audit_13 : decode cX0_audit 13 = .ok (.dup, 1) := by decide +kernel
theorem dX0_audit_14 : decode cX0_audit 14 = .ok (.ldc 174, 2) := by decide +kernel
theorem dX0_audit_16 : decode cX0_audit 16 = .ok (.invokespecial 148, 3) := by decide +kernel
theorem dX0_audit_19 : decode cX0_audit 19 = .ok (.athrow, 1) := by decide +kernel
theorem dX0_audit_20 : decode cX0_audit 20 = .ok (.aload_n 0, 1) := by decide +kernel
theorem dX0_audit_21 : decode cX0_audit 21 = .ok (.getfield 57, 3) := by decide +kernel
theorem dX0_audit_24 : decode cX0_audit 24 = .ok (.iload_n 1, 1) := by decide +kernel
theorem dX0_audit_25 : decode cX0_audit 25 = .ok (.laload, 1) := by decide +kernel
theorem dX0_audit_26 : decode cX0_audit 26 = .ok (.lreturn, 1) := by decide +kernel
set_option maxRecDepth 20000 in
theorem ggX0_digest_X0_digestOfKinds : GoodIn wsX0_digest wsX0_digestOfKinds := goodIn_r _ [14, 2, 15, 16, 17, 18, 19, 13, 20, 21, 22, 23, 24, 25, 26, 27, 28, 29, 30, 31, 32, 33, 34, 35, 36, 37, 38, 39, 40, 41, 42] (by decide +kernel) (by decide +kernel)
set_option maxRecDepth 20000 in
theorem gX0_digest_X0_digestOfKinds : GoodIn wsX0_digest (wsV RX0 178 RX0 yX0_digestOfKinds wsX0_digestOfKinds) := goodIn_app (goodIn_of _ (by decide +kernel)) ggX0_digest_X0_digestOfKinds
theorem dX0_digest_0 : decode cX0_digest 0 = .ok (.aload_n 0, 1) := by decide +kernel
theorem dX0_digest_1 : decode cX0_digest 1 = .ok (.ldc2_w 176, 3) := by decide +kernel
theorem dX0_digest_4 : decode cX0_digest 4 = .ok (.invokevirtual 178, 3) := by decide +kernel
theorem dX0_digest_7 : decode cX0_digest 7 = .ok (.lstore_n 1, 1) := by decide +kernel
theorem dX0_digest_8 : decode cX0_digest 8 = .ok (.lload_n 1, 1) := by decide +kernel
theorem dX0_digest_9 : decode cX0_digest 9 = .ok (.ldc2_w 182, 3) := by decide +kernel
theorem dX0_digest_12 : decode cX0_digest 12 = .ok (.lmul, 1) := by decide +kernel
theorem dX0_digest_13 : decode cX0_digest 13 = .ok (.aload_n 0, 1) := by decide +kernel
theorem dX0_digest_14 : decode cX0_digest 14 = .ok (.getfield 42, 3) := by decide +kernel
theorem dX0_digest_17 : decode cX0_digest 17 = .ok (.i2l, 1) := by decide +kernel
theorem dX0_digest_18 : decode cX0_digest 18 = .ok (.ladd, 1) := by decide +kernel
theorem dX0_digest_19 : decode cX0_digest 19 = .ok (.lstore_n 1, 1) := by decide +kernel
theorem dX0_digest_20 : decode cX0_digest 20 = .ok (.lload_n 1, 1) := by decide +kernel
theorem dX0_digest_21 : decode cX0_digest 21 = .ok (.ldc2_w 182, 3) := by decide +kernel
theorem dX0_digest_24 : decode cX0_digest 24 = .ok (.lmul, 1) := by decide +kernel
theorem dX0_digest_25 : decode cX0_digest 25 = .ok (.aload_n 0, 1) := by decide +kernel
theorem dX0_digest_26 : decode cX0_digest 26 = .ok (.getfield 33, 3) := by decide +kernel
theorem dX0_digest_29 : decode cX0_digest 29 = .ok (.i2l, 1) := by decide +kernel
theorem dX0_digest_30 : decode cX0_digest 30 = .ok (.ladd, 1) := by decide +kernel
theorem dX0_digest_31 : decode cX0_digest 31 = .ok (.lstore_n 1, 1) := by decide +kernel
theorem dX0_digest_32 : decode cX0_digest 32 = .ok (.iconst 0, 1) := by decide +kernel
theorem dX0_digest_33 : decode cX0_digest 33 = .ok (.istore_n 3, 1) := by decide +kernel
theorem dX0_digest_34 : decode cX0_digest 34 = .ok (.iload_n 3, 1) := by decide +kernel
theorem dX0_digest_35 : decode cX0_digest 35 = .ok (.aload_n 0, 1) := by decide +kernel
theorem dX0_digest_36 : decode cX0_digest 36 = .ok (.getfield 33, 3) := by decide +kernel
theorem dX0_digest_39 : decode cX0_digest 39 = .ok (.if_icmp .ge 37, 3) := by decide +kernel
theorem dX0_digest_42 : decode cX0_digest 42 = .ok (.lload_n 1, 1) := by decide +kernel
theorem dX0_digest_43 : decode cX0_digest 43 = .ok (.ldc2_w 182, 3) := by decide +kernel
theorem dX0_digest_46 : decode cX0_digest 46 = .ok (.lmul, 1) := by decide +kernel
theorem dX0_digest_47 : decode cX0_digest 47 = .ok (.aload_n 0, 1) := by decide +kernel
theorem dX0_digest_48 : decode cX0_digest 48 = .ok (.getfield 36, 3) := by decide +kernel
theorem dX0_digest_51 : decode cX0_digest 51 = .ok (.iload_n 3, 1) := by decide +kernel
theorem dX0_digest_52 : decode cX0_digest 52 = .ok (.iaload, 1) := by decide +kernel
theorem dX0_digest_53 : decode cX0_digest 53 = .ok (.i2l, 1) := by decide +kernel
theorem dX0_digest_54 : decode cX0_digest 54 = .ok (.ladd, 1) := by decide +kernel
theorem dX0_digest_55 : decode cX0_digest 55 = .ok (.lstore_n 1, 1) := by decide +kernel
theorem dX0_digest_56 : decode cX0_digest 56 = .ok (.lload_n 1, 1) := by decide +kernel
theorem dX0_digest_57 : decode cX0_digest 57 = .ok (.ldc2_w 182, 3) := by decide +kernel
theorem dX0_digest_60 : decode cX0_digest 60 = .ok (.lmul, 1) := by decide +kernel
theorem dX0_digest_61 : decode cX0_digest 61 = .ok (.aload_n 0, 1) := by decide +kernel
theorem dX0_digest_62 : decode cX0_digest 62 = .ok (.getfield 39, 3) := by decide +kernel
theorem dX0_digest_65 : decode cX0_digest 65 = .ok (.iload_n 3, 1) := by decide +kernel
theorem dX0_digest_66 : decode cX0_digest 66 = .ok (.iaload, 1) := by decide +kernel
theorem dX0_digest_67 : decode cX0_digest 67 = .ok (.i2l, 1) := by decide +kernel
theorem dX0_digest_68 : decode cX0_digest 68 = .ok (.ladd, 1) := by decide +kernel
theorem dX0_digest_69 : decode cX0_digest 69 = .ok (.lstore_n 1, 1) := by decide +kernel
theorem dX0_digest_70 : decode cX0_digest 70 = .ok (.iinc 3 1, 3) := by decide +kernel
theorem dX0_digest_73 : decode cX0_digest 73 = .ok (.goto (-39), 3) := by decide +kernel
theorem dX0_digest_76 : decode cX0_digest 76 = .ok (.lload_n 1, 1) := by decide +kernel
theorem dX0_digest_77 : decode cX0_digest 77 = .ok (.ldc2_w 182, 3) := by decide +kernel
theorem dX0_digest_80 : decode cX0_digest 80 = .ok (.lmul, 1) := by decide +kernel
theorem dX0_digest_81 : decode cX0_digest 81 = .ok (.aload_n 0, 1) := by decide +kernel
theorem dX0_digest_82 : decode cX0_digest 82 = .ok (.getfield 45, 3) := by decide +kernel
theorem dX0_digest_85 : decode cX0_digest 85 = .ok (.i2l, 1) := by decide +kernel
theorem dX0_digest_86 : decode cX0_digest 86 = .ok (.ladd, 1) := by decide +kernel
theorem dX0_digest_87 : decode cX0_digest 87 = .ok (.lstore_n 1, 1) := by decide +kernel
theorem dX0_digest_88 : decode cX0_digest 88 = .ok (.iconst 0, 1) := by decide +kernel
theorem dX0_digest_89 : decode cX0_digest 89 = .ok (.istore_n 3, 1) := by decide +kernel
theorem dX0_digest_90 : decode cX0_digest 90 = .ok (.iload_n 3, 1) := by decide +kernel
theorem dX0_digest_91 : decode cX0_digest 91 = .ok (.aload_n 0, 1) := by decide +kernel
theorem dX0_digest_92 : decode cX0_digest 92 = .ok (.getfield 45, 3) := by decide +kernel
theorem dX0_digest_95 : decode cX0_digest 95 = .ok (.if_icmp .ge 23, 3) := by decide +kernel
theorem dX0_digest_98 : decode cX0_digest 98 = .ok (.lload_n 1, 1) := by decide +kernel
theorem dX0_digest_99 : decode cX0_digest 99 = .ok (.ldc2_w 182, 3) := by decide +kernel
theorem dX0_digest_102 : decode cX0_digest 102 = .ok (.lmul, 1) := by decide +kernel
theorem dX0_digest_103 : decode cX0_digest 103 = .ok (.aload_n 0, 1) := by decide +kernel
theorem dX0_digest_104 : decode cX0_digest 104 = .ok (.getfield 48, 3) := by decide +kernel
theorem dX0_digest_107 : decode cX0_digest 107 = .ok (.iload_n 3, 1) := by decide +kernel
theorem dX0_digest_108 : decode cX0_digest 108 = .ok (.iaload, 1) := by decide +kernel
theorem dX0_digest_109 : decode cX0_digest 109 = .ok (.i2l, 1) := by decide +kernel
theorem dX0_digest_110 : decode cX0_digest 110 = .ok (.ladd, 1) := by decide +kernel
theorem dX0_digest_111 : decode cX0_digest 111 = .ok (.lstore_n 1, 1) := by decide +kernel
theorem dX0_digest_112 : decode cX0_digest 112 = .ok (.iinc 3 1, 3) := by decide +kernel
theorem dX0_digest_115 : decode cX0_digest 115 = .ok (.goto (-25), 3) := by decide +kernel
theorem dX0_digest_118 : decode cX0_digest 118 = .ok (.iconst 0, 1) := by decide +kernel
theorem dX0_digest_119 : decode cX0_digest 119 = .ok (.istore_n 3, 1) := by decide +kernel
theorem dX0_digest_120 : decode cX0_digest 120 = .ok (.iload_n 3, 1) := by decide +kernel
theorem dX0_digest_121 : decode cX0_digest 121 = .ok (.bipush 10, 2) := by decide +kernel
theorem dX0_digest_123 : decode cX0_digest 123 = .ok (.if_icmp .ge 22, 3) := by decide +kernel
theorem dX0_digest_126 : decode cX0_digest 126 = .ok (.lload_n 1, 1) := by decide +kernel
theorem dX0_digest_127 : decode cX0_digest 127 = .ok (.ldc2_w 182, 3) := by decide +kernel
theorem dX0_digest_130 : decode cX0_digest 130 = .ok (.lmul, 1) := by decide +kernel
theorem dX0_digest_131 : decode cX0_digest 131 = .ok (.aload_n 0, 1) := by decide +kernel
theorem dX0_digest_132 : decode cX0_digest 132 = .ok (.getfield 57, 3) := by decide +kernel
theorem dX0_digest_135 : decode cX0_digest 135 = .ok (.iload_n 3, 1) := by decide +kernel
theorem dX0_digest_136 : decode cX0_digest 136 = .ok (.laload, 1) := by decide +kernel
theorem dX0_digest_137 : decode cX0_digest 137 = .ok (.ladd, 1) := by decide +kernel
theorem dX0_digest_138 : decode cX0_digest 138 = .ok (.lstore_n 1, 1) := by decide +kernel
theorem dX0_digest_139 : decode cX0_digest 139 = .ok (.iinc 3 1, 3) := by decide +kernel
theorem dX0_digest_142 : decode cX0_digest 142 = .ok (.goto (-22), 3) := by decide +kernel
theorem dX0_digest_145 : decode cX0_digest 145 = .ok (.lload_n 1, 1) := by decide +kernel
theorem dX0_digest_146 : decode cX0_digest 146 = .ok (.lreturn, 1) := by decide +kernel
theorem dX0_checkKind_0 : decode cX0_checkKind 0 = .ok (.iload_n 1, 1) := by decide +kernel
theorem dX0_checkKind_1 : decode cX0_checkKind 1 = .ok (.ifCond .lt 11, 3) := by decide +kernel
theorem dX0_checkKind_4 : decode cX0_checkKind 4 = .ok (.iload_n 1, 1) := by decide +kernel
theorem dX0_checkKind_5 : decode cX0_checkKind 5 = .ok (.aload_n 0, 1) := by decide +kernel
theorem dX0_checkKind_6 : decode cX0_checkKind 6 = .ok (.getfield 9, 3) := by decide +kernel
theorem dX0_checkKind_9 : decode cX0_checkKind 9 = .ok (.if_icmp .lt 13, 3) := by decide +kernel
theorem dX0_checkKind_12 : decode cX0_checkKind 12 = .ok (.new 144, 3) := by decide +kernel
theorem dX0_checkKind_15 : decode cX0_checkKind 15 = .ok (.dup, 1) := by decide +kernel
theorem dX0_checkKind_16 : decode cX0_checkKind 16 = .ok (.ldc 184, 2) := by decide +kernel
theorem dX0_checkKind_18 : decode cX0_checkKind 18 = .ok (.invokespecial 148, 3) := by decide +kernel
theorem dX0_checkKind_21 : decode cX0_checkKind 21 = .ok (.athrow, 1) := by decide +kernel
theorem dX0_checkKind_22 : decode cX0_checkKind 22 = .ok (.return_, 1) := by decide +kernel
theorem dX0_checkProduct_0 : decode cX0_checkProduct 0 = .ok (.iload_n 1, 1) := by decide +kernel
theorem dX0_checkProduct_1 : decode cX0_checkProduct 1 = .ok (.ifCond .lt 11, 3) := by decide +kernel
theorem dX0_checkProduct_4 : decode cX0_checkProduct 4 = .ok (.iload_n 1, 1) := by decide +kernel
theorem dX0_checkProduct_5 : decode cX0_checkProduct 5 = .ok (.aload_n 0, 1) := by decide +kernel
theorem dX0_checkProduct_6 : decode cX0_checkProduct 6 = .ok (.getfield 33, 3) := by decide +kernel
theorem dX0_checkProduct_9 : decode cX0_checkProduct 9 = .ok (.if_icmp .lt 13, 3) := by decide +kernel
theorem dX0_checkProduct_12 : decode cX0_checkProduct 12 = .ok (.new 144, 3) := by decide +kernel
theorem dX0_checkProduct_15 : decode cX0_checkProduct 15 = .ok (.dup, 1) := by decide +kernel
theorem dX0_checkProduct_16 : decode cX0_checkProduct 16 = .ok (.ldc 186, 2) := by decide +kernel
theorem dX0_checkProduct_18 : decode cX0_checkProduct 18 = .ok (.invokespecial 148, 3) := by decide +kernel
theorem dX0_checkProduct_21 : decode cX0_checkProduct 21 = .ok (.athrow, 1) := by decide +kernel
theorem dX0_checkProduct_22 : decode cX0_checkProduct 22 = .ok (.return_, 1) := by decide +kernel
theorem dX0_checkMany_0 : decode cX0_checkMany 0 = .ok (.iload_n 0, 1) := by decide +kernel
theorem dX0_checkMany_1 : decode cX0_checkMany 1 = .ok (.ifCond .lt 9, 3) := by decide +kernel
theorem dX0_checkMany_4 : decode cX0_checkMany 4 = .ok (.iload_n 0, 1) := by decide +kernel
theorem dX0_checkMany_5 : decode cX0_checkMany 5 = .ok (.bipush 60, 2) := by decide +kernel
theorem dX0_checkMany_7 : decode cX0_checkMany 7 = .ok (.if_icmp .le 13, 3) := by decide +kernel
theorem dX0_checkMany_10 : decode cX0_checkMany 10 = .ok (.new 67, 3) := by decide +kernel
theorem dX0_checkMany_13 : decode cX0_checkMany 13 = .ok (.dup, 1) := by decide +kernel
theorem dX0_checkMany_14 : decode cX0_checkMany 14 = .ok (.ldc 188, 2) := by decide +kernel
theorem dX0_checkMany_16 : decode cX0_checkMany 16 = .ok (.invokespecial 71, 3) := by decide +kernel
theorem dX0_checkMany_19 : decode cX0_checkMany 19 = .ok (.athrow, 1) := by decide +kernel
theorem dX0_checkMany_20 : decode cX0_checkMany 20 = .ok (.return_, 1) := by decide +kernel
theorem dX0_checkPriceAndStock_0 : decode cX0_checkPriceAndStock 0 = .ok (.iload_n 0, 1) := by decide +kernel
theorem dX0_checkPriceAndStock_1 : decode cX0_checkPriceAndStock 1 = .ok (.iconst 1, 1) := by decide +kernel
theorem dX0_checkPriceAndStock_2 : decode cX0_checkPriceAndStock 2 = .ok (.if_icmp .lt 10, 3) := by decide +kernel
theorem dX0_checkPriceAndStock_5 : decode cX0_checkPriceAndStock 5 = .ok (.iload_n 0, 1) := by decide +kernel
theorem dX0_checkPriceAndStock_6 : decode cX0_checkPriceAndStock 6 = .ok (.sipush 2000, 3) := by decide +kernel
theorem dX0_checkPriceAndStock_9 : decode cX0_checkPriceAndStock 9 = .ok (.if_icmp .le 13, 3) := by decide +kernel
theorem dX0_checkPriceAndStock_12 : decode cX0_checkPriceAndStock 12 = .ok (.new 67, 3) := by decide +kernel
theorem dX0_checkPriceAndStock_15 : decode cX0_checkPriceAndStock 15 = .ok (.dup, 1) := by decide +kernel
theorem dX0_checkPriceAndStock_16 : decode cX0_checkPriceAndStock 16 = .ok (.ldc 190, 2) := by decide +kernel
theorem dX0_checkPriceAndStock_18 : decode cX0_checkPriceAndStock 18 = .ok (.invokespecial 71, 3) := by decide +kernel
theorem dX0_checkPriceAndStock_21 : decode cX0_checkPriceAndStock 21 = .ok (.athrow, 1) := by decide +kernel
theorem dX0_checkPriceAndStock_22 : decode cX0_checkPriceAndStock 22 = .ok (.iload_n 1, 1) := by decide +kernel
theorem dX0_checkPriceAndStock_23 : decode cX0_checkPriceAndStock 23 = .ok (.ifCond .lt 9, 3) := by decide +kernel
theorem dX0_checkPriceAndStock_26 : decode cX0_checkPriceAndStock 26 = .ok (.iload_n 1, 1) := by decide +kernel
theorem dX0_checkPriceAndStock_27 : decode cX0_checkPriceAndStock 27 = .ok (.bipush 99, 2) := by decide +kernel
theorem dX0_checkPriceAndStock_29 : decode cX0_checkPriceAndStock 29 = .ok (.if_icmp .le 13, 3) := by decide +kernel
theorem dX0_checkPriceAndStock_32 : decode cX0_checkPriceAndStock 32 = .ok (.new 67, 3) := by decide +kernel
theorem dX0_checkPriceAndStock_35 : decode cX0_checkPriceAndStock 35 = .ok (.dup, 1) := by decide +kernel
theorem dX0_checkPriceAndStock_36 : decode cX0_checkPriceAndStock 36 = .ok (.ldc 192, 2) := by decide +kernel
theorem dX0_checkPriceAndStock_38 : decode cX0_checkPriceAndStock 38 = .ok (.invokespecial 71, 3) := by decide +kernel
theorem dX0_checkPriceAndStock_41 : decode cX0_checkPriceAndStock 41 = .ok (.athrow, 1) := by decide +kernel
theorem dX0_checkPriceAndStock_42 : decode cX0_checkPriceAndStock 42 = .ok (.return_, 1) := by decide +kernel
theorem dX0_checkAmount_0 : decode cX0_checkAmount 0 = .ok (.iload_n 0, 1) := by decide +kernel
theorem dX0_checkAmount_1 : decode cX0_checkAmount 1 = .ok (.ifCond .lt 10, 3) := by decide +kernel
theorem dX0_checkAmount_4 : decode cX0_checkAmount 4 = .ok (.iload_n 0, 1) := by decide +kernel
theorem dX0_checkAmount_5 : decode cX0_checkAmount 5 = .ok (.sipush 2000, 3) := by decide +kernel
theorem dX0_checkAmount_8 : decode cX0_checkAmount 8 = .ok (.if_icmp .le 13, 3) := by decide +kernel
theorem dX0_checkAmount_11 : decode cX0_checkAmount 11 = .ok (.new 67, 3) := by decide +kernel
theorem dX0_checkAmount_14 : decode cX0_checkAmount 14 = .ok (.dup, 1) := by decide +kernel
theorem dX0_checkAmount_15 : decode cX0_checkAmount 15 = .ok (.ldc 194, 2) := by decide +kernel
theorem dX0_checkAmount_17 : decode cX0_checkAmount 17 = .ok (.invokespecial 71, 3) := by decide +kernel
theorem dX0_checkAmount_20 : decode cX0_checkAmount 20 = .ok (.athrow, 1) := by decide +kernel
theorem dX0_checkAmount_21 : decode cX0_checkAmount 21 = .ok (.return_, 1) := by decide +kernel
theorem dX0_hasKindOfValue_0 : decode cX0_hasKindOfValue 0 = .ok (.iconst 0, 1) := by decide +kernel
theorem dX0_hasKindOfValue_1 : decode cX0_hasKindOfValue 1 = .ok (.istore_n 2, 1) := by decide +kernel
theorem dX0_hasKindOfValue_2 : decode cX0_hasKindOfValue 2 = .ok (.iload_n 2, 1) := by decide +kernel
theorem dX0_hasKindOfValue_3 : decode cX0_hasKindOfValue 3 = .ok (.aload_n 0, 1) := by decide +kernel
theorem dX0_hasKindOfValue_4 : decode cX0_hasKindOfValue 4 = .ok (.getfield 9, 3) := by decide +kernel
theorem dX0_hasKindOfValue_7 : decode cX0_hasKindOfValue 7 = .ok (.if_icmp .ge 21, 3) := by decide +kernel
theorem dX0_hasKindOfValue_10 : decode cX0_hasKindOfValue 10 = .ok (.aload_n 0, 1) := by decide +kernel
theorem dX0_hasKindOfValue_11 : decode cX0_hasKindOfValue 11 = .ok (.getfield 13, 3) := by decide +kernel
theorem dX0_hasKindOfValue_14 : decode cX0_hasKindOfValue 14 = .ok (.iload_n 2, 1) := by decide +kernel
theorem dX0_hasKindOfValue_15 : decode cX0_hasKindOfValue 15 = .ok (.iaload, 1) := by decide +kernel
theorem dX0_hasKindOfValue_16 : decode cX0_hasKindOfValue 16 = .ok (.iload_n 1, 1) := by decide +kernel
theorem dX0_hasKindOfValue_17 : decode cX0_hasKindOfValue 17 = .ok (.if_icmp .ne 5, 3) := by decide +kernel
theorem dX0_hasKindOfValue_20 : decode cX0_hasKindOfValue 20 = .ok (.iconst 1, 1) := by decide +kernel
theorem dX0_hasKindOfValue_21 : decode cX0_hasKindOfValue 21 = .ok (.ireturn, 1) := by decide +kernel
theorem dX0_hasKindOfValue_22 : decode cX0_hasKindOfValue 22 = .ok (.iinc 2 1, 3) := by decide +kernel
theorem dX0_hasKindOfValue_25 : decode cX0_hasKindOfValue 25 = .ok (.goto (-23), 3) := by decide +kernel
theorem dX0_hasKindOfValue_28 : decode cX0_hasKindOfValue 28 = .ok (.iconst 0, 1) := by decide +kernel
theorem dX0_hasKindOfValue_29 : decode cX0_hasKindOfValue 29 = .ok (.ireturn, 1) := by decide +kernel
theorem dX0_dividesAllValues_0 : decode cX0_dividesAllValues 0 = .ok (.iconst 0, 1) := by decide +kernel
theorem dX0_dividesAllValues_1 : decode cX0_dividesAllValues 1 = .ok (.istore_n 2, 1) := by decide +kernel
theorem dX0_dividesAllValues_2 : decode cX0_dividesAllValues 2 = .ok (.iload_n 2, 1) := by decide +kernel
theorem dX0_dividesAllValues_3 : decode cX0_dividesAllValues 3 = .ok (.aload_n 0, 1) := by decide +kernel
theorem dX0_dividesAllValues_4 : decode cX0_dividesAllValues 4 = .ok (.getfield 9, 3) := by decide +kernel
theorem dX0_dividesAllValues_7 : decode cX0_dividesAllValues 7 = .ok (.if_icmp .ge 27, 3) := by decide +kernel
theorem dX0_dividesAllValues_10 : decode cX0_dividesAllValues 10 = .ok (.iload_n 1, 1) := by decide +kernel
theorem dX0_dividesAllValues_11 : decode cX0_dividesAllValues 11 = .ok (.iconst 1, 1) := by decide +kernel
theorem dX0_dividesAllValues_12 : decode cX0_dividesAllValues 12 = .ok (.if_icmp .lt 14, 3) := by decide +kernel
theorem dX0_dividesAllValues_15 : decode cX0_dividesAllValues 15 = .ok (.aload_n 0, 1) := by decide +kernel
theorem dX0_dividesAllValues_16 : decode cX0_dividesAllValues 16 = .ok (.getfield 13, 3) := by decide +kernel
theorem dX0_dividesAllValues_19 : decode cX0_dividesAllValues 19 = .ok (.iload_n 2, 1) := by decide +kernel
theorem dX0_dividesAllValues_20 : decode cX0_dividesAllValues 20 = .ok (.iaload, 1) := by decide +kernel
theorem dX0_dividesAllValues_21 : decode cX0_dividesAllValues 21 = .ok (.iload_n 1, 1) := by decide +kernel
theorem dX0_dividesAllValues_22 : decode cX0_dividesAllValues 22 = .ok (.irem, 1) := by decide +kernel
theorem dX0_dividesAllValues_23 : decode cX0_dividesAllValues 23 = .ok (.ifCond .eq 5, 3) := by decide +kernel
theorem dX0_dividesAllValues_26 : decode cX0_dividesAllValues 26 = .ok (.iconst 0, 1) := by decide +kernel
theorem dX0_dividesAllValues_27 : decode cX0_dividesAllValues 27 = .ok (.ireturn, 1) := by decide +kernel
theorem dX0_dividesAllValues_28 : decode cX0_dividesAllValues 28 = .ok (.iinc 2 1, 3) := by decide +kernel
theorem dX0_dividesAllValues_31 : decode cX0_dividesAllValues 31 = .ok (.goto (-29), 3) := by decide +kernel
theorem dX0_dividesAllValues_34 : decode cX0_dividesAllValues 34 = .ok (.iconst 1, 1) := by decide +kernel
theorem dX0_dividesAllValues_35 : decode cX0_dividesAllValues 35 = .ok (.ireturn, 1) := by decide +kernel
theorem dX0_toldOfKind_0 : decode cX0_toldOfKind 0 = .ok (.iload_n 2, 1) := by decide +kernel
theorem dX0_toldOfKind_1 : decode cX0_toldOfKind 1 = .ok (.tableswitch 59 0 3 #[31, 38, 45, 52], 31) := by decide +kernel
theorem dX0_toldOfKind_32 : decode cX0_toldOfKind 32 = .ok (.aload_n 0, 1) := by decide +kernel
theorem dX0_toldOfKind_33 : decode cX0_toldOfKind 33 = .ok (.getfield 13, 3) := by decide +kernel
theorem dX0_toldOfKind_36 : decode cX0_toldOfKind 36 = .ok (.iload_n 1, 1) := by decide +kernel
theorem dX0_toldOfKind_37 : decode cX0_toldOfKind 37 = .ok (.iaload, 1) := by decide +kernel
theorem dX0_toldOfKind_38 : decode cX0_toldOfKind 38 = .ok (.ireturn, 1) := by decide +kernel
theorem dX0_toldOfKind_39 : decode cX0_toldOfKind 39 = .ok (.aload_n 0, 1) := by decide +kernel
theorem dX0_toldOfKind_40 : decode cX0_toldOfKind 40 = .ok (.getfield 20, 3) := by decide +kernel
theorem dX0_toldOfKind_43 : decode cX0_toldOfKind 43 = .ok (.iload_n 1, 1) := by decide +kernel
theorem dX0_toldOfKind_44 : decode cX0_toldOfKind 44 = .ok (.iaload, 1) := by decide +kernel
theorem dX0_toldOfKind_45 : decode cX0_toldOfKind 45 = .ok (.ireturn, 1) := by decide +kernel
theorem dX0_toldOfKind_46 : decode cX0_toldOfKind 46 = .ok (.aload_n 0, 1) := by decide +kernel
theorem dX0_toldOfKind_47 : decode cX0_toldOfKind 47 = .ok (.getfield 23, 3) := by decide +kernel
theorem dX0_toldOfKind_50 : decode cX0_toldOfKind 50 = .ok (.iload_n 1, 1) := by decide +kernel
theorem dX0_toldOfKind_51 : decode cX0_toldOfKind 51 = .ok (.iaload, 1) := by decide +kernel
theorem dX0_toldOfKind_52 : decode cX0_toldOfKind 52 = .ok (.ireturn, 1) := by decide +kernel
theorem dX0_toldOfKind_53 : decode cX0_toldOfKind 53 = .ok (.aload_n 0, 1) := by decide +kernel
theorem dX0_toldOfKind_54 : decode cX0_toldOfKind 54 = .ok (.getfield 26, 3) := by decide +kernel
theorem dX0_toldOfKind_57 : decode cX0_toldOfKind 57 = .ok (.iload_n 1, 1) := by decide +kernel
theorem dX0_toldOfKind_58 : decode cX0_toldOfKind 58 = .ok (.iaload, 1) := by decide +kernel
theorem dX0_toldOfKind_59 : decode cX0_toldOfKind 59 = .ok (.ireturn, 1) := by decide +kernel
theorem dX0_toldOfKind_60 : decode cX0_toldOfKind 60 = .ok (.iconst 0, 1) := by decide +kernel
theorem dX0_toldOfKind_61 : decode cX0_toldOfKind 61 = .ok (.ireturn, 1) := by decide +kernel
set_option maxRecDepth 20000 in
theorem ggX0_digestOfKinds_X0_toldOfKind : GoodIn wsX0_digestOfKinds wsX0_toldOfKind := goodIn_r _ [8, 9, 10, 11, 12, 13, 14, 15, 16, 17, 18, 19, 20, 21, 22, 23, 24, 25, 26, 27, 28, 29, 30] (by decide +kernel) (by decide +kernel)
set_option maxRecDepth 20000 in
theorem gX0_digestOfKinds_X0_toldOfKind : GoodIn wsX0_digestOfKinds (wsV RX0 151 RX0 yX0_toldOfKind wsX0_toldOfKind) := goodIn_app (goodIn_of _ (by decide +kernel)) ggX0_digestOfKinds_X0_toldOfKind
theorem dX0_digestOfKinds_0 : decode cX0_digestOfKinds 0 = .ok (.lload_n 1, 1) := by decide +kernel
theorem dX0_digestOfKinds_1 : decode cX0_digestOfKinds 1 = .ok (.ldc2_w 182, 3) := by decide +kernel
theorem dX0_digestOfKinds_4 : decode cX0_digestOfKinds 4 = .ok (.lmul, 1) := by decide +kernel
theorem dX0_digestOfKinds_5 : decode cX0_digestOfKinds 5 = .ok (.aload_n 0, 1) := by decide +kernel
theorem dX0_digestOfKinds_6 : decode cX0_digestOfKinds 6 = .ok (.getfield 9, 3) := by decide +kernel
theorem dX0_digestOfKinds_9 : decode cX0_digestOfKinds 9 = .ok (.i2l, 1) := by decide +kernel
theorem dX0_digestOfKinds_10 : decode cX0_digestOfKinds 10 = .ok (.ladd, 1) := by decide +kernel
theorem dX0_digestOfKinds_11 : decode cX0_digestOfKinds 11 = .ok (.lstore_n 3, 1) := by decide +kernel
theorem dX0_digestOfKinds_12 : decode cX0_digestOfKinds 12 = .ok (.iconst 0, 1) := by decide +kernel
theorem dX0_digestOfKinds_13 : decode cX0_digestOfKinds 13 = .ok (.istore 5, 2) := by decide +kernel
theorem dX0_digestOfKinds_15 : decode cX0_digestOfKinds 15 = .ok (.iload 5, 2) := by decide +kernel
theorem dX0_digestOfKinds_17 : decode cX0_digestOfKinds 17 = .ok (.aload_n 0, 1) := by decide +kernel
theorem dX0_digestOfKinds_18 : decode cX0_digestOfKinds 18 = .ok (.getfield 9, 3) := by decide +kernel
theorem dX0_digestOfKinds_21 : decode cX0_digestOfKinds 21 = .ok (.if_icmp .ge 63, 3) := by decide +kernel
theorem dX0_digestOfKinds_24 : decode cX0_digestOfKinds 24 = .ok (.iconst 0, 1) := by decide +kernel
theorem dX0_digestOfKinds_25 : decode cX0_digestOfKinds 25 = .ok (.istore 6, 2) := by decide +kernel
theorem dX0_digestOfKinds_27 : decode cX0_digestOfKinds 27 = .ok (.iload 6, 2) := by decide +kernel
theorem dX0_digestOfKinds_29 : decode cX0_digestOfKinds 29 = .ok (.iconst 4, 1) := by decide +kernel
theorem dX0_digestOfKinds_30 : decode cX0_digestOfKinds 30 = .ok (.if_icmp .ge 25, 3) := by decide +kernel
theorem dX0_digestOfKinds_33 : decode cX0_digestOfKinds 33 = .ok (.lload_n 3, 1) := by decide +kernel
theorem dX0_digestOfKinds_34 : decode cX0_digestOfKinds 34 = .ok (.ldc2_w 182, 3) := by decide +kernel
theorem dX0_digestOfKinds_37 : decode cX0_digestOfKinds 37 = .ok (.lmul, 1) := by decide +kernel
theorem dX0_digestOfKinds_38 : decode cX0_digestOfKinds 38 = .ok (.aload_n 0, 1) := by decide +kernel
theorem dX0_digestOfKinds_39 : decode cX0_digestOfKinds 39 = .ok (.iload 5, 2) := by decide +kernel
theorem dX0_digestOfKinds_41 : decode cX0_digestOfKinds 41 = .ok (.iload 6, 2) := by decide +kernel
theorem dX0_digestOfKinds_43 : decode cX0_digestOfKinds 43 = .ok (.invokevirtual 151, 3) := by decide +kernel
theorem dX0_digestOfKinds_46 : decode cX0_digestOfKinds 46 = .ok (.i2l, 1) := by decide +kernel
theorem dX0_digestOfKinds_47 : decode cX0_digestOfKinds 47 = .ok (.ladd, 1) := by decide +kernel
theorem dX0_digestOfKinds_48 : decode cX0_digestOfKinds 48 = .ok (.lstore_n 3, 1) := by decide +kernel
theorem dX0_digestOfKinds_49 : decode cX0_digestOfKinds 49 = .ok (.iinc 6 1, 3) := by decide +kernel
theorem dX0_digestOfKinds_52 : decode cX0_digestOfKinds 52 = .ok (.goto (-25), 3) := by decide +kernel
theorem dX0_digestOfKinds_55 : decode cX0_digestOfKinds 55 = .ok (.lload_n 3, 1) := by decide +kernel
theorem dX0_digestOfKinds_56 : decode cX0_digestOfKinds 56 = .ok (.ldc2_w 182, 3) := by decide +kernel
theorem dX0_digestOfKinds_59 : decode cX0_digestOfKinds 59 = .ok (.lmul, 1) := by decide +kernel
theorem dX0_digestOfKinds_60 : decode cX0_digestOfKinds 60 = .ok (.aload_n 0, 1) := by decide +kernel
theorem dX0_digestOfKinds_61 : decode cX0_digestOfKinds 61 = .ok (.getfield 29, 3) := by decide +kernel
theorem dX0_digestOfKinds_64 : decode cX0_digestOfKinds 64 = .ok (.iload 5, 2) := by decide +kernel
theorem dX0_digestOfKinds_66 : decode cX0_digestOfKinds 66 = .ok (.baload, 1) := by decide +kernel
theorem dX0_digestOfKinds_67 : decode cX0_digestOfKinds 67 = .ok (.ifCond .eq 7, 3) := by decide +kernel
theorem dX0_digestOfKinds_70 : decode cX0_digestOfKinds 70 = .ok (.iconst 1, 1) := by decide +kernel
theorem dX0_digestOfKinds_71 : decode cX0_digestOfKinds 71 = .ok (.goto 4, 3) := by decide +kernel
theorem dX0_digestOfKinds_74 : decode cX0_digestOfKinds 74 = .ok (.iconst 0, 1) := by decide +kernel
theorem dX0_digestOfKinds_75 : decode cX0_digestOfKinds 75 = .ok (.i2l, 1) := by decide +kernel
theorem dX0_digestOfKinds_76 : decode cX0_digestOfKinds 76 = .ok (.ladd, 1) := by decide +kernel
theorem dX0_digestOfKinds_77 : decode cX0_digestOfKinds 77 = .ok (.lstore_n 3, 1) := by decide +kernel
theorem dX0_digestOfKinds_78 : decode cX0_digestOfKinds 78 = .ok (.iinc 5 1, 3) := by decide +kernel
theorem dX0_digestOfKinds_81 : decode cX0_digestOfKinds 81 = .ok (.goto (-66), 3) := by decide +kernel
theorem dX0_digestOfKinds_84 : decode cX0_digestOfKinds 84 = .ok (.lload_n 3, 1) := by decide +kernel
theorem dX0_digestOfKinds_85 : decode cX0_digestOfKinds 85 = .ok (.lreturn, 1) := by decide +kernel
theorem dX0_waitingOf_0 : decode cX0_waitingOf 0 = .ok (.iconst 0, 1) := by decide +kernel
theorem dX0_waitingOf_1 : decode cX0_waitingOf 1 = .ok (.istore_n 2, 1) := by decide +kernel
theorem dX0_waitingOf_2 : decode cX0_waitingOf 2 = .ok (.iconst 0, 1) := by decide +kernel
theorem dX0_waitingOf_3 : decode cX0_waitingOf 3 = .ok (.istore_n 3, 1) := by decide +kernel
theorem dX0_waitingOf_4 : decode cX0_waitingOf 4 = .ok (.iload_n 3, 1) := by decide +kernel
theorem dX0_waitingOf_5 : decode cX0_waitingOf 5 = .ok (.aload_n 0, 1) := by decide +kernel
theorem dX0_waitingOf_6 : decode cX0_waitingOf 6 = .ok (.getfield 45, 3) := by decide +kernel
theorem dX0_waitingOf_9 : decode cX0_waitingOf 9 = .ok (.if_icmp .ge 22, 3) := by decide +kernel
theorem dX0_waitingOf_12 : decode cX0_waitingOf 12 = .ok (.aload_n 0, 1) := by decide +kernel
theorem dX0_waitingOf_13 : decode cX0_waitingOf 13 = .ok (.getfield 48, 3) := by decide +kernel
theorem dX0_waitingOf_16 : decode cX0_waitingOf 16 = .ok (.iload_n 3, 1) := by decide +kernel
theorem dX0_waitingOf_17 : decode cX0_waitingOf 17 = .ok (.iaload, 1) := by decide +kernel
theorem dX0_waitingOf_18 : decode cX0_waitingOf 18 = .ok (.iload_n 1, 1) := by decide +kernel
theorem dX0_waitingOf_19 : decode cX0_waitingOf 19 = .ok (.if_icmp .ne 6, 3) := by decide +kernel
theorem dX0_waitingOf_22 : decode cX0_waitingOf 22 = .ok (.iinc 2 1, 3) := by decide +kernel
theorem dX0_waitingOf_25 : decode cX0_waitingOf 25 = .ok (.iinc 3 1, 3) := by decide +kernel
theorem dX0_waitingOf_28 : decode cX0_waitingOf 28 = .ok (.goto (-24), 3) := by decide +kernel
theorem dX0_waitingOf_31 : decode cX0_waitingOf 31 = .ok (.iload_n 2, 1) := by decide +kernel
theorem dX0_waitingOf_32 : decode cX0_waitingOf 32 = .ok (.ireturn, 1) := by decide +kernel
set_option maxRecDepth 20000 in
theorem ggX0_foreseeTubes_X0_waitingOf : GoodIn wsX0_foreseeTubes wsX0_waitingOf := goodIn_r _ [13, 14, 15, 16, 17, 18, 19, 20, 21, 22, 23, 24, 25, 26, 27, 28, 29, 30, 31, 32, 33] (by decide +kernel) (by decide +kernel)
set_option maxRecDepth 20000 in
theorem gX0_foreseeTubes_X0_waitingOf : GoodIn wsX0_foreseeTubes (wsV RX0 140 RX0 yX0_waitingOf wsX0_waitingOf) := goodIn_app (goodIn_of _ (by decide +kernel)) ggX0_foreseeTubes_X0_waitingOf
theorem dX0_foreseeTubes_0 : decode cX0_foreseeTubes 0 = .ok (.iconst 0, 1) := by decide +kernel
theorem dX0_foreseeTubes_1 : decode cX0_foreseeTubes 1 = .ok (.istore_n 1, 1) := by decide +kernel
theorem dX0_foreseeTubes_2 : decode cX0_foreseeTubes 2 = .ok (.iload_n 1, 1) := by decide +kernel
theorem dX0_foreseeTubes_3 : decode cX0_foreseeTubes 3 = .ok (.aload_n 0, 1) := by decide +kernel
theorem dX0_foreseeTubes_4 : decode cX0_foreseeTubes 4 = .ok (.getfield 9, 3) := by decide +kernel
theorem dX0_foreseeTubes_7 : decode cX0_foreseeTubes 7 = .ok (.if_icmp .ge 36, 3) := by decide +kernel
theorem dX0_foreseeTubes_10 : decode cX0_foreseeTubes 10 = .ok (.aload_n 0, 1) := by decide +kernel
theorem dX0_foreseeTubes_11 : decode cX0_foreseeTubes 11 = .ok (.getfield 64, 3) := by decide +kernel
theorem dX0_foreseeTubes_14 : decode cX0_foreseeTubes 14 = .ok (.iload_n 1, 1) := by decide +kernel
theorem dX0_foreseeTubes_15 : decode cX0_foreseeTubes 15 = .ok (.aload_n 0, 1) := by decide +kernel
theorem dX0_foreseeTubes_16 : decode cX0_foreseeTubes 16 = .ok (.getfield 20, 3) := by decide +kernel
theorem dX0_foreseeTubes_19 : decode cX0_foreseeTubes 19 = .ok (.iload_n 1, 1) := by decide +kernel
theorem dX0_foreseeTubes_20 : decode cX0_foreseeTubes 20 = .ok (.iaload, 1) := by decide +kernel
theorem dX0_foreseeTubes_21 : decode cX0_foreseeTubes 21 = .ok (.aload_n 0, 1) := by decide +kernel
theorem dX0_foreseeTubes_22 : decode cX0_foreseeTubes 22 = .ok (.iload_n 1, 1) := by decide +kernel
theorem dX0_foreseeTubes_23 : decode cX0_foreseeTubes 23 = .ok (.invokevirtual 140, 3) := by decide +kernel
theorem dX0_foreseeTubes_26 : decode cX0_foreseeTubes 26 = .ok (.iadd, 1) := by decide +kernel
theorem dX0_foreseeTubes_27 : decode cX0_foreseeTubes 27 = .ok (.aload_n 0, 1) := by decide +kernel
theorem dX0_foreseeTubes_28 : decode cX0_foreseeTubes 28 = .ok (.getfield 17, 3) := by decide +kernel
theorem dX0_foreseeTubes_31 : decode cX0_foreseeTubes 31 = .ok (.iload_n 1, 1) := by decide +kernel
theorem dX0_foreseeTubes_32 : decode cX0_foreseeTubes 32 = .ok (.iaload, 1) := by decide +kernel
theorem dX0_foreseeTubes_33 : decode cX0_foreseeTubes 33 = .ok (.invokestatic 94, 3) := by decide +kernel
theorem dX0_foreseeTubes_36 : decode cX0_foreseeTubes 36 = .ok (.iastore, 1) := by decide +kernel
theorem dX0_foreseeTubes_37 : decode cX0_foreseeTubes 37 = .ok (.iinc 1 1, 3) := by decide +kernel
theorem dX0_foreseeTubes_40 : decode cX0_foreseeTubes 40 = .ok (.goto (-38), 3) := by decide +kernel
theorem dX0_foreseeTubes_43 : decode cX0_foreseeTubes 43 = .ok (.return_, 1) := by decide +kernel
set_option maxRecDepth 20000 in
theorem ggX0_dropWaiting_X0_waitingOf : GoodIn wsX0_dropWaiting wsX0_waitingOf := goodIn_r _ [14, 9, 15, 16, 17, 18, 19, 20, 21, 22, 23, 24, 25, 26, 27, 28, 29, 30, 31, 32, 33] (by decide +kernel) (by decide +kernel)
set_option maxRecDepth 20000 in
theorem gX0_dropWaiting_X0_waitingOf : GoodIn wsX0_dropWaiting (wsV RX0 140 RX0 yX0_waitingOf wsX0_waitingOf) := goodIn_app (goodIn_of _ (by decide +kernel)) ggX0_dropWaiting_X0_waitingOf
theorem dX0_dropWaiting_0 : decode cX0_dropWaiting 0 = .ok (.iconst 0, 1) := by decide +kernel
theorem dX0_dropWaiting_1 : decode cX0_dropWaiting 1 = .ok (.istore_n 1, 1) := by decide +kernel
theorem dX0_dropWaiting_2 : decode cX0_dropWaiting 2 = .ok (.iload_n 1, 1) := by decide +kernel
theorem dX0_dropWaiting_3 : decode cX0_dropWaiting 3 = .ok (.aload_n 0, 1) := by decide +kernel
theorem dX0_dropWaiting_4 : decode cX0_dropWaiting 4 = .ok (.getfield 9, 3) := by decide +kernel
theorem dX0_dropWaiting_7 : decode cX0_dropWaiting 7 = .ok (.if_icmp .ge 55, 3) := by decide +kernel
theorem dX0_dropWaiting_10 : decode cX0_dropWaiting 10 = .ok (.aload_n 0, 1) := by decide +kernel
theorem dX0_dropWaiting_11 : decode cX0_dropWaiting 11 = .ok (.iload_n 1, 1) := by decide +kernel
theorem dX0_dropWaiting_12 : decode cX0_dropWaiting 12 = .ok (.invokevirtual 140, 3) := by decide +kernel
theorem dX0_dropWaiting_15 : decode cX0_dropWaiting 15 = .ok (.istore_n 2, 1) := by decide +kernel
theorem dX0_dropWaiting_16 : decode cX0_dropWaiting 16 = .ok (.iload_n 2, 1) := by decide +kernel
theorem dX0_dropWaiting_17 : decode cX0_dropWaiting 17 = .ok (.aload_n 0, 1) := by decide +kernel
theorem dX0_dropWaiting_18 : decode cX0_dropWaiting 18 = .ok (.getfield 17, 3) := by decide +kernel
theorem dX0_dropWaiting_21 : decode cX0_dropWaiting 21 = .ok (.iload_n 1, 1) := by decide +kernel
theorem dX0_dropWaiting_22 : decode cX0_dropWaiting 22 = .ok (.iaload, 1) := by decide +kernel
theorem dX0_dropWaiting_23 : decode cX0_dropWaiting 23 = .ok (.aload_n 0, 1) := by decide +kernel
theorem dX0_dropWaiting_24 : decode cX0_dropWaiting 24 = .ok (.getfield 20, 3) := by decide +kernel
theorem dX0_dropWaiting_27 : decode cX0_dropWaiting 27 = .ok (.iload_n 1, 1) := by decide +kernel
theorem dX0_dropWaiting_28 : decode cX0_dropWaiting 28 = .ok (.iaload, 1) := by decide +kernel
theorem dX0_dropWaiting_29 : decode cX0_dropWaiting 29 = .ok (.isub, 1) := by decide +kernel
theorem dX0_dropWaiting_30 : decode cX0_dropWaiting 30 = .ok (.invokestatic 94, 3) := by decide +kernel
theorem dX0_dropWaiting_33 : decode cX0_dropWaiting 33 = .ok (.istore_n 3, 1) := by decide +kernel
theorem dX0_dropWaiting_34 : decode cX0_dropWaiting 34 = .ok (.aload_n 0, 1) := by decide +kernel
theorem dX0_dropWaiting_35 : decode cX0_dropWaiting 35 = .ok (.getfield 20, 3) := by decide +kernel
theorem dX0_dropWaiting_38 : decode cX0_dropWaiting 38 = .ok (.iload_n 1, 1) := by decide +kernel
theorem dX0_dropWaiting_39 : decode cX0_dropWaiting 39 = .ok (.dup2, 1) := by decide +kernel
theorem dX0_dropWaiting_40 : decode cX0_dropWaiting 40 = .ok (.iaload, 1) := by decide +kernel
theorem dX0_dropWaiting_41 : decode cX0_dropWaiting 41 = .ok (.iload_n 3, 1) := by decide +kernel
theorem dX0_dropWaiting_42 : decode cX0_dropWaiting 42 = .ok (.iadd, 1) := by decide +kernel
theorem dX0_dropWaiting_43 : decode cX0_dropWaiting 43 = .ok (.iastore, 1) := by decide +kernel
theorem dX0_dropWaiting_44 : decode cX0_dropWaiting 44 = .ok (.aload_n 0, 1) := by decide +kernel
theorem dX0_dropWaiting_45 : decode cX0_dropWaiting 45 = .ok (.getfield 23, 3) := by decide +kernel
theorem dX0_dropWaiting_48 : decode cX0_dropWaiting 48 = .ok (.iload_n 1, 1) := by decide +kernel
theorem dX0_dropWaiting_49 : decode cX0_dropWaiting 49 = .ok (.dup2, 1) := by decide +kernel
theorem dX0_dropWaiting_50 : decode cX0_dropWaiting 50 = .ok (.iaload, 1) := by decide +kernel
theorem dX0_dropWaiting_51 : decode cX0_dropWaiting 51 = .ok (.iload_n 2, 1) := by decide +kernel
theorem dX0_dropWaiting_52 : decode cX0_dropWaiting 52 = .ok (.iload_n 3, 1) := by decide +kernel
theorem dX0_dropWaiting_53 : decode cX0_dropWaiting 53 = .ok (.isub, 1) := by decide +kernel
theorem dX0_dropWaiting_54 : decode cX0_dropWaiting 54 = .ok (.iadd, 1) := by decide +kernel
theorem dX0_dropWaiting_55 : decode cX0_dropWaiting 55 = .ok (.iastore, 1) := by decide +kernel
theorem dX0_dropWaiting_56 : decode cX0_dropWaiting 56 = .ok (.iinc 1 1, 3) := by decide +kernel
theorem dX0_dropWaiting_59 : decode cX0_dropWaiting 59 = .ok (.goto (-57), 3) := by decide +kernel
theorem dX0_dropWaiting_62 : decode cX0_dropWaiting 62 = .ok (.aload_n 0, 1) := by decide +kernel
theorem dX0_dropWaiting_63 : decode cX0_dropWaiting 63 = .ok (.iconst 0, 1) := by decide +kernel
theorem dX0_dropWaiting_64 : decode cX0_dropWaiting 64 = .ok (.putfield 45, 3) := by decide +kernel
theorem dX0_dropWaiting_67 : decode cX0_dropWaiting 67 = .ok (.return_, 1) := by decide +kernel
set_option maxRecDepth 20000 in
theorem ggX0_payOut_X0_coinsOfKindInWay : GoodIn wsX0_payOut wsX0_coinsOfKindInWay := goodIn_r _ [8, 9, 10, 11, 12, 7, 13, 1, 14, 15, 16, 17, 18, 19, 20, 21, 22, 23, 24, 25, 26, 27, 28, 29, 30, 31, 32] (by decide +kernel) (by decide +kernel)
set_option maxRecDepth 20000 in
theorem gX0_payOut_X0_coinsOfKindInWay : GoodIn wsX0_payOut (wsV RX0 161 RX0 yX0_coinsOfKindInWay wsX0_coinsOfKindInWay) := goodIn_app (goodIn_of _ (by decide +kernel)) ggX0_payOut_X0_coinsOfKindInWay
theorem dX0_payOut_0 : decode cX0_payOut 0 = .ok (.iconst 0, 1) := by decide +kernel
theorem dX0_payOut_1 : decode cX0_payOut 1 = .ok (.istore_n 3, 1) := by decide +kernel
theorem dX0_payOut_2 : decode cX0_payOut 2 = .ok (.iload_n 3, 1) := by decide +kernel
theorem dX0_payOut_3 : decode cX0_payOut 3 = .ok (.aload_n 0, 1) := by decide +kernel
theorem dX0_payOut_4 : decode cX0_payOut 4 = .ok (.getfield 9, 3) := by decide +kernel
theorem dX0_payOut_7 : decode cX0_payOut 7 = .ok (.if_icmp .ge 36, 3) := by decide +kernel
theorem dX0_payOut_10 : decode cX0_payOut 10 = .ok (.aload_n 0, 1) := by decide +kernel
theorem dX0_payOut_11 : decode cX0_payOut 11 = .ok (.getfield 26, 3) := by decide +kernel
theorem dX0_payOut_14 : decode cX0_payOut 14 = .ok (.iload_n 3, 1) := by decide +kernel
theorem dX0_payOut_15 : decode cX0_payOut 15 = .ok (.aload_n 0, 1) := by decide +kernel
theorem dX0_payOut_16 : decode cX0_payOut 16 = .ok (.lload_n 1, 1) := by decide +kernel
theorem dX0_payOut_17 : decode cX0_payOut 17 = .ok (.iload_n 3, 1) := by decide +kernel
theorem dX0_payOut_18 : decode cX0_payOut 18 = .ok (.invokevirtual 161, 3) := by decide +kernel
theorem dX0_payOut_21 : decode cX0_payOut 21 = .ok (.iastore, 1) := by decide +kernel
theorem dX0_payOut_22 : decode cX0_payOut 22 = .ok (.aload_n 0, 1) := by decide +kernel
theorem dX0_payOut_23 : decode cX0_payOut 23 = .ok (.getfield 20, 3) := by decide +kernel
theorem dX0_payOut_26 : decode cX0_payOut 26 = .ok (.iload_n 3, 1) := by decide +kernel
theorem dX0_payOut_27 : decode cX0_payOut 27 = .ok (.dup2, 1) := by decide +kernel
theorem dX0_payOut_28 : decode cX0_payOut 28 = .ok (.iaload, 1) := by decide +kernel
theorem dX0_payOut_29 : decode cX0_payOut 29 = .ok (.aload_n 0, 1) := by decide +kernel
theorem dX0_payOut_30 : decode cX0_payOut 30 = .ok (.getfield 26, 3) := by decide +kernel
theorem dX0_payOut_33 : decode cX0_payOut 33 = .ok (.iload_n 3, 1) := by decide +kernel
theorem dX0_payOut_34 : decode cX0_payOut 34 = .ok (.iaload, 1) := by decide +kernel
theorem dX0_payOut_35 : decode cX0_payOut 35 = .ok (.isub, 1) := by decide +kernel
theorem dX0_payOut_36 : decode cX0_payOut 36 = .ok (.iastore, 1) := by decide +kernel
theorem dX0_payOut_37 : decode cX0_payOut 37 = .ok (.iinc 3 1, 3) := by decide +kernel
theorem dX0_payOut_40 : decode cX0_payOut 40 = .ok (.goto (-38), 3) := by decide +kernel
theorem dX0_payOut_43 : decode cX0_payOut 43 = .ok (.return_, 1) := by decide +kernel
theorem dX0_countSale_0 : decode cX0_countSale 0 = .ok (.aload_n 0, 1) := by decide +kernel
theorem dX0_countSale_1 : decode cX0_countSale 1 = .ok (.getfield 57, 3) := by decide +kernel
theorem dX0_countSale_4 : decode cX0_countSale 4 = .ok (.iconst 2, 1) := by decide +kernel
theorem dX0_countSale_5 : decode cX0_countSale 5 = .ok (.dup2, 1) := by decide +kernel
theorem dX0_countSale_6 : decode cX0_countSale 6 = .ok (.laload, 1) := by decide +kernel
theorem dX0_countSale_7 : decode cX0_countSale 7 = .ok (.iload_n 2, 1) := by decide +kernel
theorem dX0_countSale_8 : decode cX0_countSale 8 = .ok (.i2l, 1) := by decide +kernel
theorem dX0_countSale_9 : decode cX0_countSale 9 = .ok (.ladd, 1) := by decide +kernel
theorem dX0_countSale_10 : decode cX0_countSale 10 = .ok (.lastore, 1) := by decide +kernel
theorem dX0_countSale_11 : decode cX0_countSale 11 = .ok (.aload_n 0, 1) := by decide +kernel
theorem dX0_countSale_12 : decode cX0_countSale 12 = .ok (.getfield 57, 3) := by decide +kernel
theorem dX0_countSale_15 : decode cX0_countSale 15 = .ok (.bipush 7, 2) := by decide +kernel
theorem dX0_countSale_17 : decode cX0_countSale 17 = .ok (.dup2, 1) := by decide +kernel
theorem dX0_countSale_18 : decode cX0_countSale 18 = .ok (.laload, 1) := by decide +kernel
theorem dX0_countSale_19 : decode cX0_countSale 19 = .ok (.iload_n 1, 1) := by decide +kernel
theorem dX0_countSale_20 : decode cX0_countSale 20 = .ok (.i2l, 1) := by decide +kernel
theorem dX0_countSale_21 : decode cX0_countSale 21 = .ok (.ladd, 1) := by decide +kernel
theorem dX0_countSale_22 : decode cX0_countSale 22 = .ok (.lastore, 1) := by decide +kernel
theorem dX0_countSale_23 : decode cX0_countSale 23 = .ok (.aload_n 0, 1) := by decide +kernel
theorem dX0_countSale_24 : decode cX0_countSale 24 = .ok (.getfield 57, 3) := by decide +kernel
theorem dX0_countSale_27 : decode cX0_countSale 27 = .ok (.bipush 8, 2) := by decide +kernel
theorem dX0_countSale_29 : decode cX0_countSale 29 = .ok (.dup2, 1) := by decide +kernel
theorem dX0_countSale_30 : decode cX0_countSale 30 = .ok (.laload, 1) := by decide +kernel
theorem dX0_countSale_31 : decode cX0_countSale 31 = .ok (.lconst 1, 1) := by decide +kernel
theorem dX0_countSale_32 : decode cX0_countSale 32 = .ok (.ladd, 1) := by decide +kernel
theorem dX0_countSale_33 : decode cX0_countSale 33 = .ok (.lastore, 1) := by decide +kernel
theorem dX0_countSale_34 : decode cX0_countSale 34 = .ok (.iload_n 2, 1) := by decide +kernel
theorem dX0_countSale_35 : decode cX0_countSale 35 = .ok (.ifCond .ne 14, 3) := by decide +kernel
theorem dX0_countSale_38 : decode cX0_countSale 38 = .ok (.aload_n 0, 1) := by decide +kernel
theorem dX0_countSale_39 : decode cX0_countSale 39 = .ok (.getfield 57, 3) := by decide +kernel
theorem dX0_countSale_42 : decode cX0_countSale 42 = .ok (.bipush 9, 2) := by decide +kernel
theorem dX0_countSale_44 : decode cX0_countSale 44 = .ok (.dup2, 1) := by decide +kernel
theorem dX0_countSale_45 : decode cX0_countSale 45 = .ok (.laload, 1) := by decide +kernel
theorem dX0_countSale_46 : decode cX0_countSale 46 = .ok (.lconst 1, 1) := by decide +kernel
theorem dX0_countSale_47 : decode cX0_countSale 47 = .ok (.ladd, 1) := by decide +kernel
theorem dX0_countSale_48 : decode cX0_countSale 48 = .ok (.lastore, 1) := by decide +kernel
theorem dX0_countSale_49 : decode cX0_countSale 49 = .ok (.return_, 1) := by decide +kernel
set_option maxRecDepth 20000 in
theorem ggX0_scoreWays_X0_addKindToWays : GoodIn wsX0_scoreWays wsX0_addKindToWays := goodIn_r _ [12, 13, 1, 2, 3, 4, 14, 15, 16, 17, 11, 18, 7, 19, 20, 21, 22, 5, 6, 23, 24, 25, 26, 27, 28, 29, 30, 31, 32, 33, 34, 35, 36, 37, 38, 39, 40, 41, 42, 43] (by decide +kernel) (by decide +kernel)
set_option maxRecDepth 20000 in
theorem gX0_scoreWays_X0_addKindToWays : GoodIn wsX0_scoreWays (wsV RX0 196 RX0 yX0_addKindToWays wsX0_addKindToWays) := goodIn_app (goodIn_of _ (by decide +kernel)) ggX0_scoreWays_X0_addKindToWays
theorem dX0_scoreWays_0 : decode cX0_scoreWays 0 = .ok (.iload_n 1, 1) := by decide +kernel
theorem dX0_scoreWays_1 : decode cX0_scoreWays 1 = .ok (.sipush 2000, 3) := by decide +kernel
theorem dX0_scoreWays_4 : decode cX0_scoreWays 4 = .ok (.invokestatic 94, 3) := by decide +kernel
theorem dX0_scoreWays_7 : decode cX0_scoreWays 7 = .ok (.istore_n 3, 1) := by decide +kernel
theorem dX0_scoreWays_8 : decode cX0_scoreWays 8 = .ok (.aload_n 0, 1) := by decide +kernel
theorem dX0_scoreWays_9 : decode cX0_scoreWays 9 = .ok (.getfield 61, 3) := by decide +kernel
theorem dX0_scoreWays_12 : decode cX0_scoreWays 12 = .ok (.iconst 0, 1) := by decide +kernel
theorem dX0_scoreWays_13 : decode cX0_scoreWays 13 = .ok (.lconst 0, 1) := by decide +kernel
theorem dX0_scoreWays_14 : decode cX0_scoreWays 14 = .ok (.lastore, 1) := by decide +kernel
theorem dX0_scoreWays_15 : decode cX0_scoreWays 15 = .ok (.iconst 1, 1) := by decide +kernel
theorem dX0_scoreWays_16 : decode cX0_scoreWays 16 = .ok (.istore 4, 2) := by decide +kernel
theorem dX0_scoreWays_18 : decode cX0_scoreWays 18 = .ok (.iload 4, 2) := by decide +kernel
theorem dX0_scoreWays_20 : decode cX0_scoreWays 20 = .ok (.iload_n 3, 1) := by decide +kernel
theorem dX0_scoreWays_21 : decode cX0_scoreWays 21 = .ok (.if_icmp .gt 19, 3) := by decide +kernel
theorem dX0_scoreWays_24 : decode cX0_scoreWays 24 = .ok (.aload_n 0, 1) := by decide +kernel
theorem dX0_scoreWays_25 : decode cX0_scoreWays 25 = .ok (.getfield 61, 3) := by decide +kernel
theorem dX0_scoreWays_28 : decode cX0_scoreWays 28 = .ok (.iload 4, 2) := by decide +kernel
theorem dX0_scoreWays_30 : decode cX0_scoreWays 30 = .ok (.ldc2_w 126, 3) := by decide +kernel
theorem dX0_scoreWays_33 : decode cX0_scoreWays 33 = .ok (.lastore, 1) := by decide +kernel
theorem dX0_scoreWays_34 : decode cX0_scoreWays 34 = .ok (.iinc 4 1, 3) := by decide +kernel
theorem dX0_scoreWays_37 : decode cX0_scoreWays 37 = .ok (.goto (-19), 3) := by decide +kernel
theorem dX0_scoreWays_40 : decode cX0_scoreWays 40 = .ok (.iconst 0, 1) := by decide +kernel
theorem dX0_scoreWays_41 : decode cX0_scoreWays 41 = .ok (.istore 4, 2) := by decide +kernel
theorem dX0_scoreWays_43 : decode cX0_scoreWays 43 = .ok (.iload 4, 2) := by decide +kernel
theorem dX0_scoreWays_45 : decode cX0_scoreWays 45 = .ok (.aload_n 0, 1) := by decide +kernel
theorem dX0_scoreWays_46 : decode cX0_scoreWays 46 = .ok (.getfield 9, 3) := by decide +kernel
theorem dX0_scoreWays_49 : decode cX0_scoreWays 49 = .ok (.if_icmp .ge 20, 3) := by decide +kernel
theorem dX0_scoreWays_52 : decode cX0_scoreWays 52 = .ok (.aload_n 0, 1) := by decide +kernel
theorem dX0_scoreWays_53 : decode cX0_scoreWays 53 = .ok (.iload 4, 2) := by decide +kernel
theorem dX0_scoreWays_55 : decode cX0_scoreWays 55 = .ok (.aload_n 2, 1) := by decide +kernel
theorem dX0_scoreWays_56 : decode cX0_scoreWays 56 = .ok (.iload 4, 2) := by decide +kernel
theorem dX0_scoreWays_58 : decode cX0_scoreWays 58 = .ok (.iaload, 1) := by decide +kernel
theorem dX0_scoreWays_59 : decode cX0_scoreWays 59 = .ok (.iload_n 3, 1) := by decide +kernel
theorem dX0_scoreWays_60 : decode cX0_scoreWays 60 = .ok (.invokevirtual 196, 3) := by decide +kernel
theorem dX0_scoreWays_63 : decode cX0_scoreWays 63 = .ok (.iinc 4 1, 3) := by decide +kernel
theorem dX0_scoreWays_66 : decode cX0_scoreWays 66 = .ok (.goto (-23), 3) := by decide +kernel
theorem dX0_scoreWays_69 : decode cX0_scoreWays 69 = .ok (.return_, 1) := by decide +kernel
set_option maxRecDepth 20000 in
theorem ggX0_addKindToWays_X0_digitOf : GoodIn wsX0_addKindToWays wsX0_digitOf := goodIn_r _ [11, 12, 6, 22, 23, 24, 25, 26, 27, 28, 29, 30, 31, 32, 33, 34, 35, 36, 37, 38, 39] (by decide +kernel) (by decide +kernel)
set_option maxRecDepth 20000 in
theorem gX0_addKindToWays_X0_digitOf : GoodIn wsX0_addKindToWays (wsV RX0 200 RX0 yX0_digitOf wsX0_digitOf) := goodIn_app (goodIn_of _ (by decide +kernel)) ggX0_addKindToWays_X0_digitOf
set_option maxRecDepth 20000 in
theorem ggX0_addKindToWays_X0_addPackToWays : GoodIn wsX0_addKindToWays wsX0_addPackToWays := goodIn_r _ [16, 17, 18, 19, 20, 4, 21, 22, 23, 24, 25, 26, 27, 28, 29, 30, 31, 32, 33, 34, 35, 36, 37, 38, 39] (by decide +kernel) (by decide +kernel)
set_option maxRecDepth 20000 in
theorem gX0_addKindToWays_X0_addPackToWays : GoodIn wsX0_addKindToWays (wsV RX0 205 RX0 yX0_addPackToWays wsX0_addPackToWays) := goodIn_app (goodIn_of _ (by decide +kernel)) ggX0_addKindToWays_X0_addPackToWays
theorem dX0_addKindToWays_0 : decode cX0_addKindToWays 0 = .ok (.lconst 1, 1) := by decide +kernel
theorem dX0_addKindToWays_1 : decode cX0_addKindToWays 1 = .ok (.aload_n 0, 1) := by decide +kernel
theorem dX0_addKindToWays_2 : decode cX0_addKindToWays 2 = .ok (.iload_n 1, 1) := by decide +kernel
theorem dX0_addKindToWays_3 : decode cX0_addKindToWays 3 = .ok (.invokevirtual 200, 3) := by decide +kernel
theorem dX0_addKindToWays_6 : decode cX0_addKindToWays 6 = .ok (.lshl, 1) := by decide +kernel
theorem dX0_addKindToWays_7 : decode cX0_addKindToWays 7 = .ok (.ldc2_w 203, 3) := by decide +kernel
theorem dX0_addKindToWays_10 : decode cX0_addKindToWays 10 = .ok (.lsub, 1) := by decide +kernel
theorem dX0_addKindToWays_11 : decode cX0_addKindToWays 11 = .ok (.lstore 4, 2) := by decide +kernel
theorem dX0_addKindToWays_13 : decode cX0_addKindToWays 13 = .ok (.iload_n 2, 1) := by decide +kernel
theorem dX0_addKindToWays_14 : decode cX0_addKindToWays 14 = .ok (.istore 6, 2) := by decide +kernel
theorem dX0_addKindToWays_16 : decode cX0_addKindToWays 16 = .ok (.iconst 1, 1) := by decide +kernel
theorem dX0_addKindToWays_17 : decode cX0_addKindToWays 17 = .ok (.istore 7, 2) := by decide +kernel
theorem dX0_addKindToWays_19 : decode cX0_addKindToWays 19 = .ok (.iload 7, 2) := by decide +kernel
theorem dX0_addKindToWays_21 : decode cX0_addKindToWays 21 = .ok (.bipush 60, 2) := by decide +kernel
theorem dX0_addKindToWays_23 : decode cX0_addKindToWays 23 = .ok (.if_icmp .gt 53, 3) := by decide +kernel
theorem dX0_addKindToWays_26 : decode cX0_addKindToWays 26 = .ok (.iload 7, 2) := by decide +kernel
theorem dX0_addKindToWays_28 : decode cX0_addKindToWays 28 = .ok (.iload 6, 2) := by decide +kernel
theorem dX0_addKindToWays_30 : decode cX0_addKindToWays 30 = .ok (.invokestatic 94, 3) := by decide +kernel
theorem dX0_addKindToWays_33 : decode cX0_addKindToWays 33 = .ok (.istore 8, 2) := by decide +kernel
theorem dX0_addKindToWays_35 : decode cX0_addKindToWays 35 = .ok (.iload 8, 2) := by decide +kernel
theorem dX0_addKindToWays_37 : decode cX0_addKindToWays 37 = .ok (.ifCond .le 23, 3) := by decide +kernel
theorem dX0_addKindToWays_40 : decode cX0_addKindToWays 40 = .ok (.aload_n 0, 1) := by decide +kernel
theorem dX0_addKindToWays_41 : decode cX0_addKindToWays 41 = .ok (.iload 8, 2) := by decide +kernel
theorem dX0_addKindToWays_43 : decode cX0_addKindToWays 43 = .ok (.aload_n 0, 1) := by decide +kernel
theorem dX0_addKindToWays_44 : decode cX0_addKindToWays 44 = .ok (.getfield 13, 3) := by decide +kernel
theorem dX0_addKindToWays_47 : decode cX0_addKindToWays 47 = .ok (.iload_n 1, 1) := by decide +kernel
theorem dX0_addKindToWays_48 : decode cX0_addKindToWays 48 = .ok (.iaload, 1) := by decide +kernel
theorem dX0_addKindToWays_49 : decode cX0_addKindToWays 49 = .ok (.imul, 1) := by decide +kernel
theorem dX0_addKindToWays_50 : decode cX0_addKindToWays 50 = .ok (.iload 8, 2) := by decide +kernel
theorem dX0_addKindToWays_52 : decode cX0_addKindToWays 52 = .ok (.i2l, 1) := by decide +kernel
theorem dX0_addKindToWays_53 : decode cX0_addKindToWays 53 = .ok (.lload 4, 2) := by decide +kernel
theorem dX0_addKindToWays_55 : decode cX0_addKindToWays 55 = .ok (.lmul, 1) := by decide +kernel
theorem dX0_addKindToWays_56 : decode cX0_addKindToWays 56 = .ok (.iload_n 3, 1) := by decide +kernel
theorem dX0_addKindToWays_57 : decode cX0_addKindToWays 57 = .ok (.invokevirtual 205, 3) := by decide +kernel
theorem dX0_addKindToWays_60 : decode cX0_addKindToWays 60 = .ok (.iload 6, 2) := by decide +kernel
theorem dX0_addKindToWays_62 : decode cX0_addKindToWays 62 = .ok (.iload 8, 2) := by decide +kernel
theorem dX0_addKindToWays_64 : decode cX0_addKindToWays 64 = .ok (.isub, 1) := by decide +kernel
theorem dX0_addKindToWays_65 : decode cX0_addKindToWays 65 = .ok (.istore 6, 2) := by decide +kernel
theorem dX0_addKindToWays_67 : decode cX0_addKindToWays 67 = .ok (.iload 7, 2) := by decide +kernel
theorem dX0_addKindToWays_69 : decode cX0_addKindToWays 69 = .ok (.iconst 2, 1) := by decide +kernel
theorem dX0_addKindToWays_70 : decode cX0_addKindToWays 70 = .ok (.imul, 1) := by decide +kernel
theorem dX0_addKindToWays_71 : decode cX0_addKindToWays 71 = .ok (.istore 7, 2) := by decide +kernel
theorem dX0_addKindToWays_73 : decode cX0_addKindToWays 73 = .ok (.goto (-54), 3) := by decide +kernel
theorem dX0_addKindToWays_76 : decode cX0_addKindToWays 76 = .ok (.return_, 1) := by decide +kernel
theorem dX0_addPackToWays_0 : decode cX0_addPackToWays 0 = .ok (.iload 4, 2) := by decide +kernel
theorem dX0_addPackToWays_2 : decode cX0_addPackToWays 2 = .ok (.istore 5, 2) := by decide +kernel
theorem dX0_addPackToWays_4 : decode cX0_addPackToWays 4 = .ok (.iload 5, 2) := by decide +kernel
theorem dX0_addPackToWays_6 : decode cX0_addPackToWays 6 = .ok (.iload_n 1, 1) := by decide +kernel
theorem dX0_addPackToWays_7 : decode cX0_addPackToWays 7 = .ok (.if_icmp .lt 50, 3) := by decide +kernel
theorem dX0_addPackToWays_10 : decode cX0_addPackToWays 10 = .ok (.aload_n 0, 1) := by decide +kernel
theorem dX0_addPackToWays_11 : decode cX0_addPackToWays 11 = .ok (.getfield 61, 3) := by decide +kernel
theorem dX0_addPackToWays_14 : decode cX0_addPackToWays 14 = .ok (.iload 5, 2) := by decide +kernel
theorem dX0_addPackToWays_16 : decode cX0_addPackToWays 16 = .ok (.iload_n 1, 1) := by decide +kernel
theorem dX0_addPackToWays_17 : decode cX0_addPackToWays 17 = .ok (.isub, 1) := by decide +kernel
theorem dX0_addPackToWays_18 : decode cX0_addPackToWays 18 = .ok (.laload, 1) := by decide +kernel
theorem dX0_addPackToWays_19 : decode cX0_addPackToWays 19 = .ok (.lstore 6, 2) := by decide +kernel
theorem dX0_addPackToWays_21 : decode cX0_addPackToWays 21 = .ok (.lload 6, 2) := by decide +kernel
theorem dX0_addPackToWays_23 : decode cX0_addPackToWays 23 = .ok (.ldc2_w 126, 3) := by decide +kernel
theorem dX0_addPackToWays_26 : decode cX0_addPackToWays 26 = .ok (.lcmp, 1) := by decide +kernel
theorem dX0_addPackToWays_27 : decode cX0_addPackToWays 27 = .ok (.ifCond .eq 24, 3) := by decide +kernel
theorem dX0_addPackToWays_30 : decode cX0_addPackToWays 30 = .ok (.aload_n 0, 1) := by decide +kernel
theorem dX0_addPackToWays_31 : decode cX0_addPackToWays 31 = .ok (.getfield 61, 3) := by decide +kernel
theorem dX0_addPackToWays_34 : decode cX0_addPackToWays 34 = .ok (.iload 5, 2) := by decide +kernel
theorem dX0_addPackToWays_36 : decode cX0_addPackToWays 36 = .ok (.aload_n 0, 1) := by decide +kernel
theorem dX0_addPackToWays_37 : decode cX0_addPackToWays 37 = .ok (.getfield 61, 3) := by decide +kernel
theorem dX0_addPackToWays_40 : decode cX0_addPackToWays 40 = .ok (.iload 5, 2) := by decide +kernel
theorem dX0_addPackToWays_42 : decode cX0_addPackToWays 42 = .ok (.laload, 1) := by decide +kernel
theorem dX0_addPackToWays_43 : decode cX0_addPackToWays 43 = .ok (.lload 6, 2) := by decide +kernel
theorem dX0_addPackToWays_45 : decode cX0_addPackToWays 45 = .ok (.lload_n 2, 1) := by decide +kernel
theorem dX0_addPackToWays_46 : decode cX0_addPackToWays 46 = .ok (.ladd, 1) := by decide +kernel
theorem dX0_addPackToWays_47 : decode cX0_addPackToWays 47 = .ok (.invokestatic 209, 3) := by decide +kernel
theorem dX0_addPackToWays_50 : decode cX0_addPackToWays 50 = .ok (.lastore, 1) := by decide +kernel
theorem dX0_addPackToWays_51 : decode cX0_addPackToWays 51 = .ok (.iinc 5 (-1), 3) := by decide +kernel
theorem dX0_addPackToWays_54 : decode cX0_addPackToWays 54 = .ok (.goto (-50), 3) := by decide +kernel
theorem dX0_addPackToWays_57 : decode cX0_addPackToWays 57 = .ok (.return_, 1) := by decide +kernel
theorem dX0_scoreOf_0 : decode cX0_scoreOf 0 = .ok (.iload_n 1, 1) := by decide +kernel
theorem dX0_scoreOf_1 : decode cX0_scoreOf 1 = .ok (.ifCond .lt 10, 3) := by decide +kernel
theorem dX0_scoreOf_4 : decode cX0_scoreOf 4 = .ok (.iload_n 1, 1) := by decide +kernel
theorem dX0_scoreOf_5 : decode cX0_scoreOf 5 = .ok (.sipush 2000, 3) := by decide +kernel
theorem dX0_scoreOf_8 : decode cX0_scoreOf 8 = .ok (.if_icmp .le 9, 3) := by decide +kernel
theorem dX0_scoreOf_11 : decode cX0_scoreOf 11 = .ok (.ldc2_w 126, 3) := by decide +kernel
theorem dX0_scoreOf_14 : decode cX0_scoreOf 14 = .ok (.goto 9, 3) := by decide +kernel
theorem dX0_scoreOf_17 : decode cX0_scoreOf 17 = .ok (.aload_n 0, 1) := by decide +kernel
theorem dX0_scoreOf_18 : decode cX0_scoreOf 18 = .ok (.getfield 61, 3) := by decide +kernel
theorem dX0_scoreOf_21 : decode cX0_scoreOf 21 = .ok (.iload_n 1, 1) := by decide +kernel
theorem dX0_scoreOf_22 : decode cX0_scoreOf 22 = .ok (.laload, 1) := by decide +kernel
theorem dX0_scoreOf_23 : decode cX0_scoreOf 23 = .ok (.lreturn, 1) := by decide +kernel
theorem dX0_digitOf_0 : decode cX0_digitOf 0 = .ok (.iconst 0, 1) := by decide +kernel
theorem dX0_digitOf_1 : decode cX0_digitOf 1 = .ok (.istore_n 2, 1) := by decide +kernel
theorem dX0_digitOf_2 : decode cX0_digitOf 2 = .ok (.iconst 0, 1) := by decide +kernel
theorem dX0_digitOf_3 : decode cX0_digitOf 3 = .ok (.istore_n 3, 1) := by decide +kernel
theorem dX0_digitOf_4 : decode cX0_digitOf 4 = .ok (.iload_n 3, 1) := by decide +kernel
theorem dX0_digitOf_5 : decode cX0_digitOf 5 = .ok (.aload_n 0, 1) := by decide +kernel
theorem dX0_digitOf_6 : decode cX0_digitOf 6 = .ok (.getfield 9, 3) := by decide +kernel
theorem dX0_digitOf_9 : decode cX0_digitOf 9 = .ok (.if_icmp .ge 27, 3) := by decide +kernel
theorem dX0_digitOf_12 : decode cX0_digitOf 12 = .ok (.aload_n 0, 1) := by decide +kernel
theorem dX0_digitOf_13 : decode cX0_digitOf 13 = .ok (.getfield 13, 3) := by decide +kernel
theorem dX0_digitOf_16 : decode cX0_digitOf 16 = .ok (.iload_n 3, 1) := by decide +kernel
theorem dX0_digitOf_17 : decode cX0_digitOf 17 = .ok (.iaload, 1) := by decide +kernel
theorem dX0_digitOf_18 : decode cX0_digitOf 18 = .ok (.aload_n 0, 1) := by decide +kernel
theorem dX0_digitOf_19 : decode cX0_digitOf 19 = .ok (.getfield 13, 3) := by decide +kernel
theorem dX0_digitOf_22 : decode cX0_digitOf 22 = .ok (.iload_n 1, 1) := by decide +kernel
theorem dX0_digitOf_23 : decode cX0_digitOf 23 = .ok (.iaload, 1) := by decide +kernel
theorem dX0_digitOf_24 : decode cX0_digitOf 24 = .ok (.if_icmp .ge 6, 3) := by decide +kernel
theorem dX0_digitOf_27 : decode cX0_digitOf 27 = .ok (.iinc 2 1, 3) := by decide +kernel
theorem dX0_digitOf_30 : decode cX0_digitOf 30 = .ok (.iinc 3 1, 3) := by decide +kernel
theorem dX0_digitOf_33 : decode cX0_digitOf 33 = .ok (.goto (-29), 3) := by decide +kernel
theorem dX0_digitOf_36 : decode cX0_digitOf 36 = .ok (.iload_n 2, 1) := by decide +kernel
theorem dX0_digitOf_37 : decode cX0_digitOf 37 = .ok (.bipush 6, 2) := by decide +kernel
theorem dX0_digitOf_39 : decode cX0_digitOf 39 = .ok (.imul, 1) := by decide +kernel
theorem dX0_digitOf_40 : decode cX0_digitOf 40 = .ok (.ireturn, 1) := by decide +kernel
theorem dX0_coinsInWay_0 : decode cX0_coinsInWay 0 = .ok (.lload_n 0, 1) := by decide +kernel
theorem dX0_coinsInWay_1 : decode cX0_coinsInWay 1 = .ok (.bipush 48, 2) := by decide +kernel
theorem dX0_coinsInWay_3 : decode cX0_coinsInWay 3 = .ok (.lshr, 1) := by decide +kernel
theorem dX0_coinsInWay_4 : decode cX0_coinsInWay 4 = .ok (.lneg, 1) := by decide +kernel
theorem dX0_coinsInWay_5 : decode cX0_coinsInWay 5 = .ok (.l2i, 1) := by decide +kernel
theorem dX0_coinsInWay_6 : decode cX0_coinsInWay 6 = .ok (.ireturn, 1) := by decide +kernel
set_option maxRecDepth 20000 in
theorem ggX0_coinsOfKindInWay_X0_digitOf : GoodIn wsX0_coinsOfKindInWay wsX0_digitOf := goodIn_r _ [6, 7, 8, 9, 10, 11, 12, 13, 14, 15, 16, 17, 18, 19, 20, 21, 22, 23, 24, 25, 26] (by decide +kernel) (by decide +kernel)
set_option maxRecDepth 20000 in
theorem gX0_coinsOfKindInWay_X0_digitOf : GoodIn wsX0_coinsOfKindInWay (wsV RX0 200 RX0 yX0_digitOf wsX0_digitOf) := goodIn_app (goodIn_of _ (by decide +kernel)) ggX0_coinsOfKindInWay_X0_digitOf
theorem dX0_coinsOfKindInWay_0 : decode cX0_coinsOfKindInWay 0 = .ok (.lload_n 1, 1) := by decide +kernel
theorem dX0_coinsOfKindInWay_1 : decode cX0_coinsOfKindInWay 1 = .ok (.aload_n 0, 1) := by decide +kernel
theorem dX0_coinsOfKindInWay_2 : decode cX0_coinsOfKindInWay 2 = .ok (.iload_n 3, 1) := by decide +kernel
theorem dX0_coinsOfKindInWay_3 : decode cX0_coinsOfKindInWay 3 = .ok (.invokevirtual 200, 3) := by decide +kernel
theorem dX0_coinsOfKindInWay_6 : decode cX0_coinsOfKindInWay 6 = .ok (.lshr, 1) := by decide +kernel
theorem dX0_coinsOfKindInWay_7 : decode cX0_coinsOfKindInWay 7 = .ok (.ldc2_w 213, 3) := by decide +kernel
theorem dX0_coinsOfKindInWay_10 : decode cX0_coinsOfKindInWay 10 = .ok (.land, 1) := by decide +kernel
theorem dX0_coinsOfKindInWay_11 : decode cX0_coinsOfKindInWay 11 = .ok (.l2i, 1) := by decide +kernel
theorem dX0_coinsOfKindInWay_12 : decode cX0_coinsOfKindInWay 12 = .ok (.ireturn, 1) := by decide +kernel
theorem dJ9_max_f86c9_0 : decode cJ9_max_f86c9 0 = .ok (.lload_n 0, 1) := by decide +kernel
theorem dJ9_max_f86c9_1 : decode cJ9_max_f86c9 1 = .ok (.lload_n 2, 1) := by decide +kernel
theorem dJ9_max_f86c9_2 : decode cJ9_max_f86c9 2 = .ok (.lcmp, 1) := by decide +kernel
theorem dJ9_max_f86c9_3 : decode cJ9_max_f86c9 3 = .ok (.ifCond .lt 7, 3) := by decide +kernel
theorem dJ9_max_f86c9_6 : decode cJ9_max_f86c9 6 = .ok (.lload_n 0, 1) := by decide +kernel
theorem dJ9_max_f86c9_7 : decode cJ9_max_f86c9 7 = .ok (.goto 4, 3) := by decide +kernel
theorem dJ9_max_f86c9_10 : decode cJ9_max_f86c9 10 = .ok (.lload_n 2, 1) := by decide +kernel
theorem dJ9_max_f86c9_11 : decode cJ9_max_f86c9 11 = .ok (.lreturn, 1) := by decide +kernel
theorem dJ9_min_7cf53_0 : decode cJ9_min_7cf53 0 = .ok (.iload_n 0, 1) := by decide +kernel
theorem dJ9_min_7cf53_1 : decode cJ9_min_7cf53 1 = .ok (.iload_n 1, 1) := by decide +kernel
theorem dJ9_min_7cf53_2 : decode cJ9_min_7cf53 2 = .ok (.if_icmp .gt 7, 3) := by decide +kernel
theorem dJ9_min_7cf53_5 : decode cJ9_min_7cf53 5 = .ok (.iload_n 0, 1) := by decide +kernel
theorem dJ9_min_7cf53_6 : decode cJ9_min_7cf53 6 = .ok (.goto 4, 3) := by decide +kernel
theorem dJ9_min_7cf53_9 : decode cJ9_min_7cf53 9 = .ok (.iload_n 1, 1) := by decide +kernel
theorem dJ9_min_7cf53_10 : decode cJ9_min_7cf53 10 = .ok (.ireturn, 1) := by decide +kernel
end
section
theorem dL_below_0 : decode cL_below 0 = .ok (.iload_n 0, 1) := by decide +kernel
theorem dL_below_1 : decode cL_below 1 = .ok (.ldc 7, 2) := by decide +kernel
theorem dL_below_3 : decode cL_below 3 = .ok (.iand, 1) := by decide +kernel
theorem dL_below_4 : decode cL_below 4 = .ok (.iload_n 1, 1) := by decide +kernel
theorem dL_below_5 : decode cL_below 5 = .ok (.irem, 1) := by decide +kernel
theorem dL_below_6 : decode cL_below 6 = .ok (.ireturn, 1) := by decide +kernel
theorem dL_cell_0 : decode cL_cell 0 = .ok (.iload_n 1, 1) := by decide +kernel
theorem dL_cell_1 : decode cL_cell 1 = .ok (.aload_n 0, 1) := by decide +kernel
theorem dL_cell_2 : decode cL_cell 2 = .ok (.arraylength, 1) := by decide +kernel
theorem dL_cell_3 : decode cL_cell 3 = .ok (.if_icmp .ge 9, 3) := by decide +kernel
theorem dL_cell_6 : decode cL_cell 6 = .ok (.aload_n 0, 1) := by decide +kernel
theorem dL_cell_7 : decode cL_cell 7 = .ok (.iload_n 1, 1) := by decide +kernel
theorem dL_cell_8 : decode cL_cell 8 = .ok (.iaload, 1) := by decide +kernel
theorem dL_cell_9 : decode cL_cell 9 = .ok (.goto 9, 3) := by decide +kernel
theorem dL_cell_12 : decode cL_cell 12 = .ok (.ldc 8, 2) := by decide +kernel
theorem dL_cell_14 : decode cL_cell 14 = .ok (.iload_n 1, 1) := by decide +kernel
theorem dL_cell_15 : decode cL_cell 15 = .ok (.iconst 3, 1) := by decide +kernel
theorem dL_cell_16 : decode cL_cell 16 = .ok (.iadd, 1) := by decide +kernel
theorem dL_cell_17 : decode cL_cell 17 = .ok (.imul, 1) := by decide +kernel
theorem dL_cell_18 : decode cL_cell 18 = .ok (.ireturn, 1) := by decide +kernel
set_option maxRecDepth 20000 in
theorem ggL_build_L_cell : GoodIn wsL_build wsL_cell := goodIn_r _ [9, 10] (by decide +kernel) (by decide +kernel)
set_option maxRecDepth 20000 in
theorem gL_build_L_cell : GoodIn wsL_build (va_wsS RL 9 yL_cell wsL_cell) := goodIn_app (goodIn_of _ (by decide +kernel)) ggL_build_L_cell
set_option maxRecDepth 20000 in
theorem ggL_build_L_below : GoodIn wsL_build wsL_below := goodIn_r _ [13, 14] (by decide +kernel) (by decide +kernel)
set_option maxRecDepth 20000 in
theorem gL_build_L_below : GoodIn wsL_build (va_wsS RL 15 yL_below wsL_below) := goodIn_app (goodIn_of _ (by decide +kernel)) ggL_build_L_below
set_option maxRecDepth 20000 in
theorem ggL_build_X0_addKind : GoodIn wsL_build wsX0_addKind := goodIn_ca (goodIn_ca (goodIn_r _ [19, 20, 21, 22, 23, 24, 25, 26, 27, 28, 29, 30, 18, 31, 48, 49, 50, 51, 52, 53, 54, 55, 56, 57, 58, 59, 60, 61, 62, 63, 64, 65] (by decide +kernel) (by decide +kernel)) (goodIn_sub (fun _ h => List.mem_cons_of_mem _ (List.mem_append_left _ (List.mem_append_left _ (List.mem_append_right _ h)))) (by decide +kernel))) (goodIn_sub (fun _ h => List.mem_cons_of_mem _ (List.mem_append_left _ (List.mem_append_right _ h))) (by decide +kernel))
set_option maxRecDepth 20000 in
theorem gL_build_X0_addKind : GoodIn wsL_build (wsV RL 19 RX0 yX0_addKind wsX0_addKind) := goodIn_app (goodIn_of _ (by decide +kernel)) ggL_build_X0_addKind
set_option maxRecDepth 20000 in
theorem ggL_build_X0_fill : GoodIn wsL_build wsX0_fill := goodIn_ca (goodIn_ca (goodIn_r _ [35, 26, 36, 37, 3, 4, 5, 38, 25, 39, 40, 41, 18, 42, 43, 44, 24, 45, 46, 47, 20, 21, 48, 49, 50, 51, 52, 53, 54, 55, 56, 57, 58, 59, 60, 61, 62, 63, 64, 65] (by decide +kernel) (by decide +kernel)) (goodIn_sub (fun _ h => List.mem_cons_of_mem _ (List.mem_append_right _ h)) (by decide +kernel))) (goodIn_sub (fun _ h => List.mem_cons_of_mem _ (List.mem_append_left _ (List.mem_append_left _ (List.mem_append_right _ h)))) (by decide +kernel))
set_option maxRecDepth 20000 in
theorem gL_build_X0_fill : GoodIn wsL_build (wsV RL 29 RX0 yX0_fill wsX0_fill) := goodIn_app (goodIn_of _ (by decide +kernel)) ggL_build_X0_fill
theorem dL_build_0 : decode cL_build 0 = .ok (.bipush 16, 2) := by decide +kernel
theorem dL_build_2 : decode cL_build 2 = .ok (.newarray .int, 2) := by decide +kernel
theorem dL_build_4 : decode cL_build 4 = .ok (.dup, 1) := by decide +kernel
theorem dL_build_5 : decode cL_build 5 = .ok (.iconst 0, 1) := by decide +kernel
theorem dL_build_6 : decode cL_build 6 = .ok (.iconst 1, 1) := by decide +kernel
theorem dL_build_7 : decode cL_build 7 = .ok (.iastore, 1) := by decide +kernel
theorem dL_build_8 : decode cL_build 8 = .ok (.dup, 1) := by decide +kernel
theorem dL_build_9 : decode cL_build 9 = .ok (.iconst 1, 1) := by decide +kernel
theorem dL_build_10 : decode cL_build 10 = .ok (.iconst 2, 1) := by decide +kernel
theorem dL_build_11 : decode cL_build 11 = .ok (.iastore, 1) := by decide +kernel
theorem dL_build_12 : decode cL_build 12 = .ok (.dup, 1) := by decide +kernel
theorem dL_build_13 : decode cL_build 13 = .ok (.iconst 2, 1) := by decide +kernel
theorem dL_build_14 : decode cL_build 14 = .ok (.iconst 5, 1) := by decide +kernel
theorem dL_build_15 : decode cL_build 15 = .ok (.iastore, 1) := by decide +kernel
theorem dL_build_16 : decode cL_build 16 = .ok (.dup, 1) := by decide +kernel
theorem dL_build_17 : decode cL_build 17 = .ok (.iconst 3, 1) := by decide +kernel
theorem dL_build_18 : decode cL_build 18 = .ok (.bipush 10, 2) := by decide +kernel
theorem dL_build_20 : decode cL_build 20 = .ok (.iastore, 1) := by decide +kernel
theorem dL_build_21 : decode cL_build 21 = .ok (.dup, 1) := by decide +kernel
theorem dL_build_22 : decode cL_build 22 = .ok (.iconst 4, 1) := by decide +kernel
theorem dL_build_23 : decode cL_build 23 = .ok (.bipush 20, 2) := by decide +kernel
theorem dL_build_25 : decode cL_build 25 = .ok (.iastore, 1) := by decide +kernel
theorem dL_build_26 : decode cL_build 26 = .ok (.dup, 1) := by decide +kernel
theorem dL_build_27 : decode cL_build 27 = .ok (.iconst 5, 1) := by decide +kernel
theorem dL_build_28 : decode cL_build 28 = .ok (.bipush 50, 2) := by decide +kernel
theorem dL_build_30 : decode cL_build 30 = .ok (.iastore, 1) := by decide +kernel
theorem dL_build_31 : decode cL_build 31 = .ok (.dup, 1) := by decide +kernel
theorem dL_build_32 : decode cL_build 32 = .ok (.bipush 6, 2) := by decide +kernel
theorem dL_build_34 : decode cL_build 34 = .ok (.bipush 100, 2) := by decide +kernel
theorem dL_build_36 : decode cL_build 36 = .ok (.iastore, 1) := by decide +kernel
theorem dL_build_37 : decode cL_build 37 = .ok (.dup, 1) := by decide +kernel
theorem dL_build_38 : decode cL_build 38 = .ok (.bipush 7, 2) := by decide +kernel
theorem dL_build_40 : decode cL_build 40 = .ok (.sipush 200, 3) := by decide +kernel
theorem dL_build_43 : decode cL_build 43 = .ok (.iastore, 1) := by decide +kernel
theorem dL_build_44 : decode cL_build 44 = .ok (.dup, 1) := by decide +kernel
theorem dL_build_45 : decode cL_build 45 = .ok (.bipush 8, 2) := by decide +kernel
theorem dL_build_47 : decode cL_build 47 = .ok (.bipush 25, 2) := by decide +kernel
theorem dL_build_49 : decode cL_build 49 = .ok (.iastore, 1) := by decide +kernel
theorem dL_build_50 : decode cL_build 50 = .ok (.dup, 1) := by decide +kernel
theorem dL_build_51 : decode cL_build 51 = .ok (.bipush 9, 2) := by decide +kernel
theorem dL_build_53 : decode cL_build 53 = .ok (.bipush 30, 2) := by decide +kernel
theorem dL_build_55 : decode cL_build 55 = .ok (.iastore, 1) := by decide +kernel
theorem dL_build_56 : decode cL_build 56 = .ok (.dup, 1) := by decide +kernel
theorem dL_build_57 : decode cL_build 57 = .ok (.bipush 10, 2) := by decide +kernel
theorem dL_build_59 : decode cL_build 59 = .ok (.bipush 7, 2) := by decide +kernel
theorem dL_build_61 : decode cL_build 61 = .ok (.iastore, 1) := by decide +kernel
theorem dL_build_62 : decode cL_build 62 = .ok (.dup, 1) := by decide +kernel
theorem dL_build_63 : decode cL_build 63 = .ok (.bipush 11, 2) := by decide +kernel
theorem dL_build_65 : decode cL_build 65 = .ok (.iconst 4, 1) := by decide +kernel
theorem dL_build_66 : decode cL_build 66 = .ok (.iastore, 1) := by decide +kernel
theorem dL_build_67 : decode cL_build 67 = .ok (.dup, 1) := by decide +kernel
theorem dL_build_68 : decode cL_build 68 = .ok (.bipush 12, 2) := by decide +kernel
theorem dL_build_70 : decode cL_build 70 = .ok (.bipush 9, 2) := by decide +kernel
theorem dL_build_72 : decode cL_build 72 = .ok (.iastore, 1) := by decide +kernel
theorem dL_build_73 : decode cL_build 73 = .ok (.dup, 1) := by decide +kernel
theorem dL_build_74 : decode cL_build 74 = .ok (.bipush 13, 2) := by decide +kernel
theorem dL_build_76 : decode cL_build 76 = .ok (.bipush 15, 2) := by decide +kernel
theorem dL_build_78 : decode cL_build 78 = .ok (.iastore, 1) := by decide +kernel
theorem dL_build_79 : decode cL_build 79 = .ok (.dup, 1) := by decide +kernel
theorem dL_build_80 : decode cL_build 80 = .ok (.bipush 14, 2) := by decide +kernel
theorem dL_build_82 : decode cL_build 82 = .ok (.iconst 3, 1) := by decide +kernel
theorem dL_build_83 : decode cL_build 83 = .ok (.iastore, 1) := by decide +kernel
theorem dL_build_84 : decode cL_build 84 = .ok (.dup, 1) := by decide +kernel
theorem dL_build_85 : decode cL_build 85 = .ok (.bipush 15, 2) := by decide +kernel
theorem dL_build_87 : decode cL_build 87 = .ok (.bipush 40, 2) := by decide +kernel
theorem dL_build_89 : decode cL_build 89 = .ok (.iastore, 1) := by decide +kernel
theorem dL_build_90 : decode cL_build 90 = .ok (.astore 8, 2) := by decide +kernel
theorem dL_build_92 : decode cL_build 92 = .ok (.iconst 0, 1) := by decide +kernel
theorem dL_build_93 : decode cL_build 93 = .ok (.istore 9, 2) := by decide +kernel
theorem dL_build_95 : decode cL_build 95 = .ok (.iconst 1, 1) := by decide +kernel
theorem dL_build_96 : decode cL_build 96 = .ok (.aload_n 1, 1) := by decide +kernel
theorem dL_build_97 : decode cL_build 97 = .ok (.iload_n 2, 1) := by decide +kernel
theorem dL_build_98 : decode cL_build 98 = .ok (.invokestatic 9, 3) := by decide +kernel
theorem dL_build_101 : decode cL_build 101 = .ok (.iload_n 3, 1) := by decide +kernel
theorem dL_build_102 : decode cL_build 102 = .ok (.invokestatic 15, 3) := by decide +kernel
theorem dL_build_105 : decode cL_build 105 = .ok (.iadd, 1) := by decide +kernel
theorem dL_build_106 : decode cL_build 106 = .ok (.istore 10, 2) := by decide +kernel
theorem dL_build_108 : decode cL_build 108 = .ok (.iconst 0, 1) := by decide +kernel
theorem dL_build_109 : decode cL_build 109 = .ok (.istore 11, 2) := by decide +kernel
theorem dL_build_111 : decode cL_build 111 = .ok (.iload 11, 2) := by decide +kernel
theorem dL_build_113 : decode cL_build 113 = .ok (.iload 10, 2) := by decide +kernel
theorem dL_build_115 : decode cL_build 115 = .ok (.if_icmp .ge 212, 3) := by decide +kernel
theorem dL_build_118 : decode cL_build 118 = .ok (.aload_n 1, 1) := by decide +kernel
theorem dL_build_119 : decode cL_build 119 = .ok (.iload_n 2, 1) := by decide +kernel
theorem dL_build_120 : decode cL_build 120 = .ok (.iconst 1, 1) := by decide +kernel
theorem dL_build_121 : decode cL_build 121 = .ok (.iadd, 1) := by decide +kernel
theorem dL_build_122 : decode cL_build 122 = .ok (.iload 11, 2) := by decide +kernel
theorem dL_build_124 : decode cL_build 124 = .ok (.iconst 4, 1) := by decide +kernel
theorem dL_build_125 : decode cL_build 125 = .ok (.irem, 1) := by decide +kernel
theorem dL_build_126 : decode cL_build 126 = .ok (.iadd, 1) := by decide +kernel
theorem dL_build_127 : decode cL_build 127 = .ok (.invokestatic 9, 3) := by decide +kernel
theorem dL_build_130 : decode cL_build 130 = .ok (.iload 11, 2) := by decide +kernel
theorem dL_build_132 : decode cL_build 132 = .ok (.iconst 4, 1) := by decide +kernel
theorem dL_build_133 : decode cL_build 133 = .ok (.idiv, 1) := by decide +kernel
theorem dL_build_134 : decode cL_build 134 = .ok (.bipush 9, 2) := by decide +kernel
theorem dL_build_136 : decode cL_build 136 = .ok (.imul, 1) := by decide +kernel
theorem dL_build_137 : decode cL_build 137 = .ok (.ishr, 1) := by decide +kernel
theorem dL_build_138 : decode cL_build 138 = .ok (.istore 12, 2) := by decide +kernel
theorem dL_build_140 : decode cL_build 140 = .ok (.iload 12, 2) := by decide +kernel
theorem dL_build_142 : decode cL_build 142 = .ok (.bipush 6, 2) := by decide +kernel
theorem dL_build_144 : decode cL_build 144 = .ok (.invokestatic 15, 3) := by decide +kernel
theorem dL_build_147 : decode cL_build 147 = .ok (.ifCond .ne 17, 3) := by decide +kernel
theorem dL_build_150 : decode cL_build 150 = .ok (.iconst 1, 1) := by decide +kernel
theorem dL_build_151 : decode cL_build 151 = .ok (.iload 12, 2) := by decide +kernel
theorem dL_build_153 : decode cL_build 153 = .ok (.iconst 3, 1) := by decide +kernel
theorem dL_build_154 : decode cL_build 154 = .ok (.ishr, 1) := by decide +kernel
theorem dL_build_155 : decode cL_build 155 = .ok (.bipush 60, 2) := by decide +kernel
theorem dL_build_157 : decode cL_build 157 = .ok (.invokestatic 15, 3) := by decide +kernel
theorem dL_build_160 : decode cL_build 160 = .ok (.iadd, 1) := by decide +kernel
theorem dL_build_161 : decode cL_build 161 = .ok (.goto 15, 3) := by decide +kernel
theorem dL_build_164 : decode cL_build 164 = .ok (.aload 8, 2) := by decide +kernel
theorem dL_build_166 : decode cL_build 166 = .ok (.iload 12, 2) := by decide +kernel
theorem dL_build_168 : decode cL_build 168 = .ok (.iconst 3, 1) := by decide +kernel
theorem dL_build_169 : decode cL_build 169 = .ok (.ishr, 1) := by decide +kernel
theorem dL_build_170 : decode cL_build 170 = .ok (.bipush 16, 2) := by decide +kernel
theorem dL_build_172 : decode cL_build 172 = .ok (.invokestatic 15, 3) := by decide +kernel
theorem dL_build_175 : decode cL_build 175 = .ok (.iaload, 1) := by decide +kernel
theorem dL_build_176 : decode cL_build 176 = .ok (.istore 13, 2) := by decide +kernel
theorem dL_build_178 : decode cL_build 178 = .ok (.iconst 1, 1) := by decide +kernel
theorem dL_build_179 : decode cL_build 179 = .ok (.istore 14, 2) := by decide +kernel
theorem dL_build_181 : decode cL_build 181 = .ok (.iconst 0, 1) := by decide +kernel
theorem dL_build_182 : decode cL_build 182 = .ok (.istore 15, 2) := by decide +kernel
theorem dL_build_184 : decode cL_build 184 = .ok (.iload 15, 2) := by decide +kernel
theorem dL_build_186 : decode cL_build 186 = .ok (.iload 9, 2) := by decide +kernel
theorem dL_build_188 : decode cL_build 188 = .ok (.if_icmp .ge 31, 3) := by decide +kernel
theorem dL_build_191 : decode cL_build 191 = .ok (.iload 14, 2) := by decide +kernel
theorem dL_build_193 : decode cL_build 193 = .ok (.ifCond .eq 17, 3) := by decide +kernel
theorem dL_build_196 : decode cL_build 196 = .ok (.aload 5, 2) := by decide +kernel
theorem dL_build_198 : decode cL_build 198 = .ok (.iload 15, 2) := by decide +kernel
theorem dL_build_200 : decode cL_build 200 = .ok (.iaload, 1) := by decide +kernel
theorem dL_build_201 : decode cL_build 201 = .ok (.iload 13, 2) := by decide +kernel
theorem dL_build_203 : decode cL_build 203 = .ok (.if_icmp .eq 7, 3) := by decide +kernel
theorem dL_build_206 : decode cL_build 206 = .ok (.iconst 1, 1) := by decide +kernel
theorem dL_build_207 : decode cL_build 207 = .ok (.goto 4, 3) := by decide +kernel
theorem dL_build_210 : decode cL_build 210 = .ok (.iconst 0, 1) := by decide +kernel
theorem dL_build_211 : decode cL_build 211 = .ok (.istore 14, 2) := by decide +kernel
theorem dL_build_213 : decode cL_build 213 = .ok (.iinc 15 1, 3) := by decide +kernel
theorem dL_build_216 : decode cL_build 216 = .ok (.goto (-32), 3) := by decide +kernel
theorem dL_build_219 : decode cL_build 219 = .ok (.iload 14, 2) := by decide +kernel
theorem dL_build_221 : decode cL_build 221 = .ok (.ifCond .ne 6, 3) := by decide +kernel
theorem dL_build_224 : decode cL_build 224 = .ok (.goto 97, 3) := by decide +kernel
theorem dL_build_227 : decode cL_build 227 = .ok (.aload 5, 2) := by decide +kernel
theorem dL_build_229 : decode cL_build 229 = .ok (.iload 9, 2) := by decide +kernel
theorem dL_build_231 : decode cL_build 231 = .ok (.iload 13, 2) := by decide +kernel
theorem dL_build_233 : decode cL_build 233 = .ok (.iastore, 1) := by decide +kernel
theorem dL_build_234 : decode cL_build 234 = .ok (.aload 6, 2) := by decide +kernel
theorem dL_build_236 : decode cL_build 236 = .ok (.iload 9, 2) := by decide +kernel
theorem dL_build_238 : decode cL_build 238 = .ok (.iload 12, 2) := by decide +kernel
theorem dL_build_240 : decode cL_build 240 = .ok (.bipush 6, 2) := by decide +kernel
theorem dL_build_242 : decode cL_build 242 = .ok (.ishr, 1) := by decide +kernel
theorem dL_build_243 : decode cL_build 243 = .ok (.iload 4, 2) := by decide +kernel
theorem dL_build_245 : decode cL_build 245 = .ok (.iconst 3, 1) := by decide +kernel
theorem dL_build_246 : decode cL_build 246 = .ok (.iadd, 1) := by decide +kernel
theorem dL_build_247 : decode cL_build 247 = .ok (.invokestatic 15, 3) := by decide +kernel
theorem dL_build_250 : decode cL_build 250 = .ok (.iastore, 1) := by decide +kernel
theorem dL_build_251 : decode cL_build 251 = .ok (.aload_n 0, 1) := by decide +kernel
theorem dL_build_252 : decode cL_build 252 = .ok (.iload 13, 2) := by decide +kernel
theorem dL_build_254 : decode cL_build 254 = .ok (.aload 6, 2) := by decide +kernel
theorem dL_build_256 : decode cL_build 256 = .ok (.iload 9, 2) := by decide +kernel
theorem dL_build_258 : decode cL_build 258 = .ok (.iaload, 1) := by decide +kernel
theorem dL_build_259 : decode cL_build 259 = .ok (.invokevirtual 19, 3) := by decide +kernel
theorem dL_build_262 : decode cL_build 262 = .ok (.iload 9, 2) := by decide +kernel
theorem dL_build_264 : decode cL_build 264 = .ok (.if_icmp .eq 5, 3) := by decide +kernel
theorem dL_build_267 : decode cL_build 267 = .ok (.iconst (-1), 1) := by decide +kernel
theorem dL_build_268 : decode cL_build 268 = .ok (.ireturn, 1) := by decide +kernel
theorem dL_build_269 : decode cL_build 269 = .ok (.iload 12, 2) := by decide +kernel
theorem dL_build_271 : decode cL_build 271 = .ok (.iconst 5, 1) := by decide +kernel
theorem dL_build_272 : decode cL_build 272 = .ok (.ishr, 1) := by decide +kernel
theorem dL_build_273 : decode cL_build 273 = .ok (.iload 4, 2) := by decide +kernel
theorem dL_build_275 : decode cL_build 275 = .ok (.iconst 1, 1) := by decide +kernel
theorem dL_build_276 : decode cL_build 276 = .ok (.iadd, 1) := by decide +kernel
theorem dL_build_277 : decode cL_build 277 = .ok (.invokestatic 15, 3) := by decide +kernel
theorem dL_build_280 : decode cL_build 280 = .ok (.istore 15, 2) := by decide +kernel
theorem dL_build_282 : decode cL_build 282 = .ok (.aload 7, 2) := by decide +kernel
theorem dL_build_284 : decode cL_build 284 = .ok (.iload 9, 2) := by decide +kernel
theorem dL_build_286 : decode cL_build 286 = .ok (.iload 15, 2) := by decide +kernel
theorem dL_build_288 : decode cL_build 288 = .ok (.aload 6, 2) := by decide +kernel
theorem dL_build_290 : decode cL_build 290 = .ok (.iload 9, 2) := by decide +kernel
theorem dL_build_292 : decode cL_build 292 = .ok (.iaload, 1) := by decide +kernel
theorem dL_build_293 : decode cL_build 293 = .ok (.invokestatic 24, 3) := by decide +kernel
theorem dL_build_296 : decode cL_build 296 = .ok (.iastore, 1) := by decide +kernel
theorem dL_build_297 : decode cL_build 297 = .ok (.aload_n 0, 1) := by decide +kernel
theorem dL_build_298 : decode cL_build 298 = .ok (.iload 9, 2) := by decide +kernel
theorem dL_build_300 : decode cL_build 300 = .ok (.iload 15, 2) := by decide +kernel
theorem dL_build_302 : decode cL_build 302 = .ok (.invokevirtual 29, 3) := by decide +kernel
theorem dL_build_305 : decode cL_build 305 = .ok (.iload 15, 2) := by decide +kernel
theorem dL_build_307 : decode cL_build 307 = .ok (.aload 7, 2) := by decide +kernel
theorem dL_build_309 : decode cL_build 309 = .ok (.iload 9, 2) := by decide +kernel
theorem dL_build_311 : decode cL_build 311 = .ok (.iaload, 1) := by decide +kernel
theorem dL_build_312 : decode cL_build 312 = .ok (.isub, 1) := by decide +kernel
theorem dL_build_313 : decode cL_build 313 = .ok (.if_icmp .eq 5, 3) := by decide +kernel
theorem dL_build_316 : decode cL_build 316 = .ok (.iconst (-1), 1) := by decide +kernel
theorem dL_build_317 : decode cL_build 317 = .ok (.ireturn, 1) := by decide +kernel
theorem dL_build_318 : decode cL_build 318 = .ok (.iinc 9 1, 3) := by decide +kernel
theorem dL_build_321 : decode cL_build 321 = .ok (.iinc 11 1, 3) := by decide +kernel
theorem dL_build_324 : decode cL_build 324 = .ok (.goto (-213), 3) := by decide +kernel
theorem dL_build_327 : decode cL_build 327 = .ok (.iload 9, 2) := by decide +kernel
theorem dL_build_329 : decode cL_build 329 = .ok (.ireturn, 1) := by decide +kernel
set_option maxRecDepth 20000 in
theorem ggL_law_X0_init : GoodIn wsL_law wsX0_init := goodIn_r _ [6, 7, 8, 9, 10, 3, 11, 12, 13, 14, 15, 16, 17, 18, 19, 20, 21, 22, 23, 24, 25, 26, 27, 28, 29, 202, 203, 204, 205, 206, 207, 208, 209, 210, 211, 212, 213, 214, 215, 216, 217, 218, 219] (by decide +kernel) (by decide +kernel)
set_option maxRecDepth 20000 in
theorem gL_law_X0_init : GoodIn wsL_law (wsX0_init) := ggL_law_X0_init
set_option maxRecDepth 20000 in
theorem ggL_law_L_build : GoodIn wsL_law wsL_build := goodIn_ca (goodIn_ca (goodIn_ca (goodIn_r _ [33, 3, 34, 35, 36, 37, 38, 39, 32, 40, 41, 42, 43, 44, 45, 46, 47, 48, 2, 49, 50, 51, 52, 53, 10, 11, 12, 17, 54, 55, 56, 57, 58, 59, 60, 61, 13, 62, 27, 63, 64, 65, 66, 67, 68, 69, 70, 71, 202, 203, 204, 205, 206, 207, 208, 209, 210, 211, 212, 213, 214, 215, 216, 217, 218, 219] (by decide +kernel) (by decide +kernel)) (goodIn_sub (fun _ h => List.mem_append_left _ (List.mem_append_left _ (List.mem_append_right _ h))) (by decide +kernel))) (goodIn_sub (fun _ h => List.mem_append_left _ (List.mem_append_right _ h)) (by decide +kernel))) (goodIn_sub (fun _ h => List.mem_append_right _ h) (by decide +kernel))
set_option maxRecDepth 20000 in
theorem gL_law_L_build : GoodIn wsL_law (va_wsS RL 43 yL_build wsL_build) := goodIn_app (goodIn_of _ (by decide +kernel)) ggL_law_L_build
set_option maxRecDepth 20000 in
theorem ggL_law_L_cell : GoodIn wsL_law wsL_cell := goodIn_r _ [40, 41] (by decide +kernel) (by decide +kernel)
set_option maxRecDepth 20000 in
theorem gL_law_L_cell : GoodIn wsL_law (va_wsS RL 9 yL_cell wsL_cell) := goodIn_app (goodIn_of _ (by decide +kernel)) ggL_law_L_cell
set_option maxRecDepth 20000 in
theorem ggL_law_L_below : GoodIn wsL_law wsL_below := goodIn_r _ [44, 45] (by decide +kernel) (by decide +kernel)
set_option maxRecDepth 20000 in
theorem gL_law_L_below : GoodIn wsL_law (va_wsS RL 15 yL_below wsL_below) := goodIn_app (goodIn_of _ (by decide +kernel)) ggL_law_L_below
set_option maxRecDepth 20000 in
theorem ggL_law_X0_fewest : GoodIn wsL_law wsX0_fewest := goodIn_ca (goodIn_r _ [75, 13, 76, 77, 78, 2, 79, 50, 51, 80, 81, 82, 83, 62, 35, 36, 37, 28, 10, 84, 85, 86, 87, 88, 11, 89, 90, 91, 92, 93, 94, 95, 96, 97, 98, 99, 100, 101, 102, 103, 104, 105, 106, 202, 203, 204, 205, 206, 207, 208, 209, 210, 211, 212, 213, 214, 215, 216, 217, 218, 219] (by decide +kernel) (by decide +kernel)) (goodIn_sub (fun _ h => List.mem_append_left _ (List.mem_append_left _ (List.mem_append_right _ h))) (by decide +kernel))
set_option maxRecDepth 20000 in
theorem gL_law_X0_fewest : GoodIn wsL_law (wsV RL 47 RX0 yX0_fewest wsX0_fewest) := goodIn_app (goodIn_of _ (by decide +kernel)) ggL_law_X0_fewest
set_option maxRecDepth 20000 in
theorem ggL_law_X0_below : GoodIn wsL_law wsX0_below := goodIn_ca (goodIn_r _ [110, 13, 76, 77, 78, 2, 79, 50, 51, 80, 81, 82, 83, 62, 35, 36, 37, 28, 10, 84, 85, 86, 87, 88, 11, 89, 90, 91, 92, 93, 94, 95, 96, 97, 98, 99, 100, 101, 102, 103, 202, 203, 204, 205, 206, 207, 208, 209, 210, 211, 212, 213, 214, 215, 216, 217, 218, 219] (by decide +kernel) (by decide +kernel)) (goodIn_sub (fun _ h => List.mem_append_left _ (List.mem_append_left _ (List.mem_append_right _ h))) (by decide +kernel))
set_option maxRecDepth 20000 in
theorem gL_law_X0_below : GoodIn wsL_law (wsV RL 51 RX0 yX0_below wsX0_below) := goodIn_app (goodIn_of _ (by decide +kernel)) ggL_law_X0_below
set_option maxRecDepth 20000 in
theorem ggL_law_X0_unit : GoodIn wsL_law wsX0_unit := goodIn_r _ [114, 10, 115, 116, 117, 2, 118, 11, 202, 203, 204, 205, 206, 207, 208, 209, 210, 211, 212, 213, 214, 215, 216, 217, 218, 219] (by decide +kernel) (by decide +kernel)
set_option maxRecDepth 20000 in
theorem gL_law_X0_unit : GoodIn wsL_law (wsV RL 53 RX0 yX0_unit wsX0_unit) := goodIn_app (goodIn_of _ (by decide +kernel)) ggL_law_X0_unit
set_option maxRecDepth 20000 in
theorem ggL_law_X0_part : GoodIn wsL_law wsX0_part := goodIn_ca (goodIn_ca (goodIn_r _ [122, 13, 76, 77, 78, 2, 79, 50, 51, 63, 64, 65, 66, 67, 68, 10, 80, 81, 82, 83, 62, 35, 36, 37, 28, 84, 85, 86, 87, 88, 11, 89, 90, 91, 92, 93, 94, 95, 96, 97, 98, 99, 100, 101, 102, 103, 123, 124, 125, 126, 127, 202, 203, 204, 205, 206, 207, 208, 209, 210, 211, 212, 213, 214, 215, 216, 217, 218, 219] (by decide +kernel) (by decide +kernel)) (goodIn_sub (fun _ h => List.mem_append_left _ (List.mem_append_left _ (List.mem_append_right _ h))) (by decide +kernel))) (goodIn_sub (fun _ h => List.mem_append_right _ h) (by decide +kernel))
set_option maxRecDepth 20000 in
theorem gL_law_X0_part : GoodIn wsL_law (wsV RL 57 RX0 yX0_part wsX0_part) := goodIn_app (goodIn_of _ (by decide +kernel)) ggL_law_X0_part
set_option maxRecDepth 20000 in
theorem ggL_law_X0_coins : GoodIn wsL_law wsX0_coins := goodIn_ca (goodIn_r _ [131, 67, 68, 63, 64, 65, 2, 66, 10, 132, 133, 134, 135, 11, 13, 14, 15, 202, 203, 204, 205, 206, 207, 208, 209, 210, 211, 212, 213, 214, 215, 216, 217, 218, 219] (by decide +kernel) (by decide +kernel)) (goodIn_sub (fun _ h => List.mem_append_right _ h) (by decide +kernel))
set_option maxRecDepth 20000 in
theorem gL_law_X0_coins : GoodIn wsL_law (wsV RL 60 RX0 yX0_coins wsX0_coins) := goodIn_app (goodIn_of _ (by decide +kernel)) ggL_law_X0_coins
set_option maxRecDepth 20000 in
theorem ggL_law_X0_gaps : GoodIn wsL_law wsX0_gaps := goodIn_ca (goodIn_r _ [139, 13, 76, 77, 78, 2, 79, 50, 51, 140, 112, 113, 114, 10, 115, 116, 117, 118, 11, 80, 81, 82, 83, 62, 35, 36, 37, 28, 84, 85, 86, 87, 88, 89, 90, 91, 92, 93, 94, 95, 96, 97, 98, 99, 100, 101, 102, 103, 202, 203, 204, 205, 206, 207, 208, 209, 210, 211, 212, 213, 214, 215, 216, 217, 218, 219] (by decide +kernel) (by decide +kernel)) (goodIn_sub (fun _ h => List.mem_append_left _ (List.mem_append_left _ (List.mem_append_right _ h))) (by decide +kernel))
set_option maxRecDepth 20000 in
theorem gL_law_X0_gaps : GoodIn wsL_law (wsV RL 63 RX0 yX0_gaps wsX0_gaps) := goodIn_app (goodIn_of _ (by decide +kernel)) ggL_law_X0_gaps
set_option maxRecDepth 20000 in
theorem ggL_law_X0_fill : GoodIn wsL_law wsX0_fill := goodIn_ca (goodIn_ca (goodIn_r _ [61, 12, 13, 62, 35, 36, 37, 27, 11, 63, 64, 65, 2, 66, 67, 68, 10, 69, 70, 71, 50, 51, 202, 203, 204, 205, 206, 207, 208, 209, 210, 211, 212, 213, 214, 215, 216, 217, 218, 219] (by decide +kernel) (by decide +kernel)) (goodIn_sub (fun _ h => List.mem_append_right _ h) (by decide +kernel))) (goodIn_sub (fun _ h => List.mem_append_left _ (List.mem_append_left _ (List.mem_append_right _ h))) (by decide +kernel))
set_option maxRecDepth 20000 in
theorem gL_law_X0_fill : GoodIn wsL_law (wsV RL 29 RX0 yX0_fill wsX0_fill) := goodIn_app (goodIn_of _ (by decide +kernel)) ggL_law_X0_fill
set_option maxRecDepth 20000 in
theorem ggL_law_X0_addProduct : GoodIn wsL_law wsX0_addProduct := goodIn_ca (goodIn_ca (goodIn_r _ [144, 52, 53, 18, 19, 20, 145, 146, 2, 147, 50, 51, 202, 203, 204, 205, 206, 207, 208, 209, 210, 211, 212, 213, 214, 215, 216, 217, 218, 219] (by decide +kernel) (by decide +kernel)) (goodIn_sub (fun _ h => List.mem_append_left _ (List.mem_append_right _ h)) (by decide +kernel))) (goodIn_sub (fun _ h => List.mem_append_left _ (List.mem_append_left _ (List.mem_append_right _ h))) (by decide +kernel))
set_option maxRecDepth 20000 in
theorem gL_law_X0_addProduct : GoodIn wsL_law (wsV RL 66 RX0 yX0_addProduct wsX0_addProduct) := goodIn_app (goodIn_of _ (by decide +kernel)) ggL_law_X0_addProduct
set_option maxRecDepth 20000 in
theorem ggL_law_X0_insert : GoodIn wsL_law wsX0_insert := goodIn_ca (goodIn_r _ [151, 17, 22, 11, 21, 23, 27, 63, 64, 65, 2, 66, 67, 68, 10, 152, 153, 154, 155, 156, 157, 158, 159, 202, 203, 204, 205, 206, 207, 208, 209, 210, 211, 212, 213, 214, 215, 216, 217, 218, 219] (by decide +kernel) (by decide +kernel)) (goodIn_sub (fun _ h => List.mem_append_right _ h) (by decide +kernel))
set_option maxRecDepth 20000 in
theorem gL_law_X0_insert : GoodIn wsL_law (wsV RL 69 RX0 yX0_insert wsX0_insert) := goodIn_app (goodIn_of _ (by decide +kernel)) ggL_law_X0_insert
set_option maxRecDepth 20000 in
theorem ggL_law_X0_digest : GoodIn wsL_law wsX0_digest := goodIn_r _ [163, 164, 165, 21, 18, 19, 20, 22, 23, 27, 166, 167, 168, 2, 169, 10, 17, 132, 133, 134, 135, 11, 13, 14, 15, 202, 203, 204, 205, 206, 207, 208, 209, 210, 211, 212, 213, 214, 215, 216, 217, 218, 219] (by decide +kernel) (by decide +kernel)
set_option maxRecDepth 20000 in
theorem gL_law_X0_digest : GoodIn wsL_law (wsV RL 72 RX0 yX0_digest wsX0_digest) := goodIn_app (goodIn_of _ (by decide +kernel)) ggL_law_X0_digest
set_option maxRecDepth 20000 in
theorem ggL_law_X0_buy : GoodIn wsL_law wsX0_buy := goodIn_ca (goodIn_r _ [173, 20, 19, 29, 76, 24, 25, 174, 175, 176, 2, 177, 67, 68, 18, 152, 153, 154, 155, 10, 11, 156, 157, 158, 159, 22, 23, 178, 179, 180, 181, 13, 12, 62, 35, 36, 37, 80, 81, 82, 83, 28, 84, 85, 86, 87, 88, 89, 90, 91, 92, 93, 94, 95, 96, 97, 98, 99, 100, 101, 102, 103, 182, 183, 184, 185, 14, 186, 187, 188, 189, 15, 123, 124, 125, 126, 127, 190, 191, 192, 193, 27, 202, 203, 204, 205, 206, 207, 208, 209, 210, 211, 212, 213, 214, 215, 216, 217, 218, 219] (by decide +kernel) (by decide +kernel)) (goodIn_sub (fun _ h => List.mem_append_right _ h) (by decide +kernel))
set_option maxRecDepth 20000 in
theorem gL_law_X0_buy : GoodIn wsL_law (wsV RL 76 RX0 yX0_buy wsX0_buy) := goodIn_app (goodIn_of _ (by decide +kernel)) ggL_law_X0_buy
set_option maxRecDepth 20000 in
theorem ggL_law_X0_cancel : GoodIn wsL_law wsX0_cancel := goodIn_r _ [197, 22, 27, 152, 153, 154, 2, 155, 10, 11, 156, 157, 158, 159, 23, 202, 203, 204, 205, 206, 207, 208, 209, 210, 211, 212, 213, 214, 215, 216, 217, 218, 219] (by decide +kernel) (by decide +kernel)
set_option maxRecDepth 20000 in
theorem gL_law_X0_cancel : GoodIn wsL_law (wsV RL 79 RX0 yX0_cancel wsX0_cancel) := goodIn_app (goodIn_of _ (by decide +kernel)) ggL_law_X0_cancel
set_option maxRecDepth 20000 in
theorem ggL_law_X0_audit : GoodIn wsL_law wsX0_audit := goodIn_ca (goodIn_r _ [201, 67, 68, 27, 202, 203, 204, 205, 206, 207, 208, 209, 210, 211, 212, 213, 214, 215, 216, 217, 218, 219] (by decide +kernel) (by decide +kernel)) (goodIn_sub (fun _ h => List.mem_append_right _ h) (by decide +kernel))
set_option maxRecDepth 20000 in
theorem gL_law_X0_audit : GoodIn wsL_law (wsV RL 82 RX0 yX0_audit wsX0_audit) := goodIn_app (goodIn_of _ (by decide +kernel)) ggL_law_X0_audit
theorem dL_law_0 : decode cL_law 0 = .ok (.new 20, 3) := by decide +kernel
theorem dL_law_3 : decode cL_law 3 = .ok (.dup, 1) := by decide +kernel
theorem dL_law_4 : decode cL_law 4 = .ok (.invokespecial 42, 3) := by decide +kernel
theorem dL_law_7 : decode cL_law 7 = .ok (.astore_n 1, 1) := by decide +kernel
theorem dL_law_8 : decode cL_law 8 = .ok (.bipush 8, 2) := by decide +kernel
theorem dL_law_10 : decode cL_law 10 = .ok (.newarray .int, 2) := by decide +kernel
theorem dL_law_12 : decode cL_law 12 = .ok (.astore_n 2, 1) := by decide +kernel
theorem dL_law_13 : decode cL_law 13 = .ok (.bipush 8, 2) := by decide +kernel
theorem dL_law_15 : decode cL_law 15 = .ok (.newarray .int, 2) := by decide +kernel
theorem dL_law_17 : decode cL_law 17 = .ok (.astore_n 3, 1) := by decide +kernel
theorem dL_law_18 : decode cL_law 18 = .ok (.aload_n 1, 1) := by decide +kernel
theorem dL_law_19 : decode cL_law 19 = .ok (.aload_n 0, 1) := by decide +kernel
theorem dL_law_20 : decode cL_law 20 = .ok (.iconst 0, 1) := by decide +kernel
theorem dL_law_21 : decode cL_law 21 = .ok (.bipush 6, 2) := by decide +kernel
theorem dL_law_23 : decode cL_law 23 = .ok (.bipush 9, 2) := by decide +kernel
theorem dL_law_25 : decode cL_law 25 = .ok (.aload_n 2, 1) := by decide +kernel
theorem dL_law_26 : decode cL_law 26 = .ok (.aload_n 3, 1) := by decide +kernel
theorem dL_law_27 : decode cL_law 27 = .ok (.bipush 8, 2) := by decide +kernel
theorem dL_law_29 : decode cL_law 29 = .ok (.newarray .int, 2) := by decide +kernel
theorem dL_law_31 : decode cL_law 31 = .ok (.invokestatic 43, 3) := by decide +kernel
theorem dL_law_34 : decode cL_law 34 = .ok (.istore 4, 2) := by decide +kernel
theorem dL_law_36 : decode cL_law 36 = .ok (.iload 4, 2) := by decide +kernel
theorem dL_law_38 : decode cL_law 38 = .ok (.ifCond .ge 5, 3) := by decide +kernel
theorem dL_law_41 : decode cL_law 41 = .ok (.iconst 0, 1) := by decide +kernel
theorem dL_law_42 : decode cL_law 42 = .ok (.ireturn, 1) := by decide +kernel
theorem dL_law_43 : decode cL_law 43 = .ok (.iconst 0, 1) := by decide +kernel
theorem dL_law_44 : decode cL_law 44 = .ok (.istore 5, 2) := by decide +kernel
theorem dL_law_46 : decode cL_law 46 = .ok (.iload 5, 2) := by decide +kernel
theorem dL_law_48 : decode cL_law 48 = .ok (.bipush 6, 2) := by decide +kernel
theorem dL_law_50 : decode cL_law 50 = .ok (.if_icmp .ge 321, 3) := by decide +kernel
theorem dL_law_53 : decode cL_law 53 = .ok (.aload_n 0, 1) := by decide +kernel
theorem dL_law_54 : decode cL_law 54 = .ok (.iconst 5, 1) := by decide +kernel
theorem dL_law_55 : decode cL_law 55 = .ok (.iload 5, 2) := by decide +kernel
theorem dL_law_57 : decode cL_law 57 = .ok (.iadd, 1) := by decide +kernel
theorem dL_law_58 : decode cL_law 58 = .ok (.invokestatic 9, 3) := by decide +kernel
theorem dL_law_61 : decode cL_law 61 = .ok (.iload 5, 2) := by decide +kernel
theorem dL_law_63 : decode cL_law 63 = .ok (.iconst 3, 1) := by decide +kernel
theorem dL_law_64 : decode cL_law 64 = .ok (.if_icmp .ge 8, 3) := by decide +kernel
theorem dL_law_67 : decode cL_law 67 = .ok (.bipush 60, 2) := by decide +kernel
theorem dL_law_69 : decode cL_law 69 = .ok (.goto 6, 3) := by decide +kernel
theorem dL_law_72 : decode cL_law 72 = .ok (.sipush 900, 3) := by decide +kernel
theorem dL_law_75 : decode cL_law 75 = .ok (.invokestatic 15, 3) := by decide +kernel
theorem dL_law_78 : decode cL_law 78 = .ok (.istore 6, 2) := by decide +kernel
theorem dL_law_80 : decode cL_law 80 = .ok (.aload_n 1, 1) := by decide +kernel
theorem dL_law_81 : decode cL_law 81 = .ok (.iload 6, 2) := by decide +kernel
theorem dL_law_83 : decode cL_law 83 = .ok (.invokevirtual 47, 3) := by decide +kernel
theorem dL_law_86 : decode cL_law 86 = .ok (.istore 7, 2) := by decide +kernel
theorem dL_law_88 : decode cL_law 88 = .ok (.aload_n 1, 1) := by decide +kernel
theorem dL_law_89 : decode cL_law 89 = .ok (.iload 6, 2) := by decide +kernel
theorem dL_law_91 : decode cL_law 91 = .ok (.invokevirtual 51, 3) := by decide +kernel
theorem dL_law_94 : decode cL_law 94 = .ok (.istore 8, 2) := by decide +kernel
theorem dL_law_96 : decode cL_law 96 = .ok (.iload 7, 2) := by decide +kernel
theorem dL_law_98 : decode cL_law 98 = .ok (.ifCond .lt 7, 3) := by decide +kernel
theorem dL_law_101 : decode cL_law 101 = .ok (.iconst 1, 1) := by decide +kernel
theorem dL_law_102 : decode cL_law 102 = .ok (.goto 4, 3) := by decide +kernel
theorem dL_law_105 : decode cL_law 105 = .ok (.iconst 0, 1) := by decide +kernel
theorem dL_law_106 : decode cL_law 106 = .ok (.iload 8, 2) := by decide +kernel
theorem dL_law_108 : decode cL_law 108 = .ok (.iload 6, 2) := by decide +kernel
theorem dL_law_110 : decode cL_law 110 = .ok (.if_icmp .ne 7, 3) := by decide +kernel
theorem dL_law_113 : decode cL_law 113 = .ok (.iconst 1, 1) := by decide +kernel
theorem dL_law_114 : decode cL_law 114 = .ok (.goto 4, 3) := by decide +kernel
theorem dL_law_117 : decode cL_law 117 = .ok (.iconst 0, 1) := by decide +kernel
theorem dL_law_118 : decode cL_law 118 = .ok (.if_icmp .ne 34, 3) := by decide +kernel
theorem dL_law_121 : decode cL_law 121 = .ok (.iload 8, 2) := by decide +kernel
theorem dL_law_123 : decode cL_law 123 = .ok (.iload 6, 2) := by decide +kernel
theorem dL_law_125 : decode cL_law 125 = .ok (.if_icmp .gt 27, 3) := by decide +kernel
theorem dL_law_128 : decode cL_law 128 = .ok (.aload_n 1, 1) := by decide +kernel
theorem dL_law_129 : decode cL_law 129 = .ok (.iload 8, 2) := by decide +kernel
theorem dL_law_131 : decode cL_law 131 = .ok (.invokevirtual 47, 3) := by decide +kernel
theorem dL_law_134 : decode cL_law 134 = .ok (.ifCond .lt 18, 3) := by decide +kernel
theorem dL_law_137 : decode cL_law 137 = .ok (.iload 7, 2) := by decide +kernel
theorem dL_law_139 : decode cL_law 139 = .ok (.ifCond .lt 15, 3) := by decide +kernel
theorem dL_law_142 : decode cL_law 142 = .ok (.iload 6, 2) := by decide +kernel
theorem dL_law_144 : decode cL_law 144 = .ok (.aload_n 1, 1) := by decide +kernel
theorem dL_law_145 : decode cL_law 145 = .ok (.invokevirtual 53, 3) := by decide +kernel
theorem dL_law_148 : decode cL_law 148 = .ok (.irem, 1) := by decide +kernel
theorem dL_law_149 : decode cL_law 149 = .ok (.ifCond .eq 5, 3) := by decide +kernel
theorem dL_law_152 : decode cL_law 152 = .ok (.iconst 0, 1) := by decide +kernel
theorem dL_law_153 : decode cL_law 153 = .ok (.ireturn, 1) := by decide +kernel
theorem dL_law_154 : decode cL_law 154 = .ok (.iconst 0, 1) := by decide +kernel
theorem dL_law_155 : decode cL_law 155 = .ok (.istore 9, 2) := by decide +kernel
theorem dL_law_157 : decode cL_law 157 = .ok (.iconst 0, 1) := by decide +kernel
theorem dL_law_158 : decode cL_law 158 = .ok (.istore 10, 2) := by decide +kernel
theorem dL_law_160 : decode cL_law 160 = .ok (.iconst 0, 1) := by decide +kernel
theorem dL_law_161 : decode cL_law 161 = .ok (.istore 11, 2) := by decide +kernel
theorem dL_law_163 : decode cL_law 163 = .ok (.iload 11, 2) := by decide +kernel
theorem dL_law_165 : decode cL_law 165 = .ok (.iload 4, 2) := by decide +kernel
theorem dL_law_167 : decode cL_law 167 = .ok (.if_icmp .ge 75, 3) := by decide +kernel
theorem dL_law_170 : decode cL_law 170 = .ok (.aload_n 1, 1) := by decide +kernel
theorem dL_law_171 : decode cL_law 171 = .ok (.iload 6, 2) := by decide +kernel
theorem dL_law_173 : decode cL_law 173 = .ok (.iload 11, 2) := by decide +kernel
theorem dL_law_175 : decode cL_law 175 = .ok (.invokevirtual 57, 3) := by decide +kernel
theorem dL_law_178 : decode cL_law 178 = .ok (.istore 12, 2) := by decide +kernel
theorem dL_law_180 : decode cL_law 180 = .ok (.iload 12, 2) := by decide +kernel
theorem dL_law_182 : decode cL_law 182 = .ok (.ifCond .ge 7, 3) := by decide +kernel
theorem dL_law_185 : decode cL_law 185 = .ok (.iconst 1, 1) := by decide +kernel
theorem dL_law_186 : decode cL_law 186 = .ok (.goto 4, 3) := by decide +kernel
theorem dL_law_189 : decode cL_law 189 = .ok (.iconst 0, 1) := by decide +kernel
theorem dL_law_190 : decode cL_law 190 = .ok (.iload 7, 2) := by decide +kernel
theorem dL_law_192 : decode cL_law 192 = .ok (.ifCond .ge 7, 3) := by decide +kernel
theorem dL_law_195 : decode cL_law 195 = .ok (.iconst 1, 1) := by decide +kernel
theorem dL_law_196 : decode cL_law 196 = .ok (.goto 4, 3) := by decide +kernel
theorem dL_law_199 : decode cL_law 199 = .ok (.iconst 0, 1) := by decide +kernel
theorem dL_law_200 : decode cL_law 200 = .ok (.if_icmp .ne 15, 3) := by decide +kernel
theorem dL_law_203 : decode cL_law 203 = .ok (.iload 12, 2) := by decide +kernel
theorem dL_law_205 : decode cL_law 205 = .ok (.aload_n 1, 1) := by decide +kernel
theorem dL_law_206 : decode cL_law 206 = .ok (.iload 11, 2) := by decide +kernel
theorem dL_law_208 : decode cL_law 208 = .ok (.iconst 1, 1) := by decide +kernel
theorem dL_law_209 : decode cL_law 209 = .ok (.invokevirtual 60, 3) := by decide +kernel
theorem dL_law_212 : decode cL_law 212 = .ok (.if_icmp .le 5, 3) := by decide +kernel
theorem dL_law_215 : decode cL_law 215 = .ok (.iconst 0, 1) := by decide +kernel
theorem dL_law_216 : decode cL_law 216 = .ok (.ireturn, 1) := by decide +kernel
theorem dL_law_217 : decode cL_law 217 = .ok (.iload 9, 2) := by decide +kernel
theorem dL_law_219 : decode cL_law 219 = .ok (.iload 12, 2) := by decide +kernel
theorem dL_law_221 : decode cL_law 221 = .ok (.aload_n 2, 1) := by decide +kernel
theorem dL_law_222 : decode cL_law 222 = .ok (.iload 11, 2) := by decide +kernel
theorem dL_law_224 : decode cL_law 224 = .ok (.iaload, 1) := by decide +kernel
theorem dL_law_225 : decode cL_law 225 = .ok (.imul, 1) := by decide +kernel
theorem dL_law_226 : decode cL_law 226 = .ok (.iadd, 1) := by decide +kernel
theorem dL_law_227 : decode cL_law 227 = .ok (.istore 9, 2) := by decide +kernel
theorem dL_law_229 : decode cL_law 229 = .ok (.iload 10, 2) := by decide +kernel
theorem dL_law_231 : decode cL_law 231 = .ok (.iload 12, 2) := by decide +kernel
theorem dL_law_233 : decode cL_law 233 = .ok (.iadd, 1) := by decide +kernel
theorem dL_law_234 : decode cL_law 234 = .ok (.istore 10, 2) := by decide +kernel
theorem dL_law_236 : decode cL_law 236 = .ok (.iinc 11 1, 3) := by decide +kernel
theorem dL_law_239 : decode cL_law 239 = .ok (.goto (-76), 3) := by decide +kernel
theorem dL_law_242 : decode cL_law 242 = .ok (.iload 7, 2) := by decide +kernel
theorem dL_law_244 : decode cL_law 244 = .ok (.ifCond .lt 19, 3) := by decide +kernel
theorem dL_law_247 : decode cL_law 247 = .ok (.iload 9, 2) := by decide +kernel
theorem dL_law_249 : decode cL_law 249 = .ok (.iload 6, 2) := by decide +kernel
theorem dL_law_251 : decode cL_law 251 = .ok (.if_icmp .ne 10, 3) := by decide +kernel
theorem dL_law_254 : decode cL_law 254 = .ok (.iload 10, 2) := by decide +kernel
theorem dL_law_256 : decode cL_law 256 = .ok (.iload 7, 2) := by decide +kernel
theorem dL_law_258 : decode cL_law 258 = .ok (.if_icmp .eq 5, 3) := by decide +kernel
theorem dL_law_261 : decode cL_law 261 = .ok (.iconst 0, 1) := by decide +kernel
theorem dL_law_262 : decode cL_law 262 = .ok (.ireturn, 1) := by decide +kernel
theorem dL_law_263 : decode cL_law 263 = .ok (.aload_n 0, 1) := by decide +kernel
theorem dL_law_264 : decode cL_law 264 = .ok (.iconst 5, 1) := by decide +kernel
theorem dL_law_265 : decode cL_law 265 = .ok (.iload 5, 2) := by decide +kernel
theorem dL_law_267 : decode cL_law 267 = .ok (.iadd, 1) := by decide +kernel
theorem dL_law_268 : decode cL_law 268 = .ok (.invokestatic 9, 3) := by decide +kernel
theorem dL_law_271 : decode cL_law 271 = .ok (.bipush 10, 2) := by decide +kernel
theorem dL_law_273 : decode cL_law 273 = .ok (.ishr, 1) := by decide +kernel
theorem dL_law_274 : decode cL_law 274 = .ok (.iload 4, 2) := by decide +kernel
theorem dL_law_276 : decode cL_law 276 = .ok (.invokestatic 15, 3) := by decide +kernel
theorem dL_law_279 : decode cL_law 279 = .ok (.istore 11, 2) := by decide +kernel
theorem dL_law_281 : decode cL_law 281 = .ok (.aload_n 1, 1) := by decide +kernel
theorem dL_law_282 : decode cL_law 282 = .ok (.iload 6, 2) := by decide +kernel
theorem dL_law_284 : decode cL_law 284 = .ok (.invokevirtual 63, 3) := by decide +kernel
theorem dL_law_287 : decode cL_law 287 = .ok (.istore 12, 2) := by decide +kernel
theorem dL_law_289 : decode cL_law 289 = .ok (.aload_n 1, 1) := by decide +kernel
theorem dL_law_290 : decode cL_law 290 = .ok (.iload 11, 2) := by decide +kernel
theorem dL_law_292 : decode cL_law 292 = .ok (.iconst 1, 1) := by decide +kernel
theorem dL_law_293 : decode cL_law 293 = .ok (.invokevirtual 60, 3) := by decide +kernel
theorem dL_law_296 : decode cL_law 296 = .ok (.aload_n 3, 1) := by decide +kernel
theorem dL_law_297 : decode cL_law 297 = .ok (.iload 11, 2) := by decide +kernel
theorem dL_law_299 : decode cL_law 299 = .ok (.iaload, 1) := by decide +kernel
theorem dL_law_300 : decode cL_law 300 = .ok (.if_icmp .eq 65, 3) := by decide +kernel
theorem dL_law_303 : decode cL_law 303 = .ok (.aload_n 1, 1) := by decide +kernel
theorem dL_law_304 : decode cL_law 304 = .ok (.iload 11, 2) := by decide +kernel
theorem dL_law_306 : decode cL_law 306 = .ok (.iconst 1, 1) := by decide +kernel
theorem dL_law_307 : decode cL_law 307 = .ok (.invokevirtual 29, 3) := by decide +kernel
theorem dL_law_310 : decode cL_law 310 = .ok (.ifCond .eq 6, 3) := by decide +kernel
theorem dL_law_313 : decode cL_law 313 = .ok (.goto 52, 3) := by decide +kernel
theorem dL_law_316 : decode cL_law 316 = .ok (.aload_n 1, 1) := by decide +kernel
theorem dL_law_317 : decode cL_law 317 = .ok (.iload 6, 2) := by decide +kernel
theorem dL_law_319 : decode cL_law 319 = .ok (.invokevirtual 47, 3) := by decide +kernel
theorem dL_law_322 : decode cL_law 322 = .ok (.istore 13, 2) := by decide +kernel
theorem dL_law_324 : decode cL_law 324 = .ok (.iload 7, 2) := by decide +kernel
theorem dL_law_326 : decode cL_law 326 = .ok (.ifCond .lt 15, 3) := by decide +kernel
theorem dL_law_329 : decode cL_law 329 = .ok (.iload 13, 2) := by decide +kernel
theorem dL_law_331 : decode cL_law 331 = .ok (.ifCond .lt 32, 3) := by decide +kernel
theorem dL_law_334 : decode cL_law 334 = .ok (.iload 13, 2) := by decide +kernel
theorem dL_law_336 : decode cL_law 336 = .ok (.iload 7, 2) := by decide +kernel
theorem dL_law_338 : decode cL_law 338 = .ok (.if_icmp .gt 25, 3) := by decide +kernel
theorem dL_law_341 : decode cL_law 341 = .ok (.aload_n 1, 1) := by decide +kernel
theorem dL_law_342 : decode cL_law 342 = .ok (.iload 6, 2) := by decide +kernel
theorem dL_law_344 : decode cL_law 344 = .ok (.invokevirtual 63, 3) := by decide +kernel
theorem dL_law_347 : decode cL_law 347 = .ok (.iload 12, 2) := by decide +kernel
theorem dL_law_349 : decode cL_law 349 = .ok (.if_icmp .gt 14, 3) := by decide +kernel
theorem dL_law_352 : decode cL_law 352 = .ok (.aload_n 1, 1) := by decide +kernel
theorem dL_law_353 : decode cL_law 353 = .ok (.iload 6, 2) := by decide +kernel
theorem dL_law_355 : decode cL_law 355 = .ok (.invokevirtual 51, 3) := by decide +kernel
theorem dL_law_358 : decode cL_law 358 = .ok (.iload 8, 2) := by decide +kernel
theorem dL_law_360 : decode cL_law 360 = .ok (.if_icmp .ge 5, 3) := by decide +kernel
theorem dL_law_363 : decode cL_law 363 = .ok (.iconst 0, 1) := by decide +kernel
theorem dL_law_364 : decode cL_law 364 = .ok (.ireturn, 1) := by decide +kernel
theorem dL_law_365 : decode cL_law 365 = .ok (.iinc 5 1, 3) := by decide +kernel
theorem dL_law_368 : decode cL_law 368 = .ok (.goto (-322), 3) := by decide +kernel
theorem dL_law_371 : decode cL_law 371 = .ok (.iconst 1, 1) := by decide +kernel
theorem dL_law_372 : decode cL_law 372 = .ok (.aload_n 0, 1) := by decide +kernel
theorem dL_law_373 : decode cL_law 373 = .ok (.bipush 11, 2) := by decide +kernel
theorem dL_law_375 : decode cL_law 375 = .ok (.invokestatic 9, 3) := by decide +kernel
theorem dL_law_378 : decode cL_law 378 = .ok (.sipush 200, 3) := by decide +kernel
theorem dL_law_381 : decode cL_law 381 = .ok (.invokestatic 15, 3) := by decide +kernel
theorem dL_law_384 : decode cL_law 384 = .ok (.iadd, 1) := by decide +kernel
theorem dL_law_385 : decode cL_law 385 = .ok (.istore 5, 2) := by decide +kernel
theorem dL_law_387 : decode cL_law 387 = .ok (.aload_n 1, 1) := by decide +kernel
theorem dL_law_388 : decode cL_law 388 = .ok (.iload 5, 2) := by decide +kernel
theorem dL_law_390 : decode cL_law 390 = .ok (.iconst 1, 1) := by decide +kernel
theorem dL_law_391 : decode cL_law 391 = .ok (.invokevirtual 66, 3) := by decide +kernel
theorem dL_law_394 : decode cL_law 394 = .ok (.pop, 1) := by decide +kernel
theorem dL_law_395 : decode cL_law 395 = .ok (.iconst 0, 1) := by decide +kernel
theorem dL_law_396 : decode cL_law 396 = .ok (.istore 6, 2) := by decide +kernel
theorem dL_law_398 : decode cL_law 398 = .ok (.iconst 0, 1) := by decide +kernel
theorem dL_law_399 : decode cL_law 399 = .ok (.istore 7, 2) := by decide +kernel
theorem dL_law_401 : decode cL_law 401 = .ok (.iload 7, 2) := by decide +kernel
theorem dL_law_403 : decode cL_law 403 = .ok (.bipush 8, 2) := by decide +kernel
theorem dL_law_405 : decode cL_law 405 = .ok (.if_icmp .ge 45, 3) := by decide +kernel
theorem dL_law_408 : decode cL_law 408 = .ok (.aload_n 0, 1) := by decide +kernel
theorem dL_law_409 : decode cL_law 409 = .ok (.bipush 12, 2) := by decide +kernel
theorem dL_law_411 : decode cL_law 411 = .ok (.invokestatic 9, 3) := by decide +kernel
theorem dL_law_414 : decode cL_law 414 = .ok (.iconst 3, 1) := by decide +kernel
theorem dL_law_415 : decode cL_law 415 = .ok (.iload 7, 2) := by decide +kernel
theorem dL_law_417 : decode cL_law 417 = .ok (.imul, 1) := by decide +kernel
theorem dL_law_418 : decode cL_law 418 = .ok (.ishr, 1) := by decide +kernel
theorem dL_law_419 : decode cL_law 419 = .ok (.iload 4, 2) := by decide +kernel
theorem dL_law_421 : decode cL_law 421 = .ok (.invokestatic 15, 3) := by decide +kernel
theorem dL_law_424 : decode cL_law 424 = .ok (.istore 8, 2) := by decide +kernel
theorem dL_law_426 : decode cL_law 426 = .ok (.aload_n 1, 1) := by decide +kernel
theorem dL_law_427 : decode cL_law 427 = .ok (.iload 8, 2) := by decide +kernel
theorem dL_law_429 : decode cL_law 429 = .ok (.invokevirtual 69, 3) := by decide +kernel
theorem dL_law_432 : decode cL_law 432 = .ok (.ifCond .ne 12, 3) := by decide +kernel
theorem dL_law_435 : decode cL_law 435 = .ok (.iload 6, 2) := by decide +kernel
theorem dL_law_437 : decode cL_law 437 = .ok (.aload_n 2, 1) := by decide +kernel
theorem dL_law_438 : decode cL_law 438 = .ok (.iload 8, 2) := by decide +kernel
theorem dL_law_440 : decode cL_law 440 = .ok (.iaload, 1) := by decide +kernel
theorem dL_law_441 : decode cL_law 441 = .ok (.iadd, 1) := by decide +kernel
theorem dL_law_442 : decode cL_law 442 = .ok (.istore 6, 2) := by decide +kernel
theorem dL_law_444 : decode cL_law 444 = .ok (.iinc 7 1, 3) := by decide +kernel
theorem dL_law_447 : decode cL_law 447 = .ok (.goto (-46), 3) := by decide +kernel
theorem dL_law_450 : decode cL_law 450 = .ok (.aload_n 1, 1) := by decide +kernel
theorem dL_law_451 : decode cL_law 451 = .ok (.invokevirtual 72, 3) := by decide +kernel
theorem dL_law_454 : decode cL_law 454 = .ok (.lstore 7, 2) := by decide +kernel
theorem dL_law_456 : decode cL_law 456 = .ok (.aload_n 1, 1) := by decide +kernel
theorem dL_law_457 : decode cL_law 457 = .ok (.iconst 0, 1) := by decide +kernel
theorem dL_law_458 : decode cL_law 458 = .ok (.invokevirtual 76, 3) := by decide +kernel
theorem dL_law_461 : decode cL_law 461 = .ok (.istore 9, 2) := by decide +kernel
theorem dL_law_463 : decode cL_law 463 = .ok (.iload 9, 2) := by decide +kernel
theorem dL_law_465 : decode cL_law 465 = .ok (.iconst 1, 1) := by decide +kernel
theorem dL_law_466 : decode cL_law 466 = .ok (.if_icmp .eq 53, 3) := by decide +kernel
theorem dL_law_469 : decode cL_law 469 = .ok (.iload 9, 2) := by decide +kernel
theorem dL_law_471 : decode cL_law 471 = .ok (.iconst 2, 1) := by decide +kernel
theorem dL_law_472 : decode cL_law 472 = .ok (.if_icmp .ne 7, 3) := by decide +kernel
theorem dL_law_475 : decode cL_law 475 = .ok (.iconst 1, 1) := by decide +kernel
theorem dL_law_476 : decode cL_law 476 = .ok (.goto 4, 3) := by decide +kernel
theorem dL_law_479 : decode cL_law 479 = .ok (.iconst 0, 1) := by decide +kernel
theorem dL_law_480 : decode cL_law 480 = .ok (.iload 6, 2) := by decide +kernel
theorem dL_law_482 : decode cL_law 482 = .ok (.iload 5, 2) := by decide +kernel
theorem dL_law_484 : decode cL_law 484 = .ok (.if_icmp .ge 7, 3) := by decide +kernel
theorem dL_law_487 : decode cL_law 487 = .ok (.iconst 1, 1) := by decide +kernel
theorem dL_law_488 : decode cL_law 488 = .ok (.goto 4, 3) := by decide +kernel
theorem dL_law_491 : decode cL_law 491 = .ok (.iconst 0, 1) := by decide +kernel
theorem dL_law_492 : decode cL_law 492 = .ok (.if_icmp .ne 27, 3) := by decide +kernel
theorem dL_law_495 : decode cL_law 495 = .ok (.iload 9, 2) := by decide +kernel
theorem dL_law_497 : decode cL_law 497 = .ok (.ifCond .eq 24, 3) := by decide +kernel
theorem dL_law_500 : decode cL_law 500 = .ok (.aload_n 1, 1) := by decide +kernel
theorem dL_law_501 : decode cL_law 501 = .ok (.invokevirtual 72, 3) := by decide +kernel
theorem dL_law_504 : decode cL_law 504 = .ok (.lload 7, 2) := by decide +kernel
theorem dL_law_506 : decode cL_law 506 = .ok (.lcmp, 1) := by decide +kernel
theorem dL_law_507 : decode cL_law 507 = .ok (.ifCond .ne 12, 3) := by decide +kernel
theorem dL_law_510 : decode cL_law 510 = .ok (.aload_n 1, 1) := by decide +kernel
theorem dL_law_511 : decode cL_law 511 = .ok (.invokevirtual 79, 3) := by decide +kernel
theorem dL_law_514 : decode cL_law 514 = .ok (.iload 6, 2) := by decide +kernel
theorem dL_law_516 : decode cL_law 516 = .ok (.if_icmp .eq 5, 3) := by decide +kernel
theorem dL_law_519 : decode cL_law 519 = .ok (.iconst 0, 1) := by decide +kernel
theorem dL_law_520 : decode cL_law 520 = .ok (.ireturn, 1) := by decide +kernel
theorem dL_law_521 : decode cL_law 521 = .ok (.iload 9, 2) := by decide +kernel
theorem dL_law_523 : decode cL_law 523 = .ok (.ifCond .eq 5, 3) := by decide +kernel
theorem dL_law_526 : decode cL_law 526 = .ok (.iconst 1, 1) := by decide +kernel
theorem dL_law_527 : decode cL_law 527 = .ok (.ireturn, 1) := by decide +kernel
theorem dL_law_528 : decode cL_law 528 = .ok (.iconst 0, 1) := by decide +kernel
theorem dL_law_529 : decode cL_law 529 = .ok (.istore 10, 2) := by decide +kernel
theorem dL_law_531 : decode cL_law 531 = .ok (.iconst 0, 1) := by decide +kernel
theorem dL_law_532 : decode cL_law 532 = .ok (.istore 11, 2) := by decide +kernel
theorem dL_law_534 : decode cL_law 534 = .ok (.iload 11, 2) := by decide +kernel
theorem dL_law_536 : decode cL_law 536 = .ok (.iload 4, 2) := by decide +kernel
theorem dL_law_538 : decode cL_law 538 = .ok (.if_icmp .ge 26, 3) := by decide +kernel
theorem dL_law_541 : decode cL_law 541 = .ok (.iload 10, 2) := by decide +kernel
theorem dL_law_543 : decode cL_law 543 = .ok (.aload_n 1, 1) := by decide +kernel
theorem dL_law_544 : decode cL_law 544 = .ok (.iload 11, 2) := by decide +kernel
theorem dL_law_546 : decode cL_law 546 = .ok (.iconst 3, 1) := by decide +kernel
theorem dL_law_547 : decode cL_law 547 = .ok (.invokevirtual 60, 3) := by decide +kernel
theorem dL_law_550 : decode cL_law 550 = .ok (.aload_n 2, 1) := by decide +kernel
theorem dL_law_551 : decode cL_law 551 = .ok (.iload 11, 2) := by decide +kernel
theorem dL_law_553 : decode cL_law 553 = .ok (.iaload, 1) := by decide +kernel
theorem dL_law_554 : decode cL_law 554 = .ok (.imul, 1) := by decide +kernel
theorem dL_law_555 : decode cL_law 555 = .ok (.iadd, 1) := by decide +kernel
theorem dL_law_556 : decode cL_law 556 = .ok (.istore 10, 2) := by decide +kernel
theorem dL_law_558 : decode cL_law 558 = .ok (.iinc 11 1, 3) := by decide +kernel
theorem dL_law_561 : decode cL_law 561 = .ok (.goto (-27), 3) := by decide +kernel
theorem dL_law_564 : decode cL_law 564 = .ok (.iload 6, 2) := by decide +kernel
theorem dL_law_566 : decode cL_law 566 = .ok (.iload 10, 2) := by decide +kernel
theorem dL_law_568 : decode cL_law 568 = .ok (.isub, 1) := by decide +kernel
theorem dL_law_569 : decode cL_law 569 = .ok (.iload 5, 2) := by decide +kernel
theorem dL_law_571 : decode cL_law 571 = .ok (.if_icmp .ne 44, 3) := by decide +kernel
theorem dL_law_574 : decode cL_law 574 = .ok (.aload_n 1, 1) := by decide +kernel
theorem dL_law_575 : decode cL_law 575 = .ok (.iconst 0, 1) := by decide +kernel
theorem dL_law_576 : decode cL_law 576 = .ok (.invokevirtual 76, 3) := by decide +kernel
theorem dL_law_579 : decode cL_law 579 = .ok (.iconst 1, 1) := by decide +kernel
theorem dL_law_580 : decode cL_law 580 = .ok (.if_icmp .ne 35, 3) := by decide +kernel
theorem dL_law_583 : decode cL_law 583 = .ok (.aload_n 1, 1) := by decide +kernel
theorem dL_law_584 : decode cL_law 584 = .ok (.invokevirtual 79, 3) := by decide +kernel
theorem dL_law_587 : decode cL_law 587 = .ok (.ifCond .ne 28, 3) := by decide +kernel
theorem dL_law_590 : decode cL_law 590 = .ok (.aload_n 1, 1) := by decide +kernel
theorem dL_law_591 : decode cL_law 591 = .ok (.iconst 0, 1) := by decide +kernel
theorem dL_law_592 : decode cL_law 592 = .ok (.invokevirtual 82, 3) := by decide +kernel
theorem dL_law_595 : decode cL_law 595 = .ok (.aload_n 1, 1) := by decide +kernel
theorem dL_law_596 : decode cL_law 596 = .ok (.iconst 2, 1) := by decide +kernel
theorem dL_law_597 : decode cL_law 597 = .ok (.invokevirtual 82, 3) := by decide +kernel
theorem dL_law_600 : decode cL_law 600 = .ok (.lsub, 1) := by decide +kernel
theorem dL_law_601 : decode cL_law 601 = .ok (.aload_n 1, 1) := by decide +kernel
theorem dL_law_602 : decode cL_law 602 = .ok (.bipush 7, 2) := by decide +kernel
theorem dL_law_604 : decode cL_law 604 = .ok (.invokevirtual 82, 3) := by decide +kernel
theorem dL_law_607 : decode cL_law 607 = .ok (.lcmp, 1) := by decide +kernel
theorem dL_law_608 : decode cL_law 608 = .ok (.ifCond .ne 7, 3) := by decide +kernel
theorem dL_law_611 : decode cL_law 611 = .ok (.iconst 1, 1) := by decide +kernel
theorem dL_law_612 : decode cL_law 612 = .ok (.goto 4, 3) := by decide +kernel
theorem dL_law_615 : decode cL_law 615 = .ok (.iconst 0, 1) := by decide +kernel
theorem dL_law_616 : decode cL_law 616 = .ok (.ireturn, 1) := by decide +kernel
end
section
/-! numbers: every int of the two classes is nI of a natural, every score lZ of an integer -/
def un (f : Nat → Nat) (i x : Nat) : Nat → Nat := fun j => if j = i then x else f j
theorem un_s {f : Nat → Nat} {i x : Nat} : un f i x i = x := if_pos rfl
theorem un_n {f : Nat → Nat} {i x j : Nat} (h : j ≠ i) : un f i x j = f j := if_neg h
def uz (f : Nat → Int) (i : Nat) (x : Int) : Nat → Int := fun j => if j = i then x else f j
theorem uz_s {f : Nat → Int} {i : Nat} {x : Int} : uz f i x i = x := if_pos rfl
theorem uz_n {f : Nat → Int} {i j : Nat} {x : Int} (h : j ≠ i) : uz f i x j = f j := if_neg h
def lZ (x : Int) : Int64 := Int64.ofInt x
def rI (f : Nat → Nat) : Nat → Int32 := fun j => nI (f j)
def rL (f : Nat → Int) : Nat → Int64 := fun j => lZ (f j)
theorem rI_up (f : Nat → Nat) (i x : Nat) : upd (rI f) i (nI x) = rI (un f i x) := by
  funext j
  unfold upd rI un
  by_cases h : j = i
  · rw [if_pos h, if_pos h]
  · rw [if_neg h, if_neg h]
theorem rL_up (f : Nat → Int) (i : Nat) (x : Int) : vp_updL (rL f) i (lZ x) = rL (uz f i x) := by
  funext j
  unfold vp_updL rL uz
  by_cases h : j = i
  · rw [if_pos h, if_pos h]
  · rw [if_neg h, if_neg h]
theorem lZ_add (a b : Int) : lZ a + lZ b = lZ (a + b) := (Int64.ofInt_add a b).symm
theorem lZ_mul (a b : Int) : lZ a * lZ b = lZ (a * b) := (Int64.ofInt_mul a b).symm
theorem lZ_neg (a : Int) : - lZ a = lZ (-a) := (Int64.ofInt_neg a).symm
theorem lZ_sub (a b : Int) : lZ a - lZ b = lZ (a - b) := (Int64.ofInt_sub a b).symm
theorem lZ_toInt {a : Int} (h1 : -9223372036854775808 ≤ a) (h2 : a < 9223372036854775808) : (lZ a).toInt = a := by
  unfold lZ
  rw [Int64.toInt_ofInt]
  apply Int.bmod_eq_of_le
  · show -((2 ^ 64 : Nat) : Int) / 2 ≤ a
    have e : -((2 ^ 64 : Nat) : Int) / 2 = -9223372036854775808 := by decide
    rw [e]; exact h1
  · show a < (((2 ^ 64 : Nat) : Int) + 1) / 2
    have e : (((2 ^ 64 : Nat) : Int) + 1) / 2 = 9223372036854775808 := by decide
    rw [e]; exact h2
theorem lZ_lt {a b : Int} (h1 : -9223372036854775808 ≤ a) (h2 : a < 9223372036854775808) (h3 : -9223372036854775808 ≤ b) (h4 : b < 9223372036854775808) : lZ a < lZ b ↔ a < b := by
  rw [Int64.lt_iff_toInt_lt, lZ_toInt h1 h2, lZ_toInt h3 h4]
theorem lZ_eq {a b : Int} (h1 : -9223372036854775808 ≤ a) (h2 : a < 9223372036854775808) (h3 : -9223372036854775808 ≤ b) (h4 : b < 9223372036854775808) : lZ a = lZ b ↔ a = b := by
  rw [← Int64.toInt_inj, lZ_toInt h1 h2, lZ_toInt h3 h4]
theorem nI_lZ {n : Nat} (h : n < 2147483648) : (nI n).toInt64 = lZ (n : Int) := by
  apply Int64.toInt_inj.mp
  rw [Int32.toInt_toInt64, nI_toInt h, lZ_toInt (by omega) (by omega)]
theorem nI_eq32 {a b : Nat} (ha : a < 4294967296) (hb : b < 4294967296) : nI a = nI b ↔ a = b := by
  constructor
  · intro h
    have e := congrArg (fun z : Int32 => z.toBitVec.toNat) h
    simp only [nI, Int32.toBitVec_ofNat', BitVec.toNat_ofNat] at e
    omega
  · intro h; rw [h]
theorem nI_min (a b : Nat) (ha : a < 2147483648) (hb : b < 2147483648) : (if nI b < nI a then nI b else nI a) = nI (min a b) := by
  by_cases h : b < a
  · rw [if_pos ((nI_ltI hb ha).mpr h), Nat.min_eq_right (Nat.le_of_lt h)]
  · rw [if_neg (fun q => h ((nI_ltI hb ha).mp q)), Nat.min_eq_left (by omega)]
theorem lZ_max (a b : Int) (h1 : -9223372036854775808 ≤ a) (h2 : a < 9223372036854775808) (h3 : -9223372036854775808 ≤ b) (h4 : b < 9223372036854775808) : (if lZ b < lZ a then lZ a else lZ b) = lZ (max a b) := by
  by_cases h : b < a
  · rw [if_pos ((lZ_lt h3 h4 h1 h2).mpr h)]
    congr 1; omega
  · rw [if_neg (fun q => h ((lZ_lt h3 h4 h1 h2).mp q))]
    congr 1; omega
theorem nI_out {x : Int32} {n : Nat} (hn : n < 2147483648) (h : ¬ vp_in x n) : x < 0 ∨ nI n ≤ x := by
  by_cases h0 : x < 0
  · exact Or.inl h0
  · right
    obtain ⟨j, hj, rfl⟩ := nI_of h0
    apply nI_le _ hj
    rcases Nat.lt_or_ge j n with q | q
    · exact absurd (vp_in_nI q hn) h
    · exact q
theorem vp_of {x : Int32} {n : Nat} (hn : n < 2147483648) (h0 : ¬ x < 0) (h : ¬ nI n ≤ x) : vp_in x n := by
  obtain ⟨j, hj, rfl⟩ := nI_of h0
  apply vp_in_nI _ hn
  rcases Nat.lt_or_ge j n with q | q
  · exact q
  · exact absurd (nI_le q hj) h
section NR
variable {p : Program} {l : Launch} {e : Env} {R : Room} {s : State} {m : MethodId} {args : Array Value} {below : List Frame} {meth : Method} {c : Code} {H : Heap} {locs : List Loc} {cells slots : Nat} {Q : State → Prop}
variable {cc : ByteArray} {pc : Nat} {ls : Array Slot} {rest : List Value}
theorem n_top {x y : Int32} (h : x = y) (k : W p l e R s m args below meth c H locs cells slots Q (F0 m pc ls (.int y :: rest))) : W p l e R s m args below meth c H locs cells slots Q (F0 m pc ls (.int x :: rest)) := by rw [h]; exact k
theorem n_topl {x y : Int64} (h : x = y) (k : W p l e R s m args below meth c H locs cells slots Q (F0 m pc ls (.long y :: rest))) : W p l e R s m args below meth c H locs cells slots Q (F0 m pc ls (.long x :: rest)) := by rw [h]; exact k
theorem n_iadd (hx : p.tables.exec = Jvm.exec) (hb : c.code = cc) {a b : Nat} (hd : decode cc pc = .ok (.iadd, 1)) (k : W p l e R s m args below meth c H locs cells slots Q (F0 m (pc + 1) ls (.int (nI (a + b)) :: rest))) : W p l e R s m args below meth c H locs cells slots Q (F0 m pc ls (.int (nI b) :: .int (nI a) :: rest)) :=
  lv_iadd hx hb hd (n_top (nI_add a b) k)
theorem n_isub (hx : p.tables.exec = Jvm.exec) (hb : c.code = cc) {a b : Nat} (hle : b ≤ a) (hd : decode cc pc = .ok (.isub, 1)) (k : W p l e R s m args below meth c H locs cells slots Q (F0 m (pc + 1) ls (.int (nI (a - b)) :: rest))) : W p l e R s m args below meth c H locs cells slots Q (F0 m pc ls (.int (nI b) :: .int (nI a) :: rest)) :=
  lv_isub hx hb hd (n_top (pk_sub hle) k)
theorem n_imul (hx : p.tables.exec = Jvm.exec) (hb : c.code = cc) {a b : Nat} (hd : decode cc pc = .ok (.imul, 1)) (k : W p l e R s m args below meth c H locs cells slots Q (F0 m (pc + 1) ls (.int (nI (a * b)) :: rest))) : W p l e R s m args below meth c H locs cells slots Q (F0 m pc ls (.int (nI b) :: .int (nI a) :: rest)) :=
  lv_imul hx hb hd (n_top (pk_mul a b) k)
theorem n_idiv (hx : p.tables.exec = Jvm.exec) (hb : c.code = cc) {a b : Nat} (ha : a < 2147483648) (h0 : 0 < b) (hbb : b < 2147483648) (hd : decode cc pc = .ok (.idiv, 1)) (k : W p l e R s m args below meth c H locs cells slots Q (F0 m (pc + 1) ls (.int (nI (a / b)) :: rest))) : W p l e R s m args below meth c H locs cells slots Q (F0 m pc ls (.int (nI b) :: .int (nI a) :: rest)) :=
  lv_idiv hx hb hd (nI_ne0 h0 hbb) (n_top (pk_div ha h0 hbb) k)
theorem n_irem (hx : p.tables.exec = Jvm.exec) (hb : c.code = cc) {a b : Nat} (ha : a < 2147483648) (h0 : 0 < b) (hbb : b < 2147483648) (hd : decode cc pc = .ok (.irem, 1)) (k : W p l e R s m args below meth c H locs cells slots Q (F0 m (pc + 1) ls (.int (nI (a % b)) :: rest))) : W p l e R s m args below meth c H locs cells slots Q (F0 m pc ls (.int (nI b) :: .int (nI a) :: rest)) :=
  lv_irem hx hb hd (nI_ne0 h0 hbb) (n_top (pk_rem ha h0 hbb) k)
theorem n_ladd (hx : p.tables.exec = Jvm.exec) (hb : c.code = cc) {a b : Int} (hd : decode cc pc = .ok (.ladd, 1)) (k : W p l e R s m args below meth c H locs cells slots Q (F0 m (pc + 1) ls (.long (lZ (a + b)) :: rest))) : W p l e R s m args below meth c H locs cells slots Q (F0 m pc ls (.long (lZ b) :: .long (lZ a) :: rest)) :=
  lv_ladd hx hb hd (n_topl (lZ_add a b) k)
theorem n_lmul (hx : p.tables.exec = Jvm.exec) (hb : c.code = cc) {a b : Int} (hd : decode cc pc = .ok (.lmul, 1)) (k : W p l e R s m args below meth c H locs cells slots Q (F0 m (pc + 1) ls (.long (lZ (a * b)) :: rest))) : W p l e R s m args below meth c H locs cells slots Q (F0 m pc ls (.long (lZ b) :: .long (lZ a) :: rest)) :=
  lv_lmul hx hb hd (n_topl (lZ_mul a b) k)
theorem n_i2l (hx : p.tables.exec = Jvm.exec) (hb : c.code = cc) {a : Nat} (ha : a < 2147483648) (hd : decode cc pc = .ok (.i2l, 1)) (k : W p l e R s m args below meth c H locs cells slots Q (F0 m (pc + 1) ls (.long (lZ (a : Int)) :: rest))) : W p l e R s m args below meth c H locs cells slots Q (F0 m pc ls (.int (nI a) :: rest)) :=
  lv_i2l hx hb hd (nI_lZ ha) k
theorem n_icmp_lt (hx : p.tables.exec = Jvm.exec) (hb : c.code = cc) {a b : Nat} {off : Int} {tgt : Nat} (ha : a < 2147483648) (hbb : b < 2147483648) (hd : decode cc pc = .ok (.if_icmp .lt off, 3)) (ht : (pc : Int) + off = (tgt : Int)) (kt : a < b → W p l e R s m args below meth c H locs cells slots Q (F0 m tgt ls rest)) (kf : b ≤ a → W p l e R s m args below meth c H locs cells slots Q (F0 m (pc + 3) ls rest)) : W p l e R s m args below meth c H locs cells slots Q (F0 m pc ls (.int (nI b) :: .int (nI a) :: rest)) :=
  lv_icmp_lt hx hb hd ht (fun h => kt ((nI_ltI ha hbb).mp h)) (fun h => kf (Nat.le_of_not_lt fun q => h ((nI_ltI ha hbb).mpr q)))
theorem n_icmp_ge (hx : p.tables.exec = Jvm.exec) (hb : c.code = cc) {a b : Nat} {off : Int} {tgt : Nat} (ha : a < 2147483648) (hbb : b < 2147483648) (hd : decode cc pc = .ok (.if_icmp .ge off, 3)) (ht : (pc : Int) + off = (tgt : Int)) (kt : b ≤ a → W p l e R s m args below meth c H locs cells slots Q (F0 m tgt ls rest)) (kf : a < b → W p l e R s m args below meth c H locs cells slots Q (F0 m (pc + 3) ls rest)) : W p l e R s m args below meth c H locs cells slots Q (F0 m pc ls (.int (nI b) :: .int (nI a) :: rest)) :=
  lv_icmp_ge hx hb hd ht (fun h => kt ((nI_leI hbb ha).mp h)) (fun h => kf (Nat.lt_of_not_le fun q => h ((nI_leI hbb ha).mpr q)))
theorem n_icmp_gt (hx : p.tables.exec = Jvm.exec) (hb : c.code = cc) {a b : Nat} {off : Int} {tgt : Nat} (ha : a < 2147483648) (hbb : b < 2147483648) (hd : decode cc pc = .ok (.if_icmp .gt off, 3)) (ht : (pc : Int) + off = (tgt : Int)) (kt : b < a → W p l e R s m args below meth c H locs cells slots Q (F0 m tgt ls rest)) (kf : a ≤ b → W p l e R s m args below meth c H locs cells slots Q (F0 m (pc + 3) ls rest)) : W p l e R s m args below meth c H locs cells slots Q (F0 m pc ls (.int (nI b) :: .int (nI a) :: rest)) :=
  lv_icmp_gt hx hb hd ht (fun h => kt ((nI_ltI hbb ha).mp h)) (fun h => kf (Nat.le_of_not_lt fun q => h ((nI_ltI hbb ha).mpr q)))
theorem n_icmp_le (hx : p.tables.exec = Jvm.exec) (hb : c.code = cc) {a b : Nat} {off : Int} {tgt : Nat} (ha : a < 2147483648) (hbb : b < 2147483648) (hd : decode cc pc = .ok (.if_icmp .le off, 3)) (ht : (pc : Int) + off = (tgt : Int)) (kt : a ≤ b → W p l e R s m args below meth c H locs cells slots Q (F0 m tgt ls rest)) (kf : b < a → W p l e R s m args below meth c H locs cells slots Q (F0 m (pc + 3) ls rest)) : W p l e R s m args below meth c H locs cells slots Q (F0 m pc ls (.int (nI b) :: .int (nI a) :: rest)) :=
  lv_icmp_le hx hb hd ht (fun h => kt ((nI_leI ha hbb).mp h)) (fun h => kf (Nat.lt_of_not_le fun q => h ((nI_leI ha hbb).mpr q)))
theorem n_icmp_eq (hx : p.tables.exec = Jvm.exec) (hb : c.code = cc) {a b : Nat} {off : Int} {tgt : Nat} (ha : a < 4294967296) (hbb : b < 4294967296) (hd : decode cc pc = .ok (.if_icmp .eq off, 3)) (ht : (pc : Int) + off = (tgt : Int)) (kt : a = b → W p l e R s m args below meth c H locs cells slots Q (F0 m tgt ls rest)) (kf : a ≠ b → W p l e R s m args below meth c H locs cells slots Q (F0 m (pc + 3) ls rest)) : W p l e R s m args below meth c H locs cells slots Q (F0 m pc ls (.int (nI b) :: .int (nI a) :: rest)) :=
  lv_icmp_eq hx hb hd ht (fun h => kt ((nI_eq32 ha hbb).mp h)) (fun h => kf (fun q => h ((nI_eq32 ha hbb).mpr q)))
theorem n_icmp_ne (hx : p.tables.exec = Jvm.exec) (hb : c.code = cc) {a b : Nat} {off : Int} {tgt : Nat} (ha : a < 4294967296) (hbb : b < 4294967296) (hd : decode cc pc = .ok (.if_icmp .ne off, 3)) (ht : (pc : Int) + off = (tgt : Int)) (kt : a ≠ b → W p l e R s m args below meth c H locs cells slots Q (F0 m tgt ls rest)) (kf : a = b → W p l e R s m args below meth c H locs cells slots Q (F0 m (pc + 3) ls rest)) : W p l e R s m args below meth c H locs cells slots Q (F0 m pc ls (.int (nI b) :: .int (nI a) :: rest)) :=
  lv_icmp_ne hx hb hd ht (fun h => kt (fun q => h ((nI_eq32 ha hbb).mpr q))) (fun h => kf ((nI_eq32 ha hbb).mp h))
theorem n_if_eq (hx : p.tables.exec = Jvm.exec) (hb : c.code = cc) {a : Nat} {off : Int} {tgt : Nat} (ha : a < 4294967296) (hd : decode cc pc = .ok (.ifCond .eq off, 3)) (ht : (pc : Int) + off = (tgt : Int)) (kt : a = 0 → W p l e R s m args below meth c H locs cells slots Q (F0 m tgt ls rest)) (kf : a ≠ 0 → W p l e R s m args below meth c H locs cells slots Q (F0 m (pc + 3) ls rest)) : W p l e R s m args below meth c H locs cells slots Q (F0 m pc ls (.int (nI a) :: rest)) :=
  lv_if_eq hx hb hd ht (fun h => kt ((nI_eq32 ha (by decide)).mp (h.trans nI_0.symm))) (fun h => kf (fun q => h (by rw [q]; exact nI_0)))
theorem n_if_ne (hx : p.tables.exec = Jvm.exec) (hb : c.code = cc) {a : Nat} {off : Int} {tgt : Nat} (ha : a < 4294967296) (hd : decode cc pc = .ok (.ifCond .ne off, 3)) (ht : (pc : Int) + off = (tgt : Int)) (kt : a ≠ 0 → W p l e R s m args below meth c H locs cells slots Q (F0 m tgt ls rest)) (kf : a = 0 → W p l e R s m args below meth c H locs cells slots Q (F0 m (pc + 3) ls rest)) : W p l e R s m args below meth c H locs cells slots Q (F0 m pc ls (.int (nI a) :: rest)) :=
  lv_if_ne hx hb hd ht (fun h => kt (fun q => h (by rw [q]; exact nI_0))) (fun h => kf ((nI_eq32 ha (by decide)).mp (h.trans nI_0.symm)))
theorem n_if_le (hx : p.tables.exec = Jvm.exec) (hb : c.code = cc) {a : Nat} {off : Int} {tgt : Nat} (ha : a < 2147483648) (hd : decode cc pc = .ok (.ifCond .le off, 3)) (ht : (pc : Int) + off = (tgt : Int)) (kt : a = 0 → W p l e R s m args below meth c H locs cells slots Q (F0 m tgt ls rest)) (kf : 0 < a → W p l e R s m args below meth c H locs cells slots Q (F0 m (pc + 3) ls rest)) : W p l e R s m args below meth c H locs cells slots Q (F0 m pc ls (.int (nI a) :: rest)) :=
  lv_if_le hx hb hd ht (fun h => kt (Nat.eq_zero_of_le_zero (Nat.le_of_not_lt fun q => nI_nle q ha h))) (fun h => kf (Nat.pos_of_ne_zero fun q => h (by rw [q]; exact nI_le (Nat.le_refl 0) (by decide))))
theorem n_if_gt (hx : p.tables.exec = Jvm.exec) (hb : c.code = cc) {a : Nat} {off : Int} {tgt : Nat} (ha : a < 2147483648) (hd : decode cc pc = .ok (.ifCond .gt off, 3)) (ht : (pc : Int) + off = (tgt : Int)) (kt : 0 < a → W p l e R s m args below meth c H locs cells slots Q (F0 m tgt ls rest)) (kf : a = 0 → W p l e R s m args below meth c H locs cells slots Q (F0 m (pc + 3) ls rest)) : W p l e R s m args below meth c H locs cells slots Q (F0 m pc ls (.int (nI a) :: rest)) :=
  lv_if_gt hx hb hd ht (fun h => kt (Nat.pos_of_ne_zero fun q => by rw [q, nI_0] at h; exact absurd h (by decide))) (fun h => kf (Nat.eq_zero_of_le_zero (Nat.le_of_not_lt fun q => h (by have z := nI_lt q ha; rwa [nI_0] at z))))
theorem n_if_lt (hx : p.tables.exec = Jvm.exec) (hb : c.code = cc) {a : Nat} {off : Int} {tgt : Nat} (ha : a < 2147483648) (hd : decode cc pc = .ok (.ifCond .lt off, 3)) (ht : (pc : Int) + off = (tgt : Int)) (kf : W p l e R s m args below meth c H locs cells slots Q (F0 m (pc + 3) ls rest)) : W p l e R s m args below meth c H locs cells slots Q (F0 m pc ls (.int (nI a) :: rest)) :=
  lv_if_lt hx hb hd ht (fun h => absurd h (nI_pos ha)) (fun _ => kf)
theorem n_if_ge (hx : p.tables.exec = Jvm.exec) (hb : c.code = cc) {a : Nat} {off : Int} {tgt : Nat} (ha : a < 2147483648) (hd : decode cc pc = .ok (.ifCond .ge off, 3)) (ht : (pc : Int) + off = (tgt : Int)) (kt : W p l e R s m args below meth c H locs cells slots Q (F0 m tgt ls rest)) : W p l e R s m args below meth c H locs cells slots Q (F0 m pc ls (.int (nI a) :: rest)) :=
  lv_if_ge hx hb hd ht (fun _ => kt) (fun h => absurd (nI_pos' ha) h)
/-- lcmp and the branch behind it -/
theorem n_lcmp_eq (hx : p.tables.exec = Jvm.exec) (hb : c.code = cc) {x y : Int64} {off : Int} {tgt : Nat} (hd : decode cc pc = .ok (.lcmp, 1)) (hd2 : decode cc (pc + 1) = .ok (.ifCond .eq off, 3)) (ht : ((pc + 1 : Nat) : Int) + off = (tgt : Int)) (kt : x = y → W p l e R s m args below meth c H locs cells slots Q (F0 m tgt ls rest)) (kf : x ≠ y → W p l e R s m args below meth c H locs cells slots Q (F0 m (pc + 1 + 3) ls rest)) : W p l e R s m args below meth c H locs cells slots Q (F0 m pc ls (.long y :: .long x :: rest)) :=
  W.lcmp hx hb hd (lv_if_eq hx hb hd2 ht (fun h => kt ((lg_cmp_eq x y).mp h)) (fun h => kf (fun q => h ((lg_cmp_eq x y).mpr q))))
theorem n_lcmp_ne (hx : p.tables.exec = Jvm.exec) (hb : c.code = cc) {x y : Int64} {off : Int} {tgt : Nat} (hd : decode cc pc = .ok (.lcmp, 1)) (hd2 : decode cc (pc + 1) = .ok (.ifCond .ne off, 3)) (ht : ((pc + 1 : Nat) : Int) + off = (tgt : Int)) (kt : x ≠ y → W p l e R s m args below meth c H locs cells slots Q (F0 m tgt ls rest)) (kf : x = y → W p l e R s m args below meth c H locs cells slots Q (F0 m (pc + 1 + 3) ls rest)) : W p l e R s m args below meth c H locs cells slots Q (F0 m pc ls (.long y :: .long x :: rest)) :=
  W.lcmp hx hb hd (lv_if_ne hx hb hd2 ht (fun h => kt (fun q => h ((lg_cmp_eq x y).mpr q))) (fun h => kf ((lg_cmp_eq x y).mp h)))
variable {D : va_G} {cl : List vw_C} {A : Nat → Prop} {a : Nat} {tys : List (ClassId × FieldType)} {ws ws' : va_W} {H0 : Heap}
theorem n_iald (hx : p.tables.exec = Jvm.exec) (hb : c.code = cc) (hK : va_K D cl tys s) (hP : va_P D cl ws H) (q0 t0 : Nat) {cA : ClassId} {n : Nat} {f : Nat → Nat} (ha : ws[q0]? = some (a, .inl (cA, n, .inl (rI f)))) (ht : tys[t0]? = some (cA, .int)) {i : Nat} (hi : i < n) (hn : n < 2147483648) (hd : decode cc pc = .ok (.iaload, 1)) (kk : W p l e R s m args below meth c H locs cells slots Q (F0 m (pc + 1) ls (.int (nI (f i)) :: rest))) : W p l e R s m args below meth c H locs cells slots Q (F0 m pc ls (.int (nI i) :: .ref a :: rest)) :=
  va_iald hx hb hK hP q0 t0 ha ht (vp_in_nI hi hn) hd (n_top (by rw [nI_clamp (Nat.lt_trans hi hn)]; rfl) kk)
theorem n_zald (hx : p.tables.exec = Jvm.exec) (hb : c.code = cc) (hK : va_K D cl tys s) (hP : va_P D cl ws H) (q0 t0 : Nat) {cA : ClassId} {n : Nat} {f : Nat → Nat} (ha : ws[q0]? = some (a, .inl (cA, n, .inl (rI f)))) (ht : tys[t0]? = some (cA, .boolean)) {i : Nat} (hi : i < n) (hn : n < 2147483648) (hd : decode cc pc = .ok (.baload, 1)) (kk : W p l e R s m args below meth c H locs cells slots Q (F0 m (pc + 1) ls (.int (nI (f i)) :: rest))) : W p l e R s m args below meth c H locs cells slots Q (F0 m pc ls (.int (nI i) :: .ref a :: rest)) :=
  va_zald hx hb hK hP q0 t0 ha ht (vp_in_nI hi hn) hd (n_top (by rw [nI_clamp (Nat.lt_trans hi hn)]; rfl) kk)
theorem n_lald (hx : p.tables.exec = Jvm.exec) (hb : c.code = cc) (hK : va_K D cl tys s) (hP : va_P D cl ws H) (q0 t0 : Nat) {cA : ClassId} {n : Nat} {f : Nat → Int64} (ha : ws[q0]? = some (a, .inl (cA, n, .inr (.inl f)))) (ht : tys[t0]? = some (cA, .long)) {i : Nat} (hi : i < n) (hn : n < 2147483648) (hd : decode cc pc = .ok (.laload, 1)) (kk : W p l e R s m args below meth c H locs cells slots Q (F0 m (pc + 1) ls (.long (f i) :: rest))) : W p l e R s m args below meth c H locs cells slots Q (F0 m pc ls (.int (nI i) :: .ref a :: rest)) :=
  va_lald hx hb hK hP q0 t0 ha ht (vp_in_nI hi hn) hd (n_topl (by rw [nI_clamp (Nat.lt_trans hi hn)]) kk)
theorem n_sald (hx : p.tables.exec = Jvm.exec) (hb : c.code = cc) (hK : va_K D cl tys s) (hP : va_P D cl ws H) (q0 t0 : Nat) {cA : ClassId} {n : Nat} {f : Nat → Int} (ha : ws[q0]? = some (a, .inl (cA, n, .inr (.inl (rL f))))) (ht : tys[t0]? = some (cA, .long)) {i : Nat} (hi : i < n) (hn : n < 2147483648) (hd : decode cc pc = .ok (.laload, 1)) (kk : W p l e R s m args below meth c H locs cells slots Q (F0 m (pc + 1) ls (.long (lZ (f i)) :: rest))) : W p l e R s m args below meth c H locs cells slots Q (F0 m pc ls (.int (nI i) :: .ref a :: rest)) :=
  n_lald hx hb hK hP q0 t0 ha ht hi hn hd kk
theorem n_iast (hx : p.tables.exec = Jvm.exec) (hb : c.code = cc) (hK : va_K D cl tys s) (hP : va_P D cl ws H) (hD : va_D A ws) (hS : va_S A H0 H locs) (q0 t0 : Nat) {cA : ClassId} {n : Nat} {f : Nat → Nat} (ha : ws[q0]? = some (a, .inl (cA, n, .inl (rI f)))) (ht : tys[t0]? = some (cA, .int)) {i x : Nat} (hi : i < n) (hn : n < 2147483648) (hw : ws.set q0 (a, .inl (cA, n, .inl (rI (un f i x)))) = ws') (hd : decode cc pc = .ok (.iastore, 1)) (kk : ∀ (H1 : Heap) (locs1 : List Loc), va_P D cl ws' H1 → va_D A ws' → va_S A H0 H1 locs1 → W p l e R s m args below meth c H1 locs1 cells slots Q (F0 m (pc + 1) ls rest)) : W p l e R s m args below meth c H locs cells slots Q (F0 m pc ls (.int (nI x) :: .int (nI i) :: .ref a :: rest)) := by
  refine va_iast hx hb hK hP hD hS q0 t0 ha ht (vp_in_nI hi hn) hd (fun H1 locs1 h1 h2 h3 => ?_)
  rw [nI_clamp (Nat.lt_trans hi hn), rI_up, hw] at h1 h2
  exact kk H1 locs1 h1 h2 h3
theorem n_last (hx : p.tables.exec = Jvm.exec) (hb : c.code = cc) (hK : va_K D cl tys s) (hP : va_P D cl ws H) (hD : va_D A ws) (hS : va_S A H0 H locs) (q0 t0 : Nat) {cA : ClassId} {n : Nat} {f : Nat → Int64} (ha : ws[q0]? = some (a, .inl (cA, n, .inr (.inl f)))) (ht : tys[t0]? = some (cA, .long)) {i : Nat} {x : Int64} (hi : i < n) (hn : n < 2147483648) (hw : ws.set q0 (a, .inl (cA, n, .inr (.inl (vp_updL f i x)))) = ws') (hd : decode cc pc = .ok (.lastore, 1)) (kk : ∀ (H1 : Heap) (locs1 : List Loc), va_P D cl ws' H1 → va_D A ws' → va_S A H0 H1 locs1 → W p l e R s m args below meth c H1 locs1 cells slots Q (F0 m (pc + 1) ls rest)) : W p l e R s m args below meth c H locs cells slots Q (F0 m pc ls (.long x :: .int (nI i) :: .ref a :: rest)) := by
  refine va_last hx hb hK hP hD hS q0 t0 ha ht (vp_in_nI hi hn) hd (fun H1 locs1 h1 h2 h3 => ?_)
  rw [nI_clamp (Nat.lt_trans hi hn), hw] at h1 h2
  exact kk H1 locs1 h1 h2 h3
theorem n_sast (hx : p.tables.exec = Jvm.exec) (hb : c.code = cc) (hK : va_K D cl tys s) (hP : va_P D cl ws H) (hD : va_D A ws) (hS : va_S A H0 H locs) (q0 t0 : Nat) {cA : ClassId} {n : Nat} {f : Nat → Int} (ha : ws[q0]? = some (a, .inl (cA, n, .inr (.inl (rL f))))) (ht : tys[t0]? = some (cA, .long)) {i : Nat} {x : Int} (hi : i < n) (hn : n < 2147483648) (hw : ws.set q0 (a, .inl (cA, n, .inr (.inl (rL (uz f i x))))) = ws') (hd : decode cc pc = .ok (.lastore, 1)) (kk : ∀ (H1 : Heap) (locs1 : List Loc), va_P D cl ws' H1 → va_D A ws' → va_S A H0 H1 locs1 → W p l e R s m args below meth c H1 locs1 cells slots Q (F0 m (pc + 1) ls rest)) : W p l e R s m args below meth c H locs cells slots Q (F0 m pc ls (.long (lZ x) :: .int (nI i) :: .ref a :: rest)) := by
  refine n_last hx hb hK hP hD hS q0 t0 ha ht hi hn (by rw [rL_up]; exact hw) hd kk
end NR
end
section
abbrev vwCl : List vw_C := [(RX0, TX0, 18)]
/-! what every method of CoinMechanism is begun with: the strings, the exceptions' classes, Throwable's two statics -/
def eIA : String := "java/lang/IllegalArgumentException"
def eIS : String := "java/lang/IllegalStateException"
def eIB : String := "java/lang/IndexOutOfBoundsException"
def strs : List (Nat × String) := [(69, "value is not 1 to 500"), (74, "capacity is not 0 to 60"), (78, "there are 8 kinds"), (85, "a kind has this value"), (106, "there are 10 products"), (149, "what is not 0 to 3"), (174, "what is not 0 to 9"), (184, "no such kind"), (186, "no such product"), (188, "many is not 0 to 60"), (190, "price is not 1 to 2000"), (192, "stock is not 0 to 99"), (194, "amount is not 0 to 2000")]
def iRE : MethodName := ⟨"java/lang/RuntimeException", "<init>", "(Ljava/lang/String;)V"⟩
def iEX : MethodName := ⟨"java/lang/Exception", "<init>", "(Ljava/lang/String;)V"⟩
def iTH : MethodName := ⟨"java/lang/Throwable", "<init>", "(Ljava/lang/String;)V"⟩
def gg (U : State) : Prop := (∀ q ∈ strs, ∃ a, vk_R RX0 q.1 q.2 a U) ∧ va_Nw (.castable eIA eIA) U ∧ va_Nw (.castable eIS eIS) U ∧ va_Nw (.castable eIB eIB) U ∧ va_Nw (.declares iRE) U ∧ va_Nw (.declares iEX) U ∧ va_Nw (.declares iTH) U ∧ True
theorem gg.same {u U : State} (hv : U.vm = u.vm) (h : gg u) : gg U :=
  ⟨fun q hq => by obtain ⟨a, ha⟩ := h.1 q hq; exact ⟨a, ha.same hv⟩, va_Nw.same rfl hv.symm h.2.1, va_Nw.same rfl hv.symm h.2.2.1, va_Nw.same rfl hv.symm h.2.2.2.1, va_Nw.same rfl hv.symm h.2.2.2.2.1, va_Nw.same rfl hv.symm h.2.2.2.2.2.1, va_Nw.same rfl hv.symm h.2.2.2.2.2.2.1, trivial⟩
theorem gg.warm {s U : State} (hW : s.WarmedH U.vm) (h : gg s) : gg U :=
  ⟨fun q hq => by obtain ⟨a, ha⟩ := h.1 q hq; exact ⟨a, ha.warm hW⟩, va_Nw.warmC hW h.2.1, va_Nw.warmC hW h.2.2.1, va_Nw.warmC hW h.2.2.2.1, va_Nw.warmD hW h.2.2.2.2.1, va_Nw.warmD hW h.2.2.2.2.2.1, va_Nw.warmD hW h.2.2.2.2.2.2.1, trivial⟩
def zz (A : Nat → Prop) (U : State) (H : Heap) : Prop := vx_Zq Bundle.tN "UNASSIGNED_STACK" Bundle.steD A U H ∧ vx_Zq Bundle.tN "SUPPRESSED_SENTINEL" Bundle.listD A U H
theorem zz.moved {A : Nat → Prop} {u U : State} {H : Heap} (hvm : u.vm.Alike U.vm) (h : zz A u H) : zz A U H := ⟨h.1.moved hvm, h.2.moved hvm⟩
theorem zz.kept {A : Nat → Prop} {U : State} {H H1 : Heap} (h : zz A U H) (hq : ∀ a : Nat, a < H.size → ¬ A a → H1[a]? = H[a]?) : zz A U H1 := ⟨h.1.kept hq, h.2.kept hq⟩
theorem zz.narrow {A B : Nat → Prop} {U : State} {H : Heap} (h : zz A U H) (hAB : ∀ q, B q → A q) : zz B U H := ⟨h.1.narrow hAB, h.2.narrow hAB⟩
/-- a method's start: the world ws, sz cells in the heap -/
def cxP (D : va_G) (tys : List (ClassId × FieldType)) (ws : va_W) (sz : Nat) (U : State) : Prop :=
  U.heap.size = sz ∧ va_P D vwCl ws U.heap ∧ va_K D vwCl tys U ∧ va_D (fun _ => True) ws ∧ zz (va_A ws sz) U U.heap ∧ gg U
theorem cxP.blind {D : va_G} {tys : List (ClassId × FieldType)} {ws : va_W} {sz : Nat} {av : List Value} : FrameBlind (va_Pc av (cxP D tys ws sz)) := by
  intro a U g mk h
  obtain ⟨h1, h2, h3, h4, h5, h6, h7⟩ := h
  exact ⟨h1, h2, h3, va_K.moved (u := U) (U := U.calling g mk a) (Vm.Alike.refl U.vm) h4, h5, zz.moved (u := U) (U := U.calling g mk a) (Vm.Alike.refl U.vm) h6, gg.same (u := U) (U := U.calling g mk a) rfl h7⟩
theorem cxP.give {D : va_G} {tys : List (ClassId × FieldType)} {wc : va_W} {A : Nat → Prop} {s U : State} {H : Heap} {locs : List Loc} (hP : va_P D vwCl wc H) (hK : va_K D vwCl tys s) (hD : va_D A wc) (hS : va_S A s.heap H locs) (hF : ∀ q, va_A wc H.size q → A q) (hZ : zz A s s.heap) (hg : gg s) (hU : U.heap = H) (hW : s.WarmedH U.vm) : cxP D tys wc H.size U := by
  subst hU
  exact ⟨rfl, hP, va_K.moved hW.alike hK, hD.weaken (fun _ _ _ _ => trivial), ((hZ.kept (fun a h1 h2 => hS.2.1 a h1 h2)).narrow hF).moved hW.alike, hg.warm hW⟩
/-- what a method leaves: a world, of the same kind of cells -/
abbrev bW {S : Type} (D : va_G) (A : Nat → Prop) (Wf : S → va_W) : S → State → Prop := fun u t => va_P D vwCl (Wf u) t.heap ∧ va_D A (Wf u)
/-- .. where it throws: the world as it was -/
abbrev xX (D : va_G) (pe : String → Prop) (ws : va_W) (A : Nat → Prop) : String → State → State → Prop := vx_X (fun _ : Unit => True) (fun E _ t => pe E ∧ va_P D vwCl ws t.heap ∧ va_D A ws) A
theorem free_all {A0 : Nat → Prop} {ws : va_W} {H0 H : Heap} {locs : List Loc} (hD : va_D A0 ws) (hS : va_S A0 H0 H locs) (hA : ∀ q, H0.size ≤ q → A0 q) : ∀ q, va_A ws H.size q → A0 q := by
  intro q h
  rcases h with ⟨k, e, h⟩ | h
  · exact hD.2 k _ h
  · exact hA q (Nat.le_trans hS.1 h)
section KC
variable {p : Program} {l : Launch} {e : Env} {R : Room} {s : State} {m : MethodId} {args : Array Value} {below : List Frame} {meth : Method} {c : Code} {H : Heap} {locs : List Loc} {cells slots : Nat} {Q : State → Prop}
variable {y : MethodName} {bytes cc : ByteArray} {maxL nL mc ms n index pc : Nat} {ret : Option FieldType} {wsy : List Cond} {rm : Room} {Ts : List Cond} {own C : String} {b : Addr} {As rest st0 : List Value} {ls : Array Slot} {D : va_G} {tys : List (ClassId × FieldType)} {wc : va_W} {A : Nat → Prop} {S : Type} {Wf : S → va_W}
variable {Qc : Array Value → State → Outcome → State → Prop} {XC : String → State → State → Prop}
/-- a call on the whole world: what the caller hands -/
theorem pre_V (hP : va_P D vwCl wc H) (hK : va_K D vwCl tys s) (hD : va_D A wc) (hS : va_S A s.heap H locs) (hA : ∀ q, s.heap.size ≤ q → A q) (hZ : zz A s s.heap) (hg : gg s) (q0 : Nat) {ci : Nat} {fs : List Value} {q : vw_C} (hc : vwCl[ci]? = some q) (he : wc[q0]? = some (b, .inr (ci, fs))) : PreV s H q.1 b (va_Pc (.ref b :: As) (cxP D tys wc H.size)) As :=
  ⟨cxP.blind, va_recv hK hP hc he, fun _ hU hW => ⟨rfl, cxP.give hP hK hD hS (free_all hD hS hA) hZ hg hU hW⟩⟩
theorem pre_S (hP : va_P D vwCl wc H) (hK : va_K D vwCl tys s) (hD : va_D A wc) (hS : va_S A s.heap H locs) (hA : ∀ q, s.heap.size ≤ q → A q) (hZ : zz A s s.heap) (hg : gg s) : PreS s H (va_Pc As (cxP D tys wc H.size)) As :=
  ⟨cxP.blind, fun _ hU hW => ⟨rfl, cxP.give hP hK hD hS (free_all hD hS hA) hZ hg hU hW⟩⟩
/-- .. and what comes back -/
theorem k_i {post : Int32 → S → Prop} {a : Array Value} (hr : va_Run p l e R s m args below meth c H locs cells slots mc ms (F0 m pc ls st0) rest (va_Qi post (bW D (va_A wc H.size) Wf) (va_A wc H.size) a) (va_A wc H.size)) (hD : va_D A wc) (hS : va_S A s.heap H locs) (hA : ∀ q, s.heap.size ≤ q → A q) (kk : ∀ (r : Int32) (u : S) (H1 : Heap) (locs1 : List Loc), post r u → va_P D vwCl (Wf u) H1 → va_D A (Wf u) → va_S A s.heap H1 locs1 → W p l e R s m args below meth c H1 locs1 (cells + mc) (slots + ms) Q (F0 m (pc + 3) ls (.int r :: rest))) : W p l e R s m args below meth c H locs cells slots Q (F0 m pc ls st0) :=
  va_calli hr hS (fun q _ h => free_all hD hS hA q h) (free_all hD hS hA) (fun r u t H1 locs1 ht _ hp hB _ _ hS1 => kk r u H1 locs1 hp (ht ▸ hB.1) (hB.2.weaken (fun _ q _ h => free_all hD hS hA q.1 h)) hS1)
theorem k_l {post : Int64 → S → Prop} {a : Array Value} (hr : va_Run p l e R s m args below meth c H locs cells slots mc ms (F0 m pc ls st0) rest (va_Ql post (bW D (va_A wc H.size) Wf) (va_A wc H.size) a) (va_A wc H.size)) (hD : va_D A wc) (hS : va_S A s.heap H locs) (hA : ∀ q, s.heap.size ≤ q → A q) (kk : ∀ (r : Int64) (u : S) (H1 : Heap) (locs1 : List Loc), post r u → va_P D vwCl (Wf u) H1 → va_D A (Wf u) → va_S A s.heap H1 locs1 → W p l e R s m args below meth c H1 locs1 (cells + mc) (slots + ms) Q (F0 m (pc + 3) ls (.long r :: rest))) : W p l e R s m args below meth c H locs cells slots Q (F0 m pc ls st0) :=
  va_calll hr hS (fun q _ h => free_all hD hS hA q h) (free_all hD hS hA) (fun r u t H1 locs1 ht _ hp hB _ _ hS1 => kk r u H1 locs1 hp (ht ▸ hB.1) (hB.2.weaken (fun _ q _ h => free_all hD hS hA q.1 h)) hS1)
theorem k_v {post : S → Prop} {a : Array Value} (hr : va_Run p l e R s m args below meth c H locs cells slots mc ms (F0 m pc ls st0) rest (va_Qv post (bW D (va_A wc H.size) Wf) (va_A wc H.size) a) (va_A wc H.size)) (hD : va_D A wc) (hS : va_S A s.heap H locs) (hA : ∀ q, s.heap.size ≤ q → A q) (kk : ∀ (u : S) (H1 : Heap) (locs1 : List Loc), post u → va_P D vwCl (Wf u) H1 → va_D A (Wf u) → va_S A s.heap H1 locs1 → W p l e R s m args below meth c H1 locs1 (cells + mc) (slots + ms) Q (F0 m (pc + 3) ls rest)) : W p l e R s m args below meth c H locs cells slots Q (F0 m pc ls st0) :=
  va_callv hr hS (fun q _ h => free_all hD hS hA q h) (free_all hD hS hA) (fun u t H1 locs1 ht _ hp hB _ _ hS1 => kk u H1 locs1 hp (ht ▸ hB.1) (hB.2.weaken (fun _ q _ h => free_all hD hS hA q.1 h)) hS1)
/-- a call that may throw, from a method that lets it go on to its caller -/
theorem kx_thru {pe pe' : String → Prop} {ws0 : va_W} {E : String} {ce : Cell} {q9 : Addr} {t : State} {H1 : Heap} {locs1 : List Loc} {mc1 ms1 cells1 slots1 : Nat} (hD : va_D A wc) (hw : wc = ws0) (hpe : pe E → pe' E) (hout : ∀ x ∈ c.exceptionTable.toList, False) (hlocks : meth.locks = false) (ht : t.heap = H1) (hB : pe E ∧ va_P D vwCl wc t.heap ∧ va_D (va_A wc H.size) wc) (hS1 : va_S A s.heap H1 locs1) (h1 : H1[q9]? = some ce) (h2 : ce.vm = .none) (h3 : s.vm.findClass E = some ce.cls) (hmc : cells1 ≤ mc1) (hms : slots1 ≤ ms1) : vx_W p l e R s m args below meth c H1 locs1 cells1 slots1 (vx_MQ below Qc (xX D pe' ws0 A) args s mc1 ms1 A) (F0 m pc ls rest) q9 := by
  subst hw
  subst ht
  exact vx_out (fun x hx => (hout x hx).elim) hlocks h1 h2 h3 (fun t' ht' hal => ⟨(), trivial, ⟨hpe hB.1, by rw [ht']; exact hB.2.1, hD⟩, hS1.F ht'⟩) (fun z hz => hS1.2.2 z hz) hmc hms
theorem kx_i {post : Int32 → S → Prop} {pe pe' : String → Prop} {ws0 : va_W} {a : Array Value} {mc1 ms1 : Nat} (hr : vx_Run p l e R s m args below meth c H locs cells slots mc ms (F0 m pc ls st0) rest (va_Qi post (bW D (va_A wc H.size) Wf) (va_A wc H.size) a) (xX D pe wc (va_A wc H.size)) (va_A wc H.size)) (hD : va_D A wc) (hS : va_S A s.heap H locs) (hA : ∀ q, s.heap.size ≤ q → A q) (hw : wc = ws0) (hpe : ∀ E, pe E → pe' E) (hout : ∀ x ∈ c.exceptionTable.toList, False) (hlocks : meth.locks = false) (hmc : cells + mc ≤ mc1) (hms : slots + ms ≤ ms1) (kk : ∀ (r : Int32) (u : S) (H1 : Heap) (locs1 : List Loc), post r u → va_P D vwCl (Wf u) H1 → va_D A (Wf u) → va_S A s.heap H1 locs1 → W p l e R s m args below meth c H1 locs1 (cells + mc) (slots + ms) (vx_MQ below Qc (xX D pe' ws0 A) args s mc1 ms1 A) (F0 m (pc + 3) ls (.int r :: rest))) : W p l e R s m args below meth c H locs cells slots (vx_MQ below Qc (xX D pe' ws0 A) args s mc1 ms1 A) (F0 m pc ls st0) :=
  vx_calli hr hS (fun q _ h => free_all hD hS hA q h) (free_all hD hS hA) (fun q _ h => free_all hD hS hA q h) (fun E ce q9 u t H1 locs1 ht _ _ hB _ _ hS1 h1 h2 h3 => kx_thru (H := H) hD hw (hpe E) hout hlocks ht hB hS1 h1 h2 h3 hmc hms) (fun r u t H1 locs1 ht _ hp hB _ _ hS1 => kk r u H1 locs1 hp (ht ▸ hB.1) (hB.2.weaken (fun _ q _ h => free_all hD hS hA q.1 h)) hS1)
theorem kx_v {post : S → Prop} {pe pe' : String → Prop} {ws0 : va_W} {a : Array Value} {mc1 ms1 : Nat} (hr : vx_Run p l e R s m args below meth c H locs cells slots mc ms (F0 m pc ls st0) rest (va_Qv post (bW D (va_A wc H.size) Wf) (va_A wc H.size) a) (xX D pe wc (va_A wc H.size)) (va_A wc H.size)) (hD : va_D A wc) (hS : va_S A s.heap H locs) (hA : ∀ q, s.heap.size ≤ q → A q) (hw : wc = ws0) (hpe : ∀ E, pe E → pe' E) (hout : ∀ x ∈ c.exceptionTable.toList, False) (hlocks : meth.locks = false) (hmc : cells + mc ≤ mc1) (hms : slots + ms ≤ ms1) (kk : ∀ (u : S) (H1 : Heap) (locs1 : List Loc), post u → va_P D vwCl (Wf u) H1 → va_D A (Wf u) → va_S A s.heap H1 locs1 → W p l e R s m args below meth c H1 locs1 (cells + mc) (slots + ms) (vx_MQ below Qc (xX D pe' ws0 A) args s mc1 ms1 A) (F0 m (pc + 3) ls rest)) : W p l e R s m args below meth c H locs cells slots (vx_MQ below Qc (xX D pe' ws0 A) args s mc1 ms1 A) (F0 m pc ls st0) :=
  vx_callv hr hS (fun q _ h => free_all hD hS hA q h) (free_all hD hS hA) (fun q _ h => free_all hD hS hA q h) (fun E ce q9 u t H1 locs1 ht _ _ hB _ _ hS1 h1 h2 h3 => kx_thru (H := H) hD hw (hpe E) hout hlocks ht hB hS1 h1 h2 h3 hmc hms) (fun u t H1 locs1 ht _ hp hB _ _ hS1 => kk u H1 locs1 hp (ht ▸ hB.1) (hB.2.weaken (fun _ q _ h => free_all hD hS hA q.1 h)) hS1)
/-- throw new E("text"), the world as it was at the entry -/
theorem k_throw (hx : p.tables.exec = Jvm.exec) (hb : c.code = cc) (hl : l.stackTraces = false) {cls text : String} {ik is ic mc1 ms1 : Nat} {pe : String → Prop} {ws0 : va_W} (hown : s.vm.findClass RX0 = some m.cls) (hcls : Bundle.fit cls = true) (hk : (Cond.classLink RX0 ik cls).before args s = true) (hini : (Cond.initialized cls).before args s = true) (hstr : ∃ a, vk_R RX0 is text a s) (hat : ∀ w ∈ vx_atS RX0 ic cls ["java/lang/RuntimeException", "java/lang/Exception"], w.before args s = true) (hgood : ∀ w ∈ Cond.classLink RX0 ik cls :: Cond.initialized cls :: vx_atS RX0 ic cls ["java/lang/RuntimeException", "java/lang/Exception"], vx_ot w = true) (hZ : zz A s s.heap) (hS : va_S A s.heap H locs) (hsize : ls.size = c.maxLocals) (d0 : decode cc pc = .ok (.new ik, 3)) (d3 : decode cc (pc + 3) = .ok (.dup, 1)) (d4 : decode cc (pc + 4) = .ok (.ldc is, 2)) (d6 : decode cc (pc + 6) = .ok (.invokespecial ic, 3)) (d9 : decode cc (pc + 9) = .ok (.athrow, 1)) (hout : ∀ x ∈ c.exceptionTable.toList, False) (hRframes : 5 < R.frames) (hRlocals : (rest.map fun v => v.category).sum + 82 ≤ R.locals) (hRcells : cells + 1 ≤ R.cells) (hRslots : slots + 6 ≤ R.slots) (hlocks : meth.locks = false) (hP : va_P D vwCl ws0 H) (hD : va_D A ws0) (hpe : pe cls) (hmc : cells + 1 ≤ mc1) (hms : slots + 6 ≤ ms1) : W p l e R s m args below meth c H locs cells slots (vx_MQ below Qc (xX D pe ws0 A) args s mc1 ms1 A) (F0 m pc ls rest) := by
  obtain ⟨sa, hstr⟩ := hstr
  refine vx_throwS hx hb hl hown hcls (names := ["java/lang/RuntimeException", "java/lang/Exception"]) (by decide +kernel) hk hini hstr hat hgood hZ.1 hZ.2 hS hsize d0 d3 d4 d6 d9 (fun x hx => (hout x hx).elim) hRframes hRlocals hRcells hRslots hlocks (fun t hal hsz hq => ⟨(), trivial, ⟨hpe, hP.kept (fun k q hk => hq q.1 (hP k q hk).lt), hD⟩, Nat.le_trans hS.1 hsz, fun q h1 h2 => (hq q (Nat.lt_of_lt_of_le h1 hS.1)).trans (hS.2.1 q h1 h2)⟩) (fun z hz => hS.2.2 z hz) hmc hms
/-- the words of a throw -/
theorem k_hat {ic : Nat} {cls : String} (h1 : ∀ w ∈ (vx_atS RX0 ic cls ["java/lang/RuntimeException", "java/lang/Exception"]).filter goodWord, w.before args s = true) (h2 : ∀ w ∈ (vx_atS RX0 ic cls ["java/lang/RuntimeException", "java/lang/Exception"]).filter (fun w => !goodWord w), w ∈ ([.castable cls cls, .declares iRE, .declares iEX, .declares iTH] : List Cond)) (h3 : va_Nw (.castable cls cls) s) (hg : gg s) : ∀ w ∈ vx_atS RX0 ic cls ["java/lang/RuntimeException", "java/lang/Exception"], w.before args s = true :=
  vx_hat h1 h2 (vx_c (h3.use rfl) (vx_c (hg.2.2.2.2.1.use rfl) (vx_c (hg.2.2.2.2.2.1.use rfl) (vx_c (hg.2.2.2.2.2.2.1.use rfl) vx_n))))
/-- ends -/
theorem e_i {post : Int32 → S → Prop} {mc1 ms1 : Nat} {v : Int32} (u : S) (hx : p.tables.exec = Jvm.exec) (hb : c.code = cc) (hr : meth.sig.returnType = some .int) (hlocks : meth.locks = false) (hS : va_S A s.heap H locs) (hP : va_P D vwCl (Wf u) H) (hD : va_D A (Wf u)) (hp : post v u) (hc : cells ≤ mc1) (hs : slots ≤ ms1) (hd : decode cc pc = .ok (.ireturn, 1)) : W p l e R s m args below meth c H locs cells slots (MQ below (va_Qi post (bW D A Wf) A) args s mc1 ms1 A) (F0 m pc ls [.int v]) :=
  W.widen hc hs (W.iret hx hb hr (fun t ht _ => ⟨⟨v, u, rfl, hp, ⟨by rw [ht]; exact hP, hD⟩⟩, hS.F ht⟩) hS.2.2 hd hlocks)
theorem e_z {post : Int32 → S → Prop} {mc1 ms1 : Nat} {v : Nat} (u : S) (hx : p.tables.exec = Jvm.exec) (hb : c.code = cc) (hr : meth.sig.returnType = some .boolean) (hlocks : meth.locks = false) (hS : va_S A s.heap H locs) (hv : v ≤ 1) (hP : va_P D vwCl (Wf u) H) (hD : va_D A (Wf u)) (hp : post (nI v) u) (hc : cells ≤ mc1) (hs : slots ≤ ms1) (hd : decode cc pc = .ok (.ireturn, 1)) : W p l e R s m args below meth c H locs cells slots (MQ below (va_Qi post (bW D A Wf) A) args s mc1 ms1 A) (F0 m pc ls [.int (nI v)]) :=
  W.widen hc hs (W.zret hx hb hr (by have h : v = 0 ∨ v = 1 := by omega
                                     rcases h with rfl | rfl <;> rfl) (fun t ht _ => ⟨⟨nI v, u, rfl, hp, ⟨by rw [ht]; exact hP, hD⟩⟩, hS.F ht⟩) hS.2.2 hd hlocks)
theorem e_l {post : Int64 → S → Prop} {mc1 ms1 : Nat} {v : Int64} (u : S) (hx : p.tables.exec = Jvm.exec) (hb : c.code = cc) (hr : meth.sig.returnType = some .long) (hlocks : meth.locks = false) (hS : va_S A s.heap H locs) (hP : va_P D vwCl (Wf u) H) (hD : va_D A (Wf u)) (hp : post v u) (hc : cells ≤ mc1) (hs : slots ≤ ms1) (hd : decode cc pc = .ok (.lreturn, 1)) : W p l e R s m args below meth c H locs cells slots (MQ below (va_Ql post (bW D A Wf) A) args s mc1 ms1 A) (F0 m pc ls [.long v]) :=
  W.widen hc hs (W.lret hx hb hr (fun t ht _ => ⟨⟨v, u, rfl, hp, ⟨by rw [ht]; exact hP, hD⟩⟩, hS.F ht⟩) hS.2.2 hd hlocks)
theorem e_v {post : S → Prop} {mc1 ms1 : Nat} (u : S) (hx : p.tables.exec = Jvm.exec) (hb : c.code = cc) (hr : meth.sig.returnType = none) (hlocks : meth.locks = false) (hS : va_S A s.heap H locs) (hP : va_P D vwCl (Wf u) H) (hD : va_D A (Wf u)) (hp : post u) (hc : cells ≤ mc1) (hs : slots ≤ ms1) (hd : decode cc pc = .ok (.return_, 1)) : W p l e R s m args below meth c H locs cells slots (MQ below (va_Qv post (bW D A Wf) A) args s mc1 ms1 A) (F0 m pc ls []) :=
  W.widen hc hs (W.vret hx hb hr (fun t ht _ => ⟨⟨u, rfl, hp, ⟨by rw [ht]; exact hP, hD⟩⟩, hS.F ht⟩) hS.2.2 hd hlocks)
end KC
/-! the worlds -/
abbrev ty3 (cI cZ cJ : ClassId) : List (ClassId × FieldType) := [(cI, .int), (cZ, .boolean), (cJ, .long)]
abbrev wX (q : Nat → Nat) (cI cZ cJ : ClassId) (k : Nat) (V C T B P A : Nat → Nat) (n : Nat) (PR ST : Nat → Nat) (li w : Nat) (WK : Nat → Nat) (so sp : Nat) (CT : Nat → Int64) (SC : Nat → Int) (TA : Nat → Nat) : va_W :=
  [(q 0, .inr (0, [.int (nI k), .ref (q 1), .ref (q 2), .ref (q 3), .ref (q 4), .ref (q 5), .ref (q 6), .int (nI n), .ref (q 8), .ref (q 9), .int (nI li), .int (nI w), .ref (q 12), .int (nI so), .int (nI sp), .ref (q 15), .ref (q 16), .ref (q 17)])),
   (q 1, .inl (cI, 8, .inl (rI V))), (q 2, .inl (cI, 8, .inl (rI C))), (q 3, .inl (cI, 8, .inl (rI T))), (q 4, .inl (cI, 8, .inl (rI B))), (q 5, .inl (cI, 8, .inl (rI P))), (q 6, .inl (cZ, 8, .inl (rI A))),
   (q 8, .inl (cI, 10, .inl (rI PR))), (q 9, .inl (cI, 10, .inl (rI ST))), (q 12, .inl (cI, 12, .inl (rI WK))), (q 15, .inl (cJ, 10, .inr (.inl CT))), (q 16, .inl (cJ, 2001, .inr (.inl (rL SC)))), (q 17, .inl (cI, 8, .inl (rI TA)))]
end
section
theorem ic_0 : Int32.ofInt 0 = nI 0 := by decide
theorem ic_1 : Int32.ofInt 1 = nI 1 := by decide
theorem ic_2 : Int32.ofInt 2 = nI 2 := by decide
theorem ic_3 : Int32.ofInt 3 = nI 3 := by decide
theorem ic_4 : Int32.ofInt 4 = nI 4 := by decide
theorem ic_5 : Int32.ofInt 5 = nI 5 := by decide
theorem ni_inc (a k : Nat) : nI a + Int32.ofInt (k : Int) = nI (a + k) := by
  rw [show Int32.ofInt (k : Int) = nI k from by
    apply Int32.toBitVec_inj.mp
    show BitVec.ofInt 32 (k : Int) = BitVec.ofNat 32 k
    exact BitVec.ofInt_natCast 32 k]
  exact nI_add a k
theorem ni_dec {a : Nat} (h : 1 ≤ a) : nI a + Int32.ofInt (-1) = nI (a - 1) := by
  obtain ⟨b, rfl⟩ : ∃ b, a = b + 1 := ⟨a - 1, by omega⟩
  rw [show Int32.ofInt (-1) = (-1 : Int32) from by decide]
  exact pk_m1 b
section RW
variable {p : Program} {l : Launch} {e : Env} {R : Room} {s : State} {m : MethodId} {args : Array Value} {below : List Frame} {meth : Method} {c : Code} {H : Heap} {locs : List Loc} {cells slots : Nat} {Q : State → Prop}
variable {cc : ByteArray} {pc : Nat} {ls : Array Slot} {rest : List Value} {D : va_G} {A : Nat → Prop} {a : Nat} {tys : List (ClassId × FieldType)} {ws ws' : va_W} {H0 : Heap} {index : Nat} {Ts : List Cond} {fs : List Value}
theorem W_absQ {g : JFrame} (h : ∀ Q', Q' = Q → W p l e R s m args below meth c H locs cells slots Q' g) : W p l e R s m args below meth c H locs cells slots Q g := h Q rfl
theorem W_absR {g : JFrame} (h : ∀ R', R' = R → W p l e R' s m args below meth c H locs cells slots Q g) : W p l e R s m args below meth c H locs cells slots Q g := h R rfl
theorem W_start {g : JFrame} (hP : va_P D vwCl ws s.heap) (h : ∀ (H : Heap) (locs : List Loc), va_P D vwCl ws H → va_S A s.heap H locs → W p l e R s m args below meth c H locs 0 0 Q g) : W p l e R s m args below meth c s.heap [] 0 0 Q g := h s.heap [] hP va_S.rf
theorem gfX (hx : p.tables.exec = Jvm.exec) (hb : c.code = cc) (hts : ∀ w ∈ Ts, w.before args s = true) (hin : ∀ w ∈ wsX00, w ∈ Ts) (hown : s.vm.findClass RX0 = some m.cls) (hK : va_K D vwCl tys s) (hP : va_P D vwCl ws H) (k : Nat) (hk : k < 18) (hm : Cond.fieldLink RX0 index "CoinMechanism" (TX0 k).2.1 (TX0 k).2.2.1 ∈ Ts) {v : Value} (he : ws[0]? = some (a, .inr (0, fs))) (hv : fs[k]? = some v) (hd : decode cc pc = .ok (.getfield index, 3)) (kk : W p l e R s m args below meth c H locs cells slots Q (F0 m (pc + 3) ls (v :: rest))) : W p l e R s m args below meth c H locs cells slots Q (F0 m pc ls (.ref a :: rest)) :=
  va_get (D := D) (ci := 0) (C := RX0) (T := TX0) (N := 18) (ref := "CoinMechanism") hx hb hts hin hown hK hP 0 he rfl k hk (hts _ hm) (fun x h9 => by
    have e0 : (TX0 k).1 = "CoinMechanism" := by
      have h : ∀ k, k < 18 → (TX0 k).1 = "CoinMechanism" := by decide +kernel
      exact h k hk
    rw [e0] at h9; exact h9) hv hd kk
theorem pfX (hx : p.tables.exec = Jvm.exec) (hb : c.code = cc) (hts : ∀ w ∈ Ts, w.before args s = true) (hin : ∀ w ∈ wsX00, w ∈ Ts) (hown : s.vm.findClass RX0 = some m.cls) (hK : va_K D vwCl tys s) (hP : va_P D vwCl ws H) (hD : va_D A ws) (hS : va_S A H0 H locs) (k : Nat) (hk : k < 18) (hm : Cond.fieldLink RX0 index "CoinMechanism" (TX0 k).2.1 (TX0 k).2.2.1 ∈ Ts) {x : Int32} (he : ws[0]? = some (a, .inr (0, fs))) (hf : (TX0 k).2.2.2 = false ∧ tyX0 k = .int) (hlen : fs.length = 18) (hw : ws.set 0 (a, .inr (0, fs.set k (.int x))) = ws') (hd : decode cc pc = .ok (.putfield index, 3)) (kk : ∀ (H1 : Heap) (locs1 : List Loc), va_P D vwCl ws' H1 → va_D A ws' → va_S A H0 H1 locs1 → W p l e R s m args below meth c H1 locs1 cells slots Q (F0 m (pc + 3) ls rest)) : W p l e R s m args below meth c H locs cells slots Q (F0 m pc ls (.int x :: .ref a :: rest)) :=
  va_put (D := D) (ci := 0) (C := RX0) (T := TX0) (N := 18) (ref := "CoinMechanism") (v := .int x) (ty := .int) hx hb hts hin tyX0 tyX0_ok nmX0 hown hK hP hD hS 0 he rfl k hk (hts _ hm) (fun x h9 => by
    have e0 : (TX0 k).1 = "CoinMechanism" := by
      have h : ∀ k, k < 18 → (TX0 k).1 = "CoinMechanism" := by decide +kernel
      exact h k hk
    rw [e0] at h9; exact h9) hf.1 ((tyX0_ok k hk).trans (congrArg some hf.2)) rfl rfl (by rw [hlen]; exact hk) hd (fun H1 locs1 h1 h2 h3 => kk H1 locs1 (hw ▸ h1) (hw ▸ h2) h3)
theorem n_zast {cl : List vw_C} (hx : p.tables.exec = Jvm.exec) (hb : c.code = cc) (hK : va_K D cl tys s) (hP : va_P D cl ws H) (hD : va_D A ws) (hS : va_S A H0 H locs) (q0 t0 : Nat) {cA : ClassId} {n : Nat} {f : Nat → Nat} (ha : ws[q0]? = some (a, .inl (cA, n, .inl (rI f)))) (ht : tys[t0]? = some (cA, .boolean)) {i x : Nat} (hi : i < n) (hz : x ≤ 1) (hn : n < 2147483648) (hw : ws.set q0 (a, .inl (cA, n, .inl (rI (un f i x)))) = ws') (hd : decode cc pc = .ok (.bastore, 1)) (kk : ∀ (H1 : Heap) (locs1 : List Loc), va_P D cl ws' H1 → va_D A ws' → va_S A H0 H1 locs1 → W p l e R s m args below meth c H1 locs1 cells slots Q (F0 m (pc + 1) ls rest)) : W p l e R s m args below meth c H locs cells slots Q (F0 m pc ls (.int (nI x) :: .int (nI i) :: .ref a :: rest)) := by
  refine va_zast hx hb hK hP hD hS q0 t0 ha ht (vp_in_nI hi hn) hd (fun H1 locs1 h1 h2 h3 => ?_)
  have hv : vp_nar .boolean (nI x) = nI x := by
    have h : x = 0 ∨ x = 1 := by omega
    rcases h with rfl | rfl <;> rfl
  rw [nI_clamp (Nat.lt_trans hi hn), hv, rI_up, hw] at h1 h2
  exact kk H1 locs1 h1 h2 h3
end RW
end
section
/-! an argument in a range; counts, sums -/
def rg (x : Int32) (a b : Nat) : Prop := ∃ j, a ≤ j ∧ j < b ∧ x = nI j
theorem rg_iff {x : Int32} {a b : Nat} (hb : b ≤ 2147483648) : rg x a b ↔ (a : Int) ≤ x.toInt ∧ x.toInt < b := by
  constructor
  · rintro ⟨j, h1, h2, rfl⟩
    rw [nI_toInt (by omega)]; omega
  · rintro ⟨h1, h2⟩
    have h0 : ¬ x < 0 := by rw [Int32.lt_iff_toInt_lt, Int32.toInt_zero]; omega
    obtain ⟨j, hj, rfl⟩ := nI_of h0
    rw [nI_toInt hj] at h1 h2
    exact ⟨j, by omega, by omega, rfl⟩
/-- the sum of the first n -/
def sm (f : Nat → Nat) : Nat → Nat
  | 0 => 0
  | n + 1 => sm f n + f n
theorem sm_cong {f g : Nat → Nat} : ∀ {n : Nat}, (∀ i, i < n → f i = g i) → sm f n = sm g n
  | 0, _ => rfl
  | n + 1, h => by
    show sm f n + f n = sm g n + g n
    rw [sm_cong (fun i hi => h i (by omega)), h n (by omega)]
theorem sm_le {f : Nat → Nat} {c : Nat} : ∀ {n : Nat}, (∀ i, i < n → f i ≤ c) → sm f n ≤ n * c
  | 0, _ => by simp [sm]
  | n + 1, h => by
    have h1 := sm_le (n := n) (fun i hi => h i (by omega))
    have h2 := h n (by omega)
    show sm f n + f n ≤ (n + 1) * c
    rw [Nat.succ_mul]; omega
/-- how many of the first n are kd -/
def wo (WK : Nat → Nat) (kd : Nat) : Nat → Nat
  | 0 => 0
  | n + 1 => wo WK kd n + (if WK n = kd then 1 else 0)
theorem wo_le (WK : Nat → Nat) (kd : Nat) : ∀ n, wo WK kd n ≤ n
  | 0 => Nat.le_refl 0
  | n + 1 => by
    have h := wo_le WK kd n
    show wo WK kd n + (if WK n = kd then 1 else 0) ≤ n + 1
    split <;> omega
theorem wo_y {WK : Nat → Nat} {kd n : Nat} (h : WK n = kd) : wo WK kd (n + 1) = wo WK kd n + 1 := by
  show wo WK kd n + (if WK n = kd then 1 else 0) = _
  rw [if_pos h]
theorem wo_n {WK : Nat → Nat} {kd n : Nat} (h : WK n ≠ kd) : wo WK kd (n + 1) = wo WK kd n := by
  show wo WK kd n + (if WK n = kd then 1 else 0) = _
  rw [if_neg h, Nat.add_zero]
/-- the credit: the values of the coins in the escrow -/
def cr (V WK : Nat → Nat) (w : Nat) : Nat := sm (fun j => V (WK j)) w
/-- .. kind by kind -/
def crk (V WK : Nat → Nat) (w k : Nat) : Nat := sm (fun i => wo WK i w * V i) k
theorem crk_0 (V WK : Nat → Nat) : ∀ k, crk V WK 0 k = 0
  | 0 => rfl
  | k + 1 => by
    show crk V WK 0 k + wo WK k 0 * V k = 0
    rw [crk_0 V WK k]; simp [wo]
theorem crk_s (V WK : Nat → Nat) (w : Nat) : ∀ k, crk V WK (w + 1) k = crk V WK w k + (if WK w < k then V (WK w) else 0)
  | 0 => by simp [crk, sm]
  | k + 1 => by
    show crk V WK (w + 1) k + wo WK k (w + 1) * V k = crk V WK w k + wo WK k w * V k + _
    rw [crk_s V WK w k]
    by_cases h : WK w = k
    · rw [wo_y h, if_neg (by omega), if_pos (by omega), h, Nat.succ_mul]; omega
    · rw [wo_n h]
      by_cases h2 : WK w < k
      · rw [if_pos h2, if_pos (by omega)]; omega
      · rw [if_neg h2, if_neg (by omega)]; omega
theorem crk_cr (V WK : Nat → Nat) (k : Nat) : ∀ w, (∀ j, j < w → WK j < k) → crk V WK w k = cr V WK w
  | 0, _ => crk_0 V WK k
  | w + 1, h => by
    rw [crk_s, crk_cr V WK k w (fun j hj => h j (by omega)), if_pos (h w (by omega))]
    rfl
/-- B with the first i emptied -/
def zb (B : Nat → Nat) (i : Nat) : Nat → Nat := fun j => if j < i then 0 else B j
theorem zb_0 (B : Nat → Nat) : B = zb B 0 := by
  funext j
  show B j = if j < 0 then 0 else B j
  rw [if_neg (Nat.not_lt_zero j)]
theorem zb_at (B : Nat → Nat) (i : Nat) : zb B i i = B i := by
  show (if i < i then 0 else B i) = B i
  rw [if_neg (Nat.lt_irrefl i)]
theorem zb_s (B : Nat → Nat) (i : Nat) : un (zb B i) i 0 = zb B (i + 1) := by
  funext j
  show (if j = i then 0 else if j < i then 0 else B j) = if j < i + 1 then 0 else B j
  by_cases h : j = i
  · rw [if_pos h, if_pos (by omega)]
  · rw [if_neg h]
    by_cases h2 : j < i
    · rw [if_pos h2, if_pos (by omega)]
    · rw [if_neg h2, if_neg (by omega)]
/-- what coins() tells of a kind -/
def tld (V T B P : Nat → Nat) (kd wh : Nat) : Nat := if wh = 0 then V kd else if wh = 1 then T kd else if wh = 2 then B kd else P kd
/-- how many of the first n values are less than x -/
def lc (V : Nat → Nat) (x : Nat) : Nat → Nat
  | 0 => 0
  | n + 1 => lc V x n + (if V n < x then 1 else 0)
theorem lc_y {V : Nat → Nat} {x n : Nat} (h : V n < x) : lc V x (n + 1) = lc V x n + 1 := by
  show lc V x n + (if V n < x then 1 else 0) = _
  rw [if_pos h]
theorem lc_n {V : Nat → Nat} {x n : Nat} (h : x ≤ V n) : lc V x (n + 1) = lc V x n := by
  show lc V x n + (if V n < x then 1 else 0) = _
  rw [if_neg (by omega), Nat.add_zero]
theorem lc_le (V : Nat → Nat) (x : Nat) : ∀ n, lc V x n ≤ n
  | 0 => Nat.le_refl 0
  | n + 1 => by
    have h := lc_le V x n
    show lc V x n + (if V n < x then 1 else 0) ≤ n + 1
    split <;> omega
/-- what is paid too much with coins of v for pr -/
def ovp (pr v : Nat) : Nat := if pr % v = 0 then 0 else v - pr % v
/-- the unit -/
def dv (V : Nat → Nat) (k d : Nat) : Nat := if ∀ i, i < k → V i % d = 0 then 1 else 0
theorem dv_le (V : Nat → Nat) (k d : Nat) : dv V k d ≤ 1 := by unfold dv; split <;> omega
theorem dv_1 (V : Nat → Nat) (k : Nat) : dv V k 1 = 1 := by
  unfold dv
  rw [if_pos (fun i _ => Nat.mod_one _)]
theorem dv_n {V : Nat → Nat} {k d i : Nat} (h : i < k) (h2 : V i % d ≠ 0) : dv V k d = 0 := by
  unfold dv
  rw [if_neg (fun q => h2 (q i h))]
theorem dv_y {V : Nat → Nat} {k d : Nat} (h : ∀ i, i < k → V i % d = 0) : dv V k d = 1 := by
  unfold dv
  rw [if_pos h]
def fd (V : Nat → Nat) (k : Nat) : Nat → Nat
  | 0 => 0
  | d + 1 => if dv V k (d + 1) = 1 then d + 1 else fd V k d
theorem fd_y {V : Nat → Nat} {k d : Nat} (h0 : 1 ≤ d) (h : dv V k d = 1) : fd V k d = d := by
  obtain ⟨c, rfl⟩ : ∃ c, d = c + 1 := ⟨d - 1, by omega⟩
  show (if dv V k (c + 1) = 1 then c + 1 else fd V k c) = c + 1
  rw [if_pos h]
theorem fd_n {V : Nat → Nat} {k d : Nat} (h0 : 1 ≤ d) (h : dv V k d ≠ 1) : fd V k d = fd V k (d - 1) := by
  obtain ⟨c, rfl⟩ : ∃ c, d = c + 1 := ⟨d - 1, by omega⟩
  show (if dv V k (c + 1) = 1 then c + 1 else fd V k c) = fd V k c
  rw [if_neg h]
def gu (V : Nat → Nat) (k : Nat) : Nat := if k = 0 then 0 else fd V k 500
theorem fd_le (V : Nat → Nat) (k : Nat) : ∀ d, fd V k d ≤ d
  | 0 => Nat.le_refl 0
  | d + 1 => by
    have h := fd_le V k d
    show (if dv V k (d + 1) = 1 then d + 1 else fd V k d) ≤ d + 1
    split <;> omega
theorem fd_pos {V : Nat → Nat} {k : Nat} : ∀ {d : Nat}, 1 ≤ d → 1 ≤ fd V k d
  | 0, h => absurd h (by omega)
  | 1, _ => by rw [fd_y (Nat.le_refl 1) (dv_1 V k)]; omega
  | d + 2, _ => by
    have h := fd_pos (V := V) (k := k) (d := d + 1) (by omega)
    show 1 ≤ (if dv V k (d + 2) = 1 then d + 2 else fd V k (d + 1))
    split <;> omega
/-- the escrow's coins dropped, kinds below i -/
def dT (C T WK : Nat → Nat) (w i : Nat) : Nat → Nat := fun j => if j < i then T j + min (wo WK j w) (C j - T j) else T j
def dB (C T B WK : Nat → Nat) (w i : Nat) : Nat → Nat := fun j => if j < i then B j + (wo WK j w - min (wo WK j w) (C j - T j)) else B j
theorem dT_0 (C T WK : Nat → Nat) (w : Nat) : T = dT C T WK w 0 := by
  funext j
  show T j = if j < 0 then _ else T j
  rw [if_neg (Nat.not_lt_zero j)]
theorem dB_0 (C T B WK : Nat → Nat) (w : Nat) : B = dB C T B WK w 0 := by
  funext j
  show B j = if j < 0 then _ else B j
  rw [if_neg (Nat.not_lt_zero j)]
theorem dT_at (C T WK : Nat → Nat) (w i : Nat) : dT C T WK w i i = T i := by
  show (if i < i then _ else T i) = T i
  rw [if_neg (Nat.lt_irrefl i)]
theorem dB_at (C T B WK : Nat → Nat) (w i : Nat) : dB C T B WK w i i = B i := by
  show (if i < i then _ else B i) = B i
  rw [if_neg (Nat.lt_irrefl i)]
theorem dT_s (C T WK : Nat → Nat) (w i : Nat) : un (dT C T WK w i) i (T i + min (wo WK i w) (C i - T i)) = dT C T WK w (i + 1) := by
  funext j
  show (if j = i then _ else if j < i then _ else T j) = if j < i + 1 then _ else T j
  by_cases h : j = i
  · subst h
    rw [if_pos rfl, if_pos (by omega)]
  · rw [if_neg h]
    by_cases h2 : j < i
    · rw [if_pos h2, if_pos (by omega)]
    · rw [if_neg h2, if_neg (by omega)]
theorem dB_s (C T B WK : Nat → Nat) (w i : Nat) : un (dB C T B WK w i) i (B i + (wo WK i w - min (wo WK i w) (C i - T i))) = dB C T B WK w (i + 1) := by
  funext j
  show (if j = i then _ else if j < i then _ else B j) = if j < i + 1 then _ else B j
  by_cases h : j = i
  · subst h
    rw [if_pos rfl, if_pos (by omega)]
  · rw [if_neg h]
    by_cases h2 : j < i
    · rw [if_pos h2, if_pos (by omega)]
    · rw [if_neg h2, if_neg (by omega)]
/-- a sale's counters -/
def cs (CT : Nat → Int64) (pr ch : Nat) : Nat → Int64 :=
  let c1 := vp_updL CT 2 (CT 2 + lZ (ch : Int))
  let c2 := vp_updL c1 7 (c1 7 + lZ (pr : Int))
  let c3 := vp_updL c2 8 (c2 8 + lZ 1)
  if ch = 0 then vp_updL c3 9 (c3 9 + lZ 1) else c3
/-- what insert does -/
def insP (k : Nat) (V A : Nat → Nat) (li w : Nat) (WK : Nat → Nat) (CT : Nat → Int64) (i : Nat) (w' : Nat) (WK' : Nat → Nat) (CT' : Nat → Int64) (r : Nat) : Prop :=
  (A i = 0 ∧ r = 1 ∧ w' = w ∧ WK' = WK ∧ CT' = CT) ∨ (A i ≠ 0 ∧ 12 ≤ w ∧ r = 2 ∧ w' = w ∧ WK' = WK ∧ CT' = CT) ∨ (A i ≠ 0 ∧ w < 12 ∧ li < cr V WK w + V i ∧ r = 3 ∧ w' = w ∧ WK' = WK ∧ CT' = CT) ∨
  (A i ≠ 0 ∧ w < 12 ∧ cr V WK w + V i ≤ li ∧ r = 0 ∧ w' = w + 1 ∧ WK' = un WK w i ∧ CT' = vp_updL CT 0 (CT 0 + lZ ((V i : Nat) : Int)))
theorem cr_le {k : Nat} {V WK : Nat → Nat} {w : Nat} (hw : w ≤ 12) (hWK : ∀ j, j < w → WK j < k) (hV : ∀ i, i < k → 1 ≤ V i ∧ V i ≤ 500) : cr V WK w ≤ 6000 := by
  have h := sm_le (f := fun j => V (WK j)) (c := 500) (n := w) (fun j hj => (hV _ (hWK j hj)).2)
  unfold cr
  have h2 : w * 500 ≤ 12 * 500 := Nat.mul_le_mul_right _ hw
  omega
end
section
set_option maxHeartbeats 4000000 in
set_option maxRecDepth 100000 in
theorem c_X0_checkKind (l : Launch) (hst : l.stackTraces = false) (D : va_G) (q : Nat → Nat) (cI cZ cJ : ClassId) (k : Nat) (V : Nat → Nat) (C : Nat → Nat) (T : Nat → Nat) (B : Nat → Nat) (P : Nat → Nat) (A : Nat → Nat) (n : Nat) (PR : Nat → Nat) (ST : Nat → Nat) (li : Nat) (w : Nat) (WK : Nat → Nat) (so : Nat) (sp : Nat) (CT : Nat → Int64) (SC : Nat → Int) (TA : Nat → Nat) (sz : Nat) (p0 : Int32) (hk8 : k ≤ 8) : vx_Met l yX0_checkKind wsX0_checkKind ({ frames := 6, cells := 1, slots := 6, locals := 90 }) (va_Pc [.ref (q 0), .int p0] (cxP D (ty3 cI cZ cJ) (wX q cI cZ cJ k V C T B P A n PR ST li w WK so sp CT SC TA) sz)) (va_Qv (fun (_ : Unit) => rg p0 0 k) (bW D (va_A (wX q cI cZ cJ k V C T B P A n PR ST li w WK so sp CT SC TA) sz) (fun (_ : Unit) => (wX q cI cZ cJ k V C T B P A n PR ST li w WK so sp CT SC TA))) (va_A (wX q cI cZ cJ k V C T B P A n PR ST li w WK so sp CT SC TA) sz)) (xX D (fun E => E = eIB ∧ ¬ rg p0 0 k) (wX q cI cZ cJ k V C T B P A n PR ST li w WK so sp CT SC TA) (va_A (wX q cI cZ cJ k V C T B P A n PR ST li w WK so sp CT SC TA) sz)) 1 6 (va_A (wX q cI cZ cJ k V C T B P A n PR ST li w WK so sp CT SC TA) sz) := by
  refine vx_ofW (cc := cX0_checkKind) (maxL := 2) (ret := none) (by decide) rfl ?_
  intro p e s m args below meth c s₁ BB hml hout hv
  obtain ⟨hav, hsz, hP, hK, hD0, hZ, hg⟩ := hv
  subst hsz
  subst hav
  have hx := BB.exec
  have hb := BB.bytes
  have hr := BB.returns
  have hts := atoms_spec (ws := wsX0_checkKind) BB.pre
  have hown : s.vm.findClass RX0 = some m.cls := findClass_of_methodNamed BB.named
  have hlocks := BB.notSynchronized
  have hin : ∀ w ∈ wsX00, w ∈ wsX0_checkKind := fun w h => (List.mem_cons_of_mem _ (List.mem_append_left _ (List.mem_append_right _ h)))
  have hD := hD0.self (sz := s.heap.size)
  have hA : ∀ q9 : Nat, s.heap.size ≤ q9 → va_A (wX q cI cZ cJ k V C T B P A n PR ST li w WK so sp CT SC TA) s.heap.size q9 := fun _ h => Or.inr h
  have hl := lv_entry ([.ref (q 0), .int p0]) (n := 2) (Nat.le_of_ble_eq_true rfl)
  rw [lg_entry_eq]
  generalize (lg_sl ([.ref (q 0), .int p0]) ++ List.replicate (2 - (lg_sl ([.ref (q 0), .int p0])).length) Slot.unset).toArray = ls at hl ⊢
  have hl : lv_has ls 2 [(0, .ref (q 0)), (1, .int p0)] := hl
  refine W_absR (fun R hR => ?_)
  have hR : R = ({ frames := 6, cells := 1, slots := 6, locals := 90 } : Room) := hR
  refine W_absQ (fun Q hQ => ?_)
  generalize ([.ref (q 0), .int p0] : List Value).toArray = args at hts hQ ⊢
  generalize va_A (wX q cI cZ cJ k V C T B P A n PR ST li w WK so sp CT SC TA) s.heap.size = A9 at hD hZ hA hQ
  refine W_start hP (A := A9) (fun H locs hP hS => ?_)
  refine lv_iload_n hx hb dX0_checkKind_0 rfl (lv_at hl 1 rfl) ?_
  refine lv_if_lt (tgt := 12) hx hb dX0_checkKind_1 (by decide) (fun c1 => ?_) (fun c1 => ?_)
  · have hno : ¬ rg p0 0 k := by rw [rg_iff (by omega)]; simp only [Int32.lt_iff_toInt_lt, Int32.le_iff_toInt_le, Int32.toInt_zero] at c1; omega
    subst hQ
    exact k_throw hx hb hst (cls := eIB) hown (by decide +kernel) (hts _ (List.mem_of_getElem? (i := 1) rfl)) (hts _ (List.mem_of_getElem? (i := 2) rfl)) (hg.1 (184, "no such kind") (by decide)) (k_hat (fun w h => hts w (List.mem_cons_of_mem _ (List.mem_append_right _ h))) (by decide +kernel) hg.2.2.2.1 hg) (by decide +kernel) hZ hS (hl.1.trans hml.symm) dX0_checkKind_12 dX0_checkKind_15 dX0_checkKind_16 dX0_checkKind_18 dX0_checkKind_21 hout (by rw [hR]; exact Nat.le_of_ble_eq_true rfl) (by rw [hR]; exact Nat.le_of_ble_eq_true rfl) (by rw [hR]; exact Nat.le_of_ble_eq_true rfl) (by rw [hR]; exact Nat.le_of_ble_eq_true rfl) hlocks hP hD (⟨rfl, hno⟩) (Nat.le_of_ble_eq_true rfl) (Nat.le_of_ble_eq_true rfl)
  · refine lv_iload_n hx hb dX0_checkKind_4 rfl (lv_at hl 1 rfl) ?_
    refine lv_aload_n hx hb dX0_checkKind_5 rfl (lv_at hl 0 rfl) ?_
    refine gfX hx hb hts hin hown hK hP 0 (by decide) (List.mem_of_getElem? (i := 3) rfl) rfl rfl dX0_checkKind_6 ?_
    refine lv_icmp_lt (tgt := 22) hx hb dX0_checkKind_9 (by decide) (fun c9 => ?_) (fun c9 => ?_)
    · subst hQ
      exact vx_ret (e_v () hx hb hr hlocks hS hP hD (by rw [rg_iff (by omega)]; simp only [Int32.lt_iff_toInt_lt, Int32.le_iff_toInt_le, Int32.toInt_zero, nI_toInt (show k < 2 ^ 31 by omega)] at c1 c9; omega) (Nat.le_of_ble_eq_true rfl) (Nat.le_of_ble_eq_true rfl) dX0_checkKind_22)
    · have hno : ¬ rg p0 0 k := by rw [rg_iff (by omega)]; simp only [Int32.lt_iff_toInt_lt, Int32.le_iff_toInt_le, Int32.toInt_zero, nI_toInt (show k < 2 ^ 31 by omega)] at c9; omega
      subst hQ
      exact k_throw hx hb hst (cls := eIB) hown (by decide +kernel) (hts _ (List.mem_of_getElem? (i := 1) rfl)) (hts _ (List.mem_of_getElem? (i := 2) rfl)) (hg.1 (184, "no such kind") (by decide)) (k_hat (fun w h => hts w (List.mem_cons_of_mem _ (List.mem_append_right _ h))) (by decide +kernel) hg.2.2.2.1 hg) (by decide +kernel) hZ hS (hl.1.trans hml.symm) dX0_checkKind_12 dX0_checkKind_15 dX0_checkKind_16 dX0_checkKind_18 dX0_checkKind_21 hout (by rw [hR]; exact Nat.le_of_ble_eq_true rfl) (by rw [hR]; exact Nat.le_of_ble_eq_true rfl) (by rw [hR]; exact Nat.le_of_ble_eq_true rfl) (by rw [hR]; exact Nat.le_of_ble_eq_true rfl) hlocks hP hD (⟨rfl, hno⟩) (Nat.le_of_ble_eq_true rfl) (Nat.le_of_ble_eq_true rfl)
theorem hd_X0_checkKind : yX0_checkKind.cls = RX0 ∧ yX0_checkKind.cls ≠ "java/lang/invoke/MethodHandle" ∧ yX0_checkKind.cls ≠ "java/lang/invoke/VarHandle" ∧ (parseMethodDescriptor yX0_checkKind.desc).map (fun d => d.parameters.length) = some 1 := by decide +kernel

set_option maxHeartbeats 4000000 in
set_option maxRecDepth 100000 in
theorem c_X0_checkProduct (l : Launch) (hst : l.stackTraces = false) (D : va_G) (q : Nat → Nat) (cI cZ cJ : ClassId) (k : Nat) (V : Nat → Nat) (C : Nat → Nat) (T : Nat → Nat) (B : Nat → Nat) (P : Nat → Nat) (A : Nat → Nat) (n : Nat) (PR : Nat → Nat) (ST : Nat → Nat) (li : Nat) (w : Nat) (WK : Nat → Nat) (so : Nat) (sp : Nat) (CT : Nat → Int64) (SC : Nat → Int) (TA : Nat → Nat) (sz : Nat) (p0 : Int32) (hn10 : n ≤ 10) : vx_Met l yX0_checkProduct wsX0_checkProduct ({ frames := 6, cells := 1, slots := 6, locals := 90 }) (va_Pc [.ref (q 0), .int p0] (cxP D (ty3 cI cZ cJ) (wX q cI cZ cJ k V C T B P A n PR ST li w WK so sp CT SC TA) sz)) (va_Qv (fun (_ : Unit) => rg p0 0 n) (bW D (va_A (wX q cI cZ cJ k V C T B P A n PR ST li w WK so sp CT SC TA) sz) (fun (_ : Unit) => (wX q cI cZ cJ k V C T B P A n PR ST li w WK so sp CT SC TA))) (va_A (wX q cI cZ cJ k V C T B P A n PR ST li w WK so sp CT SC TA) sz)) (xX D (fun E => E = eIB ∧ ¬ rg p0 0 n) (wX q cI cZ cJ k V C T B P A n PR ST li w WK so sp CT SC TA) (va_A (wX q cI cZ cJ k V C T B P A n PR ST li w WK so sp CT SC TA) sz)) 1 6 (va_A (wX q cI cZ cJ k V C T B P A n PR ST li w WK so sp CT SC TA) sz) := by
  refine vx_ofW (cc := cX0_checkProduct) (maxL := 2) (ret := none) (by decide) rfl ?_
  intro p e s m args below meth c s₁ BB hml hout hv
  obtain ⟨hav, hsz, hP, hK, hD0, hZ, hg⟩ := hv
  subst hsz
  subst hav
  have hx := BB.exec
  have hb := BB.bytes
  have hr := BB.returns
  have hts := atoms_spec (ws := wsX0_checkProduct) BB.pre
  have hown : s.vm.findClass RX0 = some m.cls := findClass_of_methodNamed BB.named
  have hlocks := BB.notSynchronized
  have hin : ∀ w ∈ wsX00, w ∈ wsX0_checkProduct := fun w h => (List.mem_cons_of_mem _ (List.mem_append_left _ (List.mem_append_right _ h)))
  have hD := hD0.self (sz := s.heap.size)
  have hA : ∀ q9 : Nat, s.heap.size ≤ q9 → va_A (wX q cI cZ cJ k V C T B P A n PR ST li w WK so sp CT SC TA) s.heap.size q9 := fun _ h => Or.inr h
  have hl := lv_entry ([.ref (q 0), .int p0]) (n := 2) (Nat.le_of_ble_eq_true rfl)
  rw [lg_entry_eq]
  generalize (lg_sl ([.ref (q 0), .int p0]) ++ List.replicate (2 - (lg_sl ([.ref (q 0), .int p0])).length) Slot.unset).toArray = ls at hl ⊢
  have hl : lv_has ls 2 [(0, .ref (q 0)), (1, .int p0)] := hl
  refine W_absR (fun R hR => ?_)
  have hR : R = ({ frames := 6, cells := 1, slots := 6, locals := 90 } : Room) := hR
  refine W_absQ (fun Q hQ => ?_)
  generalize ([.ref (q 0), .int p0] : List Value).toArray = args at hts hQ ⊢
  generalize va_A (wX q cI cZ cJ k V C T B P A n PR ST li w WK so sp CT SC TA) s.heap.size = A9 at hD hZ hA hQ
  refine W_start hP (A := A9) (fun H locs hP hS => ?_)
  refine lv_iload_n hx hb dX0_checkProduct_0 rfl (lv_at hl 1 rfl) ?_
  refine lv_if_lt (tgt := 12) hx hb dX0_checkProduct_1 (by decide) (fun c1 => ?_) (fun c1 => ?_)
  · have hno : ¬ rg p0 0 n := by rw [rg_iff (by omega)]; simp only [Int32.lt_iff_toInt_lt, Int32.le_iff_toInt_le, Int32.toInt_zero] at c1; omega
    subst hQ
    exact k_throw hx hb hst (cls := eIB) hown (by decide +kernel) (hts _ (List.mem_of_getElem? (i := 1) rfl)) (hts _ (List.mem_of_getElem? (i := 2) rfl)) (hg.1 (186, "no such product") (by decide)) (k_hat (fun w h => hts w (List.mem_cons_of_mem _ (List.mem_append_right _ h))) (by decide +kernel) hg.2.2.2.1 hg) (by decide +kernel) hZ hS (hl.1.trans hml.symm) dX0_checkProduct_12 dX0_checkProduct_15 dX0_checkProduct_16 dX0_checkProduct_18 dX0_checkProduct_21 hout (by rw [hR]; exact Nat.le_of_ble_eq_true rfl) (by rw [hR]; exact Nat.le_of_ble_eq_true rfl) (by rw [hR]; exact Nat.le_of_ble_eq_true rfl) (by rw [hR]; exact Nat.le_of_ble_eq_true rfl) hlocks hP hD (⟨rfl, hno⟩) (Nat.le_of_ble_eq_true rfl) (Nat.le_of_ble_eq_true rfl)
  · refine lv_iload_n hx hb dX0_checkProduct_4 rfl (lv_at hl 1 rfl) ?_
    refine lv_aload_n hx hb dX0_checkProduct_5 rfl (lv_at hl 0 rfl) ?_
    refine gfX hx hb hts hin hown hK hP 7 (by decide) (List.mem_of_getElem? (i := 3) rfl) rfl rfl dX0_checkProduct_6 ?_
    refine lv_icmp_lt (tgt := 22) hx hb dX0_checkProduct_9 (by decide) (fun c9 => ?_) (fun c9 => ?_)
    · subst hQ
      exact vx_ret (e_v () hx hb hr hlocks hS hP hD (by rw [rg_iff (by omega)]; simp only [Int32.lt_iff_toInt_lt, Int32.le_iff_toInt_le, Int32.toInt_zero, nI_toInt (show n < 2 ^ 31 by omega)] at c1 c9; omega) (Nat.le_of_ble_eq_true rfl) (Nat.le_of_ble_eq_true rfl) dX0_checkProduct_22)
    · have hno : ¬ rg p0 0 n := by rw [rg_iff (by omega)]; simp only [Int32.lt_iff_toInt_lt, Int32.le_iff_toInt_le, Int32.toInt_zero, nI_toInt (show n < 2 ^ 31 by omega)] at c9; omega
      subst hQ
      exact k_throw hx hb hst (cls := eIB) hown (by decide +kernel) (hts _ (List.mem_of_getElem? (i := 1) rfl)) (hts _ (List.mem_of_getElem? (i := 2) rfl)) (hg.1 (186, "no such product") (by decide)) (k_hat (fun w h => hts w (List.mem_cons_of_mem _ (List.mem_append_right _ h))) (by decide +kernel) hg.2.2.2.1 hg) (by decide +kernel) hZ hS (hl.1.trans hml.symm) dX0_checkProduct_12 dX0_checkProduct_15 dX0_checkProduct_16 dX0_checkProduct_18 dX0_checkProduct_21 hout (by rw [hR]; exact Nat.le_of_ble_eq_true rfl) (by rw [hR]; exact Nat.le_of_ble_eq_true rfl) (by rw [hR]; exact Nat.le_of_ble_eq_true rfl) (by rw [hR]; exact Nat.le_of_ble_eq_true rfl) hlocks hP hD (⟨rfl, hno⟩) (Nat.le_of_ble_eq_true rfl) (Nat.le_of_ble_eq_true rfl)
theorem hd_X0_checkProduct : yX0_checkProduct.cls = RX0 ∧ yX0_checkProduct.cls ≠ "java/lang/invoke/MethodHandle" ∧ yX0_checkProduct.cls ≠ "java/lang/invoke/VarHandle" ∧ (parseMethodDescriptor yX0_checkProduct.desc).map (fun d => d.parameters.length) = some 1 := by decide +kernel

set_option maxHeartbeats 4000000 in
set_option maxRecDepth 100000 in
theorem c_X0_checkMany (l : Launch) (hst : l.stackTraces = false) (D : va_G) (q : Nat → Nat) (cI cZ cJ : ClassId) (k : Nat) (V : Nat → Nat) (C : Nat → Nat) (T : Nat → Nat) (B : Nat → Nat) (P : Nat → Nat) (A : Nat → Nat) (n : Nat) (PR : Nat → Nat) (ST : Nat → Nat) (li : Nat) (w : Nat) (WK : Nat → Nat) (so : Nat) (sp : Nat) (CT : Nat → Int64) (SC : Nat → Int) (TA : Nat → Nat) (sz : Nat) (p0 : Int32) : vx_Met l yX0_checkMany wsX0_checkMany ({ frames := 6, cells := 1, slots := 6, locals := 90 }) (va_Pc [.int p0] (cxP D (ty3 cI cZ cJ) (wX q cI cZ cJ k V C T B P A n PR ST li w WK so sp CT SC TA) sz)) (va_Qv (fun (_ : Unit) => rg p0 0 61) (bW D (va_A (wX q cI cZ cJ k V C T B P A n PR ST li w WK so sp CT SC TA) sz) (fun (_ : Unit) => (wX q cI cZ cJ k V C T B P A n PR ST li w WK so sp CT SC TA))) (va_A (wX q cI cZ cJ k V C T B P A n PR ST li w WK so sp CT SC TA) sz)) (xX D (fun E => E = eIA ∧ ¬ rg p0 0 61) (wX q cI cZ cJ k V C T B P A n PR ST li w WK so sp CT SC TA) (va_A (wX q cI cZ cJ k V C T B P A n PR ST li w WK so sp CT SC TA) sz)) 1 6 (va_A (wX q cI cZ cJ k V C T B P A n PR ST li w WK so sp CT SC TA) sz) := by
  refine vx_ofW (cc := cX0_checkMany) (maxL := 1) (ret := none) (by decide) rfl ?_
  intro p e s m args below meth c s₁ BB hml hout hv
  obtain ⟨hav, hsz, hP, hK, hD0, hZ, hg⟩ := hv
  subst hsz
  subst hav
  have hx := BB.exec
  have hb := BB.bytes
  have hr := BB.returns
  have hts := atoms_spec (ws := wsX0_checkMany) BB.pre
  have hown : s.vm.findClass RX0 = some m.cls := findClass_of_methodNamed BB.named
  have hlocks := BB.notSynchronized
  have hD := hD0.self (sz := s.heap.size)
  have hA : ∀ q9 : Nat, s.heap.size ≤ q9 → va_A (wX q cI cZ cJ k V C T B P A n PR ST li w WK so sp CT SC TA) s.heap.size q9 := fun _ h => Or.inr h
  have hl := lv_entry ([.int p0]) (n := 1) (Nat.le_of_ble_eq_true rfl)
  rw [lg_entry_eq]
  generalize (lg_sl ([.int p0]) ++ List.replicate (1 - (lg_sl ([.int p0])).length) Slot.unset).toArray = ls at hl ⊢
  have hl : lv_has ls 1 [(0, .int p0)] := hl
  refine W_absR (fun R hR => ?_)
  have hR : R = ({ frames := 6, cells := 1, slots := 6, locals := 90 } : Room) := hR
  refine W_absQ (fun Q hQ => ?_)
  generalize ([.int p0] : List Value).toArray = args at hts hQ ⊢
  generalize va_A (wX q cI cZ cJ k V C T B P A n PR ST li w WK so sp CT SC TA) s.heap.size = A9 at hD hZ hA hQ
  refine W_start hP (A := A9) (fun H locs hP hS => ?_)
  refine lv_iload_n hx hb dX0_checkMany_0 rfl (lv_at hl 0 rfl) ?_
  refine lv_if_lt (tgt := 10) hx hb dX0_checkMany_1 (by decide) (fun c1 => ?_) (fun c1 => ?_)
  · have hno : ¬ rg p0 0 61 := by rw [rg_iff (by omega)]; simp only [Int32.lt_iff_toInt_lt, Int32.le_iff_toInt_le, Int32.toInt_zero] at c1; omega
    subst hQ
    exact k_throw hx hb hst (cls := eIA) hown (by decide +kernel) (hts _ (List.mem_of_getElem? (i := 1) rfl)) (hts _ (List.mem_of_getElem? (i := 2) rfl)) (hg.1 (188, "many is not 0 to 60") (by decide)) (k_hat (fun w h => hts w (List.mem_cons_of_mem _ (List.mem_append_right _ h))) (by decide +kernel) hg.2.1 hg) (by decide +kernel) hZ hS (hl.1.trans hml.symm) dX0_checkMany_10 dX0_checkMany_13 dX0_checkMany_14 dX0_checkMany_16 dX0_checkMany_19 hout (by rw [hR]; exact Nat.le_of_ble_eq_true rfl) (by rw [hR]; exact Nat.le_of_ble_eq_true rfl) (by rw [hR]; exact Nat.le_of_ble_eq_true rfl) (by rw [hR]; exact Nat.le_of_ble_eq_true rfl) hlocks hP hD (⟨rfl, hno⟩) (Nat.le_of_ble_eq_true rfl) (Nat.le_of_ble_eq_true rfl)
  · refine lv_iload_n hx hb dX0_checkMany_4 rfl (lv_at hl 0 rfl) ?_
    refine lv_bipush (v := nI 60) hx hb dX0_checkMany_5 (by decide) ?_
    refine lv_icmp_le (tgt := 20) hx hb dX0_checkMany_7 (by decide) (fun c7 => ?_) (fun c7 => ?_)
    · subst hQ
      exact vx_ret (e_v () hx hb hr hlocks hS hP hD (by rw [rg_iff (by omega)]; simp only [Int32.lt_iff_toInt_lt, Int32.le_iff_toInt_le, Int32.toInt_zero, nI_toInt (show 60 < 2 ^ 31 by omega)] at c1 c7; omega) (Nat.le_of_ble_eq_true rfl) (Nat.le_of_ble_eq_true rfl) dX0_checkMany_20)
    · have hno : ¬ rg p0 0 61 := by rw [rg_iff (by omega)]; simp only [Int32.lt_iff_toInt_lt, Int32.le_iff_toInt_le, Int32.toInt_zero, nI_toInt (show 60 < 2 ^ 31 by omega)] at c7; omega
      subst hQ
      exact k_throw hx hb hst (cls := eIA) hown (by decide +kernel) (hts _ (List.mem_of_getElem? (i := 1) rfl)) (hts _ (List.mem_of_getElem? (i := 2) rfl)) (hg.1 (188, "many is not 0 to 60") (by decide)) (k_hat (fun w h => hts w (List.mem_cons_of_mem _ (List.mem_append_right _ h))) (by decide +kernel) hg.2.1 hg) (by decide +kernel) hZ hS (hl.1.trans hml.symm) dX0_checkMany_10 dX0_checkMany_13 dX0_checkMany_14 dX0_checkMany_16 dX0_checkMany_19 hout (by rw [hR]; exact Nat.le_of_ble_eq_true rfl) (by rw [hR]; exact Nat.le_of_ble_eq_true rfl) (by rw [hR]; exact Nat.le_of_ble_eq_true rfl) (by rw [hR]; exact Nat.le_of_ble_eq_true rfl) hlocks hP hD (⟨rfl, hno⟩) (Nat.le_of_ble_eq_true rfl) (Nat.le_of_ble_eq_true rfl)
theorem hd_X0_checkMany : yX0_checkMany.cls = RX0 ∧ yX0_checkMany.cls ≠ "java/lang/invoke/MethodHandle" ∧ yX0_checkMany.cls ≠ "java/lang/invoke/VarHandle" ∧ (parseMethodDescriptor yX0_checkMany.desc).map (fun d => d.parameters.length) = some 1 := by decide +kernel

set_option maxHeartbeats 4000000 in
set_option maxRecDepth 100000 in
theorem c_X0_checkAmount (l : Launch) (hst : l.stackTraces = false) (D : va_G) (q : Nat → Nat) (cI cZ cJ : ClassId) (k : Nat) (V : Nat → Nat) (C : Nat → Nat) (T : Nat → Nat) (B : Nat → Nat) (P : Nat → Nat) (A : Nat → Nat) (n : Nat) (PR : Nat → Nat) (ST : Nat → Nat) (li : Nat) (w : Nat) (WK : Nat → Nat) (so : Nat) (sp : Nat) (CT : Nat → Int64) (SC : Nat → Int) (TA : Nat → Nat) (sz : Nat) (p0 : Int32) : vx_Met l yX0_checkAmount wsX0_checkAmount ({ frames := 6, cells := 1, slots := 6, locals := 90 }) (va_Pc [.int p0] (cxP D (ty3 cI cZ cJ) (wX q cI cZ cJ k V C T B P A n PR ST li w WK so sp CT SC TA) sz)) (va_Qv (fun (_ : Unit) => rg p0 0 2001) (bW D (va_A (wX q cI cZ cJ k V C T B P A n PR ST li w WK so sp CT SC TA) sz) (fun (_ : Unit) => (wX q cI cZ cJ k V C T B P A n PR ST li w WK so sp CT SC TA))) (va_A (wX q cI cZ cJ k V C T B P A n PR ST li w WK so sp CT SC TA) sz)) (xX D (fun E => E = eIA ∧ ¬ rg p0 0 2001) (wX q cI cZ cJ k V C T B P A n PR ST li w WK so sp CT SC TA) (va_A (wX q cI cZ cJ k V C T B P A n PR ST li w WK so sp CT SC TA) sz)) 1 6 (va_A (wX q cI cZ cJ k V C T B P A n PR ST li w WK so sp CT SC TA) sz) := by
  refine vx_ofW (cc := cX0_checkAmount) (maxL := 1) (ret := none) (by decide) rfl ?_
  intro p e s m args below meth c s₁ BB hml hout hv
  obtain ⟨hav, hsz, hP, hK, hD0, hZ, hg⟩ := hv
  subst hsz
  subst hav
  have hx := BB.exec
  have hb := BB.bytes
  have hr := BB.returns
  have hts := atoms_spec (ws := wsX0_checkAmount) BB.pre
  have hown : s.vm.findClass RX0 = some m.cls := findClass_of_methodNamed BB.named
  have hlocks := BB.notSynchronized
  have hD := hD0.self (sz := s.heap.size)
  have hA : ∀ q9 : Nat, s.heap.size ≤ q9 → va_A (wX q cI cZ cJ k V C T B P A n PR ST li w WK so sp CT SC TA) s.heap.size q9 := fun _ h => Or.inr h
  have hl := lv_entry ([.int p0]) (n := 1) (Nat.le_of_ble_eq_true rfl)
  rw [lg_entry_eq]
  generalize (lg_sl ([.int p0]) ++ List.replicate (1 - (lg_sl ([.int p0])).length) Slot.unset).toArray = ls at hl ⊢
  have hl : lv_has ls 1 [(0, .int p0)] := hl
  refine W_absR (fun R hR => ?_)
  have hR : R = ({ frames := 6, cells := 1, slots := 6, locals := 90 } : Room) := hR
  refine W_absQ (fun Q hQ => ?_)
  generalize ([.int p0] : List Value).toArray = args at hts hQ ⊢
  generalize va_A (wX q cI cZ cJ k V C T B P A n PR ST li w WK so sp CT SC TA) s.heap.size = A9 at hD hZ hA hQ
  refine W_start hP (A := A9) (fun H locs hP hS => ?_)
  refine lv_iload_n hx hb dX0_checkAmount_0 rfl (lv_at hl 0 rfl) ?_
  refine lv_if_lt (tgt := 11) hx hb dX0_checkAmount_1 (by decide) (fun c1 => ?_) (fun c1 => ?_)
  · have hno : ¬ rg p0 0 2001 := by rw [rg_iff (by omega)]; simp only [Int32.lt_iff_toInt_lt, Int32.le_iff_toInt_le, Int32.toInt_zero] at c1; omega
    subst hQ
    exact k_throw hx hb hst (cls := eIA) hown (by decide +kernel) (hts _ (List.mem_of_getElem? (i := 1) rfl)) (hts _ (List.mem_of_getElem? (i := 2) rfl)) (hg.1 (194, "amount is not 0 to 2000") (by decide)) (k_hat (fun w h => hts w (List.mem_cons_of_mem _ (List.mem_append_right _ h))) (by decide +kernel) hg.2.1 hg) (by decide +kernel) hZ hS (hl.1.trans hml.symm) dX0_checkAmount_11 dX0_checkAmount_14 dX0_checkAmount_15 dX0_checkAmount_17 dX0_checkAmount_20 hout (by rw [hR]; exact Nat.le_of_ble_eq_true rfl) (by rw [hR]; exact Nat.le_of_ble_eq_true rfl) (by rw [hR]; exact Nat.le_of_ble_eq_true rfl) (by rw [hR]; exact Nat.le_of_ble_eq_true rfl) hlocks hP hD (⟨rfl, hno⟩) (Nat.le_of_ble_eq_true rfl) (Nat.le_of_ble_eq_true rfl)
  · refine lv_iload_n hx hb dX0_checkAmount_4 rfl (lv_at hl 0 rfl) ?_
    refine lv_sipush (v := nI 2000) hx hb dX0_checkAmount_5 (by decide) ?_
    refine lv_icmp_le (tgt := 21) hx hb dX0_checkAmount_8 (by decide) (fun c8 => ?_) (fun c8 => ?_)
    · subst hQ
      exact vx_ret (e_v () hx hb hr hlocks hS hP hD (by rw [rg_iff (by omega)]; simp only [Int32.lt_iff_toInt_lt, Int32.le_iff_toInt_le, Int32.toInt_zero, nI_toInt (show 2000 < 2 ^ 31 by omega)] at c1 c8; omega) (Nat.le_of_ble_eq_true rfl) (Nat.le_of_ble_eq_true rfl) dX0_checkAmount_21)
    · have hno : ¬ rg p0 0 2001 := by rw [rg_iff (by omega)]; simp only [Int32.lt_iff_toInt_lt, Int32.le_iff_toInt_le, Int32.toInt_zero, nI_toInt (show 2000 < 2 ^ 31 by omega)] at c8; omega
      subst hQ
      exact k_throw hx hb hst (cls := eIA) hown (by decide +kernel) (hts _ (List.mem_of_getElem? (i := 1) rfl)) (hts _ (List.mem_of_getElem? (i := 2) rfl)) (hg.1 (194, "amount is not 0 to 2000") (by decide)) (k_hat (fun w h => hts w (List.mem_cons_of_mem _ (List.mem_append_right _ h))) (by decide +kernel) hg.2.1 hg) (by decide +kernel) hZ hS (hl.1.trans hml.symm) dX0_checkAmount_11 dX0_checkAmount_14 dX0_checkAmount_15 dX0_checkAmount_17 dX0_checkAmount_20 hout (by rw [hR]; exact Nat.le_of_ble_eq_true rfl) (by rw [hR]; exact Nat.le_of_ble_eq_true rfl) (by rw [hR]; exact Nat.le_of_ble_eq_true rfl) (by rw [hR]; exact Nat.le_of_ble_eq_true rfl) hlocks hP hD (⟨rfl, hno⟩) (Nat.le_of_ble_eq_true rfl) (Nat.le_of_ble_eq_true rfl)
theorem hd_X0_checkAmount : yX0_checkAmount.cls = RX0 ∧ yX0_checkAmount.cls ≠ "java/lang/invoke/MethodHandle" ∧ yX0_checkAmount.cls ≠ "java/lang/invoke/VarHandle" ∧ (parseMethodDescriptor yX0_checkAmount.desc).map (fun d => d.parameters.length) = some 1 := by decide +kernel

set_option maxHeartbeats 4000000 in
set_option maxRecDepth 100000 in
theorem c_X0_checkPriceAndStock (l : Launch) (hst : l.stackTraces = false) (D : va_G) (q : Nat → Nat) (cI cZ cJ : ClassId) (k : Nat) (V : Nat → Nat) (C : Nat → Nat) (T : Nat → Nat) (B : Nat → Nat) (P : Nat → Nat) (A : Nat → Nat) (n : Nat) (PR : Nat → Nat) (ST : Nat → Nat) (li : Nat) (w : Nat) (WK : Nat → Nat) (so : Nat) (sp : Nat) (CT : Nat → Int64) (SC : Nat → Int) (TA : Nat → Nat) (sz : Nat) (p0 : Int32) (p1 : Int32) : vx_Met l yX0_checkPriceAndStock wsX0_checkPriceAndStock ({ frames := 6, cells := 1, slots := 6, locals := 90 }) (va_Pc [.int p0, .int p1] (cxP D (ty3 cI cZ cJ) (wX q cI cZ cJ k V C T B P A n PR ST li w WK so sp CT SC TA) sz)) (va_Qv (fun (_ : Unit) => rg p0 1 2001 ∧ rg p1 0 100) (bW D (va_A (wX q cI cZ cJ k V C T B P A n PR ST li w WK so sp CT SC TA) sz) (fun (_ : Unit) => (wX q cI cZ cJ k V C T B P A n PR ST li w WK so sp CT SC TA))) (va_A (wX q cI cZ cJ k V C T B P A n PR ST li w WK so sp CT SC TA) sz)) (xX D (fun E => E = eIA ∧ ¬ (rg p0 1 2001 ∧ rg p1 0 100)) (wX q cI cZ cJ k V C T B P A n PR ST li w WK so sp CT SC TA) (va_A (wX q cI cZ cJ k V C T B P A n PR ST li w WK so sp CT SC TA) sz)) 1 6 (va_A (wX q cI cZ cJ k V C T B P A n PR ST li w WK so sp CT SC TA) sz) := by
  refine vx_ofW (cc := cX0_checkPriceAndStock) (maxL := 2) (ret := none) (by decide) rfl ?_
  intro p e s m args below meth c s₁ BB hml hout hv
  obtain ⟨hav, hsz, hP, hK, hD0, hZ, hg⟩ := hv
  subst hsz
  subst hav
  have hx := BB.exec
  have hb := BB.bytes
  have hr := BB.returns
  have hts := atoms_spec (ws := wsX0_checkPriceAndStock) BB.pre
  have hown : s.vm.findClass RX0 = some m.cls := findClass_of_methodNamed BB.named
  have hlocks := BB.notSynchronized
  have hD := hD0.self (sz := s.heap.size)
  have hA : ∀ q9 : Nat, s.heap.size ≤ q9 → va_A (wX q cI cZ cJ k V C T B P A n PR ST li w WK so sp CT SC TA) s.heap.size q9 := fun _ h => Or.inr h
  have hl := lv_entry ([.int p0, .int p1]) (n := 2) (Nat.le_of_ble_eq_true rfl)
  rw [lg_entry_eq]
  generalize (lg_sl ([.int p0, .int p1]) ++ List.replicate (2 - (lg_sl ([.int p0, .int p1])).length) Slot.unset).toArray = ls at hl ⊢
  have hl : lv_has ls 2 [(0, .int p0), (1, .int p1)] := hl
  refine W_absR (fun R hR => ?_)
  have hR : R = ({ frames := 6, cells := 1, slots := 6, locals := 90 } : Room) := hR
  refine W_absQ (fun Q hQ => ?_)
  generalize ([.int p0, .int p1] : List Value).toArray = args at hts hQ ⊢
  generalize va_A (wX q cI cZ cJ k V C T B P A n PR ST li w WK so sp CT SC TA) s.heap.size = A9 at hD hZ hA hQ
  refine W_start hP (A := A9) (fun H locs hP hS => ?_)
  refine lv_iload_n hx hb dX0_checkPriceAndStock_0 rfl (lv_at hl 0 rfl) ?_
  refine lv_iconst (v := nI 1) hx hb dX0_checkPriceAndStock_1 (ic_1) ?_
  refine lv_icmp_lt (tgt := 12) hx hb dX0_checkPriceAndStock_2 (by decide) (fun c2 => ?_) (fun c2 => ?_)
  · have hno : ¬ rg p0 1 2001 := by rw [rg_iff (by omega)]; simp only [Int32.lt_iff_toInt_lt, Int32.le_iff_toInt_le, Int32.toInt_zero, nI_toInt (show 1 < 2 ^ 31 by omega)] at c2; omega
    subst hQ
    exact k_throw hx hb hst (cls := eIA) hown (by decide +kernel) (hts _ (List.mem_of_getElem? (i := 1) rfl)) (hts _ (List.mem_of_getElem? (i := 2) rfl)) (hg.1 (190, "price is not 1 to 2000") (by decide)) (k_hat (fun w h => hts w (List.mem_cons_of_mem _ (List.mem_append_right _ h))) (by decide +kernel) hg.2.1 hg) (by decide +kernel) hZ hS (hl.1.trans hml.symm) dX0_checkPriceAndStock_12 dX0_checkPriceAndStock_15 dX0_checkPriceAndStock_16 dX0_checkPriceAndStock_18 dX0_checkPriceAndStock_21 hout (by rw [hR]; exact Nat.le_of_ble_eq_true rfl) (by rw [hR]; exact Nat.le_of_ble_eq_true rfl) (by rw [hR]; exact Nat.le_of_ble_eq_true rfl) (by rw [hR]; exact Nat.le_of_ble_eq_true rfl) hlocks hP hD (⟨rfl, fun h => hno h.1⟩) (Nat.le_of_ble_eq_true rfl) (Nat.le_of_ble_eq_true rfl)
  · refine lv_iload_n hx hb dX0_checkPriceAndStock_5 rfl (lv_at hl 0 rfl) ?_
    refine lv_sipush (v := nI 2000) hx hb dX0_checkPriceAndStock_6 (by decide) ?_
    refine lv_icmp_le (tgt := 22) hx hb dX0_checkPriceAndStock_9 (by decide) (fun c9 => ?_) (fun c9 => ?_)
    · refine lv_iload_n hx hb dX0_checkPriceAndStock_22 rfl (lv_at hl 1 rfl) ?_
      refine lv_if_lt (tgt := 32) hx hb dX0_checkPriceAndStock_23 (by decide) (fun c23 => ?_) (fun c23 => ?_)
      · have hno : ¬ rg p1 0 100 := by rw [rg_iff (by omega)]; simp only [Int32.lt_iff_toInt_lt, Int32.le_iff_toInt_le, Int32.toInt_zero] at c23; omega
        subst hQ
        exact k_throw hx hb hst (cls := eIA) hown (by decide +kernel) (hts _ (List.mem_of_getElem? (i := 1) rfl)) (hts _ (List.mem_of_getElem? (i := 2) rfl)) (hg.1 (192, "stock is not 0 to 99") (by decide)) (k_hat (fun w h => hts w (List.mem_cons_of_mem _ (List.mem_append_right _ h))) (by decide +kernel) hg.2.1 hg) (by decide +kernel) hZ hS (hl.1.trans hml.symm) dX0_checkPriceAndStock_32 dX0_checkPriceAndStock_35 dX0_checkPriceAndStock_36 dX0_checkPriceAndStock_38 dX0_checkPriceAndStock_41 hout (by rw [hR]; exact Nat.le_of_ble_eq_true rfl) (by rw [hR]; exact Nat.le_of_ble_eq_true rfl) (by rw [hR]; exact Nat.le_of_ble_eq_true rfl) (by rw [hR]; exact Nat.le_of_ble_eq_true rfl) hlocks hP hD (⟨rfl, fun h => hno h.2⟩) (Nat.le_of_ble_eq_true rfl) (Nat.le_of_ble_eq_true rfl)
      · refine lv_iload_n hx hb dX0_checkPriceAndStock_26 rfl (lv_at hl 1 rfl) ?_
        refine lv_bipush (v := nI 99) hx hb dX0_checkPriceAndStock_27 (by decide) ?_
        refine lv_icmp_le (tgt := 42) hx hb dX0_checkPriceAndStock_29 (by decide) (fun c29 => ?_) (fun c29 => ?_)
        · subst hQ
          exact vx_ret (e_v () hx hb hr hlocks hS hP hD (⟨by rw [rg_iff (by omega)]; simp only [Int32.lt_iff_toInt_lt, Int32.le_iff_toInt_le, Int32.toInt_zero, nI_toInt (show 1 < 2 ^ 31 by omega), nI_toInt (show 2000 < 2 ^ 31 by omega)] at c2 c9; omega, by rw [rg_iff (by omega)]; simp only [Int32.lt_iff_toInt_lt, Int32.le_iff_toInt_le, Int32.toInt_zero, nI_toInt (show 99 < 2 ^ 31 by omega)] at c23 c29; omega⟩) (Nat.le_of_ble_eq_true rfl) (Nat.le_of_ble_eq_true rfl) dX0_checkPriceAndStock_42)
        · have hno : ¬ rg p1 0 100 := by rw [rg_iff (by omega)]; simp only [Int32.lt_iff_toInt_lt, Int32.le_iff_toInt_le, Int32.toInt_zero, nI_toInt (show 99 < 2 ^ 31 by omega)] at c29; omega
          subst hQ
          exact k_throw hx hb hst (cls := eIA) hown (by decide +kernel) (hts _ (List.mem_of_getElem? (i := 1) rfl)) (hts _ (List.mem_of_getElem? (i := 2) rfl)) (hg.1 (192, "stock is not 0 to 99") (by decide)) (k_hat (fun w h => hts w (List.mem_cons_of_mem _ (List.mem_append_right _ h))) (by decide +kernel) hg.2.1 hg) (by decide +kernel) hZ hS (hl.1.trans hml.symm) dX0_checkPriceAndStock_32 dX0_checkPriceAndStock_35 dX0_checkPriceAndStock_36 dX0_checkPriceAndStock_38 dX0_checkPriceAndStock_41 hout (by rw [hR]; exact Nat.le_of_ble_eq_true rfl) (by rw [hR]; exact Nat.le_of_ble_eq_true rfl) (by rw [hR]; exact Nat.le_of_ble_eq_true rfl) (by rw [hR]; exact Nat.le_of_ble_eq_true rfl) hlocks hP hD (⟨rfl, fun h => hno h.2⟩) (Nat.le_of_ble_eq_true rfl) (Nat.le_of_ble_eq_true rfl)
    · have hno : ¬ rg p0 1 2001 := by rw [rg_iff (by omega)]; simp only [Int32.lt_iff_toInt_lt, Int32.le_iff_toInt_le, Int32.toInt_zero, nI_toInt (show 2000 < 2 ^ 31 by omega)] at c9; omega
      subst hQ
      exact k_throw hx hb hst (cls := eIA) hown (by decide +kernel) (hts _ (List.mem_of_getElem? (i := 1) rfl)) (hts _ (List.mem_of_getElem? (i := 2) rfl)) (hg.1 (190, "price is not 1 to 2000") (by decide)) (k_hat (fun w h => hts w (List.mem_cons_of_mem _ (List.mem_append_right _ h))) (by decide +kernel) hg.2.1 hg) (by decide +kernel) hZ hS (hl.1.trans hml.symm) dX0_checkPriceAndStock_12 dX0_checkPriceAndStock_15 dX0_checkPriceAndStock_16 dX0_checkPriceAndStock_18 dX0_checkPriceAndStock_21 hout (by rw [hR]; exact Nat.le_of_ble_eq_true rfl) (by rw [hR]; exact Nat.le_of_ble_eq_true rfl) (by rw [hR]; exact Nat.le_of_ble_eq_true rfl) (by rw [hR]; exact Nat.le_of_ble_eq_true rfl) hlocks hP hD (⟨rfl, fun h => hno h.1⟩) (Nat.le_of_ble_eq_true rfl) (Nat.le_of_ble_eq_true rfl)
theorem hd_X0_checkPriceAndStock : yX0_checkPriceAndStock.cls = RX0 ∧ yX0_checkPriceAndStock.cls ≠ "java/lang/invoke/MethodHandle" ∧ yX0_checkPriceAndStock.cls ≠ "java/lang/invoke/VarHandle" ∧ (parseMethodDescriptor yX0_checkPriceAndStock.desc).map (fun d => d.parameters.length) = some 2 := by decide +kernel

set_option maxHeartbeats 4000000 in
set_option maxRecDepth 100000 in
theorem c_X0_waitingOf (l : Launch) (hst : l.stackTraces = false) (D : va_G) (q : Nat → Nat) (cI cZ cJ : ClassId) (k : Nat) (V : Nat → Nat) (C : Nat → Nat) (T : Nat → Nat) (B : Nat → Nat) (P : Nat → Nat) (A : Nat → Nat) (n : Nat) (PR : Nat → Nat) (ST : Nat → Nat) (li : Nat) (w : Nat) (WK : Nat → Nat) (so : Nat) (sp : Nat) (CT : Nat → Int64) (SC : Nat → Int) (TA : Nat → Nat) (sz : Nat) (kd : Nat) (hw12 : w ≤ 12) (hk8 : k ≤ 8) (hWK : ∀ j, j < w → WK j < k) (hkd : kd < 8) : Met l yX0_waitingOf wsX0_waitingOf ({ frames := 0, cells := 0, slots := 0, locals := 0 }) (va_Pc [.ref (q 0), .int (nI kd)] (cxP D (ty3 cI cZ cJ) (wX q cI cZ cJ k V C T B P A n PR ST li w WK so sp CT SC TA) sz)) (va_Qi (fun r (_ : Unit) => r = nI (wo WK kd w)) (bW D (va_A (wX q cI cZ cJ k V C T B P A n PR ST li w WK so sp CT SC TA) sz) (fun (_ : Unit) => (wX q cI cZ cJ k V C T B P A n PR ST li w WK so sp CT SC TA))) (va_A (wX q cI cZ cJ k V C T B P A n PR ST li w WK so sp CT SC TA) sz)) 0 0 (va_A (wX q cI cZ cJ k V C T B P A n PR ST li w WK so sp CT SC TA) sz) := by
  refine Met.ofW (cc := cX0_waitingOf) (maxL := 4) (ret := (some .int)) (by decide) rfl ?_
  intro p e s m args below meth c s₁ BB hml hv
  obtain ⟨hav, hsz, hP, hK, hD0, hZ, hg⟩ := hv
  subst hsz
  subst hav
  have hx := BB.exec
  have hb := BB.bytes
  have hr := BB.returns
  have hts := atoms_spec (ws := wsX0_waitingOf) BB.pre
  have hown : s.vm.findClass RX0 = some m.cls := findClass_of_methodNamed BB.named
  have hlocks := BB.notSynchronized
  have hin : ∀ w ∈ wsX00, w ∈ wsX0_waitingOf := fun w h => (List.mem_cons_of_mem _ (List.mem_append_right _ h))
  have hD := hD0.self (sz := s.heap.size)
  have hA : ∀ q9 : Nat, s.heap.size ≤ q9 → va_A (wX q cI cZ cJ k V C T B P A n PR ST li w WK so sp CT SC TA) s.heap.size q9 := fun _ h => Or.inr h
  have hl := lv_entry ([.ref (q 0), .int (nI kd)]) (n := 4) (Nat.le_of_ble_eq_true rfl)
  rw [lg_entry_eq]
  generalize (lg_sl ([.ref (q 0), .int (nI kd)]) ++ List.replicate (4 - (lg_sl ([.ref (q 0), .int (nI kd)])).length) Slot.unset).toArray = ls at hl ⊢
  have hl : lv_has ls 4 [(0, .ref (q 0)), (1, .int (nI kd))] := hl
  refine W_absR (fun R hR => ?_)
  have hR : R = ({ frames := 0, cells := 0, slots := 0, locals := 0 } : Room) := hR
  refine W_absQ (fun Q hQ => ?_)
  generalize ([.ref (q 0), .int (nI kd)] : List Value).toArray = args at hts hQ ⊢
  generalize va_A (wX q cI cZ cJ k V C T B P A n PR ST li w WK so sp CT SC TA) s.heap.size = A9 at hD hZ hA hQ
  refine W_start hP (A := A9) (fun H locs hP hS => ?_)
  refine lv_iconst (v := nI 0) hx hb dX0_waitingOf_0 (ic_0) ?_
  refine lv_istore_n (lv' := [(2, .int (nI 0)), (0, .ref (q 0)), (1, .int (nI kd))]) hx hb dX0_waitingOf_1 rfl hl (by decide) rfl (fun ls hl => ?_)
  refine lv_iconst (v := nI 0) hx hb dX0_waitingOf_2 (ic_0) ?_
  refine lv_istore_n (lv' := [(3, .int (nI 0)), (2, .int (nI 0)), (0, .ref (q 0)), (1, .int (nI kd))]) hx hb dX0_waitingOf_3 rfl hl (by decide) rfl (fun ls hl => ?_)
  have lp_4 : ∀ (fu_4 : Nat) (j : Nat) (mny : Nat), w - j < fu_4 → (j ≤ w) → (mny = wo WK kd j) → ∀ (H : Heap) (locs : List Loc), va_P D vwCl (wX q cI cZ cJ k V C T B P A n PR ST li w WK so sp CT SC TA) H → va_D A9 (wX q cI cZ cJ k V C T B P A n PR ST li w WK so sp CT SC TA) → va_S A9 s.heap H locs → ∀ ls : Array Slot, lv_has ls 4 [(3, .int (nI j)), (2, .int (nI mny)), (0, .ref (q 0)), (1, .int (nI kd))] → W p l e R s m args below meth c H locs 0 0 Q (F0 m 4 ls []) := by
    intro fu_4
    induction fu_4 with
    | zero =>
      intro j mny hfu_4
      exact absurd hfu_4 (Nat.not_lt_zero _)
    | succ fu_4 ih_4 =>
      intro j mny hfu_4 hj hm H locs hP hD hS ls hl
      refine lv_iload_n hx hb dX0_waitingOf_4 rfl (lv_at hl 0 rfl) ?_
      refine lv_aload_n hx hb dX0_waitingOf_5 rfl (lv_at hl 2 rfl) ?_
      refine gfX hx hb hts hin hown hK hP 11 (by decide) (List.mem_of_getElem? (i := 1) rfl) rfl rfl dX0_waitingOf_6 ?_
      refine n_icmp_ge (tgt := 31) hx hb (by omega) (by omega) dX0_waitingOf_9 (by decide) (fun c9 => ?_) (fun c9 => ?_)
      · have hjw : j = w := by omega
        refine lv_iload_n hx hb dX0_waitingOf_31 rfl (lv_at hl 1 rfl) ?_
        subst hQ
        exact e_i () hx hb hr hlocks hS hP hD (by rw [hm, hjw]) (Nat.le_of_ble_eq_true rfl) (Nat.le_of_ble_eq_true rfl) dX0_waitingOf_32
      · refine lv_aload_n hx hb dX0_waitingOf_12 rfl (lv_at hl 2 rfl) ?_
        refine gfX hx hb hts hin hown hK hP 12 (by decide) (List.mem_of_getElem? (i := 2) rfl) rfl rfl dX0_waitingOf_13 ?_
        refine lv_iload_n hx hb dX0_waitingOf_16 rfl (lv_at hl 0 rfl) ?_
        refine n_iald hx hb hK hP 9 0 rfl rfl (by omega) (by decide) dX0_waitingOf_17 ?_
        refine lv_iload_n hx hb dX0_waitingOf_18 rfl (lv_at hl 3 rfl) ?_
        refine n_icmp_ne (tgt := 25) hx hb (by have := hWK j (by omega); omega) (by omega) dX0_waitingOf_19 (by decide) (fun c19 => ?_) (fun c19 => ?_)
        · have hwo := wo_n (WK := WK) c19
          refine lv_iinc (v := nI (j + 1)) (lv' := [(3, .int (nI (j + 1))), (2, .int (nI mny)), (0, .ref (q 0)), (1, .int (nI kd))]) hx hb dX0_waitingOf_25 hl (k := 0) rfl (ni_inc _ 1) (by decide) rfl (fun ls hl => ?_)
          refine lv_goto (tgt := 4) hx hb dX0_waitingOf_28 (by decide) ?_
          exact ih_4 (j + 1) mny (by omega) (by omega) (by omega) _ _ hP hD hS ls (lv_sub hl [0, 1, 2, 3] rfl)
        · have hwo := wo_y (WK := WK) c19
          refine lv_iinc (v := nI (mny + 1)) (lv' := [(2, .int (nI (mny + 1))), (3, .int (nI j)), (0, .ref (q 0)), (1, .int (nI kd))]) hx hb dX0_waitingOf_22 hl (k := 1) rfl (ni_inc _ 1) (by decide) rfl (fun ls hl => ?_)
          refine lv_iinc (v := nI (j + 1)) (lv' := [(3, .int (nI (j + 1))), (2, .int (nI (mny + 1))), (0, .ref (q 0)), (1, .int (nI kd))]) hx hb dX0_waitingOf_25 hl (k := 1) rfl (ni_inc _ 1) (by decide) rfl (fun ls hl => ?_)
          refine lv_goto (tgt := 4) hx hb dX0_waitingOf_28 (by decide) ?_
          exact ih_4 (j + 1) (mny + 1) (by omega) (by omega) (by omega) _ _ hP hD hS ls (lv_sub hl [0, 1, 2, 3] rfl)
  exact lp_4 _ 0 0 (Nat.lt_succ_self _) (by omega) rfl _ _ hP hD hS ls (lv_sub hl [0, 1, 2, 3] rfl)
theorem hd_X0_waitingOf : yX0_waitingOf.cls = RX0 ∧ yX0_waitingOf.cls ≠ "java/lang/invoke/MethodHandle" ∧ yX0_waitingOf.cls ≠ "java/lang/invoke/VarHandle" ∧ (parseMethodDescriptor yX0_waitingOf.desc).map (fun d => d.parameters.length) = some 1 := by decide +kernel

set_option maxHeartbeats 4000000 in
set_option maxRecDepth 100000 in
theorem c_X0_credit (l : Launch) (hst : l.stackTraces = false) (D : va_G) (q : Nat → Nat) (cI cZ cJ : ClassId) (k : Nat) (V : Nat → Nat) (C : Nat → Nat) (T : Nat → Nat) (B : Nat → Nat) (P : Nat → Nat) (A : Nat → Nat) (n : Nat) (PR : Nat → Nat) (ST : Nat → Nat) (li : Nat) (w : Nat) (WK : Nat → Nat) (so : Nat) (sp : Nat) (CT : Nat → Int64) (SC : Nat → Int) (TA : Nat → Nat) (sz : Nat) (hw12 : w ≤ 12) (hk8 : k ≤ 8) (hWK : ∀ j, j < w → WK j < k) (hV : ∀ i, i < k → 1 ≤ V i ∧ V i ≤ 500) : Met l yX0_credit wsX0_credit ({ frames := 1, cells := 0, slots := 0, locals := 23 }) (va_Pc [.ref (q 0)] (cxP D (ty3 cI cZ cJ) (wX q cI cZ cJ k V C T B P A n PR ST li w WK so sp CT SC TA) sz)) (va_Qi (fun r (_ : Unit) => r = nI (crk V WK w k)) (bW D (va_A (wX q cI cZ cJ k V C T B P A n PR ST li w WK so sp CT SC TA) sz) (fun (_ : Unit) => (wX q cI cZ cJ k V C T B P A n PR ST li w WK so sp CT SC TA))) (va_A (wX q cI cZ cJ k V C T B P A n PR ST li w WK so sp CT SC TA) sz)) 0 0 (va_A (wX q cI cZ cJ k V C T B P A n PR ST li w WK so sp CT SC TA) sz) := by
  refine Met.ofW (cc := cX0_credit) (maxL := 3) (ret := (some .int)) (by decide) rfl ?_
  intro p e s m args below meth c s₁ BB hml hv
  obtain ⟨hav, hsz, hP, hK, hD0, hZ, hg⟩ := hv
  subst hsz
  subst hav
  have hx := BB.exec
  have hb := BB.bytes
  have hr := BB.returns
  have hts := atoms_spec (ws := wsX0_credit) BB.pre
  have hown : s.vm.findClass RX0 = some m.cls := findClass_of_methodNamed BB.named
  have hlocks := BB.notSynchronized
  have hin : ∀ w ∈ wsX00, w ∈ wsX0_credit := fun w h => (List.mem_cons_of_mem _ (List.mem_append_right _ h))
  have hD := hD0.self (sz := s.heap.size)
  have hA : ∀ q9 : Nat, s.heap.size ≤ q9 → va_A (wX q cI cZ cJ k V C T B P A n PR ST li w WK so sp CT SC TA) s.heap.size q9 := fun _ h => Or.inr h
  have hl := lv_entry ([.ref (q 0)]) (n := 3) (Nat.le_of_ble_eq_true rfl)
  rw [lg_entry_eq]
  generalize (lg_sl ([.ref (q 0)]) ++ List.replicate (3 - (lg_sl ([.ref (q 0)])).length) Slot.unset).toArray = ls at hl ⊢
  have hl : lv_has ls 3 [(0, .ref (q 0))] := hl
  refine W_absR (fun R hR => ?_)
  have hR : R = ({ frames := 1, cells := 0, slots := 0, locals := 23 } : Room) := hR
  refine W_absQ (fun Q hQ => ?_)
  generalize ([.ref (q 0)] : List Value).toArray = args at hts hQ ⊢
  generalize va_A (wX q cI cZ cJ k V C T B P A n PR ST li w WK so sp CT SC TA) s.heap.size = A9 at hD hZ hA hQ
  refine W_start hP (A := A9) (fun H locs hP hS => ?_)
  refine lv_iconst (v := nI 0) hx hb dX0_credit_0 (ic_0) ?_
  refine lv_istore_n (lv' := [(1, .int (nI 0)), (0, .ref (q 0))]) hx hb dX0_credit_1 rfl hl (by decide) rfl (fun ls hl => ?_)
  refine lv_iconst (v := nI 0) hx hb dX0_credit_2 (ic_0) ?_
  refine lv_istore_n (lv' := [(2, .int (nI 0)), (1, .int (nI 0)), (0, .ref (q 0))]) hx hb dX0_credit_3 rfl hl (by decide) rfl (fun ls hl => ?_)
  have lp_4 : ∀ (fu_4 : Nat) (i : Nat) (su : Nat), k - i < fu_4 → (i ≤ k) → (su = crk V WK w i) → ∀ (H : Heap) (locs : List Loc), va_P D vwCl (wX q cI cZ cJ k V C T B P A n PR ST li w WK so sp CT SC TA) H → va_D A9 (wX q cI cZ cJ k V C T B P A n PR ST li w WK so sp CT SC TA) → va_S A9 s.heap H locs → ∀ ls : Array Slot, lv_has ls 3 [(2, .int (nI i)), (1, .int (nI su)), (0, .ref (q 0))] → W p l e R s m args below meth c H locs 0 0 Q (F0 m 4 ls []) := by
    intro fu_4
    induction fu_4 with
    | zero =>
      intro i su hfu_4
      exact absurd hfu_4 (Nat.not_lt_zero _)
    | succ fu_4 ih_4 =>
      intro i su hfu_4 hi hs H locs hP hD hS ls hl
      refine lv_iload_n hx hb dX0_credit_4 rfl (lv_at hl 0 rfl) ?_
      refine lv_aload_n hx hb dX0_credit_5 rfl (lv_at hl 2 rfl) ?_
      refine gfX hx hb hts hin hown hK hP 0 (by decide) (List.mem_of_getElem? (i := 1) rfl) rfl rfl dX0_credit_6 ?_
      refine n_icmp_ge (tgt := 33) hx hb (by omega) (by omega) dX0_credit_9 (by decide) (fun c9 => ?_) (fun c9 => ?_)
      · have hik : i = k := by omega
        refine lv_iload_n hx hb dX0_credit_33 rfl (lv_at hl 1 rfl) ?_
        subst hQ
        exact e_i () hx hb hr hlocks hS hP hD (by rw [hs, hik]) (Nat.le_of_ble_eq_true rfl) (Nat.le_of_ble_eq_true rfl) dX0_credit_34
      · refine lv_iload_n hx hb dX0_credit_12 rfl (lv_at hl 1 rfl) ?_
        refine lv_aload_n hx hb dX0_credit_13 rfl (lv_at hl 2 rfl) ?_
        refine lv_iload_n hx hb dX0_credit_14 rfl (lv_at hl 0 rfl) ?_
        refine k_i (va_runV (As := [.int (nI i)]) (rest := [.int (nI su)]) ⟨hx, hb, hml, hown, hts⟩ (c_X0_waitingOf l hst D q cI cZ cJ k V C T B P A n PR ST li w WK so sp CT SC TA H.size i hw12 hk8 hWK (by omega)) (cwV 1 hts gX0_credit_X0_waitingOf rfl rfl rfl hd_X0_waitingOf ⟨(by rw [hR]; exact Nat.le_of_ble_eq_true rfl), (by rw [hR]; exact Nat.le_of_ble_eq_true rfl)⟩) (pre_V hP hK hD hS hA hZ hg 0 (ci := 0) rfl rfl) rfl rfl hl.1 rfl (lv_room (Nat.le_of_ble_eq_true rfl)) dX0_credit_15 ⟨(by rw [hR]; exact Nat.le_of_ble_eq_true rfl), (by rw [hR]; exact Nat.le_of_ble_eq_true rfl)⟩) hD hS hA (fun r_2 u_1 H locs hp_3 hP hD hS => ?_)
        subst hp_3
        refine lv_aload_n hx hb dX0_credit_18 rfl (lv_at hl 2 rfl) ?_
        refine gfX hx hb hts hin hown hK hP 1 (by decide) (List.mem_of_getElem? (i := 2) rfl) rfl rfl dX0_credit_19 ?_
        refine lv_iload_n hx hb dX0_credit_22 rfl (lv_at hl 0 rfl) ?_
        refine n_iald hx hb hK hP 1 0 rfl rfl (by omega) (by decide) dX0_credit_23 ?_
        refine n_imul hx hb dX0_credit_24 ?_
        refine n_iadd hx hb dX0_credit_25 ?_
        refine lv_istore_n (lv' := [(1, .int (nI (su + ((wo WK i w) * (V i))))), (2, .int (nI i)), (0, .ref (q 0))]) hx hb dX0_credit_26 rfl hl (by decide) rfl (fun ls hl => ?_)
        refine lv_iinc (v := nI (i + 1)) (lv' := [(2, .int (nI (i + 1))), (1, .int (nI (su + ((wo WK i w) * (V i))))), (0, .ref (q 0))]) hx hb dX0_credit_27 hl (k := 1) rfl (ni_inc _ 1) (by decide) rfl (fun ls hl => ?_)
        refine lv_goto (tgt := 4) hx hb dX0_credit_30 (by decide) ?_
        exact ih_4 (i + 1) (su + ((wo WK i w) * (V i))) (by omega) (by omega) (by rw [hs]; rfl) _ _ hP hD hS ls (lv_sub hl [0, 1, 2] rfl)
  exact lp_4 _ 0 0 (Nat.lt_succ_self _) (by omega) rfl _ _ hP hD hS ls (lv_sub hl [0, 1, 2] rfl)
theorem hd_X0_credit : yX0_credit.cls = RX0 ∧ yX0_credit.cls ≠ "java/lang/invoke/MethodHandle" ∧ yX0_credit.cls ≠ "java/lang/invoke/VarHandle" ∧ (parseMethodDescriptor yX0_credit.desc).map (fun d => d.parameters.length) = some 0 := by decide +kernel
end
section
set_option maxHeartbeats 4000000 in
set_option maxRecDepth 100000 in
theorem c_X0_fill (l : Launch) (hst : l.stackTraces = false) (D : va_G) (q : Nat → Nat) (cI cZ cJ : ClassId) (k : Nat) (V : Nat → Nat) (C : Nat → Nat) (T : Nat → Nat) (B : Nat → Nat) (P : Nat → Nat) (A : Nat → Nat) (n : Nat) (PR : Nat → Nat) (ST : Nat → Nat) (li : Nat) (w : Nat) (WK : Nat → Nat) (so : Nat) (sp : Nat) (CT : Nat → Int64) (SC : Nat → Int) (TA : Nat → Nat) (sz : Nat) (p0 : Int32) (p1 : Int32) (hk8 : k ≤ 8) (hV : ∀ i, i < k → 1 ≤ V i ∧ V i ≤ 500) (hC : ∀ i, i < k → C i ≤ 60 ∧ T i ≤ C i) : vx_Met l yX0_fill wsX0_fill ({ frames := 7, cells := 2, slots := 12, locals := 111 }) (va_Pc [.ref (q 0), .int p0, .int p1] (cxP D (ty3 cI cZ cJ) (wX q cI cZ cJ k V C T B P A n PR ST li w WK so sp CT SC TA) sz)) (va_Qi (fun r (u : Nat × Nat) => r = nI (u.2 - min u.2 (C u.1 - T u.1)) ∧ u.1 < k ∧ u.2 < 61 ∧ p0 = nI u.1 ∧ p1 = nI u.2) (bW D (va_A (wX q cI cZ cJ k V C T B P A n PR ST li w WK so sp CT SC TA) sz) (fun u => (wX q cI cZ cJ k V C (un T u.1 (T u.1 + min u.2 (C u.1 - T u.1))) B P A n PR ST li w WK so sp (vp_updL CT 4 (CT 4 + lZ ((min u.2 (C u.1 - T u.1) * V u.1 : Nat) : Int))) SC TA))) (va_A (wX q cI cZ cJ k V C T B P A n PR ST li w WK so sp CT SC TA) sz)) (xX D (fun E => (E = eIB ∧ ¬ rg p0 0 k) ∨ (E = eIA ∧ rg p0 0 k ∧ ¬ rg p1 0 61)) (wX q cI cZ cJ k V C T B P A n PR ST li w WK so sp CT SC TA) (va_A (wX q cI cZ cJ k V C T B P A n PR ST li w WK so sp CT SC TA) sz)) 2 12 (va_A (wX q cI cZ cJ k V C T B P A n PR ST li w WK so sp CT SC TA) sz) := by
  refine vx_ofW (cc := cX0_fill) (maxL := 4) (ret := (some .int)) (by decide) rfl ?_
  intro p e s m args below meth c s₁ BB hml hout hv
  obtain ⟨hav, hsz, hP, hK, hD0, hZ, hg⟩ := hv
  subst hsz
  subst hav
  have hx := BB.exec
  have hb := BB.bytes
  have hr := BB.returns
  have hts := atoms_spec (ws := wsX0_fill) BB.pre
  have hown : s.vm.findClass RX0 = some m.cls := findClass_of_methodNamed BB.named
  have hlocks := BB.notSynchronized
  have hin : ∀ w ∈ wsX00, w ∈ wsX0_fill := fun w h => (List.mem_cons_of_mem _ (List.mem_append_left _ (List.mem_append_left _ (List.mem_append_right _ h))))
  have hD := hD0.self (sz := s.heap.size)
  have hA : ∀ q9 : Nat, s.heap.size ≤ q9 → va_A (wX q cI cZ cJ k V C T B P A n PR ST li w WK so sp CT SC TA) s.heap.size q9 := fun _ h => Or.inr h
  have hl := lv_entry ([.ref (q 0), .int p0, .int p1]) (n := 4) (Nat.le_of_ble_eq_true rfl)
  rw [lg_entry_eq]
  generalize (lg_sl ([.ref (q 0), .int p0, .int p1]) ++ List.replicate (4 - (lg_sl ([.ref (q 0), .int p0, .int p1])).length) Slot.unset).toArray = ls at hl ⊢
  have hl : lv_has ls 4 [(0, .ref (q 0)), (1, .int p0), (2, .int p1)] := hl
  refine W_absR (fun R hR => ?_)
  have hR : R = ({ frames := 7, cells := 2, slots := 12, locals := 111 } : Room) := hR
  refine W_absQ (fun Q hQ => ?_)
  generalize ([.ref (q 0), .int p0, .int p1] : List Value).toArray = args at hts hQ ⊢
  generalize va_A (wX q cI cZ cJ k V C T B P A n PR ST li w WK so sp CT SC TA) s.heap.size = A9 at hD hZ hA hQ
  refine W_start hP (A := A9) (fun H locs hP hS => ?_)
  refine lv_aload_n hx hb dX0_fill_0 rfl (lv_at hl 0 rfl) ?_
  refine lv_iload_n hx hb dX0_fill_1 rfl (lv_at hl 1 rfl) ?_
  subst hQ
  refine kx_v (vx_runV (As := [.int p0]) (rest := []) ⟨hx, hb, hml, hown, hts⟩ (c_X0_checkKind l hst D q cI cZ cJ k V C T B P A n PR ST li w WK so sp CT SC TA H.size p0 hk8) (cwV 1 hts gX0_fill_X0_checkKind rfl rfl rfl hd_X0_checkKind ⟨(by rw [hR]; exact Nat.le_of_ble_eq_true rfl), (by rw [hR]; exact Nat.le_of_ble_eq_true rfl)⟩) (pre_V hP hK hD hS hA hZ hg 0 (ci := 0) rfl rfl) rfl rfl hl.1 rfl (lv_room (Nat.le_of_ble_eq_true rfl)) dX0_fill_2 ⟨(by rw [hR]; exact Nat.le_of_ble_eq_true rfl), (by rw [hR]; exact Nat.le_of_ble_eq_true rfl)⟩) hD hS hA rfl (fun E h => Or.inl h) hout hlocks (Nat.le_of_ble_eq_true rfl) (Nat.le_of_ble_eq_true rfl) (fun u_1 H locs hp_3 hP hD hS => ?_)
  refine W_absQ (fun Q hQ => ?_)
  obtain ⟨j0, j0a, j0b, rfl⟩ := hp_3
  refine lv_iload_n hx hb dX0_fill_5 rfl (lv_at hl 2 rfl) ?_
  subst hQ
  refine kx_v (vx_runS (As := [.int p1]) (rest := []) ⟨hx, hb, hml, hown, hts⟩ (c_X0_checkMany l hst D q cI cZ cJ k V C T B P A n PR ST li w WK so sp CT SC TA H.size p1) (va_cwS 1 hts gX0_fill_X0_checkMany rfl rfl rfl hd_X0_checkMany.2 ⟨(by rw [hR]; exact Nat.le_of_ble_eq_true rfl), (by rw [hR]; exact Nat.le_of_ble_eq_true rfl)⟩) (pre_S hP hK hD hS hA hZ hg) rfl rfl hl.1 rfl (lv_room (Nat.le_of_ble_eq_true rfl)) dX0_fill_6 ⟨(by rw [hR]; exact Nat.le_of_ble_eq_true rfl), (by rw [hR]; exact Nat.le_of_ble_eq_true rfl)⟩) hD hS hA rfl (fun E h => Or.inr ⟨h.1, ⟨j0, j0a, j0b, rfl⟩, h.2⟩) hout hlocks (Nat.le_of_ble_eq_true rfl) (Nat.le_of_ble_eq_true rfl) (fun u_4 H locs hp_6 hP hD hS => ?_)
  refine W_absQ (fun Q hQ => ?_)
  obtain ⟨j1, j1a, j1b, rfl⟩ := hp_6
  refine lv_iload_n hx hb dX0_fill_9 rfl (lv_at hl 2 rfl) ?_
  refine lv_aload_n hx hb dX0_fill_10 rfl (lv_at hl 0 rfl) ?_
  refine gfX hx hb hts hin hown hK hP 2 (by decide) (List.mem_of_getElem? (i := 1) rfl) rfl rfl dX0_fill_11 ?_
  refine lv_iload_n hx hb dX0_fill_14 rfl (lv_at hl 1 rfl) ?_
  refine n_iald hx hb hK hP 2 0 rfl rfl (by omega) (by decide) dX0_fill_15 ?_
  refine lv_aload_n hx hb dX0_fill_16 rfl (lv_at hl 0 rfl) ?_
  refine gfX hx hb hts hin hown hK hP 3 (by decide) (List.mem_of_getElem? (i := 2) rfl) rfl rfl dX0_fill_17 ?_
  refine lv_iload_n hx hb dX0_fill_20 rfl (lv_at hl 1 rfl) ?_
  refine n_iald hx hb hK hP 3 0 rfl rfl (by omega) (by decide) dX0_fill_21 ?_
  refine n_isub hx hb (by have h1 := hC j0 j0b; omega) dX0_fill_22 ?_
  refine va_mmin hx hb (hml.trans hl.1.symm) hown (hts _ (List.mem_of_getElem? (i := 3) rfl)) (hts _ (List.mem_of_getElem? (i := 4) rfl)) (hts _ (List.mem_of_getElem? (i := 5) rfl)) (hts _ (List.mem_of_getElem? (i := 6) rfl)) (by rw [hR]; exact Nat.le_of_ble_eq_true rfl) (by rw [hR]; exact Nat.le_of_ble_eq_true rfl) (by rw [hR]; exact Nat.le_of_ble_eq_true rfl) (by rw [hR]; exact Nat.le_of_ble_eq_true rfl) dX0_fill_23 (n_top (nI_min _ _ (by omega) (by have h1 := hC j0 j0b; omega)) ?_)
  refine lv_istore_n (lv' := [(3, .int (nI (min j1 ((C j0) - (T j0))))), (0, .ref (q 0)), (1, .int (nI j0)), (2, .int (nI j1))]) hx hb dX0_fill_26 rfl hl (by decide) rfl (fun ls hl => ?_)
  refine lv_aload_n hx hb dX0_fill_27 rfl (lv_at hl 1 rfl) ?_
  refine gfX hx hb hts hin hown hK hP 3 (by decide) (List.mem_of_getElem? (i := 2) rfl) rfl rfl dX0_fill_28 ?_
  refine lv_iload_n hx hb dX0_fill_31 rfl (lv_at hl 2 rfl) ?_
  refine lv_dup2_11 hx hb dX0_fill_32 rfl rfl ?_
  refine n_iald hx hb hK hP 3 0 rfl rfl (by omega) (by decide) dX0_fill_33 ?_
  refine lv_iload_n hx hb dX0_fill_34 rfl (lv_at hl 0 rfl) ?_
  refine n_iadd hx hb dX0_fill_35 ?_
  refine n_iast (ws' := (wX q cI cZ cJ k V C (un T j0 ((T j0) + (min j1 ((C j0) - (T j0))))) B P A n PR ST li w WK so sp CT SC TA)) hx hb hK hP hD hS 3 0 rfl rfl (by omega) (by decide) rfl dX0_fill_36 (fun H locs hP hD hS => ?_)
  refine lv_aload_n hx hb dX0_fill_37 rfl (lv_at hl 1 rfl) ?_
  refine gfX hx hb hts hin hown hK hP 15 (by decide) (List.mem_of_getElem? (i := 7) rfl) rfl rfl dX0_fill_38 ?_
  refine lv_iconst (v := nI 4) hx hb dX0_fill_41 (ic_4) ?_
  refine lv_dup2_11 hx hb dX0_fill_42 rfl rfl ?_
  refine n_lald hx hb hK hP 10 2 rfl rfl (by omega) (by decide) dX0_fill_43 ?_
  refine lv_iload_n hx hb dX0_fill_44 rfl (lv_at hl 0 rfl) ?_
  refine lv_aload_n hx hb dX0_fill_45 rfl (lv_at hl 1 rfl) ?_
  refine gfX hx hb hts hin hown hK hP 1 (by decide) (List.mem_of_getElem? (i := 8) rfl) rfl rfl dX0_fill_46 ?_
  refine lv_iload_n hx hb dX0_fill_49 rfl (lv_at hl 2 rfl) ?_
  refine n_iald hx hb hK hP 1 0 rfl rfl (by omega) (by decide) dX0_fill_50 ?_
  refine n_imul hx hb dX0_fill_51 ?_
  refine n_i2l hx hb (by have h1 := hC j0 j0b; have h2 := hV j0 j0b; have h3 : min j1 (C j0 - T j0) * V j0 ≤ 60 * 500 := Nat.mul_le_mul (by omega) (by omega); omega) dX0_fill_52 ?_
  refine lv_ladd hx hb dX0_fill_53 ?_
  refine n_last (ws' := (wX q cI cZ cJ k V C (un T j0 ((T j0) + (min j1 ((C j0) - (T j0))))) B P A n PR ST li w WK so sp (vp_updL CT 4 ((CT 4) + (lZ (((min j1 ((C j0) - (T j0))) * (V j0) : Nat) : Int)))) SC TA)) hx hb hK hP hD hS 10 2 rfl rfl (by omega) (by decide) rfl dX0_fill_54 (fun H locs hP hD hS => ?_)
  refine lv_iload_n hx hb dX0_fill_55 rfl (lv_at hl 3 rfl) ?_
  refine lv_iload_n hx hb dX0_fill_56 rfl (lv_at hl 0 rfl) ?_
  refine n_isub hx hb (by omega) dX0_fill_57 ?_
  subst hQ
  exact vx_ret (e_i (j0, j1) hx hb hr hlocks hS hP hD (⟨rfl, j0b, j1b, rfl, rfl⟩) (Nat.le_of_ble_eq_true rfl) (Nat.le_of_ble_eq_true rfl) dX0_fill_58)
theorem hd_X0_fill : yX0_fill.cls = RX0 ∧ yX0_fill.cls ≠ "java/lang/invoke/MethodHandle" ∧ yX0_fill.cls ≠ "java/lang/invoke/VarHandle" ∧ (parseMethodDescriptor yX0_fill.desc).map (fun d => d.parameters.length) = some 2 := by decide +kernel

set_option maxHeartbeats 4000000 in
set_option maxRecDepth 100000 in
theorem c_X0_addProduct (l : Launch) (hst : l.stackTraces = false) (D : va_G) (q : Nat → Nat) (cI cZ cJ : ClassId) (k : Nat) (V : Nat → Nat) (C : Nat → Nat) (T : Nat → Nat) (B : Nat → Nat) (P : Nat → Nat) (A : Nat → Nat) (n : Nat) (PR : Nat → Nat) (ST : Nat → Nat) (li : Nat) (w : Nat) (WK : Nat → Nat) (so : Nat) (sp : Nat) (CT : Nat → Int64) (SC : Nat → Int) (TA : Nat → Nat) (sz : Nat) (p0 : Int32) (p1 : Int32) (hn10 : n ≤ 10) : vx_Met l yX0_addProduct wsX0_addProduct ({ frames := 7, cells := 2, slots := 12, locals := 111 }) (va_Pc [.ref (q 0), .int p0, .int p1] (cxP D (ty3 cI cZ cJ) (wX q cI cZ cJ k V C T B P A n PR ST li w WK so sp CT SC TA) sz)) (va_Qi (fun r (u : Nat × Nat) => r = nI n ∧ 1 ≤ u.1 ∧ u.1 < 2001 ∧ u.2 < 100 ∧ p0 = nI u.1 ∧ p1 = nI u.2 ∧ n < 10) (bW D (va_A (wX q cI cZ cJ k V C T B P A n PR ST li w WK so sp CT SC TA) sz) (fun u => (wX q cI cZ cJ k V C T B P A (n + 1) (un PR n u.1) (un ST n u.2) li w WK so sp CT SC TA))) (va_A (wX q cI cZ cJ k V C T B P A n PR ST li w WK so sp CT SC TA) sz)) (xX D (fun E => (E = eIA ∧ ¬ (rg p0 1 2001 ∧ rg p1 0 100)) ∨ (E = eIS ∧ (rg p0 1 2001 ∧ rg p1 0 100) ∧ ¬ n < 10)) (wX q cI cZ cJ k V C T B P A n PR ST li w WK so sp CT SC TA) (va_A (wX q cI cZ cJ k V C T B P A n PR ST li w WK so sp CT SC TA) sz)) 2 12 (va_A (wX q cI cZ cJ k V C T B P A n PR ST li w WK so sp CT SC TA) sz) := by
  refine vx_ofW (cc := cX0_addProduct) (maxL := 3) (ret := (some .int)) (by decide) rfl ?_
  intro p e s m args below meth c s₁ BB hml hout hv
  obtain ⟨hav, hsz, hP, hK, hD0, hZ, hg⟩ := hv
  subst hsz
  subst hav
  have hx := BB.exec
  have hb := BB.bytes
  have hr := BB.returns
  have hts := atoms_spec (ws := wsX0_addProduct) BB.pre
  have hown : s.vm.findClass RX0 = some m.cls := findClass_of_methodNamed BB.named
  have hlocks := BB.notSynchronized
  have hin : ∀ w ∈ wsX00, w ∈ wsX0_addProduct := fun w h => (List.mem_cons_of_mem _ (List.mem_append_left _ (List.mem_append_left _ (List.mem_append_right _ h))))
  have hD := hD0.self (sz := s.heap.size)
  have hA : ∀ q9 : Nat, s.heap.size ≤ q9 → va_A (wX q cI cZ cJ k V C T B P A n PR ST li w WK so sp CT SC TA) s.heap.size q9 := fun _ h => Or.inr h
  have hl := lv_entry ([.ref (q 0), .int p0, .int p1]) (n := 3) (Nat.le_of_ble_eq_true rfl)
  rw [lg_entry_eq]
  generalize (lg_sl ([.ref (q 0), .int p0, .int p1]) ++ List.replicate (3 - (lg_sl ([.ref (q 0), .int p0, .int p1])).length) Slot.unset).toArray = ls at hl ⊢
  have hl : lv_has ls 3 [(0, .ref (q 0)), (1, .int p0), (2, .int p1)] := hl
  refine W_absR (fun R hR => ?_)
  have hR : R = ({ frames := 7, cells := 2, slots := 12, locals := 111 } : Room) := hR
  refine W_absQ (fun Q hQ => ?_)
  generalize ([.ref (q 0), .int p0, .int p1] : List Value).toArray = args at hts hQ ⊢
  generalize va_A (wX q cI cZ cJ k V C T B P A n PR ST li w WK so sp CT SC TA) s.heap.size = A9 at hD hZ hA hQ
  refine W_start hP (A := A9) (fun H locs hP hS => ?_)
  refine lv_iload_n hx hb dX0_addProduct_0 rfl (lv_at hl 1 rfl) ?_
  refine lv_iload_n hx hb dX0_addProduct_1 rfl (lv_at hl 2 rfl) ?_
  subst hQ
  refine kx_v (vx_runS (As := [.int p0, .int p1]) (rest := []) ⟨hx, hb, hml, hown, hts⟩ (c_X0_checkPriceAndStock l hst D q cI cZ cJ k V C T B P A n PR ST li w WK so sp CT SC TA H.size p0 p1) (va_cwS 2 hts gX0_addProduct_X0_checkPriceAndStock rfl rfl rfl hd_X0_checkPriceAndStock.2 ⟨(by rw [hR]; exact Nat.le_of_ble_eq_true rfl), (by rw [hR]; exact Nat.le_of_ble_eq_true rfl)⟩) (pre_S hP hK hD hS hA hZ hg) rfl rfl hl.1 rfl (lv_room (Nat.le_of_ble_eq_true rfl)) dX0_addProduct_2 ⟨(by rw [hR]; exact Nat.le_of_ble_eq_true rfl), (by rw [hR]; exact Nat.le_of_ble_eq_true rfl)⟩) hD hS hA rfl (fun E h => Or.inl h) hout hlocks (Nat.le_of_ble_eq_true rfl) (Nat.le_of_ble_eq_true rfl) (fun u_1 H locs hp_3 hP hD hS => ?_)
  refine W_absQ (fun Q hQ => ?_)
  obtain ⟨⟨j0, j0a, j0b, rfl⟩, ⟨j1, j1a, j1b, rfl⟩⟩ := hp_3
  refine lv_aload_n hx hb dX0_addProduct_5 rfl (lv_at hl 0 rfl) ?_
  refine gfX hx hb hts hin hown hK hP 7 (by decide) (List.mem_of_getElem? (i := 3) rfl) rfl rfl dX0_addProduct_6 ?_
  refine lv_bipush (v := nI 10) hx hb dX0_addProduct_9 (by decide) ?_
  refine n_icmp_lt (tgt := 24) hx hb (by omega) (by omega) dX0_addProduct_11 (by decide) (fun c11 => ?_) (fun c11 => ?_)
  · refine lv_aload_n hx hb dX0_addProduct_24 rfl (lv_at hl 0 rfl) ?_
    refine gfX hx hb hts hin hown hK hP 8 (by decide) (List.mem_of_getElem? (i := 4) rfl) rfl rfl dX0_addProduct_25 ?_
    refine lv_aload_n hx hb dX0_addProduct_28 rfl (lv_at hl 0 rfl) ?_
    refine gfX hx hb hts hin hown hK hP 7 (by decide) (List.mem_of_getElem? (i := 3) rfl) rfl rfl dX0_addProduct_29 ?_
    refine lv_iload_n hx hb dX0_addProduct_32 rfl (lv_at hl 1 rfl) ?_
    refine n_iast (ws' := (wX q cI cZ cJ k V C T B P A n (un PR n j0) ST li w WK so sp CT SC TA)) hx hb hK hP hD hS 7 0 rfl rfl (by omega) (by decide) rfl dX0_addProduct_33 (fun H locs hP hD hS => ?_)
    refine lv_aload_n hx hb dX0_addProduct_34 rfl (lv_at hl 0 rfl) ?_
    refine gfX hx hb hts hin hown hK hP 9 (by decide) (List.mem_of_getElem? (i := 5) rfl) rfl rfl dX0_addProduct_35 ?_
    refine lv_aload_n hx hb dX0_addProduct_38 rfl (lv_at hl 0 rfl) ?_
    refine gfX hx hb hts hin hown hK hP 7 (by decide) (List.mem_of_getElem? (i := 3) rfl) rfl rfl dX0_addProduct_39 ?_
    refine lv_iload_n hx hb dX0_addProduct_42 rfl (lv_at hl 2 rfl) ?_
    refine n_iast (ws' := (wX q cI cZ cJ k V C T B P A n (un PR n j0) (un ST n j1) li w WK so sp CT SC TA)) hx hb hK hP hD hS 8 0 rfl rfl (by omega) (by decide) rfl dX0_addProduct_43 (fun H locs hP hD hS => ?_)
    refine lv_aload_n hx hb dX0_addProduct_44 rfl (lv_at hl 0 rfl) ?_
    refine lv_dup hx hb dX0_addProduct_45 rfl ?_
    refine gfX hx hb hts hin hown hK hP 7 (by decide) (List.mem_of_getElem? (i := 3) rfl) rfl rfl dX0_addProduct_46 ?_
    refine lv_iconst (v := nI 1) hx hb dX0_addProduct_49 (ic_1) ?_
    refine n_iadd hx hb dX0_addProduct_50 ?_
    refine pfX (ws' := (wX q cI cZ cJ k V C T B P A (n + 1) (un PR n j0) (un ST n j1) li w WK so sp CT SC TA)) hx hb hts hin hown hK hP hD hS 7 (by decide) (List.mem_of_getElem? (i := 3) rfl) rfl ⟨rfl, rfl⟩ rfl rfl dX0_addProduct_51 (fun H locs hP hD hS => ?_)
    refine lv_aload_n hx hb dX0_addProduct_54 rfl (lv_at hl 0 rfl) ?_
    refine gfX hx hb hts hin hown hK hP 7 (by decide) (List.mem_of_getElem? (i := 3) rfl) rfl rfl dX0_addProduct_55 ?_
    refine lv_iconst (v := nI 1) hx hb dX0_addProduct_58 (ic_1) ?_
    refine n_isub hx hb (by omega) dX0_addProduct_59 ?_
    refine n_top (congrArg nI (show (n + 1) - 1 = n by omega)) ?_
    subst hQ
    exact vx_ret (e_i (j0, j1) hx hb hr hlocks hS hP hD (⟨rfl, j0a, j0b, j1b, rfl, rfl, by omega⟩) (Nat.le_of_ble_eq_true rfl) (Nat.le_of_ble_eq_true rfl) dX0_addProduct_60)
  · subst hQ
    exact k_throw hx hb hst (cls := eIS) hown (by decide +kernel) (hts _ (List.mem_of_getElem? (i := 1) rfl)) (hts _ (List.mem_of_getElem? (i := 2) rfl)) (hg.1 (106, "there are 10 products") (by decide)) (k_hat (fun w h => hts w (List.mem_cons_of_mem _ (List.mem_append_left _ (List.mem_append_right _ h)))) (by decide +kernel) hg.2.2.1 hg) (by decide +kernel) hZ hS (hl.1.trans hml.symm) dX0_addProduct_14 dX0_addProduct_17 dX0_addProduct_18 dX0_addProduct_20 dX0_addProduct_23 hout (by rw [hR]; exact Nat.le_of_ble_eq_true rfl) (by rw [hR]; exact Nat.le_of_ble_eq_true rfl) (by rw [hR]; exact Nat.le_of_ble_eq_true rfl) (by rw [hR]; exact Nat.le_of_ble_eq_true rfl) hlocks hP hD (Or.inr ⟨rfl, ⟨⟨j0, j0a, j0b, rfl⟩, ⟨j1, j1a, j1b, rfl⟩⟩, by omega⟩) (Nat.le_of_ble_eq_true rfl) (Nat.le_of_ble_eq_true rfl)
theorem hd_X0_addProduct : yX0_addProduct.cls = RX0 ∧ yX0_addProduct.cls ≠ "java/lang/invoke/MethodHandle" ∧ yX0_addProduct.cls ≠ "java/lang/invoke/VarHandle" ∧ (parseMethodDescriptor yX0_addProduct.desc).map (fun d => d.parameters.length) = some 2 := by decide +kernel

set_option maxHeartbeats 4000000 in
set_option maxRecDepth 100000 in
theorem c_X0_cancel (l : Launch) (hst : l.stackTraces = false) (D : va_G) (q : Nat → Nat) (cI cZ cJ : ClassId) (k : Nat) (V : Nat → Nat) (C : Nat → Nat) (T : Nat → Nat) (B : Nat → Nat) (P : Nat → Nat) (A : Nat → Nat) (n : Nat) (PR : Nat → Nat) (ST : Nat → Nat) (li : Nat) (w : Nat) (WK : Nat → Nat) (so : Nat) (sp : Nat) (CT : Nat → Int64) (SC : Nat → Int) (TA : Nat → Nat) (sz : Nat) (hw12 : w ≤ 12) (hk8 : k ≤ 8) (hWK : ∀ j, j < w → WK j < k) (hV : ∀ i, i < k → 1 ≤ V i ∧ V i ≤ 500) : Met l yX0_cancel wsX0_cancel ({ frames := 2, cells := 0, slots := 0, locals := 45 }) (va_Pc [.ref (q 0)] (cxP D (ty3 cI cZ cJ) (wX q cI cZ cJ k V C T B P A n PR ST li w WK so sp CT SC TA) sz)) (va_Qi (fun r (_ : Unit) => r = nI (cr V WK w)) (bW D (va_A (wX q cI cZ cJ k V C T B P A n PR ST li w WK so sp CT SC TA) sz) (fun (_ : Unit) => (wX q cI cZ cJ k V C T B P A n PR ST li 0 WK so sp (vp_updL CT 1 (CT 1 + lZ ((cr V WK w : Nat) : Int))) SC TA))) (va_A (wX q cI cZ cJ k V C T B P A n PR ST li w WK so sp CT SC TA) sz)) 0 0 (va_A (wX q cI cZ cJ k V C T B P A n PR ST li w WK so sp CT SC TA) sz) := by
  refine Met.ofW (cc := cX0_cancel) (maxL := 2) (ret := (some .int)) (by decide) rfl ?_
  intro p e s m args below meth c s₁ BB hml hv
  obtain ⟨hav, hsz, hP, hK, hD0, hZ, hg⟩ := hv
  subst hsz
  subst hav
  have hx := BB.exec
  have hb := BB.bytes
  have hr := BB.returns
  have hts := atoms_spec (ws := wsX0_cancel) BB.pre
  have hown : s.vm.findClass RX0 = some m.cls := findClass_of_methodNamed BB.named
  have hlocks := BB.notSynchronized
  have hin : ∀ w ∈ wsX00, w ∈ wsX0_cancel := fun w h => (List.mem_cons_of_mem _ (List.mem_append_right _ h))
  have hD := hD0.self (sz := s.heap.size)
  have hA : ∀ q9 : Nat, s.heap.size ≤ q9 → va_A (wX q cI cZ cJ k V C T B P A n PR ST li w WK so sp CT SC TA) s.heap.size q9 := fun _ h => Or.inr h
  have hl := lv_entry ([.ref (q 0)]) (n := 2) (Nat.le_of_ble_eq_true rfl)
  rw [lg_entry_eq]
  generalize (lg_sl ([.ref (q 0)]) ++ List.replicate (2 - (lg_sl ([.ref (q 0)])).length) Slot.unset).toArray = ls at hl ⊢
  have hl : lv_has ls 2 [(0, .ref (q 0))] := hl
  refine W_absR (fun R hR => ?_)
  have hR : R = ({ frames := 2, cells := 0, slots := 0, locals := 45 } : Room) := hR
  refine W_absQ (fun Q hQ => ?_)
  generalize ([.ref (q 0)] : List Value).toArray = args at hts hQ ⊢
  generalize va_A (wX q cI cZ cJ k V C T B P A n PR ST li w WK so sp CT SC TA) s.heap.size = A9 at hD hZ hA hQ
  refine W_start hP (A := A9) (fun H locs hP hS => ?_)
  refine lv_aload_n hx hb dX0_cancel_0 rfl (lv_at hl 0 rfl) ?_
  refine k_i (va_runV (As := []) (rest := []) ⟨hx, hb, hml, hown, hts⟩ (c_X0_credit l hst D q cI cZ cJ k V C T B P A n PR ST li w WK so sp CT SC TA H.size hw12 hk8 hWK hV) (cwV 0 hts gX0_cancel_X0_credit rfl rfl rfl hd_X0_credit ⟨(by rw [hR]; exact Nat.le_of_ble_eq_true rfl), (by rw [hR]; exact Nat.le_of_ble_eq_true rfl)⟩) (pre_V hP hK hD hS hA hZ hg 0 (ci := 0) rfl rfl) rfl rfl hl.1 rfl (lv_room (Nat.le_of_ble_eq_true rfl)) dX0_cancel_1 ⟨(by rw [hR]; exact Nat.le_of_ble_eq_true rfl), (by rw [hR]; exact Nat.le_of_ble_eq_true rfl)⟩) hD hS hA (fun r_2 u_1 H locs hp_3 hP hD hS => ?_)
  subst hp_3
  rw [crk_cr V WK k w hWK]
  refine lv_istore_n (lv' := [(1, .int (nI (cr V WK w))), (0, .ref (q 0))]) hx hb dX0_cancel_4 rfl hl (by decide) rfl (fun ls hl => ?_)
  refine lv_aload_n hx hb dX0_cancel_5 rfl (lv_at hl 1 rfl) ?_
  refine lv_iconst (v := nI 0) hx hb dX0_cancel_6 (ic_0) ?_
  refine pfX (ws' := (wX q cI cZ cJ k V C T B P A n PR ST li 0 WK so sp CT SC TA)) hx hb hts hin hown hK hP hD hS 11 (by decide) (List.mem_of_getElem? (i := 1) rfl) rfl ⟨rfl, rfl⟩ rfl rfl dX0_cancel_7 (fun H locs hP hD hS => ?_)
  refine lv_aload_n hx hb dX0_cancel_10 rfl (lv_at hl 1 rfl) ?_
  refine gfX hx hb hts hin hown hK hP 15 (by decide) (List.mem_of_getElem? (i := 2) rfl) rfl rfl dX0_cancel_11 ?_
  refine lv_iconst (v := nI 1) hx hb dX0_cancel_14 (ic_1) ?_
  refine lv_dup2_11 hx hb dX0_cancel_15 rfl rfl ?_
  refine n_lald hx hb hK hP 10 2 rfl rfl (by omega) (by decide) dX0_cancel_16 ?_
  refine lv_iload_n hx hb dX0_cancel_17 rfl (lv_at hl 0 rfl) ?_
  refine n_i2l hx hb (by have := cr_le hw12 hWK hV; omega) dX0_cancel_18 ?_
  refine lv_ladd hx hb dX0_cancel_19 ?_
  refine n_last (ws' := (wX q cI cZ cJ k V C T B P A n PR ST li 0 WK so sp (vp_updL CT 1 ((CT 1) + (lZ ((cr V WK w : Nat) : Int)))) SC TA)) hx hb hK hP hD hS 10 2 rfl rfl (by omega) (by decide) rfl dX0_cancel_20 (fun H locs hP hD hS => ?_)
  refine lv_iload_n hx hb dX0_cancel_21 rfl (lv_at hl 0 rfl) ?_
  subst hQ
  exact e_i () hx hb hr hlocks hS hP hD rfl (Nat.le_of_ble_eq_true rfl) (Nat.le_of_ble_eq_true rfl) dX0_cancel_22
theorem hd_X0_cancel : yX0_cancel.cls = RX0 ∧ yX0_cancel.cls ≠ "java/lang/invoke/MethodHandle" ∧ yX0_cancel.cls ≠ "java/lang/invoke/VarHandle" ∧ (parseMethodDescriptor yX0_cancel.desc).map (fun d => d.parameters.length) = some 0 := by decide +kernel

set_option maxHeartbeats 4000000 in
set_option maxRecDepth 100000 in
theorem c_X0_toldOfKind (l : Launch) (hst : l.stackTraces = false) (D : va_G) (q : Nat → Nat) (cI cZ cJ : ClassId) (k : Nat) (V : Nat → Nat) (C : Nat → Nat) (T : Nat → Nat) (B : Nat → Nat) (P : Nat → Nat) (A : Nat → Nat) (n : Nat) (PR : Nat → Nat) (ST : Nat → Nat) (li : Nat) (w : Nat) (WK : Nat → Nat) (so : Nat) (sp : Nat) (CT : Nat → Int64) (SC : Nat → Int) (TA : Nat → Nat) (sz : Nat) (kd : Nat) (wh : Nat) (hk8 : k ≤ 8) (hkd : kd < 8) (hwh : wh < 4) : Met l yX0_toldOfKind wsX0_toldOfKind ({ frames := 0, cells := 0, slots := 0, locals := 0 }) (va_Pc [.ref (q 0), .int (nI kd), .int (nI wh)] (cxP D (ty3 cI cZ cJ) (wX q cI cZ cJ k V C T B P A n PR ST li w WK so sp CT SC TA) sz)) (va_Qi (fun r (_ : Unit) => r = nI (tld V T B P kd wh)) (bW D (va_A (wX q cI cZ cJ k V C T B P A n PR ST li w WK so sp CT SC TA) sz) (fun (_ : Unit) => (wX q cI cZ cJ k V C T B P A n PR ST li w WK so sp CT SC TA))) (va_A (wX q cI cZ cJ k V C T B P A n PR ST li w WK so sp CT SC TA) sz)) 0 0 (va_A (wX q cI cZ cJ k V C T B P A n PR ST li w WK so sp CT SC TA) sz) := by
  refine Met.ofW (cc := cX0_toldOfKind) (maxL := 3) (ret := (some .int)) (by decide) rfl ?_
  intro p e s m args below meth c s₁ BB hml hv
  obtain ⟨hav, hsz, hP, hK, hD0, hZ, hg⟩ := hv
  subst hsz
  subst hav
  have hx := BB.exec
  have hb := BB.bytes
  have hr := BB.returns
  have hts := atoms_spec (ws := wsX0_toldOfKind) BB.pre
  have hown : s.vm.findClass RX0 = some m.cls := findClass_of_methodNamed BB.named
  have hlocks := BB.notSynchronized
  have hin : ∀ w ∈ wsX00, w ∈ wsX0_toldOfKind := fun w h => (List.mem_cons_of_mem _ (List.mem_append_right _ h))
  have hD := hD0.self (sz := s.heap.size)
  have hA : ∀ q9 : Nat, s.heap.size ≤ q9 → va_A (wX q cI cZ cJ k V C T B P A n PR ST li w WK so sp CT SC TA) s.heap.size q9 := fun _ h => Or.inr h
  have hl := lv_entry ([.ref (q 0), .int (nI kd), .int (nI wh)]) (n := 3) (Nat.le_of_ble_eq_true rfl)
  rw [lg_entry_eq]
  generalize (lg_sl ([.ref (q 0), .int (nI kd), .int (nI wh)]) ++ List.replicate (3 - (lg_sl ([.ref (q 0), .int (nI kd), .int (nI wh)])).length) Slot.unset).toArray = ls at hl ⊢
  have hl : lv_has ls 3 [(0, .ref (q 0)), (1, .int (nI kd)), (2, .int (nI wh))] := hl
  refine W_absR (fun R hR => ?_)
  have hR : R = ({ frames := 0, cells := 0, slots := 0, locals := 0 } : Room) := hR
  refine W_absQ (fun Q hQ => ?_)
  generalize ([.ref (q 0), .int (nI kd), .int (nI wh)] : List Value).toArray = args at hts hQ ⊢
  generalize va_A (wX q cI cZ cJ k V C T B P A n PR ST li w WK so sp CT SC TA) s.heap.size = A9 at hD hZ hA hQ
  refine W_start hP (A := A9) (fun H locs hP hS => ?_)
  refine lv_iload_n hx hb dX0_toldOfKind_0 rfl (lv_at hl 2 rfl) ?_
  obtain rfl | rfl | rfl | rfl : wh = 0 ∨ wh = 1 ∨ wh = 2 ∨ wh = 3 := by omega
  · refine lv_tableIn (tgt := 32) hx hb dX0_toldOfKind_1 (by decide) (by decide) (off := 31) (by decide) (by decide) ?_
    refine lv_aload_n hx hb dX0_toldOfKind_32 rfl (lv_at hl 0 rfl) ?_
    refine gfX hx hb hts hin hown hK hP 1 (by decide) (List.mem_of_getElem? (i := 1) rfl) rfl rfl dX0_toldOfKind_33 ?_
    refine lv_iload_n hx hb dX0_toldOfKind_36 rfl (lv_at hl 1 rfl) ?_
    refine n_iald hx hb hK hP 1 0 rfl rfl (by omega) (by decide) dX0_toldOfKind_37 ?_
    subst hQ
    exact e_i () hx hb hr hlocks hS hP hD rfl (Nat.le_of_ble_eq_true rfl) (Nat.le_of_ble_eq_true rfl) dX0_toldOfKind_38
  · refine lv_tableIn (tgt := 39) hx hb dX0_toldOfKind_1 (by decide) (by decide) (off := 38) (by decide) (by decide) ?_
    refine lv_aload_n hx hb dX0_toldOfKind_39 rfl (lv_at hl 0 rfl) ?_
    refine gfX hx hb hts hin hown hK hP 3 (by decide) (List.mem_of_getElem? (i := 2) rfl) rfl rfl dX0_toldOfKind_40 ?_
    refine lv_iload_n hx hb dX0_toldOfKind_43 rfl (lv_at hl 1 rfl) ?_
    refine n_iald hx hb hK hP 3 0 rfl rfl (by omega) (by decide) dX0_toldOfKind_44 ?_
    subst hQ
    exact e_i () hx hb hr hlocks hS hP hD rfl (Nat.le_of_ble_eq_true rfl) (Nat.le_of_ble_eq_true rfl) dX0_toldOfKind_45
  · refine lv_tableIn (tgt := 46) hx hb dX0_toldOfKind_1 (by decide) (by decide) (off := 45) (by decide) (by decide) ?_
    refine lv_aload_n hx hb dX0_toldOfKind_46 rfl (lv_at hl 0 rfl) ?_
    refine gfX hx hb hts hin hown hK hP 4 (by decide) (List.mem_of_getElem? (i := 3) rfl) rfl rfl dX0_toldOfKind_47 ?_
    refine lv_iload_n hx hb dX0_toldOfKind_50 rfl (lv_at hl 1 rfl) ?_
    refine n_iald hx hb hK hP 4 0 rfl rfl (by omega) (by decide) dX0_toldOfKind_51 ?_
    subst hQ
    exact e_i () hx hb hr hlocks hS hP hD rfl (Nat.le_of_ble_eq_true rfl) (Nat.le_of_ble_eq_true rfl) dX0_toldOfKind_52
  · refine lv_tableIn (tgt := 53) hx hb dX0_toldOfKind_1 (by decide) (by decide) (off := 52) (by decide) (by decide) ?_
    refine lv_aload_n hx hb dX0_toldOfKind_53 rfl (lv_at hl 0 rfl) ?_
    refine gfX hx hb hts hin hown hK hP 5 (by decide) (List.mem_of_getElem? (i := 4) rfl) rfl rfl dX0_toldOfKind_54 ?_
    refine lv_iload_n hx hb dX0_toldOfKind_57 rfl (lv_at hl 1 rfl) ?_
    refine n_iald hx hb hK hP 5 0 rfl rfl (by omega) (by decide) dX0_toldOfKind_58 ?_
    subst hQ
    exact e_i () hx hb hr hlocks hS hP hD rfl (Nat.le_of_ble_eq_true rfl) (Nat.le_of_ble_eq_true rfl) dX0_toldOfKind_59
theorem hd_X0_toldOfKind : yX0_toldOfKind.cls = RX0 ∧ yX0_toldOfKind.cls ≠ "java/lang/invoke/MethodHandle" ∧ yX0_toldOfKind.cls ≠ "java/lang/invoke/VarHandle" ∧ (parseMethodDescriptor yX0_toldOfKind.desc).map (fun d => d.parameters.length) = some 2 := by decide +kernel

set_option maxHeartbeats 4000000 in
set_option maxRecDepth 100000 in
theorem c_X0_coins (l : Launch) (hst : l.stackTraces = false) (D : va_G) (q : Nat → Nat) (cI cZ cJ : ClassId) (k : Nat) (V : Nat → Nat) (C : Nat → Nat) (T : Nat → Nat) (B : Nat → Nat) (P : Nat → Nat) (A : Nat → Nat) (n : Nat) (PR : Nat → Nat) (ST : Nat → Nat) (li : Nat) (w : Nat) (WK : Nat → Nat) (so : Nat) (sp : Nat) (CT : Nat → Int64) (SC : Nat → Int) (TA : Nat → Nat) (sz : Nat) (p0 : Int32) (p1 : Int32) (hk8 : k ≤ 8) : vx_Met l yX0_coins wsX0_coins ({ frames := 7, cells := 2, slots := 12, locals := 111 }) (va_Pc [.ref (q 0), .int p0, .int p1] (cxP D (ty3 cI cZ cJ) (wX q cI cZ cJ k V C T B P A n PR ST li w WK so sp CT SC TA) sz)) (va_Qi (fun r (u : Nat × Nat) => r = nI (tld V T B P u.1 u.2) ∧ u.1 < k ∧ u.2 < 4 ∧ p0 = nI u.1 ∧ p1 = nI u.2) (bW D (va_A (wX q cI cZ cJ k V C T B P A n PR ST li w WK so sp CT SC TA) sz) (fun u => (wX q cI cZ cJ k V C T B P A n PR ST li w WK so sp CT SC TA))) (va_A (wX q cI cZ cJ k V C T B P A n PR ST li w WK so sp CT SC TA) sz)) (xX D (fun E => E = eIB ∧ ¬ (rg p0 0 k ∧ rg p1 0 4)) (wX q cI cZ cJ k V C T B P A n PR ST li w WK so sp CT SC TA) (va_A (wX q cI cZ cJ k V C T B P A n PR ST li w WK so sp CT SC TA) sz)) 2 12 (va_A (wX q cI cZ cJ k V C T B P A n PR ST li w WK so sp CT SC TA) sz) := by
  refine vx_ofW (cc := cX0_coins) (maxL := 3) (ret := (some .int)) (by decide) rfl ?_
  intro p e s m args below meth c s₁ BB hml hout hv
  obtain ⟨hav, hsz, hP, hK, hD0, hZ, hg⟩ := hv
  subst hsz
  subst hav
  have hx := BB.exec
  have hb := BB.bytes
  have hr := BB.returns
  have hts := atoms_spec (ws := wsX0_coins) BB.pre
  have hown : s.vm.findClass RX0 = some m.cls := findClass_of_methodNamed BB.named
  have hlocks := BB.notSynchronized
  have hin : ∀ w ∈ wsX00, w ∈ wsX0_coins := fun w h => (List.mem_cons_of_mem _ (List.mem_append_left _ (List.mem_append_right _ h)))
  have hD := hD0.self (sz := s.heap.size)
  have hA : ∀ q9 : Nat, s.heap.size ≤ q9 → va_A (wX q cI cZ cJ k V C T B P A n PR ST li w WK so sp CT SC TA) s.heap.size q9 := fun _ h => Or.inr h
  have hl := lv_entry ([.ref (q 0), .int p0, .int p1]) (n := 3) (Nat.le_of_ble_eq_true rfl)
  rw [lg_entry_eq]
  generalize (lg_sl ([.ref (q 0), .int p0, .int p1]) ++ List.replicate (3 - (lg_sl ([.ref (q 0), .int p0, .int p1])).length) Slot.unset).toArray = ls at hl ⊢
  have hl : lv_has ls 3 [(0, .ref (q 0)), (1, .int p0), (2, .int p1)] := hl
  refine W_absR (fun R hR => ?_)
  have hR : R = ({ frames := 7, cells := 2, slots := 12, locals := 111 } : Room) := hR
  refine W_absQ (fun Q hQ => ?_)
  generalize ([.ref (q 0), .int p0, .int p1] : List Value).toArray = args at hts hQ ⊢
  generalize va_A (wX q cI cZ cJ k V C T B P A n PR ST li w WK so sp CT SC TA) s.heap.size = A9 at hD hZ hA hQ
  refine W_start hP (A := A9) (fun H locs hP hS => ?_)
  refine lv_aload_n hx hb dX0_coins_0 rfl (lv_at hl 0 rfl) ?_
  refine lv_iload_n hx hb dX0_coins_1 rfl (lv_at hl 1 rfl) ?_
  subst hQ
  refine kx_v (vx_runV (As := [.int p0]) (rest := []) ⟨hx, hb, hml, hown, hts⟩ (c_X0_checkKind l hst D q cI cZ cJ k V C T B P A n PR ST li w WK so sp CT SC TA H.size p0 hk8) (cwV 1 hts gX0_coins_X0_checkKind rfl rfl rfl hd_X0_checkKind ⟨(by rw [hR]; exact Nat.le_of_ble_eq_true rfl), (by rw [hR]; exact Nat.le_of_ble_eq_true rfl)⟩) (pre_V hP hK hD hS hA hZ hg 0 (ci := 0) rfl rfl) rfl rfl hl.1 rfl (lv_room (Nat.le_of_ble_eq_true rfl)) dX0_coins_2 ⟨(by rw [hR]; exact Nat.le_of_ble_eq_true rfl), (by rw [hR]; exact Nat.le_of_ble_eq_true rfl)⟩) hD hS hA rfl (fun E h => ⟨h.1, fun z => h.2 z.1⟩) hout hlocks (Nat.le_of_ble_eq_true rfl) (Nat.le_of_ble_eq_true rfl) (fun u_1 H locs hp_3 hP hD hS => ?_)
  refine W_absQ (fun Q hQ => ?_)
  obtain ⟨j0, j0a, j0b, rfl⟩ := hp_3
  refine lv_iload_n hx hb dX0_coins_5 rfl (lv_at hl 2 rfl) ?_
  refine lv_if_lt (tgt := 14) hx hb dX0_coins_6 (by decide) (fun c6 => ?_) (fun c6 => ?_)
  · have hno : ¬ rg p1 0 4 := by rw [rg_iff (by omega)]; simp only [Int32.lt_iff_toInt_lt, Int32.le_iff_toInt_le, Int32.toInt_zero] at c6; omega
    subst hQ
    exact k_throw hx hb hst (cls := eIB) hown (by decide +kernel) (hts _ (List.mem_of_getElem? (i := 1) rfl)) (hts _ (List.mem_of_getElem? (i := 2) rfl)) (hg.1 (149, "what is not 0 to 3") (by decide)) (k_hat (fun w h => hts w (List.mem_cons_of_mem _ (List.mem_append_right _ h))) (by decide +kernel) hg.2.2.2.1 hg) (by decide +kernel) hZ hS (hl.1.trans hml.symm) dX0_coins_14 dX0_coins_17 dX0_coins_18 dX0_coins_20 dX0_coins_23 hout (by rw [hR]; exact Nat.le_of_ble_eq_true rfl) (by rw [hR]; exact Nat.le_of_ble_eq_true rfl) (by rw [hR]; exact Nat.le_of_ble_eq_true rfl) (by rw [hR]; exact Nat.le_of_ble_eq_true rfl) hlocks hP hD (⟨rfl, fun z => hno z.2⟩) (Nat.le_of_ble_eq_true rfl) (Nat.le_of_ble_eq_true rfl)
  · refine lv_iload_n hx hb dX0_coins_9 rfl (lv_at hl 2 rfl) ?_
    refine lv_iconst (v := nI 4) hx hb dX0_coins_10 (ic_4) ?_
    refine lv_icmp_lt (tgt := 24) hx hb dX0_coins_11 (by decide) (fun c11 => ?_) (fun c11 => ?_)
    · obtain ⟨j1, j1a, j1b, rfl⟩ : rg p1 0 4 := by rw [rg_iff (by omega)]; simp only [Int32.lt_iff_toInt_lt, Int32.le_iff_toInt_le, Int32.toInt_zero, nI_toInt (show 4 < 2 ^ 31 by omega)] at c6 c11; omega
      refine lv_aload_n hx hb dX0_coins_24 rfl (lv_at hl 0 rfl) ?_
      refine lv_iload_n hx hb dX0_coins_25 rfl (lv_at hl 1 rfl) ?_
      refine lv_iload_n hx hb dX0_coins_26 rfl (lv_at hl 2 rfl) ?_
      refine k_i (va_runV (As := [.int (nI j0), .int (nI j1)]) (rest := []) ⟨hx, hb, hml, hown, hts⟩ (c_X0_toldOfKind l hst D q cI cZ cJ k V C T B P A n PR ST li w WK so sp CT SC TA H.size j0 j1 hk8 (by omega) j1b) (cwV 2 hts gX0_coins_X0_toldOfKind rfl rfl rfl hd_X0_toldOfKind ⟨(by rw [hR]; exact Nat.le_of_ble_eq_true rfl), (by rw [hR]; exact Nat.le_of_ble_eq_true rfl)⟩) (pre_V hP hK hD hS hA hZ hg 0 (ci := 0) rfl rfl) rfl rfl hl.1 rfl (lv_room (Nat.le_of_ble_eq_true rfl)) dX0_coins_27 ⟨(by rw [hR]; exact Nat.le_of_ble_eq_true rfl), (by rw [hR]; exact Nat.le_of_ble_eq_true rfl)⟩) hD hS hA (fun r_5 u_4 H locs hp_6 hP hD hS => ?_)
      subst hp_6
      subst hQ
      exact vx_ret (e_i (j0, j1) hx hb hr hlocks hS hP hD (⟨rfl, j0b, j1b, rfl, rfl⟩) (Nat.le_of_ble_eq_true rfl) (Nat.le_of_ble_eq_true rfl) dX0_coins_30)
    · have hno : ¬ rg p1 0 4 := by rw [rg_iff (by omega)]; simp only [Int32.lt_iff_toInt_lt, Int32.le_iff_toInt_le, Int32.toInt_zero, nI_toInt (show 4 < 2 ^ 31 by omega)] at c11; omega
      subst hQ
      exact k_throw hx hb hst (cls := eIB) hown (by decide +kernel) (hts _ (List.mem_of_getElem? (i := 1) rfl)) (hts _ (List.mem_of_getElem? (i := 2) rfl)) (hg.1 (149, "what is not 0 to 3") (by decide)) (k_hat (fun w h => hts w (List.mem_cons_of_mem _ (List.mem_append_right _ h))) (by decide +kernel) hg.2.2.2.1 hg) (by decide +kernel) hZ hS (hl.1.trans hml.symm) dX0_coins_14 dX0_coins_17 dX0_coins_18 dX0_coins_20 dX0_coins_23 hout (by rw [hR]; exact Nat.le_of_ble_eq_true rfl) (by rw [hR]; exact Nat.le_of_ble_eq_true rfl) (by rw [hR]; exact Nat.le_of_ble_eq_true rfl) (by rw [hR]; exact Nat.le_of_ble_eq_true rfl) hlocks hP hD (⟨rfl, fun z => hno z.2⟩) (Nat.le_of_ble_eq_true rfl) (Nat.le_of_ble_eq_true rfl)
theorem hd_X0_coins : yX0_coins.cls = RX0 ∧ yX0_coins.cls ≠ "java/lang/invoke/MethodHandle" ∧ yX0_coins.cls ≠ "java/lang/invoke/VarHandle" ∧ (parseMethodDescriptor yX0_coins.desc).map (fun d => d.parameters.length) = some 2 := by decide +kernel

set_option maxHeartbeats 4000000 in
set_option maxRecDepth 100000 in
theorem c_X0_audit (l : Launch) (hst : l.stackTraces = false) (D : va_G) (q : Nat → Nat) (cI cZ cJ : ClassId) (k : Nat) (V : Nat → Nat) (C : Nat → Nat) (T : Nat → Nat) (B : Nat → Nat) (P : Nat → Nat) (A : Nat → Nat) (n : Nat) (PR : Nat → Nat) (ST : Nat → Nat) (li : Nat) (w : Nat) (WK : Nat → Nat) (so : Nat) (sp : Nat) (CT : Nat → Int64) (SC : Nat → Int) (TA : Nat → Nat) (sz : Nat) (p0 : Int32) : vx_Met l yX0_audit wsX0_audit ({ frames := 6, cells := 1, slots := 6, locals := 90 }) (va_Pc [.ref (q 0), .int p0] (cxP D (ty3 cI cZ cJ) (wX q cI cZ cJ k V C T B P A n PR ST li w WK so sp CT SC TA) sz)) (va_Ql (fun r (u : Nat) => r = CT u ∧ u < 10 ∧ p0 = nI u) (bW D (va_A (wX q cI cZ cJ k V C T B P A n PR ST li w WK so sp CT SC TA) sz) (fun u => (wX q cI cZ cJ k V C T B P A n PR ST li w WK so sp CT SC TA))) (va_A (wX q cI cZ cJ k V C T B P A n PR ST li w WK so sp CT SC TA) sz)) (xX D (fun E => E = eIB ∧ ¬ rg p0 0 10) (wX q cI cZ cJ k V C T B P A n PR ST li w WK so sp CT SC TA) (va_A (wX q cI cZ cJ k V C T B P A n PR ST li w WK so sp CT SC TA) sz)) 1 6 (va_A (wX q cI cZ cJ k V C T B P A n PR ST li w WK so sp CT SC TA) sz) := by
  refine vx_ofW (cc := cX0_audit) (maxL := 2) (ret := (some .long)) (by decide) rfl ?_
  intro p e s m args below meth c s₁ BB hml hout hv
  obtain ⟨hav, hsz, hP, hK, hD0, hZ, hg⟩ := hv
  subst hsz
  subst hav
  have hx := BB.exec
  have hb := BB.bytes
  have hr := BB.returns
  have hts := atoms_spec (ws := wsX0_audit) BB.pre
  have hown : s.vm.findClass RX0 = some m.cls := findClass_of_methodNamed BB.named
  have hlocks := BB.notSynchronized
  have hin : ∀ w ∈ wsX00, w ∈ wsX0_audit := fun w h => (List.mem_cons_of_mem _ (List.mem_append_left _ (List.mem_append_right _ h)))
  have hD := hD0.self (sz := s.heap.size)
  have hA : ∀ q9 : Nat, s.heap.size ≤ q9 → va_A (wX q cI cZ cJ k V C T B P A n PR ST li w WK so sp CT SC TA) s.heap.size q9 := fun _ h => Or.inr h
  have hl := lv_entry ([.ref (q 0), .int p0]) (n := 2) (Nat.le_of_ble_eq_true rfl)
  rw [lg_entry_eq]
  generalize (lg_sl ([.ref (q 0), .int p0]) ++ List.replicate (2 - (lg_sl ([.ref (q 0), .int p0])).length) Slot.unset).toArray = ls at hl ⊢
  have hl : lv_has ls 2 [(0, .ref (q 0)), (1, .int p0)] := hl
  refine W_absR (fun R hR => ?_)
  have hR : R = ({ frames := 6, cells := 1, slots := 6, locals := 90 } : Room) := hR
  refine W_absQ (fun Q hQ => ?_)
  generalize ([.ref (q 0), .int p0] : List Value).toArray = args at hts hQ ⊢
  generalize va_A (wX q cI cZ cJ k V C T B P A n PR ST li w WK so sp CT SC TA) s.heap.size = A9 at hD hZ hA hQ
  refine W_start hP (A := A9) (fun H locs hP hS => ?_)
  refine lv_iload_n hx hb dX0_audit_0 rfl (lv_at hl 1 rfl) ?_
  refine lv_if_lt (tgt := 10) hx hb dX0_audit_1 (by decide) (fun c1 => ?_) (fun c1 => ?_)
  · have hno : ¬ rg p0 0 10 := by rw [rg_iff (by omega)]; simp only [Int32.lt_iff_toInt_lt, Int32.le_iff_toInt_le, Int32.toInt_zero] at c1; omega
    subst hQ
    exact k_throw hx hb hst (cls := eIB) hown (by decide +kernel) (hts _ (List.mem_of_getElem? (i := 1) rfl)) (hts _ (List.mem_of_getElem? (i := 2) rfl)) (hg.1 (174, "what is not 0 to 9") (by decide)) (k_hat (fun w h => hts w (List.mem_cons_of_mem _ (List.mem_append_right _ h))) (by decide +kernel) hg.2.2.2.1 hg) (by decide +kernel) hZ hS (hl.1.trans hml.symm) dX0_audit_10 dX0_audit_13 dX0_audit_14 dX0_audit_16 dX0_audit_19 hout (by rw [hR]; exact Nat.le_of_ble_eq_true rfl) (by rw [hR]; exact Nat.le_of_ble_eq_true rfl) (by rw [hR]; exact Nat.le_of_ble_eq_true rfl) (by rw [hR]; exact Nat.le_of_ble_eq_true rfl) hlocks hP hD (⟨rfl, hno⟩) (Nat.le_of_ble_eq_true rfl) (Nat.le_of_ble_eq_true rfl)
  · refine lv_iload_n hx hb dX0_audit_4 rfl (lv_at hl 1 rfl) ?_
    refine lv_bipush (v := nI 10) hx hb dX0_audit_5 (by decide) ?_
    refine lv_icmp_lt (tgt := 20) hx hb dX0_audit_7 (by decide) (fun c7 => ?_) (fun c7 => ?_)
    · obtain ⟨j0, j0a, j0b, rfl⟩ : rg p0 0 10 := by rw [rg_iff (by omega)]; simp only [Int32.lt_iff_toInt_lt, Int32.le_iff_toInt_le, Int32.toInt_zero, nI_toInt (show 10 < 2 ^ 31 by omega)] at c1 c7; omega
      refine lv_aload_n hx hb dX0_audit_20 rfl (lv_at hl 0 rfl) ?_
      refine gfX hx hb hts hin hown hK hP 15 (by decide) (List.mem_of_getElem? (i := 3) rfl) rfl rfl dX0_audit_21 ?_
      refine lv_iload_n hx hb dX0_audit_24 rfl (lv_at hl 1 rfl) ?_
      refine n_lald hx hb hK hP 10 2 rfl rfl (by omega) (by decide) dX0_audit_25 ?_
      subst hQ
      exact vx_ret (e_l j0 hx hb hr hlocks hS hP hD (⟨rfl, j0b, rfl⟩) (Nat.le_of_ble_eq_true rfl) (Nat.le_of_ble_eq_true rfl) dX0_audit_26)
    · have hno : ¬ rg p0 0 10 := by rw [rg_iff (by omega)]; simp only [Int32.lt_iff_toInt_lt, Int32.le_iff_toInt_le, Int32.toInt_zero, nI_toInt (show 10 < 2 ^ 31 by omega)] at c7; omega
      subst hQ
      exact k_throw hx hb hst (cls := eIB) hown (by decide +kernel) (hts _ (List.mem_of_getElem? (i := 1) rfl)) (hts _ (List.mem_of_getElem? (i := 2) rfl)) (hg.1 (174, "what is not 0 to 9") (by decide)) (k_hat (fun w h => hts w (List.mem_cons_of_mem _ (List.mem_append_right _ h))) (by decide +kernel) hg.2.2.2.1 hg) (by decide +kernel) hZ hS (hl.1.trans hml.symm) dX0_audit_10 dX0_audit_13 dX0_audit_14 dX0_audit_16 dX0_audit_19 hout (by rw [hR]; exact Nat.le_of_ble_eq_true rfl) (by rw [hR]; exact Nat.le_of_ble_eq_true rfl) (by rw [hR]; exact Nat.le_of_ble_eq_true rfl) (by rw [hR]; exact Nat.le_of_ble_eq_true rfl) hlocks hP hD (⟨rfl, hno⟩) (Nat.le_of_ble_eq_true rfl) (Nat.le_of_ble_eq_true rfl)
theorem hd_X0_audit : yX0_audit.cls = RX0 ∧ yX0_audit.cls ≠ "java/lang/invoke/MethodHandle" ∧ yX0_audit.cls ≠ "java/lang/invoke/VarHandle" ∧ (parseMethodDescriptor yX0_audit.desc).map (fun d => d.parameters.length) = some 1 := by decide +kernel

set_option maxHeartbeats 4000000 in
set_option maxRecDepth 100000 in
theorem c_X0_countSale (l : Launch) (hst : l.stackTraces = false) (D : va_G) (q : Nat → Nat) (cI cZ cJ : ClassId) (k : Nat) (V : Nat → Nat) (C : Nat → Nat) (T : Nat → Nat) (B : Nat → Nat) (P : Nat → Nat) (A : Nat → Nat) (n : Nat) (PR : Nat → Nat) (ST : Nat → Nat) (li : Nat) (w : Nat) (WK : Nat → Nat) (so : Nat) (sp : Nat) (CT : Nat → Int64) (SC : Nat → Int) (TA : Nat → Nat) (sz : Nat) (pp : Nat) (ch : Nat) (hpp : pp ≤ 2000) (hch : ch ≤ 6000) : Met l yX0_countSale wsX0_countSale ({ frames := 0, cells := 0, slots := 0, locals := 0 }) (va_Pc [.ref (q 0), .int (nI pp), .int (nI ch)] (cxP D (ty3 cI cZ cJ) (wX q cI cZ cJ k V C T B P A n PR ST li w WK so sp CT SC TA) sz)) (va_Qv (fun (u : Nat → Int64) => u = cs CT pp ch) (bW D (va_A (wX q cI cZ cJ k V C T B P A n PR ST li w WK so sp CT SC TA) sz) (fun u => (wX q cI cZ cJ k V C T B P A n PR ST li w WK so sp u SC TA))) (va_A (wX q cI cZ cJ k V C T B P A n PR ST li w WK so sp CT SC TA) sz)) 0 0 (va_A (wX q cI cZ cJ k V C T B P A n PR ST li w WK so sp CT SC TA) sz) := by
  refine Met.ofW (cc := cX0_countSale) (maxL := 3) (ret := none) (by decide) rfl ?_
  intro p e s m args below meth c s₁ BB hml hv
  obtain ⟨hav, hsz, hP, hK, hD0, hZ, hg⟩ := hv
  subst hsz
  subst hav
  have hx := BB.exec
  have hb := BB.bytes
  have hr := BB.returns
  have hts := atoms_spec (ws := wsX0_countSale) BB.pre
  have hown : s.vm.findClass RX0 = some m.cls := findClass_of_methodNamed BB.named
  have hlocks := BB.notSynchronized
  have hin : ∀ w ∈ wsX00, w ∈ wsX0_countSale := fun w h => (List.mem_cons_of_mem _ (List.mem_append_right _ h))
  have hD := hD0.self (sz := s.heap.size)
  have hA : ∀ q9 : Nat, s.heap.size ≤ q9 → va_A (wX q cI cZ cJ k V C T B P A n PR ST li w WK so sp CT SC TA) s.heap.size q9 := fun _ h => Or.inr h
  have hl := lv_entry ([.ref (q 0), .int (nI pp), .int (nI ch)]) (n := 3) (Nat.le_of_ble_eq_true rfl)
  rw [lg_entry_eq]
  generalize (lg_sl ([.ref (q 0), .int (nI pp), .int (nI ch)]) ++ List.replicate (3 - (lg_sl ([.ref (q 0), .int (nI pp), .int (nI ch)])).length) Slot.unset).toArray = ls at hl ⊢
  have hl : lv_has ls 3 [(0, .ref (q 0)), (1, .int (nI pp)), (2, .int (nI ch))] := hl
  refine W_absR (fun R hR => ?_)
  have hR : R = ({ frames := 0, cells := 0, slots := 0, locals := 0 } : Room) := hR
  refine W_absQ (fun Q hQ => ?_)
  generalize ([.ref (q 0), .int (nI pp), .int (nI ch)] : List Value).toArray = args at hts hQ ⊢
  generalize va_A (wX q cI cZ cJ k V C T B P A n PR ST li w WK so sp CT SC TA) s.heap.size = A9 at hD hZ hA hQ
  refine W_start hP (A := A9) (fun H locs hP hS => ?_)
  refine lv_aload_n hx hb dX0_countSale_0 rfl (lv_at hl 0 rfl) ?_
  refine gfX hx hb hts hin hown hK hP 15 (by decide) (List.mem_of_getElem? (i := 1) rfl) rfl rfl dX0_countSale_1 ?_
  refine lv_iconst (v := nI 2) hx hb dX0_countSale_4 (ic_2) ?_
  refine lv_dup2_11 hx hb dX0_countSale_5 rfl rfl ?_
  refine n_lald hx hb hK hP 10 2 rfl rfl (by omega) (by decide) dX0_countSale_6 ?_
  refine lv_iload_n hx hb dX0_countSale_7 rfl (lv_at hl 2 rfl) ?_
  refine n_i2l hx hb (by omega) dX0_countSale_8 ?_
  refine lv_ladd hx hb dX0_countSale_9 ?_
  refine n_last (ws' := (wX q cI cZ cJ k V C T B P A n PR ST li w WK so sp (vp_updL CT 2 ((CT 2) + (lZ ((ch : Nat) : Int)))) SC TA)) hx hb hK hP hD hS 10 2 rfl rfl (by omega) (by decide) rfl dX0_countSale_10 (fun H locs hP hD hS => ?_)
  refine lv_aload_n hx hb dX0_countSale_11 rfl (lv_at hl 0 rfl) ?_
  refine gfX hx hb hts hin hown hK hP 15 (by decide) (List.mem_of_getElem? (i := 1) rfl) rfl rfl dX0_countSale_12 ?_
  refine lv_bipush (v := nI 7) hx hb dX0_countSale_15 (by decide) ?_
  refine lv_dup2_11 hx hb dX0_countSale_17 rfl rfl ?_
  refine n_lald hx hb hK hP 10 2 rfl rfl (by omega) (by decide) dX0_countSale_18 ?_
  refine lv_iload_n hx hb dX0_countSale_19 rfl (lv_at hl 1 rfl) ?_
  refine n_i2l hx hb (by omega) dX0_countSale_20 ?_
  refine lv_ladd hx hb dX0_countSale_21 ?_
  refine n_last (ws' := (wX q cI cZ cJ k V C T B P A n PR ST li w WK so sp (vp_updL (vp_updL CT 2 ((CT 2) + (lZ ((ch : Nat) : Int)))) 7 (((vp_updL CT 2 ((CT 2) + (lZ ((ch : Nat) : Int)))) 7) + (lZ ((pp : Nat) : Int)))) SC TA)) hx hb hK hP hD hS 10 2 rfl rfl (by omega) (by decide) rfl dX0_countSale_22 (fun H locs hP hD hS => ?_)
  refine lv_aload_n hx hb dX0_countSale_23 rfl (lv_at hl 0 rfl) ?_
  refine gfX hx hb hts hin hown hK hP 15 (by decide) (List.mem_of_getElem? (i := 1) rfl) rfl rfl dX0_countSale_24 ?_
  refine lv_bipush (v := nI 8) hx hb dX0_countSale_27 (by decide) ?_
  refine lv_dup2_11 hx hb dX0_countSale_29 rfl rfl ?_
  refine n_lald hx hb hK hP 10 2 rfl rfl (by omega) (by decide) dX0_countSale_30 ?_
  refine lv_lconst (v := lZ 1) hx hb dX0_countSale_31 (by decide) ?_
  refine lv_ladd hx hb dX0_countSale_32 ?_
  refine n_last (ws' := (wX q cI cZ cJ k V C T B P A n PR ST li w WK so sp (vp_updL (vp_updL (vp_updL CT 2 ((CT 2) + (lZ ((ch : Nat) : Int)))) 7 (((vp_updL CT 2 ((CT 2) + (lZ ((ch : Nat) : Int)))) 7) + (lZ ((pp : Nat) : Int)))) 8 (((vp_updL (vp_updL CT 2 ((CT 2) + (lZ ((ch : Nat) : Int)))) 7 (((vp_updL CT 2 ((CT 2) + (lZ ((ch : Nat) : Int)))) 7) + (lZ ((pp : Nat) : Int)))) 8) + (lZ 1))) SC TA)) hx hb hK hP hD hS 10 2 rfl rfl (by omega) (by decide) rfl dX0_countSale_33 (fun H locs hP hD hS => ?_)
  refine lv_iload_n hx hb dX0_countSale_34 rfl (lv_at hl 2 rfl) ?_
  refine n_if_ne (tgt := 49) hx hb (by omega) dX0_countSale_35 (by decide) (fun c35 => ?_) (fun c35 => ?_)
  · subst hQ
    exact e_v (vp_updL (vp_updL (vp_updL CT 2 ((CT 2) + (lZ ((ch : Nat) : Int)))) 7 (((vp_updL CT 2 ((CT 2) + (lZ ((ch : Nat) : Int)))) 7) + (lZ ((pp : Nat) : Int)))) 8 (((vp_updL (vp_updL CT 2 ((CT 2) + (lZ ((ch : Nat) : Int)))) 7 (((vp_updL CT 2 ((CT 2) + (lZ ((ch : Nat) : Int)))) 7) + (lZ ((pp : Nat) : Int)))) 8) + (lZ 1))) hx hb hr hlocks hS hP hD (by unfold cs; exact (if_neg c35).symm) (Nat.le_of_ble_eq_true rfl) (Nat.le_of_ble_eq_true rfl) dX0_countSale_49
  · refine lv_aload_n hx hb dX0_countSale_38 rfl (lv_at hl 0 rfl) ?_
    refine gfX hx hb hts hin hown hK hP 15 (by decide) (List.mem_of_getElem? (i := 1) rfl) rfl rfl dX0_countSale_39 ?_
    refine lv_bipush (v := nI 9) hx hb dX0_countSale_42 (by decide) ?_
    refine lv_dup2_11 hx hb dX0_countSale_44 rfl rfl ?_
    refine n_lald hx hb hK hP 10 2 rfl rfl (by omega) (by decide) dX0_countSale_45 ?_
    refine lv_lconst (v := lZ 1) hx hb dX0_countSale_46 (by decide) ?_
    refine lv_ladd hx hb dX0_countSale_47 ?_
    refine n_last (ws' := (wX q cI cZ cJ k V C T B P A n PR ST li w WK so sp (vp_updL (vp_updL (vp_updL (vp_updL CT 2 ((CT 2) + (lZ ((ch : Nat) : Int)))) 7 (((vp_updL CT 2 ((CT 2) + (lZ ((ch : Nat) : Int)))) 7) + (lZ ((pp : Nat) : Int)))) 8 (((vp_updL (vp_updL CT 2 ((CT 2) + (lZ ((ch : Nat) : Int)))) 7 (((vp_updL CT 2 ((CT 2) + (lZ ((ch : Nat) : Int)))) 7) + (lZ ((pp : Nat) : Int)))) 8) + (lZ 1))) 9 (((vp_updL (vp_updL (vp_updL CT 2 ((CT 2) + (lZ ((ch : Nat) : Int)))) 7 (((vp_updL CT 2 ((CT 2) + (lZ ((ch : Nat) : Int)))) 7) + (lZ ((pp : Nat) : Int)))) 8 (((vp_updL (vp_updL CT 2 ((CT 2) + (lZ ((ch : Nat) : Int)))) 7 (((vp_updL CT 2 ((CT 2) + (lZ ((ch : Nat) : Int)))) 7) + (lZ ((pp : Nat) : Int)))) 8) + (lZ 1))) 9) + (lZ 1))) SC TA)) hx hb hK hP hD hS 10 2 rfl rfl (by omega) (by decide) rfl dX0_countSale_48 (fun H locs hP hD hS => ?_)
    subst hQ
    exact e_v (vp_updL (vp_updL (vp_updL (vp_updL CT 2 ((CT 2) + (lZ ((ch : Nat) : Int)))) 7 (((vp_updL CT 2 ((CT 2) + (lZ ((ch : Nat) : Int)))) 7) + (lZ ((pp : Nat) : Int)))) 8 (((vp_updL (vp_updL CT 2 ((CT 2) + (lZ ((ch : Nat) : Int)))) 7 (((vp_updL CT 2 ((CT 2) + (lZ ((ch : Nat) : Int)))) 7) + (lZ ((pp : Nat) : Int)))) 8) + (lZ 1))) 9 (((vp_updL (vp_updL (vp_updL CT 2 ((CT 2) + (lZ ((ch : Nat) : Int)))) 7 (((vp_updL CT 2 ((CT 2) + (lZ ((ch : Nat) : Int)))) 7) + (lZ ((pp : Nat) : Int)))) 8 (((vp_updL (vp_updL CT 2 ((CT 2) + (lZ ((ch : Nat) : Int)))) 7 (((vp_updL CT 2 ((CT 2) + (lZ ((ch : Nat) : Int)))) 7) + (lZ ((pp : Nat) : Int)))) 8) + (lZ 1))) 9) + (lZ 1))) hx hb hr hlocks hS hP hD (by unfold cs; exact (if_pos c35).symm) (Nat.le_of_ble_eq_true rfl) (Nat.le_of_ble_eq_true rfl) dX0_countSale_49
theorem hd_X0_countSale : yX0_countSale.cls = RX0 ∧ yX0_countSale.cls ≠ "java/lang/invoke/MethodHandle" ∧ yX0_countSale.cls ≠ "java/lang/invoke/VarHandle" ∧ (parseMethodDescriptor yX0_countSale.desc).map (fun d => d.parameters.length) = some 2 := by decide +kernel

set_option maxHeartbeats 4000000 in
set_option maxRecDepth 100000 in
theorem c_X0_digitOf (l : Launch) (hst : l.stackTraces = false) (D : va_G) (q : Nat → Nat) (cI cZ cJ : ClassId) (k : Nat) (V : Nat → Nat) (C : Nat → Nat) (T : Nat → Nat) (B : Nat → Nat) (P : Nat → Nat) (A : Nat → Nat) (n : Nat) (PR : Nat → Nat) (ST : Nat → Nat) (li : Nat) (w : Nat) (WK : Nat → Nat) (so : Nat) (sp : Nat) (CT : Nat → Int64) (SC : Nat → Int) (TA : Nat → Nat) (sz : Nat) (kd : Nat) (hk8 : k ≤ 8) (hV : ∀ i, i < k → 1 ≤ V i ∧ V i ≤ 500) (hkd : kd < k) : Met l yX0_digitOf wsX0_digitOf ({ frames := 0, cells := 0, slots := 0, locals := 0 }) (va_Pc [.ref (q 0), .int (nI kd)] (cxP D (ty3 cI cZ cJ) (wX q cI cZ cJ k V C T B P A n PR ST li w WK so sp CT SC TA) sz)) (va_Qi (fun r (_ : Unit) => r = nI (lc V (V kd) k * 6)) (bW D (va_A (wX q cI cZ cJ k V C T B P A n PR ST li w WK so sp CT SC TA) sz) (fun (_ : Unit) => (wX q cI cZ cJ k V C T B P A n PR ST li w WK so sp CT SC TA))) (va_A (wX q cI cZ cJ k V C T B P A n PR ST li w WK so sp CT SC TA) sz)) 0 0 (va_A (wX q cI cZ cJ k V C T B P A n PR ST li w WK so sp CT SC TA) sz) := by
  refine Met.ofW (cc := cX0_digitOf) (maxL := 4) (ret := (some .int)) (by decide) rfl ?_
  intro p e s m args below meth c s₁ BB hml hv
  obtain ⟨hav, hsz, hP, hK, hD0, hZ, hg⟩ := hv
  subst hsz
  subst hav
  have hx := BB.exec
  have hb := BB.bytes
  have hr := BB.returns
  have hts := atoms_spec (ws := wsX0_digitOf) BB.pre
  have hown : s.vm.findClass RX0 = some m.cls := findClass_of_methodNamed BB.named
  have hlocks := BB.notSynchronized
  have hin : ∀ w ∈ wsX00, w ∈ wsX0_digitOf := fun w h => (List.mem_cons_of_mem _ (List.mem_append_right _ h))
  have hD := hD0.self (sz := s.heap.size)
  have hA : ∀ q9 : Nat, s.heap.size ≤ q9 → va_A (wX q cI cZ cJ k V C T B P A n PR ST li w WK so sp CT SC TA) s.heap.size q9 := fun _ h => Or.inr h
  have hl := lv_entry ([.ref (q 0), .int (nI kd)]) (n := 4) (Nat.le_of_ble_eq_true rfl)
  rw [lg_entry_eq]
  generalize (lg_sl ([.ref (q 0), .int (nI kd)]) ++ List.replicate (4 - (lg_sl ([.ref (q 0), .int (nI kd)])).length) Slot.unset).toArray = ls at hl ⊢
  have hl : lv_has ls 4 [(0, .ref (q 0)), (1, .int (nI kd))] := hl
  refine W_absR (fun R hR => ?_)
  have hR : R = ({ frames := 0, cells := 0, slots := 0, locals := 0 } : Room) := hR
  refine W_absQ (fun Q hQ => ?_)
  generalize ([.ref (q 0), .int (nI kd)] : List Value).toArray = args at hts hQ ⊢
  generalize va_A (wX q cI cZ cJ k V C T B P A n PR ST li w WK so sp CT SC TA) s.heap.size = A9 at hD hZ hA hQ
  refine W_start hP (A := A9) (fun H locs hP hS => ?_)
  refine lv_iconst (v := nI 0) hx hb dX0_digitOf_0 (ic_0) ?_
  refine lv_istore_n (lv' := [(2, .int (nI 0)), (0, .ref (q 0)), (1, .int (nI kd))]) hx hb dX0_digitOf_1 rfl hl (by decide) rfl (fun ls hl => ?_)
  refine lv_iconst (v := nI 0) hx hb dX0_digitOf_2 (ic_0) ?_
  refine lv_istore_n (lv' := [(3, .int (nI 0)), (2, .int (nI 0)), (0, .ref (q 0)), (1, .int (nI kd))]) hx hb dX0_digitOf_3 rfl hl (by decide) rfl (fun ls hl => ?_)
  have lp_4 : ∀ (fu_4 : Nat) (j : Nat) (le : Nat), k - j < fu_4 → (j ≤ k) → (le = lc V (V kd) j) → ∀ (H : Heap) (locs : List Loc), va_P D vwCl (wX q cI cZ cJ k V C T B P A n PR ST li w WK so sp CT SC TA) H → va_D A9 (wX q cI cZ cJ k V C T B P A n PR ST li w WK so sp CT SC TA) → va_S A9 s.heap H locs → ∀ ls : Array Slot, lv_has ls 4 [(3, .int (nI j)), (2, .int (nI le)), (0, .ref (q 0)), (1, .int (nI kd))] → W p l e R s m args below meth c H locs 0 0 Q (F0 m 4 ls []) := by
    intro fu_4
    induction fu_4 with
    | zero =>
      intro j le hfu_4
      exact absurd hfu_4 (Nat.not_lt_zero _)
    | succ fu_4 ih_4 =>
      intro j le hfu_4 hj hm H locs hP hD hS ls hl
      refine lv_iload_n hx hb dX0_digitOf_4 rfl (lv_at hl 0 rfl) ?_
      refine lv_aload_n hx hb dX0_digitOf_5 rfl (lv_at hl 2 rfl) ?_
      refine gfX hx hb hts hin hown hK hP 0 (by decide) (List.mem_of_getElem? (i := 1) rfl) rfl rfl dX0_digitOf_6 ?_
      refine n_icmp_ge (tgt := 36) hx hb (by omega) (by omega) dX0_digitOf_9 (by decide) (fun c9 => ?_) (fun c9 => ?_)
      · have hik : k = j := by omega
        subst hik
        subst hm
        refine lv_iload_n hx hb dX0_digitOf_36 rfl (lv_at hl 1 rfl) ?_
        refine lv_bipush (v := nI 6) hx hb dX0_digitOf_37 (by decide) ?_
        refine n_imul hx hb dX0_digitOf_39 ?_
        subst hQ
        exact e_i () hx hb hr hlocks hS hP hD rfl (Nat.le_of_ble_eq_true rfl) (Nat.le_of_ble_eq_true rfl) dX0_digitOf_40
      · refine lv_aload_n hx hb dX0_digitOf_12 rfl (lv_at hl 2 rfl) ?_
        refine gfX hx hb hts hin hown hK hP 1 (by decide) (List.mem_of_getElem? (i := 2) rfl) rfl rfl dX0_digitOf_13 ?_
        refine lv_iload_n hx hb dX0_digitOf_16 rfl (lv_at hl 0 rfl) ?_
        refine n_iald hx hb hK hP 1 0 rfl rfl (by omega) (by decide) dX0_digitOf_17 ?_
        refine lv_aload_n hx hb dX0_digitOf_18 rfl (lv_at hl 2 rfl) ?_
        refine gfX hx hb hts hin hown hK hP 1 (by decide) (List.mem_of_getElem? (i := 2) rfl) rfl rfl dX0_digitOf_19 ?_
        refine lv_iload_n hx hb dX0_digitOf_22 rfl (lv_at hl 3 rfl) ?_
        refine n_iald hx hb hK hP 1 0 rfl rfl (by omega) (by decide) dX0_digitOf_23 ?_
        refine n_icmp_ge (tgt := 30) hx hb (by have := hV j (by omega); omega) (by have := hV kd hkd; omega) dX0_digitOf_24 (by decide) (fun c24 => ?_) (fun c24 => ?_)
        · have hwo := lc_n (V := V) (n := j) (x := V kd) c24
          refine lv_iinc (v := nI (j + 1)) (lv' := [(3, .int (nI (j + 1))), (2, .int (nI le)), (0, .ref (q 0)), (1, .int (nI kd))]) hx hb dX0_digitOf_30 hl (k := 0) rfl (ni_inc _ 1) (by decide) rfl (fun ls hl => ?_)
          refine lv_goto (tgt := 4) hx hb dX0_digitOf_33 (by decide) ?_
          exact ih_4 (j + 1) le (by omega) (by omega) (by omega) _ _ hP hD hS ls (lv_sub hl [0, 1, 2, 3] rfl)
        · have hwo := lc_y (V := V) (n := j) (x := V kd) c24
          refine lv_iinc (v := nI (le + 1)) (lv' := [(2, .int (nI (le + 1))), (3, .int (nI j)), (0, .ref (q 0)), (1, .int (nI kd))]) hx hb dX0_digitOf_27 hl (k := 1) rfl (ni_inc _ 1) (by decide) rfl (fun ls hl => ?_)
          refine lv_iinc (v := nI (j + 1)) (lv' := [(3, .int (nI (j + 1))), (2, .int (nI (le + 1))), (0, .ref (q 0)), (1, .int (nI kd))]) hx hb dX0_digitOf_30 hl (k := 1) rfl (ni_inc _ 1) (by decide) rfl (fun ls hl => ?_)
          refine lv_goto (tgt := 4) hx hb dX0_digitOf_33 (by decide) ?_
          exact ih_4 (j + 1) (le + 1) (by omega) (by omega) (by omega) _ _ hP hD hS ls (lv_sub hl [0, 1, 2, 3] rfl)
  exact lp_4 _ 0 0 (Nat.lt_succ_self _) (by omega) rfl _ _ hP hD hS ls (lv_sub hl [0, 1, 2, 3] rfl)
theorem hd_X0_digitOf : yX0_digitOf.cls = RX0 ∧ yX0_digitOf.cls ≠ "java/lang/invoke/MethodHandle" ∧ yX0_digitOf.cls ≠ "java/lang/invoke/VarHandle" ∧ (parseMethodDescriptor yX0_digitOf.desc).map (fun d => d.parameters.length) = some 1 := by decide +kernel

set_option maxHeartbeats 4000000 in
set_option maxRecDepth 100000 in
theorem c_X0_dividesAllValues (l : Launch) (hst : l.stackTraces = false) (D : va_G) (q : Nat → Nat) (cI cZ cJ : ClassId) (k : Nat) (V : Nat → Nat) (C : Nat → Nat) (T : Nat → Nat) (B : Nat → Nat) (P : Nat → Nat) (A : Nat → Nat) (n : Nat) (PR : Nat → Nat) (ST : Nat → Nat) (li : Nat) (w : Nat) (WK : Nat → Nat) (so : Nat) (sp : Nat) (CT : Nat → Int64) (SC : Nat → Int) (TA : Nat → Nat) (sz : Nat) (dd : Nat) (hk8 : k ≤ 8) (hV : ∀ i, i < k → 1 ≤ V i ∧ V i ≤ 500) (hd1 : 1 ≤ dd) (hd2 : dd ≤ 500) : Met l yX0_dividesAllValues wsX0_dividesAllValues ({ frames := 0, cells := 0, slots := 0, locals := 0 }) (va_Pc [.ref (q 0), .int (nI dd)] (cxP D (ty3 cI cZ cJ) (wX q cI cZ cJ k V C T B P A n PR ST li w WK so sp CT SC TA) sz)) (va_Qi (fun r (_ : Unit) => r = nI (dv V k dd)) (bW D (va_A (wX q cI cZ cJ k V C T B P A n PR ST li w WK so sp CT SC TA) sz) (fun (_ : Unit) => (wX q cI cZ cJ k V C T B P A n PR ST li w WK so sp CT SC TA))) (va_A (wX q cI cZ cJ k V C T B P A n PR ST li w WK so sp CT SC TA) sz)) 0 0 (va_A (wX q cI cZ cJ k V C T B P A n PR ST li w WK so sp CT SC TA) sz) := by
  refine Met.ofW (cc := cX0_dividesAllValues) (maxL := 3) (ret := (some .boolean)) (by decide) rfl ?_
  intro p e s m args below meth c s₁ BB hml hv
  obtain ⟨hav, hsz, hP, hK, hD0, hZ, hg⟩ := hv
  subst hsz
  subst hav
  have hx := BB.exec
  have hb := BB.bytes
  have hr := BB.returns
  have hts := atoms_spec (ws := wsX0_dividesAllValues) BB.pre
  have hown : s.vm.findClass RX0 = some m.cls := findClass_of_methodNamed BB.named
  have hlocks := BB.notSynchronized
  have hin : ∀ w ∈ wsX00, w ∈ wsX0_dividesAllValues := fun w h => (List.mem_cons_of_mem _ (List.mem_append_right _ h))
  have hD := hD0.self (sz := s.heap.size)
  have hA : ∀ q9 : Nat, s.heap.size ≤ q9 → va_A (wX q cI cZ cJ k V C T B P A n PR ST li w WK so sp CT SC TA) s.heap.size q9 := fun _ h => Or.inr h
  have hl := lv_entry ([.ref (q 0), .int (nI dd)]) (n := 3) (Nat.le_of_ble_eq_true rfl)
  rw [lg_entry_eq]
  generalize (lg_sl ([.ref (q 0), .int (nI dd)]) ++ List.replicate (3 - (lg_sl ([.ref (q 0), .int (nI dd)])).length) Slot.unset).toArray = ls at hl ⊢
  have hl : lv_has ls 3 [(0, .ref (q 0)), (1, .int (nI dd))] := hl
  refine W_absR (fun R hR => ?_)
  have hR : R = ({ frames := 0, cells := 0, slots := 0, locals := 0 } : Room) := hR
  refine W_absQ (fun Q hQ => ?_)
  generalize ([.ref (q 0), .int (nI dd)] : List Value).toArray = args at hts hQ ⊢
  generalize va_A (wX q cI cZ cJ k V C T B P A n PR ST li w WK so sp CT SC TA) s.heap.size = A9 at hD hZ hA hQ
  refine W_start hP (A := A9) (fun H locs hP hS => ?_)
  refine lv_iconst (v := nI 0) hx hb dX0_dividesAllValues_0 (ic_0) ?_
  refine lv_istore_n (lv' := [(2, .int (nI 0)), (0, .ref (q 0)), (1, .int (nI dd))]) hx hb dX0_dividesAllValues_1 rfl hl (by decide) rfl (fun ls hl => ?_)
  have lp_2 : ∀ (fu_2 : Nat) (i : Nat), k - i < fu_2 → (i ≤ k) → (∀ j, j < i → V j % dd = 0) → ∀ (H : Heap) (locs : List Loc), va_P D vwCl (wX q cI cZ cJ k V C T B P A n PR ST li w WK so sp CT SC TA) H → va_D A9 (wX q cI cZ cJ k V C T B P A n PR ST li w WK so sp CT SC TA) → va_S A9 s.heap H locs → ∀ ls : Array Slot, lv_has ls 3 [(2, .int (nI i)), (0, .ref (q 0)), (1, .int (nI dd))] → W p l e R s m args below meth c H locs 0 0 Q (F0 m 2 ls []) := by
    intro fu_2
    induction fu_2 with
    | zero =>
      intro i hfu_2
      exact absurd hfu_2 (Nat.not_lt_zero _)
    | succ fu_2 ih_2 =>
      intro i hfu_2 hi hs H locs hP hD hS ls hl
      refine lv_iload_n hx hb dX0_dividesAllValues_2 rfl (lv_at hl 0 rfl) ?_
      refine lv_aload_n hx hb dX0_dividesAllValues_3 rfl (lv_at hl 1 rfl) ?_
      refine gfX hx hb hts hin hown hK hP 0 (by decide) (List.mem_of_getElem? (i := 1) rfl) rfl rfl dX0_dividesAllValues_4 ?_
      refine n_icmp_ge (tgt := 34) hx hb (by omega) (by omega) dX0_dividesAllValues_7 (by decide) (fun c7 => ?_) (fun c7 => ?_)
      · refine lv_iconst (v := nI 1) hx hb dX0_dividesAllValues_34 (ic_1) ?_
        subst hQ
        exact e_z () hx hb hr hlocks hS (by omega) hP hD (congrArg nI (dv_y (fun j hj => hs j (by omega))).symm) (Nat.le_of_ble_eq_true rfl) (Nat.le_of_ble_eq_true rfl) dX0_dividesAllValues_35
      · refine lv_iload_n hx hb dX0_dividesAllValues_10 rfl (lv_at hl 2 rfl) ?_
        refine lv_iconst (v := nI 1) hx hb dX0_dividesAllValues_11 (ic_1) ?_
        refine n_icmp_lt (tgt := 26) hx hb (by omega) (by omega) dX0_dividesAllValues_12 (by decide) (fun c12 => ?_) (fun c12 => ?_)
        · exact absurd c12 (by omega)
        · refine lv_aload_n hx hb dX0_dividesAllValues_15 rfl (lv_at hl 1 rfl) ?_
          refine gfX hx hb hts hin hown hK hP 1 (by decide) (List.mem_of_getElem? (i := 2) rfl) rfl rfl dX0_dividesAllValues_16 ?_
          refine lv_iload_n hx hb dX0_dividesAllValues_19 rfl (lv_at hl 0 rfl) ?_
          refine n_iald hx hb hK hP 1 0 rfl rfl (by omega) (by decide) dX0_dividesAllValues_20 ?_
          refine lv_iload_n hx hb dX0_dividesAllValues_21 rfl (lv_at hl 2 rfl) ?_
          refine n_irem hx hb (by have := hV i (by omega); omega) (by omega) (by omega) dX0_dividesAllValues_22 ?_
          refine n_if_eq (tgt := 28) hx hb (by have := hV i (by omega); have := Nat.mod_le (V i) dd; omega) dX0_dividesAllValues_23 (by decide) (fun c23 => ?_) (fun c23 => ?_)
          · refine lv_iinc (v := nI (i + 1)) (lv' := [(2, .int (nI (i + 1))), (0, .ref (q 0)), (1, .int (nI dd))]) hx hb dX0_dividesAllValues_28 hl (k := 0) rfl (ni_inc _ 1) (by decide) rfl (fun ls hl => ?_)
            refine lv_goto (tgt := 2) hx hb dX0_dividesAllValues_31 (by decide) ?_
            exact ih_2 (i + 1) (by omega) (by omega) (fun j hj => by rcases Nat.lt_or_ge j i with h | h; exact hs j h; rw [show j = i by omega]; exact c23) _ _ hP hD hS ls (lv_sub hl [0, 1, 2] rfl)
          · refine lv_iconst (v := nI 0) hx hb dX0_dividesAllValues_26 (ic_0) ?_
            subst hQ
            exact e_z () hx hb hr hlocks hS (by omega) hP hD (congrArg nI (dv_n (by omega) c23).symm) (Nat.le_of_ble_eq_true rfl) (Nat.le_of_ble_eq_true rfl) dX0_dividesAllValues_27
  exact lp_2 _ 0 (Nat.lt_succ_self _) (by omega) (fun j hj => absurd hj (Nat.not_lt_zero j)) _ _ hP hD hS ls (lv_sub hl [0, 1, 2] rfl)
theorem hd_X0_dividesAllValues : yX0_dividesAllValues.cls = RX0 ∧ yX0_dividesAllValues.cls ≠ "java/lang/invoke/MethodHandle" ∧ yX0_dividesAllValues.cls ≠ "java/lang/invoke/VarHandle" ∧ (parseMethodDescriptor yX0_dividesAllValues.desc).map (fun d => d.parameters.length) = some 1 := by decide +kernel

set_option maxHeartbeats 4000000 in
set_option maxRecDepth 100000 in
theorem c_X0_unit (l : Launch) (hst : l.stackTraces = false) (D : va_G) (q : Nat → Nat) (cI cZ cJ : ClassId) (k : Nat) (V : Nat → Nat) (C : Nat → Nat) (T : Nat → Nat) (B : Nat → Nat) (P : Nat → Nat) (A : Nat → Nat) (n : Nat) (PR : Nat → Nat) (ST : Nat → Nat) (li : Nat) (w : Nat) (WK : Nat → Nat) (so : Nat) (sp : Nat) (CT : Nat → Int64) (SC : Nat → Int) (TA : Nat → Nat) (sz : Nat) (hk8 : k ≤ 8) (hV : ∀ i, i < k → 1 ≤ V i ∧ V i ≤ 500) : Met l yX0_unit wsX0_unit ({ frames := 1, cells := 0, slots := 0, locals := 22 }) (va_Pc [.ref (q 0)] (cxP D (ty3 cI cZ cJ) (wX q cI cZ cJ k V C T B P A n PR ST li w WK so sp CT SC TA) sz)) (va_Qi (fun r (_ : Unit) => r = nI (gu V k)) (bW D (va_A (wX q cI cZ cJ k V C T B P A n PR ST li w WK so sp CT SC TA) sz) (fun (_ : Unit) => (wX q cI cZ cJ k V C T B P A n PR ST li w WK so sp CT SC TA))) (va_A (wX q cI cZ cJ k V C T B P A n PR ST li w WK so sp CT SC TA) sz)) 0 0 (va_A (wX q cI cZ cJ k V C T B P A n PR ST li w WK so sp CT SC TA) sz) := by
  refine Met.ofW (cc := cX0_unit) (maxL := 2) (ret := (some .int)) (by decide) rfl ?_
  intro p e s m args below meth c s₁ BB hml hv
  obtain ⟨hav, hsz, hP, hK, hD0, hZ, hg⟩ := hv
  subst hsz
  subst hav
  have hx := BB.exec
  have hb := BB.bytes
  have hr := BB.returns
  have hts := atoms_spec (ws := wsX0_unit) BB.pre
  have hown : s.vm.findClass RX0 = some m.cls := findClass_of_methodNamed BB.named
  have hlocks := BB.notSynchronized
  have hin : ∀ w ∈ wsX00, w ∈ wsX0_unit := fun w h => (List.mem_cons_of_mem _ (List.mem_append_right _ h))
  have hD := hD0.self (sz := s.heap.size)
  have hA : ∀ q9 : Nat, s.heap.size ≤ q9 → va_A (wX q cI cZ cJ k V C T B P A n PR ST li w WK so sp CT SC TA) s.heap.size q9 := fun _ h => Or.inr h
  have hl := lv_entry ([.ref (q 0)]) (n := 2) (Nat.le_of_ble_eq_true rfl)
  rw [lg_entry_eq]
  generalize (lg_sl ([.ref (q 0)]) ++ List.replicate (2 - (lg_sl ([.ref (q 0)])).length) Slot.unset).toArray = ls at hl ⊢
  have hl : lv_has ls 2 [(0, .ref (q 0))] := hl
  refine W_absR (fun R hR => ?_)
  have hR : R = ({ frames := 1, cells := 0, slots := 0, locals := 22 } : Room) := hR
  refine W_absQ (fun Q hQ => ?_)
  generalize ([.ref (q 0)] : List Value).toArray = args at hts hQ ⊢
  generalize va_A (wX q cI cZ cJ k V C T B P A n PR ST li w WK so sp CT SC TA) s.heap.size = A9 at hD hZ hA hQ
  refine W_start hP (A := A9) (fun H locs hP hS => ?_)
  refine lv_aload_n hx hb dX0_unit_0 rfl (lv_at hl 0 rfl) ?_
  refine gfX hx hb hts hin hown hK hP 0 (by decide) (List.mem_of_getElem? (i := 1) rfl) rfl rfl dX0_unit_1 ?_
  refine n_if_ne (tgt := 9) hx hb (by omega) dX0_unit_4 (by decide) (fun c4 => ?_) (fun c4 => ?_)
  · refine lv_sipush (v := nI 500) hx hb dX0_unit_9 (by decide) ?_
    refine lv_istore_n (lv' := [(1, .int (nI 500)), (0, .ref (q 0))]) hx hb dX0_unit_12 rfl hl (by decide) rfl (fun ls hl => ?_)
    have lp_13 : ∀ (fu_13 : Nat) (dd : Nat), dd < fu_13 → (1 ≤ dd) → (dd ≤ 500) → (gu V k = fd V k dd) → ∀ (H : Heap) (locs : List Loc), va_P D vwCl (wX q cI cZ cJ k V C T B P A n PR ST li w WK so sp CT SC TA) H → va_D A9 (wX q cI cZ cJ k V C T B P A n PR ST li w WK so sp CT SC TA) → va_S A9 s.heap H locs → ∀ ls : Array Slot, lv_has ls 2 [(1, .int (nI dd)), (0, .ref (q 0))] → W p l e R s m args below meth c H locs 0 0 Q (F0 m 13 ls []) := by
      intro fu_13
      induction fu_13 with
      | zero =>
        intro dd hfu_13
        exact absurd hfu_13 (Nat.not_lt_zero _)
      | succ fu_13 ih_13 =>
        intro dd hfu_13 hd1 hd2 hf H locs hP hD hS ls hl
        refine lv_iload_n hx hb dX0_unit_13 rfl (lv_at hl 0 rfl) ?_
        refine lv_iconst (v := nI 1) hx hb dX0_unit_14 (ic_1) ?_
        refine n_icmp_le (tgt := 34) hx hb (by omega) (by omega) dX0_unit_15 (by decide) (fun c15 => ?_) (fun c15 => ?_)
        · refine lv_iconst (v := nI 1) hx hb dX0_unit_34 (ic_1) ?_
          subst hQ
          exact e_i () hx hb hr hlocks hS hP hD (by rw [hf, show dd = 1 by omega, fd_y (Nat.le_refl 1) (dv_1 V k)]) (Nat.le_of_ble_eq_true rfl) (Nat.le_of_ble_eq_true rfl) dX0_unit_35
        · refine lv_aload_n hx hb dX0_unit_18 rfl (lv_at hl 1 rfl) ?_
          refine lv_iload_n hx hb dX0_unit_19 rfl (lv_at hl 0 rfl) ?_
          refine k_i (va_runV (As := [.int (nI dd)]) (rest := []) ⟨hx, hb, hml, hown, hts⟩ (c_X0_dividesAllValues l hst D q cI cZ cJ k V C T B P A n PR ST li w WK so sp CT SC TA H.size dd hk8 hV hd1 hd2) (cwV 1 hts gX0_unit_X0_dividesAllValues rfl rfl rfl hd_X0_dividesAllValues ⟨(by rw [hR]; exact Nat.le_of_ble_eq_true rfl), (by rw [hR]; exact Nat.le_of_ble_eq_true rfl)⟩) (pre_V hP hK hD hS hA hZ hg 0 (ci := 0) rfl rfl) rfl rfl hl.1 rfl (lv_room (Nat.le_of_ble_eq_true rfl)) dX0_unit_20 ⟨(by rw [hR]; exact Nat.le_of_ble_eq_true rfl), (by rw [hR]; exact Nat.le_of_ble_eq_true rfl)⟩) hD hS hA (fun r_2 u_1 H locs hp_3 hP hD hS => ?_)
          subst hp_3
          refine n_if_eq (tgt := 28) hx hb (by have := dv_le V k dd; omega) dX0_unit_23 (by decide) (fun c23 => ?_) (fun c23 => ?_)
          · have hdl := dv_le V k dd
            refine lv_iinc (v := nI (dd - 1)) (lv' := [(1, .int (nI (dd - 1))), (0, .ref (q 0))]) hx hb dX0_unit_28 hl (k := 0) rfl (ni_dec (by omega)) (by decide) rfl (fun ls hl => ?_)
            refine lv_goto (tgt := 13) hx hb dX0_unit_31 (by decide) ?_
            exact ih_13 (dd - 1) (by omega) (by omega) (by omega) (by rw [hf]; exact fd_n hd1 (by omega)) _ _ hP hD hS ls (lv_sub hl [0, 1] rfl)
          · have hdl := dv_le V k dd
            refine lv_iload_n hx hb dX0_unit_26 rfl (lv_at hl 0 rfl) ?_
            subst hQ
            exact e_i () hx hb hr hlocks hS hP hD (by rw [hf, fd_y hd1 (by omega)]) (Nat.le_of_ble_eq_true rfl) (Nat.le_of_ble_eq_true rfl) dX0_unit_27
    exact lp_13 _ 500 (Nat.lt_succ_self _) (by omega) (by omega) (if_neg c4) _ _ hP hD hS ls (lv_sub hl [0, 1] rfl)
  · refine lv_iconst (v := nI 0) hx hb dX0_unit_7 (ic_0) ?_
    subst hQ
    exact e_i () hx hb hr hlocks hS hP hD (by unfold gu; rw [if_pos c4]) (Nat.le_of_ble_eq_true rfl) (Nat.le_of_ble_eq_true rfl) dX0_unit_8
theorem hd_X0_unit : yX0_unit.cls = RX0 ∧ yX0_unit.cls ≠ "java/lang/invoke/MethodHandle" ∧ yX0_unit.cls ≠ "java/lang/invoke/VarHandle" ∧ (parseMethodDescriptor yX0_unit.desc).map (fun d => d.parameters.length) = some 0 := by decide +kernel

set_option maxHeartbeats 4000000 in
set_option maxRecDepth 100000 in
theorem c_X0_foreseeTubes (l : Launch) (hst : l.stackTraces = false) (D : va_G) (q : Nat → Nat) (cI cZ cJ : ClassId) (k : Nat) (V : Nat → Nat) (C : Nat → Nat) (T : Nat → Nat) (B : Nat → Nat) (P : Nat → Nat) (A : Nat → Nat) (n : Nat) (PR : Nat → Nat) (ST : Nat → Nat) (li : Nat) (w : Nat) (WK : Nat → Nat) (so : Nat) (sp : Nat) (CT : Nat → Int64) (SC : Nat → Int) (TA : Nat → Nat) (sz : Nat) (hk8 : k ≤ 8) (hC : ∀ i, i < k → C i ≤ 60 ∧ T i ≤ C i) (hw12 : w ≤ 12) (hWK : ∀ j, j < w → WK j < k) : Met l yX0_foreseeTubes wsX0_foreseeTubes ({ frames := 1, cells := 0, slots := 0, locals := 23 }) (va_Pc [.ref (q 0)] (cxP D (ty3 cI cZ cJ) (wX q cI cZ cJ k V C T B P A n PR ST li w WK so sp CT SC TA) sz)) (va_Qv (fun (u : Nat → Nat) => ∀ i, i < k → u i = min (T i + wo WK i w) (C i)) (bW D (va_A (wX q cI cZ cJ k V C T B P A n PR ST li w WK so sp CT SC TA) sz) (fun u => (wX q cI cZ cJ k V C T B P A n PR ST li w WK so sp CT SC u))) (va_A (wX q cI cZ cJ k V C T B P A n PR ST li w WK so sp CT SC TA) sz)) 0 0 (va_A (wX q cI cZ cJ k V C T B P A n PR ST li w WK so sp CT SC TA) sz) := by
  refine Met.ofW (cc := cX0_foreseeTubes) (maxL := 2) (ret := none) (by decide) rfl ?_
  intro p e s m args below meth c s₁ BB hml hv
  obtain ⟨hav, hsz, hP, hK, hD0, hZ, hg⟩ := hv
  subst hsz
  subst hav
  have hx := BB.exec
  have hb := BB.bytes
  have hr := BB.returns
  have hts := atoms_spec (ws := wsX0_foreseeTubes) BB.pre
  have hown : s.vm.findClass RX0 = some m.cls := findClass_of_methodNamed BB.named
  have hlocks := BB.notSynchronized
  have hin : ∀ w ∈ wsX00, w ∈ wsX0_foreseeTubes := fun w h => (List.mem_cons_of_mem _ (List.mem_append_right _ h))
  have hD := hD0.self (sz := s.heap.size)
  have hA : ∀ q9 : Nat, s.heap.size ≤ q9 → va_A (wX q cI cZ cJ k V C T B P A n PR ST li w WK so sp CT SC TA) s.heap.size q9 := fun _ h => Or.inr h
  have hl := lv_entry ([.ref (q 0)]) (n := 2) (Nat.le_of_ble_eq_true rfl)
  rw [lg_entry_eq]
  generalize (lg_sl ([.ref (q 0)]) ++ List.replicate (2 - (lg_sl ([.ref (q 0)])).length) Slot.unset).toArray = ls at hl ⊢
  have hl : lv_has ls 2 [(0, .ref (q 0))] := hl
  refine W_absR (fun R hR => ?_)
  have hR : R = ({ frames := 1, cells := 0, slots := 0, locals := 23 } : Room) := hR
  refine W_absQ (fun Q hQ => ?_)
  generalize ([.ref (q 0)] : List Value).toArray = args at hts hQ ⊢
  generalize va_A (wX q cI cZ cJ k V C T B P A n PR ST li w WK so sp CT SC TA) s.heap.size = A9 at hD hZ hA hQ
  refine W_start hP (A := A9) (fun H locs hP hS => ?_)
  refine lv_iconst (v := nI 0) hx hb dX0_foreseeTubes_0 (ic_0) ?_
  refine lv_istore_n (lv' := [(1, .int (nI 0)), (0, .ref (q 0))]) hx hb dX0_foreseeTubes_1 rfl hl (by decide) rfl (fun ls hl => ?_)
  have lp_2 : ∀ (fu_2 : Nat) (i : Nat) (Tx : Nat → Nat), k - i < fu_2 → (i ≤ k) → (∀ j, j < i → Tx j = min (T j + wo WK j w) (C j)) → ∀ (H : Heap) (locs : List Loc), va_P D vwCl (wX q cI cZ cJ k V C T B P A n PR ST li w WK so sp CT SC Tx) H → va_D A9 (wX q cI cZ cJ k V C T B P A n PR ST li w WK so sp CT SC Tx) → va_S A9 s.heap H locs → ∀ ls : Array Slot, lv_has ls 2 [(1, .int (nI i)), (0, .ref (q 0))] → W p l e R s m args below meth c H locs 0 0 Q (F0 m 2 ls []) := by
    intro fu_2
    induction fu_2 with
    | zero =>
      intro i Tx hfu_2
      exact absurd hfu_2 (Nat.not_lt_zero _)
    | succ fu_2 ih_2 =>
      intro i Tx hfu_2 hi hs H locs hP hD hS ls hl
      refine lv_iload_n hx hb dX0_foreseeTubes_2 rfl (lv_at hl 0 rfl) ?_
      refine lv_aload_n hx hb dX0_foreseeTubes_3 rfl (lv_at hl 1 rfl) ?_
      refine gfX hx hb hts hin hown hK hP 0 (by decide) (List.mem_of_getElem? (i := 1) rfl) rfl rfl dX0_foreseeTubes_4 ?_
      refine n_icmp_ge (tgt := 43) hx hb (by omega) (by omega) dX0_foreseeTubes_7 (by decide) (fun c7 => ?_) (fun c7 => ?_)
      · subst hQ
        exact e_v Tx hx hb hr hlocks hS hP hD (fun j hj => hs j (by omega)) (Nat.le_of_ble_eq_true rfl) (Nat.le_of_ble_eq_true rfl) dX0_foreseeTubes_43
      · refine lv_aload_n hx hb dX0_foreseeTubes_10 rfl (lv_at hl 1 rfl) ?_
        refine gfX hx hb hts hin hown hK hP 17 (by decide) (List.mem_of_getElem? (i := 2) rfl) rfl rfl dX0_foreseeTubes_11 ?_
        refine lv_iload_n hx hb dX0_foreseeTubes_14 rfl (lv_at hl 0 rfl) ?_
        refine lv_aload_n hx hb dX0_foreseeTubes_15 rfl (lv_at hl 1 rfl) ?_
        refine gfX hx hb hts hin hown hK hP 3 (by decide) (List.mem_of_getElem? (i := 3) rfl) rfl rfl dX0_foreseeTubes_16 ?_
        refine lv_iload_n hx hb dX0_foreseeTubes_19 rfl (lv_at hl 0 rfl) ?_
        refine n_iald hx hb hK hP 3 0 rfl rfl (by omega) (by decide) dX0_foreseeTubes_20 ?_
        refine lv_aload_n hx hb dX0_foreseeTubes_21 rfl (lv_at hl 1 rfl) ?_
        refine lv_iload_n hx hb dX0_foreseeTubes_22 rfl (lv_at hl 0 rfl) ?_
        refine k_i (va_runV (As := [.int (nI i)]) (rest := [.int (nI (T i)), .int (nI i), .ref (q 17)]) ⟨hx, hb, hml, hown, hts⟩ (c_X0_waitingOf l hst D q cI cZ cJ k V C T B P A n PR ST li w WK so sp CT SC Tx H.size i hw12 hk8 hWK (by omega)) (cwV 1 hts gX0_foreseeTubes_X0_waitingOf rfl rfl rfl hd_X0_waitingOf ⟨(by rw [hR]; exact Nat.le_of_ble_eq_true rfl), (by rw [hR]; exact Nat.le_of_ble_eq_true rfl)⟩) (pre_V hP hK hD hS hA hZ hg 0 (ci := 0) rfl rfl) rfl rfl hl.1 rfl (lv_room (Nat.le_of_ble_eq_true rfl)) dX0_foreseeTubes_23 ⟨(by rw [hR]; exact Nat.le_of_ble_eq_true rfl), (by rw [hR]; exact Nat.le_of_ble_eq_true rfl)⟩) hD hS hA (fun r_2 u_1 H locs hp_3 hP hD hS => ?_)
        subst hp_3
        refine n_iadd hx hb dX0_foreseeTubes_26 ?_
        refine lv_aload_n hx hb dX0_foreseeTubes_27 rfl (lv_at hl 1 rfl) ?_
        refine gfX hx hb hts hin hown hK hP 2 (by decide) (List.mem_of_getElem? (i := 4) rfl) rfl rfl dX0_foreseeTubes_28 ?_
        refine lv_iload_n hx hb dX0_foreseeTubes_31 rfl (lv_at hl 0 rfl) ?_
        refine n_iald hx hb hK hP 2 0 rfl rfl (by omega) (by decide) dX0_foreseeTubes_32 ?_
        refine va_mmin hx hb (hml.trans hl.1.symm) hown (hts _ (List.mem_of_getElem? (i := 5) rfl)) (hts _ (List.mem_of_getElem? (i := 6) rfl)) (hts _ (List.mem_of_getElem? (i := 7) rfl)) (hts _ (List.mem_of_getElem? (i := 8) rfl)) (by rw [hR]; exact Nat.le_of_ble_eq_true rfl) (by rw [hR]; exact Nat.le_of_ble_eq_true rfl) (by rw [hR]; exact Nat.le_of_ble_eq_true rfl) (by rw [hR]; exact Nat.le_of_ble_eq_true rfl) dX0_foreseeTubes_33 (n_top (nI_min _ _ (by have := hC i (by omega); have := wo_le WK i w; omega) (by have := hC i (by omega); omega)) ?_)
        refine n_iast (ws' := (wX q cI cZ cJ k V C T B P A n PR ST li w WK so sp CT SC (un Tx i (min ((T i) + (wo WK i w)) (C i))))) hx hb hK hP hD hS 12 0 rfl rfl (by omega) (by decide) rfl dX0_foreseeTubes_36 (fun H locs hP hD hS => ?_)
        refine lv_iinc (v := nI (i + 1)) (lv' := [(1, .int (nI (i + 1))), (0, .ref (q 0))]) hx hb dX0_foreseeTubes_37 hl (k := 0) rfl (ni_inc _ 1) (by decide) rfl (fun ls hl => ?_)
        refine lv_goto (tgt := 2) hx hb dX0_foreseeTubes_40 (by decide) ?_
        exact ih_2 (i + 1) (un Tx i (min ((T i) + (wo WK i w)) (C i))) (by omega) (by omega) (fun j hj => by rcases Nat.lt_or_ge j i with h | h; (rw [un_n (by omega)]; exact hs j h); (rw [show j = i by omega]; exact un_s)) _ _ hP hD hS ls (lv_sub hl [0, 1] rfl)
  exact lp_2 _ 0 TA (Nat.lt_succ_self _) (by omega) (fun j hj => absurd hj (Nat.not_lt_zero j)) _ _ hP hD hS ls (lv_sub hl [0, 1] rfl)
theorem hd_X0_foreseeTubes : yX0_foreseeTubes.cls = RX0 ∧ yX0_foreseeTubes.cls ≠ "java/lang/invoke/MethodHandle" ∧ yX0_foreseeTubes.cls ≠ "java/lang/invoke/VarHandle" ∧ (parseMethodDescriptor yX0_foreseeTubes.desc).map (fun d => d.parameters.length) = some 0 := by decide +kernel

set_option maxHeartbeats 4000000 in
set_option maxRecDepth 100000 in
theorem c_X0_dropWaiting (l : Launch) (hst : l.stackTraces = false) (D : va_G) (q : Nat → Nat) (cI cZ cJ : ClassId) (k : Nat) (V : Nat → Nat) (C : Nat → Nat) (T : Nat → Nat) (B : Nat → Nat) (P : Nat → Nat) (A : Nat → Nat) (n : Nat) (PR : Nat → Nat) (ST : Nat → Nat) (li : Nat) (w : Nat) (WK : Nat → Nat) (so : Nat) (sp : Nat) (CT : Nat → Int64) (SC : Nat → Int) (TA : Nat → Nat) (sz : Nat) (hk8 : k ≤ 8) (hC : ∀ i, i < k → C i ≤ 60 ∧ T i ≤ C i) (hw12 : w ≤ 12) (hWK : ∀ j, j < w → WK j < k) : Met l yX0_dropWaiting wsX0_dropWaiting ({ frames := 1, cells := 0, slots := 0, locals := 23 }) (va_Pc [.ref (q 0)] (cxP D (ty3 cI cZ cJ) (wX q cI cZ cJ k V C T B P A n PR ST li w WK so sp CT SC TA) sz)) (va_Qv (fun (_ : Unit) => True) (bW D (va_A (wX q cI cZ cJ k V C T B P A n PR ST li w WK so sp CT SC TA) sz) (fun (_ : Unit) => (wX q cI cZ cJ k V C (dT C T WK w k) (dB C T B WK w k) P A n PR ST li 0 WK so sp CT SC TA))) (va_A (wX q cI cZ cJ k V C T B P A n PR ST li w WK so sp CT SC TA) sz)) 0 0 (va_A (wX q cI cZ cJ k V C T B P A n PR ST li w WK so sp CT SC TA) sz) := by
  refine Met.ofW (cc := cX0_dropWaiting) (maxL := 4) (ret := none) (by decide) rfl ?_
  intro p e s m args below meth c s₁ BB hml hv
  obtain ⟨hav, hsz, hP, hK, hD0, hZ, hg⟩ := hv
  subst hsz
  subst hav
  have hx := BB.exec
  have hb := BB.bytes
  have hr := BB.returns
  have hts := atoms_spec (ws := wsX0_dropWaiting) BB.pre
  have hown : s.vm.findClass RX0 = some m.cls := findClass_of_methodNamed BB.named
  have hlocks := BB.notSynchronized
  have hin : ∀ w ∈ wsX00, w ∈ wsX0_dropWaiting := fun w h => (List.mem_cons_of_mem _ (List.mem_append_right _ h))
  have hD := hD0.self (sz := s.heap.size)
  have hA : ∀ q9 : Nat, s.heap.size ≤ q9 → va_A (wX q cI cZ cJ k V C T B P A n PR ST li w WK so sp CT SC TA) s.heap.size q9 := fun _ h => Or.inr h
  have hl := lv_entry ([.ref (q 0)]) (n := 4) (Nat.le_of_ble_eq_true rfl)
  rw [lg_entry_eq]
  generalize (lg_sl ([.ref (q 0)]) ++ List.replicate (4 - (lg_sl ([.ref (q 0)])).length) Slot.unset).toArray = ls at hl ⊢
  have hl : lv_has ls 4 [(0, .ref (q 0))] := hl
  refine W_absR (fun R hR => ?_)
  have hR : R = ({ frames := 1, cells := 0, slots := 0, locals := 23 } : Room) := hR
  refine W_absQ (fun Q hQ => ?_)
  generalize ([.ref (q 0)] : List Value).toArray = args at hts hQ ⊢
  generalize va_A (wX q cI cZ cJ k V C T B P A n PR ST li w WK so sp CT SC TA) s.heap.size = A9 at hD hZ hA hQ
  refine W_start hP (A := A9) (fun H locs hP hS => ?_)
  refine lv_iconst (v := nI 0) hx hb dX0_dropWaiting_0 (ic_0) ?_
  refine lv_istore_n (lv' := [(1, .int (nI 0)), (0, .ref (q 0))]) hx hb dX0_dropWaiting_1 rfl hl (by decide) rfl (fun ls hl => ?_)
  have lp_2 : ∀ (fu_2 : Nat) (i : Nat), k - i < fu_2 → (i ≤ k) → ∀ (H : Heap) (locs : List Loc), va_P D vwCl (wX q cI cZ cJ k V C (dT C T WK w i) (dB C T B WK w i) P A n PR ST li w WK so sp CT SC TA) H → va_D A9 (wX q cI cZ cJ k V C (dT C T WK w i) (dB C T B WK w i) P A n PR ST li w WK so sp CT SC TA) → va_S A9 s.heap H locs → ∀ ls : Array Slot, lv_has ls 4 [(1, .int (nI i)), (0, .ref (q 0))] → W p l e R s m args below meth c H locs 0 0 Q (F0 m 2 ls []) := by
    intro fu_2
    induction fu_2 with
    | zero =>
      intro i hfu_2
      exact absurd hfu_2 (Nat.not_lt_zero _)
    | succ fu_2 ih_2 =>
      intro i hfu_2 hi H locs hP hD hS ls hl
      refine lv_iload_n hx hb dX0_dropWaiting_2 rfl (lv_at hl 0 rfl) ?_
      refine lv_aload_n hx hb dX0_dropWaiting_3 rfl (lv_at hl 1 rfl) ?_
      refine gfX hx hb hts hin hown hK hP 0 (by decide) (List.mem_of_getElem? (i := 1) rfl) rfl rfl dX0_dropWaiting_4 ?_
      refine n_icmp_ge (tgt := 62) hx hb (by omega) (by omega) dX0_dropWaiting_7 (by decide) (fun c7 => ?_) (fun c7 => ?_)
      · have hik : k = i := by omega
        subst hik
        refine lv_aload_n hx hb dX0_dropWaiting_62 rfl (lv_at hl 1 rfl) ?_
        refine lv_iconst (v := nI 0) hx hb dX0_dropWaiting_63 (ic_0) ?_
        refine pfX (ws' := (wX q cI cZ cJ k V C (dT C T WK w k) (dB C T B WK w k) P A n PR ST li 0 WK so sp CT SC TA)) hx hb hts hin hown hK hP hD hS 11 (by decide) (List.mem_of_getElem? (i := 9) rfl) rfl ⟨rfl, rfl⟩ rfl rfl dX0_dropWaiting_64 (fun H locs hP hD hS => ?_)
        subst hQ
        exact e_v () hx hb hr hlocks hS hP hD trivial (Nat.le_of_ble_eq_true rfl) (Nat.le_of_ble_eq_true rfl) dX0_dropWaiting_67
      · refine lv_aload_n hx hb dX0_dropWaiting_10 rfl (lv_at hl 1 rfl) ?_
        refine lv_iload_n hx hb dX0_dropWaiting_11 rfl (lv_at hl 0 rfl) ?_
        refine k_i (va_runV (As := [.int (nI i)]) (rest := []) ⟨hx, hb, hml, hown, hts⟩ (c_X0_waitingOf l hst D q cI cZ cJ k V C (dT C T WK w i) (dB C T B WK w i) P A n PR ST li w WK so sp CT SC TA H.size i hw12 hk8 hWK (by omega)) (cwV 1 hts gX0_dropWaiting_X0_waitingOf rfl rfl rfl hd_X0_waitingOf ⟨(by rw [hR]; exact Nat.le_of_ble_eq_true rfl), (by rw [hR]; exact Nat.le_of_ble_eq_true rfl)⟩) (pre_V hP hK hD hS hA hZ hg 0 (ci := 0) rfl rfl) rfl rfl hl.1 rfl (lv_room (Nat.le_of_ble_eq_true rfl)) dX0_dropWaiting_12 ⟨(by rw [hR]; exact Nat.le_of_ble_eq_true rfl), (by rw [hR]; exact Nat.le_of_ble_eq_true rfl)⟩) hD hS hA (fun r_2 u_1 H locs hp_3 hP hD hS => ?_)
        subst hp_3
        refine lv_istore_n (lv' := [(2, .int (nI (wo WK i w))), (1, .int (nI i)), (0, .ref (q 0))]) hx hb dX0_dropWaiting_15 rfl hl (by decide) rfl (fun ls hl => ?_)
        refine lv_iload_n hx hb dX0_dropWaiting_16 rfl (lv_at hl 0 rfl) ?_
        refine lv_aload_n hx hb dX0_dropWaiting_17 rfl (lv_at hl 2 rfl) ?_
        refine gfX hx hb hts hin hown hK hP 2 (by decide) (List.mem_of_getElem? (i := 2) rfl) rfl rfl dX0_dropWaiting_18 ?_
        refine lv_iload_n hx hb dX0_dropWaiting_21 rfl (lv_at hl 1 rfl) ?_
        refine n_iald hx hb hK hP 2 0 rfl rfl (by omega) (by decide) dX0_dropWaiting_22 ?_
        refine lv_aload_n hx hb dX0_dropWaiting_23 rfl (lv_at hl 2 rfl) ?_
        refine gfX hx hb hts hin hown hK hP 3 (by decide) (List.mem_of_getElem? (i := 3) rfl) rfl rfl dX0_dropWaiting_24 ?_
        refine lv_iload_n hx hb dX0_dropWaiting_27 rfl (lv_at hl 1 rfl) ?_
        refine n_iald hx hb hK hP 3 0 rfl rfl (by omega) (by decide) dX0_dropWaiting_28 ?_
        refine n_top (congrArg nI (show (dT C T WK w i) i = T i from dT_at C T WK w i)) ?_
        refine n_isub hx hb (by have := hC i (by omega); omega) dX0_dropWaiting_29 ?_
        refine va_mmin hx hb (hml.trans hl.1.symm) hown (hts _ (List.mem_of_getElem? (i := 4) rfl)) (hts _ (List.mem_of_getElem? (i := 5) rfl)) (hts _ (List.mem_of_getElem? (i := 6) rfl)) (hts _ (List.mem_of_getElem? (i := 7) rfl)) (by rw [hR]; exact Nat.le_of_ble_eq_true rfl) (by rw [hR]; exact Nat.le_of_ble_eq_true rfl) (by rw [hR]; exact Nat.le_of_ble_eq_true rfl) (by rw [hR]; exact Nat.le_of_ble_eq_true rfl) dX0_dropWaiting_30 (n_top (nI_min _ _ (by have := wo_le WK i w; omega) (by have := hC i (by omega); omega)) ?_)
        refine lv_istore_n (lv' := [(3, .int (nI (min (wo WK i w) ((C i) - (T i))))), (2, .int (nI (wo WK i w))), (1, .int (nI i)), (0, .ref (q 0))]) hx hb dX0_dropWaiting_33 rfl hl (by decide) rfl (fun ls hl => ?_)
        refine lv_aload_n hx hb dX0_dropWaiting_34 rfl (lv_at hl 3 rfl) ?_
        refine gfX hx hb hts hin hown hK hP 3 (by decide) (List.mem_of_getElem? (i := 3) rfl) rfl rfl dX0_dropWaiting_35 ?_
        refine lv_iload_n hx hb dX0_dropWaiting_38 rfl (lv_at hl 2 rfl) ?_
        refine lv_dup2_11 hx hb dX0_dropWaiting_39 rfl rfl ?_
        refine n_iald hx hb hK hP 3 0 rfl rfl (by omega) (by decide) dX0_dropWaiting_40 ?_
        refine n_top (congrArg nI (show (dT C T WK w i) i = T i from dT_at C T WK w i)) ?_
        refine lv_iload_n hx hb dX0_dropWaiting_41 rfl (lv_at hl 0 rfl) ?_
        refine n_iadd hx hb dX0_dropWaiting_42 ?_
        refine n_iast (ws' := (wX q cI cZ cJ k V C (un (dT C T WK w i) i ((T i) + (min (wo WK i w) ((C i) - (T i))))) (dB C T B WK w i) P A n PR ST li w WK so sp CT SC TA)) hx hb hK hP hD hS 3 0 rfl rfl (by omega) (by decide) rfl dX0_dropWaiting_43 (fun H locs hP hD hS => ?_)
        rw [show un (dT C T WK w i) i ((T i) + (min (wo WK i w) ((C i) - (T i)))) = dT C T WK w (i + 1) from dT_s C T WK w i] at hP hD
        refine lv_aload_n hx hb dX0_dropWaiting_44 rfl (lv_at hl 3 rfl) ?_
        refine gfX hx hb hts hin hown hK hP 4 (by decide) (List.mem_of_getElem? (i := 8) rfl) rfl rfl dX0_dropWaiting_45 ?_
        refine lv_iload_n hx hb dX0_dropWaiting_48 rfl (lv_at hl 2 rfl) ?_
        refine lv_dup2_11 hx hb dX0_dropWaiting_49 rfl rfl ?_
        refine n_iald hx hb hK hP 4 0 rfl rfl (by omega) (by decide) dX0_dropWaiting_50 ?_
        refine n_top (congrArg nI (show (dB C T B WK w i) i = B i from dB_at C T B WK w i)) ?_
        refine lv_iload_n hx hb dX0_dropWaiting_51 rfl (lv_at hl 1 rfl) ?_
        refine lv_iload_n hx hb dX0_dropWaiting_52 rfl (lv_at hl 0 rfl) ?_
        refine n_isub hx hb (by omega) dX0_dropWaiting_53 ?_
        refine n_iadd hx hb dX0_dropWaiting_54 ?_
        refine n_iast (ws' := (wX q cI cZ cJ k V C (dT C T WK w (i + 1)) (un (dB C T B WK w i) i ((B i) + ((wo WK i w) - (min (wo WK i w) ((C i) - (T i)))))) P A n PR ST li w WK so sp CT SC TA)) hx hb hK hP hD hS 4 0 rfl rfl (by omega) (by decide) rfl dX0_dropWaiting_55 (fun H locs hP hD hS => ?_)
        rw [show un (dB C T B WK w i) i ((B i) + ((wo WK i w) - (min (wo WK i w) ((C i) - (T i))))) = dB C T B WK w (i + 1) from dB_s C T B WK w i] at hP hD
        refine lv_iinc (v := nI (i + 1)) (lv' := [(1, .int (nI (i + 1))), (3, .int (nI (min (wo WK i w) ((C i) - (T i))))), (2, .int (nI (wo WK i w))), (0, .ref (q 0))]) hx hb dX0_dropWaiting_56 hl (k := 2) rfl (ni_inc _ 1) (by decide) rfl (fun ls hl => ?_)
        refine lv_goto (tgt := 2) hx hb dX0_dropWaiting_59 (by decide) ?_
        exact ih_2 (i + 1) (by omega) (by omega) _ _ hP hD hS ls (lv_sub hl [0, 3] rfl)
  rw [dT_0 C T WK w, dB_0 C T B WK w] at hP hD
  exact lp_2 _ 0 (Nat.lt_succ_self _) (by omega) _ _ hP hD hS ls (lv_sub hl [0, 1] rfl)
theorem hd_X0_dropWaiting : yX0_dropWaiting.cls = RX0 ∧ yX0_dropWaiting.cls ≠ "java/lang/invoke/MethodHandle" ∧ yX0_dropWaiting.cls ≠ "java/lang/invoke/VarHandle" ∧ (parseMethodDescriptor yX0_dropWaiting.desc).map (fun d => d.parameters.length) = some 0 := by decide +kernel
end
section
/-! ways to pay, by their scores -/
abbrev NW : Int := -4611686018427387904
/-- more coins of one kind: at most T of value v, each adding w -/
def xt (S : Nat → Int → Prop) (v : Nat) (w : Int) (T : Nat) : Nat → Int → Prop := fun a z => ∃ c : Nat, c ≤ T ∧ c * v ≤ a ∧ S (a - c * v) (z - (c : Int) * w)
/-- f tells for every amount up to en the best score, NW where there is none -/
def isB (f : Nat → Int) (en : Nat) (S : Nat → Int → Prop) : Prop := ∀ a, a ≤ en → (f a = NW ∧ ∀ z, ¬ S a z) ∨ (S a (f a) ∧ (∀ z, S a z → z ≤ f a) ∧ f a ≠ NW)
def bd (S : Nat → Int → Prop) : Prop := ∀ a z, S a z → -288230376151711744 ≤ z ∧ z ≤ 0
theorem xt_mono {S : Nat → Int → Prop} {v : Nat} {w : Int} {T T' : Nat} (h : T ≤ T') {a : Nat} {z : Int} (q : xt S v w T a z) : xt S v w T' a z := by
  obtain ⟨c, h1, h2, h3⟩ := q
  exact ⟨c, by omega, h2, h3⟩
theorem bd_mono {S : Nat → Int → Prop} {v : Nat} {w : Int} {T T' : Nat} (h : T ≤ T') (q : bd (xt S v w T')) : bd (xt S v w T) := fun a z hz => q a z (xt_mono h hz)
theorem isB_cong {f : Nat → Int} {en : Nat} {S S' : Nat → Int → Prop} (h : ∀ a z, S a z ↔ S' a z) (q : isB f en S) : isB f en S' := by
  intro a ha
  rcases q a ha with ⟨h1, h2⟩ | ⟨h1, h2, h3⟩
  · exact Or.inl ⟨h1, fun z hz => h2 z ((h a z).mpr hz)⟩
  · exact Or.inr ⟨(h _ _).mp h1, fun z hz => h2 z ((h a z).mpr hz), h3⟩
theorem isB_bd {f : Nat → Int} {en : Nat} {S : Nat → Int → Prop} (hb : bd S) (q : isB f en S) : ∀ a, a ≤ en → f a = NW ∨ (-288230376151711744 ≤ f a ∧ f a ≤ 0) := by
  intro a ha
  rcases q a ha with ⟨h1, h2⟩ | ⟨h1, h2, h3⟩
  · exact Or.inl h1
  · exact Or.inr (hb _ _ h1)
theorem xt_0 {S : Nat → Int → Prop} {v : Nat} {w : Int} (a : Nat) (z : Int) : S a z ↔ xt S v w 0 a z := by
  constructor
  · intro h
    exact ⟨0, Nat.le_refl 0, by omega, by simpa using h⟩
  · rintro ⟨c, h1, h2, h3⟩
    obtain rfl : c = 0 := by omega
    simpa using h3
/-- one pack of s coins -/
def ap (f : Nat → Int) (s : Nat) (z : Int) (a : Nat) : Int := if s ≤ a ∧ f (a - s) ≠ NW then max (f a) (f (a - s) + z) else f a
theorem xt_pack {S : Nat → Int → Prop} {v : Nat} {w : Int} {T s : Nat} (hs : s ≤ T + 1) (a : Nat) (z : Int) : xt S v w (T + s) a z ↔ xt S v w T a z ∨ (s * v ≤ a ∧ xt S v w T (a - s * v) (z - (s : Int) * w)) := by
  constructor
  · rintro ⟨c, h1, h2, h3⟩
    rcases Nat.lt_or_ge T c with q | q
    · right
      have e1 : c * v = (c - s) * v + s * v := by rw [← Nat.add_mul, Nat.sub_add_cancel (by omega)]
      refine ⟨by omega, c - s, by omega, by omega, ?_⟩
      have e2 : a - s * v - (c - s) * v = a - c * v := by omega
      have e3 : z - (s : Int) * w - ((c - s : Nat) : Int) * w = z - (c : Int) * w := by
        rw [Int.ofNat_sub (by omega), Int.sub_mul]; omega
      rw [e2, e3]
      exact h3
    · exact Or.inl ⟨c, q, h2, h3⟩
  · rintro (h | ⟨h0, c, h1, h2, h3⟩)
    · exact xt_mono (by omega) h
    · refine ⟨c + s, by omega, ?_, ?_⟩
      · rw [Nat.add_mul]; omega
      · have e2 : a - (c + s) * v = a - s * v - c * v := by rw [Nat.add_mul]; omega
        have e3 : z - ((c + s : Nat) : Int) * w = z - (s : Int) * w - (c : Int) * w := by
          rw [Int.natCast_add, Int.add_mul]; omega
        rw [e2, e3]
        exact h3
theorem isB_pack {f g : Nat → Int} {en : Nat} {S : Nat → Int → Prop} {v : Nat} {w : Int} {T s : Nat} (hs : s ≤ T + 1) (hb : bd (xt S v w (T + s))) (q : isB f en (xt S v w T)) (hg : ∀ a, a ≤ en → g a = ap f (s * v) ((s : Int) * w) a) : isB g en (xt S v w (T + s)) := by
  have hNW : NW = -4611686018427387904 := rfl
  intro a ha
  have hga := hg a ha
  unfold ap at hga
  have q1 := q a ha
  by_cases h1 : s * v ≤ a
  · have q2 := q (a - s * v) (by omega)
    by_cases h2 : f (a - s * v) = NW
    · rw [if_neg (fun z => z.2 h2)] at hga
      rw [hga]
      have n2 : ∀ z, ¬ xt S v w T (a - s * v) z := by
        rcases q2 with ⟨-, n⟩ | ⟨-, -, n⟩
        · exact n
        · exact absurd h2 n
      rcases q1 with ⟨a1, a2⟩ | ⟨a1, a2, a3⟩
      · refine Or.inl ⟨a1, fun z hz => ?_⟩
        rcases (xt_pack hs a z).mp hz with b | b
        · exact a2 z b
        · exact n2 _ b.2
      · refine Or.inr ⟨xt_mono (by omega) a1, fun z hz => ?_, a3⟩
        rcases (xt_pack hs a z).mp hz with b | b
        · exact a2 z b
        · exact absurd b.2 (n2 _)
    · rw [if_pos ⟨h1, h2⟩] at hga
      rw [hga]
      obtain ⟨c1, c2⟩ : xt S v w T (a - s * v) (f (a - s * v)) ∧ ∀ z, xt S v w T (a - s * v) z → z ≤ f (a - s * v) := by
        rcases q2 with ⟨n, -⟩ | ⟨n1, n2, -⟩
        · exact absurd n h2
        · exact ⟨n1, n2⟩
      have m2 : xt S v w (T + s) a (f (a - s * v) + (s : Int) * w) := (xt_pack hs a _).mpr (Or.inr ⟨h1, by rw [Int.add_sub_cancel]; exact c1⟩)
      have m3 := hb _ _ m2
      rcases q1 with ⟨a1, a2⟩ | ⟨a1, a2, a3⟩
      · have e : max (f a) (f (a - s * v) + (s : Int) * w) = f (a - s * v) + (s : Int) * w := by rw [a1]; omega
        rw [e]
        refine Or.inr ⟨m2, fun z hz => ?_, by omega⟩
        rcases (xt_pack hs a z).mp hz with b | b
        · exact absurd b (a2 z)
        · have := c2 _ b.2; omega
      · have m4 := hb _ _ (xt_mono (by omega) a1)
        refine Or.inr ⟨?_, fun z hz => ?_, by omega⟩
        · rcases Int.le_total (f a) (f (a - s * v) + (s : Int) * w) with e | e
          · rw [Int.max_eq_right e]; exact m2
          · rw [Int.max_eq_left e]; exact xt_mono (by omega) a1
        · rcases (xt_pack hs a z).mp hz with b | b
          · have := a2 z b; omega
          · have := c2 _ b.2; omega
  · rw [if_neg (fun z => h1 z.1)] at hga
    rw [hga]
    rcases q1 with ⟨a1, a2⟩ | ⟨a1, a2, a3⟩
    · refine Or.inl ⟨a1, fun z hz => ?_⟩
      rcases (xt_pack hs a z).mp hz with b | b
      · exact a2 z b
      · exact h1 b.1
    · refine Or.inr ⟨xt_mono (by omega) a1, fun z hz => ?_, a3⟩
      rcases (xt_pack hs a z).mp hz with b | b
      · exact a2 z b
      · exact absurd b.1 h1
/-- the ways with the first m kinds -/
def wS (t V : Nat → Nat) (g : Nat → Int) : Nat → Nat → Int → Prop
  | 0 => fun a z => a = 0 ∧ z = 0
  | m + 1 => xt (wS t V g m) (V m) (g m) (t m)
/-- a coin's score -/
def wg (V : Nat → Nat) (k : Nat) (i : Nat) : Int := 2 ^ (lc V (V i) k * 6) - 281474976710656
theorem lc_lt {V : Nat → Nat} {k i : Nat} (h : i < k) : lc V (V i) k < k := by
  have key : ∀ n, i < n → lc V (V i) n < n := by
    intro n
    induction n with
    | zero => intro h; omega
    | succ n ih =>
      intro hn
      have h1 := lc_le V (V i) n
      by_cases e : i = n
      · rw [← e]; rw [lc_n (Nat.le_refl _)]
        have := lc_le V (V i) i
        omega
      · have h2 := ih (by omega)
        show lc V (V i) n + (if V n < V i then 1 else 0) < n + 1
        split <;> omega
  exact key k h
theorem wg_bd {V : Nat → Nat} {k i : Nat} (hk : k ≤ 8) (h : i < k) : -281474976710656 ≤ wg V k i ∧ wg V k i ≤ 0 := by
  have h1 := lc_lt (V := V) h
  unfold wg
  generalize lc V (V i) k = r at h1
  have h2 : r = 0 ∨ r = 1 ∨ r = 2 ∨ r = 3 ∨ r = 4 ∨ r = 5 ∨ r = 6 ∨ r = 7 := by omega
  rcases h2 with rfl | rfl | rfl | rfl | rfl | rfl | rfl | rfl <;> decide
theorem wS_bd {t V : Nat → Nat} {g : Nat → Int} {k : Nat} (ht : ∀ i, i < k → t i ≤ 60) (hg : ∀ i, i < k → -281474976710656 ≤ g i ∧ g i ≤ 0) : ∀ m, m ≤ k → ∀ a z, wS t V g m a z → -((m : Int) * 16888498602639360) ≤ z ∧ z ≤ 0
  | 0, _, a, z, h => by have h1 : a = 0 ∧ z = 0 := h; omega
  | m + 1, hm, a, z, h => by
    obtain ⟨c, h1, h2, h3⟩ := h
    have h4 := wS_bd ht hg m (by omega) _ _ h3
    have h5 := ht m (by omega)
    have h6 := hg m (by omega)
    have h7 : -((60 : Int) * 281474976710656) ≤ (c : Int) * g m := by
      have e1 : (c : Int) * (-281474976710656) ≤ (c : Int) * g m := Int.mul_le_mul_of_nonneg_left h6.1 (by omega)
      omega
    have h8 : (c : Int) * g m ≤ 0 := Int.mul_nonpos_of_nonneg_of_nonpos (by omega) h6.2
    rw [Int.natCast_add, Int.add_mul]
    omega
theorem wS_bd8 {t V : Nat → Nat} {k : Nat} (hk : k ≤ 8) (ht : ∀ i, i < k → t i ≤ 60) : ∀ m, m ≤ k → bd (wS t V (wg V k) m) := by
  intro m hm a z h
  have h1 := wS_bd ht (fun i hi => wg_bd hk hi) m hm a z h
  have h2 : (m : Int) * 16888498602639360 ≤ 8 * 16888498602639360 := Int.mul_le_mul_of_nonneg_right (by omega) (by omega)
  omega
theorem isB_0 {t V : Nat → Nat} {g : Nat → Int} {f : Nat → Int} {en : Nat} (h0 : f 0 = 0) (h : ∀ a, 1 ≤ a → a ≤ en → f a = NW) : isB f en (wS t V g 0) := by
  intro a ha
  by_cases e : a = 0
  · subst e
    refine Or.inr ⟨⟨rfl, h0⟩, fun z hz => ?_, by rw [h0]; decide⟩
    have := hz.2; omega
  · exact Or.inl ⟨h a (by omega) ha, fun z hz => e hz.1⟩
theorem lZ_shl (r : Nat) (h : r < 8) : lZ 1 <<< ((nI (r * 6)).toInt64 &&& 63) = lZ (2 ^ (r * 6)) := by
  have h2 : r = 0 ∨ r = 1 ∨ r = 2 ∨ r = 3 ∨ r = 4 ∨ r = 5 ∨ r = 6 ∨ r = 7 := by omega
  rcases h2 with rfl | rfl | rfl | rfl | rfl | rfl | rfl | rfl <;> decide
theorem lZ_shr {x : Int} (h1 : -9223372036854775808 ≤ x) (h2 : x < 9223372036854775808) (D : Int64) (d : Nat) (hD : (D.toBitVec.smod 64).toNat = d) : lZ x >>> D = lZ (x / 2 ^ d) := by
  apply Int64.toInt_inj.mp
  have e : (lZ x >>> D).toInt = (lZ x).toInt >>> d := by
    rw [← hD]
    exact BitVec.toInt_sshiftRight ..
  have hp : (0 : Int) < 2 ^ d := Int.pow_pos (by decide)
  have h3 : -9223372036854775808 ≤ x / 2 ^ d := by
    rcases Int.lt_or_le x 0 with q | q
    · have := Int.ediv_le_ediv hp (show -9223372036854775808 ≤ x from h1)
      have h5 : (-9223372036854775808 : Int) ≤ -9223372036854775808 / 2 ^ d := by
        apply Int.le_ediv_of_mul_le hp
        have h6 : (1 : Int) ≤ 2 ^ d := hp
        omega
      omega
    · have := Int.ediv_nonneg q (Int.le_of_lt hp); omega
  have h4 : x / 2 ^ d < 9223372036854775808 := by
    rcases Int.lt_or_le x 0 with q | q
    · have := Int.ediv_neg_of_neg_of_pos q hp; omega
    · have := Int.ediv_le_self (2 ^ d) q; omega
  rw [e, lZ_toInt h1 h2, lZ_toInt h3 h4, Int.shiftRight_eq_div_pow]
  first | rfl | norm_cast | (push_cast; rfl) | simp
theorem lZ_and63 (x : Int) : lZ x &&& lZ 63 = lZ (x % 64) := by
  apply Int64.toBitVec_inj.mp
  apply BitVec.eq_of_toNat_eq
  show ((lZ x).toBitVec &&& (lZ 63).toBitVec).toNat = (lZ (x % 64)).toBitVec.toNat
  rw [BitVec.toNat_and]
  have e1 : (lZ 63).toBitVec.toNat = 2 ^ 6 - 1 := by decide
  have e2 : ∀ y : Int, (lZ y).toBitVec.toNat = (y % 18446744073709551616).toNat := by
    intro y
    show (BitVec.ofInt 64 y).toNat = _
    rw [BitVec.toNat_ofInt]
    rfl
  rw [e1, Nat.and_two_pow_sub_one_eq_mod, e2, e2]
  omega
/-- the coins of a way, by its score; those of a kind of rank r -/
def cnz (z : Int) : Nat := (-(z / 281474976710656)).toNat
def pz (z : Int) (r : Nat) : Nat := ((z / 2 ^ (r * 6)) % 64).toNat
theorem lZ_i {x : Int} (h1 : 0 ≤ x) (h2 : x < 2147483648) : (lZ x).toInt32 = nI x.toNat := by
  apply Int32.toInt_inj.mp
  rw [Int64.toInt_toInt32, lZ_toInt (by omega) (by omega), nI_toInt (by omega)]
  have e : x.bmod (2 ^ 32) = x := Int.bmod_eq_of_le (by omega) (by omega)
  rw [e]; omega
theorem pz_lt (z : Int) (r : Nat) : pz z r < 64 := by unfold pz; omega
theorem ap_stepN {f g : Nat → Int} {s amt en : Nat} {z : Int} (h : ∀ a, g a = if amt < a ∧ a ≤ en then ap f s z a else f a) (h0 : 1 ≤ amt) (hn : ¬ (s ≤ amt ∧ f (amt - s) ≠ NW)) : ∀ a, g a = if amt - 1 < a ∧ a ≤ en then ap f s z a else f a := by
  intro a
  rw [h a]
  by_cases e : a = amt
  · subst e
    rw [if_neg (by omega)]
    have : ap f s z a = f a := if_neg hn
    split
    · exact this.symm
    · rfl
  · by_cases c : amt < a ∧ a ≤ en
    · rw [if_pos c, if_pos (by omega)]
    · rw [if_neg c, if_neg (by omega)]
theorem ap_stepY {f g : Nat → Int} {s amt en : Nat} {z : Int} (h : ∀ a, g a = if amt < a ∧ a ≤ en then ap f s z a else f a) (h0 : 1 ≤ amt) (hy : s ≤ amt ∧ f (amt - s) ≠ NW) (he : amt ≤ en) : ∀ a, uz g amt (max (f amt) (f (amt - s) + z)) a = if amt - 1 < a ∧ a ≤ en then ap f s z a else f a := by
  intro a
  by_cases e : a = amt
  · subst e
    rw [uz_s, if_pos (by omega)]
    exact (if_pos hy).symm
  · rw [uz_n e, h a]
    by_cases c : amt < a ∧ a ≤ en
    · rw [if_pos c, if_pos (by omega)]
    · rw [if_neg c, if_neg (by omega)]
theorem ap_end {f g : Nat → Int} {s amt en : Nat} {z : Int} (h : ∀ a, g a = if amt < a ∧ a ≤ en then ap f s z a else f a) (hs : amt < s) : ∀ a, a ≤ en → g a = ap f s z a := by
  intro a ha
  rw [h a]
  by_cases c : amt < a
  · rw [if_pos ⟨c, ha⟩]
  · rw [if_neg (fun q => c q.1)]
    exact (if_neg (fun q => by omega)).symm
/-- the number of a truth -/
noncomputable def b1 (P : Prop) : Nat := @ite Nat P (Classical.propDecidable P) 1 0
theorem b1_y {P : Prop} (h : P) : b1 P = 1 := @if_pos P (Classical.propDecidable P) h Nat 1 0
theorem b1_n {P : Prop} (h : ¬ P) : b1 P = 0 := @if_neg P (Classical.propDecidable P) h Nat 1 0
theorem b1_le (P : Prop) : b1 P ≤ 1 := by
  rcases Classical.em P with h | h
  · rw [b1_y h]; omega
  · rw [b1_n h]; omega
theorem b1_c {P R : Prop} (h : P ↔ R) : b1 P = b1 R := by rw [propext h]
noncomputable def gpc (P : Nat → Prop) : Nat → Nat
  | 0 => 0
  | a + 1 => gpc P a + b1 (P (a + 1))
theorem gpc_le (P : Nat → Prop) : ∀ a, gpc P a ≤ a
  | 0 => Nat.le_refl 0
  | a + 1 => by
    have h := gpc_le P a
    have h2 := b1_le (P (a + 1))
    show gpc P a + b1 (P (a + 1)) ≤ a + 1
    omega
theorem gpc_y {P : Nat → Prop} {a : Nat} (h : P (a + 1)) : gpc P (a + 1) = gpc P a + 1 := by
  show gpc P a + b1 (P (a + 1)) = _
  rw [b1_y h]
theorem gpc_n {P : Nat → Prop} {a : Nat} (h : ¬ P (a + 1)) : gpc P (a + 1) = gpc P a := by
  show gpc P a + b1 (P (a + 1)) = _
  rw [b1_n h, Nat.add_zero]
theorem gpc_c {P R : Nat → Prop} : ∀ {a : Nat}, (∀ b, 1 ≤ b → b ≤ a → (P b ↔ R b)) → gpc P a = gpc R a
  | 0, _ => rfl
  | a + 1, h => by
    show gpc P a + b1 (P (a + 1)) = gpc R a + b1 (R (a + 1))
    rw [gpc_c (fun b h1 h2 => h b h1 (by omega)), b1_c (h (a + 1) (by omega) (Nat.le_refl _))]
/-- an amount cannot be paid; its best way's score -/
def nway (t V : Nat → Nat) (k a : Nat) : Prop := ∀ z, ¬ wS t V (wg V k) k a z
def bway (t V : Nat → Nat) (k a : Nat) (z : Int) : Prop := wS t V (wg V k) k a z ∧ ∀ z', wS t V (wg V k) k a z' → z' ≤ z
theorem isB_n {f : Nat → Int} {en k a : Nat} {t V : Nat → Nat} (h : isB f en (wS t V (wg V k) k)) (ha : a ≤ en) : f a = NW ↔ nway t V k a := by
  rcases h a ha with ⟨h1, h2⟩ | ⟨h1, h2, h3⟩
  · exact ⟨fun _ => h2, fun _ => h1⟩
  · exact ⟨fun q => absurd q h3, fun q => absurd h1 (q _)⟩
theorem isB_y {f : Nat → Int} {en k a : Nat} {t V : Nat → Nat} (h : isB f en (wS t V (wg V k) k)) (ha : a ≤ en) (q : f a ≠ NW) : bway t V k a (f a) := by
  rcases h a ha with ⟨h1, h2⟩ | ⟨h1, h2, h3⟩
  · exact absurd h1 q
  · exact ⟨h1, h2⟩
def pP (P V : Nat → Nat) (k : Nat) (z : Int) (i : Nat) : Nat → Nat := fun j => if j < i then pz z (lc V (V j) k) else P j
def pT (T V : Nat → Nat) (k : Nat) (z : Int) (i : Nat) : Nat → Nat := fun j => if j < i then T j - pz z (lc V (V j) k) else T j
theorem pP_0 (P V : Nat → Nat) (k : Nat) (z : Int) : P = pP P V k z 0 := by
  funext j
  show P j = if j < 0 then _ else P j
  rw [if_neg (Nat.not_lt_zero j)]
theorem pT_0 (T V : Nat → Nat) (k : Nat) (z : Int) : T = pT T V k z 0 := by
  funext j
  show T j = if j < 0 then _ else T j
  rw [if_neg (Nat.not_lt_zero j)]
theorem pP_in (P V : Nat → Nat) (k : Nat) (z : Int) (i : Nat) : pP P V k z (i + 1) i = pz z (lc V (V i) k) := if_pos (Nat.lt_succ_self i)
theorem pT_at (T V : Nat → Nat) (k : Nat) (z : Int) (i : Nat) : pT T V k z i i = T i := if_neg (Nat.lt_irrefl i)
theorem pP_s (P V : Nat → Nat) (k : Nat) (z : Int) (i : Nat) : un (pP P V k z i) i (pz z (lc V (V i) k)) = pP P V k z (i + 1) := by
  funext j
  show (if j = i then _ else if j < i then _ else P j) = if j < i + 1 then _ else P j
  by_cases h : j = i
  · subst h
    rw [if_pos rfl, if_pos (by omega)]
  · rw [if_neg h]
    by_cases h2 : j < i
    · rw [if_pos h2, if_pos (by omega)]
    · rw [if_neg h2, if_neg (by omega)]
theorem pT_s (T V : Nat → Nat) (k : Nat) (z : Int) (i : Nat) : un (pT T V k z i) i (T i - pz z (lc V (V i) k)) = pT T V k z (i + 1) := by
  funext j
  show (if j = i then _ else if j < i then _ else T j) = if j < i + 1 then _ else T j
  by_cases h : j = i
  · subst h
    rw [if_pos rfl, if_pos (by omega)]
  · rw [if_neg h]
    by_cases h2 : j < i
    · rw [if_pos h2, if_pos (by omega)]
    · rw [if_neg h2, if_neg (by omega)]
theorem wmul_bd {c : Nat} {w : Int} (hc : c ≤ 60) (h : -281474976710656 ≤ w ∧ w ≤ 0) : -288230376151711744 ≤ (c : Int) * w ∧ (c : Int) * w ≤ 0 := by
  have e1 : (c : Int) * (-281474976710656) ≤ (c : Int) * w := Int.mul_le_mul_of_nonneg_left h.1 (by omega)
  have e2 : (c : Int) * w ≤ 0 := Int.mul_nonpos_of_nonneg_of_nonpos (by omega) h.2
  omega
theorem shr_cnt (r : Nat) (h : r < 8) : (((nI (r * 6)).toInt64 &&& 63).toBitVec.smod 64).toNat = r * 6 := by
  have h2 : r = 0 ∨ r = 1 ∨ r = 2 ∨ r = 3 ∨ r = 4 ∨ r = 5 ∨ r = 6 ∨ r = 7 := by omega
  rcases h2 with rfl | rfl | rfl | rfl | rfl | rfl | rfl | rfl <;> decide
theorem ovp_le {pr v : Nat} (h1 : 1 ≤ v) (h2 : v ≤ 500) : ovp pr v < 500 := by
  unfold ovp
  have := Nat.mod_lt pr (show v > 0 by omega)
  split <;> omega
theorem PR_ex {T V : Nat → Nat} {k : Nat} {A : Nat → Nat} {SC : Nat → Int} {pr : Nat} (h : ∀ i, i < k → (SC (ovp pr (V i)) = NW ↔ nway T V k (ovp pr (V i)))) : (∃ i, i < k ∧ A i ≠ 0 ∧ SC (ovp pr (V i)) = -4611686018427387904) ↔ (∃ i, i < k ∧ A i ≠ 0 ∧ nway T V k (ovp pr (V i))) := by
  constructor
  · rintro ⟨i, h1, h2, h3⟩
    exact ⟨i, h1, h2, (h i h1).mp h3⟩
  · rintro ⟨i, h1, h2, h3⟩
    exact ⟨i, h1, h2, (h i h1).mpr h3⟩
end
section
set_option maxHeartbeats 4000000 in
set_option maxRecDepth 100000 in
theorem c_X0_addPackToWays (l : Launch) (hst : l.stackTraces = false) (D : va_G) (q : Nat → Nat) (cI cZ cJ : ClassId) (k : Nat) (V : Nat → Nat) (C : Nat → Nat) (T : Nat → Nat) (B : Nat → Nat) (P : Nat → Nat) (A : Nat → Nat) (n : Nat) (PR : Nat → Nat) (ST : Nat → Nat) (li : Nat) (w : Nat) (WK : Nat → Nat) (so : Nat) (sp : Nat) (CT : Nat → Int64) (SC : Nat → Int) (TA : Nat → Nat) (sz : Nat) (su : Nat) (sc : Int) (en : Nat) (hen : en ≤ 2000) (hs1 : 1 ≤ su) (su_lt : su < 2147483648) (hsc : -288230376151711744 ≤ sc ∧ sc ≤ 0) (hbd : ∀ a, a ≤ en → SC a = -4611686018427387904 ∨ (-288230376151711744 ≤ SC a ∧ SC a ≤ 0)) : Met l yX0_addPackToWays wsX0_addPackToWays ({ frames := 1, cells := 0, slots := 0, locals := 23 }) (va_Pc [.ref (q 0), .int (nI su), .long (lZ sc), .int (nI en)] (cxP D (ty3 cI cZ cJ) (wX q cI cZ cJ k V C T B P A n PR ST li w WK so sp CT SC TA) sz)) (va_Qv (fun (u : Nat → Int) => ∀ a, a ≤ en → u a = ap SC su sc a) (bW D (va_A (wX q cI cZ cJ k V C T B P A n PR ST li w WK so sp CT SC TA) sz) (fun u => (wX q cI cZ cJ k V C T B P A n PR ST li w WK so sp CT u TA))) (va_A (wX q cI cZ cJ k V C T B P A n PR ST li w WK so sp CT SC TA) sz)) 0 0 (va_A (wX q cI cZ cJ k V C T B P A n PR ST li w WK so sp CT SC TA) sz) := by
  refine Met.ofW (cc := cX0_addPackToWays) (maxL := 8) (ret := none) (by decide) rfl ?_
  intro p e s m args below meth c s₁ BB hml hv
  obtain ⟨hav, hsz, hP, hK, hD0, hZ, hg⟩ := hv
  subst hsz
  subst hav
  have hx := BB.exec
  have hb := BB.bytes
  have hr := BB.returns
  have hts := atoms_spec (ws := wsX0_addPackToWays) BB.pre
  have hown : s.vm.findClass RX0 = some m.cls := findClass_of_methodNamed BB.named
  have hlocks := BB.notSynchronized
  have hin : ∀ w ∈ wsX00, w ∈ wsX0_addPackToWays := fun w h => (List.mem_cons_of_mem _ (List.mem_append_right _ h))
  have hD := hD0.self (sz := s.heap.size)
  have hA : ∀ q9 : Nat, s.heap.size ≤ q9 → va_A (wX q cI cZ cJ k V C T B P A n PR ST li w WK so sp CT SC TA) s.heap.size q9 := fun _ h => Or.inr h
  have hl := lv_entry ([.ref (q 0), .int (nI su), .long (lZ sc), .int (nI en)]) (n := 8) (Nat.le_of_ble_eq_true rfl)
  rw [lg_entry_eq]
  generalize (lg_sl ([.ref (q 0), .int (nI su), .long (lZ sc), .int (nI en)]) ++ List.replicate (8 - (lg_sl ([.ref (q 0), .int (nI su), .long (lZ sc), .int (nI en)])).length) Slot.unset).toArray = ls at hl ⊢
  have hl : lv_has ls 8 [(0, .ref (q 0)), (1, .int (nI su)), (2, .long (lZ sc)), (4, .int (nI en))] := hl
  refine W_absR (fun R hR => ?_)
  have hR : R = ({ frames := 1, cells := 0, slots := 0, locals := 23 } : Room) := hR
  refine W_absQ (fun Q hQ => ?_)
  generalize ([.ref (q 0), .int (nI su), .long (lZ sc), .int (nI en)] : List Value).toArray = args at hts hQ ⊢
  generalize va_A (wX q cI cZ cJ k V C T B P A n PR ST li w WK so sp CT SC TA) s.heap.size = A9 at hD hZ hA hQ
  refine W_start hP (A := A9) (fun H locs hP hS => ?_)
  refine lv_iload hx hb dX0_addPackToWays_0 (lv_at hl 3 rfl) ?_
  refine lv_istore (lv' := [(5, .int (nI en)), (0, .ref (q 0)), (1, .int (nI su)), (2, .long (lZ sc)), (4, .int (nI en))]) hx hb dX0_addPackToWays_2 hl (by decide) rfl (fun ls hl => ?_)
  have lp_4 : ∀ (fu_4 : Nat) (am : Nat) (Sx : Nat → Int), am < fu_4 → (am ≤ en) → (∀ a, Sx a = if am < a ∧ a ≤ en then ap SC su sc a else SC a) → ∀ (H : Heap) (locs : List Loc), va_P D vwCl (wX q cI cZ cJ k V C T B P A n PR ST li w WK so sp CT Sx TA) H → va_D A9 (wX q cI cZ cJ k V C T B P A n PR ST li w WK so sp CT Sx TA) → va_S A9 s.heap H locs → ∀ ls : Array Slot, lv_has ls 8 [(5, .int (nI am)), (0, .ref (q 0)), (1, .int (nI su)), (2, .long (lZ sc)), (4, .int (nI en))] → W p l e R s m args below meth c H locs 0 0 Q (F0 m 4 ls []) := by
    intro fu_4
    induction fu_4 with
    | zero =>
      intro am Sx hfu_4
      exact absurd hfu_4 (Nat.not_lt_zero _)
    | succ fu_4 ih_4 =>
      intro am Sx hfu_4 ham hs H locs hP hD hS ls hl
      refine lv_iload hx hb dX0_addPackToWays_4 (lv_at hl 0 rfl) ?_
      refine lv_iload_n hx hb dX0_addPackToWays_6 rfl (lv_at hl 2 rfl) ?_
      refine n_icmp_lt (tgt := 57) hx hb (by omega) su_lt dX0_addPackToWays_7 (by decide) (fun c7 => ?_) (fun c7 => ?_)
      · subst hQ
        exact e_v Sx hx hb hr hlocks hS hP hD (ap_end hs c7) (Nat.le_of_ble_eq_true rfl) (Nat.le_of_ble_eq_true rfl) dX0_addPackToWays_57
      · have z1 := hbd am (by omega)
        have z2 := hbd (am - su) (by omega)
        refine lv_aload_n hx hb dX0_addPackToWays_10 rfl (lv_at hl 1 rfl) ?_
        refine gfX hx hb hts hin hown hK hP 16 (by decide) (List.mem_of_getElem? (i := 1) rfl) rfl rfl dX0_addPackToWays_11 ?_
        refine lv_iload hx hb dX0_addPackToWays_14 (lv_at hl 0 rfl) ?_
        refine lv_iload_n hx hb dX0_addPackToWays_16 rfl (lv_at hl 2 rfl) ?_
        refine n_isub hx hb c7 dX0_addPackToWays_17 ?_
        refine n_sald hx hb hK hP 11 2 rfl rfl (by omega) (by decide) dX0_addPackToWays_18 ?_
        refine n_topl (congrArg lZ (show Sx (am - su) = SC (am - su) by rw [hs, if_neg (by omega)])) ?_
        refine lv_lstore (lv' := [(6, .long (lZ (SC (am - su)))), (5, .int (nI am)), (0, .ref (q 0)), (1, .int (nI su)), (2, .long (lZ sc)), (4, .int (nI en))]) hx hb dX0_addPackToWays_19 hl (by decide) rfl (fun ls hl => ?_)
        refine lv_lload hx hb dX0_addPackToWays_21 (lv_at hl 0 rfl) ?_
        refine lv_ldc2 (v := (-4611686018427387904)) hx hb hown (hts _ (List.mem_of_getElem? (i := 2) rfl)) dX0_addPackToWays_23 (n_topl (show ((-4611686018427387904) : Int64) = lZ (-4611686018427387904) from by decide) ?_)
        refine n_lcmp_eq (tgt := 51) hx hb dX0_addPackToWays_26 dX0_addPackToWays_27 (by decide) (fun c26 => ?_) (fun c26 => ?_)
        · have c27 := (lZ_eq (by omega) (by omega) (by omega) (by omega)).mp c26
          have hs2 := ap_stepN hs (by omega) (fun q => q.2 c27)
          refine lv_iinc (v := nI (am - 1)) (lv' := [(5, .int (nI (am - 1))), (6, .long (lZ (SC (am - su)))), (0, .ref (q 0)), (1, .int (nI su)), (2, .long (lZ sc)), (4, .int (nI en))]) hx hb dX0_addPackToWays_51 hl (k := 1) rfl (ni_dec (by omega)) (by decide) rfl (fun ls hl => ?_)
          refine lv_goto (tgt := 4) hx hb dX0_addPackToWays_54 (by decide) ?_
          exact ih_4 (am - 1) Sx (by omega) (by omega) hs2 _ _ hP hD hS ls (lv_sub hl [0, 2, 3, 4, 5] rfl)
        · have c27 : SC (am - su) ≠ -4611686018427387904 := fun q => c26 (congrArg lZ q)
          have hs2 := ap_stepY hs (by omega) ⟨c7, c27⟩ ham
          refine lv_aload_n hx hb dX0_addPackToWays_30 rfl (lv_at hl 2 rfl) ?_
          refine gfX hx hb hts hin hown hK hP 16 (by decide) (List.mem_of_getElem? (i := 1) rfl) rfl rfl dX0_addPackToWays_31 ?_
          refine lv_iload hx hb dX0_addPackToWays_34 (lv_at hl 1 rfl) ?_
          refine lv_aload_n hx hb dX0_addPackToWays_36 rfl (lv_at hl 2 rfl) ?_
          refine gfX hx hb hts hin hown hK hP 16 (by decide) (List.mem_of_getElem? (i := 1) rfl) rfl rfl dX0_addPackToWays_37 ?_
          refine lv_iload hx hb dX0_addPackToWays_40 (lv_at hl 1 rfl) ?_
          refine n_sald hx hb hK hP 11 2 rfl rfl (by omega) (by decide) dX0_addPackToWays_42 ?_
          refine n_topl (congrArg lZ (show Sx am = SC am by rw [hs, if_neg (by omega)])) ?_
          refine lv_lload hx hb dX0_addPackToWays_43 (lv_at hl 0 rfl) ?_
          refine lv_lload_n hx hb dX0_addPackToWays_45 rfl (lv_at hl 4 rfl) ?_
          refine n_ladd hx hb dX0_addPackToWays_46 ?_
          refine va_mmax_long hx hb (hml.trans hl.1.symm) hown (hts _ (List.mem_of_getElem? (i := 3) rfl)) (hts _ (List.mem_of_getElem? (i := 4) rfl)) (hts _ (List.mem_of_getElem? (i := 5) rfl)) (hts _ (List.mem_of_getElem? (i := 6) rfl)) (by rw [hR]; exact Nat.le_of_ble_eq_true rfl) (by rw [hR]; exact Nat.le_of_ble_eq_true rfl) (by rw [hR]; exact Nat.le_of_ble_eq_true rfl) (by rw [hR]; exact Nat.le_of_ble_eq_true rfl) dX0_addPackToWays_47 (n_topl (lZ_max _ _ (by omega) (by omega) (by omega) (by omega)) ?_)
          refine n_sast (ws' := (wX q cI cZ cJ k V C T B P A n PR ST li w WK so sp CT (uz Sx am (max (SC am) ((SC (am - su)) + sc))) TA)) hx hb hK hP hD hS 11 2 rfl rfl (by omega) (by decide) rfl dX0_addPackToWays_50 (fun H locs hP hD hS => ?_)
          refine lv_iinc (v := nI (am - 1)) (lv' := [(5, .int (nI (am - 1))), (6, .long (lZ (SC (am - su)))), (0, .ref (q 0)), (1, .int (nI su)), (2, .long (lZ sc)), (4, .int (nI en))]) hx hb dX0_addPackToWays_51 hl (k := 1) rfl (ni_dec (by omega)) (by decide) rfl (fun ls hl => ?_)
          refine lv_goto (tgt := 4) hx hb dX0_addPackToWays_54 (by decide) ?_
          exact ih_4 (am - 1) (uz Sx am (max (SC am) ((SC (am - su)) + sc))) (by omega) (by omega) hs2 _ _ hP hD hS ls (lv_sub hl [0, 2, 3, 4, 5] rfl)
  exact lp_4 _ en SC (Nat.lt_succ_self _) (by omega) (fun a => (if_neg (by omega)).symm) _ _ hP hD hS ls (lv_sub hl [0, 1, 2, 3, 4] rfl)
theorem hd_X0_addPackToWays : yX0_addPackToWays.cls = RX0 ∧ yX0_addPackToWays.cls ≠ "java/lang/invoke/MethodHandle" ∧ yX0_addPackToWays.cls ≠ "java/lang/invoke/VarHandle" ∧ (parseMethodDescriptor yX0_addPackToWays.desc).map (fun d => d.parameters.length) = some 3 := by decide +kernel

set_option maxHeartbeats 4000000 in
set_option maxRecDepth 100000 in
theorem c_X0_addKindToWays (l : Launch) (hst : l.stackTraces = false) (D : va_G) (q : Nat → Nat) (cI cZ cJ : ClassId) (k : Nat) (V : Nat → Nat) (C : Nat → Nat) (T : Nat → Nat) (B : Nat → Nat) (P : Nat → Nat) (A : Nat → Nat) (n : Nat) (PR : Nat → Nat) (ST : Nat → Nat) (li : Nat) (w : Nat) (WK : Nat → Nat) (so : Nat) (sp : Nat) (CT : Nat → Int64) (SC : Nat → Int) (TA : Nat → Nat) (sz : Nat) (SS : Nat → Int → Prop) (kd : Nat) (mny : Nat) (en : Nat) (hk8 : k ≤ 8) (hV : ∀ i, i < k → 1 ≤ V i ∧ V i ≤ 500) (hen : en ≤ 2000) (hkd : kd < k) (hmny : mny ≤ 60) (hB : isB SC en SS) (hbx : bd (xt SS (V kd) (wg V k kd) mny)) : Met l yX0_addKindToWays wsX0_addKindToWays ({ frames := 2, cells := 0, slots := 0, locals := 50 }) (va_Pc [.ref (q 0), .int (nI kd), .int (nI mny), .int (nI en)] (cxP D (ty3 cI cZ cJ) (wX q cI cZ cJ k V C T B P A n PR ST li w WK so sp CT SC TA) sz)) (va_Qv (fun (u : Nat → Int) => isB u en (xt SS (V kd) (wg V k kd) mny)) (bW D (va_A (wX q cI cZ cJ k V C T B P A n PR ST li w WK so sp CT SC TA) sz) (fun u => (wX q cI cZ cJ k V C T B P A n PR ST li w WK so sp CT u TA))) (va_A (wX q cI cZ cJ k V C T B P A n PR ST li w WK so sp CT SC TA) sz)) 0 0 (va_A (wX q cI cZ cJ k V C T B P A n PR ST li w WK so sp CT SC TA) sz) := by
  refine Met.ofW (cc := cX0_addKindToWays) (maxL := 9) (ret := none) (by decide) rfl ?_
  intro p e s m args below meth c s₁ BB hml hv
  obtain ⟨hav, hsz, hP, hK, hD0, hZ, hg⟩ := hv
  subst hsz
  subst hav
  have hx := BB.exec
  have hb := BB.bytes
  have hr := BB.returns
  have hts := atoms_spec (ws := wsX0_addKindToWays) BB.pre
  have hown : s.vm.findClass RX0 = some m.cls := findClass_of_methodNamed BB.named
  have hlocks := BB.notSynchronized
  have hin : ∀ w ∈ wsX00, w ∈ wsX0_addKindToWays := fun w h => (List.mem_cons_of_mem _ (List.mem_append_right _ h))
  have hD := hD0.self (sz := s.heap.size)
  have hA : ∀ q9 : Nat, s.heap.size ≤ q9 → va_A (wX q cI cZ cJ k V C T B P A n PR ST li w WK so sp CT SC TA) s.heap.size q9 := fun _ h => Or.inr h
  have hl := lv_entry ([.ref (q 0), .int (nI kd), .int (nI mny), .int (nI en)]) (n := 9) (Nat.le_of_ble_eq_true rfl)
  rw [lg_entry_eq]
  generalize (lg_sl ([.ref (q 0), .int (nI kd), .int (nI mny), .int (nI en)]) ++ List.replicate (9 - (lg_sl ([.ref (q 0), .int (nI kd), .int (nI mny), .int (nI en)])).length) Slot.unset).toArray = ls at hl ⊢
  have hl : lv_has ls 9 [(0, .ref (q 0)), (1, .int (nI kd)), (2, .int (nI mny)), (3, .int (nI en))] := hl
  refine W_absR (fun R hR => ?_)
  have hR : R = ({ frames := 2, cells := 0, slots := 0, locals := 50 } : Room) := hR
  refine W_absQ (fun Q hQ => ?_)
  generalize ([.ref (q 0), .int (nI kd), .int (nI mny), .int (nI en)] : List Value).toArray = args at hts hQ ⊢
  generalize va_A (wX q cI cZ cJ k V C T B P A n PR ST li w WK so sp CT SC TA) s.heap.size = A9 at hD hZ hA hQ
  refine W_start hP (A := A9) (fun H locs hP hS => ?_)
  refine lv_lconst (v := lZ 1) hx hb dX0_addKindToWays_0 (by decide) ?_
  refine lv_aload_n hx hb dX0_addKindToWays_1 rfl (lv_at hl 0 rfl) ?_
  refine lv_iload_n hx hb dX0_addKindToWays_2 rfl (lv_at hl 1 rfl) ?_
  refine k_i (va_runV (As := [.int (nI kd)]) (rest := [.long (lZ 1)]) ⟨hx, hb, hml, hown, hts⟩ (c_X0_digitOf l hst D q cI cZ cJ k V C T B P A n PR ST li w WK so sp CT SC TA H.size kd hk8 hV hkd) (cwV 1 hts gX0_addKindToWays_X0_digitOf rfl rfl rfl hd_X0_digitOf ⟨(by rw [hR]; exact Nat.le_of_ble_eq_true rfl), (by rw [hR]; exact Nat.le_of_ble_eq_true rfl)⟩) (pre_V hP hK hD hS hA hZ hg 0 (ci := 0) rfl rfl) rfl rfl hl.1 rfl (lv_room (Nat.le_of_ble_eq_true rfl)) dX0_addKindToWays_3 ⟨(by rw [hR]; exact Nat.le_of_ble_eq_true rfl), (by rw [hR]; exact Nat.le_of_ble_eq_true rfl)⟩) hD hS hA (fun r_2 u_1 H locs hp_3 hP hD hS => ?_)
  subst hp_3
  refine lv_lshl hx hb dX0_addKindToWays_6 (lZ_shl _ (by have := lc_lt (V := V) hkd; omega)) ?_
  refine lv_ldc2 (v := (281474976710656)) hx hb hown (hts _ (List.mem_of_getElem? (i := 1) rfl)) dX0_addKindToWays_7 (n_topl (show ((281474976710656) : Int64) = lZ 281474976710656 from by decide) ?_)
  refine lv_lsub hx hb dX0_addKindToWays_10 (n_topl (lZ_sub _ _) ?_)
  refine n_topl (show lZ (2 ^ (lc V (V kd) k * 6) - 281474976710656) = lZ (wg V k kd) from rfl) ?_
  refine lv_lstore (lv' := [(4, .long (lZ (wg V k kd))), (0, .ref (q 0)), (1, .int (nI kd)), (2, .int (nI mny)), (3, .int (nI en))]) hx hb dX0_addKindToWays_11 hl (by decide) rfl (fun ls hl => ?_)
  refine lv_iload_n hx hb dX0_addKindToWays_13 rfl (lv_at hl 3 rfl) ?_
  refine lv_istore (lv' := [(6, .int (nI mny)), (4, .long (lZ (wg V k kd))), (0, .ref (q 0)), (1, .int (nI kd)), (2, .int (nI mny)), (3, .int (nI en))]) hx hb dX0_addKindToWays_14 hl (by decide) rfl (fun ls hl => ?_)
  refine lv_iconst (v := nI 1) hx hb dX0_addKindToWays_16 (ic_1) ?_
  refine lv_istore (lv' := [(7, .int (nI 1)), (6, .int (nI mny)), (4, .long (lZ (wg V k kd))), (0, .ref (q 0)), (1, .int (nI kd)), (2, .int (nI mny)), (3, .int (nI en))]) hx hb dX0_addKindToWays_17 hl (by decide) rfl (fun ls hl => ?_)
  have lp_19 : ∀ (fu_19 : Nat) (pk : Nat) (lf : Nat) (Sx : Nat → Int), 128 - pk < fu_19 → (1 ≤ pk ∧ pk ≤ 120) → (lf ≤ mny) → (lf = 0 ∨ mny - lf + 1 = pk) → (isB Sx en (xt SS (V kd) (wg V k kd) (mny - lf))) → ∀ (H : Heap) (locs : List Loc), va_P D vwCl (wX q cI cZ cJ k V C T B P A n PR ST li w WK so sp CT Sx TA) H → va_D A9 (wX q cI cZ cJ k V C T B P A n PR ST li w WK so sp CT Sx TA) → va_S A9 s.heap H locs → ∀ ls : Array Slot, lv_has ls 9 [(7, .int (nI pk)), (6, .int (nI lf)), (4, .long (lZ (wg V k kd))), (0, .ref (q 0)), (1, .int (nI kd)), (3, .int (nI en))] → W p l e R s m args below meth c H locs 0 0 Q (F0 m 19 ls []) := by
    intro fu_19
    induction fu_19 with
    | zero =>
      intro pk lf Sx hfu_19
      exact absurd hfu_19 (Nat.not_lt_zero _)
    | succ fu_19 ih_19 =>
      intro pk lf Sx hfu_19 hpk hlf hT hs H locs hP hD hS ls hl
      refine lv_iload hx hb dX0_addKindToWays_19 (lv_at hl 0 rfl) ?_
      refine lv_bipush (v := nI 60) hx hb dX0_addKindToWays_21 (by decide) ?_
      refine n_icmp_gt (tgt := 76) hx hb (by omega) (by omega) dX0_addKindToWays_23 (by decide) (fun c23 => ?_) (fun c23 => ?_)
      · subst hQ
        exact e_v Sx hx hb hr hlocks hS hP hD (by rw [show mny - lf = mny by omega] at hs; exact hs) (Nat.le_of_ble_eq_true rfl) (Nat.le_of_ble_eq_true rfl) dX0_addKindToWays_76
      · refine lv_iload hx hb dX0_addKindToWays_26 (lv_at hl 0 rfl) ?_
        refine lv_iload hx hb dX0_addKindToWays_28 (lv_at hl 1 rfl) ?_
        refine va_mmin hx hb (hml.trans hl.1.symm) hown (hts _ (List.mem_of_getElem? (i := 2) rfl)) (hts _ (List.mem_of_getElem? (i := 3) rfl)) (hts _ (List.mem_of_getElem? (i := 4) rfl)) (hts _ (List.mem_of_getElem? (i := 5) rfl)) (by rw [hR]; exact Nat.le_of_ble_eq_true rfl) (by rw [hR]; exact Nat.le_of_ble_eq_true rfl) (by rw [hR]; exact Nat.le_of_ble_eq_true rfl) (by rw [hR]; exact Nat.le_of_ble_eq_true rfl) dX0_addKindToWays_30 (n_top (nI_min _ _ (by omega) (by omega)) ?_)
        refine lv_istore (lv' := [(8, .int (nI (min pk lf))), (7, .int (nI pk)), (6, .int (nI lf)), (4, .long (lZ (wg V k kd))), (0, .ref (q 0)), (1, .int (nI kd)), (3, .int (nI en))]) hx hb dX0_addKindToWays_33 hl (by decide) rfl (fun ls hl => ?_)
        refine lv_iload hx hb dX0_addKindToWays_35 (lv_at hl 0 rfl) ?_
        refine n_if_le (tgt := 60) hx hb (by omega) dX0_addKindToWays_37 (by decide) (fun c37 => ?_) (fun c37 => ?_)
        · have hs2 : isB Sx en (xt SS (V kd) (wg V k kd) (mny - (lf - min pk lf))) := by rw [show mny - (lf - min pk lf) = mny - lf by omega]; exact hs
          refine lv_iload hx hb dX0_addKindToWays_60 (lv_at hl 2 rfl) ?_
          refine lv_iload hx hb dX0_addKindToWays_62 (lv_at hl 0 rfl) ?_
          refine n_isub hx hb (by omega) dX0_addKindToWays_64 ?_
          refine lv_istore (lv' := [(6, .int (nI (lf - (min pk lf)))), (8, .int (nI (min pk lf))), (7, .int (nI pk)), (4, .long (lZ (wg V k kd))), (0, .ref (q 0)), (1, .int (nI kd)), (3, .int (nI en))]) hx hb dX0_addKindToWays_65 hl (by decide) rfl (fun ls hl => ?_)
          refine lv_iload hx hb dX0_addKindToWays_67 (lv_at hl 2 rfl) ?_
          refine lv_iconst (v := nI 2) hx hb dX0_addKindToWays_69 (ic_2) ?_
          refine n_imul hx hb dX0_addKindToWays_70 ?_
          refine lv_istore (lv' := [(7, .int (nI (pk * 2))), (6, .int (nI (lf - (min pk lf)))), (8, .int (nI (min pk lf))), (4, .long (lZ (wg V k kd))), (0, .ref (q 0)), (1, .int (nI kd)), (3, .int (nI en))]) hx hb dX0_addKindToWays_71 hl (by decide) rfl (fun ls hl => ?_)
          refine lv_goto (tgt := 19) hx hb dX0_addKindToWays_73 (by decide) ?_
          exact ih_19 (pk * 2) (lf - (min pk lf)) Sx (by omega) (⟨by omega, by omega⟩) (by omega) (by omega) hs2 _ _ hP hD hS ls (lv_sub hl [0, 1, 3, 4, 5, 6] rfl)
        · have hwg := wg_bd (V := V) hk8 hkd
          have hsb : -288230376151711744 ≤ ((min pk lf : Nat) : Int) * wg V k kd ∧ ((min pk lf : Nat) : Int) * wg V k kd ≤ 0 := wmul_bd (by omega) hwg
          refine lv_aload_n hx hb dX0_addKindToWays_40 rfl (lv_at hl 4 rfl) ?_
          refine lv_iload hx hb dX0_addKindToWays_41 (lv_at hl 0 rfl) ?_
          refine lv_aload_n hx hb dX0_addKindToWays_43 rfl (lv_at hl 4 rfl) ?_
          refine gfX hx hb hts hin hown hK hP 1 (by decide) (List.mem_of_getElem? (i := 6) rfl) rfl rfl dX0_addKindToWays_44 ?_
          refine lv_iload_n hx hb dX0_addKindToWays_47 rfl (lv_at hl 5 rfl) ?_
          refine n_iald hx hb hK hP 1 0 rfl rfl (by omega) (by decide) dX0_addKindToWays_48 ?_
          refine n_imul hx hb dX0_addKindToWays_49 ?_
          refine lv_iload hx hb dX0_addKindToWays_50 (lv_at hl 0 rfl) ?_
          refine n_i2l hx hb (by omega) dX0_addKindToWays_52 ?_
          refine lv_lload hx hb dX0_addKindToWays_53 (lv_at hl 3 rfl) ?_
          refine n_lmul hx hb dX0_addKindToWays_55 ?_
          refine lv_iload_n hx hb dX0_addKindToWays_56 rfl (lv_at hl 6 rfl) ?_
          refine k_v (va_runV (As := [.int (nI ((min pk lf) * (V kd))), .long (lZ (((min pk lf : Nat) : Int) * (wg V k kd))), .int (nI en)]) (rest := []) ⟨hx, hb, hml, hown, hts⟩ (c_X0_addPackToWays l hst D q cI cZ cJ k V C T B P A n PR ST li w WK so sp CT Sx TA H.size ((min pk lf) * (V kd)) (((min pk lf : Nat) : Int) * (wg V k kd)) en hen (by have h2 := hV kd hkd; exact Nat.mul_pos (by omega) (by omega)) (by have h2 := hV kd hkd; have h3 : min pk lf * V kd ≤ 60 * 500 := Nat.mul_le_mul (by omega) (by omega); omega) hsb (isB_bd (bd_mono (by omega) hbx) hs)) (cwV 3 hts gX0_addKindToWays_X0_addPackToWays rfl rfl rfl hd_X0_addPackToWays ⟨(by rw [hR]; exact Nat.le_of_ble_eq_true rfl), (by rw [hR]; exact Nat.le_of_ble_eq_true rfl)⟩) (pre_V hP hK hD hS hA hZ hg 0 (ci := 0) rfl rfl) rfl rfl hl.1 rfl (lv_room (Nat.le_of_ble_eq_true rfl)) dX0_addKindToWays_57 ⟨(by rw [hR]; exact Nat.le_of_ble_eq_true rfl), (by rw [hR]; exact Nat.le_of_ble_eq_true rfl)⟩) hD hS hA (fun u_4 H locs hp_6 hP hD hS => ?_)
          have hs2 : isB u_4 en (xt SS (V kd) (wg V k kd) (mny - (lf - min pk lf))) := by
            rw [show mny - (lf - min pk lf) = (mny - lf) + min pk lf by omega]
            exact isB_pack (by omega) (bd_mono (by omega) hbx) hs hp_6
          refine lv_iload hx hb dX0_addKindToWays_60 (lv_at hl 2 rfl) ?_
          refine lv_iload hx hb dX0_addKindToWays_62 (lv_at hl 0 rfl) ?_
          refine n_isub hx hb (by omega) dX0_addKindToWays_64 ?_
          refine lv_istore (lv' := [(6, .int (nI (lf - (min pk lf)))), (8, .int (nI (min pk lf))), (7, .int (nI pk)), (4, .long (lZ (wg V k kd))), (0, .ref (q 0)), (1, .int (nI kd)), (3, .int (nI en))]) hx hb dX0_addKindToWays_65 hl (by decide) rfl (fun ls hl => ?_)
          refine lv_iload hx hb dX0_addKindToWays_67 (lv_at hl 2 rfl) ?_
          refine lv_iconst (v := nI 2) hx hb dX0_addKindToWays_69 (ic_2) ?_
          refine n_imul hx hb dX0_addKindToWays_70 ?_
          refine lv_istore (lv' := [(7, .int (nI (pk * 2))), (6, .int (nI (lf - (min pk lf)))), (8, .int (nI (min pk lf))), (4, .long (lZ (wg V k kd))), (0, .ref (q 0)), (1, .int (nI kd)), (3, .int (nI en))]) hx hb dX0_addKindToWays_71 hl (by decide) rfl (fun ls hl => ?_)
          refine lv_goto (tgt := 19) hx hb dX0_addKindToWays_73 (by decide) ?_
          exact ih_19 (pk * 2) (lf - (min pk lf)) u_4 (by omega) (⟨by omega, by omega⟩) (by omega) (by omega) hs2 _ _ hP hD hS ls (lv_sub hl [0, 1, 3, 4, 5, 6] rfl)
  exact lp_19 _ 1 mny SC (Nat.lt_succ_self _) (⟨by omega, by omega⟩) (by omega) (by omega) (by rw [Nat.sub_self]; exact isB_cong xt_0 hB) _ _ hP hD hS ls (lv_sub hl [0, 1, 2, 3, 4, 6] rfl)
theorem hd_X0_addKindToWays : yX0_addKindToWays.cls = RX0 ∧ yX0_addKindToWays.cls ≠ "java/lang/invoke/MethodHandle" ∧ yX0_addKindToWays.cls ≠ "java/lang/invoke/VarHandle" ∧ (parseMethodDescriptor yX0_addKindToWays.desc).map (fun d => d.parameters.length) = some 3 := by decide +kernel

set_option maxHeartbeats 4000000 in
set_option maxRecDepth 100000 in
theorem c_X0_scoreWays_T (l : Launch) (hst : l.stackTraces = false) (D : va_G) (q : Nat → Nat) (cI cZ cJ : ClassId) (k : Nat) (V : Nat → Nat) (C : Nat → Nat) (T : Nat → Nat) (B : Nat → Nat) (P : Nat → Nat) (A : Nat → Nat) (n : Nat) (PR : Nat → Nat) (ST : Nat → Nat) (li : Nat) (w : Nat) (WK : Nat → Nat) (so : Nat) (sp : Nat) (CT : Nat → Int64) (SC : Nat → Int) (TA : Nat → Nat) (sz : Nat) (mo : Nat) (hk8 : k ≤ 8) (hV : ∀ i, i < k → 1 ≤ V i ∧ V i ≤ 500) (hmo : mo ≤ 2000) (hF : ∀ i, i < k → T i ≤ 60) : Met l yX0_scoreWays wsX0_scoreWays ({ frames := 3, cells := 0, slots := 0, locals := 78 }) (va_Pc [.ref (q 0), .int (nI mo), .ref (q 3)] (cxP D (ty3 cI cZ cJ) (wX q cI cZ cJ k V C T B P A n PR ST li w WK so sp CT SC TA) sz)) (va_Qv (fun (u : Nat → Int) => isB u mo (wS T V (wg V k) k)) (bW D (va_A (wX q cI cZ cJ k V C T B P A n PR ST li w WK so sp CT SC TA) sz) (fun u => (wX q cI cZ cJ k V C T B P A n PR ST li w WK so sp CT u TA))) (va_A (wX q cI cZ cJ k V C T B P A n PR ST li w WK so sp CT SC TA) sz)) 0 0 (va_A (wX q cI cZ cJ k V C T B P A n PR ST li w WK so sp CT SC TA) sz) := by
  refine Met.ofW (cc := cX0_scoreWays) (maxL := 5) (ret := none) (by decide) rfl ?_
  intro p e s m args below meth c s₁ BB hml hv
  obtain ⟨hav, hsz, hP, hK, hD0, hZ, hg⟩ := hv
  subst hsz
  subst hav
  have hx := BB.exec
  have hb := BB.bytes
  have hr := BB.returns
  have hts := atoms_spec (ws := wsX0_scoreWays) BB.pre
  have hown : s.vm.findClass RX0 = some m.cls := findClass_of_methodNamed BB.named
  have hlocks := BB.notSynchronized
  have hin : ∀ w ∈ wsX00, w ∈ wsX0_scoreWays := fun w h => (List.mem_cons_of_mem _ (List.mem_append_right _ h))
  have hD := hD0.self (sz := s.heap.size)
  have hA : ∀ q9 : Nat, s.heap.size ≤ q9 → va_A (wX q cI cZ cJ k V C T B P A n PR ST li w WK so sp CT SC TA) s.heap.size q9 := fun _ h => Or.inr h
  have hl := lv_entry ([.ref (q 0), .int (nI mo), .ref (q 3)]) (n := 5) (Nat.le_of_ble_eq_true rfl)
  rw [lg_entry_eq]
  generalize (lg_sl ([.ref (q 0), .int (nI mo), .ref (q 3)]) ++ List.replicate (5 - (lg_sl ([.ref (q 0), .int (nI mo), .ref (q 3)])).length) Slot.unset).toArray = ls at hl ⊢
  have hl : lv_has ls 5 [(0, .ref (q 0)), (1, .int (nI mo)), (2, .ref (q 3))] := hl
  refine W_absR (fun R hR => ?_)
  have hR : R = ({ frames := 3, cells := 0, slots := 0, locals := 78 } : Room) := hR
  refine W_absQ (fun Q hQ => ?_)
  generalize ([.ref (q 0), .int (nI mo), .ref (q 3)] : List Value).toArray = args at hts hQ ⊢
  generalize va_A (wX q cI cZ cJ k V C T B P A n PR ST li w WK so sp CT SC TA) s.heap.size = A9 at hD hZ hA hQ
  refine W_start hP (A := A9) (fun H locs hP hS => ?_)
  refine lv_iload_n hx hb dX0_scoreWays_0 rfl (lv_at hl 1 rfl) ?_
  refine lv_sipush (v := nI 2000) hx hb dX0_scoreWays_1 (by decide) ?_
  refine va_mmin hx hb (hml.trans hl.1.symm) hown (hts _ (List.mem_of_getElem? (i := 1) rfl)) (hts _ (List.mem_of_getElem? (i := 2) rfl)) (hts _ (List.mem_of_getElem? (i := 3) rfl)) (hts _ (List.mem_of_getElem? (i := 4) rfl)) (by rw [hR]; exact Nat.le_of_ble_eq_true rfl) (by rw [hR]; exact Nat.le_of_ble_eq_true rfl) (by rw [hR]; exact Nat.le_of_ble_eq_true rfl) (by rw [hR]; exact Nat.le_of_ble_eq_true rfl) dX0_scoreWays_4 (n_top (nI_min _ _ (by omega) (by omega)) ?_)
  refine n_top (congrArg nI (show min mo 2000 = mo by omega)) ?_
  refine lv_istore_n (lv' := [(3, .int (nI mo)), (0, .ref (q 0)), (1, .int (nI mo)), (2, .ref (q 3))]) hx hb dX0_scoreWays_7 rfl hl (by decide) rfl (fun ls hl => ?_)
  refine lv_aload_n hx hb dX0_scoreWays_8 rfl (lv_at hl 1 rfl) ?_
  refine gfX hx hb hts hin hown hK hP 16 (by decide) (List.mem_of_getElem? (i := 5) rfl) rfl rfl dX0_scoreWays_9 ?_
  refine lv_iconst (v := nI 0) hx hb dX0_scoreWays_12 (ic_0) ?_
  refine lv_lconst (v := lZ 0) hx hb dX0_scoreWays_13 (by decide) ?_
  refine n_sast (ws' := (wX q cI cZ cJ k V C T B P A n PR ST li w WK so sp CT (uz SC 0 0) TA)) hx hb hK hP hD hS 11 2 rfl rfl (by omega) (by decide) rfl dX0_scoreWays_14 (fun H locs hP hD hS => ?_)
  refine lv_iconst (v := nI 1) hx hb dX0_scoreWays_15 (ic_1) ?_
  refine lv_istore (lv' := [(4, .int (nI 1)), (3, .int (nI mo)), (0, .ref (q 0)), (1, .int (nI mo)), (2, .ref (q 3))]) hx hb dX0_scoreWays_16 hl (by decide) rfl (fun ls hl => ?_)
  have lp_18 : ∀ (fu_18 : Nat) (am : Nat) (Sx : Nat → Int), mo + 1 - am < fu_18 → (1 ≤ am ∧ am ≤ mo + 1) → (Sx 0 = 0) → (∀ a, 1 ≤ a → a < am → Sx a = -4611686018427387904) → ∀ (H : Heap) (locs : List Loc), va_P D vwCl (wX q cI cZ cJ k V C T B P A n PR ST li w WK so sp CT Sx TA) H → va_D A9 (wX q cI cZ cJ k V C T B P A n PR ST li w WK so sp CT Sx TA) → va_S A9 s.heap H locs → ∀ ls : Array Slot, lv_has ls 5 [(4, .int (nI am)), (3, .int (nI mo)), (0, .ref (q 0)), (2, .ref (q 3))] → W p l e R s m args below meth c H locs 0 0 Q (F0 m 18 ls []) := by
    intro fu_18
    induction fu_18 with
    | zero =>
      intro am Sx hfu_18
      exact absurd hfu_18 (Nat.not_lt_zero _)
    | succ fu_18 ih_18 =>
      intro am Sx hfu_18 ham h00 hs H locs hP hD hS ls hl
      refine lv_iload hx hb dX0_scoreWays_18 (lv_at hl 0 rfl) ?_
      refine lv_iload_n hx hb dX0_scoreWays_20 rfl (lv_at hl 1 rfl) ?_
      refine n_icmp_gt (tgt := 40) hx hb (by omega) (by omega) dX0_scoreWays_21 (by decide) (fun c21 => ?_) (fun c21 => ?_)
      · refine lv_iconst (v := nI 0) hx hb dX0_scoreWays_40 (ic_0) ?_
        refine lv_istore (lv' := [(4, .int (nI 0)), (3, .int (nI mo)), (0, .ref (q 0)), (2, .ref (q 3))]) hx hb dX0_scoreWays_41 hl (by decide) rfl (fun ls hl => ?_)
        have lp_43 : ∀ (fu_43 : Nat) (i : Nat) (Sy : Nat → Int), k - i < fu_43 → (i ≤ k) → (isB Sy mo (wS T V (wg V k) i)) → ∀ (H : Heap) (locs : List Loc), va_P D vwCl (wX q cI cZ cJ k V C T B P A n PR ST li w WK so sp CT Sy TA) H → va_D A9 (wX q cI cZ cJ k V C T B P A n PR ST li w WK so sp CT Sy TA) → va_S A9 s.heap H locs → ∀ ls : Array Slot, lv_has ls 5 [(4, .int (nI i)), (3, .int (nI mo)), (0, .ref (q 0)), (2, .ref (q 3))] → W p l e R s m args below meth c H locs 0 0 Q (F0 m 43 ls []) := by
          intro fu_43
          induction fu_43 with
          | zero =>
            intro i Sy hfu_43
            exact absurd hfu_43 (Nat.not_lt_zero _)
          | succ fu_43 ih_43 =>
            intro i Sy hfu_43 hi hy H locs hP hD hS ls hl
            refine lv_iload hx hb dX0_scoreWays_43 (lv_at hl 0 rfl) ?_
            refine lv_aload_n hx hb dX0_scoreWays_45 rfl (lv_at hl 2 rfl) ?_
            refine gfX hx hb hts hin hown hK hP 0 (by decide) (List.mem_of_getElem? (i := 7) rfl) rfl rfl dX0_scoreWays_46 ?_
            refine n_icmp_ge (tgt := 69) hx hb (by omega) (by omega) dX0_scoreWays_49 (by decide) (fun c49 => ?_) (fun c49 => ?_)
            · have hik : k = i := by omega
              subst hik
              subst hQ
              exact e_v Sy hx hb hr hlocks hS hP hD hy (Nat.le_of_ble_eq_true rfl) (Nat.le_of_ble_eq_true rfl) dX0_scoreWays_69
            · refine lv_aload_n hx hb dX0_scoreWays_52 rfl (lv_at hl 2 rfl) ?_
              refine lv_iload hx hb dX0_scoreWays_53 (lv_at hl 0 rfl) ?_
              refine lv_aload_n hx hb dX0_scoreWays_55 rfl (lv_at hl 3 rfl) ?_
              refine lv_iload hx hb dX0_scoreWays_56 (lv_at hl 0 rfl) ?_
              refine n_iald hx hb hK hP 3 0 rfl rfl (by omega) (by decide) dX0_scoreWays_58 ?_
              refine lv_iload_n hx hb dX0_scoreWays_59 rfl (lv_at hl 1 rfl) ?_
              refine k_v (va_runV (As := [.int (nI i), .int (nI (T i)), .int (nI mo)]) (rest := []) ⟨hx, hb, hml, hown, hts⟩ (c_X0_addKindToWays l hst D q cI cZ cJ k V C T B P A n PR ST li w WK so sp CT Sy TA H.size (wS T V (wg V k) i) i (T i) mo hk8 hV hmo (by omega) (hF i (by omega)) hy (wS_bd8 hk8 hF (i + 1) (by omega))) (cwV 3 hts gX0_scoreWays_X0_addKindToWays rfl rfl rfl hd_X0_addKindToWays ⟨(by rw [hR]; exact Nat.le_of_ble_eq_true rfl), (by rw [hR]; exact Nat.le_of_ble_eq_true rfl)⟩) (pre_V hP hK hD hS hA hZ hg 0 (ci := 0) rfl rfl) rfl rfl hl.1 rfl (lv_room (Nat.le_of_ble_eq_true rfl)) dX0_scoreWays_60 ⟨(by rw [hR]; exact Nat.le_of_ble_eq_true rfl), (by rw [hR]; exact Nat.le_of_ble_eq_true rfl)⟩) hD hS hA (fun u_1 H locs hp_3 hP hD hS => ?_)
              have hy2 : isB u_1 mo (wS T V (wg V k) (i + 1)) := hp_3
              refine lv_iinc (v := nI (i + 1)) (lv' := [(4, .int (nI (i + 1))), (3, .int (nI mo)), (0, .ref (q 0)), (2, .ref (q 3))]) hx hb dX0_scoreWays_63 hl (k := 0) rfl (ni_inc _ 1) (by decide) rfl (fun ls hl => ?_)
              refine lv_goto (tgt := 43) hx hb dX0_scoreWays_66 (by decide) ?_
              exact ih_43 (i + 1) u_1 (by omega) (by omega) hy2 _ _ hP hD hS ls (lv_sub hl [0, 1, 2, 3] rfl)
        exact lp_43 _ 0 Sx (Nat.lt_succ_self _) (by omega) (isB_0 h00 (fun a h1 h2 => hs a h1 (by omega))) _ _ hP hD hS ls (lv_sub hl [0, 1, 2, 3] rfl)
      · refine lv_aload_n hx hb dX0_scoreWays_24 rfl (lv_at hl 2 rfl) ?_
        refine gfX hx hb hts hin hown hK hP 16 (by decide) (List.mem_of_getElem? (i := 5) rfl) rfl rfl dX0_scoreWays_25 ?_
        refine lv_iload hx hb dX0_scoreWays_28 (lv_at hl 0 rfl) ?_
        refine lv_ldc2 (v := (-4611686018427387904)) hx hb hown (hts _ (List.mem_of_getElem? (i := 6) rfl)) dX0_scoreWays_30 (n_topl (show ((-4611686018427387904) : Int64) = lZ (-4611686018427387904) from by decide) ?_)
        refine n_sast (ws' := (wX q cI cZ cJ k V C T B P A n PR ST li w WK so sp CT (uz Sx am (-4611686018427387904)) TA)) hx hb hK hP hD hS 11 2 rfl rfl (by omega) (by decide) rfl dX0_scoreWays_33 (fun H locs hP hD hS => ?_)
        refine lv_iinc (v := nI (am + 1)) (lv' := [(4, .int (nI (am + 1))), (3, .int (nI mo)), (0, .ref (q 0)), (2, .ref (q 3))]) hx hb dX0_scoreWays_34 hl (k := 0) rfl (ni_inc _ 1) (by decide) rfl (fun ls hl => ?_)
        refine lv_goto (tgt := 18) hx hb dX0_scoreWays_37 (by decide) ?_
        exact ih_18 (am + 1) (uz Sx am (-4611686018427387904)) (by omega) (⟨by omega, by omega⟩) (by rw [uz_n (by omega)]; exact h00) (fun a h1 h2 => by rcases Nat.lt_or_ge a am with h | h; (rw [uz_n (by omega)]; exact hs a h1 h); (rw [show a = am by omega]; exact uz_s)) _ _ hP hD hS ls (lv_sub hl [0, 1, 2, 3] rfl)
  exact lp_18 _ 1 (uz SC 0 0) (Nat.lt_succ_self _) (⟨by omega, by omega⟩) uz_s (fun a h1 h2 => absurd h1 (by omega)) _ _ hP hD hS ls (lv_sub hl [0, 1, 2, 4] rfl)
theorem hd_X0_scoreWays : yX0_scoreWays.cls = RX0 ∧ yX0_scoreWays.cls ≠ "java/lang/invoke/MethodHandle" ∧ yX0_scoreWays.cls ≠ "java/lang/invoke/VarHandle" ∧ (parseMethodDescriptor yX0_scoreWays.desc).map (fun d => d.parameters.length) = some 2 := by decide +kernel

set_option maxHeartbeats 4000000 in
set_option maxRecDepth 100000 in
theorem c_X0_scoreWays_A (l : Launch) (hst : l.stackTraces = false) (D : va_G) (q : Nat → Nat) (cI cZ cJ : ClassId) (k : Nat) (V : Nat → Nat) (C : Nat → Nat) (T : Nat → Nat) (B : Nat → Nat) (P : Nat → Nat) (A : Nat → Nat) (n : Nat) (PR : Nat → Nat) (ST : Nat → Nat) (li : Nat) (w : Nat) (WK : Nat → Nat) (so : Nat) (sp : Nat) (CT : Nat → Int64) (SC : Nat → Int) (TA : Nat → Nat) (sz : Nat) (mo : Nat) (hk8 : k ≤ 8) (hV : ∀ i, i < k → 1 ≤ V i ∧ V i ≤ 500) (hmo : mo ≤ 2000) (hF : ∀ i, i < k → TA i ≤ 60) : Met l yX0_scoreWays wsX0_scoreWays ({ frames := 3, cells := 0, slots := 0, locals := 78 }) (va_Pc [.ref (q 0), .int (nI mo), .ref (q 17)] (cxP D (ty3 cI cZ cJ) (wX q cI cZ cJ k V C T B P A n PR ST li w WK so sp CT SC TA) sz)) (va_Qv (fun (u : Nat → Int) => isB u mo (wS TA V (wg V k) k)) (bW D (va_A (wX q cI cZ cJ k V C T B P A n PR ST li w WK so sp CT SC TA) sz) (fun u => (wX q cI cZ cJ k V C T B P A n PR ST li w WK so sp CT u TA))) (va_A (wX q cI cZ cJ k V C T B P A n PR ST li w WK so sp CT SC TA) sz)) 0 0 (va_A (wX q cI cZ cJ k V C T B P A n PR ST li w WK so sp CT SC TA) sz) := by
  refine Met.ofW (cc := cX0_scoreWays) (maxL := 5) (ret := none) (by decide) rfl ?_
  intro p e s m args below meth c s₁ BB hml hv
  obtain ⟨hav, hsz, hP, hK, hD0, hZ, hg⟩ := hv
  subst hsz
  subst hav
  have hx := BB.exec
  have hb := BB.bytes
  have hr := BB.returns
  have hts := atoms_spec (ws := wsX0_scoreWays) BB.pre
  have hown : s.vm.findClass RX0 = some m.cls := findClass_of_methodNamed BB.named
  have hlocks := BB.notSynchronized
  have hin : ∀ w ∈ wsX00, w ∈ wsX0_scoreWays := fun w h => (List.mem_cons_of_mem _ (List.mem_append_right _ h))
  have hD := hD0.self (sz := s.heap.size)
  have hA : ∀ q9 : Nat, s.heap.size ≤ q9 → va_A (wX q cI cZ cJ k V C T B P A n PR ST li w WK so sp CT SC TA) s.heap.size q9 := fun _ h => Or.inr h
  have hl := lv_entry ([.ref (q 0), .int (nI mo), .ref (q 17)]) (n := 5) (Nat.le_of_ble_eq_true rfl)
  rw [lg_entry_eq]
  generalize (lg_sl ([.ref (q 0), .int (nI mo), .ref (q 17)]) ++ List.replicate (5 - (lg_sl ([.ref (q 0), .int (nI mo), .ref (q 17)])).length) Slot.unset).toArray = ls at hl ⊢
  have hl : lv_has ls 5 [(0, .ref (q 0)), (1, .int (nI mo)), (2, .ref (q 17))] := hl
  refine W_absR (fun R hR => ?_)
  have hR : R = ({ frames := 3, cells := 0, slots := 0, locals := 78 } : Room) := hR
  refine W_absQ (fun Q hQ => ?_)
  generalize ([.ref (q 0), .int (nI mo), .ref (q 17)] : List Value).toArray = args at hts hQ ⊢
  generalize va_A (wX q cI cZ cJ k V C T B P A n PR ST li w WK so sp CT SC TA) s.heap.size = A9 at hD hZ hA hQ
  refine W_start hP (A := A9) (fun H locs hP hS => ?_)
  refine lv_iload_n hx hb dX0_scoreWays_0 rfl (lv_at hl 1 rfl) ?_
  refine lv_sipush (v := nI 2000) hx hb dX0_scoreWays_1 (by decide) ?_
  refine va_mmin hx hb (hml.trans hl.1.symm) hown (hts _ (List.mem_of_getElem? (i := 1) rfl)) (hts _ (List.mem_of_getElem? (i := 2) rfl)) (hts _ (List.mem_of_getElem? (i := 3) rfl)) (hts _ (List.mem_of_getElem? (i := 4) rfl)) (by rw [hR]; exact Nat.le_of_ble_eq_true rfl) (by rw [hR]; exact Nat.le_of_ble_eq_true rfl) (by rw [hR]; exact Nat.le_of_ble_eq_true rfl) (by rw [hR]; exact Nat.le_of_ble_eq_true rfl) dX0_scoreWays_4 (n_top (nI_min _ _ (by omega) (by omega)) ?_)
  refine n_top (congrArg nI (show min mo 2000 = mo by omega)) ?_
  refine lv_istore_n (lv' := [(3, .int (nI mo)), (0, .ref (q 0)), (1, .int (nI mo)), (2, .ref (q 17))]) hx hb dX0_scoreWays_7 rfl hl (by decide) rfl (fun ls hl => ?_)
  refine lv_aload_n hx hb dX0_scoreWays_8 rfl (lv_at hl 1 rfl) ?_
  refine gfX hx hb hts hin hown hK hP 16 (by decide) (List.mem_of_getElem? (i := 5) rfl) rfl rfl dX0_scoreWays_9 ?_
  refine lv_iconst (v := nI 0) hx hb dX0_scoreWays_12 (ic_0) ?_
  refine lv_lconst (v := lZ 0) hx hb dX0_scoreWays_13 (by decide) ?_
  refine n_sast (ws' := (wX q cI cZ cJ k V C T B P A n PR ST li w WK so sp CT (uz SC 0 0) TA)) hx hb hK hP hD hS 11 2 rfl rfl (by omega) (by decide) rfl dX0_scoreWays_14 (fun H locs hP hD hS => ?_)
  refine lv_iconst (v := nI 1) hx hb dX0_scoreWays_15 (ic_1) ?_
  refine lv_istore (lv' := [(4, .int (nI 1)), (3, .int (nI mo)), (0, .ref (q 0)), (1, .int (nI mo)), (2, .ref (q 17))]) hx hb dX0_scoreWays_16 hl (by decide) rfl (fun ls hl => ?_)
  have lp_18 : ∀ (fu_18 : Nat) (am : Nat) (Sx : Nat → Int), mo + 1 - am < fu_18 → (1 ≤ am ∧ am ≤ mo + 1) → (Sx 0 = 0) → (∀ a, 1 ≤ a → a < am → Sx a = -4611686018427387904) → ∀ (H : Heap) (locs : List Loc), va_P D vwCl (wX q cI cZ cJ k V C T B P A n PR ST li w WK so sp CT Sx TA) H → va_D A9 (wX q cI cZ cJ k V C T B P A n PR ST li w WK so sp CT Sx TA) → va_S A9 s.heap H locs → ∀ ls : Array Slot, lv_has ls 5 [(4, .int (nI am)), (3, .int (nI mo)), (0, .ref (q 0)), (2, .ref (q 17))] → W p l e R s m args below meth c H locs 0 0 Q (F0 m 18 ls []) := by
    intro fu_18
    induction fu_18 with
    | zero =>
      intro am Sx hfu_18
      exact absurd hfu_18 (Nat.not_lt_zero _)
    | succ fu_18 ih_18 =>
      intro am Sx hfu_18 ham h00 hs H locs hP hD hS ls hl
      refine lv_iload hx hb dX0_scoreWays_18 (lv_at hl 0 rfl) ?_
      refine lv_iload_n hx hb dX0_scoreWays_20 rfl (lv_at hl 1 rfl) ?_
      refine n_icmp_gt (tgt := 40) hx hb (by omega) (by omega) dX0_scoreWays_21 (by decide) (fun c21 => ?_) (fun c21 => ?_)
      · refine lv_iconst (v := nI 0) hx hb dX0_scoreWays_40 (ic_0) ?_
        refine lv_istore (lv' := [(4, .int (nI 0)), (3, .int (nI mo)), (0, .ref (q 0)), (2, .ref (q 17))]) hx hb dX0_scoreWays_41 hl (by decide) rfl (fun ls hl => ?_)
        have lp_43 : ∀ (fu_43 : Nat) (i : Nat) (Sy : Nat → Int), k - i < fu_43 → (i ≤ k) → (isB Sy mo (wS TA V (wg V k) i)) → ∀ (H : Heap) (locs : List Loc), va_P D vwCl (wX q cI cZ cJ k V C T B P A n PR ST li w WK so sp CT Sy TA) H → va_D A9 (wX q cI cZ cJ k V C T B P A n PR ST li w WK so sp CT Sy TA) → va_S A9 s.heap H locs → ∀ ls : Array Slot, lv_has ls 5 [(4, .int (nI i)), (3, .int (nI mo)), (0, .ref (q 0)), (2, .ref (q 17))] → W p l e R s m args below meth c H locs 0 0 Q (F0 m 43 ls []) := by
          intro fu_43
          induction fu_43 with
          | zero =>
            intro i Sy hfu_43
            exact absurd hfu_43 (Nat.not_lt_zero _)
          | succ fu_43 ih_43 =>
            intro i Sy hfu_43 hi hy H locs hP hD hS ls hl
            refine lv_iload hx hb dX0_scoreWays_43 (lv_at hl 0 rfl) ?_
            refine lv_aload_n hx hb dX0_scoreWays_45 rfl (lv_at hl 2 rfl) ?_
            refine gfX hx hb hts hin hown hK hP 0 (by decide) (List.mem_of_getElem? (i := 7) rfl) rfl rfl dX0_scoreWays_46 ?_
            refine n_icmp_ge (tgt := 69) hx hb (by omega) (by omega) dX0_scoreWays_49 (by decide) (fun c49 => ?_) (fun c49 => ?_)
            · have hik : k = i := by omega
              subst hik
              subst hQ
              exact e_v Sy hx hb hr hlocks hS hP hD hy (Nat.le_of_ble_eq_true rfl) (Nat.le_of_ble_eq_true rfl) dX0_scoreWays_69
            · refine lv_aload_n hx hb dX0_scoreWays_52 rfl (lv_at hl 2 rfl) ?_
              refine lv_iload hx hb dX0_scoreWays_53 (lv_at hl 0 rfl) ?_
              refine lv_aload_n hx hb dX0_scoreWays_55 rfl (lv_at hl 3 rfl) ?_
              refine lv_iload hx hb dX0_scoreWays_56 (lv_at hl 0 rfl) ?_
              refine n_iald hx hb hK hP 12 0 rfl rfl (by omega) (by decide) dX0_scoreWays_58 ?_
              refine lv_iload_n hx hb dX0_scoreWays_59 rfl (lv_at hl 1 rfl) ?_
              refine k_v (va_runV (As := [.int (nI i), .int (nI (TA i)), .int (nI mo)]) (rest := []) ⟨hx, hb, hml, hown, hts⟩ (c_X0_addKindToWays l hst D q cI cZ cJ k V C T B P A n PR ST li w WK so sp CT Sy TA H.size (wS TA V (wg V k) i) i (TA i) mo hk8 hV hmo (by omega) (hF i (by omega)) hy (wS_bd8 hk8 hF (i + 1) (by omega))) (cwV 3 hts gX0_scoreWays_X0_addKindToWays rfl rfl rfl hd_X0_addKindToWays ⟨(by rw [hR]; exact Nat.le_of_ble_eq_true rfl), (by rw [hR]; exact Nat.le_of_ble_eq_true rfl)⟩) (pre_V hP hK hD hS hA hZ hg 0 (ci := 0) rfl rfl) rfl rfl hl.1 rfl (lv_room (Nat.le_of_ble_eq_true rfl)) dX0_scoreWays_60 ⟨(by rw [hR]; exact Nat.le_of_ble_eq_true rfl), (by rw [hR]; exact Nat.le_of_ble_eq_true rfl)⟩) hD hS hA (fun u_1 H locs hp_3 hP hD hS => ?_)
              have hy2 : isB u_1 mo (wS TA V (wg V k) (i + 1)) := hp_3
              refine lv_iinc (v := nI (i + 1)) (lv' := [(4, .int (nI (i + 1))), (3, .int (nI mo)), (0, .ref (q 0)), (2, .ref (q 17))]) hx hb dX0_scoreWays_63 hl (k := 0) rfl (ni_inc _ 1) (by decide) rfl (fun ls hl => ?_)
              refine lv_goto (tgt := 43) hx hb dX0_scoreWays_66 (by decide) ?_
              exact ih_43 (i + 1) u_1 (by omega) (by omega) hy2 _ _ hP hD hS ls (lv_sub hl [0, 1, 2, 3] rfl)
        exact lp_43 _ 0 Sx (Nat.lt_succ_self _) (by omega) (isB_0 h00 (fun a h1 h2 => hs a h1 (by omega))) _ _ hP hD hS ls (lv_sub hl [0, 1, 2, 3] rfl)
      · refine lv_aload_n hx hb dX0_scoreWays_24 rfl (lv_at hl 2 rfl) ?_
        refine gfX hx hb hts hin hown hK hP 16 (by decide) (List.mem_of_getElem? (i := 5) rfl) rfl rfl dX0_scoreWays_25 ?_
        refine lv_iload hx hb dX0_scoreWays_28 (lv_at hl 0 rfl) ?_
        refine lv_ldc2 (v := (-4611686018427387904)) hx hb hown (hts _ (List.mem_of_getElem? (i := 6) rfl)) dX0_scoreWays_30 (n_topl (show ((-4611686018427387904) : Int64) = lZ (-4611686018427387904) from by decide) ?_)
        refine n_sast (ws' := (wX q cI cZ cJ k V C T B P A n PR ST li w WK so sp CT (uz Sx am (-4611686018427387904)) TA)) hx hb hK hP hD hS 11 2 rfl rfl (by omega) (by decide) rfl dX0_scoreWays_33 (fun H locs hP hD hS => ?_)
        refine lv_iinc (v := nI (am + 1)) (lv' := [(4, .int (nI (am + 1))), (3, .int (nI mo)), (0, .ref (q 0)), (2, .ref (q 17))]) hx hb dX0_scoreWays_34 hl (k := 0) rfl (ni_inc _ 1) (by decide) rfl (fun ls hl => ?_)
        refine lv_goto (tgt := 18) hx hb dX0_scoreWays_37 (by decide) ?_
        exact ih_18 (am + 1) (uz Sx am (-4611686018427387904)) (by omega) (⟨by omega, by omega⟩) (by rw [uz_n (by omega)]; exact h00) (fun a h1 h2 => by rcases Nat.lt_or_ge a am with h | h; (rw [uz_n (by omega)]; exact hs a h1 h); (rw [show a = am by omega]; exact uz_s)) _ _ hP hD hS ls (lv_sub hl [0, 1, 2, 3] rfl)
  exact lp_18 _ 1 (uz SC 0 0) (Nat.lt_succ_self _) (⟨by omega, by omega⟩) uz_s (fun a h1 h2 => absurd h1 (by omega)) _ _ hP hD hS ls (lv_sub hl [0, 1, 2, 4] rfl)

set_option maxHeartbeats 4000000 in
set_option maxRecDepth 100000 in
theorem c_X0_scoreOf (l : Launch) (hst : l.stackTraces = false) (D : va_G) (q : Nat → Nat) (cI cZ cJ : ClassId) (k : Nat) (V : Nat → Nat) (C : Nat → Nat) (T : Nat → Nat) (B : Nat → Nat) (P : Nat → Nat) (A : Nat → Nat) (n : Nat) (PR : Nat → Nat) (ST : Nat → Nat) (li : Nat) (w : Nat) (WK : Nat → Nat) (so : Nat) (sp : Nat) (CT : Nat → Int64) (SC : Nat → Int) (TA : Nat → Nat) (sz : Nat) (am : Nat) (ham : am ≤ 2000) : Met l yX0_scoreOf wsX0_scoreOf ({ frames := 0, cells := 0, slots := 0, locals := 0 }) (va_Pc [.ref (q 0), .int (nI am)] (cxP D (ty3 cI cZ cJ) (wX q cI cZ cJ k V C T B P A n PR ST li w WK so sp CT SC TA) sz)) (va_Ql (fun r (_ : Unit) => r = lZ (SC am)) (bW D (va_A (wX q cI cZ cJ k V C T B P A n PR ST li w WK so sp CT SC TA) sz) (fun (_ : Unit) => (wX q cI cZ cJ k V C T B P A n PR ST li w WK so sp CT SC TA))) (va_A (wX q cI cZ cJ k V C T B P A n PR ST li w WK so sp CT SC TA) sz)) 0 0 (va_A (wX q cI cZ cJ k V C T B P A n PR ST li w WK so sp CT SC TA) sz) := by
  refine Met.ofW (cc := cX0_scoreOf) (maxL := 2) (ret := (some .long)) (by decide) rfl ?_
  intro p e s m args below meth c s₁ BB hml hv
  obtain ⟨hav, hsz, hP, hK, hD0, hZ, hg⟩ := hv
  subst hsz
  subst hav
  have hx := BB.exec
  have hb := BB.bytes
  have hr := BB.returns
  have hts := atoms_spec (ws := wsX0_scoreOf) BB.pre
  have hown : s.vm.findClass RX0 = some m.cls := findClass_of_methodNamed BB.named
  have hlocks := BB.notSynchronized
  have hin : ∀ w ∈ wsX00, w ∈ wsX0_scoreOf := fun w h => (List.mem_cons_of_mem _ (List.mem_append_right _ h))
  have hD := hD0.self (sz := s.heap.size)
  have hA : ∀ q9 : Nat, s.heap.size ≤ q9 → va_A (wX q cI cZ cJ k V C T B P A n PR ST li w WK so sp CT SC TA) s.heap.size q9 := fun _ h => Or.inr h
  have hl := lv_entry ([.ref (q 0), .int (nI am)]) (n := 2) (Nat.le_of_ble_eq_true rfl)
  rw [lg_entry_eq]
  generalize (lg_sl ([.ref (q 0), .int (nI am)]) ++ List.replicate (2 - (lg_sl ([.ref (q 0), .int (nI am)])).length) Slot.unset).toArray = ls at hl ⊢
  have hl : lv_has ls 2 [(0, .ref (q 0)), (1, .int (nI am))] := hl
  refine W_absR (fun R hR => ?_)
  have hR : R = ({ frames := 0, cells := 0, slots := 0, locals := 0 } : Room) := hR
  refine W_absQ (fun Q hQ => ?_)
  generalize ([.ref (q 0), .int (nI am)] : List Value).toArray = args at hts hQ ⊢
  generalize va_A (wX q cI cZ cJ k V C T B P A n PR ST li w WK so sp CT SC TA) s.heap.size = A9 at hD hZ hA hQ
  refine W_start hP (A := A9) (fun H locs hP hS => ?_)
  refine lv_iload_n hx hb dX0_scoreOf_0 rfl (lv_at hl 1 rfl) ?_
  refine n_if_lt (tgt := 11) hx hb (by omega) dX0_scoreOf_1 (by decide) ?_
  refine lv_iload_n hx hb dX0_scoreOf_4 rfl (lv_at hl 1 rfl) ?_
  refine lv_sipush (v := nI 2000) hx hb dX0_scoreOf_5 (by decide) ?_
  refine n_icmp_le (tgt := 17) hx hb (by omega) (by omega) dX0_scoreOf_8 (by decide) (fun c8 => ?_) (fun c8 => ?_)
  · refine lv_aload_n hx hb dX0_scoreOf_17 rfl (lv_at hl 0 rfl) ?_
    refine gfX hx hb hts hin hown hK hP 16 (by decide) (List.mem_of_getElem? (i := 2) rfl) rfl rfl dX0_scoreOf_18 ?_
    refine lv_iload_n hx hb dX0_scoreOf_21 rfl (lv_at hl 1 rfl) ?_
    refine n_sald hx hb hK hP 11 2 rfl rfl (by omega) (by decide) dX0_scoreOf_22 ?_
    subst hQ
    exact e_l () hx hb hr hlocks hS hP hD rfl (Nat.le_of_ble_eq_true rfl) (Nat.le_of_ble_eq_true rfl) dX0_scoreOf_23
  · exact absurd c8 (by omega)
theorem hd_X0_scoreOf : yX0_scoreOf.cls = RX0 ∧ yX0_scoreOf.cls ≠ "java/lang/invoke/MethodHandle" ∧ yX0_scoreOf.cls ≠ "java/lang/invoke/VarHandle" ∧ (parseMethodDescriptor yX0_scoreOf.desc).map (fun d => d.parameters.length) = some 1 := by decide +kernel

set_option maxHeartbeats 4000000 in
set_option maxRecDepth 100000 in
theorem c_X0_coinsInWay (l : Launch) (hst : l.stackTraces = false) (D : va_G) (q : Nat → Nat) (cI cZ cJ : ClassId) (k : Nat) (V : Nat → Nat) (C : Nat → Nat) (T : Nat → Nat) (B : Nat → Nat) (P : Nat → Nat) (A : Nat → Nat) (n : Nat) (PR : Nat → Nat) (ST : Nat → Nat) (li : Nat) (w : Nat) (WK : Nat → Nat) (so : Nat) (sp : Nat) (CT : Nat → Int64) (SC : Nat → Int) (TA : Nat → Nat) (sz : Nat) (wy : Int) (hwy : -288230376151711744 ≤ wy ∧ wy ≤ 0) : Met l yX0_coinsInWay wsX0_coinsInWay ({ frames := 0, cells := 0, slots := 0, locals := 0 }) (va_Pc [.long (lZ wy)] (cxP D (ty3 cI cZ cJ) (wX q cI cZ cJ k V C T B P A n PR ST li w WK so sp CT SC TA) sz)) (va_Qi (fun r (_ : Unit) => r = nI (cnz wy)) (bW D (va_A (wX q cI cZ cJ k V C T B P A n PR ST li w WK so sp CT SC TA) sz) (fun (_ : Unit) => (wX q cI cZ cJ k V C T B P A n PR ST li w WK so sp CT SC TA))) (va_A (wX q cI cZ cJ k V C T B P A n PR ST li w WK so sp CT SC TA) sz)) 0 0 (va_A (wX q cI cZ cJ k V C T B P A n PR ST li w WK so sp CT SC TA) sz) := by
  refine Met.ofW (cc := cX0_coinsInWay) (maxL := 2) (ret := (some .int)) (by decide) rfl ?_
  intro p e s m args below meth c s₁ BB hml hv
  obtain ⟨hav, hsz, hP, hK, hD0, hZ, hg⟩ := hv
  subst hsz
  subst hav
  have hx := BB.exec
  have hb := BB.bytes
  have hr := BB.returns
  have hts := atoms_spec (ws := wsX0_coinsInWay) BB.pre
  have hown : s.vm.findClass RX0 = some m.cls := findClass_of_methodNamed BB.named
  have hlocks := BB.notSynchronized
  have hD := hD0.self (sz := s.heap.size)
  have hA : ∀ q9 : Nat, s.heap.size ≤ q9 → va_A (wX q cI cZ cJ k V C T B P A n PR ST li w WK so sp CT SC TA) s.heap.size q9 := fun _ h => Or.inr h
  have hl := lv_entry ([.long (lZ wy)]) (n := 2) (Nat.le_of_ble_eq_true rfl)
  rw [lg_entry_eq]
  generalize (lg_sl ([.long (lZ wy)]) ++ List.replicate (2 - (lg_sl ([.long (lZ wy)])).length) Slot.unset).toArray = ls at hl ⊢
  have hl : lv_has ls 2 [(0, .long (lZ wy))] := hl
  refine W_absR (fun R hR => ?_)
  have hR : R = ({ frames := 0, cells := 0, slots := 0, locals := 0 } : Room) := hR
  refine W_absQ (fun Q hQ => ?_)
  generalize ([.long (lZ wy)] : List Value).toArray = args at hts hQ ⊢
  generalize va_A (wX q cI cZ cJ k V C T B P A n PR ST li w WK so sp CT SC TA) s.heap.size = A9 at hD hZ hA hQ
  refine W_start hP (A := A9) (fun H locs hP hS => ?_)
  refine lv_lload_n hx hb dX0_coinsInWay_0 rfl (lv_at hl 0 rfl) ?_
  refine lv_bipush (v := nI 48) hx hb dX0_coinsInWay_1 (by decide) ?_
  refine lv_lshr hx hb dX0_coinsInWay_3 (lZ_shr (by omega) (by omega) _ 48 (by decide)) ?_
  refine lv_lneg hx hb dX0_coinsInWay_4 (n_topl (lZ_neg _) ?_)
  refine lv_l2i hx hb dX0_coinsInWay_5 (lZ_i (by omega) (by omega)) ?_
  subst hQ
  exact e_i () hx hb hr hlocks hS hP hD rfl (Nat.le_of_ble_eq_true rfl) (Nat.le_of_ble_eq_true rfl) dX0_coinsInWay_6
theorem hd_X0_coinsInWay : yX0_coinsInWay.cls = RX0 ∧ yX0_coinsInWay.cls ≠ "java/lang/invoke/MethodHandle" ∧ yX0_coinsInWay.cls ≠ "java/lang/invoke/VarHandle" ∧ (parseMethodDescriptor yX0_coinsInWay.desc).map (fun d => d.parameters.length) = some 1 := by decide +kernel

set_option maxHeartbeats 4000000 in
set_option maxRecDepth 100000 in
theorem c_X0_coinsOfKindInWay (l : Launch) (hst : l.stackTraces = false) (D : va_G) (q : Nat → Nat) (cI cZ cJ : ClassId) (k : Nat) (V : Nat → Nat) (C : Nat → Nat) (T : Nat → Nat) (B : Nat → Nat) (P : Nat → Nat) (A : Nat → Nat) (n : Nat) (PR : Nat → Nat) (ST : Nat → Nat) (li : Nat) (w : Nat) (WK : Nat → Nat) (so : Nat) (sp : Nat) (CT : Nat → Int64) (SC : Nat → Int) (TA : Nat → Nat) (sz : Nat) (wy : Int) (kd : Nat) (hwy : -288230376151711744 ≤ wy ∧ wy ≤ 0) (hk8 : k ≤ 8) (hV : ∀ i, i < k → 1 ≤ V i ∧ V i ≤ 500) (hkd : kd < k) : Met l yX0_coinsOfKindInWay wsX0_coinsOfKindInWay ({ frames := 1, cells := 0, slots := 0, locals := 23 }) (va_Pc [.ref (q 0), .long (lZ wy), .int (nI kd)] (cxP D (ty3 cI cZ cJ) (wX q cI cZ cJ k V C T B P A n PR ST li w WK so sp CT SC TA) sz)) (va_Qi (fun r (_ : Unit) => r = nI (pz wy (lc V (V kd) k))) (bW D (va_A (wX q cI cZ cJ k V C T B P A n PR ST li w WK so sp CT SC TA) sz) (fun (_ : Unit) => (wX q cI cZ cJ k V C T B P A n PR ST li w WK so sp CT SC TA))) (va_A (wX q cI cZ cJ k V C T B P A n PR ST li w WK so sp CT SC TA) sz)) 0 0 (va_A (wX q cI cZ cJ k V C T B P A n PR ST li w WK so sp CT SC TA) sz) := by
  refine Met.ofW (cc := cX0_coinsOfKindInWay) (maxL := 4) (ret := (some .int)) (by decide) rfl ?_
  intro p e s m args below meth c s₁ BB hml hv
  obtain ⟨hav, hsz, hP, hK, hD0, hZ, hg⟩ := hv
  subst hsz
  subst hav
  have hx := BB.exec
  have hb := BB.bytes
  have hr := BB.returns
  have hts := atoms_spec (ws := wsX0_coinsOfKindInWay) BB.pre
  have hown : s.vm.findClass RX0 = some m.cls := findClass_of_methodNamed BB.named
  have hlocks := BB.notSynchronized
  have hin : ∀ w ∈ wsX00, w ∈ wsX0_coinsOfKindInWay := fun w h => (List.mem_cons_of_mem _ (List.mem_append_right _ h))
  have hD := hD0.self (sz := s.heap.size)
  have hA : ∀ q9 : Nat, s.heap.size ≤ q9 → va_A (wX q cI cZ cJ k V C T B P A n PR ST li w WK so sp CT SC TA) s.heap.size q9 := fun _ h => Or.inr h
  have hl := lv_entry ([.ref (q 0), .long (lZ wy), .int (nI kd)]) (n := 4) (Nat.le_of_ble_eq_true rfl)
  rw [lg_entry_eq]
  generalize (lg_sl ([.ref (q 0), .long (lZ wy), .int (nI kd)]) ++ List.replicate (4 - (lg_sl ([.ref (q 0), .long (lZ wy), .int (nI kd)])).length) Slot.unset).toArray = ls at hl ⊢
  have hl : lv_has ls 4 [(0, .ref (q 0)), (1, .long (lZ wy)), (3, .int (nI kd))] := hl
  refine W_absR (fun R hR => ?_)
  have hR : R = ({ frames := 1, cells := 0, slots := 0, locals := 23 } : Room) := hR
  refine W_absQ (fun Q hQ => ?_)
  generalize ([.ref (q 0), .long (lZ wy), .int (nI kd)] : List Value).toArray = args at hts hQ ⊢
  generalize va_A (wX q cI cZ cJ k V C T B P A n PR ST li w WK so sp CT SC TA) s.heap.size = A9 at hD hZ hA hQ
  refine W_start hP (A := A9) (fun H locs hP hS => ?_)
  refine lv_lload_n hx hb dX0_coinsOfKindInWay_0 rfl (lv_at hl 1 rfl) ?_
  refine lv_aload_n hx hb dX0_coinsOfKindInWay_1 rfl (lv_at hl 0 rfl) ?_
  refine lv_iload_n hx hb dX0_coinsOfKindInWay_2 rfl (lv_at hl 2 rfl) ?_
  refine k_i (va_runV (As := [.int (nI kd)]) (rest := [.long (lZ wy)]) ⟨hx, hb, hml, hown, hts⟩ (c_X0_digitOf l hst D q cI cZ cJ k V C T B P A n PR ST li w WK so sp CT SC TA H.size kd hk8 hV hkd) (cwV 1 hts gX0_coinsOfKindInWay_X0_digitOf rfl rfl rfl hd_X0_digitOf ⟨(by rw [hR]; exact Nat.le_of_ble_eq_true rfl), (by rw [hR]; exact Nat.le_of_ble_eq_true rfl)⟩) (pre_V hP hK hD hS hA hZ hg 0 (ci := 0) rfl rfl) rfl rfl hl.1 rfl (lv_room (Nat.le_of_ble_eq_true rfl)) dX0_coinsOfKindInWay_3 ⟨(by rw [hR]; exact Nat.le_of_ble_eq_true rfl), (by rw [hR]; exact Nat.le_of_ble_eq_true rfl)⟩) hD hS hA (fun r_2 u_1 H locs hp_3 hP hD hS => ?_)
  subst hp_3
  refine lv_lshr hx hb dX0_coinsOfKindInWay_6 (lZ_shr (by omega) (by omega) _ _ (shr_cnt _ (by have := lc_lt (V := V) hkd; omega))) ?_
  refine lv_ldc2 (v := (63)) hx hb hown (hts _ (List.mem_of_getElem? (i := 1) rfl)) dX0_coinsOfKindInWay_7 (n_topl (show ((63) : Int64) = lZ 63 from by decide) ?_)
  refine lv_land hx hb dX0_coinsOfKindInWay_10 (n_topl (lZ_and63 _) ?_)
  refine lv_l2i hx hb dX0_coinsOfKindInWay_11 (lZ_i (by omega) (by omega)) ?_
  subst hQ
  exact e_i () hx hb hr hlocks hS hP hD rfl (Nat.le_of_ble_eq_true rfl) (Nat.le_of_ble_eq_true rfl) dX0_coinsOfKindInWay_12
theorem hd_X0_coinsOfKindInWay : yX0_coinsOfKindInWay.cls = RX0 ∧ yX0_coinsOfKindInWay.cls ≠ "java/lang/invoke/MethodHandle" ∧ yX0_coinsOfKindInWay.cls ≠ "java/lang/invoke/VarHandle" ∧ (parseMethodDescriptor yX0_coinsOfKindInWay.desc).map (fun d => d.parameters.length) = some 2 := by decide +kernel

set_option maxHeartbeats 4000000 in
set_option maxRecDepth 100000 in
theorem c_X0_payOut (l : Launch) (hst : l.stackTraces = false) (D : va_G) (q : Nat → Nat) (cI cZ cJ : ClassId) (k : Nat) (V : Nat → Nat) (C : Nat → Nat) (T : Nat → Nat) (B : Nat → Nat) (P : Nat → Nat) (A : Nat → Nat) (n : Nat) (PR : Nat → Nat) (ST : Nat → Nat) (li : Nat) (w : Nat) (WK : Nat → Nat) (so : Nat) (sp : Nat) (CT : Nat → Int64) (SC : Nat → Int) (TA : Nat → Nat) (sz : Nat) (wy : Int) (hwy : -288230376151711744 ≤ wy ∧ wy ≤ 0) (hk8 : k ≤ 8) (hV : ∀ i, i < k → 1 ≤ V i ∧ V i ≤ 500) (hpz : ∀ i, i < k → pz wy (lc V (V i) k) ≤ T i) : Met l yX0_payOut wsX0_payOut ({ frames := 2, cells := 0, slots := 0, locals := 46 }) (va_Pc [.ref (q 0), .long (lZ wy)] (cxP D (ty3 cI cZ cJ) (wX q cI cZ cJ k V C T B P A n PR ST li w WK so sp CT SC TA) sz)) (va_Qv (fun (_ : Unit) => True) (bW D (va_A (wX q cI cZ cJ k V C T B P A n PR ST li w WK so sp CT SC TA) sz) (fun (_ : Unit) => (wX q cI cZ cJ k V C (pT T V k wy k) B (pP P V k wy k) A n PR ST li w WK so sp CT SC TA))) (va_A (wX q cI cZ cJ k V C T B P A n PR ST li w WK so sp CT SC TA) sz)) 0 0 (va_A (wX q cI cZ cJ k V C T B P A n PR ST li w WK so sp CT SC TA) sz) := by
  refine Met.ofW (cc := cX0_payOut) (maxL := 4) (ret := none) (by decide) rfl ?_
  intro p e s m args below meth c s₁ BB hml hv
  obtain ⟨hav, hsz, hP, hK, hD0, hZ, hg⟩ := hv
  subst hsz
  subst hav
  have hx := BB.exec
  have hb := BB.bytes
  have hr := BB.returns
  have hts := atoms_spec (ws := wsX0_payOut) BB.pre
  have hown : s.vm.findClass RX0 = some m.cls := findClass_of_methodNamed BB.named
  have hlocks := BB.notSynchronized
  have hin : ∀ w ∈ wsX00, w ∈ wsX0_payOut := fun w h => (List.mem_cons_of_mem _ (List.mem_append_right _ h))
  have hD := hD0.self (sz := s.heap.size)
  have hA : ∀ q9 : Nat, s.heap.size ≤ q9 → va_A (wX q cI cZ cJ k V C T B P A n PR ST li w WK so sp CT SC TA) s.heap.size q9 := fun _ h => Or.inr h
  have hl := lv_entry ([.ref (q 0), .long (lZ wy)]) (n := 4) (Nat.le_of_ble_eq_true rfl)
  rw [lg_entry_eq]
  generalize (lg_sl ([.ref (q 0), .long (lZ wy)]) ++ List.replicate (4 - (lg_sl ([.ref (q 0), .long (lZ wy)])).length) Slot.unset).toArray = ls at hl ⊢
  have hl : lv_has ls 4 [(0, .ref (q 0)), (1, .long (lZ wy))] := hl
  refine W_absR (fun R hR => ?_)
  have hR : R = ({ frames := 2, cells := 0, slots := 0, locals := 46 } : Room) := hR
  refine W_absQ (fun Q hQ => ?_)
  generalize ([.ref (q 0), .long (lZ wy)] : List Value).toArray = args at hts hQ ⊢
  generalize va_A (wX q cI cZ cJ k V C T B P A n PR ST li w WK so sp CT SC TA) s.heap.size = A9 at hD hZ hA hQ
  refine W_start hP (A := A9) (fun H locs hP hS => ?_)
  refine lv_iconst (v := nI 0) hx hb dX0_payOut_0 (ic_0) ?_
  refine lv_istore_n (lv' := [(3, .int (nI 0)), (0, .ref (q 0)), (1, .long (lZ wy))]) hx hb dX0_payOut_1 rfl hl (by decide) rfl (fun ls hl => ?_)
  have lp_2 : ∀ (fu_2 : Nat) (i : Nat), k - i < fu_2 → (i ≤ k) → ∀ (H : Heap) (locs : List Loc), va_P D vwCl (wX q cI cZ cJ k V C (pT T V k wy i) B (pP P V k wy i) A n PR ST li w WK so sp CT SC TA) H → va_D A9 (wX q cI cZ cJ k V C (pT T V k wy i) B (pP P V k wy i) A n PR ST li w WK so sp CT SC TA) → va_S A9 s.heap H locs → ∀ ls : Array Slot, lv_has ls 4 [(3, .int (nI i)), (0, .ref (q 0)), (1, .long (lZ wy))] → W p l e R s m args below meth c H locs 0 0 Q (F0 m 2 ls []) := by
    intro fu_2
    induction fu_2 with
    | zero =>
      intro i hfu_2
      exact absurd hfu_2 (Nat.not_lt_zero _)
    | succ fu_2 ih_2 =>
      intro i hfu_2 hi H locs hP hD hS ls hl
      refine lv_iload_n hx hb dX0_payOut_2 rfl (lv_at hl 0 rfl) ?_
      refine lv_aload_n hx hb dX0_payOut_3 rfl (lv_at hl 1 rfl) ?_
      refine gfX hx hb hts hin hown hK hP 0 (by decide) (List.mem_of_getElem? (i := 1) rfl) rfl rfl dX0_payOut_4 ?_
      refine n_icmp_ge (tgt := 43) hx hb (by omega) (by omega) dX0_payOut_7 (by decide) (fun c7 => ?_) (fun c7 => ?_)
      · have hik : k = i := by omega
        subst hik
        subst hQ
        exact e_v () hx hb hr hlocks hS hP hD trivial (Nat.le_of_ble_eq_true rfl) (Nat.le_of_ble_eq_true rfl) dX0_payOut_43
      · refine lv_aload_n hx hb dX0_payOut_10 rfl (lv_at hl 1 rfl) ?_
        refine gfX hx hb hts hin hown hK hP 5 (by decide) (List.mem_of_getElem? (i := 2) rfl) rfl rfl dX0_payOut_11 ?_
        refine lv_iload_n hx hb dX0_payOut_14 rfl (lv_at hl 0 rfl) ?_
        refine lv_aload_n hx hb dX0_payOut_15 rfl (lv_at hl 1 rfl) ?_
        refine lv_lload_n hx hb dX0_payOut_16 rfl (lv_at hl 2 rfl) ?_
        refine lv_iload_n hx hb dX0_payOut_17 rfl (lv_at hl 0 rfl) ?_
        refine k_i (va_runV (As := [.long (lZ wy), .int (nI i)]) (rest := [.int (nI i), .ref (q 5)]) ⟨hx, hb, hml, hown, hts⟩ (c_X0_coinsOfKindInWay l hst D q cI cZ cJ k V C (pT T V k wy i) B (pP P V k wy i) A n PR ST li w WK so sp CT SC TA H.size wy i hwy hk8 hV (by omega)) (cwV 2 hts gX0_payOut_X0_coinsOfKindInWay rfl rfl rfl hd_X0_coinsOfKindInWay ⟨(by rw [hR]; exact Nat.le_of_ble_eq_true rfl), (by rw [hR]; exact Nat.le_of_ble_eq_true rfl)⟩) (pre_V hP hK hD hS hA hZ hg 0 (ci := 0) rfl rfl) rfl rfl hl.1 rfl (lv_room (Nat.le_of_ble_eq_true rfl)) dX0_payOut_18 ⟨(by rw [hR]; exact Nat.le_of_ble_eq_true rfl), (by rw [hR]; exact Nat.le_of_ble_eq_true rfl)⟩) hD hS hA (fun r_2 u_1 H locs hp_3 hP hD hS => ?_)
        subst hp_3
        refine n_iast (ws' := (wX q cI cZ cJ k V C (pT T V k wy i) B (un (pP P V k wy i) i (pz wy (lc V (V i) k))) A n PR ST li w WK so sp CT SC TA)) hx hb hK hP hD hS 5 0 rfl rfl (by omega) (by decide) rfl dX0_payOut_21 (fun H locs hP hD hS => ?_)
        rw [show un (pP P V k wy i) i (pz wy (lc V (V i) k)) = pP P V k wy (i + 1) from pP_s P V k wy i] at hP hD
        refine lv_aload_n hx hb dX0_payOut_22 rfl (lv_at hl 1 rfl) ?_
        refine gfX hx hb hts hin hown hK hP 3 (by decide) (List.mem_of_getElem? (i := 3) rfl) rfl rfl dX0_payOut_23 ?_
        refine lv_iload_n hx hb dX0_payOut_26 rfl (lv_at hl 0 rfl) ?_
        refine lv_dup2_11 hx hb dX0_payOut_27 rfl rfl ?_
        refine n_iald hx hb hK hP 3 0 rfl rfl (by omega) (by decide) dX0_payOut_28 ?_
        refine n_top (congrArg nI (show (pT T V k wy i) i = T i from pT_at T V k wy i)) ?_
        refine lv_aload_n hx hb dX0_payOut_29 rfl (lv_at hl 1 rfl) ?_
        refine gfX hx hb hts hin hown hK hP 5 (by decide) (List.mem_of_getElem? (i := 2) rfl) rfl rfl dX0_payOut_30 ?_
        refine lv_iload_n hx hb dX0_payOut_33 rfl (lv_at hl 0 rfl) ?_
        refine n_iald hx hb hK hP 5 0 rfl rfl (by omega) (by decide) dX0_payOut_34 ?_
        refine n_top (congrArg nI (show (pP P V k wy (i + 1)) i = pz wy (lc V (V i) k) from pP_in P V k wy i)) ?_
        refine n_isub hx hb (hpz i (by omega)) dX0_payOut_35 ?_
        refine n_iast (ws' := (wX q cI cZ cJ k V C (un (pT T V k wy i) i ((T i) - (pz wy (lc V (V i) k)))) B (pP P V k wy (i + 1)) A n PR ST li w WK so sp CT SC TA)) hx hb hK hP hD hS 3 0 rfl rfl (by omega) (by decide) rfl dX0_payOut_36 (fun H locs hP hD hS => ?_)
        rw [show un (pT T V k wy i) i ((T i) - (pz wy (lc V (V i) k))) = pT T V k wy (i + 1) from pT_s T V k wy i] at hP hD
        refine lv_iinc (v := nI (i + 1)) (lv' := [(3, .int (nI (i + 1))), (0, .ref (q 0)), (1, .long (lZ wy))]) hx hb dX0_payOut_37 hl (k := 0) rfl (ni_inc _ 1) (by decide) rfl (fun ls hl => ?_)
        refine lv_goto (tgt := 2) hx hb dX0_payOut_40 (by decide) ?_
        exact ih_2 (i + 1) (by omega) (by omega) _ _ hP hD hS ls (lv_sub hl [0, 1, 2] rfl)
  rw [pP_0 P V k wy, pT_0 T V k wy] at hP hD
  exact lp_2 _ 0 (Nat.lt_succ_self _) (by omega) _ _ hP hD hS ls (lv_sub hl [0, 1, 2] rfl)
theorem hd_X0_payOut : yX0_payOut.cls = RX0 ∧ yX0_payOut.cls ≠ "java/lang/invoke/MethodHandle" ∧ yX0_payOut.cls ≠ "java/lang/invoke/VarHandle" ∧ (parseMethodDescriptor yX0_payOut.desc).map (fun d => d.parameters.length) = some 1 := by decide +kernel
end
section
theorem fb_holes : ∀ (m n : Nat) (f : Nat → Nat), (∀ i, i < n → f i < m) → (∀ i j, i < j → j < n → f i ≠ f j) → n ≤ m := by
  intro m
  induction m with
  | zero =>
    intro n f h1 _
    rcases Nat.eq_zero_or_pos n with h | h
    · omega
    · exact absurd (h1 0 h) (Nat.not_lt_zero _)
  | succ m ih =>
    intro n f h1 h2
    by_cases hx : ∃ i, i < n ∧ f i = m
    · obtain ⟨a, ha, hfa⟩ := hx
      have hg := ih (n - 1) (fun i => if i < a then f i else f (i + 1)) (by
        intro i hi
        by_cases q : i < a
        · simp only [if_pos q]
          have b1 := h1 i (by omega)
          have b2 := h2 i a q ha
          omega
        · simp only [if_neg q]
          have b1 := h1 (i + 1) (by omega)
          have b2 := h2 a (i + 1) (by omega) (by omega)
          omega) (by
        intro i j hij hj
        by_cases q : i < a
        · by_cases r : j < a
          · simp only [if_pos q, if_pos r]
            exact h2 i j hij (by omega)
          · simp only [if_pos q, if_neg r]
            exact h2 i (j + 1) (by omega) (by omega)
        · have r : ¬ j < a := by omega
          simp only [if_neg q, if_neg r]
          exact h2 (i + 1) (j + 1) (by omega) (by omega))
      omega
    · have hg := ih n f (fun i hi => by
        have b1 := h1 i hi
        have b2 : f i ≠ m := fun e => hx ⟨i, hi, e⟩
        omega) h2
      omega
theorem fb_onto {n : Nat} {f : Nat → Nat} (h : ∀ i, i < n → f i < n) (h2 : ∀ i j, i < j → j < n → f i ≠ f j) {y : Nat} (hy : y < n) : ∃ i, i < n ∧ f i = y := by
  refine Classical.byContradiction fun hx => ?_
  have hne : ∀ i, i < n → f i ≠ y := fun i hi e => hx ⟨i, hi, e⟩
  have := fb_holes (n - 1) n (fun i => if f i < y then f i else f i - 1) (by
    intro i hi
    have b1 := h i hi
    have b2 := hne i hi
    by_cases q : f i < y
    · simp only [if_pos q]; omega
    · simp only [if_neg q]; omega) (by
    intro i j hij hj
    have b1 := hne i (by omega)
    have b2 := hne j hj
    have b3 := h2 i j hij hj
    by_cases q : f i < y
    · by_cases r : f j < y
      · simp only [if_pos q, if_pos r]; exact b3
      · simp only [if_pos q, if_neg r]; omega
    · by_cases r : f j < y
      · simp only [if_neg q, if_pos r]; omega
      · simp only [if_neg q, if_neg r]; omega)
  omega
/-! sums, put in another order -/
theorem sm_add (f g : Nat → Nat) : ∀ n, sm (fun i => f i + g i) n = sm f n + sm g n
  | 0 => rfl
  | n + 1 => by
    show sm (fun i => f i + g i) n + (f n + g n) = sm f n + f n + (sm g n + g n)
    rw [sm_add f g n]; omega
theorem sm_zero {f : Nat → Nat} : ∀ {n : Nat}, (∀ i, i < n → f i = 0) → sm f n = 0
  | 0, _ => rfl
  | n + 1, h => by
    show sm f n + f n = 0
    rw [sm_zero (fun i hi => h i (by omega)), h n (by omega)]
theorem sm_swap (F : Nat → Nat → Nat) (k : Nat) : ∀ m, sm (fun a => sm (fun b => F a b) k) m = sm (fun b => sm (fun a => F a b) m) k
  | 0 => by
    have h : sm (fun b => sm (fun a => F a b) 0) k = 0 := sm_zero (fun i _ => rfl)
    rw [h]; rfl
  | m + 1 => by
    show sm (fun a => sm (fun b => F a b) k) m + sm (fun b => F m b) k = sm (fun b => sm (fun a => F a b) m + F m b) k
    rw [sm_swap F k m, sm_add]
/-- one place alone counts -/
theorem sm_one {rk c : Nat → Nat} {r n0 : Nat} : ∀ {n : Nat}, (∀ i j, i < n → j < n → rk i = rk j → i = j) → n0 < n → rk n0 = r → sm (fun i => if rk i = r then c i else 0) n = c n0
  | 0, _, h, _ => absurd h (Nat.not_lt_zero _)
  | n + 1, hi, h, he => by
    show sm (fun i => if rk i = r then c i else 0) n + (if rk n = r then c n else 0) = c n0
    by_cases e : n0 = n
    · subst e
      rw [if_pos he, sm_zero (fun i hi2 => if_neg (fun q => by have := hi i n0 (by omega) (by omega) (q.trans he.symm); omega))]
      omega
    · rw [if_neg (fun q => by have := hi n n0 (by omega) (by omega) (q.trans he.symm); omega), sm_one (fun i j h1 h2 => hi i j (by omega) (by omega)) (by omega) he]
      omega
theorem sm_perm {o : Nat → Nat} {k : Nat} (h1 : ∀ n, n < k → o n < k) (h2 : ∀ a b, a < k → b < k → o a = o b → a = b) (f : Nat → Nat) : sm (fun n => f (o n)) k = sm f k := by
  have e1 : sm (fun n => f (o n)) k = sm (fun n => sm (fun i => if o n = i then f i else 0) k) k := by
    apply sm_cong
    intro n hn
    have := sm_one (rk := fun i => i) (c := f) (r := o n) (n0 := o n) (n := k) (fun i j _ _ h => h) (h1 n hn) rfl
    rw [← this]
    apply sm_cong
    intro i _
    by_cases e : i = o n
    · rw [if_pos e, if_pos e.symm]
    · rw [if_neg e, if_neg (fun q => e q.symm)]
  rw [e1, sm_swap]
  apply sm_cong
  intro i hi
  obtain ⟨n0, hn0, he⟩ := fb_onto (n := k) (f := o) h1 (fun a b hab hb q => by have := h2 a b (by omega) hb q; omega) hi
  have := sm_one (rk := o) (c := fun _ => f i) (r := i) (n0 := n0) (n := k) h2 hn0 he
  exact this
theorem sm_mono {f g : Nat → Nat} : ∀ {n : Nat}, (∀ i, i < n → f i ≤ g i) → sm f n ≤ sm g n
  | 0, _ => Nat.le_refl _
  | n + 1, h => by
    have a := sm_mono (n := n) (fun i hi => h i (by omega))
    have b := h n (by omega)
    show sm f n + f n ≤ sm g n + g n
    omega
/-! digits: eight places of sixty-four -/
def dgr (rk c : Nat → Nat) (r m : Nat) : Nat := sm (fun i => if rk i = r then c i else 0) m
theorem dgr_s (rk c : Nat → Nat) (r m : Nat) : dgr rk c r (m + 1) = dgr rk c r m + (if rk m = r then c m else 0) := rfl
theorem dg_sum {rk c : Nat → Nat} : ∀ {m : Nat}, (∀ i, i < m → rk i < 8) → sm (fun i => c i * 2 ^ (rk i * 6)) m = dgr rk c 0 m + dgr rk c 1 m * 64 + dgr rk c 2 m * 4096 + dgr rk c 3 m * 262144 + dgr rk c 4 m * 16777216 + dgr rk c 5 m * 1073741824 + dgr rk c 6 m * 68719476736 + dgr rk c 7 m * 4398046511104
  | 0, _ => by simp [dgr, sm]
  | m + 1, h => by
    have ih := dg_sum (rk := rk) (c := c) (m := m) (fun i hi => h i (by omega))
    show sm (fun i => c i * 2 ^ (rk i * 6)) m + c m * 2 ^ (rk m * 6) = _
    rw [ih]
    simp only [dgr_s]
    have h8 := h m (by omega)
    have h2 : rk m = 0 ∨ rk m = 1 ∨ rk m = 2 ∨ rk m = 3 ∨ rk m = 4 ∨ rk m = 5 ∨ rk m = 6 ∨ rk m = 7 := by omega
    rcases h2 with e | e | e | e | e | e | e | e <;> rw [e] <;> simp only [if_pos, if_neg, Nat.reduceMul, Nat.reducePow, reduceIte, Nat.reduceEqDiff, Nat.add_zero] <;> (try simp) <;> omega
theorem dgr_le {rk c : Nat → Nat} {m : Nat} (hi : ∀ i j, i < m → j < m → rk i = rk j → i = j) (hc : ∀ i, i < m → c i ≤ 63) (r : Nat) : dgr rk c r m ≤ 63 := by
  rcases Classical.em (∃ i, i < m ∧ rk i = r) with ⟨i, h1, h2⟩ | h
  · unfold dgr
    rw [sm_one hi h1 h2]; exact hc i h1
  · unfold dgr
    rw [sm_zero (fun i hi2 => if_neg (fun q => h ⟨i, hi2, q⟩))]; omega
theorem dg_at {rk c : Nat → Nat} {m i : Nat} (h8 : ∀ i, i < m → rk i < 8) (hi : ∀ i j, i < m → j < m → rk i = rk j → i = j) (hc : ∀ i, i < m → c i ≤ 63) (hm : i < m) : sm (fun i => c i * 2 ^ (rk i * 6)) m < 281474976710656 ∧ sm (fun i => c i * 2 ^ (rk i * 6)) m / 2 ^ (rk i * 6) % 64 = c i := by
  rw [dg_sum h8]
  have d0 := dgr_le hi hc 0
  have d1 := dgr_le hi hc 1
  have d2 := dgr_le hi hc 2
  have d3 := dgr_le hi hc 3
  have d4 := dgr_le hi hc 4
  have d5 := dgr_le hi hc 5
  have d6 := dgr_le hi hc 6
  have d7 := dgr_le hi hc 7
  have hk : dgr rk c (rk i) m = c i := sm_one hi hm rfl
  refine ⟨by omega, ?_⟩
  have h := h8 i hm
  have h2 : rk i = 0 ∨ rk i = 1 ∨ rk i = 2 ∨ rk i = 3 ∨ rk i = 4 ∨ rk i = 5 ∨ rk i = 6 ∨ rk i = 7 := by omega
  rcases h2 with e | e | e | e | e | e | e | e <;> rw [e] at hk ⊢ <;> simp only [Nat.reduceMul, Nat.reducePow] <;> omega
theorem dg_lt {rk c : Nat → Nat} {m : Nat} (h8 : ∀ i, i < m → rk i < 8) (hi : ∀ i j, i < m → j < m → rk i = rk j → i = j) (hc : ∀ i, i < m → c i ≤ 63) : sm (fun i => c i * 2 ^ (rk i * 6)) m < 281474976710656 := by
  rw [dg_sum h8]
  have d0 := dgr_le hi hc 0
  have d1 := dgr_le hi hc 1
  have d2 := dgr_le hi hc 2
  have d3 := dgr_le hi hc 3
  have d4 := dgr_le hi hc 4
  have d5 := dgr_le hi hc 5
  have d6 := dgr_le hi hc 6
  have d7 := dgr_le hi hc 7
  omega
/-! ranks -/
theorem lc_mono (V : Nat → Nat) {x y : Nat} (h : x ≤ y) : ∀ n, lc V x n ≤ lc V y n
  | 0 => Nat.le_refl _
  | n + 1 => by
    have ih := lc_mono V h n
    show lc V x n + (if V n < x then 1 else 0) ≤ lc V y n + (if V n < y then 1 else 0)
    by_cases q : V n < x
    · rw [if_pos q, if_pos (by omega)]; omega
    · rw [if_neg q]; omega
theorem lc_strict (V : Nat → Nat) {y i : Nat} (h : V i < y) : ∀ n, i < n → lc V (V i) n < lc V y n
  | 0, hn => absurd hn (Nat.not_lt_zero _)
  | n + 1, hn => by
    show lc V (V i) n + (if V n < V i then 1 else 0) < lc V y n + (if V n < y then 1 else 0)
    by_cases e : i = n
    · subst e
      have := lc_mono V (x := V i) (y := y) (by omega) i
      rw [if_neg (by omega), if_pos h]; omega
    · have ih := lc_strict V h n (by omega)
      by_cases q : V n < V i
      · rw [if_pos q, if_pos (by omega)]; omega
      · rw [if_neg q]; omega
theorem rk_inj {V : Nat → Nat} {k : Nat} (hd : ∀ i j, i < k → j < k → V i = V j → i = j) : ∀ i j, i < k → j < k → lc V (V i) k = lc V (V j) k → i = j := by
  intro i j hi hj h
  rcases Nat.lt_trichotomy (V i) (V j) with q | q | q
  · have := lc_strict V q k hi; omega
  · exact hd i j hi hj q
  · have := lc_strict V q k hj; omega
/-! a way as its numbers of coins -/
def smz (f : Nat → Int) : Nat → Int
  | 0 => 0
  | n + 1 => smz f n + f n
theorem wS_vec {t V : Nat → Nat} {g : Nat → Int} : ∀ {m a : Nat} {z : Int}, wS t V g m a z → ∃ c : Nat → Nat, (∀ i, i < m → c i ≤ t i) ∧ sm (fun i => c i * V i) m = a ∧ smz (fun i => (c i : Int) * g i) m = z
  | 0, a, z, h => ⟨fun _ => 0, fun i hi => absurd hi (Nat.not_lt_zero i), h.1.symm, h.2.symm⟩
  | m + 1, a, z, h => by
    obtain ⟨c, h1, h2, h3⟩ := h
    obtain ⟨d, e1, e2, e3⟩ := wS_vec h3
    refine ⟨un d m c, fun i hi => ?_, ?_, ?_⟩
    · by_cases q : i = m
      · subst q; rw [un_s]; exact h1
      · rw [un_n q]; exact e1 i (by omega)
    · show sm (fun i => un d m c i * V i) m + un d m c m * V m = a
      rw [un_s, sm_cong (g := fun i => d i * V i) (fun i hi => by rw [un_n (by omega)]), e2]
      omega
    · show smz (fun i => (un d m c i : Int) * g i) m + (un d m c m : Int) * g m = z
      have e4 : smz (fun i => (un d m c i : Int) * g i) m = smz (fun i => (d i : Int) * g i) m := by
        have key : ∀ n, n ≤ m → smz (fun i => (un d m c i : Int) * g i) n = smz (fun i => (d i : Int) * g i) n := by
          intro n
          induction n with
          | zero => intro _; rfl
          | succ n ih =>
            intro hn
            show smz (fun i => (un d m c i : Int) * g i) n + (un d m c n : Int) * g n = smz (fun i => (d i : Int) * g i) n + (d n : Int) * g n
            rw [ih (by omega), un_n (by omega)]
        exact key m (Nat.le_refl m)
      rw [un_s, e4, e3]
      omega
theorem vec_wS {t V : Nat → Nat} {g : Nat → Int} {c : Nat → Nat} : ∀ {m : Nat}, (∀ i, i < m → c i ≤ t i) → wS t V g m (sm (fun i => c i * V i) m) (smz (fun i => (c i : Int) * g i) m)
  | 0, _ => ⟨rfl, rfl⟩
  | m + 1, h => by
    refine ⟨c m, h m (by omega), ?_, ?_⟩
    · show c m * V m ≤ sm (fun i => c i * V i) m + c m * V m
      omega
    · have e1 : sm (fun i => c i * V i) (m + 1) - c m * V m = sm (fun i => c i * V i) m := by
        show sm (fun i => c i * V i) m + c m * V m - c m * V m = _
        omega
      have e2 : smz (fun i => (c i : Int) * g i) (m + 1) - (c m : Int) * g m = smz (fun i => (c i : Int) * g i) m := by
        show smz (fun i => (c i : Int) * g i) m + (c m : Int) * g m - (c m : Int) * g m = _
        omega
      rw [e1, e2]
      exact vec_wS (fun i hi => h i (by omega))
/-- the score out of the digits and the number of coins -/
theorem smz_wg {c V : Nat → Nat} {k : Nat} : ∀ m, smz (fun i => (c i : Int) * wg V k i) m = ((sm (fun i => c i * 2 ^ (lc V (V i) k * 6)) m : Nat) : Int) - 281474976710656 * ((sm c m : Nat) : Int)
  | 0 => rfl
  | m + 1 => by
    show smz (fun i => (c i : Int) * wg V k i) m + (c m : Int) * wg V k m = ((sm (fun i => c i * 2 ^ (lc V (V i) k * 6)) m + c m * 2 ^ (lc V (V m) k * 6) : Nat) : Int) - 281474976710656 * ((sm c m + c m : Nat) : Int)
    rw [smz_wg m]
    have e : (c m : Int) * wg V k m = ((c m * 2 ^ (lc V (V m) k * 6) : Nat) : Int) - 281474976710656 * (c m : Int) := by
      unfold wg
      rw [Int.mul_sub, Int.natCast_mul, Int.natCast_pow, Int.mul_comm (c m : Int) 281474976710656]
      rfl
    rw [e]
    omega
theorem z_dec {d c : Nat} {z : Int} (hz : z = (d : Int) - 281474976710656 * (c : Int)) (hd : d < 281474976710656) : cnz z = c := by
  unfold cnz
  rw [hz]
  omega
theorem z_dig {d c r : Nat} {z : Int} (hz : z = (d : Int) - 281474976710656 * (c : Int)) (hr : r < 8) : pz z r = d / 2 ^ (r * 6) % 64 := by
  unfold pz
  rw [hz]
  have h2 : r = 0 ∨ r = 1 ∨ r = 2 ∨ r = 3 ∨ r = 4 ∨ r = 5 ∨ r = 6 ∨ r = 7 := by omega
  rcases h2 with rfl | rfl | rfl | rfl | rfl | rfl | rfl | rfl <;> simp only [Nat.reduceMul, Nat.reducePow, Int.reducePow] <;> omega
/-- what a way's score tells -/
theorem way_dec {t V : Nat → Nat} {k a : Nat} {z : Int} (hk : k ≤ 8) (ht : ∀ i, i < k → t i ≤ 60) (hd : ∀ i j, i < k → j < k → V i = V j → i = j) (h : wS t V (wg V k) k a z) : ∃ c : Nat → Nat, (∀ i, i < k → c i ≤ t i) ∧ sm (fun i => c i * V i) k = a ∧ z = ((sm (fun i => c i * 2 ^ (lc V (V i) k * 6)) k : Nat) : Int) - 281474976710656 * ((sm c k : Nat) : Int) ∧ sm (fun i => c i * 2 ^ (lc V (V i) k * 6)) k < 281474976710656 ∧ cnz z = sm c k ∧ ∀ i, i < k → pz z (lc V (V i) k) = c i := by
  obtain ⟨c, h1, h2, h3⟩ := wS_vec h
  rw [smz_wg] at h3
  have h8 : ∀ i, i < k → lc V (V i) k < 8 := fun i hi => by have := lc_lt (V := V) hi; omega
  have hc : ∀ i, i < k → c i ≤ 63 := fun i hi => by have a := h1 i hi; have b := ht i hi; omega
  have hl := dg_lt (rk := fun i => lc V (V i) k) (c := c) h8 (rk_inj hd) hc
  refine ⟨c, h1, h2, h3.symm, hl, z_dec h3.symm hl, fun i hi => ?_⟩
  rw [z_dig h3.symm (h8 i hi)]
  exact (dg_at (rk := fun i => lc V (V i) k) (c := c) h8 (rk_inj hd) hc hi).2
theorem pz_le {t V : Nat → Nat} {k a : Nat} {z : Int} (hk : k ≤ 8) (ht : ∀ i, i < k → t i ≤ 60) (hd : ∀ i j, i < k → j < k → V i = V j → i = j) (h : wS t V (wg V k) k a z) : ∀ i, i < k → pz z (lc V (V i) k) ≤ t i := by
  obtain ⟨c, h1, -, -, -, -, h2⟩ := way_dec hk ht hd h
  intro i hi
  rw [h2 i hi]; exact h1 i hi
theorem wS_cong {t t' V : Nat → Nat} {g : Nat → Int} : ∀ {m : Nat}, (∀ i, i < m → t i = t' i) → wS t V g m = wS t' V g m
  | 0, _ => rfl
  | m + 1, h => by
    show xt (wS t V g m) (V m) (g m) (t m) = xt (wS t' V g m) (V m) (g m) (t' m)
    rw [wS_cong (fun i hi => h i (by omega)), h m (by omega)]
theorem wS_00 {t V : Nat → Nat} {g : Nat → Int} : ∀ m, wS t V g m 0 0
  | 0 => ⟨rfl, rfl⟩
  | m + 1 => ⟨0, Nat.zero_le _, by omega, by simpa using wS_00 m⟩
theorem nway_0 {t V : Nat → Nat} {k : Nat} : ¬ nway t V k 0 := fun h => h 0 (wS_00 k)
/-- what fewest, part, below, gaps answer -/
def fwR (T V : Nat → Nat) (k a r : Nat) : Prop := (nway T V k a ∧ r = 4294967295) ∨ ∃ z, bway T V k a z ∧ r = cnz z
def ptR (T V : Nat → Nat) (k a i r : Nat) : Prop := (nway T V k a ∧ r = 4294967295) ∨ ∃ z, bway T V k a z ∧ r = pz z (lc V (V i) k)
def blR (T V : Nat → Nat) (k a r : Nat) : Prop := r ≤ a ∧ ¬ nway T V k r ∧ ∀ b, r < b → b ≤ a → nway T V k b
noncomputable def gpR (T V : Nat → Nat) (k a : Nat) : Nat := if gu V k < 1 then 0 else gpc (fun b => b % gu V k = 0 ∧ nway T V k b) a
end
section
section KD
variable {p : Program} {l : Launch} {e : Env} {R : Room} {s : State} {m : MethodId} {args : Array Value} {below : List Frame} {meth : Method} {c : Code} {H : Heap} {locs : List Loc} {cells slots : Nat} {Q : State → Prop}
variable {cc : ByteArray} {mc ms pc : Nat} {rest st0 : List Value} {ls : Array Slot} {D : va_G} {wc : va_W} {A : Nat → Prop} {S : Type} {Wf : S → va_W}
end KD
/-- digest's words -/
def hD31 (d x : Int64) : Int64 := d * lZ 31 + x
def fo (f : Nat → Int64 → Int64) (d : Int64) : Nat → Int64
  | 0 => d
  | n + 1 => f n (fo f d n)
def dgI (V T B P : Nat → Nat) (i : Nat) (d : Int64) : Nat → Int64 := fo (fun wh d => hD31 d (nI (tld V T B P i wh)).toInt64) d
def dgK (V T B P A : Nat → Nat) (d : Int64) : Nat → Int64 := fo (fun i d => hD31 (dgI V T B P i d 4) (lZ ((A i : Nat) : Int))) d
def dgP (PR ST : Nat → Nat) (d : Int64) : Nat → Int64 := fo (fun j d => hD31 (hD31 d (nI (PR j)).toInt64) (nI (ST j)).toInt64) d
def dgW (WK : Nat → Nat) (d : Int64) : Nat → Int64 := fo (fun j d => hD31 d (nI (WK j)).toInt64) d
def dgC (CT : Nat → Int64) (d : Int64) : Nat → Int64 := fo (fun j d => hD31 d (CT j)) d
def dgs (k : Nat) (V T B P A : Nat → Nat) (n : Nat) (PR ST : Nat → Nat) (li w : Nat) (WK : Nat → Nat) (CT : Nat → Int64) : Int64 :=
  dgC CT (dgW WK (hD31 (dgP PR ST (hD31 (hD31 (dgK V T B P A (hD31 (lZ 181) (nI k).toInt64) k) (nI li).toInt64) (nI n).toInt64) n) (nI w).toInt64) w) 10
theorem gpc_y' {P : Nat → Prop} {a : Nat} (h1 : 1 ≤ a) (h : P a) : gpc P a = gpc P (a - 1) + 1 := by
  obtain ⟨b, rfl⟩ : ∃ b, a = b + 1 := ⟨a - 1, by omega⟩
  exact gpc_y h
theorem gpc_n' {P : Nat → Prop} {a : Nat} (h1 : 1 ≤ a) (h : ¬ P a) : gpc P a = gpc P (a - 1) := by
  obtain ⟨b, rfl⟩ : ∃ b, a = b + 1 := ⟨a - 1, by omega⟩
  exact gpc_n h
/-- what buy does: to r, and the state's parts -/
def buyP (k : Nat) (V C T B P PR ST : Nat → Nat) (w : Nat) (WK : Nat → Nat) (so sp : Nat) (CT : Nat → Int64) (j r : Nat) (T' B' P' : Nat → Nat) (w' : Nat) (ST' : Nat → Nat) (so' sp' : Nat) (CT' : Nat → Int64) : Prop :=
  ((T' = T ∧ B' = B ∧ P' = P ∧ w' = w ∧ ST' = ST ∧ so' = so ∧ sp' = sp ∧ CT' = CT) ∧ ((ST j = 0 ∧ r = 1) ∨ (ST j ≠ 0 ∧ cr V WK w < PR j ∧ r = 2) ∨ (ST j ≠ 0 ∧ PR j ≤ cr V WK w ∧ nway (dT C T WK w k) V k (cr V WK w - PR j) ∧ r = 3))) ∨
  (ST j ≠ 0 ∧ PR j ≤ cr V WK w ∧ r = 0 ∧ ∃ z, bway (dT C T WK w k) V k (cr V WK w - PR j) z ∧ T' = pT (dT C T WK w k) V k z k ∧ B' = dB C T B WK w k ∧ P' = pP P V k z k ∧ w' = 0 ∧ ST' = un ST j (ST j - 1) ∧ so' = j ∧ sp' = PR j ∧ CT' = cs CT (PR j) (cr V WK w - PR j))
/-- what refund does -/
def refP (k : Nat) (V T P ST : Nat → Nat) (so sp : Nat) (CT : Nat → Int64) (r : Nat) (T' P' ST' : Nat → Nat) (so' : Nat) (CT' : Nat → Int64) : Prop :=
  (nway T V k sp ∧ r = 0 ∧ T' = T ∧ P' = P ∧ ST' = ST ∧ so' = so ∧ CT' = CT) ∨
  (r = 1 ∧ ∃ z, bway T V k sp z ∧ T' = pT T V k z k ∧ P' = pP P V k z k ∧ ST' = un ST so (min (ST so + 1) 99) ∧ so' = 4294967295 ∧ CT' = vp_updL CT 3 (CT 3 + lZ ((sp : Nat) : Int)))
theorem dT_min {C T WK : Nat → Nat} {w k : Nat} {TA : Nat → Nat} (hC : ∀ i, i < k → C i ≤ 60 ∧ T i ≤ C i) (h : ∀ i, i < k → TA i = min (T i + wo WK i w) (C i)) : ∀ i, i < k → TA i = dT C T WK w k i := by
  intro i hi
  have h1 := hC i hi
  rw [h i hi]
  show _ = if i < k then T i + min (wo WK i w) (C i - T i) else T i
  rw [if_pos hi]
  omega
theorem dT_le {C T WK : Nat → Nat} {w k : Nat} (hC : ∀ i, i < k → C i ≤ 60 ∧ T i ≤ C i) : ∀ i, i < k → dT C T WK w k i ≤ C i := by
  intro i hi
  have h1 := hC i hi
  show (if i < k then T i + min (wo WK i w) (C i - T i) else T i) ≤ C i
  rw [if_pos hi]
  omega
theorem NW_bd {SC : Nat → Int} {a : Nat} (h : SC a = NW ∨ (-288230376151711744 ≤ SC a ∧ SC a ≤ 0)) (h2 : SC a ≠ NW) : -288230376151711744 ≤ SC a ∧ SC a ≤ 0 := h.elim (fun q => absurd q h2) (fun q => q)
end
section
set_option maxHeartbeats 4000000 in
set_option maxRecDepth 100000 in
theorem c_X0_hasKindOfValue (l : Launch) (hst : l.stackTraces = false) (D : va_G) (q : Nat → Nat) (cI cZ cJ : ClassId) (k : Nat) (V : Nat → Nat) (C : Nat → Nat) (T : Nat → Nat) (B : Nat → Nat) (P : Nat → Nat) (A : Nat → Nat) (n : Nat) (PR : Nat → Nat) (ST : Nat → Nat) (li : Nat) (w : Nat) (WK : Nat → Nat) (so : Nat) (sp : Nat) (CT : Nat → Int64) (SC : Nat → Int) (TA : Nat → Nat) (sz : Nat) (va : Nat) (hk8 : k ≤ 8) (hV : ∀ i, i < k → 1 ≤ V i ∧ V i ≤ 500) (hva : va ≤ 500) : Met l yX0_hasKindOfValue wsX0_hasKindOfValue ({ frames := 0, cells := 0, slots := 0, locals := 0 }) (va_Pc [.ref (q 0), .int (nI va)] (cxP D (ty3 cI cZ cJ) (wX q cI cZ cJ k V C T B P A n PR ST li w WK so sp CT SC TA) sz)) (va_Qi (fun r (_ : Unit) => r = nI (b1 (∃ i, i < k ∧ V i = va))) (bW D (va_A (wX q cI cZ cJ k V C T B P A n PR ST li w WK so sp CT SC TA) sz) (fun (_ : Unit) => (wX q cI cZ cJ k V C T B P A n PR ST li w WK so sp CT SC TA))) (va_A (wX q cI cZ cJ k V C T B P A n PR ST li w WK so sp CT SC TA) sz)) 0 0 (va_A (wX q cI cZ cJ k V C T B P A n PR ST li w WK so sp CT SC TA) sz) := by
  refine Met.ofW (cc := cX0_hasKindOfValue) (maxL := 3) (ret := (some .boolean)) (by decide) rfl ?_
  intro p e s m args below meth c s₁ BB hml hv
  obtain ⟨hav, hsz, hP, hK, hD0, hZ, hg⟩ := hv
  subst hsz
  subst hav
  have hx := BB.exec
  have hb := BB.bytes
  have hr := BB.returns
  have hts := atoms_spec (ws := wsX0_hasKindOfValue) BB.pre
  have hown : s.vm.findClass RX0 = some m.cls := findClass_of_methodNamed BB.named
  have hlocks := BB.notSynchronized
  have hin : ∀ w ∈ wsX00, w ∈ wsX0_hasKindOfValue := fun w h => (List.mem_cons_of_mem _ (List.mem_append_right _ h))
  have hD := hD0.self (sz := s.heap.size)
  have hA : ∀ q9 : Nat, s.heap.size ≤ q9 → va_A (wX q cI cZ cJ k V C T B P A n PR ST li w WK so sp CT SC TA) s.heap.size q9 := fun _ h => Or.inr h
  have hl := lv_entry ([.ref (q 0), .int (nI va)]) (n := 3) (Nat.le_of_ble_eq_true rfl)
  rw [lg_entry_eq]
  generalize (lg_sl ([.ref (q 0), .int (nI va)]) ++ List.replicate (3 - (lg_sl ([.ref (q 0), .int (nI va)])).length) Slot.unset).toArray = ls at hl ⊢
  have hl : lv_has ls 3 [(0, .ref (q 0)), (1, .int (nI va))] := hl
  refine W_absR (fun R hR => ?_)
  have hR : R = ({ frames := 0, cells := 0, slots := 0, locals := 0 } : Room) := hR
  refine W_absQ (fun Q hQ => ?_)
  generalize ([.ref (q 0), .int (nI va)] : List Value).toArray = args at hts hQ ⊢
  generalize va_A (wX q cI cZ cJ k V C T B P A n PR ST li w WK so sp CT SC TA) s.heap.size = A9 at hD hZ hA hQ
  refine W_start hP (A := A9) (fun H locs hP hS => ?_)
  refine lv_iconst (v := nI 0) hx hb dX0_hasKindOfValue_0 (ic_0) ?_
  refine lv_istore_n (lv' := [(2, .int (nI 0)), (0, .ref (q 0)), (1, .int (nI va))]) hx hb dX0_hasKindOfValue_1 rfl hl (by decide) rfl (fun ls hl => ?_)
  have lp_2 : ∀ (fu_2 : Nat) (i : Nat), k - i < fu_2 → (i ≤ k) → (∀ j, j < i → V j ≠ va) → ∀ (H : Heap) (locs : List Loc), va_P D vwCl (wX q cI cZ cJ k V C T B P A n PR ST li w WK so sp CT SC TA) H → va_D A9 (wX q cI cZ cJ k V C T B P A n PR ST li w WK so sp CT SC TA) → va_S A9 s.heap H locs → ∀ ls : Array Slot, lv_has ls 3 [(2, .int (nI i)), (0, .ref (q 0)), (1, .int (nI va))] → W p l e R s m args below meth c H locs 0 0 Q (F0 m 2 ls []) := by
    intro fu_2
    induction fu_2 with
    | zero =>
      intro i hfu_2
      exact absurd hfu_2 (Nat.not_lt_zero _)
    | succ fu_2 ih_2 =>
      intro i hfu_2 hi hs H locs hP hD hS ls hl
      refine lv_iload_n hx hb dX0_hasKindOfValue_2 rfl (lv_at hl 0 rfl) ?_
      refine lv_aload_n hx hb dX0_hasKindOfValue_3 rfl (lv_at hl 1 rfl) ?_
      refine gfX hx hb hts hin hown hK hP 0 (by decide) (List.mem_of_getElem? (i := 1) rfl) rfl rfl dX0_hasKindOfValue_4 ?_
      refine n_icmp_ge (tgt := 28) hx hb (by omega) (by omega) dX0_hasKindOfValue_7 (by decide) (fun c7 => ?_) (fun c7 => ?_)
      · refine lv_iconst (v := nI 0) hx hb dX0_hasKindOfValue_28 (ic_0) ?_
        subst hQ
        exact e_z () hx hb hr hlocks hS (by omega) hP hD (congrArg nI (b1_n (fun ⟨j, h1, h2⟩ => hs j (by omega) h2)).symm) (Nat.le_of_ble_eq_true rfl) (Nat.le_of_ble_eq_true rfl) dX0_hasKindOfValue_29
      · refine lv_aload_n hx hb dX0_hasKindOfValue_10 rfl (lv_at hl 1 rfl) ?_
        refine gfX hx hb hts hin hown hK hP 1 (by decide) (List.mem_of_getElem? (i := 2) rfl) rfl rfl dX0_hasKindOfValue_11 ?_
        refine lv_iload_n hx hb dX0_hasKindOfValue_14 rfl (lv_at hl 0 rfl) ?_
        refine n_iald hx hb hK hP 1 0 rfl rfl (by omega) (by decide) dX0_hasKindOfValue_15 ?_
        refine lv_iload_n hx hb dX0_hasKindOfValue_16 rfl (lv_at hl 2 rfl) ?_
        refine n_icmp_ne (tgt := 22) hx hb (by have := hV i (by omega); omega) (by omega) dX0_hasKindOfValue_17 (by decide) (fun c17 => ?_) (fun c17 => ?_)
        · refine lv_iinc (v := nI (i + 1)) (lv' := [(2, .int (nI (i + 1))), (0, .ref (q 0)), (1, .int (nI va))]) hx hb dX0_hasKindOfValue_22 hl (k := 0) rfl (ni_inc _ 1) (by decide) rfl (fun ls hl => ?_)
          refine lv_goto (tgt := 2) hx hb dX0_hasKindOfValue_25 (by decide) ?_
          exact ih_2 (i + 1) (by omega) (by omega) (fun j hj => by rcases Nat.lt_or_ge j i with h | h; exact hs j h; (rw [show j = i by omega]; exact c17)) _ _ hP hD hS ls (lv_sub hl [0, 1, 2] rfl)
        · refine lv_iconst (v := nI 1) hx hb dX0_hasKindOfValue_20 (ic_1) ?_
          subst hQ
          exact e_z () hx hb hr hlocks hS (by omega) hP hD (congrArg nI (b1_y ⟨i, by omega, c17⟩).symm) (Nat.le_of_ble_eq_true rfl) (Nat.le_of_ble_eq_true rfl) dX0_hasKindOfValue_21
  exact lp_2 _ 0 (Nat.lt_succ_self _) (by omega) (fun j hj => absurd hj (Nat.not_lt_zero j)) _ _ hP hD hS ls (lv_sub hl [0, 1, 2] rfl)
theorem hd_X0_hasKindOfValue : yX0_hasKindOfValue.cls = RX0 ∧ yX0_hasKindOfValue.cls ≠ "java/lang/invoke/MethodHandle" ∧ yX0_hasKindOfValue.cls ≠ "java/lang/invoke/VarHandle" ∧ (parseMethodDescriptor yX0_hasKindOfValue.desc).map (fun d => d.parameters.length) = some 1 := by decide +kernel

set_option maxHeartbeats 4000000 in
set_option maxRecDepth 100000 in
theorem c_X0_addKind (l : Launch) (hst : l.stackTraces = false) (D : va_G) (q : Nat → Nat) (cI cZ cJ : ClassId) (k : Nat) (V : Nat → Nat) (C : Nat → Nat) (T : Nat → Nat) (B : Nat → Nat) (P : Nat → Nat) (A : Nat → Nat) (n : Nat) (PR : Nat → Nat) (ST : Nat → Nat) (li : Nat) (w : Nat) (WK : Nat → Nat) (so : Nat) (sp : Nat) (CT : Nat → Int64) (SC : Nat → Int) (TA : Nat → Nat) (sz : Nat) (p0 : Int32) (p1 : Int32) (hk8 : k ≤ 8) (hV : ∀ i, i < k → 1 ≤ V i ∧ V i ≤ 500) : vx_Met l yX0_addKind wsX0_addKind ({ frames := 6, cells := 1, slots := 6, locals := 90 }) (va_Pc [.ref (q 0), .int p0, .int p1] (cxP D (ty3 cI cZ cJ) (wX q cI cZ cJ k V C T B P A n PR ST li w WK so sp CT SC TA) sz)) (va_Qi (fun r (u : Nat × Nat) => r = nI k ∧ 1 ≤ u.1 ∧ u.1 < 501 ∧ u.2 < 61 ∧ p0 = nI u.1 ∧ p1 = nI u.2 ∧ k < 8 ∧ ¬ ∃ i, i < k ∧ V i = u.1) (bW D (va_A (wX q cI cZ cJ k V C T B P A n PR ST li w WK so sp CT SC TA) sz) (fun u => (wX q cI cZ cJ (k + 1) (un V k u.1) (un C k u.2) T B P (un A k 1) n PR ST li w WK so sp CT SC TA))) (va_A (wX q cI cZ cJ k V C T B P A n PR ST li w WK so sp CT SC TA) sz)) (xX D (fun E => (E = eIA ∧ ¬ (rg p0 1 501 ∧ rg p1 0 61)) ∨ (E = eIS ∧ (rg p0 1 501 ∧ rg p1 0 61) ∧ (¬ k < 8 ∨ ∃ i, i < k ∧ nI (V i) = p0))) (wX q cI cZ cJ k V C T B P A n PR ST li w WK so sp CT SC TA) (va_A (wX q cI cZ cJ k V C T B P A n PR ST li w WK so sp CT SC TA) sz)) 1 6 (va_A (wX q cI cZ cJ k V C T B P A n PR ST li w WK so sp CT SC TA) sz) := by
  refine vx_ofW (cc := cX0_addKind) (maxL := 3) (ret := (some .int)) (by decide) rfl ?_
  intro p e s m args below meth c s₁ BB hml hout hv
  obtain ⟨hav, hsz, hP, hK, hD0, hZ, hg⟩ := hv
  subst hsz
  subst hav
  have hx := BB.exec
  have hb := BB.bytes
  have hr := BB.returns
  have hts := atoms_spec (ws := wsX0_addKind) BB.pre
  have hown : s.vm.findClass RX0 = some m.cls := findClass_of_methodNamed BB.named
  have hlocks := BB.notSynchronized
  have hin : ∀ w ∈ wsX00, w ∈ wsX0_addKind := fun w h => (List.mem_cons_of_mem _ (List.mem_append_left _ (List.mem_append_left _ (List.mem_append_right _ h))))
  have hD := hD0.self (sz := s.heap.size)
  have hA : ∀ q9 : Nat, s.heap.size ≤ q9 → va_A (wX q cI cZ cJ k V C T B P A n PR ST li w WK so sp CT SC TA) s.heap.size q9 := fun _ h => Or.inr h
  have hl := lv_entry ([.ref (q 0), .int p0, .int p1]) (n := 3) (Nat.le_of_ble_eq_true rfl)
  rw [lg_entry_eq]
  generalize (lg_sl ([.ref (q 0), .int p0, .int p1]) ++ List.replicate (3 - (lg_sl ([.ref (q 0), .int p0, .int p1])).length) Slot.unset).toArray = ls at hl ⊢
  have hl : lv_has ls 3 [(0, .ref (q 0)), (1, .int p0), (2, .int p1)] := hl
  refine W_absR (fun R hR => ?_)
  have hR : R = ({ frames := 6, cells := 1, slots := 6, locals := 90 } : Room) := hR
  refine W_absQ (fun Q hQ => ?_)
  generalize ([.ref (q 0), .int p0, .int p1] : List Value).toArray = args at hts hQ ⊢
  generalize va_A (wX q cI cZ cJ k V C T B P A n PR ST li w WK so sp CT SC TA) s.heap.size = A9 at hD hZ hA hQ
  refine W_start hP (A := A9) (fun H locs hP hS => ?_)
  refine lv_iload_n hx hb dX0_addKind_0 rfl (lv_at hl 1 rfl) ?_
  refine lv_iconst (v := nI 1) hx hb dX0_addKind_1 (ic_1) ?_
  refine lv_icmp_lt (tgt := 12) hx hb dX0_addKind_2 (by decide) (fun c2 => ?_) (fun c2 => ?_)
  · have hno : ¬ rg p0 1 501 := by rw [rg_iff (by omega)]; simp only [Int32.lt_iff_toInt_lt, Int32.le_iff_toInt_le, Int32.toInt_zero, nI_toInt (show 1 < 2 ^ 31 by omega)] at c2; omega
    subst hQ
    exact k_throw hx hb hst (cls := eIA) hown (by decide +kernel) (hts _ (List.mem_of_getElem? (i := 1) rfl)) (hts _ (List.mem_of_getElem? (i := 2) rfl)) (hg.1 (69, "value is not 1 to 500") (by decide)) (k_hat (fun w h => hts w (List.mem_cons_of_mem _ (List.mem_append_left _ (List.mem_append_right _ h)))) (by decide +kernel) hg.2.1 hg) (by decide +kernel) hZ hS (hl.1.trans hml.symm) dX0_addKind_12 dX0_addKind_15 dX0_addKind_16 dX0_addKind_18 dX0_addKind_21 hout (by rw [hR]; exact Nat.le_of_ble_eq_true rfl) (by rw [hR]; exact Nat.le_of_ble_eq_true rfl) (by rw [hR]; exact Nat.le_of_ble_eq_true rfl) (by rw [hR]; exact Nat.le_of_ble_eq_true rfl) hlocks hP hD (Or.inl ⟨rfl, fun z => hno z.1⟩) (Nat.le_of_ble_eq_true rfl) (Nat.le_of_ble_eq_true rfl)
  · refine lv_iload_n hx hb dX0_addKind_5 rfl (lv_at hl 1 rfl) ?_
    refine lv_sipush (v := nI 500) hx hb dX0_addKind_6 (by decide) ?_
    refine lv_icmp_le (tgt := 22) hx hb dX0_addKind_9 (by decide) (fun c9 => ?_) (fun c9 => ?_)
    · obtain ⟨j0, j0a, j0b, rfl⟩ : rg p0 1 501 := by rw [rg_iff (by omega)]; simp only [Int32.lt_iff_toInt_lt, Int32.le_iff_toInt_le, Int32.toInt_zero, nI_toInt (show 1 < 2 ^ 31 by omega), nI_toInt (show 500 < 2 ^ 31 by omega)] at c2 c9; omega
      refine lv_iload_n hx hb dX0_addKind_22 rfl (lv_at hl 2 rfl) ?_
      refine lv_if_lt (tgt := 32) hx hb dX0_addKind_23 (by decide) (fun c23 => ?_) (fun c23 => ?_)
      · have hno : ¬ rg p1 0 61 := by rw [rg_iff (by omega)]; simp only [Int32.lt_iff_toInt_lt, Int32.le_iff_toInt_le, Int32.toInt_zero] at c23; omega
        subst hQ
        exact k_throw hx hb hst (cls := eIA) hown (by decide +kernel) (hts _ (List.mem_of_getElem? (i := 1) rfl)) (hts _ (List.mem_of_getElem? (i := 2) rfl)) (hg.1 (74, "capacity is not 0 to 60") (by decide)) (k_hat (fun w h => hts w (List.mem_cons_of_mem _ (List.mem_append_left _ (List.mem_append_right _ h)))) (by decide +kernel) hg.2.1 hg) (by decide +kernel) hZ hS (hl.1.trans hml.symm) dX0_addKind_32 dX0_addKind_35 dX0_addKind_36 dX0_addKind_38 dX0_addKind_41 hout (by rw [hR]; exact Nat.le_of_ble_eq_true rfl) (by rw [hR]; exact Nat.le_of_ble_eq_true rfl) (by rw [hR]; exact Nat.le_of_ble_eq_true rfl) (by rw [hR]; exact Nat.le_of_ble_eq_true rfl) hlocks hP hD (Or.inl ⟨rfl, fun z => hno z.2⟩) (Nat.le_of_ble_eq_true rfl) (Nat.le_of_ble_eq_true rfl)
      · refine lv_iload_n hx hb dX0_addKind_26 rfl (lv_at hl 2 rfl) ?_
        refine lv_bipush (v := nI 60) hx hb dX0_addKind_27 (by decide) ?_
        refine lv_icmp_le (tgt := 42) hx hb dX0_addKind_29 (by decide) (fun c29 => ?_) (fun c29 => ?_)
        · obtain ⟨j1, j1a, j1b, rfl⟩ : rg p1 0 61 := by rw [rg_iff (by omega)]; simp only [Int32.lt_iff_toInt_lt, Int32.le_iff_toInt_le, Int32.toInt_zero, nI_toInt (show 60 < 2 ^ 31 by omega)] at c23 c29; omega
          refine lv_aload_n hx hb dX0_addKind_42 rfl (lv_at hl 0 rfl) ?_
          refine gfX hx hb hts hin hown hK hP 0 (by decide) (List.mem_of_getElem? (i := 5) rfl) rfl rfl dX0_addKind_43 ?_
          refine lv_bipush (v := nI 8) hx hb dX0_addKind_46 (by decide) ?_
          refine n_icmp_lt (tgt := 61) hx hb (by omega) (by omega) dX0_addKind_48 (by decide) (fun c48 => ?_) (fun c48 => ?_)
          · refine lv_aload_n hx hb dX0_addKind_61 rfl (lv_at hl 0 rfl) ?_
            refine lv_iload_n hx hb dX0_addKind_62 rfl (lv_at hl 1 rfl) ?_
            refine k_i (va_runV (As := [.int (nI j0)]) (rest := []) ⟨hx, hb, hml, hown, hts⟩ (c_X0_hasKindOfValue l hst D q cI cZ cJ k V C T B P A n PR ST li w WK so sp CT SC TA H.size j0 hk8 hV (by omega)) (cwV 1 hts gX0_addKind_X0_hasKindOfValue rfl rfl rfl hd_X0_hasKindOfValue ⟨(by rw [hR]; exact Nat.le_of_ble_eq_true rfl), (by rw [hR]; exact Nat.le_of_ble_eq_true rfl)⟩) (pre_V hP hK hD hS hA hZ hg 0 (ci := 0) rfl rfl) rfl rfl hl.1 rfl (lv_room (Nat.le_of_ble_eq_true rfl)) dX0_addKind_63 ⟨(by rw [hR]; exact Nat.le_of_ble_eq_true rfl), (by rw [hR]; exact Nat.le_of_ble_eq_true rfl)⟩) hD hS hA (fun r_2 u_1 H locs hp_3 hP hD hS => ?_)
            subst hp_3
            refine n_if_eq (tgt := 79) hx hb (by have := b1_le (∃ i, i < k ∧ V i = j0); omega) dX0_addKind_66 (by decide) (fun c66 => ?_) (fun c66 => ?_)
            · have hnex : ¬ ∃ i, i < k ∧ V i = j0 := fun h => by rw [b1_y h] at c66; omega
              refine lv_aload_n hx hb dX0_addKind_79 rfl (lv_at hl 0 rfl) ?_
              refine gfX hx hb hts hin hown hK hP 1 (by decide) (List.mem_of_getElem? (i := 6) rfl) rfl rfl dX0_addKind_80 ?_
              refine lv_aload_n hx hb dX0_addKind_83 rfl (lv_at hl 0 rfl) ?_
              refine gfX hx hb hts hin hown hK hP 0 (by decide) (List.mem_of_getElem? (i := 5) rfl) rfl rfl dX0_addKind_84 ?_
              refine lv_iload_n hx hb dX0_addKind_87 rfl (lv_at hl 1 rfl) ?_
              refine n_iast (ws' := (wX q cI cZ cJ k (un V k j0) C T B P A n PR ST li w WK so sp CT SC TA)) hx hb hK hP hD hS 1 0 rfl rfl (by omega) (by decide) rfl dX0_addKind_88 (fun H locs hP hD hS => ?_)
              refine lv_aload_n hx hb dX0_addKind_89 rfl (lv_at hl 0 rfl) ?_
              refine gfX hx hb hts hin hown hK hP 2 (by decide) (List.mem_of_getElem? (i := 7) rfl) rfl rfl dX0_addKind_90 ?_
              refine lv_aload_n hx hb dX0_addKind_93 rfl (lv_at hl 0 rfl) ?_
              refine gfX hx hb hts hin hown hK hP 0 (by decide) (List.mem_of_getElem? (i := 5) rfl) rfl rfl dX0_addKind_94 ?_
              refine lv_iload_n hx hb dX0_addKind_97 rfl (lv_at hl 2 rfl) ?_
              refine n_iast (ws' := (wX q cI cZ cJ k (un V k j0) (un C k j1) T B P A n PR ST li w WK so sp CT SC TA)) hx hb hK hP hD hS 2 0 rfl rfl (by omega) (by decide) rfl dX0_addKind_98 (fun H locs hP hD hS => ?_)
              refine lv_aload_n hx hb dX0_addKind_99 rfl (lv_at hl 0 rfl) ?_
              refine gfX hx hb hts hin hown hK hP 6 (by decide) (List.mem_of_getElem? (i := 8) rfl) rfl rfl dX0_addKind_100 ?_
              refine lv_aload_n hx hb dX0_addKind_103 rfl (lv_at hl 0 rfl) ?_
              refine gfX hx hb hts hin hown hK hP 0 (by decide) (List.mem_of_getElem? (i := 5) rfl) rfl rfl dX0_addKind_104 ?_
              refine lv_iconst (v := nI 1) hx hb dX0_addKind_107 (ic_1) ?_
              refine n_zast (ws' := (wX q cI cZ cJ k (un V k j0) (un C k j1) T B P (un A k 1) n PR ST li w WK so sp CT SC TA)) hx hb hK hP hD hS 6 1 rfl rfl (by omega) (by omega) (by decide) rfl dX0_addKind_108 (fun H locs hP hD hS => ?_)
              refine lv_aload_n hx hb dX0_addKind_109 rfl (lv_at hl 0 rfl) ?_
              refine lv_dup hx hb dX0_addKind_110 rfl ?_
              refine gfX hx hb hts hin hown hK hP 0 (by decide) (List.mem_of_getElem? (i := 5) rfl) rfl rfl dX0_addKind_111 ?_
              refine lv_iconst (v := nI 1) hx hb dX0_addKind_114 (ic_1) ?_
              refine n_iadd hx hb dX0_addKind_115 ?_
              refine pfX (ws' := (wX q cI cZ cJ (k + 1) (un V k j0) (un C k j1) T B P (un A k 1) n PR ST li w WK so sp CT SC TA)) hx hb hts hin hown hK hP hD hS 0 (by decide) (List.mem_of_getElem? (i := 5) rfl) rfl ⟨rfl, rfl⟩ rfl rfl dX0_addKind_116 (fun H locs hP hD hS => ?_)
              refine lv_aload_n hx hb dX0_addKind_119 rfl (lv_at hl 0 rfl) ?_
              refine gfX hx hb hts hin hown hK hP 0 (by decide) (List.mem_of_getElem? (i := 5) rfl) rfl rfl dX0_addKind_120 ?_
              refine lv_iconst (v := nI 1) hx hb dX0_addKind_123 (ic_1) ?_
              refine n_isub hx hb (by omega) dX0_addKind_124 ?_
              refine n_top (congrArg nI (show (k + 1) - 1 = k by omega)) ?_
              subst hQ
              exact vx_ret (e_i (j0, j1) hx hb hr hlocks hS hP hD (⟨rfl, j0a, j0b, j1b, rfl, rfl, by omega, hnex⟩) (Nat.le_of_ble_eq_true rfl) (Nat.le_of_ble_eq_true rfl) dX0_addKind_125)
            · have hex : ∃ i, i < k ∧ nI (V i) = nI j0 := by rcases Classical.em (∃ i, i < k ∧ V i = j0) with ⟨i, h1, h2⟩ | h; exact ⟨i, h1, by rw [h2]⟩; exact absurd (b1_n h) c66
              subst hQ
              exact k_throw hx hb hst (cls := eIS) hown (by decide +kernel) (hts _ (List.mem_of_getElem? (i := 3) rfl)) (hts _ (List.mem_of_getElem? (i := 4) rfl)) (hg.1 (85, "a kind has this value") (by decide)) (k_hat (fun w h => hts w (List.mem_cons_of_mem _ (List.mem_append_right _ h))) (by decide +kernel) hg.2.2.1 hg) (by decide +kernel) hZ hS (hl.1.trans hml.symm) dX0_addKind_69 dX0_addKind_72 dX0_addKind_73 dX0_addKind_75 dX0_addKind_78 hout (by rw [hR]; exact Nat.le_of_ble_eq_true rfl) (by rw [hR]; exact Nat.le_of_ble_eq_true rfl) (by rw [hR]; exact Nat.le_of_ble_eq_true rfl) (by rw [hR]; exact Nat.le_of_ble_eq_true rfl) hlocks hP hD (Or.inr ⟨rfl, ⟨⟨j0, j0a, j0b, rfl⟩, ⟨j1, j1a, j1b, rfl⟩⟩, Or.inr hex⟩) (Nat.le_of_ble_eq_true rfl) (Nat.le_of_ble_eq_true rfl)
          · subst hQ
            exact k_throw hx hb hst (cls := eIS) hown (by decide +kernel) (hts _ (List.mem_of_getElem? (i := 3) rfl)) (hts _ (List.mem_of_getElem? (i := 4) rfl)) (hg.1 (78, "there are 8 kinds") (by decide)) (k_hat (fun w h => hts w (List.mem_cons_of_mem _ (List.mem_append_right _ h))) (by decide +kernel) hg.2.2.1 hg) (by decide +kernel) hZ hS (hl.1.trans hml.symm) dX0_addKind_51 dX0_addKind_54 dX0_addKind_55 dX0_addKind_57 dX0_addKind_60 hout (by rw [hR]; exact Nat.le_of_ble_eq_true rfl) (by rw [hR]; exact Nat.le_of_ble_eq_true rfl) (by rw [hR]; exact Nat.le_of_ble_eq_true rfl) (by rw [hR]; exact Nat.le_of_ble_eq_true rfl) hlocks hP hD (Or.inr ⟨rfl, ⟨⟨j0, j0a, j0b, rfl⟩, ⟨j1, j1a, j1b, rfl⟩⟩, Or.inl (by omega)⟩) (Nat.le_of_ble_eq_true rfl) (Nat.le_of_ble_eq_true rfl)
        · have hno : ¬ rg p1 0 61 := by rw [rg_iff (by omega)]; simp only [Int32.lt_iff_toInt_lt, Int32.le_iff_toInt_le, Int32.toInt_zero, nI_toInt (show 60 < 2 ^ 31 by omega)] at c29; omega
          subst hQ
          exact k_throw hx hb hst (cls := eIA) hown (by decide +kernel) (hts _ (List.mem_of_getElem? (i := 1) rfl)) (hts _ (List.mem_of_getElem? (i := 2) rfl)) (hg.1 (74, "capacity is not 0 to 60") (by decide)) (k_hat (fun w h => hts w (List.mem_cons_of_mem _ (List.mem_append_left _ (List.mem_append_right _ h)))) (by decide +kernel) hg.2.1 hg) (by decide +kernel) hZ hS (hl.1.trans hml.symm) dX0_addKind_32 dX0_addKind_35 dX0_addKind_36 dX0_addKind_38 dX0_addKind_41 hout (by rw [hR]; exact Nat.le_of_ble_eq_true rfl) (by rw [hR]; exact Nat.le_of_ble_eq_true rfl) (by rw [hR]; exact Nat.le_of_ble_eq_true rfl) (by rw [hR]; exact Nat.le_of_ble_eq_true rfl) hlocks hP hD (Or.inl ⟨rfl, fun z => hno z.2⟩) (Nat.le_of_ble_eq_true rfl) (Nat.le_of_ble_eq_true rfl)
    · have hno : ¬ rg p0 1 501 := by rw [rg_iff (by omega)]; simp only [Int32.lt_iff_toInt_lt, Int32.le_iff_toInt_le, Int32.toInt_zero, nI_toInt (show 500 < 2 ^ 31 by omega)] at c9; omega
      subst hQ
      exact k_throw hx hb hst (cls := eIA) hown (by decide +kernel) (hts _ (List.mem_of_getElem? (i := 1) rfl)) (hts _ (List.mem_of_getElem? (i := 2) rfl)) (hg.1 (69, "value is not 1 to 500") (by decide)) (k_hat (fun w h => hts w (List.mem_cons_of_mem _ (List.mem_append_left _ (List.mem_append_right _ h)))) (by decide +kernel) hg.2.1 hg) (by decide +kernel) hZ hS (hl.1.trans hml.symm) dX0_addKind_12 dX0_addKind_15 dX0_addKind_16 dX0_addKind_18 dX0_addKind_21 hout (by rw [hR]; exact Nat.le_of_ble_eq_true rfl) (by rw [hR]; exact Nat.le_of_ble_eq_true rfl) (by rw [hR]; exact Nat.le_of_ble_eq_true rfl) (by rw [hR]; exact Nat.le_of_ble_eq_true rfl) hlocks hP hD (Or.inl ⟨rfl, fun z => hno z.1⟩) (Nat.le_of_ble_eq_true rfl) (Nat.le_of_ble_eq_true rfl)
theorem hd_X0_addKind : yX0_addKind.cls = RX0 ∧ yX0_addKind.cls ≠ "java/lang/invoke/MethodHandle" ∧ yX0_addKind.cls ≠ "java/lang/invoke/VarHandle" ∧ (parseMethodDescriptor yX0_addKind.desc).map (fun d => d.parameters.length) = some 2 := by decide +kernel

set_option maxHeartbeats 4000000 in
set_option maxRecDepth 100000 in
theorem c_X0_insert (l : Launch) (hst : l.stackTraces = false) (D : va_G) (q : Nat → Nat) (cI cZ cJ : ClassId) (k : Nat) (V : Nat → Nat) (C : Nat → Nat) (T : Nat → Nat) (B : Nat → Nat) (P : Nat → Nat) (A : Nat → Nat) (n : Nat) (PR : Nat → Nat) (ST : Nat → Nat) (li : Nat) (w : Nat) (WK : Nat → Nat) (so : Nat) (sp : Nat) (CT : Nat → Int64) (SC : Nat → Int) (TA : Nat → Nat) (sz : Nat) (p0 : Int32) (hk8 : k ≤ 8) (hV : ∀ i, i < k → 1 ≤ V i ∧ V i ≤ 500) (hA1 : ∀ i, i < k → A i ≤ 1) (hw12 : w ≤ 12) (hWK : ∀ j, j < w → WK j < k) (hli : li ≤ 2000) : vx_Met l yX0_insert wsX0_insert ({ frames := 7, cells := 1, slots := 6, locals := 111 }) (va_Pc [.ref (q 0), .int p0] (cxP D (ty3 cI cZ cJ) (wX q cI cZ cJ k V C T B P A n PR ST li w WK so sp CT SC TA) sz)) (va_Qi (fun r (u : Nat × Nat × Nat × (Nat → Nat) × (Nat → Int64)) => r = nI u.2.1 ∧ u.1 < k ∧ p0 = nI u.1 ∧ insP k V A li w WK CT u.1 u.2.2.1 u.2.2.2.1 u.2.2.2.2 u.2.1) (bW D (va_A (wX q cI cZ cJ k V C T B P A n PR ST li w WK so sp CT SC TA) sz) (fun u => (wX q cI cZ cJ k V C T B P A n PR ST li u.2.2.1 u.2.2.2.1 so sp u.2.2.2.2 SC TA))) (va_A (wX q cI cZ cJ k V C T B P A n PR ST li w WK so sp CT SC TA) sz)) (xX D (fun E => E = eIB ∧ ¬ rg p0 0 k) (wX q cI cZ cJ k V C T B P A n PR ST li w WK so sp CT SC TA) (va_A (wX q cI cZ cJ k V C T B P A n PR ST li w WK so sp CT SC TA) sz)) 1 6 (va_A (wX q cI cZ cJ k V C T B P A n PR ST li w WK so sp CT SC TA) sz) := by
  refine vx_ofW (cc := cX0_insert) (maxL := 2) (ret := (some .int)) (by decide) rfl ?_
  intro p e s m args below meth c s₁ BB hml hout hv
  obtain ⟨hav, hsz, hP, hK, hD0, hZ, hg⟩ := hv
  subst hsz
  subst hav
  have hx := BB.exec
  have hb := BB.bytes
  have hr := BB.returns
  have hts := atoms_spec (ws := wsX0_insert) BB.pre
  have hown : s.vm.findClass RX0 = some m.cls := findClass_of_methodNamed BB.named
  have hlocks := BB.notSynchronized
  have hin : ∀ w ∈ wsX00, w ∈ wsX0_insert := fun w h => (List.mem_cons_of_mem _ (List.mem_append_left _ (List.mem_append_right _ h)))
  have hD := hD0.self (sz := s.heap.size)
  have hA : ∀ q9 : Nat, s.heap.size ≤ q9 → va_A (wX q cI cZ cJ k V C T B P A n PR ST li w WK so sp CT SC TA) s.heap.size q9 := fun _ h => Or.inr h
  have hl := lv_entry ([.ref (q 0), .int p0]) (n := 2) (Nat.le_of_ble_eq_true rfl)
  rw [lg_entry_eq]
  generalize (lg_sl ([.ref (q 0), .int p0]) ++ List.replicate (2 - (lg_sl ([.ref (q 0), .int p0])).length) Slot.unset).toArray = ls at hl ⊢
  have hl : lv_has ls 2 [(0, .ref (q 0)), (1, .int p0)] := hl
  refine W_absR (fun R hR => ?_)
  have hR : R = ({ frames := 7, cells := 1, slots := 6, locals := 111 } : Room) := hR
  refine W_absQ (fun Q hQ => ?_)
  generalize ([.ref (q 0), .int p0] : List Value).toArray = args at hts hQ ⊢
  generalize va_A (wX q cI cZ cJ k V C T B P A n PR ST li w WK so sp CT SC TA) s.heap.size = A9 at hD hZ hA hQ
  refine W_start hP (A := A9) (fun H locs hP hS => ?_)
  refine lv_aload_n hx hb dX0_insert_0 rfl (lv_at hl 0 rfl) ?_
  refine lv_iload_n hx hb dX0_insert_1 rfl (lv_at hl 1 rfl) ?_
  subst hQ
  refine kx_v (vx_runV (As := [.int p0]) (rest := []) ⟨hx, hb, hml, hown, hts⟩ (c_X0_checkKind l hst D q cI cZ cJ k V C T B P A n PR ST li w WK so sp CT SC TA H.size p0 hk8) (cwV 1 hts gX0_insert_X0_checkKind rfl rfl rfl hd_X0_checkKind ⟨(by rw [hR]; exact Nat.le_of_ble_eq_true rfl), (by rw [hR]; exact Nat.le_of_ble_eq_true rfl)⟩) (pre_V hP hK hD hS hA hZ hg 0 (ci := 0) rfl rfl) rfl rfl hl.1 rfl (lv_room (Nat.le_of_ble_eq_true rfl)) dX0_insert_2 ⟨(by rw [hR]; exact Nat.le_of_ble_eq_true rfl), (by rw [hR]; exact Nat.le_of_ble_eq_true rfl)⟩) hD hS hA rfl (fun E h => h) hout hlocks (Nat.le_of_ble_eq_true rfl) (Nat.le_of_ble_eq_true rfl) (fun u_1 H locs hp_3 hP hD hS => ?_)
  refine W_absQ (fun Q hQ => ?_)
  obtain ⟨j0, j0a, j0b, rfl⟩ := hp_3
  refine lv_aload_n hx hb dX0_insert_5 rfl (lv_at hl 0 rfl) ?_
  refine gfX hx hb hts hin hown hK hP 6 (by decide) (List.mem_of_getElem? (i := 1) rfl) rfl rfl dX0_insert_6 ?_
  refine lv_iload_n hx hb dX0_insert_9 rfl (lv_at hl 1 rfl) ?_
  refine n_zald hx hb hK hP 6 1 rfl rfl (by omega) (by decide) dX0_insert_10 ?_
  refine n_if_ne (tgt := 16) hx hb (by have := hA1 j0 j0b; omega) dX0_insert_11 (by decide) (fun c11 => ?_) (fun c11 => ?_)
  · refine lv_aload_n hx hb dX0_insert_16 rfl (lv_at hl 0 rfl) ?_
    refine gfX hx hb hts hin hown hK hP 11 (by decide) (List.mem_of_getElem? (i := 2) rfl) rfl rfl dX0_insert_17 ?_
    refine lv_bipush (v := nI 12) hx hb dX0_insert_20 (by decide) ?_
    refine n_icmp_lt (tgt := 27) hx hb (by omega) (by omega) dX0_insert_22 (by decide) (fun c22 => ?_) (fun c22 => ?_)
    · refine lv_aload_n hx hb dX0_insert_27 rfl (lv_at hl 0 rfl) ?_
      refine k_i (va_runV (As := []) (rest := []) ⟨hx, hb, hml, hown, hts⟩ (c_X0_credit l hst D q cI cZ cJ k V C T B P A n PR ST li w WK so sp CT SC TA H.size hw12 hk8 hWK hV) (cwV 0 hts gX0_insert_X0_credit rfl rfl rfl hd_X0_credit ⟨(by rw [hR]; exact Nat.le_of_ble_eq_true rfl), (by rw [hR]; exact Nat.le_of_ble_eq_true rfl)⟩) (pre_V hP hK hD hS hA hZ hg 0 (ci := 0) rfl rfl) rfl rfl hl.1 rfl (lv_room (Nat.le_of_ble_eq_true rfl)) dX0_insert_28 ⟨(by rw [hR]; exact Nat.le_of_ble_eq_true rfl), (by rw [hR]; exact Nat.le_of_ble_eq_true rfl)⟩) hD hS hA (fun r_5 u_4 H locs hp_6 hP hD hS => ?_)
      subst hp_6
      rw [crk_cr V WK k w hWK]
      have hcl := cr_le hw12 hWK hV
      refine lv_aload_n hx hb dX0_insert_31 rfl (lv_at hl 0 rfl) ?_
      refine gfX hx hb hts hin hown hK hP 1 (by decide) (List.mem_of_getElem? (i := 3) rfl) rfl rfl dX0_insert_32 ?_
      refine lv_iload_n hx hb dX0_insert_35 rfl (lv_at hl 1 rfl) ?_
      refine n_iald hx hb hK hP 1 0 rfl rfl (by omega) (by decide) dX0_insert_36 ?_
      refine n_iadd hx hb dX0_insert_37 ?_
      refine lv_aload_n hx hb dX0_insert_38 rfl (lv_at hl 0 rfl) ?_
      refine gfX hx hb hts hin hown hK hP 10 (by decide) (List.mem_of_getElem? (i := 4) rfl) rfl rfl dX0_insert_39 ?_
      refine n_icmp_le (tgt := 47) hx hb (by have := hV j0 j0b; omega) (by omega) dX0_insert_42 (by decide) (fun c42 => ?_) (fun c42 => ?_)
      · refine lv_aload_n hx hb dX0_insert_47 rfl (lv_at hl 0 rfl) ?_
        refine gfX hx hb hts hin hown hK hP 12 (by decide) (List.mem_of_getElem? (i := 5) rfl) rfl rfl dX0_insert_48 ?_
        refine lv_aload_n hx hb dX0_insert_51 rfl (lv_at hl 0 rfl) ?_
        refine gfX hx hb hts hin hown hK hP 11 (by decide) (List.mem_of_getElem? (i := 2) rfl) rfl rfl dX0_insert_52 ?_
        refine lv_iload_n hx hb dX0_insert_55 rfl (lv_at hl 1 rfl) ?_
        refine n_iast (ws' := (wX q cI cZ cJ k V C T B P A n PR ST li w (un WK w j0) so sp CT SC TA)) hx hb hK hP hD hS 9 0 rfl rfl (by omega) (by decide) rfl dX0_insert_56 (fun H locs hP hD hS => ?_)
        refine lv_aload_n hx hb dX0_insert_57 rfl (lv_at hl 0 rfl) ?_
        refine lv_dup hx hb dX0_insert_58 rfl ?_
        refine gfX hx hb hts hin hown hK hP 11 (by decide) (List.mem_of_getElem? (i := 2) rfl) rfl rfl dX0_insert_59 ?_
        refine lv_iconst (v := nI 1) hx hb dX0_insert_62 (ic_1) ?_
        refine n_iadd hx hb dX0_insert_63 ?_
        refine pfX (ws' := (wX q cI cZ cJ k V C T B P A n PR ST li (w + 1) (un WK w j0) so sp CT SC TA)) hx hb hts hin hown hK hP hD hS 11 (by decide) (List.mem_of_getElem? (i := 2) rfl) rfl ⟨rfl, rfl⟩ rfl rfl dX0_insert_64 (fun H locs hP hD hS => ?_)
        refine lv_aload_n hx hb dX0_insert_67 rfl (lv_at hl 0 rfl) ?_
        refine gfX hx hb hts hin hown hK hP 15 (by decide) (List.mem_of_getElem? (i := 6) rfl) rfl rfl dX0_insert_68 ?_
        refine lv_iconst (v := nI 0) hx hb dX0_insert_71 (ic_0) ?_
        refine lv_dup2_11 hx hb dX0_insert_72 rfl rfl ?_
        refine n_lald hx hb hK hP 10 2 rfl rfl (by omega) (by decide) dX0_insert_73 ?_
        refine lv_aload_n hx hb dX0_insert_74 rfl (lv_at hl 0 rfl) ?_
        refine gfX hx hb hts hin hown hK hP 1 (by decide) (List.mem_of_getElem? (i := 3) rfl) rfl rfl dX0_insert_75 ?_
        refine lv_iload_n hx hb dX0_insert_78 rfl (lv_at hl 1 rfl) ?_
        refine n_iald hx hb hK hP 1 0 rfl rfl (by omega) (by decide) dX0_insert_79 ?_
        refine n_i2l hx hb (by have := hV j0 j0b; omega) dX0_insert_80 ?_
        refine lv_ladd hx hb dX0_insert_81 ?_
        refine n_last (ws' := (wX q cI cZ cJ k V C T B P A n PR ST li (w + 1) (un WK w j0) so sp (vp_updL CT 0 ((CT 0) + (lZ ((V j0 : Nat) : Int)))) SC TA)) hx hb hK hP hD hS 10 2 rfl rfl (by omega) (by decide) rfl dX0_insert_82 (fun H locs hP hD hS => ?_)
        refine lv_iconst (v := nI 0) hx hb dX0_insert_83 (ic_0) ?_
        subst hQ
        exact vx_ret (e_i (j0, 0, w + 1, un WK w j0, vp_updL CT 0 ((CT 0) + (lZ ((V j0 : Nat) : Int)))) hx hb hr hlocks hS hP hD (⟨rfl, j0b, rfl, Or.inr (Or.inr (Or.inr ⟨c11, c22, c42, rfl, rfl, rfl, rfl⟩))⟩) (Nat.le_of_ble_eq_true rfl) (Nat.le_of_ble_eq_true rfl) dX0_insert_84)
      · refine lv_iconst (v := nI 3) hx hb dX0_insert_45 (ic_3) ?_
        subst hQ
        exact vx_ret (e_i (j0, 3, w, WK, CT) hx hb hr hlocks hS hP hD (⟨rfl, j0b, rfl, Or.inr (Or.inr (Or.inl ⟨c11, c22, c42, rfl, rfl, rfl, rfl⟩))⟩) (Nat.le_of_ble_eq_true rfl) (Nat.le_of_ble_eq_true rfl) dX0_insert_46)
    · refine lv_iconst (v := nI 2) hx hb dX0_insert_25 (ic_2) ?_
      subst hQ
      exact vx_ret (e_i (j0, 2, w, WK, CT) hx hb hr hlocks hS hP hD (⟨rfl, j0b, rfl, Or.inr (Or.inl ⟨c11, by omega, rfl, rfl, rfl, rfl⟩)⟩) (Nat.le_of_ble_eq_true rfl) (Nat.le_of_ble_eq_true rfl) dX0_insert_26)
  · refine lv_iconst (v := nI 1) hx hb dX0_insert_14 (ic_1) ?_
    subst hQ
    exact vx_ret (e_i (j0, 1, w, WK, CT) hx hb hr hlocks hS hP hD (⟨rfl, j0b, rfl, Or.inl ⟨c11, rfl, rfl, rfl, rfl⟩⟩) (Nat.le_of_ble_eq_true rfl) (Nat.le_of_ble_eq_true rfl) dX0_insert_15)
theorem hd_X0_insert : yX0_insert.cls = RX0 ∧ yX0_insert.cls ≠ "java/lang/invoke/MethodHandle" ∧ yX0_insert.cls ≠ "java/lang/invoke/VarHandle" ∧ (parseMethodDescriptor yX0_insert.desc).map (fun d => d.parameters.length) = some 1 := by decide +kernel

set_option maxHeartbeats 4000000 in
set_option maxRecDepth 100000 in
theorem c_X0_fewest (l : Launch) (hst : l.stackTraces = false) (D : va_G) (q : Nat → Nat) (cI cZ cJ : ClassId) (k : Nat) (V : Nat → Nat) (C : Nat → Nat) (T : Nat → Nat) (B : Nat → Nat) (P : Nat → Nat) (A : Nat → Nat) (n : Nat) (PR : Nat → Nat) (ST : Nat → Nat) (li : Nat) (w : Nat) (WK : Nat → Nat) (so : Nat) (sp : Nat) (CT : Nat → Int64) (SC : Nat → Int) (TA : Nat → Nat) (sz : Nat) (p0 : Int32) (hk8 : k ≤ 8) (hV : ∀ i, i < k → 1 ≤ V i ∧ V i ≤ 500) (hC : ∀ i, i < k → C i ≤ 60 ∧ T i ≤ C i) : vx_Met l yX0_fewest wsX0_fewest ({ frames := 7, cells := 1, slots := 6, locals := 110 }) (va_Pc [.ref (q 0), .int p0] (cxP D (ty3 cI cZ cJ) (wX q cI cZ cJ k V C T B P A n PR ST li w WK so sp CT SC TA) sz)) (va_Qi (fun r (u : Nat × Nat × (Nat → Int)) => r = nI u.2.1 ∧ u.1 < 2001 ∧ p0 = nI u.1 ∧ fwR T V k u.1 u.2.1) (bW D (va_A (wX q cI cZ cJ k V C T B P A n PR ST li w WK so sp CT SC TA) sz) (fun u => (wX q cI cZ cJ k V C T B P A n PR ST li w WK so sp CT u.2.2 TA))) (va_A (wX q cI cZ cJ k V C T B P A n PR ST li w WK so sp CT SC TA) sz)) (xX D (fun E => E = eIA ∧ ¬ rg p0 0 2001) (wX q cI cZ cJ k V C T B P A n PR ST li w WK so sp CT SC TA) (va_A (wX q cI cZ cJ k V C T B P A n PR ST li w WK so sp CT SC TA) sz)) 1 6 (va_A (wX q cI cZ cJ k V C T B P A n PR ST li w WK so sp CT SC TA) sz) := by
  refine vx_ofW (cc := cX0_fewest) (maxL := 4) (ret := (some .int)) (by decide) rfl ?_
  intro p e s m args below meth c s₁ BB hml hout hv
  obtain ⟨hav, hsz, hP, hK, hD0, hZ, hg⟩ := hv
  subst hsz
  subst hav
  have hx := BB.exec
  have hb := BB.bytes
  have hr := BB.returns
  have hts := atoms_spec (ws := wsX0_fewest) BB.pre
  have hown : s.vm.findClass RX0 = some m.cls := findClass_of_methodNamed BB.named
  have hlocks := BB.notSynchronized
  have hin : ∀ w ∈ wsX00, w ∈ wsX0_fewest := fun w h => (List.mem_cons_of_mem _ (List.mem_append_left _ (List.mem_append_right _ h)))
  have hD := hD0.self (sz := s.heap.size)
  have hA : ∀ q9 : Nat, s.heap.size ≤ q9 → va_A (wX q cI cZ cJ k V C T B P A n PR ST li w WK so sp CT SC TA) s.heap.size q9 := fun _ h => Or.inr h
  have hl := lv_entry ([.ref (q 0), .int p0]) (n := 4) (Nat.le_of_ble_eq_true rfl)
  rw [lg_entry_eq]
  generalize (lg_sl ([.ref (q 0), .int p0]) ++ List.replicate (4 - (lg_sl ([.ref (q 0), .int p0])).length) Slot.unset).toArray = ls at hl ⊢
  have hl : lv_has ls 4 [(0, .ref (q 0)), (1, .int p0)] := hl
  refine W_absR (fun R hR => ?_)
  have hR : R = ({ frames := 7, cells := 1, slots := 6, locals := 110 } : Room) := hR
  refine W_absQ (fun Q hQ => ?_)
  generalize ([.ref (q 0), .int p0] : List Value).toArray = args at hts hQ ⊢
  generalize va_A (wX q cI cZ cJ k V C T B P A n PR ST li w WK so sp CT SC TA) s.heap.size = A9 at hD hZ hA hQ
  refine W_start hP (A := A9) (fun H locs hP hS => ?_)
  refine lv_iload_n hx hb dX0_fewest_0 rfl (lv_at hl 1 rfl) ?_
  subst hQ
  refine kx_v (vx_runS (As := [.int p0]) (rest := []) ⟨hx, hb, hml, hown, hts⟩ (c_X0_checkAmount l hst D q cI cZ cJ k V C T B P A n PR ST li w WK so sp CT SC TA H.size p0) (va_cwS 1 hts gX0_fewest_X0_checkAmount rfl rfl rfl hd_X0_checkAmount.2 ⟨(by rw [hR]; exact Nat.le_of_ble_eq_true rfl), (by rw [hR]; exact Nat.le_of_ble_eq_true rfl)⟩) (pre_S hP hK hD hS hA hZ hg) rfl rfl hl.1 rfl (lv_room (Nat.le_of_ble_eq_true rfl)) dX0_fewest_1 ⟨(by rw [hR]; exact Nat.le_of_ble_eq_true rfl), (by rw [hR]; exact Nat.le_of_ble_eq_true rfl)⟩) hD hS hA rfl (fun E h => h) hout hlocks (Nat.le_of_ble_eq_true rfl) (Nat.le_of_ble_eq_true rfl) (fun u_1 H locs hp_3 hP hD hS => ?_)
  refine W_absQ (fun Q hQ => ?_)
  obtain ⟨j0, j0a, j0b, rfl⟩ := hp_3
  refine lv_aload_n hx hb dX0_fewest_4 rfl (lv_at hl 0 rfl) ?_
  refine lv_iload_n hx hb dX0_fewest_5 rfl (lv_at hl 1 rfl) ?_
  refine lv_aload_n hx hb dX0_fewest_6 rfl (lv_at hl 0 rfl) ?_
  refine gfX hx hb hts hin hown hK hP 3 (by decide) (List.mem_of_getElem? (i := 1) rfl) rfl rfl dX0_fewest_7 ?_
  refine k_v (va_runV (As := [.int (nI j0), .ref (q 3)]) (rest := []) ⟨hx, hb, hml, hown, hts⟩ (c_X0_scoreWays_T l hst D q cI cZ cJ k V C T B P A n PR ST li w WK so sp CT SC TA H.size j0 hk8 hV (by omega) (fun i hi => by have := hC i hi; omega)) (cwV 2 hts gX0_fewest_X0_scoreWays rfl rfl rfl hd_X0_scoreWays ⟨(by rw [hR]; exact Nat.le_of_ble_eq_true rfl), (by rw [hR]; exact Nat.le_of_ble_eq_true rfl)⟩) (pre_V hP hK hD hS hA hZ hg 0 (ci := 0) rfl rfl) rfl rfl hl.1 rfl (lv_room (Nat.le_of_ble_eq_true rfl)) dX0_fewest_10 ⟨(by rw [hR]; exact Nat.le_of_ble_eq_true rfl), (by rw [hR]; exact Nat.le_of_ble_eq_true rfl)⟩) hD hS hA (fun u_4 H locs hp_6 hP hD hS => ?_)
  have hsw := hp_6
  refine lv_aload_n hx hb dX0_fewest_13 rfl (lv_at hl 0 rfl) ?_
  refine lv_iload_n hx hb dX0_fewest_14 rfl (lv_at hl 1 rfl) ?_
  refine k_l (va_runV (As := [.int (nI j0)]) (rest := []) ⟨hx, hb, hml, hown, hts⟩ (c_X0_scoreOf l hst D q cI cZ cJ k V C T B P A n PR ST li w WK so sp CT u_4 TA H.size j0 (by omega)) (cwV 1 hts gX0_fewest_X0_scoreOf rfl rfl rfl hd_X0_scoreOf ⟨(by rw [hR]; exact Nat.le_of_ble_eq_true rfl), (by rw [hR]; exact Nat.le_of_ble_eq_true rfl)⟩) (pre_V hP hK hD hS hA hZ hg 0 (ci := 0) rfl rfl) rfl rfl hl.1 rfl (lv_room (Nat.le_of_ble_eq_true rfl)) dX0_fewest_15 ⟨(by rw [hR]; exact Nat.le_of_ble_eq_true rfl), (by rw [hR]; exact Nat.le_of_ble_eq_true rfl)⟩) hD hS hA (fun r_8 u_7 H locs hp_9 hP hD hS => ?_)
  subst hp_9
  refine lv_lstore_n (lv' := [(2, .long (lZ (u_4 j0))), (0, .ref (q 0)), (1, .int (nI j0))]) hx hb dX0_fewest_18 rfl hl (by decide) rfl (fun ls hl => ?_)
  refine lv_lload_n hx hb dX0_fewest_19 rfl (lv_at hl 0 rfl) ?_
  refine lv_ldc2 (v := (-4611686018427387904)) hx hb hown (hts _ (List.mem_of_getElem? (i := 2) rfl)) dX0_fewest_20 (n_topl (show ((-4611686018427387904) : Int64) = lZ (-4611686018427387904) from by decide) ?_)
  refine n_lcmp_ne (tgt := 31) hx hb dX0_fewest_23 dX0_fewest_24 (by decide) (fun c23 => ?_) (fun c23 => ?_)
  · have hne : u_4 j0 ≠ NW := fun q => c23 (congrArg lZ q)
    have hbw := isB_y hsw (Nat.le_refl _) hne
    have hwb := NW_bd (isB_bd (wS_bd8 hk8 (fun i hi => by have := hC i hi; omega) k (Nat.le_refl k)) hsw _ (Nat.le_refl _)) hne
    refine lv_lload_n hx hb dX0_fewest_31 rfl (lv_at hl 0 rfl) ?_
    refine k_i (va_runS (As := [.long (lZ (u_4 j0))]) (rest := []) ⟨hx, hb, hml, hown, hts⟩ (c_X0_coinsInWay l hst D q cI cZ cJ k V C T B P A n PR ST li w WK so sp CT u_4 TA H.size (u_4 j0) hwb) (va_cwS 1 hts gX0_fewest_X0_coinsInWay rfl rfl rfl hd_X0_coinsInWay.2 ⟨(by rw [hR]; exact Nat.le_of_ble_eq_true rfl), (by rw [hR]; exact Nat.le_of_ble_eq_true rfl)⟩) (pre_S hP hK hD hS hA hZ hg) rfl rfl hl.1 rfl (lv_room (Nat.le_of_ble_eq_true rfl)) dX0_fewest_32 ⟨(by rw [hR]; exact Nat.le_of_ble_eq_true rfl), (by rw [hR]; exact Nat.le_of_ble_eq_true rfl)⟩) hD hS hA (fun r_11 u_10 H locs hp_12 hP hD hS => ?_)
    subst hp_12
    subst hQ
    exact vx_ret (e_i (j0, cnz (u_4 j0), u_4) hx hb hr hlocks hS hP hD (⟨rfl, j0b, rfl, Or.inr ⟨_, hbw, rfl⟩⟩) (Nat.le_of_ble_eq_true rfl) (Nat.le_of_ble_eq_true rfl) dX0_fewest_35)
  · have hbo := isB_bd (wS_bd8 hk8 (fun i hi => by have := hC i hi; omega) k (Nat.le_refl k)) hsw j0 (Nat.le_refl _)
    have hNWl : NW = -4611686018427387904 := rfl
    have hnw := (isB_n hsw (Nat.le_refl _)).mp ((lZ_eq (by omega) (by omega) (by omega) (by omega)).mp c23)
    refine lv_iconst (v := nI 4294967295) hx hb dX0_fewest_27 (by decide) ?_
    refine lv_goto (tgt := 35) hx hb dX0_fewest_28 (by decide) ?_
    subst hQ
    exact vx_ret (e_i (j0, 4294967295, u_4) hx hb hr hlocks hS hP hD (⟨rfl, j0b, rfl, Or.inl ⟨hnw, rfl⟩⟩) (Nat.le_of_ble_eq_true rfl) (Nat.le_of_ble_eq_true rfl) dX0_fewest_35)
theorem hd_X0_fewest : yX0_fewest.cls = RX0 ∧ yX0_fewest.cls ≠ "java/lang/invoke/MethodHandle" ∧ yX0_fewest.cls ≠ "java/lang/invoke/VarHandle" ∧ (parseMethodDescriptor yX0_fewest.desc).map (fun d => d.parameters.length) = some 1 := by decide +kernel

set_option maxHeartbeats 4000000 in
set_option maxRecDepth 100000 in
theorem c_X0_part (l : Launch) (hst : l.stackTraces = false) (D : va_G) (q : Nat → Nat) (cI cZ cJ : ClassId) (k : Nat) (V : Nat → Nat) (C : Nat → Nat) (T : Nat → Nat) (B : Nat → Nat) (P : Nat → Nat) (A : Nat → Nat) (n : Nat) (PR : Nat → Nat) (ST : Nat → Nat) (li : Nat) (w : Nat) (WK : Nat → Nat) (so : Nat) (sp : Nat) (CT : Nat → Int64) (SC : Nat → Int) (TA : Nat → Nat) (sz : Nat) (p0 : Int32) (p1 : Int32) (hk8 : k ≤ 8) (hV : ∀ i, i < k → 1 ≤ V i ∧ V i ≤ 500) (hC : ∀ i, i < k → C i ≤ 60 ∧ T i ≤ C i) : vx_Met l yX0_part wsX0_part ({ frames := 7, cells := 2, slots := 12, locals := 111 }) (va_Pc [.ref (q 0), .int p0, .int p1] (cxP D (ty3 cI cZ cJ) (wX q cI cZ cJ k V C T B P A n PR ST li w WK so sp CT SC TA) sz)) (va_Qi (fun r (u : Nat × Nat × Nat × (Nat → Int)) => r = nI u.2.2.1 ∧ u.1 < 2001 ∧ u.2.1 < k ∧ p0 = nI u.1 ∧ p1 = nI u.2.1 ∧ ptR T V k u.1 u.2.1 u.2.2.1) (bW D (va_A (wX q cI cZ cJ k V C T B P A n PR ST li w WK so sp CT SC TA) sz) (fun u => (wX q cI cZ cJ k V C T B P A n PR ST li w WK so sp CT u.2.2.2 TA))) (va_A (wX q cI cZ cJ k V C T B P A n PR ST li w WK so sp CT SC TA) sz)) (xX D (fun E => (E = eIA ∧ ¬ rg p0 0 2001) ∨ (E = eIB ∧ rg p0 0 2001 ∧ ¬ rg p1 0 k)) (wX q cI cZ cJ k V C T B P A n PR ST li w WK so sp CT SC TA) (va_A (wX q cI cZ cJ k V C T B P A n PR ST li w WK so sp CT SC TA) sz)) 2 12 (va_A (wX q cI cZ cJ k V C T B P A n PR ST li w WK so sp CT SC TA) sz) := by
  refine vx_ofW (cc := cX0_part) (maxL := 5) (ret := (some .int)) (by decide) rfl ?_
  intro p e s m args below meth c s₁ BB hml hout hv
  obtain ⟨hav, hsz, hP, hK, hD0, hZ, hg⟩ := hv
  subst hsz
  subst hav
  have hx := BB.exec
  have hb := BB.bytes
  have hr := BB.returns
  have hts := atoms_spec (ws := wsX0_part) BB.pre
  have hown : s.vm.findClass RX0 = some m.cls := findClass_of_methodNamed BB.named
  have hlocks := BB.notSynchronized
  have hin : ∀ w ∈ wsX00, w ∈ wsX0_part := fun w h => (List.mem_cons_of_mem _ (List.mem_append_left _ (List.mem_append_left _ (List.mem_append_right _ h))))
  have hD := hD0.self (sz := s.heap.size)
  have hA : ∀ q9 : Nat, s.heap.size ≤ q9 → va_A (wX q cI cZ cJ k V C T B P A n PR ST li w WK so sp CT SC TA) s.heap.size q9 := fun _ h => Or.inr h
  have hl := lv_entry ([.ref (q 0), .int p0, .int p1]) (n := 5) (Nat.le_of_ble_eq_true rfl)
  rw [lg_entry_eq]
  generalize (lg_sl ([.ref (q 0), .int p0, .int p1]) ++ List.replicate (5 - (lg_sl ([.ref (q 0), .int p0, .int p1])).length) Slot.unset).toArray = ls at hl ⊢
  have hl : lv_has ls 5 [(0, .ref (q 0)), (1, .int p0), (2, .int p1)] := hl
  refine W_absR (fun R hR => ?_)
  have hR : R = ({ frames := 7, cells := 2, slots := 12, locals := 111 } : Room) := hR
  refine W_absQ (fun Q hQ => ?_)
  generalize ([.ref (q 0), .int p0, .int p1] : List Value).toArray = args at hts hQ ⊢
  generalize va_A (wX q cI cZ cJ k V C T B P A n PR ST li w WK so sp CT SC TA) s.heap.size = A9 at hD hZ hA hQ
  refine W_start hP (A := A9) (fun H locs hP hS => ?_)
  refine lv_iload_n hx hb dX0_part_0 rfl (lv_at hl 1 rfl) ?_
  subst hQ
  refine kx_v (vx_runS (As := [.int p0]) (rest := []) ⟨hx, hb, hml, hown, hts⟩ (c_X0_checkAmount l hst D q cI cZ cJ k V C T B P A n PR ST li w WK so sp CT SC TA H.size p0) (va_cwS 1 hts gX0_part_X0_checkAmount rfl rfl rfl hd_X0_checkAmount.2 ⟨(by rw [hR]; exact Nat.le_of_ble_eq_true rfl), (by rw [hR]; exact Nat.le_of_ble_eq_true rfl)⟩) (pre_S hP hK hD hS hA hZ hg) rfl rfl hl.1 rfl (lv_room (Nat.le_of_ble_eq_true rfl)) dX0_part_1 ⟨(by rw [hR]; exact Nat.le_of_ble_eq_true rfl), (by rw [hR]; exact Nat.le_of_ble_eq_true rfl)⟩) hD hS hA rfl (fun E h => Or.inl h) hout hlocks (Nat.le_of_ble_eq_true rfl) (Nat.le_of_ble_eq_true rfl) (fun u_1 H locs hp_3 hP hD hS => ?_)
  refine W_absQ (fun Q hQ => ?_)
  obtain ⟨j0, j0a, j0b, rfl⟩ := hp_3
  refine lv_aload_n hx hb dX0_part_4 rfl (lv_at hl 0 rfl) ?_
  refine lv_iload_n hx hb dX0_part_5 rfl (lv_at hl 2 rfl) ?_
  subst hQ
  refine kx_v (vx_runV (As := [.int p1]) (rest := []) ⟨hx, hb, hml, hown, hts⟩ (c_X0_checkKind l hst D q cI cZ cJ k V C T B P A n PR ST li w WK so sp CT SC TA H.size p1 hk8) (cwV 1 hts gX0_part_X0_checkKind rfl rfl rfl hd_X0_checkKind ⟨(by rw [hR]; exact Nat.le_of_ble_eq_true rfl), (by rw [hR]; exact Nat.le_of_ble_eq_true rfl)⟩) (pre_V hP hK hD hS hA hZ hg 0 (ci := 0) rfl rfl) rfl rfl hl.1 rfl (lv_room (Nat.le_of_ble_eq_true rfl)) dX0_part_6 ⟨(by rw [hR]; exact Nat.le_of_ble_eq_true rfl), (by rw [hR]; exact Nat.le_of_ble_eq_true rfl)⟩) hD hS hA rfl (fun E h => Or.inr ⟨h.1, ⟨j0, j0a, j0b, rfl⟩, h.2⟩) hout hlocks (Nat.le_of_ble_eq_true rfl) (Nat.le_of_ble_eq_true rfl) (fun u_4 H locs hp_6 hP hD hS => ?_)
  refine W_absQ (fun Q hQ => ?_)
  obtain ⟨j1, j1a, j1b, rfl⟩ := hp_6
  refine lv_aload_n hx hb dX0_part_9 rfl (lv_at hl 0 rfl) ?_
  refine lv_iload_n hx hb dX0_part_10 rfl (lv_at hl 1 rfl) ?_
  refine lv_aload_n hx hb dX0_part_11 rfl (lv_at hl 0 rfl) ?_
  refine gfX hx hb hts hin hown hK hP 3 (by decide) (List.mem_of_getElem? (i := 1) rfl) rfl rfl dX0_part_12 ?_
  refine k_v (va_runV (As := [.int (nI j0), .ref (q 3)]) (rest := []) ⟨hx, hb, hml, hown, hts⟩ (c_X0_scoreWays_T l hst D q cI cZ cJ k V C T B P A n PR ST li w WK so sp CT SC TA H.size j0 hk8 hV (by omega) (fun i hi => by have := hC i hi; omega)) (cwV 2 hts gX0_part_X0_scoreWays rfl rfl rfl hd_X0_scoreWays ⟨(by rw [hR]; exact Nat.le_of_ble_eq_true rfl), (by rw [hR]; exact Nat.le_of_ble_eq_true rfl)⟩) (pre_V hP hK hD hS hA hZ hg 0 (ci := 0) rfl rfl) rfl rfl hl.1 rfl (lv_room (Nat.le_of_ble_eq_true rfl)) dX0_part_15 ⟨(by rw [hR]; exact Nat.le_of_ble_eq_true rfl), (by rw [hR]; exact Nat.le_of_ble_eq_true rfl)⟩) hD hS hA (fun u_7 H locs hp_9 hP hD hS => ?_)
  have hsw := hp_9
  refine lv_aload_n hx hb dX0_part_18 rfl (lv_at hl 0 rfl) ?_
  refine lv_iload_n hx hb dX0_part_19 rfl (lv_at hl 1 rfl) ?_
  refine k_l (va_runV (As := [.int (nI j0)]) (rest := []) ⟨hx, hb, hml, hown, hts⟩ (c_X0_scoreOf l hst D q cI cZ cJ k V C T B P A n PR ST li w WK so sp CT u_7 TA H.size j0 (by omega)) (cwV 1 hts gX0_part_X0_scoreOf rfl rfl rfl hd_X0_scoreOf ⟨(by rw [hR]; exact Nat.le_of_ble_eq_true rfl), (by rw [hR]; exact Nat.le_of_ble_eq_true rfl)⟩) (pre_V hP hK hD hS hA hZ hg 0 (ci := 0) rfl rfl) rfl rfl hl.1 rfl (lv_room (Nat.le_of_ble_eq_true rfl)) dX0_part_20 ⟨(by rw [hR]; exact Nat.le_of_ble_eq_true rfl), (by rw [hR]; exact Nat.le_of_ble_eq_true rfl)⟩) hD hS hA (fun r_11 u_10 H locs hp_12 hP hD hS => ?_)
  subst hp_12
  refine lv_lstore_n (lv' := [(3, .long (lZ (u_7 j0))), (0, .ref (q 0)), (1, .int (nI j0)), (2, .int (nI j1))]) hx hb dX0_part_23 rfl hl (by decide) rfl (fun ls hl => ?_)
  refine lv_lload_n hx hb dX0_part_24 rfl (lv_at hl 0 rfl) ?_
  refine lv_ldc2 (v := (-4611686018427387904)) hx hb hown (hts _ (List.mem_of_getElem? (i := 2) rfl)) dX0_part_25 (n_topl (show ((-4611686018427387904) : Int64) = lZ (-4611686018427387904) from by decide) ?_)
  refine n_lcmp_ne (tgt := 36) hx hb dX0_part_28 dX0_part_29 (by decide) (fun c28 => ?_) (fun c28 => ?_)
  · have hne : u_7 j0 ≠ NW := fun q => c28 (congrArg lZ q)
    have hbw := isB_y hsw (Nat.le_refl _) hne
    have hwb := NW_bd (isB_bd (wS_bd8 hk8 (fun i hi => by have := hC i hi; omega) k (Nat.le_refl k)) hsw _ (Nat.le_refl _)) hne
    refine lv_aload_n hx hb dX0_part_36 rfl (lv_at hl 1 rfl) ?_
    refine lv_lload_n hx hb dX0_part_37 rfl (lv_at hl 0 rfl) ?_
    refine lv_iload_n hx hb dX0_part_38 rfl (lv_at hl 3 rfl) ?_
    refine k_i (va_runV (As := [.long (lZ (u_7 j0)), .int (nI j1)]) (rest := []) ⟨hx, hb, hml, hown, hts⟩ (c_X0_coinsOfKindInWay l hst D q cI cZ cJ k V C T B P A n PR ST li w WK so sp CT u_7 TA H.size (u_7 j0) j1 hwb hk8 hV j1b) (cwV 2 hts gX0_part_X0_coinsOfKindInWay rfl rfl rfl hd_X0_coinsOfKindInWay ⟨(by rw [hR]; exact Nat.le_of_ble_eq_true rfl), (by rw [hR]; exact Nat.le_of_ble_eq_true rfl)⟩) (pre_V hP hK hD hS hA hZ hg 0 (ci := 0) rfl rfl) rfl rfl hl.1 rfl (lv_room (Nat.le_of_ble_eq_true rfl)) dX0_part_39 ⟨(by rw [hR]; exact Nat.le_of_ble_eq_true rfl), (by rw [hR]; exact Nat.le_of_ble_eq_true rfl)⟩) hD hS hA (fun r_14 u_13 H locs hp_15 hP hD hS => ?_)
    subst hp_15
    subst hQ
    exact vx_ret (e_i (j0, j1, pz (u_7 j0) (lc V (V j1) k), u_7) hx hb hr hlocks hS hP hD (⟨rfl, j0b, j1b, rfl, rfl, Or.inr ⟨_, hbw, rfl⟩⟩) (Nat.le_of_ble_eq_true rfl) (Nat.le_of_ble_eq_true rfl) dX0_part_42)
  · have hbo := isB_bd (wS_bd8 hk8 (fun i hi => by have := hC i hi; omega) k (Nat.le_refl k)) hsw j0 (Nat.le_refl _)
    have hNWl : NW = -4611686018427387904 := rfl
    have hnw := (isB_n hsw (Nat.le_refl _)).mp ((lZ_eq (by omega) (by omega) (by omega) (by omega)).mp c28)
    refine lv_iconst (v := nI 4294967295) hx hb dX0_part_32 (by decide) ?_
    refine lv_goto (tgt := 42) hx hb dX0_part_33 (by decide) ?_
    subst hQ
    exact vx_ret (e_i (j0, j1, 4294967295, u_7) hx hb hr hlocks hS hP hD (⟨rfl, j0b, j1b, rfl, rfl, Or.inl ⟨hnw, rfl⟩⟩) (Nat.le_of_ble_eq_true rfl) (Nat.le_of_ble_eq_true rfl) dX0_part_42)
theorem hd_X0_part : yX0_part.cls = RX0 ∧ yX0_part.cls ≠ "java/lang/invoke/MethodHandle" ∧ yX0_part.cls ≠ "java/lang/invoke/VarHandle" ∧ (parseMethodDescriptor yX0_part.desc).map (fun d => d.parameters.length) = some 2 := by decide +kernel

set_option maxHeartbeats 4000000 in
set_option maxRecDepth 100000 in
theorem c_X0_below (l : Launch) (hst : l.stackTraces = false) (D : va_G) (q : Nat → Nat) (cI cZ cJ : ClassId) (k : Nat) (V : Nat → Nat) (C : Nat → Nat) (T : Nat → Nat) (B : Nat → Nat) (P : Nat → Nat) (A : Nat → Nat) (n : Nat) (PR : Nat → Nat) (ST : Nat → Nat) (li : Nat) (w : Nat) (WK : Nat → Nat) (so : Nat) (sp : Nat) (CT : Nat → Int64) (SC : Nat → Int) (TA : Nat → Nat) (sz : Nat) (p0 : Int32) (hk8 : k ≤ 8) (hV : ∀ i, i < k → 1 ≤ V i ∧ V i ≤ 500) (hC : ∀ i, i < k → C i ≤ 60 ∧ T i ≤ C i) : vx_Met l yX0_below wsX0_below ({ frames := 7, cells := 1, slots := 6, locals := 110 }) (va_Pc [.ref (q 0), .int p0] (cxP D (ty3 cI cZ cJ) (wX q cI cZ cJ k V C T B P A n PR ST li w WK so sp CT SC TA) sz)) (va_Qi (fun r (u : Nat × Nat × (Nat → Int)) => r = nI u.2.1 ∧ u.1 < 2001 ∧ p0 = nI u.1 ∧ blR T V k u.1 u.2.1) (bW D (va_A (wX q cI cZ cJ k V C T B P A n PR ST li w WK so sp CT SC TA) sz) (fun u => (wX q cI cZ cJ k V C T B P A n PR ST li w WK so sp CT u.2.2 TA))) (va_A (wX q cI cZ cJ k V C T B P A n PR ST li w WK so sp CT SC TA) sz)) (xX D (fun E => E = eIA ∧ ¬ rg p0 0 2001) (wX q cI cZ cJ k V C T B P A n PR ST li w WK so sp CT SC TA) (va_A (wX q cI cZ cJ k V C T B P A n PR ST li w WK so sp CT SC TA) sz)) 1 6 (va_A (wX q cI cZ cJ k V C T B P A n PR ST li w WK so sp CT SC TA) sz) := by
  refine vx_ofW (cc := cX0_below) (maxL := 3) (ret := (some .int)) (by decide) rfl ?_
  intro p e s m args below meth c s₁ BB hml hout hv
  obtain ⟨hav, hsz, hP, hK, hD0, hZ, hg⟩ := hv
  subst hsz
  subst hav
  have hx := BB.exec
  have hb := BB.bytes
  have hr := BB.returns
  have hts := atoms_spec (ws := wsX0_below) BB.pre
  have hown : s.vm.findClass RX0 = some m.cls := findClass_of_methodNamed BB.named
  have hlocks := BB.notSynchronized
  have hin : ∀ w ∈ wsX00, w ∈ wsX0_below := fun w h => (List.mem_cons_of_mem _ (List.mem_append_left _ (List.mem_append_right _ h)))
  have hD := hD0.self (sz := s.heap.size)
  have hA : ∀ q9 : Nat, s.heap.size ≤ q9 → va_A (wX q cI cZ cJ k V C T B P A n PR ST li w WK so sp CT SC TA) s.heap.size q9 := fun _ h => Or.inr h
  have hl := lv_entry ([.ref (q 0), .int p0]) (n := 3) (Nat.le_of_ble_eq_true rfl)
  rw [lg_entry_eq]
  generalize (lg_sl ([.ref (q 0), .int p0]) ++ List.replicate (3 - (lg_sl ([.ref (q 0), .int p0])).length) Slot.unset).toArray = ls at hl ⊢
  have hl : lv_has ls 3 [(0, .ref (q 0)), (1, .int p0)] := hl
  refine W_absR (fun R hR => ?_)
  have hR : R = ({ frames := 7, cells := 1, slots := 6, locals := 110 } : Room) := hR
  refine W_absQ (fun Q hQ => ?_)
  generalize ([.ref (q 0), .int p0] : List Value).toArray = args at hts hQ ⊢
  generalize va_A (wX q cI cZ cJ k V C T B P A n PR ST li w WK so sp CT SC TA) s.heap.size = A9 at hD hZ hA hQ
  refine W_start hP (A := A9) (fun H locs hP hS => ?_)
  refine lv_iload_n hx hb dX0_below_0 rfl (lv_at hl 1 rfl) ?_
  subst hQ
  refine kx_v (vx_runS (As := [.int p0]) (rest := []) ⟨hx, hb, hml, hown, hts⟩ (c_X0_checkAmount l hst D q cI cZ cJ k V C T B P A n PR ST li w WK so sp CT SC TA H.size p0) (va_cwS 1 hts gX0_below_X0_checkAmount rfl rfl rfl hd_X0_checkAmount.2 ⟨(by rw [hR]; exact Nat.le_of_ble_eq_true rfl), (by rw [hR]; exact Nat.le_of_ble_eq_true rfl)⟩) (pre_S hP hK hD hS hA hZ hg) rfl rfl hl.1 rfl (lv_room (Nat.le_of_ble_eq_true rfl)) dX0_below_1 ⟨(by rw [hR]; exact Nat.le_of_ble_eq_true rfl), (by rw [hR]; exact Nat.le_of_ble_eq_true rfl)⟩) hD hS hA rfl (fun E h => h) hout hlocks (Nat.le_of_ble_eq_true rfl) (Nat.le_of_ble_eq_true rfl) (fun u_1 H locs hp_3 hP hD hS => ?_)
  refine W_absQ (fun Q hQ => ?_)
  obtain ⟨j0, j0a, j0b, rfl⟩ := hp_3
  refine lv_aload_n hx hb dX0_below_4 rfl (lv_at hl 0 rfl) ?_
  refine lv_iload_n hx hb dX0_below_5 rfl (lv_at hl 1 rfl) ?_
  refine lv_aload_n hx hb dX0_below_6 rfl (lv_at hl 0 rfl) ?_
  refine gfX hx hb hts hin hown hK hP 3 (by decide) (List.mem_of_getElem? (i := 1) rfl) rfl rfl dX0_below_7 ?_
  refine k_v (va_runV (As := [.int (nI j0), .ref (q 3)]) (rest := []) ⟨hx, hb, hml, hown, hts⟩ (c_X0_scoreWays_T l hst D q cI cZ cJ k V C T B P A n PR ST li w WK so sp CT SC TA H.size j0 hk8 hV (by omega) (fun i hi => by have := hC i hi; omega)) (cwV 2 hts gX0_below_X0_scoreWays rfl rfl rfl hd_X0_scoreWays ⟨(by rw [hR]; exact Nat.le_of_ble_eq_true rfl), (by rw [hR]; exact Nat.le_of_ble_eq_true rfl)⟩) (pre_V hP hK hD hS hA hZ hg 0 (ci := 0) rfl rfl) rfl rfl hl.1 rfl (lv_room (Nat.le_of_ble_eq_true rfl)) dX0_below_10 ⟨(by rw [hR]; exact Nat.le_of_ble_eq_true rfl), (by rw [hR]; exact Nat.le_of_ble_eq_true rfl)⟩) hD hS hA (fun u_4 H locs hp_6 hP hD hS => ?_)
  have hsw := hp_6
  refine lv_iload_n hx hb dX0_below_13 rfl (lv_at hl 1 rfl) ?_
  refine lv_istore_n (lv' := [(2, .int (nI j0)), (0, .ref (q 0)), (1, .int (nI j0))]) hx hb dX0_below_14 rfl hl (by decide) rfl (fun ls hl => ?_)
  have lp_15 : ∀ (fu_15 : Nat) (lw : Nat), lw < fu_15 → (lw ≤ j0) → (∀ b, lw < b → b ≤ j0 → nway T V k b) → ∀ (H : Heap) (locs : List Loc), va_P D vwCl (wX q cI cZ cJ k V C T B P A n PR ST li w WK so sp CT u_4 TA) H → va_D A9 (wX q cI cZ cJ k V C T B P A n PR ST li w WK so sp CT u_4 TA) → va_S A9 s.heap H locs → ∀ ls : Array Slot, lv_has ls 3 [(2, .int (nI lw)), (0, .ref (q 0))] → W p l e R s m args below meth c H locs (0 + 1) (0 + 6) Q (F0 m 15 ls []) := by
    intro fu_15
    induction fu_15 with
    | zero =>
      intro lw hfu_15
      exact absurd hfu_15 (Nat.not_lt_zero _)
    | succ fu_15 ih_15 =>
      intro lw hfu_15 hlw hs H locs hP hD hS ls hl
      refine lv_iload_n hx hb dX0_below_15 rfl (lv_at hl 0 rfl) ?_
      refine n_if_le (tgt := 39) hx hb (by omega) dX0_below_16 (by decide) (fun c16 => ?_) (fun c16 => ?_)
      · refine lv_iconst (v := nI 0) hx hb dX0_below_39 (ic_0) ?_
        subst hQ
        exact vx_ret (e_i (j0, 0, u_4) hx hb hr hlocks hS hP hD (⟨rfl, j0b, rfl, Nat.zero_le _, nway_0, fun b h1 h2 => hs b (by omega) h2⟩) (Nat.le_of_ble_eq_true rfl) (Nat.le_of_ble_eq_true rfl) dX0_below_40)
      · refine lv_aload_n hx hb dX0_below_19 rfl (lv_at hl 1 rfl) ?_
        refine lv_iload_n hx hb dX0_below_20 rfl (lv_at hl 0 rfl) ?_
        refine k_l (va_runV (As := [.int (nI lw)]) (rest := []) ⟨hx, hb, hml, hown, hts⟩ (c_X0_scoreOf l hst D q cI cZ cJ k V C T B P A n PR ST li w WK so sp CT u_4 TA H.size lw (by omega)) (cwV 1 hts gX0_below_X0_scoreOf rfl rfl rfl hd_X0_scoreOf ⟨(by rw [hR]; exact Nat.le_of_ble_eq_true rfl), (by rw [hR]; exact Nat.le_of_ble_eq_true rfl)⟩) (pre_V hP hK hD hS hA hZ hg 0 (ci := 0) rfl rfl) rfl rfl hl.1 rfl (lv_room (Nat.le_of_ble_eq_true rfl)) dX0_below_21 ⟨(by rw [hR]; exact Nat.le_of_ble_eq_true rfl), (by rw [hR]; exact Nat.le_of_ble_eq_true rfl)⟩) hD hS hA (fun r_8 u_7 H locs hp_9 hP hD hS => ?_)
        subst hp_9
        refine lv_ldc2 (v := (-4611686018427387904)) hx hb hown (hts _ (List.mem_of_getElem? (i := 2) rfl)) dX0_below_24 (n_topl (show ((-4611686018427387904) : Int64) = lZ (-4611686018427387904) from by decide) ?_)
        refine n_lcmp_eq (tgt := 33) hx hb dX0_below_27 dX0_below_28 (by decide) (fun c27 => ?_) (fun c27 => ?_)
        · have hbo := isB_bd (wS_bd8 hk8 (fun i hi => by have := hC i hi; omega) k (Nat.le_refl k)) hsw lw hlw
          have hNWl : NW = -4611686018427387904 := rfl
          have hnw := (isB_n hsw hlw).mp ((lZ_eq (by omega) (by omega) (by omega) (by omega)).mp c27)
          refine lv_iinc (v := nI (lw - 1)) (lv' := [(2, .int (nI (lw - 1))), (0, .ref (q 0))]) hx hb dX0_below_33 hl (k := 0) rfl (ni_dec (by omega)) (by decide) rfl (fun ls hl => ?_)
          refine lv_goto (tgt := 15) hx hb dX0_below_36 (by decide) ?_
          exact ih_15 (lw - 1) (by omega) (by omega) (fun b h1 h2 => by rcases Nat.lt_or_ge lw b with h | h; exact hs b h h2; (rw [show b = lw by omega]; exact hnw)) _ _ hP hD hS ls (lv_sub hl [0, 1] rfl)
        · have hnn : ¬ nway T V k lw := fun h => c27 (congrArg lZ ((isB_n hsw hlw).mpr h))
          refine lv_iload_n hx hb dX0_below_31 rfl (lv_at hl 0 rfl) ?_
          subst hQ
          exact vx_ret (e_i (j0, lw, u_4) hx hb hr hlocks hS hP hD (⟨rfl, j0b, rfl, hlw, hnn, hs⟩) (Nat.le_of_ble_eq_true rfl) (Nat.le_of_ble_eq_true rfl) dX0_below_32)
  exact lp_15 _ j0 (Nat.lt_succ_self _) (by omega) (fun b h1 h2 => absurd h1 (by omega)) _ _ hP hD hS ls (lv_sub hl [0, 1] rfl)
theorem hd_X0_below : yX0_below.cls = RX0 ∧ yX0_below.cls ≠ "java/lang/invoke/MethodHandle" ∧ yX0_below.cls ≠ "java/lang/invoke/VarHandle" ∧ (parseMethodDescriptor yX0_below.desc).map (fun d => d.parameters.length) = some 1 := by decide +kernel

set_option maxHeartbeats 4000000 in
set_option maxRecDepth 100000 in
theorem c_X0_gaps (l : Launch) (hst : l.stackTraces = false) (D : va_G) (q : Nat → Nat) (cI cZ cJ : ClassId) (k : Nat) (V : Nat → Nat) (C : Nat → Nat) (T : Nat → Nat) (B : Nat → Nat) (P : Nat → Nat) (A : Nat → Nat) (n : Nat) (PR : Nat → Nat) (ST : Nat → Nat) (li : Nat) (w : Nat) (WK : Nat → Nat) (so : Nat) (sp : Nat) (CT : Nat → Int64) (SC : Nat → Int) (TA : Nat → Nat) (sz : Nat) (p0 : Int32) (hk8 : k ≤ 8) (hV : ∀ i, i < k → 1 ≤ V i ∧ V i ≤ 500) (hC : ∀ i, i < k → C i ≤ 60 ∧ T i ≤ C i) : vx_Met l yX0_gaps wsX0_gaps ({ frames := 7, cells := 1, slots := 6, locals := 110 }) (va_Pc [.ref (q 0), .int p0] (cxP D (ty3 cI cZ cJ) (wX q cI cZ cJ k V C T B P A n PR ST li w WK so sp CT SC TA) sz)) (va_Qi (fun r (u : Nat × (Nat → Int)) => r = nI (gpR T V k u.1) ∧ u.1 < 2001 ∧ p0 = nI u.1) (bW D (va_A (wX q cI cZ cJ k V C T B P A n PR ST li w WK so sp CT SC TA) sz) (fun u => (wX q cI cZ cJ k V C T B P A n PR ST li w WK so sp CT u.2 TA))) (va_A (wX q cI cZ cJ k V C T B P A n PR ST li w WK so sp CT SC TA) sz)) (xX D (fun E => E = eIA ∧ ¬ rg p0 0 2001) (wX q cI cZ cJ k V C T B P A n PR ST li w WK so sp CT SC TA) (va_A (wX q cI cZ cJ k V C T B P A n PR ST li w WK so sp CT SC TA) sz)) 1 6 (va_A (wX q cI cZ cJ k V C T B P A n PR ST li w WK so sp CT SC TA) sz) := by
  refine vx_ofW (cc := cX0_gaps) (maxL := 5) (ret := (some .int)) (by decide) rfl ?_
  intro p e s m args below meth c s₁ BB hml hout hv
  obtain ⟨hav, hsz, hP, hK, hD0, hZ, hg⟩ := hv
  subst hsz
  subst hav
  have hx := BB.exec
  have hb := BB.bytes
  have hr := BB.returns
  have hts := atoms_spec (ws := wsX0_gaps) BB.pre
  have hown : s.vm.findClass RX0 = some m.cls := findClass_of_methodNamed BB.named
  have hlocks := BB.notSynchronized
  have hin : ∀ w ∈ wsX00, w ∈ wsX0_gaps := fun w h => (List.mem_cons_of_mem _ (List.mem_append_left _ (List.mem_append_right _ h)))
  have hD := hD0.self (sz := s.heap.size)
  have hA : ∀ q9 : Nat, s.heap.size ≤ q9 → va_A (wX q cI cZ cJ k V C T B P A n PR ST li w WK so sp CT SC TA) s.heap.size q9 := fun _ h => Or.inr h
  have hl := lv_entry ([.ref (q 0), .int p0]) (n := 5) (Nat.le_of_ble_eq_true rfl)
  rw [lg_entry_eq]
  generalize (lg_sl ([.ref (q 0), .int p0]) ++ List.replicate (5 - (lg_sl ([.ref (q 0), .int p0])).length) Slot.unset).toArray = ls at hl ⊢
  have hl : lv_has ls 5 [(0, .ref (q 0)), (1, .int p0)] := hl
  refine W_absR (fun R hR => ?_)
  have hR : R = ({ frames := 7, cells := 1, slots := 6, locals := 110 } : Room) := hR
  refine W_absQ (fun Q hQ => ?_)
  generalize ([.ref (q 0), .int p0] : List Value).toArray = args at hts hQ ⊢
  generalize va_A (wX q cI cZ cJ k V C T B P A n PR ST li w WK so sp CT SC TA) s.heap.size = A9 at hD hZ hA hQ
  refine W_start hP (A := A9) (fun H locs hP hS => ?_)
  refine lv_iload_n hx hb dX0_gaps_0 rfl (lv_at hl 1 rfl) ?_
  subst hQ
  refine kx_v (vx_runS (As := [.int p0]) (rest := []) ⟨hx, hb, hml, hown, hts⟩ (c_X0_checkAmount l hst D q cI cZ cJ k V C T B P A n PR ST li w WK so sp CT SC TA H.size p0) (va_cwS 1 hts gX0_gaps_X0_checkAmount rfl rfl rfl hd_X0_checkAmount.2 ⟨(by rw [hR]; exact Nat.le_of_ble_eq_true rfl), (by rw [hR]; exact Nat.le_of_ble_eq_true rfl)⟩) (pre_S hP hK hD hS hA hZ hg) rfl rfl hl.1 rfl (lv_room (Nat.le_of_ble_eq_true rfl)) dX0_gaps_1 ⟨(by rw [hR]; exact Nat.le_of_ble_eq_true rfl), (by rw [hR]; exact Nat.le_of_ble_eq_true rfl)⟩) hD hS hA rfl (fun E h => h) hout hlocks (Nat.le_of_ble_eq_true rfl) (Nat.le_of_ble_eq_true rfl) (fun u_1 H locs hp_3 hP hD hS => ?_)
  refine W_absQ (fun Q hQ => ?_)
  obtain ⟨j0, j0a, j0b, rfl⟩ := hp_3
  refine lv_aload_n hx hb dX0_gaps_4 rfl (lv_at hl 0 rfl) ?_
  refine k_i (va_runV (As := []) (rest := []) ⟨hx, hb, hml, hown, hts⟩ (c_X0_unit l hst D q cI cZ cJ k V C T B P A n PR ST li w WK so sp CT SC TA H.size hk8 hV) (cwV 0 hts gX0_gaps_X0_unit rfl rfl rfl hd_X0_unit ⟨(by rw [hR]; exact Nat.le_of_ble_eq_true rfl), (by rw [hR]; exact Nat.le_of_ble_eq_true rfl)⟩) (pre_V hP hK hD hS hA hZ hg 0 (ci := 0) rfl rfl) rfl rfl hl.1 rfl (lv_room (Nat.le_of_ble_eq_true rfl)) dX0_gaps_5 ⟨(by rw [hR]; exact Nat.le_of_ble_eq_true rfl), (by rw [hR]; exact Nat.le_of_ble_eq_true rfl)⟩) hD hS hA (fun r_5 u_4 H locs hp_6 hP hD hS => ?_)
  subst hp_6
  have hgl : gu V k ≤ 500 := by unfold gu; split; omega; exact fd_le V k 500
  refine lv_istore_n (lv' := [(2, .int (nI (gu V k))), (0, .ref (q 0)), (1, .int (nI j0))]) hx hb dX0_gaps_8 rfl hl (by decide) rfl (fun ls hl => ?_)
  refine lv_iload_n hx hb dX0_gaps_9 rfl (lv_at hl 0 rfl) ?_
  refine lv_iconst (v := nI 1) hx hb dX0_gaps_10 (ic_1) ?_
  refine n_icmp_ge (tgt := 16) hx hb (by omega) (by omega) dX0_gaps_11 (by decide) (fun c11 => ?_) (fun c11 => ?_)
  · refine lv_aload_n hx hb dX0_gaps_16 rfl (lv_at hl 1 rfl) ?_
    refine lv_iload_n hx hb dX0_gaps_17 rfl (lv_at hl 2 rfl) ?_
    refine lv_aload_n hx hb dX0_gaps_18 rfl (lv_at hl 1 rfl) ?_
    refine gfX hx hb hts hin hown hK hP 3 (by decide) (List.mem_of_getElem? (i := 1) rfl) rfl rfl dX0_gaps_19 ?_
    refine k_v (va_runV (As := [.int (nI j0), .ref (q 3)]) (rest := []) ⟨hx, hb, hml, hown, hts⟩ (c_X0_scoreWays_T l hst D q cI cZ cJ k V C T B P A n PR ST li w WK so sp CT SC TA H.size j0 hk8 hV (by omega) (fun i hi => by have := hC i hi; omega)) (cwV 2 hts gX0_gaps_X0_scoreWays rfl rfl rfl hd_X0_scoreWays ⟨(by rw [hR]; exact Nat.le_of_ble_eq_true rfl), (by rw [hR]; exact Nat.le_of_ble_eq_true rfl)⟩) (pre_V hP hK hD hS hA hZ hg 0 (ci := 0) rfl rfl) rfl rfl hl.1 rfl (lv_room (Nat.le_of_ble_eq_true rfl)) dX0_gaps_22 ⟨(by rw [hR]; exact Nat.le_of_ble_eq_true rfl), (by rw [hR]; exact Nat.le_of_ble_eq_true rfl)⟩) hD hS hA (fun u_7 H locs hp_9 hP hD hS => ?_)
    have hsw := hp_9
    refine lv_iconst (v := nI 0) hx hb dX0_gaps_25 (ic_0) ?_
    refine lv_istore_n (lv' := [(3, .int (nI 0)), (2, .int (nI (gu V k))), (0, .ref (q 0)), (1, .int (nI j0))]) hx hb dX0_gaps_26 rfl hl (by decide) rfl (fun ls hl => ?_)
    refine lv_iconst (v := nI 1) hx hb dX0_gaps_27 (ic_1) ?_
    refine lv_istore (lv' := [(4, .int (nI 1)), (3, .int (nI 0)), (2, .int (nI (gu V k))), (0, .ref (q 0)), (1, .int (nI j0))]) hx hb dX0_gaps_28 hl (by decide) rfl (fun ls hl => ?_)
    have lp_30 : ∀ (fu_30 : Nat) (lo : Nat) (gp : Nat), j0 + 1 - lo < fu_30 → (1 ≤ lo ∧ lo ≤ j0 + 1) → (gp = gpc (fun b => b % gu V k = 0 ∧ nway T V k b) (lo - 1)) → ∀ (H : Heap) (locs : List Loc), va_P D vwCl (wX q cI cZ cJ k V C T B P A n PR ST li w WK so sp CT u_7 TA) H → va_D A9 (wX q cI cZ cJ k V C T B P A n PR ST li w WK so sp CT u_7 TA) → va_S A9 s.heap H locs → ∀ ls : Array Slot, lv_has ls 5 [(4, .int (nI lo)), (3, .int (nI gp)), (0, .ref (q 0)), (1, .int (nI j0)), (2, .int (nI (gu V k)))] → W p l e R s m args below meth c H locs (0 + 1) (0 + 6) Q (F0 m 30 ls []) := by
      intro fu_30
      induction fu_30 with
      | zero =>
        intro lo gp hfu_30
        exact absurd hfu_30 (Nat.not_lt_zero _)
      | succ fu_30 ih_30 =>
        intro lo gp hfu_30 hlo hs H locs hP hD hS ls hl
        refine lv_iload hx hb dX0_gaps_30 (lv_at hl 0 rfl) ?_
        refine lv_iload_n hx hb dX0_gaps_32 rfl (lv_at hl 3 rfl) ?_
        refine n_icmp_gt (tgt := 65) hx hb (by omega) (by omega) dX0_gaps_33 (by decide) (fun c33 => ?_) (fun c33 => ?_)
        · refine lv_iload_n hx hb dX0_gaps_65 rfl (lv_at hl 1 rfl) ?_
          subst hQ
          exact vx_ret (e_i (j0, u_7) hx hb hr hlocks hS hP hD (⟨congrArg nI (by unfold gpR; rw [if_neg (by omega), hs, show lo - 1 = j0 by omega]), j0b, rfl⟩) (Nat.le_of_ble_eq_true rfl) (Nat.le_of_ble_eq_true rfl) dX0_gaps_66)
        · refine lv_iload hx hb dX0_gaps_36 (lv_at hl 0 rfl) ?_
          refine lv_iload_n hx hb dX0_gaps_38 rfl (lv_at hl 4 rfl) ?_
          refine n_irem hx hb (by omega) (by omega) (by omega) dX0_gaps_39 ?_
          refine n_if_ne (tgt := 59) hx hb (by have := Nat.mod_lt lo (show gu V k > 0 by omega); omega) dX0_gaps_40 (by decide) (fun c40 => ?_) (fun c40 => ?_)
          · have hs2 : gp = gpc (fun b => b % gu V k = 0 ∧ nway T V k b) (lo + 1 - 1) := by rw [show lo + 1 - 1 = lo by omega, gpc_n' hlo.1 (fun q => c40 q.1)]; exact hs
            refine lv_iinc (v := nI (lo + 1)) (lv' := [(4, .int (nI (lo + 1))), (3, .int (nI gp)), (0, .ref (q 0)), (1, .int (nI j0)), (2, .int (nI (gu V k)))]) hx hb dX0_gaps_59 hl (k := 0) rfl (ni_inc _ 1) (by decide) rfl (fun ls hl => ?_)
            refine lv_goto (tgt := 30) hx hb dX0_gaps_62 (by decide) ?_
            exact ih_30 (lo + 1) gp (by omega) (⟨by omega, by omega⟩) hs2 _ _ hP hD hS ls (lv_sub hl [0, 1, 2, 3, 4] rfl)
          · refine lv_aload_n hx hb dX0_gaps_43 rfl (lv_at hl 2 rfl) ?_
            refine lv_iload hx hb dX0_gaps_44 (lv_at hl 0 rfl) ?_
            refine k_l (va_runV (As := [.int (nI lo)]) (rest := []) ⟨hx, hb, hml, hown, hts⟩ (c_X0_scoreOf l hst D q cI cZ cJ k V C T B P A n PR ST li w WK so sp CT u_7 TA H.size lo (by omega)) (cwV 1 hts gX0_gaps_X0_scoreOf rfl rfl rfl hd_X0_scoreOf ⟨(by rw [hR]; exact Nat.le_of_ble_eq_true rfl), (by rw [hR]; exact Nat.le_of_ble_eq_true rfl)⟩) (pre_V hP hK hD hS hA hZ hg 0 (ci := 0) rfl rfl) rfl rfl hl.1 rfl (lv_room (Nat.le_of_ble_eq_true rfl)) dX0_gaps_46 ⟨(by rw [hR]; exact Nat.le_of_ble_eq_true rfl), (by rw [hR]; exact Nat.le_of_ble_eq_true rfl)⟩) hD hS hA (fun r_11 u_10 H locs hp_12 hP hD hS => ?_)
            subst hp_12
            refine lv_ldc2 (v := (-4611686018427387904)) hx hb hown (hts _ (List.mem_of_getElem? (i := 2) rfl)) dX0_gaps_49 (n_topl (show ((-4611686018427387904) : Int64) = lZ (-4611686018427387904) from by decide) ?_)
            refine n_lcmp_ne (tgt := 59) hx hb dX0_gaps_52 dX0_gaps_53 (by decide) (fun c52 => ?_) (fun c52 => ?_)
            · have hs2 : gp = gpc (fun b => b % gu V k = 0 ∧ nway T V k b) (lo + 1 - 1) := by rw [show lo + 1 - 1 = lo by omega, gpc_n' hlo.1 (fun q => c52 (congrArg lZ ((isB_n hsw (by omega)).mpr q.2)))]; exact hs
              refine lv_iinc (v := nI (lo + 1)) (lv' := [(4, .int (nI (lo + 1))), (3, .int (nI gp)), (0, .ref (q 0)), (1, .int (nI j0)), (2, .int (nI (gu V k)))]) hx hb dX0_gaps_59 hl (k := 0) rfl (ni_inc _ 1) (by decide) rfl (fun ls hl => ?_)
              refine lv_goto (tgt := 30) hx hb dX0_gaps_62 (by decide) ?_
              exact ih_30 (lo + 1) gp (by omega) (⟨by omega, by omega⟩) hs2 _ _ hP hD hS ls (lv_sub hl [0, 1, 2, 3, 4] rfl)
            · have hbo := isB_bd (wS_bd8 hk8 (fun i hi => by have := hC i hi; omega) k (Nat.le_refl k)) hsw lo (by omega)
              have hNWl : NW = -4611686018427387904 := rfl
              have hnw := (isB_n hsw (by omega)).mp ((lZ_eq (by omega) (by omega) (by omega) (by omega)).mp c52)
              have hs2 : gp + 1 = gpc (fun b => b % gu V k = 0 ∧ nway T V k b) (lo + 1 - 1) := by rw [show lo + 1 - 1 = lo by omega, gpc_y' hlo.1 ⟨c40, hnw⟩, hs]
              refine lv_iinc (v := nI (gp + 1)) (lv' := [(3, .int (nI (gp + 1))), (4, .int (nI lo)), (0, .ref (q 0)), (1, .int (nI j0)), (2, .int (nI (gu V k)))]) hx hb dX0_gaps_56 hl (k := 1) rfl (ni_inc _ 1) (by decide) rfl (fun ls hl => ?_)
              refine lv_iinc (v := nI (lo + 1)) (lv' := [(4, .int (nI (lo + 1))), (3, .int (nI (gp + 1))), (0, .ref (q 0)), (1, .int (nI j0)), (2, .int (nI (gu V k)))]) hx hb dX0_gaps_59 hl (k := 1) rfl (ni_inc _ 1) (by decide) rfl (fun ls hl => ?_)
              refine lv_goto (tgt := 30) hx hb dX0_gaps_62 (by decide) ?_
              exact ih_30 (lo + 1) (gp + 1) (by omega) (⟨by omega, by omega⟩) hs2 _ _ hP hD hS ls (lv_sub hl [0, 1, 2, 3, 4] rfl)
    exact lp_30 _ 1 0 (Nat.lt_succ_self _) (⟨by omega, by omega⟩) rfl _ _ hP hD hS ls (lv_sub hl [0, 1, 3, 4, 2] rfl)
  · refine lv_iconst (v := nI 0) hx hb dX0_gaps_14 (ic_0) ?_
    subst hQ
    exact vx_ret (e_i (j0, SC) hx hb hr hlocks hS hP hD (⟨congrArg nI (if_pos (by omega)).symm, j0b, rfl⟩) (Nat.le_of_ble_eq_true rfl) (Nat.le_of_ble_eq_true rfl) dX0_gaps_15)
theorem hd_X0_gaps : yX0_gaps.cls = RX0 ∧ yX0_gaps.cls ≠ "java/lang/invoke/MethodHandle" ∧ yX0_gaps.cls ≠ "java/lang/invoke/VarHandle" ∧ (parseMethodDescriptor yX0_gaps.desc).map (fun d => d.parameters.length) = some 1 := by decide +kernel

set_option maxHeartbeats 4000000 in
set_option maxRecDepth 100000 in
theorem c_X0_digestOfKinds (l : Launch) (hst : l.stackTraces = false) (D : va_G) (q : Nat → Nat) (cI cZ cJ : ClassId) (k : Nat) (V : Nat → Nat) (C : Nat → Nat) (T : Nat → Nat) (B : Nat → Nat) (P : Nat → Nat) (A : Nat → Nat) (n : Nat) (PR : Nat → Nat) (ST : Nat → Nat) (li : Nat) (w : Nat) (WK : Nat → Nat) (so : Nat) (sp : Nat) (CT : Nat → Int64) (SC : Nat → Int) (TA : Nat → Nat) (sz : Nat) (d0 : Int64) (hk8 : k ≤ 8) (hA1 : ∀ i, i < k → A i ≤ 1) : Met l yX0_digestOfKinds wsX0_digestOfKinds ({ frames := 1, cells := 0, slots := 0, locals := 22 }) (va_Pc [.ref (q 0), .long d0] (cxP D (ty3 cI cZ cJ) (wX q cI cZ cJ k V C T B P A n PR ST li w WK so sp CT SC TA) sz)) (va_Ql (fun r (_ : Unit) => r = dgK V T B P A (hD31 d0 (nI k).toInt64) k) (bW D (va_A (wX q cI cZ cJ k V C T B P A n PR ST li w WK so sp CT SC TA) sz) (fun (_ : Unit) => (wX q cI cZ cJ k V C T B P A n PR ST li w WK so sp CT SC TA))) (va_A (wX q cI cZ cJ k V C T B P A n PR ST li w WK so sp CT SC TA) sz)) 0 0 (va_A (wX q cI cZ cJ k V C T B P A n PR ST li w WK so sp CT SC TA) sz) := by
  refine Met.ofW (cc := cX0_digestOfKinds) (maxL := 7) (ret := (some .long)) (by decide) rfl ?_
  intro p e s m args below meth c s₁ BB hml hv
  obtain ⟨hav, hsz, hP, hK, hD0, hZ, hg⟩ := hv
  subst hsz
  subst hav
  have hx := BB.exec
  have hb := BB.bytes
  have hr := BB.returns
  have hts := atoms_spec (ws := wsX0_digestOfKinds) BB.pre
  have hown : s.vm.findClass RX0 = some m.cls := findClass_of_methodNamed BB.named
  have hlocks := BB.notSynchronized
  have hin : ∀ w ∈ wsX00, w ∈ wsX0_digestOfKinds := fun w h => (List.mem_cons_of_mem _ (List.mem_append_right _ h))
  have hD := hD0.self (sz := s.heap.size)
  have hA : ∀ q9 : Nat, s.heap.size ≤ q9 → va_A (wX q cI cZ cJ k V C T B P A n PR ST li w WK so sp CT SC TA) s.heap.size q9 := fun _ h => Or.inr h
  have hl := lv_entry ([.ref (q 0), .long d0]) (n := 7) (Nat.le_of_ble_eq_true rfl)
  rw [lg_entry_eq]
  generalize (lg_sl ([.ref (q 0), .long d0]) ++ List.replicate (7 - (lg_sl ([.ref (q 0), .long d0])).length) Slot.unset).toArray = ls at hl ⊢
  have hl : lv_has ls 7 [(0, .ref (q 0)), (1, .long d0)] := hl
  refine W_absR (fun R hR => ?_)
  have hR : R = ({ frames := 1, cells := 0, slots := 0, locals := 22 } : Room) := hR
  refine W_absQ (fun Q hQ => ?_)
  generalize ([.ref (q 0), .long d0] : List Value).toArray = args at hts hQ ⊢
  generalize va_A (wX q cI cZ cJ k V C T B P A n PR ST li w WK so sp CT SC TA) s.heap.size = A9 at hD hZ hA hQ
  refine W_start hP (A := A9) (fun H locs hP hS => ?_)
  refine lv_lload_n hx hb dX0_digestOfKinds_0 rfl (lv_at hl 1 rfl) ?_
  refine lv_ldc2 (v := (31)) hx hb hown (hts _ (List.mem_of_getElem? (i := 1) rfl)) dX0_digestOfKinds_1 (n_topl (show ((31) : Int64) = lZ 31 from by decide) ?_)
  refine lv_lmul hx hb dX0_digestOfKinds_4 ?_
  refine lv_aload_n hx hb dX0_digestOfKinds_5 rfl (lv_at hl 0 rfl) ?_
  refine gfX hx hb hts hin hown hK hP 0 (by decide) (List.mem_of_getElem? (i := 2) rfl) rfl rfl dX0_digestOfKinds_6 ?_
  refine lv_i2l hx hb dX0_digestOfKinds_9 rfl ?_
  refine lv_ladd hx hb dX0_digestOfKinds_10 ?_
  refine lv_lstore_n (lv' := [(3, .long ((d0 * (lZ 31)) + ((nI k).toInt64))), (0, .ref (q 0)), (1, .long d0)]) hx hb dX0_digestOfKinds_11 rfl hl (by decide) rfl (fun ls hl => ?_)
  refine lv_iconst (v := nI 0) hx hb dX0_digestOfKinds_12 (ic_0) ?_
  refine lv_istore (lv' := [(5, .int (nI 0)), (3, .long ((d0 * (lZ 31)) + ((nI k).toInt64))), (0, .ref (q 0)), (1, .long d0)]) hx hb dX0_digestOfKinds_13 hl (by decide) rfl (fun ls hl => ?_)
  have lp_15 : ∀ (fu_15 : Nat) (i : Nat) (d : Int64), k - i < fu_15 → (i ≤ k) → (d = dgK V T B P A (hD31 d0 (nI k).toInt64) i) → ∀ (H : Heap) (locs : List Loc), va_P D vwCl (wX q cI cZ cJ k V C T B P A n PR ST li w WK so sp CT SC TA) H → va_D A9 (wX q cI cZ cJ k V C T B P A n PR ST li w WK so sp CT SC TA) → va_S A9 s.heap H locs → ∀ ls : Array Slot, lv_has ls 7 [(5, .int (nI i)), (3, .long d), (0, .ref (q 0))] → W p l e R s m args below meth c H locs 0 0 Q (F0 m 15 ls []) := by
    intro fu_15
    induction fu_15 with
    | zero =>
      intro i d hfu_15
      exact absurd hfu_15 (Nat.not_lt_zero _)
    | succ fu_15 ih_15 =>
      intro i d hfu_15 hi hs H locs hP hD hS ls hl
      refine lv_iload hx hb dX0_digestOfKinds_15 (lv_at hl 0 rfl) ?_
      refine lv_aload_n hx hb dX0_digestOfKinds_17 rfl (lv_at hl 2 rfl) ?_
      refine gfX hx hb hts hin hown hK hP 0 (by decide) (List.mem_of_getElem? (i := 2) rfl) rfl rfl dX0_digestOfKinds_18 ?_
      refine n_icmp_ge (tgt := 84) hx hb (by omega) (by omega) dX0_digestOfKinds_21 (by decide) (fun c21 => ?_) (fun c21 => ?_)
      · refine lv_lload_n hx hb dX0_digestOfKinds_84 rfl (lv_at hl 1 rfl) ?_
        subst hQ
        exact e_l () hx hb hr hlocks hS hP hD (by rw [hs, show i = k by omega]) (Nat.le_of_ble_eq_true rfl) (Nat.le_of_ble_eq_true rfl) dX0_digestOfKinds_85
      · refine lv_iconst (v := nI 0) hx hb dX0_digestOfKinds_24 (ic_0) ?_
        refine lv_istore (lv' := [(6, .int (nI 0)), (5, .int (nI i)), (3, .long d), (0, .ref (q 0))]) hx hb dX0_digestOfKinds_25 hl (by decide) rfl (fun ls hl => ?_)
        have lp_27 : ∀ (fu_27 : Nat) (wh : Nat) (dd : Int64), 4 - wh < fu_27 → (wh ≤ 4) → (dd = dgI V T B P i d wh) → ∀ (H : Heap) (locs : List Loc), va_P D vwCl (wX q cI cZ cJ k V C T B P A n PR ST li w WK so sp CT SC TA) H → va_D A9 (wX q cI cZ cJ k V C T B P A n PR ST li w WK so sp CT SC TA) → va_S A9 s.heap H locs → ∀ ls : Array Slot, lv_has ls 7 [(6, .int (nI wh)), (3, .long dd), (5, .int (nI i)), (0, .ref (q 0))] → W p l e R s m args below meth c H locs 0 0 Q (F0 m 27 ls []) := by
          intro fu_27
          induction fu_27 with
          | zero =>
            intro wh dd hfu_27
            exact absurd hfu_27 (Nat.not_lt_zero _)
          | succ fu_27 ih_27 =>
            intro wh dd hfu_27 hwh4 hs1 H locs hP hD hS ls hl
            refine lv_iload hx hb dX0_digestOfKinds_27 (lv_at hl 0 rfl) ?_
            refine lv_iconst (v := nI 4) hx hb dX0_digestOfKinds_29 (ic_4) ?_
            refine n_icmp_ge (tgt := 55) hx hb (by omega) (by omega) dX0_digestOfKinds_30 (by decide) (fun c30 => ?_) (fun c30 => ?_)
            · refine lv_lload_n hx hb dX0_digestOfKinds_55 rfl (lv_at hl 1 rfl) ?_
              refine lv_ldc2 (v := (31)) hx hb hown (hts _ (List.mem_of_getElem? (i := 1) rfl)) dX0_digestOfKinds_56 (n_topl (show ((31) : Int64) = lZ 31 from by decide) ?_)
              refine lv_lmul hx hb dX0_digestOfKinds_59 ?_
              refine lv_aload_n hx hb dX0_digestOfKinds_60 rfl (lv_at hl 3 rfl) ?_
              refine gfX hx hb hts hin hown hK hP 6 (by decide) (List.mem_of_getElem? (i := 3) rfl) rfl rfl dX0_digestOfKinds_61 ?_
              refine lv_iload hx hb dX0_digestOfKinds_64 (lv_at hl 2 rfl) ?_
              refine n_zald hx hb hK hP 6 1 rfl rfl (by omega) (by decide) dX0_digestOfKinds_66 ?_
              refine n_if_eq (tgt := 74) hx hb (by have := hA1 i (by omega); omega) dX0_digestOfKinds_67 (by decide) (fun c67 => ?_) (fun c67 => ?_)
              · have hAi : A i = 0 := c67
                have hs2 : dd * (lZ 31) + (lZ ((0 : Nat) : Int)) = dgK V T B P A (hD31 d0 (nI k).toInt64) (i + 1) := by rw [hs1, show wh = 4 by omega, hs]; show _ = hD31 _ (lZ ((A i : Nat) : Int)); rw [hAi]; rfl
                refine lv_iconst (v := nI 0) hx hb dX0_digestOfKinds_74 (ic_0) ?_
                refine n_i2l hx hb (by omega) dX0_digestOfKinds_75 ?_
                refine lv_ladd hx hb dX0_digestOfKinds_76 ?_
                refine lv_lstore_n (lv' := [(3, .long ((dd * (lZ 31)) + (lZ ((0 : Nat) : Int)))), (6, .int (nI wh)), (5, .int (nI i)), (0, .ref (q 0))]) hx hb dX0_digestOfKinds_77 rfl hl (by decide) rfl (fun ls hl => ?_)
                refine lv_iinc (v := nI (i + 1)) (lv' := [(5, .int (nI (i + 1))), (3, .long ((dd * (lZ 31)) + (lZ ((0 : Nat) : Int)))), (6, .int (nI wh)), (0, .ref (q 0))]) hx hb dX0_digestOfKinds_78 hl (k := 2) rfl (ni_inc _ 1) (by decide) rfl (fun ls hl => ?_)
                refine lv_goto (tgt := 15) hx hb dX0_digestOfKinds_81 (by decide) ?_
                exact ih_15 (i + 1) ((dd * (lZ 31)) + (lZ ((0 : Nat) : Int))) (by omega) (by omega) hs2 _ _ hP hD hS ls (lv_sub hl [0, 1, 3] rfl)
              · have hAi : A i = 1 := by have := hA1 i (by omega); omega
                have hs2 : dd * (lZ 31) + (lZ ((1 : Nat) : Int)) = dgK V T B P A (hD31 d0 (nI k).toInt64) (i + 1) := by rw [hs1, show wh = 4 by omega, hs]; show _ = hD31 _ (lZ ((A i : Nat) : Int)); rw [hAi]; rfl
                refine lv_iconst (v := nI 1) hx hb dX0_digestOfKinds_70 (ic_1) ?_
                refine lv_goto (tgt := 75) hx hb dX0_digestOfKinds_71 (by decide) ?_
                refine n_i2l hx hb (by omega) dX0_digestOfKinds_75 ?_
                refine lv_ladd hx hb dX0_digestOfKinds_76 ?_
                refine lv_lstore_n (lv' := [(3, .long ((dd * (lZ 31)) + (lZ ((1 : Nat) : Int)))), (6, .int (nI wh)), (5, .int (nI i)), (0, .ref (q 0))]) hx hb dX0_digestOfKinds_77 rfl hl (by decide) rfl (fun ls hl => ?_)
                refine lv_iinc (v := nI (i + 1)) (lv' := [(5, .int (nI (i + 1))), (3, .long ((dd * (lZ 31)) + (lZ ((1 : Nat) : Int)))), (6, .int (nI wh)), (0, .ref (q 0))]) hx hb dX0_digestOfKinds_78 hl (k := 2) rfl (ni_inc _ 1) (by decide) rfl (fun ls hl => ?_)
                refine lv_goto (tgt := 15) hx hb dX0_digestOfKinds_81 (by decide) ?_
                exact ih_15 (i + 1) ((dd * (lZ 31)) + (lZ ((1 : Nat) : Int))) (by omega) (by omega) hs2 _ _ hP hD hS ls (lv_sub hl [0, 1, 3] rfl)
            · refine lv_lload_n hx hb dX0_digestOfKinds_33 rfl (lv_at hl 1 rfl) ?_
              refine lv_ldc2 (v := (31)) hx hb hown (hts _ (List.mem_of_getElem? (i := 1) rfl)) dX0_digestOfKinds_34 (n_topl (show ((31) : Int64) = lZ 31 from by decide) ?_)
              refine lv_lmul hx hb dX0_digestOfKinds_37 ?_
              refine lv_aload_n hx hb dX0_digestOfKinds_38 rfl (lv_at hl 3 rfl) ?_
              refine lv_iload hx hb dX0_digestOfKinds_39 (lv_at hl 2 rfl) ?_
              refine lv_iload hx hb dX0_digestOfKinds_41 (lv_at hl 0 rfl) ?_
              refine k_i (va_runV (As := [.int (nI i), .int (nI wh)]) (rest := [.long (dd * (lZ 31))]) ⟨hx, hb, hml, hown, hts⟩ (c_X0_toldOfKind l hst D q cI cZ cJ k V C T B P A n PR ST li w WK so sp CT SC TA H.size i wh hk8 (by omega) (by omega)) (cwV 2 hts gX0_digestOfKinds_X0_toldOfKind rfl rfl rfl hd_X0_toldOfKind ⟨(by rw [hR]; exact Nat.le_of_ble_eq_true rfl), (by rw [hR]; exact Nat.le_of_ble_eq_true rfl)⟩) (pre_V hP hK hD hS hA hZ hg 0 (ci := 0) rfl rfl) rfl rfl hl.1 rfl (lv_room (Nat.le_of_ble_eq_true rfl)) dX0_digestOfKinds_43 ⟨(by rw [hR]; exact Nat.le_of_ble_eq_true rfl), (by rw [hR]; exact Nat.le_of_ble_eq_true rfl)⟩) hD hS hA (fun r_2 u_1 H locs hp_3 hP hD hS => ?_)
              subst hp_3
              refine lv_i2l hx hb dX0_digestOfKinds_46 rfl ?_
              refine lv_ladd hx hb dX0_digestOfKinds_47 ?_
              refine lv_lstore_n (lv' := [(3, .long ((dd * (lZ 31)) + ((nI (tld V T B P i wh)).toInt64))), (6, .int (nI wh)), (5, .int (nI i)), (0, .ref (q 0))]) hx hb dX0_digestOfKinds_48 rfl hl (by decide) rfl (fun ls hl => ?_)
              refine lv_iinc (v := nI (wh + 1)) (lv' := [(6, .int (nI (wh + 1))), (3, .long ((dd * (lZ 31)) + ((nI (tld V T B P i wh)).toInt64))), (5, .int (nI i)), (0, .ref (q 0))]) hx hb dX0_digestOfKinds_49 hl (k := 1) rfl (ni_inc _ 1) (by decide) rfl (fun ls hl => ?_)
              refine lv_goto (tgt := 27) hx hb dX0_digestOfKinds_52 (by decide) ?_
              exact ih_27 (wh + 1) ((dd * (lZ 31)) + ((nI (tld V T B P i wh)).toInt64)) (by omega) (by omega) (by rw [hs1]; rfl) _ _ hP hD hS ls (lv_sub hl [0, 1, 2, 3] rfl)
        exact lp_27 _ 0 d (Nat.lt_succ_self _) (by omega) rfl _ _ hP hD hS ls (lv_sub hl [0, 2, 1, 3] rfl)
  exact lp_15 _ 0 ((d0 * (lZ 31)) + ((nI k).toInt64)) (Nat.lt_succ_self _) (by omega) rfl _ _ hP hD hS ls (lv_sub hl [0, 1, 2] rfl)
theorem hd_X0_digestOfKinds : yX0_digestOfKinds.cls = RX0 ∧ yX0_digestOfKinds.cls ≠ "java/lang/invoke/MethodHandle" ∧ yX0_digestOfKinds.cls ≠ "java/lang/invoke/VarHandle" ∧ (parseMethodDescriptor yX0_digestOfKinds.desc).map (fun d => d.parameters.length) = some 1 := by decide +kernel

set_option maxHeartbeats 4000000 in
set_option maxRecDepth 100000 in
theorem c_X0_digest (l : Launch) (hst : l.stackTraces = false) (D : va_G) (q : Nat → Nat) (cI cZ cJ : ClassId) (k : Nat) (V : Nat → Nat) (C : Nat → Nat) (T : Nat → Nat) (B : Nat → Nat) (P : Nat → Nat) (A : Nat → Nat) (n : Nat) (PR : Nat → Nat) (ST : Nat → Nat) (li : Nat) (w : Nat) (WK : Nat → Nat) (so : Nat) (sp : Nat) (CT : Nat → Int64) (SC : Nat → Int) (TA : Nat → Nat) (sz : Nat) (hk8 : k ≤ 8) (hA1 : ∀ i, i < k → A i ≤ 1) (hn10 : n ≤ 10) (hw12 : w ≤ 12) : Met l yX0_digest wsX0_digest ({ frames := 2, cells := 0, slots := 0, locals := 48 }) (va_Pc [.ref (q 0)] (cxP D (ty3 cI cZ cJ) (wX q cI cZ cJ k V C T B P A n PR ST li w WK so sp CT SC TA) sz)) (va_Ql (fun r (_ : Unit) => r = dgs k V T B P A n PR ST li w WK CT) (bW D (va_A (wX q cI cZ cJ k V C T B P A n PR ST li w WK so sp CT SC TA) sz) (fun (_ : Unit) => (wX q cI cZ cJ k V C T B P A n PR ST li w WK so sp CT SC TA))) (va_A (wX q cI cZ cJ k V C T B P A n PR ST li w WK so sp CT SC TA) sz)) 0 0 (va_A (wX q cI cZ cJ k V C T B P A n PR ST li w WK so sp CT SC TA) sz) := by
  refine Met.ofW (cc := cX0_digest) (maxL := 4) (ret := (some .long)) (by decide) rfl ?_
  intro p e s m args below meth c s₁ BB hml hv
  obtain ⟨hav, hsz, hP, hK, hD0, hZ, hg⟩ := hv
  subst hsz
  subst hav
  have hx := BB.exec
  have hb := BB.bytes
  have hr := BB.returns
  have hts := atoms_spec (ws := wsX0_digest) BB.pre
  have hown : s.vm.findClass RX0 = some m.cls := findClass_of_methodNamed BB.named
  have hlocks := BB.notSynchronized
  have hin : ∀ w ∈ wsX00, w ∈ wsX0_digest := fun w h => (List.mem_cons_of_mem _ (List.mem_append_right _ h))
  have hD := hD0.self (sz := s.heap.size)
  have hA : ∀ q9 : Nat, s.heap.size ≤ q9 → va_A (wX q cI cZ cJ k V C T B P A n PR ST li w WK so sp CT SC TA) s.heap.size q9 := fun _ h => Or.inr h
  have hl := lv_entry ([.ref (q 0)]) (n := 4) (Nat.le_of_ble_eq_true rfl)
  rw [lg_entry_eq]
  generalize (lg_sl ([.ref (q 0)]) ++ List.replicate (4 - (lg_sl ([.ref (q 0)])).length) Slot.unset).toArray = ls at hl ⊢
  have hl : lv_has ls 4 [(0, .ref (q 0))] := hl
  refine W_absR (fun R hR => ?_)
  have hR : R = ({ frames := 2, cells := 0, slots := 0, locals := 48 } : Room) := hR
  refine W_absQ (fun Q hQ => ?_)
  generalize ([.ref (q 0)] : List Value).toArray = args at hts hQ ⊢
  generalize va_A (wX q cI cZ cJ k V C T B P A n PR ST li w WK so sp CT SC TA) s.heap.size = A9 at hD hZ hA hQ
  refine W_start hP (A := A9) (fun H locs hP hS => ?_)
  refine lv_aload_n hx hb dX0_digest_0 rfl (lv_at hl 0 rfl) ?_
  refine lv_ldc2 (v := (181)) hx hb hown (hts _ (List.mem_of_getElem? (i := 1) rfl)) dX0_digest_1 (n_topl (show ((181) : Int64) = lZ 181 from by decide) ?_)
  refine k_l (va_runV (As := [.long (lZ 181)]) (rest := []) ⟨hx, hb, hml, hown, hts⟩ (c_X0_digestOfKinds l hst D q cI cZ cJ k V C T B P A n PR ST li w WK so sp CT SC TA H.size (lZ 181) hk8 hA1) (cwV 1 hts gX0_digest_X0_digestOfKinds rfl rfl rfl hd_X0_digestOfKinds ⟨(by rw [hR]; exact Nat.le_of_ble_eq_true rfl), (by rw [hR]; exact Nat.le_of_ble_eq_true rfl)⟩) (pre_V hP hK hD hS hA hZ hg 0 (ci := 0) rfl rfl) rfl rfl hl.1 rfl (lv_room (Nat.le_of_ble_eq_true rfl)) dX0_digest_4 ⟨(by rw [hR]; exact Nat.le_of_ble_eq_true rfl), (by rw [hR]; exact Nat.le_of_ble_eq_true rfl)⟩) hD hS hA (fun r_2 u_1 H locs hp_3 hP hD hS => ?_)
  subst hp_3
  refine lv_lstore_n (lv' := [(1, .long (dgK V T B P A (hD31 (lZ 181) (nI k).toInt64) k)), (0, .ref (q 0))]) hx hb dX0_digest_7 rfl hl (by decide) rfl (fun ls hl => ?_)
  refine lv_lload_n hx hb dX0_digest_8 rfl (lv_at hl 0 rfl) ?_
  refine lv_ldc2 (v := (31)) hx hb hown (hts _ (List.mem_of_getElem? (i := 2) rfl)) dX0_digest_9 (n_topl (show ((31) : Int64) = lZ 31 from by decide) ?_)
  refine lv_lmul hx hb dX0_digest_12 ?_
  refine lv_aload_n hx hb dX0_digest_13 rfl (lv_at hl 1 rfl) ?_
  refine gfX hx hb hts hin hown hK hP 10 (by decide) (List.mem_of_getElem? (i := 3) rfl) rfl rfl dX0_digest_14 ?_
  refine lv_i2l hx hb dX0_digest_17 rfl ?_
  refine lv_ladd hx hb dX0_digest_18 ?_
  refine lv_lstore_n (lv' := [(1, .long (((dgK V T B P A (hD31 (lZ 181) (nI k).toInt64) k) * (lZ 31)) + ((nI li).toInt64))), (0, .ref (q 0))]) hx hb dX0_digest_19 rfl hl (by decide) rfl (fun ls hl => ?_)
  refine lv_lload_n hx hb dX0_digest_20 rfl (lv_at hl 0 rfl) ?_
  refine lv_ldc2 (v := (31)) hx hb hown (hts _ (List.mem_of_getElem? (i := 2) rfl)) dX0_digest_21 (n_topl (show ((31) : Int64) = lZ 31 from by decide) ?_)
  refine lv_lmul hx hb dX0_digest_24 ?_
  refine lv_aload_n hx hb dX0_digest_25 rfl (lv_at hl 1 rfl) ?_
  refine gfX hx hb hts hin hown hK hP 7 (by decide) (List.mem_of_getElem? (i := 4) rfl) rfl rfl dX0_digest_26 ?_
  refine lv_i2l hx hb dX0_digest_29 rfl ?_
  refine lv_ladd hx hb dX0_digest_30 ?_
  refine lv_lstore_n (lv' := [(1, .long (((((dgK V T B P A (hD31 (lZ 181) (nI k).toInt64) k) * (lZ 31)) + ((nI li).toInt64)) * (lZ 31)) + ((nI n).toInt64))), (0, .ref (q 0))]) hx hb dX0_digest_31 rfl hl (by decide) rfl (fun ls hl => ?_)
  refine lv_iconst (v := nI 0) hx hb dX0_digest_32 (ic_0) ?_
  refine lv_istore_n (lv' := [(3, .int (nI 0)), (1, .long (((((dgK V T B P A (hD31 (lZ 181) (nI k).toInt64) k) * (lZ 31)) + ((nI li).toInt64)) * (lZ 31)) + ((nI n).toInt64))), (0, .ref (q 0))]) hx hb dX0_digest_33 rfl hl (by decide) rfl (fun ls hl => ?_)
  have lp_34 : ∀ (fu_34 : Nat) (j : Nat) (d : Int64), n - j < fu_34 → (j ≤ n) → (d = dgP PR ST (hD31 (hD31 (dgK V T B P A (hD31 (lZ 181) (nI k).toInt64) k) (nI li).toInt64) (nI n).toInt64) j) → ∀ (H : Heap) (locs : List Loc), va_P D vwCl (wX q cI cZ cJ k V C T B P A n PR ST li w WK so sp CT SC TA) H → va_D A9 (wX q cI cZ cJ k V C T B P A n PR ST li w WK so sp CT SC TA) → va_S A9 s.heap H locs → ∀ ls : Array Slot, lv_has ls 4 [(3, .int (nI j)), (1, .long d), (0, .ref (q 0))] → W p l e R s m args below meth c H locs 0 0 Q (F0 m 34 ls []) := by
    intro fu_34
    induction fu_34 with
    | zero =>
      intro j d hfu_34
      exact absurd hfu_34 (Nat.not_lt_zero _)
    | succ fu_34 ih_34 =>
      intro j d hfu_34 hj hs H locs hP hD hS ls hl
      refine lv_iload_n hx hb dX0_digest_34 rfl (lv_at hl 0 rfl) ?_
      refine lv_aload_n hx hb dX0_digest_35 rfl (lv_at hl 2 rfl) ?_
      refine gfX hx hb hts hin hown hK hP 7 (by decide) (List.mem_of_getElem? (i := 4) rfl) rfl rfl dX0_digest_36 ?_
      refine n_icmp_ge (tgt := 76) hx hb (by omega) (by omega) dX0_digest_39 (by decide) (fun c39 => ?_) (fun c39 => ?_)
      · refine lv_lload_n hx hb dX0_digest_76 rfl (lv_at hl 1 rfl) ?_
        refine lv_ldc2 (v := (31)) hx hb hown (hts _ (List.mem_of_getElem? (i := 2) rfl)) dX0_digest_77 (n_topl (show ((31) : Int64) = lZ 31 from by decide) ?_)
        refine lv_lmul hx hb dX0_digest_80 ?_
        refine lv_aload_n hx hb dX0_digest_81 rfl (lv_at hl 2 rfl) ?_
        refine gfX hx hb hts hin hown hK hP 11 (by decide) (List.mem_of_getElem? (i := 7) rfl) rfl rfl dX0_digest_82 ?_
        refine lv_i2l hx hb dX0_digest_85 rfl ?_
        refine lv_ladd hx hb dX0_digest_86 ?_
        refine lv_lstore_n (lv' := [(1, .long ((d * (lZ 31)) + ((nI w).toInt64))), (3, .int (nI j)), (0, .ref (q 0))]) hx hb dX0_digest_87 rfl hl (by decide) rfl (fun ls hl => ?_)
        refine lv_iconst (v := nI 0) hx hb dX0_digest_88 (ic_0) ?_
        refine lv_istore_n (lv' := [(3, .int (nI 0)), (1, .long ((d * (lZ 31)) + ((nI w).toInt64))), (0, .ref (q 0))]) hx hb dX0_digest_89 rfl hl (by decide) rfl (fun ls hl => ?_)
        have lp_90 : ∀ (fu_90 : Nat) (j2 : Nat) (d2 : Int64), w - j2 < fu_90 → (j2 ≤ w) → (d2 = dgW WK (hD31 (dgP PR ST (hD31 (hD31 (dgK V T B P A (hD31 (lZ 181) (nI k).toInt64) k) (nI li).toInt64) (nI n).toInt64) n) (nI w).toInt64) j2) → ∀ (H : Heap) (locs : List Loc), va_P D vwCl (wX q cI cZ cJ k V C T B P A n PR ST li w WK so sp CT SC TA) H → va_D A9 (wX q cI cZ cJ k V C T B P A n PR ST li w WK so sp CT SC TA) → va_S A9 s.heap H locs → ∀ ls : Array Slot, lv_has ls 4 [(3, .int (nI j2)), (1, .long d2), (0, .ref (q 0))] → W p l e R s m args below meth c H locs 0 0 Q (F0 m 90 ls []) := by
          intro fu_90
          induction fu_90 with
          | zero =>
            intro j2 d2 hfu_90
            exact absurd hfu_90 (Nat.not_lt_zero _)
          | succ fu_90 ih_90 =>
            intro j2 d2 hfu_90 hj2 hs2 H locs hP hD hS ls hl
            refine lv_iload_n hx hb dX0_digest_90 rfl (lv_at hl 0 rfl) ?_
            refine lv_aload_n hx hb dX0_digest_91 rfl (lv_at hl 2 rfl) ?_
            refine gfX hx hb hts hin hown hK hP 11 (by decide) (List.mem_of_getElem? (i := 7) rfl) rfl rfl dX0_digest_92 ?_
            refine n_icmp_ge (tgt := 118) hx hb (by omega) (by omega) dX0_digest_95 (by decide) (fun c95 => ?_) (fun c95 => ?_)
            · refine lv_iconst (v := nI 0) hx hb dX0_digest_118 (ic_0) ?_
              refine lv_istore_n (lv' := [(3, .int (nI 0)), (1, .long d2), (0, .ref (q 0))]) hx hb dX0_digest_119 rfl hl (by decide) rfl (fun ls hl => ?_)
              have lp_120 : ∀ (fu_120 : Nat) (j3 : Nat) (d3 : Int64), 10 - j3 < fu_120 → (j3 ≤ 10) → (d3 = dgC CT (dgW WK (hD31 (dgP PR ST (hD31 (hD31 (dgK V T B P A (hD31 (lZ 181) (nI k).toInt64) k) (nI li).toInt64) (nI n).toInt64) n) (nI w).toInt64) w) j3) → ∀ (H : Heap) (locs : List Loc), va_P D vwCl (wX q cI cZ cJ k V C T B P A n PR ST li w WK so sp CT SC TA) H → va_D A9 (wX q cI cZ cJ k V C T B P A n PR ST li w WK so sp CT SC TA) → va_S A9 s.heap H locs → ∀ ls : Array Slot, lv_has ls 4 [(3, .int (nI j3)), (1, .long d3), (0, .ref (q 0))] → W p l e R s m args below meth c H locs 0 0 Q (F0 m 120 ls []) := by
                intro fu_120
                induction fu_120 with
                | zero =>
                  intro j3 d3 hfu_120
                  exact absurd hfu_120 (Nat.not_lt_zero _)
                | succ fu_120 ih_120 =>
                  intro j3 d3 hfu_120 hj3 hs3 H locs hP hD hS ls hl
                  refine lv_iload_n hx hb dX0_digest_120 rfl (lv_at hl 0 rfl) ?_
                  refine lv_bipush (v := nI 10) hx hb dX0_digest_121 (by decide) ?_
                  refine n_icmp_ge (tgt := 145) hx hb (by omega) (by omega) dX0_digest_123 (by decide) (fun c123 => ?_) (fun c123 => ?_)
                  · refine lv_lload_n hx hb dX0_digest_145 rfl (lv_at hl 1 rfl) ?_
                    subst hQ
                    exact e_l () hx hb hr hlocks hS hP hD (by rw [hs3, show j3 = 10 by omega]; rfl) (Nat.le_of_ble_eq_true rfl) (Nat.le_of_ble_eq_true rfl) dX0_digest_146
                  · refine lv_lload_n hx hb dX0_digest_126 rfl (lv_at hl 1 rfl) ?_
                    refine lv_ldc2 (v := (31)) hx hb hown (hts _ (List.mem_of_getElem? (i := 2) rfl)) dX0_digest_127 (n_topl (show ((31) : Int64) = lZ 31 from by decide) ?_)
                    refine lv_lmul hx hb dX0_digest_130 ?_
                    refine lv_aload_n hx hb dX0_digest_131 rfl (lv_at hl 2 rfl) ?_
                    refine gfX hx hb hts hin hown hK hP 15 (by decide) (List.mem_of_getElem? (i := 9) rfl) rfl rfl dX0_digest_132 ?_
                    refine lv_iload_n hx hb dX0_digest_135 rfl (lv_at hl 0 rfl) ?_
                    refine n_lald hx hb hK hP 10 2 rfl rfl (by omega) (by decide) dX0_digest_136 ?_
                    refine lv_ladd hx hb dX0_digest_137 ?_
                    refine lv_lstore_n (lv' := [(1, .long ((d3 * (lZ 31)) + (CT j3))), (3, .int (nI j3)), (0, .ref (q 0))]) hx hb dX0_digest_138 rfl hl (by decide) rfl (fun ls hl => ?_)
                    refine lv_iinc (v := nI (j3 + 1)) (lv' := [(3, .int (nI (j3 + 1))), (1, .long ((d3 * (lZ 31)) + (CT j3))), (0, .ref (q 0))]) hx hb dX0_digest_139 hl (k := 1) rfl (ni_inc _ 1) (by decide) rfl (fun ls hl => ?_)
                    refine lv_goto (tgt := 120) hx hb dX0_digest_142 (by decide) ?_
                    exact ih_120 (j3 + 1) ((d3 * (lZ 31)) + (CT j3)) (by omega) (by omega) (by rw [hs3]; rfl) _ _ hP hD hS ls (lv_sub hl [0, 1, 2] rfl)
              exact lp_120 _ 0 d2 (Nat.lt_succ_self _) (by omega) (by rw [hs2, show j2 = w by omega]; rfl) _ _ hP hD hS ls (lv_sub hl [0, 1, 2] rfl)
            · refine lv_lload_n hx hb dX0_digest_98 rfl (lv_at hl 1 rfl) ?_
              refine lv_ldc2 (v := (31)) hx hb hown (hts _ (List.mem_of_getElem? (i := 2) rfl)) dX0_digest_99 (n_topl (show ((31) : Int64) = lZ 31 from by decide) ?_)
              refine lv_lmul hx hb dX0_digest_102 ?_
              refine lv_aload_n hx hb dX0_digest_103 rfl (lv_at hl 2 rfl) ?_
              refine gfX hx hb hts hin hown hK hP 12 (by decide) (List.mem_of_getElem? (i := 8) rfl) rfl rfl dX0_digest_104 ?_
              refine lv_iload_n hx hb dX0_digest_107 rfl (lv_at hl 0 rfl) ?_
              refine n_iald hx hb hK hP 9 0 rfl rfl (by omega) (by decide) dX0_digest_108 ?_
              refine lv_i2l hx hb dX0_digest_109 rfl ?_
              refine lv_ladd hx hb dX0_digest_110 ?_
              refine lv_lstore_n (lv' := [(1, .long ((d2 * (lZ 31)) + ((nI (WK j2)).toInt64))), (3, .int (nI j2)), (0, .ref (q 0))]) hx hb dX0_digest_111 rfl hl (by decide) rfl (fun ls hl => ?_)
              refine lv_iinc (v := nI (j2 + 1)) (lv' := [(3, .int (nI (j2 + 1))), (1, .long ((d2 * (lZ 31)) + ((nI (WK j2)).toInt64))), (0, .ref (q 0))]) hx hb dX0_digest_112 hl (k := 1) rfl (ni_inc _ 1) (by decide) rfl (fun ls hl => ?_)
              refine lv_goto (tgt := 90) hx hb dX0_digest_115 (by decide) ?_
              exact ih_90 (j2 + 1) ((d2 * (lZ 31)) + ((nI (WK j2)).toInt64)) (by omega) (by omega) (by rw [hs2]; rfl) _ _ hP hD hS ls (lv_sub hl [0, 1, 2] rfl)
        exact lp_90 _ 0 ((d * (lZ 31)) + ((nI w).toInt64)) (Nat.lt_succ_self _) (by omega) (by rw [hs, show j = n by omega]; rfl) _ _ hP hD hS ls (lv_sub hl [0, 1, 2] rfl)
      · refine lv_lload_n hx hb dX0_digest_42 rfl (lv_at hl 1 rfl) ?_
        refine lv_ldc2 (v := (31)) hx hb hown (hts _ (List.mem_of_getElem? (i := 2) rfl)) dX0_digest_43 (n_topl (show ((31) : Int64) = lZ 31 from by decide) ?_)
        refine lv_lmul hx hb dX0_digest_46 ?_
        refine lv_aload_n hx hb dX0_digest_47 rfl (lv_at hl 2 rfl) ?_
        refine gfX hx hb hts hin hown hK hP 8 (by decide) (List.mem_of_getElem? (i := 5) rfl) rfl rfl dX0_digest_48 ?_
        refine lv_iload_n hx hb dX0_digest_51 rfl (lv_at hl 0 rfl) ?_
        refine n_iald hx hb hK hP 7 0 rfl rfl (by omega) (by decide) dX0_digest_52 ?_
        refine lv_i2l hx hb dX0_digest_53 rfl ?_
        refine lv_ladd hx hb dX0_digest_54 ?_
        refine lv_lstore_n (lv' := [(1, .long ((d * (lZ 31)) + ((nI (PR j)).toInt64))), (3, .int (nI j)), (0, .ref (q 0))]) hx hb dX0_digest_55 rfl hl (by decide) rfl (fun ls hl => ?_)
        refine lv_lload_n hx hb dX0_digest_56 rfl (lv_at hl 0 rfl) ?_
        refine lv_ldc2 (v := (31)) hx hb hown (hts _ (List.mem_of_getElem? (i := 2) rfl)) dX0_digest_57 (n_topl (show ((31) : Int64) = lZ 31 from by decide) ?_)
        refine lv_lmul hx hb dX0_digest_60 ?_
        refine lv_aload_n hx hb dX0_digest_61 rfl (lv_at hl 2 rfl) ?_
        refine gfX hx hb hts hin hown hK hP 9 (by decide) (List.mem_of_getElem? (i := 6) rfl) rfl rfl dX0_digest_62 ?_
        refine lv_iload_n hx hb dX0_digest_65 rfl (lv_at hl 1 rfl) ?_
        refine n_iald hx hb hK hP 8 0 rfl rfl (by omega) (by decide) dX0_digest_66 ?_
        refine lv_i2l hx hb dX0_digest_67 rfl ?_
        refine lv_ladd hx hb dX0_digest_68 ?_
        refine lv_lstore_n (lv' := [(1, .long ((((d * (lZ 31)) + ((nI (PR j)).toInt64)) * (lZ 31)) + ((nI (ST j)).toInt64))), (3, .int (nI j)), (0, .ref (q 0))]) hx hb dX0_digest_69 rfl hl (by decide) rfl (fun ls hl => ?_)
        refine lv_iinc (v := nI (j + 1)) (lv' := [(3, .int (nI (j + 1))), (1, .long ((((d * (lZ 31)) + ((nI (PR j)).toInt64)) * (lZ 31)) + ((nI (ST j)).toInt64))), (0, .ref (q 0))]) hx hb dX0_digest_70 hl (k := 1) rfl (ni_inc _ 1) (by decide) rfl (fun ls hl => ?_)
        refine lv_goto (tgt := 34) hx hb dX0_digest_73 (by decide) ?_
        exact ih_34 (j + 1) ((((d * (lZ 31)) + ((nI (PR j)).toInt64)) * (lZ 31)) + ((nI (ST j)).toInt64)) (by omega) (by omega) (by rw [hs]; rfl) _ _ hP hD hS ls (lv_sub hl [0, 1, 2] rfl)
  exact lp_34 _ 0 (((((dgK V T B P A (hD31 (lZ 181) (nI k).toInt64) k) * (lZ 31)) + ((nI li).toInt64)) * (lZ 31)) + ((nI n).toInt64)) (Nat.lt_succ_self _) (by omega) rfl _ _ hP hD hS ls (lv_sub hl [0, 1, 2] rfl)
theorem hd_X0_digest : yX0_digest.cls = RX0 ∧ yX0_digest.cls ≠ "java/lang/invoke/MethodHandle" ∧ yX0_digest.cls ≠ "java/lang/invoke/VarHandle" ∧ (parseMethodDescriptor yX0_digest.desc).map (fun d => d.parameters.length) = some 0 := by decide +kernel
end
section
set_option maxHeartbeats 4000000 in
set_option maxRecDepth 100000 in
theorem c_X0_buy (l : Launch) (hst : l.stackTraces = false) (D : va_G) (q : Nat → Nat) (cI cZ cJ : ClassId) (k : Nat) (V : Nat → Nat) (C : Nat → Nat) (T : Nat → Nat) (B : Nat → Nat) (P : Nat → Nat) (A : Nat → Nat) (n : Nat) (PR : Nat → Nat) (ST : Nat → Nat) (li : Nat) (w : Nat) (WK : Nat → Nat) (so : Nat) (sp : Nat) (CT : Nat → Int64) (SC : Nat → Int) (TA : Nat → Nat) (sz : Nat) (p0 : Int32) (hk8 : k ≤ 8) (hV : ∀ i, i < k → 1 ≤ V i ∧ V i ≤ 500) (hC : ∀ i, i < k → C i ≤ 60 ∧ T i ≤ C i) (hVd : ∀ i j, i < k → j < k → V i = V j → i = j) (hn10 : n ≤ 10) (hPR : ∀ j, j < n → 1 ≤ PR j ∧ PR j ≤ 2000 ∧ ST j ≤ 99) (hw12 : w ≤ 12) (hWK : ∀ j, j < w → WK j < k) (hcr : cr V WK w ≤ 2000) : vx_Met l yX0_buy wsX0_buy ({ frames := 7, cells := 1, slots := 6, locals := 111 }) (va_Pc [.ref (q 0), .int p0] (cxP D (ty3 cI cZ cJ) (wX q cI cZ cJ k V C T B P A n PR ST li w WK so sp CT SC TA) sz)) (va_Qi (fun r (u : Nat × Nat × (Nat → Nat) × (Nat → Nat) × (Nat → Nat) × Nat × (Nat → Nat) × Nat × Nat × (Nat → Int64) × (Nat → Int) × (Nat → Nat)) => r = nI u.2.1 ∧ u.1 < n ∧ p0 = nI u.1 ∧ buyP k V C T B P PR ST w WK so sp CT u.1 u.2.1 u.2.2.1 u.2.2.2.1 u.2.2.2.2.1 u.2.2.2.2.2.1 u.2.2.2.2.2.2.1 u.2.2.2.2.2.2.2.1 u.2.2.2.2.2.2.2.2.1 u.2.2.2.2.2.2.2.2.2.1) (bW D (va_A (wX q cI cZ cJ k V C T B P A n PR ST li w WK so sp CT SC TA) sz) (fun u => (wX q cI cZ cJ k V C u.2.2.1 u.2.2.2.1 u.2.2.2.2.1 A n PR u.2.2.2.2.2.2.1 li u.2.2.2.2.2.1 WK u.2.2.2.2.2.2.2.1 u.2.2.2.2.2.2.2.2.1 u.2.2.2.2.2.2.2.2.2.1 u.2.2.2.2.2.2.2.2.2.2.1 u.2.2.2.2.2.2.2.2.2.2.2))) (va_A (wX q cI cZ cJ k V C T B P A n PR ST li w WK so sp CT SC TA) sz)) (xX D (fun E => E = eIB ∧ ¬ rg p0 0 n) (wX q cI cZ cJ k V C T B P A n PR ST li w WK so sp CT SC TA) (va_A (wX q cI cZ cJ k V C T B P A n PR ST li w WK so sp CT SC TA) sz)) 1 6 (va_A (wX q cI cZ cJ k V C T B P A n PR ST li w WK so sp CT SC TA) sz) := by
  refine vx_ofW (cc := cX0_buy) (maxL := 6) (ret := (some .int)) (by decide) rfl ?_
  intro p e s m args below meth c s₁ BB hml hout hv
  obtain ⟨hav, hsz, hP, hK, hD0, hZ, hg⟩ := hv
  subst hsz
  subst hav
  have hx := BB.exec
  have hb := BB.bytes
  have hr := BB.returns
  have hts := atoms_spec (ws := wsX0_buy) BB.pre
  have hown : s.vm.findClass RX0 = some m.cls := findClass_of_methodNamed BB.named
  have hlocks := BB.notSynchronized
  have hin : ∀ w ∈ wsX00, w ∈ wsX0_buy := fun w h => (List.mem_cons_of_mem _ (List.mem_append_left _ (List.mem_append_right _ h)))
  have hD := hD0.self (sz := s.heap.size)
  have hA : ∀ q9 : Nat, s.heap.size ≤ q9 → va_A (wX q cI cZ cJ k V C T B P A n PR ST li w WK so sp CT SC TA) s.heap.size q9 := fun _ h => Or.inr h
  have hl := lv_entry ([.ref (q 0), .int p0]) (n := 6) (Nat.le_of_ble_eq_true rfl)
  rw [lg_entry_eq]
  generalize (lg_sl ([.ref (q 0), .int p0]) ++ List.replicate (6 - (lg_sl ([.ref (q 0), .int p0])).length) Slot.unset).toArray = ls at hl ⊢
  have hl : lv_has ls 6 [(0, .ref (q 0)), (1, .int p0)] := hl
  refine W_absR (fun R hR => ?_)
  have hR : R = ({ frames := 7, cells := 1, slots := 6, locals := 111 } : Room) := hR
  refine W_absQ (fun Q hQ => ?_)
  generalize ([.ref (q 0), .int p0] : List Value).toArray = args at hts hQ ⊢
  generalize va_A (wX q cI cZ cJ k V C T B P A n PR ST li w WK so sp CT SC TA) s.heap.size = A9 at hD hZ hA hQ
  refine W_start hP (A := A9) (fun H locs hP hS => ?_)
  refine lv_aload_n hx hb dX0_buy_0 rfl (lv_at hl 0 rfl) ?_
  refine lv_iload_n hx hb dX0_buy_1 rfl (lv_at hl 1 rfl) ?_
  subst hQ
  refine kx_v (vx_runV (As := [.int p0]) (rest := []) ⟨hx, hb, hml, hown, hts⟩ (c_X0_checkProduct l hst D q cI cZ cJ k V C T B P A n PR ST li w WK so sp CT SC TA H.size p0 hn10) (cwV 1 hts gX0_buy_X0_checkProduct rfl rfl rfl hd_X0_checkProduct ⟨(by rw [hR]; exact Nat.le_of_ble_eq_true rfl), (by rw [hR]; exact Nat.le_of_ble_eq_true rfl)⟩) (pre_V hP hK hD hS hA hZ hg 0 (ci := 0) rfl rfl) rfl rfl hl.1 rfl (lv_room (Nat.le_of_ble_eq_true rfl)) dX0_buy_2 ⟨(by rw [hR]; exact Nat.le_of_ble_eq_true rfl), (by rw [hR]; exact Nat.le_of_ble_eq_true rfl)⟩) hD hS hA rfl (fun E h => h) hout hlocks (Nat.le_of_ble_eq_true rfl) (Nat.le_of_ble_eq_true rfl) (fun u_1 H locs hp_3 hP hD hS => ?_)
  refine W_absQ (fun Q hQ => ?_)
  obtain ⟨j0, j0a, j0b, rfl⟩ := hp_3
  refine lv_aload_n hx hb dX0_buy_5 rfl (lv_at hl 0 rfl) ?_
  refine gfX hx hb hts hin hown hK hP 9 (by decide) (List.mem_of_getElem? (i := 1) rfl) rfl rfl dX0_buy_6 ?_
  refine lv_iload_n hx hb dX0_buy_9 rfl (lv_at hl 1 rfl) ?_
  refine n_iald hx hb hK hP 8 0 rfl rfl (by omega) (by decide) dX0_buy_10 ?_
  refine n_if_ne (tgt := 16) hx hb (by have := hPR j0 j0b; omega) dX0_buy_11 (by decide) (fun c11 => ?_) (fun c11 => ?_)
  · refine lv_aload_n hx hb dX0_buy_16 rfl (lv_at hl 0 rfl) ?_
    refine gfX hx hb hts hin hown hK hP 8 (by decide) (List.mem_of_getElem? (i := 2) rfl) rfl rfl dX0_buy_17 ?_
    refine lv_iload_n hx hb dX0_buy_20 rfl (lv_at hl 1 rfl) ?_
    refine n_iald hx hb hK hP 7 0 rfl rfl (by omega) (by decide) dX0_buy_21 ?_
    refine lv_istore_n (lv' := [(2, .int (nI (PR j0))), (0, .ref (q 0)), (1, .int (nI j0))]) hx hb dX0_buy_22 rfl hl (by decide) rfl (fun ls hl => ?_)
    refine lv_aload_n hx hb dX0_buy_23 rfl (lv_at hl 1 rfl) ?_
    refine k_i (va_runV (As := []) (rest := []) ⟨hx, hb, hml, hown, hts⟩ (c_X0_credit l hst D q cI cZ cJ k V C T B P A n PR ST li w WK so sp CT SC TA H.size hw12 hk8 hWK hV) (cwV 0 hts gX0_buy_X0_credit rfl rfl rfl hd_X0_credit ⟨(by rw [hR]; exact Nat.le_of_ble_eq_true rfl), (by rw [hR]; exact Nat.le_of_ble_eq_true rfl)⟩) (pre_V hP hK hD hS hA hZ hg 0 (ci := 0) rfl rfl) rfl rfl hl.1 rfl (lv_room (Nat.le_of_ble_eq_true rfl)) dX0_buy_24 ⟨(by rw [hR]; exact Nat.le_of_ble_eq_true rfl), (by rw [hR]; exact Nat.le_of_ble_eq_true rfl)⟩) hD hS hA (fun r_5 u_4 H locs hp_6 hP hD hS => ?_)
    subst hp_6
    rw [crk_cr V WK k w hWK]
    refine lv_iload_n hx hb dX0_buy_27 rfl (lv_at hl 0 rfl) ?_
    rcases Nat.lt_or_ge (cr V WK w) (PR j0) with hlt | hge
    · refine lv_isub hx hb dX0_buy_28 ?_
      refine lv_istore_n (lv' := [(3, .int (nI (cr V WK w) - nI (PR j0))), (2, .int (nI (PR j0))), (0, .ref (q 0)), (1, .int (nI j0))]) hx hb dX0_buy_29 rfl hl (by decide) rfl (fun ls hl => ?_)
      refine lv_iload_n hx hb dX0_buy_30 rfl (lv_at hl 0 rfl) ?_
      refine lv_if_ge (tgt := 36) hx hb dX0_buy_31 (by decide) (fun c31 => ?_) (fun c31 => ?_)
      · exact absurd c31 (fun q => by have z := pk_sneg (a := cr V WK w) (b := PR j0) (by have := hPR j0 j0b; omega) hlt; rw [Int32.lt_iff_toInt_lt, Int32.toInt_zero] at z; rw [Int32.le_iff_toInt_le, Int32.toInt_zero] at q; omega)
      · refine lv_iconst (v := nI 2) hx hb dX0_buy_34 (ic_2) ?_
        subst hQ
        exact vx_ret (e_i (j0, 2, T, B, P, w, ST, so, sp, CT, SC, TA) hx hb hr hlocks hS hP hD (⟨rfl, j0b, rfl, Or.inl ⟨⟨rfl, rfl, rfl, rfl, rfl, rfl, rfl, rfl⟩, Or.inr (Or.inl ⟨c11, hlt, rfl⟩)⟩⟩) (Nat.le_of_ble_eq_true rfl) (Nat.le_of_ble_eq_true rfl) dX0_buy_35)
    · refine n_isub hx hb hge dX0_buy_28 ?_
      refine lv_istore_n (lv' := [(3, .int (nI ((cr V WK w) - (PR j0)))), (2, .int (nI (PR j0))), (0, .ref (q 0)), (1, .int (nI j0))]) hx hb dX0_buy_29 rfl hl (by decide) rfl (fun ls hl => ?_)
      refine lv_iload_n hx hb dX0_buy_30 rfl (lv_at hl 0 rfl) ?_
      refine n_if_ge (tgt := 36) hx hb (by omega) dX0_buy_31 (by decide) ?_
      refine lv_aload_n hx hb dX0_buy_36 rfl (lv_at hl 2 rfl) ?_
      refine k_v (va_runV (As := []) (rest := []) ⟨hx, hb, hml, hown, hts⟩ (c_X0_foreseeTubes l hst D q cI cZ cJ k V C T B P A n PR ST li w WK so sp CT SC TA H.size hk8 hC hw12 hWK) (cwV 0 hts gX0_buy_X0_foreseeTubes rfl rfl rfl hd_X0_foreseeTubes ⟨(by rw [hR]; exact Nat.le_of_ble_eq_true rfl), (by rw [hR]; exact Nat.le_of_ble_eq_true rfl)⟩) (pre_V hP hK hD hS hA hZ hg 0 (ci := 0) rfl rfl) rfl rfl hl.1 rfl (lv_room (Nat.le_of_ble_eq_true rfl)) dX0_buy_37 ⟨(by rw [hR]; exact Nat.le_of_ble_eq_true rfl), (by rw [hR]; exact Nat.le_of_ble_eq_true rfl)⟩) hD hS hA (fun u_7 H locs hp_9 hP hD hS => ?_)
      have hta := hp_9
      refine lv_aload_n hx hb dX0_buy_40 rfl (lv_at hl 2 rfl) ?_
      refine lv_iload_n hx hb dX0_buy_41 rfl (lv_at hl 0 rfl) ?_
      refine lv_aload_n hx hb dX0_buy_42 rfl (lv_at hl 2 rfl) ?_
      refine gfX hx hb hts hin hown hK hP 17 (by decide) (List.mem_of_getElem? (i := 3) rfl) rfl rfl dX0_buy_43 ?_
      refine k_v (va_runV (As := [.int (nI ((cr V WK w) - (PR j0))), .ref (q 17)]) (rest := []) ⟨hx, hb, hml, hown, hts⟩ (c_X0_scoreWays_A l hst D q cI cZ cJ k V C T B P A n PR ST li w WK so sp CT SC u_7 H.size ((cr V WK w) - (PR j0)) hk8 hV (by omega) (fun i hi => by have h1 := hta i hi; have h2 := hC i hi; omega)) (cwV 2 hts gX0_buy_X0_scoreWays rfl rfl rfl hd_X0_scoreWays ⟨(by rw [hR]; exact Nat.le_of_ble_eq_true rfl), (by rw [hR]; exact Nat.le_of_ble_eq_true rfl)⟩) (pre_V hP hK hD hS hA hZ hg 0 (ci := 0) rfl rfl) rfl rfl hl.1 rfl (lv_room (Nat.le_of_ble_eq_true rfl)) dX0_buy_46 ⟨(by rw [hR]; exact Nat.le_of_ble_eq_true rfl), (by rw [hR]; exact Nat.le_of_ble_eq_true rfl)⟩) hD hS hA (fun u_10 H locs hp_12 hP hD hS => ?_)
      have hsw := hp_12
      rw [wS_cong (dT_min hC hta)] at hsw
      refine lv_aload_n hx hb dX0_buy_49 rfl (lv_at hl 2 rfl) ?_
      refine lv_iload_n hx hb dX0_buy_50 rfl (lv_at hl 0 rfl) ?_
      refine k_l (va_runV (As := [.int (nI ((cr V WK w) - (PR j0)))]) (rest := []) ⟨hx, hb, hml, hown, hts⟩ (c_X0_scoreOf l hst D q cI cZ cJ k V C T B P A n PR ST li w WK so sp CT u_10 u_7 H.size ((cr V WK w) - (PR j0)) (by omega)) (cwV 1 hts gX0_buy_X0_scoreOf rfl rfl rfl hd_X0_scoreOf ⟨(by rw [hR]; exact Nat.le_of_ble_eq_true rfl), (by rw [hR]; exact Nat.le_of_ble_eq_true rfl)⟩) (pre_V hP hK hD hS hA hZ hg 0 (ci := 0) rfl rfl) rfl rfl hl.1 rfl (lv_room (Nat.le_of_ble_eq_true rfl)) dX0_buy_51 ⟨(by rw [hR]; exact Nat.le_of_ble_eq_true rfl), (by rw [hR]; exact Nat.le_of_ble_eq_true rfl)⟩) hD hS hA (fun r_14 u_13 H locs hp_15 hP hD hS => ?_)
      subst hp_15
      refine lv_lstore (lv' := [(4, .long (lZ (u_10 ((cr V WK w) - (PR j0))))), (3, .int (nI ((cr V WK w) - (PR j0)))), (2, .int (nI (PR j0))), (0, .ref (q 0)), (1, .int (nI j0))]) hx hb dX0_buy_54 hl (by decide) rfl (fun ls hl => ?_)
      refine lv_lload hx hb dX0_buy_56 (lv_at hl 0 rfl) ?_
      refine lv_ldc2 (v := (-4611686018427387904)) hx hb hown (hts _ (List.mem_of_getElem? (i := 4) rfl)) dX0_buy_58 (n_topl (show ((-4611686018427387904) : Int64) = lZ (-4611686018427387904) from by decide) ?_)
      refine n_lcmp_ne (tgt := 67) hx hb dX0_buy_61 dX0_buy_62 (by decide) (fun c61 => ?_) (fun c61 => ?_)
      · have hne : u_10 (cr V WK w - PR j0) ≠ NW := fun q => c61 (congrArg lZ q)
        have hbw := isB_y hsw (Nat.le_refl _) hne
        have hwb := NW_bd (isB_bd (wS_bd8 hk8 (fun i hi => by have h1 := dT_le (WK := WK) (w := w) hC i hi; have h2 := hC i hi; omega) k (Nat.le_refl k)) hsw _ (Nat.le_refl _)) hne
        refine lv_aload_n hx hb dX0_buy_67 rfl (lv_at hl 3 rfl) ?_
        refine k_v (va_runV (As := []) (rest := []) ⟨hx, hb, hml, hown, hts⟩ (c_X0_dropWaiting l hst D q cI cZ cJ k V C T B P A n PR ST li w WK so sp CT u_10 u_7 H.size hk8 hC hw12 hWK) (cwV 0 hts gX0_buy_X0_dropWaiting rfl rfl rfl hd_X0_dropWaiting ⟨(by rw [hR]; exact Nat.le_of_ble_eq_true rfl), (by rw [hR]; exact Nat.le_of_ble_eq_true rfl)⟩) (pre_V hP hK hD hS hA hZ hg 0 (ci := 0) rfl rfl) rfl rfl hl.1 rfl (lv_room (Nat.le_of_ble_eq_true rfl)) dX0_buy_68 ⟨(by rw [hR]; exact Nat.le_of_ble_eq_true rfl), (by rw [hR]; exact Nat.le_of_ble_eq_true rfl)⟩) hD hS hA (fun u_16 H locs hp_18 hP hD hS => ?_)
        refine lv_aload_n hx hb dX0_buy_71 rfl (lv_at hl 3 rfl) ?_
        refine lv_lload hx hb dX0_buy_72 (lv_at hl 0 rfl) ?_
        refine k_v (va_runV (As := [.long (lZ (u_10 ((cr V WK w) - (PR j0))))]) (rest := []) ⟨hx, hb, hml, hown, hts⟩ (c_X0_payOut l hst D q cI cZ cJ k V C (dT C T WK w k) (dB C T B WK w k) P A n PR ST li 0 WK so sp CT u_10 u_7 H.size (u_10 ((cr V WK w) - (PR j0))) hwb hk8 hV (pz_le hk8 (fun i hi => by have h1 := dT_le (WK := WK) (w := w) hC i hi; have h2 := hC i hi; omega) hVd hbw.1)) (cwV 1 hts gX0_buy_X0_payOut rfl rfl rfl hd_X0_payOut ⟨(by rw [hR]; exact Nat.le_of_ble_eq_true rfl), (by rw [hR]; exact Nat.le_of_ble_eq_true rfl)⟩) (pre_V hP hK hD hS hA hZ hg 0 (ci := 0) rfl rfl) rfl rfl hl.1 rfl (lv_room (Nat.le_of_ble_eq_true rfl)) dX0_buy_74 ⟨(by rw [hR]; exact Nat.le_of_ble_eq_true rfl), (by rw [hR]; exact Nat.le_of_ble_eq_true rfl)⟩) hD hS hA (fun u_19 H locs hp_21 hP hD hS => ?_)
        refine lv_aload_n hx hb dX0_buy_77 rfl (lv_at hl 3 rfl) ?_
        refine gfX hx hb hts hin hown hK hP 9 (by decide) (List.mem_of_getElem? (i := 1) rfl) rfl rfl dX0_buy_78 ?_
        refine lv_iload_n hx hb dX0_buy_81 rfl (lv_at hl 4 rfl) ?_
        refine lv_dup2_11 hx hb dX0_buy_82 rfl rfl ?_
        refine n_iald hx hb hK hP 8 0 rfl rfl (by omega) (by decide) dX0_buy_83 ?_
        refine lv_iconst (v := nI 1) hx hb dX0_buy_84 (ic_1) ?_
        refine n_isub hx hb (by have := hPR j0 j0b; omega) dX0_buy_85 ?_
        refine n_iast (ws' := (wX q cI cZ cJ k V C (pT (dT C T WK w k) V k (u_10 ((cr V WK w) - (PR j0))) k) (dB C T B WK w k) (pP P V k (u_10 ((cr V WK w) - (PR j0))) k) A n PR (un ST j0 ((ST j0) - 1)) li 0 WK so sp CT u_10 u_7)) hx hb hK hP hD hS 8 0 rfl rfl (by omega) (by decide) rfl dX0_buy_86 (fun H locs hP hD hS => ?_)
        refine lv_aload_n hx hb dX0_buy_87 rfl (lv_at hl 3 rfl) ?_
        refine lv_iload_n hx hb dX0_buy_88 rfl (lv_at hl 4 rfl) ?_
        refine pfX (ws' := (wX q cI cZ cJ k V C (pT (dT C T WK w k) V k (u_10 ((cr V WK w) - (PR j0))) k) (dB C T B WK w k) (pP P V k (u_10 ((cr V WK w) - (PR j0))) k) A n PR (un ST j0 ((ST j0) - 1)) li 0 WK j0 sp CT u_10 u_7)) hx hb hts hin hown hK hP hD hS 13 (by decide) (List.mem_of_getElem? (i := 5) rfl) rfl ⟨rfl, rfl⟩ rfl rfl dX0_buy_89 (fun H locs hP hD hS => ?_)
        refine lv_aload_n hx hb dX0_buy_92 rfl (lv_at hl 3 rfl) ?_
        refine lv_iload_n hx hb dX0_buy_93 rfl (lv_at hl 2 rfl) ?_
        refine pfX (ws' := (wX q cI cZ cJ k V C (pT (dT C T WK w k) V k (u_10 ((cr V WK w) - (PR j0))) k) (dB C T B WK w k) (pP P V k (u_10 ((cr V WK w) - (PR j0))) k) A n PR (un ST j0 ((ST j0) - 1)) li 0 WK j0 (PR j0) CT u_10 u_7)) hx hb hts hin hown hK hP hD hS 14 (by decide) (List.mem_of_getElem? (i := 6) rfl) rfl ⟨rfl, rfl⟩ rfl rfl dX0_buy_94 (fun H locs hP hD hS => ?_)
        refine lv_aload_n hx hb dX0_buy_97 rfl (lv_at hl 3 rfl) ?_
        refine lv_iload_n hx hb dX0_buy_98 rfl (lv_at hl 2 rfl) ?_
        refine lv_iload_n hx hb dX0_buy_99 rfl (lv_at hl 1 rfl) ?_
        refine k_v (va_runV (As := [.int (nI (PR j0)), .int (nI ((cr V WK w) - (PR j0)))]) (rest := []) ⟨hx, hb, hml, hown, hts⟩ (c_X0_countSale l hst D q cI cZ cJ k V C (pT (dT C T WK w k) V k (u_10 ((cr V WK w) - (PR j0))) k) (dB C T B WK w k) (pP P V k (u_10 ((cr V WK w) - (PR j0))) k) A n PR (un ST j0 ((ST j0) - 1)) li 0 WK j0 (PR j0) CT u_10 u_7 H.size (PR j0) ((cr V WK w) - (PR j0)) ((hPR j0 j0b).2.1) (by omega)) (cwV 2 hts gX0_buy_X0_countSale rfl rfl rfl hd_X0_countSale ⟨(by rw [hR]; exact Nat.le_of_ble_eq_true rfl), (by rw [hR]; exact Nat.le_of_ble_eq_true rfl)⟩) (pre_V hP hK hD hS hA hZ hg 0 (ci := 0) rfl rfl) rfl rfl hl.1 rfl (lv_room (Nat.le_of_ble_eq_true rfl)) dX0_buy_100 ⟨(by rw [hR]; exact Nat.le_of_ble_eq_true rfl), (by rw [hR]; exact Nat.le_of_ble_eq_true rfl)⟩) hD hS hA (fun u_22 H locs hp_24 hP hD hS => ?_)
        have hcs := hp_24
        refine lv_iconst (v := nI 0) hx hb dX0_buy_103 (ic_0) ?_
        subst hQ
        exact vx_ret (e_i (j0, 0, pT (dT C T WK w k) V k (u_10 ((cr V WK w) - (PR j0))) k, dB C T B WK w k, pP P V k (u_10 ((cr V WK w) - (PR j0))) k, 0, un ST j0 ((ST j0) - 1), j0, PR j0, u_22, u_10, u_7) hx hb hr hlocks hS hP hD (⟨rfl, j0b, rfl, Or.inr ⟨c11, hge, rfl, _, hbw, rfl, rfl, rfl, rfl, rfl, rfl, rfl, hcs⟩⟩) (Nat.le_of_ble_eq_true rfl) (Nat.le_of_ble_eq_true rfl) dX0_buy_104)
      · have hbo := isB_bd (wS_bd8 hk8 (fun i hi => by have h1 := dT_le (WK := WK) (w := w) hC i hi; have h2 := hC i hi; omega) k (Nat.le_refl k)) hsw (cr V WK w - PR j0) (Nat.le_refl _)
        have hNWl : NW = -4611686018427387904 := rfl
        have hnw := (isB_n hsw (Nat.le_refl _)).mp ((lZ_eq (by omega) (by omega) (by omega) (by omega)).mp c61)
        refine lv_iconst (v := nI 3) hx hb dX0_buy_65 (ic_3) ?_
        subst hQ
        exact vx_ret (e_i (j0, 3, T, B, P, w, ST, so, sp, CT, u_10, u_7) hx hb hr hlocks hS hP hD (⟨rfl, j0b, rfl, Or.inl ⟨⟨rfl, rfl, rfl, rfl, rfl, rfl, rfl, rfl⟩, Or.inr (Or.inr ⟨c11, hge, hnw, rfl⟩)⟩⟩) (Nat.le_of_ble_eq_true rfl) (Nat.le_of_ble_eq_true rfl) dX0_buy_66)
  · refine lv_iconst (v := nI 1) hx hb dX0_buy_14 (ic_1) ?_
    subst hQ
    exact vx_ret (e_i (j0, 1, T, B, P, w, ST, so, sp, CT, SC, TA) hx hb hr hlocks hS hP hD (⟨rfl, j0b, rfl, Or.inl ⟨⟨rfl, rfl, rfl, rfl, rfl, rfl, rfl, rfl⟩, Or.inl ⟨c11, rfl⟩⟩⟩) (Nat.le_of_ble_eq_true rfl) (Nat.le_of_ble_eq_true rfl) dX0_buy_15)
theorem hd_X0_buy : yX0_buy.cls = RX0 ∧ yX0_buy.cls ≠ "java/lang/invoke/MethodHandle" ∧ yX0_buy.cls ≠ "java/lang/invoke/VarHandle" ∧ (parseMethodDescriptor yX0_buy.desc).map (fun d => d.parameters.length) = some 1 := by decide +kernel
end
section
/-! a call on the middle part of a world -/
theorem va_P_l {D : va_G} {cl : List vw_C} {u v : va_W} {H : Heap} (h : va_P D cl (u ++ v) H) : va_P D cl u H := fun k q hq => h k q (by rw [List.getElem?_append_left (List.getElem?_eq_some_iff.mp hq).1]; exact hq)
theorem va_P_r {D : va_G} {cl : List vw_C} {u v : va_W} {H : Heap} (h : va_P D cl (u ++ v) H) : va_P D cl v H := fun k q hq => h (u.length + k) q (by rw [List.getElem?_append_right (Nat.le_add_right _ _), Nat.add_sub_cancel_left]; exact hq)
theorem va_D_l {A : Nat → Prop} {u v : va_W} (h : va_D A (u ++ v)) : va_D A u :=
  ⟨fun i j p q hi hj e => h.1 i j p q (by rw [List.getElem?_append_left (List.getElem?_eq_some_iff.mp hi).1]; exact hi) (by rw [List.getElem?_append_left (List.getElem?_eq_some_iff.mp hj).1]; exact hj) e,
   fun k q hq => h.2 k q (by rw [List.getElem?_append_left (List.getElem?_eq_some_iff.mp hq).1]; exact hq)⟩
theorem va_D_r {A : Nat → Prop} {u v : va_W} (h : va_D A (u ++ v)) : va_D A v :=
  ⟨fun i j p q hi hj e => by
    have h1 := h.1 (u.length + i) (u.length + j) p q (by rw [List.getElem?_append_right (Nat.le_add_right _ _), Nat.add_sub_cancel_left]; exact hi) (by rw [List.getElem?_append_right (Nat.le_add_right _ _), Nat.add_sub_cancel_left]; exact hj) e
    omega,
   fun k q hq => h.2 (u.length + k) q (by rw [List.getElem?_append_right (Nat.le_add_right _ _), Nat.add_sub_cancel_left]; exact hq)⟩
theorem va_D_x {A : Nat → Prop} {u v : va_W} (h : va_D A (u ++ v)) : ∀ (i j : Nat) (p q : Nat × va_E), u[i]? = some p → v[j]? = some q → p.1 ≠ q.1 := by
  intro i j p q hi hj e
  have hlt := (List.getElem?_eq_some_iff.mp hi).1
  have h1 := h.1 i (u.length + j) p q (by rw [List.getElem?_append_left hlt]; exact hi) (by rw [List.getElem?_append_right (Nat.le_add_right _ _), Nat.add_sub_cancel_left]; exact hj) e
  omega
theorem j_join {A : Nat → Prop} {D : va_G} {cl : List vw_C} {wa wc wb w1 : va_W} {H H1 : Heap} (hP : va_P D cl (wa ++ (wc ++ wb)) H) (hD : va_D A (wa ++ (wc ++ wb))) (hk : ∀ q : Nat, q < H.size → ¬ va_A wc H.size q → H1[q]? = H[q]?) (hF : ∀ q, va_A wc H.size q → A q) (hP1 : va_P D cl w1 H1) (hD1 : va_D (va_A wc H.size) w1) : va_P D cl (wa ++ (w1 ++ wb)) H1 ∧ va_D A (wa ++ (w1 ++ wb)) := by
  have hPa := va_P_l hP
  have hPb := va_P_r (va_P_r hP)
  have hDa := va_D_l hD
  have hDcb := va_D_r hD
  have hDb := va_D_r hDcb
  have xac : ∀ (i j : Nat) (p q : Nat × va_E), wa[i]? = some p → wc[j]? = some q → p.1 ≠ q.1 := fun i j p q hi hj => va_D_x hD i j p q hi (by rw [List.getElem?_append_left (List.getElem?_eq_some_iff.mp hj).1]; exact hj)
  have xab : ∀ (i j : Nat) (p q : Nat × va_E), wa[i]? = some p → wb[j]? = some q → p.1 ≠ q.1 := fun i j p q hi hj => va_D_x hD i (wc.length + j) p q hi (by rw [List.getElem?_append_right (Nat.le_add_right _ _), Nat.add_sub_cancel_left]; exact hj)
  have xcb := va_D_x hDcb
  have outA : ∀ (k : Nat) (q : Nat × va_E), wa[k]? = some q → ¬ va_A wc H.size q.1 := by
    intro k q hq h
    rcases h with ⟨j, e, hj⟩ | h
    · exact xac k j q (q.1, e) hq hj rfl
    · have := (hPa k q hq).lt; omega
  have outB : ∀ (k : Nat) (q : Nat × va_E), wb[k]? = some q → ¬ va_A wc H.size q.1 := by
    intro k q hq h
    rcases h with ⟨j, e, hj⟩ | h
    · exact xcb j k (q.1, e) q hj hq rfl
    · have := (hPb k q hq).lt; omega
  have hPa1 : va_P D cl wa H1 := hPa.kept (fun k q hq => hk q.1 (hPa k q hq).lt (outA k q hq))
  have hPb1 : va_P D cl wb H1 := hPb.kept (fun k q hq => hk q.1 (hPb k q hq).lt (outB k q hq))
  have hD1A : va_D A w1 := hD1.weaken (fun k q _ h => hF q.1 h)
  refine ⟨hPa1.app (hP1.app hPb1), va_D.app hDa (va_D.app hD1A hDb (fun i j p q hi hj e => ?_)) (fun i j p q hi hj e => ?_)⟩
  · exact outB j q hj (e ▸ hD1.2 i p hi)
  · rcases Nat.lt_or_ge j w1.length with z | z
    · rw [List.getElem?_append_left z] at hj
      exact outA i p hi (e ▸ hD1.2 j q hj)
    · rw [List.getElem?_append_right z] at hj
      exact xab i (j - w1.length) p q hi hj e
section KJ
variable {p : Program} {l : Launch} {e : Env} {R : Room} {s : State} {m : MethodId} {args : Array Value} {below : List Frame} {meth : Method} {c : Code} {H : Heap} {locs : List Loc} {cells slots : Nat} {Q : State → Prop}
variable {mc ms pc : Nat} {b : Addr} {As rest st0 : List Value} {ls : Array Slot} {D : va_G} {tys : List (ClassId × FieldType)} {wa wc wb : va_W} {A : Nat → Prop} {S : Type} {Wf : S → va_W}
theorem j_mid (hD : va_D A (wa ++ (wc ++ wb))) : va_D A wc := va_D_l (va_D_r hD)
theorem j_pm {cl : List vw_C} (hP : va_P D cl (wa ++ (wc ++ wb)) H) : va_P D cl wc H := va_P_l (va_P_r hP)
theorem pre_V3 (hP : va_P D vwCl (wa ++ (wc ++ wb)) H) (hK : va_K D vwCl tys s) (hD : va_D A (wa ++ (wc ++ wb))) (hS : va_S A s.heap H locs) (hA : ∀ q, s.heap.size ≤ q → A q) (hZ : zz A s s.heap) (hg : gg s) (q0 : Nat) {ci : Nat} {fs : List Value} {q : vw_C} (hc : vwCl[ci]? = some q) (he : wc[q0]? = some (b, .inr (ci, fs))) : PreV s H q.1 b (va_Pc (.ref b :: As) (cxP D tys wc H.size)) As :=
  pre_V (j_pm hP) hK (j_mid hD) hS hA hZ hg q0 hc he
theorem k3_i {post : Int32 → S → Prop} {a : Array Value} (hr : va_Run p l e R s m args below meth c H locs cells slots mc ms (F0 m pc ls st0) rest (va_Qi post (bW D (va_A wc H.size) Wf) (va_A wc H.size) a) (va_A wc H.size)) (hP : va_P D vwCl (wa ++ (wc ++ wb)) H) (hD : va_D A (wa ++ (wc ++ wb))) (hS : va_S A s.heap H locs) (hA : ∀ q, s.heap.size ≤ q → A q) (kk : ∀ (r : Int32) (u : S) (H1 : Heap) (locs1 : List Loc), post r u → va_P D vwCl (wa ++ (Wf u ++ wb)) H1 → va_D A (wa ++ (Wf u ++ wb)) → va_S A s.heap H1 locs1 → W p l e R s m args below meth c H1 locs1 (cells + mc) (slots + ms) Q (F0 m (pc + 3) ls (.int r :: rest))) : W p l e R s m args below meth c H locs cells slots Q (F0 m pc ls st0) :=
  va_calli hr hS (fun q _ h => free_all (j_mid hD) hS hA q h) (free_all (j_mid hD) hS hA) (fun r u t H1 locs1 ht _ hp hB _ hk hS1 => by
    obtain ⟨h1, h2⟩ := j_join hP hD hk (free_all (j_mid hD) hS hA) (ht ▸ hB.1) hB.2
    exact kk r u H1 locs1 hp h1 h2 hS1)
theorem k3_l {post : Int64 → S → Prop} {a : Array Value} (hr : va_Run p l e R s m args below meth c H locs cells slots mc ms (F0 m pc ls st0) rest (va_Ql post (bW D (va_A wc H.size) Wf) (va_A wc H.size) a) (va_A wc H.size)) (hP : va_P D vwCl (wa ++ (wc ++ wb)) H) (hD : va_D A (wa ++ (wc ++ wb))) (hS : va_S A s.heap H locs) (hA : ∀ q, s.heap.size ≤ q → A q) (kk : ∀ (r : Int64) (u : S) (H1 : Heap) (locs1 : List Loc), post r u → va_P D vwCl (wa ++ (Wf u ++ wb)) H1 → va_D A (wa ++ (Wf u ++ wb)) → va_S A s.heap H1 locs1 → W p l e R s m args below meth c H1 locs1 (cells + mc) (slots + ms) Q (F0 m (pc + 3) ls (.long r :: rest))) : W p l e R s m args below meth c H locs cells slots Q (F0 m pc ls st0) :=
  va_calll hr hS (fun q _ h => free_all (j_mid hD) hS hA q h) (free_all (j_mid hD) hS hA) (fun r u t H1 locs1 ht _ hp hB _ hk hS1 => by
    obtain ⟨h1, h2⟩ := j_join hP hD hk (free_all (j_mid hD) hS hA) (ht ▸ hB.1) hB.2
    exact kk r u H1 locs1 hp h1 h2 hS1)
/-- an array of ints fits -/
theorem fit_rI {cA : ClassId} {n : Nat} {f : Nat → Nat} : ∀ (i : Nat) (v : Value), (vp_cell cA (n, .inl (rI f))).slots[i]? = some v → fits .int v = true := by
  intro i v h
  have e : (vp_cell cA (n, .inl (rI f))) = arrCell cA n (rI f) := rfl
  rw [e] at h
  have hlt := (Array.getElem?_eq_some_iff.mp h).1
  rw [arr_size] at hlt
  rw [arr_read _ _ hlt] at h
  cases h
  rfl
end KJ
end
section
theorem arr_word {args : Array Value} {s : State} {ty : FieldType} (h : (Cond.arrayClass ty).before args s = true) (hp : ty = .int ∨ ty = .boolean ∨ ty = .long) : ∃ cA : ClassId, ArrOfT s cA ty ∧ va_RA s cA ty := by
  obtain ⟨cA, kA, comp, h1, h2, h3⟩ := Cond.arrayClass_spec (first := s) (o := none) (idx := []) h
  refine ⟨cA, fun n z => ⟨fun k h => (by cases h), kA, h2, comp, h3⟩, ?_⟩
  rcases hp with rfl | rfl | rfl <;> exact h1
theorem lZ0 : lZ 0 = 0 := by decide
section CT
variable {p : Program} {l : Launch} {e : Env} {R : Room} {s : State} {m : MethodId} {args : Array Value} {below : List Frame} {meth : Method} {c : Code} {H : Heap} {locs : List Loc} {cells slots : Nat} {Q : State → Prop}
variable {cc : ByteArray} {pc : Nat} {ls : Array Slot} {rest : List Value} {D : va_G} {A : Nat → Prop} {a : Nat} {ws ws' : va_W} {index : Nat} {Ts : List Cond} {fs : List Value} {cI cZ cJ : ClassId}
theorem n_newI (hx : p.tables.exec = Jvm.exec) (hb : c.code = cc) (harr : (Cond.arrayClass .int).before args s = true) (hK : va_K D vwCl (ty3 cI cZ cJ) s) (hP : va_P D vwCl ws H) (hD : va_D A ws) (hS : va_S A s.heap H locs) (hA : ∀ q, s.heap.size ≤ q → A q) {N : Nat} (hN : N < 2147483648) (hby : N * componentBytes .int ≤ 536870912) (hc : cells + 1 ≤ R.cells) (hs : slots + N ≤ R.slots) (hd : decode cc pc = .ok (.newarray .int, 2)) (kk : ∀ (q : Nat) (H1 : Heap), va_P D vwCl (ws ++ [(q, .inl (cI, N, .inl (rI (fun _ => 0))))]) H1 → va_D A (ws ++ [(q, .inl (cI, N, .inl (rI (fun _ => 0))))]) → va_S A s.heap H1 locs → W p l e R s m args below meth c H1 locs (cells + 1) (slots + N) Q (F0 m (pc + 2) ls (.ref q :: rest))) : W p l e R s m args below meth c H locs cells slots Q (F0 m pc ls (.int (nI N) :: rest)) := by
  refine va_newa (atype := .int) (ty := .int) hx hb harr rfl hK hP hD hS hA (a0 := (N, .inl (rI (fun _ => 0)))) (fun cA => rfl) (nI_pos hN) (nI_clamp hN) hby hc hs hd (fun q cA H1 hK2 hP2 hD2 hS2 => ?_)
  have h1 : s.vm.findClass ("[" ++ (FieldType.int).toString) = some cA := (hK2.2 3 (cA, .int) rfl).2
  have h2 : s.vm.findClass ("[" ++ (FieldType.int).toString) = some cI := (hK.2 0 (cI, .int) rfl).2
  obtain rfl : cA = cI := Option.some.inj (h1.symm.trans h2)
  exact kk q H1 hP2 hD2 hS2
theorem n_newZ (hx : p.tables.exec = Jvm.exec) (hb : c.code = cc) (harr : (Cond.arrayClass .boolean).before args s = true) (hK : va_K D vwCl (ty3 cI cZ cJ) s) (hP : va_P D vwCl ws H) (hD : va_D A ws) (hS : va_S A s.heap H locs) (hA : ∀ q, s.heap.size ≤ q → A q) {N : Nat} (hN : N < 2147483648) (hby : N * componentBytes .boolean ≤ 536870912) (hc : cells + 1 ≤ R.cells) (hs : slots + N ≤ R.slots) (hd : decode cc pc = .ok (.newarray .boolean, 2)) (kk : ∀ (q : Nat) (H1 : Heap), va_P D vwCl (ws ++ [(q, .inl (cZ, N, .inl (rI (fun _ => 0))))]) H1 → va_D A (ws ++ [(q, .inl (cZ, N, .inl (rI (fun _ => 0))))]) → va_S A s.heap H1 locs → W p l e R s m args below meth c H1 locs (cells + 1) (slots + N) Q (F0 m (pc + 2) ls (.ref q :: rest))) : W p l e R s m args below meth c H locs cells slots Q (F0 m pc ls (.int (nI N) :: rest)) := by
  refine va_newa (atype := .boolean) (ty := .boolean) hx hb harr rfl hK hP hD hS hA (a0 := (N, .inl (rI (fun _ => 0)))) (fun cA => rfl) (nI_pos hN) (nI_clamp hN) hby hc hs hd (fun q cA H1 hK2 hP2 hD2 hS2 => ?_)
  have h1 : s.vm.findClass ("[" ++ (FieldType.boolean).toString) = some cA := (hK2.2 3 (cA, .boolean) rfl).2
  have h2 : s.vm.findClass ("[" ++ (FieldType.boolean).toString) = some cZ := (hK.2 1 (cZ, .boolean) rfl).2
  obtain rfl : cA = cZ := Option.some.inj (h1.symm.trans h2)
  exact kk q H1 hP2 hD2 hS2
theorem n_newJ (hx : p.tables.exec = Jvm.exec) (hb : c.code = cc) (harr : (Cond.arrayClass .long).before args s = true) (hK : va_K D vwCl (ty3 cI cZ cJ) s) (hP : va_P D vwCl ws H) (hD : va_D A ws) (hS : va_S A s.heap H locs) (hA : ∀ q, s.heap.size ≤ q → A q) {N : Nat} (hN : N < 2147483648) (hby : N * componentBytes .long ≤ 536870912) (hc : cells + 1 ≤ R.cells) (hs : slots + N ≤ R.slots) (hd : decode cc pc = .ok (.newarray .long, 2)) (kk : ∀ (q : Nat) (H1 : Heap), va_P D vwCl (ws ++ [(q, .inl (cJ, N, .inr (.inl (rL (fun _ => 0)))))]) H1 → va_D A (ws ++ [(q, .inl (cJ, N, .inr (.inl (rL (fun _ => 0)))))]) → va_S A s.heap H1 locs → W p l e R s m args below meth c H1 locs (cells + 1) (slots + N) Q (F0 m (pc + 2) ls (.ref q :: rest))) : W p l e R s m args below meth c H locs cells slots Q (F0 m pc ls (.int (nI N) :: rest)) := by
  refine va_newa (atype := .long) (ty := .long) hx hb harr rfl hK hP hD hS hA (a0 := (N, .inr (.inl (rL (fun _ => 0))))) (fun cA => by
    show arrV cA N (fun j => .long (lZ 0)) = _
    rw [lZ0]; rfl) (nI_pos hN) (nI_clamp hN) hby hc hs hd (fun q cA H1 hK2 hP2 hD2 hS2 => ?_)
  have h1 : s.vm.findClass ("[" ++ (FieldType.long).toString) = some cA := (hK2.2 3 (cA, .long) rfl).2
  have h2 : s.vm.findClass ("[" ++ (FieldType.long).toString) = some cJ := (hK.2 2 (cJ, .long) rfl).2
  obtain rfl : cA = cJ := Option.some.inj (h1.symm.trans h2)
  exact kk q H1 hP2 hD2 hS2
theorem fpX (hx : p.tables.exec = Jvm.exec) (hb : c.code = cc) (hts : ∀ w ∈ Ts, w.before args s = true) (hin : ∀ w ∈ wsX00, w ∈ Ts) (hown : s.vm.findClass RX0 = some m.cls) (hK : va_K D vwCl (ty3 cI cZ cJ) s) (hP : va_P D vwCl ws H) (hD : va_D A ws) (hS : va_S A s.heap H locs) (hname : meth.name = "<init>") (k : Nat) (hk : k < 18) (hm : Cond.fieldLink RX0 index "CoinMechanism" (TX0 k).2.1 (TX0 k).2.2.1 ∈ Ts) {x : Nat} (he : ws[0]? = some (a, .inr (0, fs))) (hf : (TX0 k).2.2.2 = true ∧ narrow (tyX0 k) (.ref x) = .ref x ∧ fits (tyX0 k) (.ref x) = true) (hlen : fs.length = 18) (hw : ws.set 0 (a, .inr (0, fs.set k (.ref x))) = ws') (hd : decode cc pc = .ok (.putfield index, 3)) (kk : ∀ (H1 : Heap) (locs1 : List Loc), va_P D vwCl ws' H1 → va_D A ws' → va_S A s.heap H1 locs1 → W p l e R s m args below meth c H1 locs1 cells slots Q (F0 m (pc + 3) ls rest)) : W p l e R s m args below meth c H locs cells slots Q (F0 m pc ls (.ref x :: .ref a :: rest)) := by
  have e0 : (TX0 k).1 = "CoinMechanism" := by
    have h : ∀ k, k < 18 → (TX0 k).1 = "CoinMechanism" := by decide +kernel
    exact h k hk
  exact va_putF (D := D) (ci := 0) (C := RX0) (T := TX0) (N := 18) (ref := "CoinMechanism") (v := .ref x) (ty := tyX0 k) hx hb hts hin tyX0 tyX0_ok nmX0 hown hK hP hD hS 0 he rfl k hk (hts _ hm) (fun x h9 => by rw [e0] at h9; exact h9) hf.1 hname e0 (tyX0_ok k hk) hf.2.1 hf.2.2 (by rw [hlen]; exact hk) hd (fun H1 locs1 h1 h2 h3 => kk H1 locs1 (hw ▸ h1) (hw ▸ h2) h3)
end CT
end
section
set_option maxHeartbeats 4000000 in
set_option maxRecDepth 100000 in
theorem c_X0_init (l : Launch) (D : va_G) (h0 : Nat) (cI cZ cJ : ClassId) (sz : Nat) : Met l yX0_init wsX0_init ({ frames := 1, cells := 12, slots := 2099, locals := 32 }) (va_Pc [.ref h0] (cxP D (ty3 cI cZ cJ) [(h0, .inr (0, [.int 0, .null, .null, .null, .null, .null, .null, .int 0, .null, .null, .int 0, .int 0, .null, .int 0, .int 0, .null, .null, .null]))] sz)) (va_Qv (fun (u : Nat → Nat) => u 0 = h0) (bW D (va_A [(h0, .inr (0, [.int 0, .null, .null, .null, .null, .null, .null, .int 0, .null, .null, .int 0, .int 0, .null, .int 0, .int 0, .null, .null, .null]))] sz) (fun u => (wX u cI cZ cJ 0 (fun _ => 0) (fun _ => 0) (fun _ => 0) (fun _ => 0) (fun _ => 0) (fun _ => 0) 0 (fun _ => 0) (fun _ => 0) 1000 0 (fun _ => 0) 4294967295 0 (rL (fun _ => 0)) (fun _ => 0) (fun _ => 0)))) (va_A [(h0, .inr (0, [.int 0, .null, .null, .null, .null, .null, .null, .int 0, .null, .null, .int 0, .int 0, .null, .int 0, .int 0, .null, .null, .null]))] sz)) 12 2099 (va_A [(h0, .inr (0, [.int 0, .null, .null, .null, .null, .null, .null, .int 0, .null, .null, .int 0, .int 0, .null, .int 0, .int 0, .null, .null, .null]))] sz) := by
  refine Met.ofW (cc := cX0_init) (maxL := 1) (ret := none) (by decide) rfl ?_
  intro p e s m args below meth c s₁ BB hml hv
  obtain ⟨hav, hsz, hP, hK, hD0, hZ, hg⟩ := hv
  subst hsz
  subst hav
  have hx := BB.exec
  have hb := BB.bytes
  have hr := BB.returns
  have hts := atoms_spec (ws := wsX0_init) BB.pre
  have hown : s.vm.findClass RX0 = some m.cls := findClass_of_methodNamed BB.named
  have hlocks := BB.notSynchronized
  have hname : meth.name = "<init>" := (name_of_methodNamed BB.named BB.method).1
  have hin : ∀ w ∈ wsX00, w ∈ wsX0_init := fun w h => (List.mem_cons_of_mem _ (List.mem_append_right _ h))
  have hD := hD0.self (sz := s.heap.size)
  have hA : ∀ q9 : Nat, s.heap.size ≤ q9 → va_A [(h0, .inr (0, [.int 0, .null, .null, .null, .null, .null, .null, .int 0, .null, .null, .int 0, .int 0, .null, .int 0, .int 0, .null, .null, .null]))] s.heap.size q9 := fun _ h => Or.inr h
  have hl := lv_entry ([.ref h0]) (n := 1) (Nat.le_of_ble_eq_true rfl)
  rw [lg_entry_eq]
  generalize (lg_sl ([.ref h0]) ++ List.replicate (1 - (lg_sl ([.ref h0])).length) Slot.unset).toArray = ls at hl ⊢
  have hl : lv_has ls 1 [(0, .ref h0)] := hl
  refine W_absR (fun R hR => ?_)
  have hR : R = ({ frames := 1, cells := 12, slots := 2099, locals := 32 } : Room) := hR
  refine W_absQ (fun Q hQ => ?_)
  generalize ([.ref h0] : List Value).toArray = args at hts hQ ⊢
  generalize va_A [(h0, .inr (0, [.int 0, .null, .null, .null, .null, .null, .null, .int 0, .null, .null, .int 0, .int 0, .null, .int 0, .int 0, .null, .null, .null]))] s.heap.size = A9 at hD hZ hA hQ
  refine W_start hP (A := A9) (fun H locs hP hS => ?_)
  refine lv_aload_n hx hb dX0_init_0 rfl (lv_at hl 0 rfl) ?_
  refine W.objInit hx hb hown (hts _ (List.mem_of_getElem? (i := 1) rfl)) (hts _ (List.mem_of_getElem? (i := 2) rfl)) (hts _ (List.mem_of_getElem? (i := 3) rfl)) rfl (by rw [hml]; exact hl.1) rfl dX0_init_1 (by rw [hR]; exact Nat.le_of_ble_eq_true rfl) (by rw [hR]; exact Nat.le_of_ble_eq_true rfl) ?_
  refine W.eq (g2 := F0 m 4 ls []) rfl ?_
  refine lv_aload_n hx hb dX0_init_4 rfl (lv_at hl 0 rfl) ?_
  refine lv_iconst (v := nI 0) hx hb dX0_init_5 (by decide) ?_
  refine pfX (ws' := [(h0, .inr (0, [.int (nI 0), .null, .null, .null, .null, .null, .null, .int 0, .null, .null, .int 0, .int 0, .null, .int 0, .int 0, .null, .null, .null]))]) hx hb hts hin hown hK hP hD hS 0 (by decide) (List.mem_of_getElem? (i := 4) rfl) rfl ⟨rfl, rfl⟩ rfl rfl dX0_init_6 (fun H locs hP hD hS => ?_)
  refine lv_aload_n hx hb dX0_init_9 rfl (lv_at hl 0 rfl) ?_
  refine lv_bipush (v := nI 8) hx hb dX0_init_10 (by decide) ?_
  refine n_newI hx hb (hts _ (List.mem_of_getElem? (i := 5) rfl)) hK hP hD hS hA (by decide) (by decide) (by rw [hR]; exact Nat.le_of_ble_eq_true rfl) (by rw [hR]; exact Nat.le_of_ble_eq_true rfl) dX0_init_12 (fun q1 H hP hD hS => ?_)
  have hP : va_P D vwCl [(h0, .inr (0, [.int (nI 0), .null, .null, .null, .null, .null, .null, .int 0, .null, .null, .int 0, .int 0, .null, .int 0, .int 0, .null, .null, .null])), (q1, .inl (cI, 8, .inl (rI (fun _ => 0))))] H := hP
  have hD : va_D A9 [(h0, .inr (0, [.int (nI 0), .null, .null, .null, .null, .null, .null, .int 0, .null, .null, .int 0, .int 0, .null, .int 0, .int 0, .null, .null, .null])), (q1, .inl (cI, 8, .inl (rI (fun _ => 0))))] := hD
  refine fpX (ws' := [(h0, .inr (0, [.int (nI 0), .ref q1, .null, .null, .null, .null, .null, .int 0, .null, .null, .int 0, .int 0, .null, .int 0, .int 0, .null, .null, .null])), (q1, .inl (cI, 8, .inl (rI (fun _ => 0))))]) hx hb hts hin hown hK hP hD hS hname 1 (by decide) (List.mem_of_getElem? (i := 6) rfl) rfl ⟨rfl, rfl, rfl⟩ rfl rfl dX0_init_14 (fun H locs hP hD hS => ?_)
  refine lv_aload_n hx hb dX0_init_17 rfl (lv_at hl 0 rfl) ?_
  refine lv_bipush (v := nI 8) hx hb dX0_init_18 (by decide) ?_
  refine n_newI hx hb (hts _ (List.mem_of_getElem? (i := 5) rfl)) hK hP hD hS hA (by decide) (by decide) (by rw [hR]; exact Nat.le_of_ble_eq_true rfl) (by rw [hR]; exact Nat.le_of_ble_eq_true rfl) dX0_init_20 (fun q2 H hP hD hS => ?_)
  have hP : va_P D vwCl [(h0, .inr (0, [.int (nI 0), .ref q1, .null, .null, .null, .null, .null, .int 0, .null, .null, .int 0, .int 0, .null, .int 0, .int 0, .null, .null, .null])), (q1, .inl (cI, 8, .inl (rI (fun _ => 0)))), (q2, .inl (cI, 8, .inl (rI (fun _ => 0))))] H := hP
  have hD : va_D A9 [(h0, .inr (0, [.int (nI 0), .ref q1, .null, .null, .null, .null, .null, .int 0, .null, .null, .int 0, .int 0, .null, .int 0, .int 0, .null, .null, .null])), (q1, .inl (cI, 8, .inl (rI (fun _ => 0)))), (q2, .inl (cI, 8, .inl (rI (fun _ => 0))))] := hD
  refine fpX (ws' := [(h0, .inr (0, [.int (nI 0), .ref q1, .ref q2, .null, .null, .null, .null, .int 0, .null, .null, .int 0, .int 0, .null, .int 0, .int 0, .null, .null, .null])), (q1, .inl (cI, 8, .inl (rI (fun _ => 0)))), (q2, .inl (cI, 8, .inl (rI (fun _ => 0))))]) hx hb hts hin hown hK hP hD hS hname 2 (by decide) (List.mem_of_getElem? (i := 7) rfl) rfl ⟨rfl, rfl, rfl⟩ rfl rfl dX0_init_22 (fun H locs hP hD hS => ?_)
  refine lv_aload_n hx hb dX0_init_25 rfl (lv_at hl 0 rfl) ?_
  refine lv_bipush (v := nI 8) hx hb dX0_init_26 (by decide) ?_
  refine n_newI hx hb (hts _ (List.mem_of_getElem? (i := 5) rfl)) hK hP hD hS hA (by decide) (by decide) (by rw [hR]; exact Nat.le_of_ble_eq_true rfl) (by rw [hR]; exact Nat.le_of_ble_eq_true rfl) dX0_init_28 (fun q3 H hP hD hS => ?_)
  have hP : va_P D vwCl [(h0, .inr (0, [.int (nI 0), .ref q1, .ref q2, .null, .null, .null, .null, .int 0, .null, .null, .int 0, .int 0, .null, .int 0, .int 0, .null, .null, .null])), (q1, .inl (cI, 8, .inl (rI (fun _ => 0)))), (q2, .inl (cI, 8, .inl (rI (fun _ => 0)))), (q3, .inl (cI, 8, .inl (rI (fun _ => 0))))] H := hP
  have hD : va_D A9 [(h0, .inr (0, [.int (nI 0), .ref q1, .ref q2, .null, .null, .null, .null, .int 0, .null, .null, .int 0, .int 0, .null, .int 0, .int 0, .null, .null, .null])), (q1, .inl (cI, 8, .inl (rI (fun _ => 0)))), (q2, .inl (cI, 8, .inl (rI (fun _ => 0)))), (q3, .inl (cI, 8, .inl (rI (fun _ => 0))))] := hD
  refine fpX (ws' := [(h0, .inr (0, [.int (nI 0), .ref q1, .ref q2, .ref q3, .null, .null, .null, .int 0, .null, .null, .int 0, .int 0, .null, .int 0, .int 0, .null, .null, .null])), (q1, .inl (cI, 8, .inl (rI (fun _ => 0)))), (q2, .inl (cI, 8, .inl (rI (fun _ => 0)))), (q3, .inl (cI, 8, .inl (rI (fun _ => 0))))]) hx hb hts hin hown hK hP hD hS hname 3 (by decide) (List.mem_of_getElem? (i := 8) rfl) rfl ⟨rfl, rfl, rfl⟩ rfl rfl dX0_init_30 (fun H locs hP hD hS => ?_)
  refine lv_aload_n hx hb dX0_init_33 rfl (lv_at hl 0 rfl) ?_
  refine lv_bipush (v := nI 8) hx hb dX0_init_34 (by decide) ?_
  refine n_newI hx hb (hts _ (List.mem_of_getElem? (i := 5) rfl)) hK hP hD hS hA (by decide) (by decide) (by rw [hR]; exact Nat.le_of_ble_eq_true rfl) (by rw [hR]; exact Nat.le_of_ble_eq_true rfl) dX0_init_36 (fun q4 H hP hD hS => ?_)
  have hP : va_P D vwCl [(h0, .inr (0, [.int (nI 0), .ref q1, .ref q2, .ref q3, .null, .null, .null, .int 0, .null, .null, .int 0, .int 0, .null, .int 0, .int 0, .null, .null, .null])), (q1, .inl (cI, 8, .inl (rI (fun _ => 0)))), (q2, .inl (cI, 8, .inl (rI (fun _ => 0)))), (q3, .inl (cI, 8, .inl (rI (fun _ => 0)))), (q4, .inl (cI, 8, .inl (rI (fun _ => 0))))] H := hP
  have hD : va_D A9 [(h0, .inr (0, [.int (nI 0), .ref q1, .ref q2, .ref q3, .null, .null, .null, .int 0, .null, .null, .int 0, .int 0, .null, .int 0, .int 0, .null, .null, .null])), (q1, .inl (cI, 8, .inl (rI (fun _ => 0)))), (q2, .inl (cI, 8, .inl (rI (fun _ => 0)))), (q3, .inl (cI, 8, .inl (rI (fun _ => 0)))), (q4, .inl (cI, 8, .inl (rI (fun _ => 0))))] := hD
  refine fpX (ws' := [(h0, .inr (0, [.int (nI 0), .ref q1, .ref q2, .ref q3, .ref q4, .null, .null, .int 0, .null, .null, .int 0, .int 0, .null, .int 0, .int 0, .null, .null, .null])), (q1, .inl (cI, 8, .inl (rI (fun _ => 0)))), (q2, .inl (cI, 8, .inl (rI (fun _ => 0)))), (q3, .inl (cI, 8, .inl (rI (fun _ => 0)))), (q4, .inl (cI, 8, .inl (rI (fun _ => 0))))]) hx hb hts hin hown hK hP hD hS hname 4 (by decide) (List.mem_of_getElem? (i := 9) rfl) rfl ⟨rfl, rfl, rfl⟩ rfl rfl dX0_init_38 (fun H locs hP hD hS => ?_)
  refine lv_aload_n hx hb dX0_init_41 rfl (lv_at hl 0 rfl) ?_
  refine lv_bipush (v := nI 8) hx hb dX0_init_42 (by decide) ?_
  refine n_newI hx hb (hts _ (List.mem_of_getElem? (i := 5) rfl)) hK hP hD hS hA (by decide) (by decide) (by rw [hR]; exact Nat.le_of_ble_eq_true rfl) (by rw [hR]; exact Nat.le_of_ble_eq_true rfl) dX0_init_44 (fun q5 H hP hD hS => ?_)
  have hP : va_P D vwCl [(h0, .inr (0, [.int (nI 0), .ref q1, .ref q2, .ref q3, .ref q4, .null, .null, .int 0, .null, .null, .int 0, .int 0, .null, .int 0, .int 0, .null, .null, .null])), (q1, .inl (cI, 8, .inl (rI (fun _ => 0)))), (q2, .inl (cI, 8, .inl (rI (fun _ => 0)))), (q3, .inl (cI, 8, .inl (rI (fun _ => 0)))), (q4, .inl (cI, 8, .inl (rI (fun _ => 0)))), (q5, .inl (cI, 8, .inl (rI (fun _ => 0))))] H := hP
  have hD : va_D A9 [(h0, .inr (0, [.int (nI 0), .ref q1, .ref q2, .ref q3, .ref q4, .null, .null, .int 0, .null, .null, .int 0, .int 0, .null, .int 0, .int 0, .null, .null, .null])), (q1, .inl (cI, 8, .inl (rI (fun _ => 0)))), (q2, .inl (cI, 8, .inl (rI (fun _ => 0)))), (q3, .inl (cI, 8, .inl (rI (fun _ => 0)))), (q4, .inl (cI, 8, .inl (rI (fun _ => 0)))), (q5, .inl (cI, 8, .inl (rI (fun _ => 0))))] := hD
  refine fpX (ws' := [(h0, .inr (0, [.int (nI 0), .ref q1, .ref q2, .ref q3, .ref q4, .ref q5, .null, .int 0, .null, .null, .int 0, .int 0, .null, .int 0, .int 0, .null, .null, .null])), (q1, .inl (cI, 8, .inl (rI (fun _ => 0)))), (q2, .inl (cI, 8, .inl (rI (fun _ => 0)))), (q3, .inl (cI, 8, .inl (rI (fun _ => 0)))), (q4, .inl (cI, 8, .inl (rI (fun _ => 0)))), (q5, .inl (cI, 8, .inl (rI (fun _ => 0))))]) hx hb hts hin hown hK hP hD hS hname 5 (by decide) (List.mem_of_getElem? (i := 10) rfl) rfl ⟨rfl, rfl, rfl⟩ rfl rfl dX0_init_46 (fun H locs hP hD hS => ?_)
  refine lv_aload_n hx hb dX0_init_49 rfl (lv_at hl 0 rfl) ?_
  refine lv_bipush (v := nI 8) hx hb dX0_init_50 (by decide) ?_
  refine n_newZ hx hb (hts _ (List.mem_of_getElem? (i := 11) rfl)) hK hP hD hS hA (by decide) (by decide) (by rw [hR]; exact Nat.le_of_ble_eq_true rfl) (by rw [hR]; exact Nat.le_of_ble_eq_true rfl) dX0_init_52 (fun q6 H hP hD hS => ?_)
  have hP : va_P D vwCl [(h0, .inr (0, [.int (nI 0), .ref q1, .ref q2, .ref q3, .ref q4, .ref q5, .null, .int 0, .null, .null, .int 0, .int 0, .null, .int 0, .int 0, .null, .null, .null])), (q1, .inl (cI, 8, .inl (rI (fun _ => 0)))), (q2, .inl (cI, 8, .inl (rI (fun _ => 0)))), (q3, .inl (cI, 8, .inl (rI (fun _ => 0)))), (q4, .inl (cI, 8, .inl (rI (fun _ => 0)))), (q5, .inl (cI, 8, .inl (rI (fun _ => 0)))), (q6, .inl (cZ, 8, .inl (rI (fun _ => 0))))] H := hP
  have hD : va_D A9 [(h0, .inr (0, [.int (nI 0), .ref q1, .ref q2, .ref q3, .ref q4, .ref q5, .null, .int 0, .null, .null, .int 0, .int 0, .null, .int 0, .int 0, .null, .null, .null])), (q1, .inl (cI, 8, .inl (rI (fun _ => 0)))), (q2, .inl (cI, 8, .inl (rI (fun _ => 0)))), (q3, .inl (cI, 8, .inl (rI (fun _ => 0)))), (q4, .inl (cI, 8, .inl (rI (fun _ => 0)))), (q5, .inl (cI, 8, .inl (rI (fun _ => 0)))), (q6, .inl (cZ, 8, .inl (rI (fun _ => 0))))] := hD
  refine fpX (ws' := [(h0, .inr (0, [.int (nI 0), .ref q1, .ref q2, .ref q3, .ref q4, .ref q5, .ref q6, .int 0, .null, .null, .int 0, .int 0, .null, .int 0, .int 0, .null, .null, .null])), (q1, .inl (cI, 8, .inl (rI (fun _ => 0)))), (q2, .inl (cI, 8, .inl (rI (fun _ => 0)))), (q3, .inl (cI, 8, .inl (rI (fun _ => 0)))), (q4, .inl (cI, 8, .inl (rI (fun _ => 0)))), (q5, .inl (cI, 8, .inl (rI (fun _ => 0)))), (q6, .inl (cZ, 8, .inl (rI (fun _ => 0))))]) hx hb hts hin hown hK hP hD hS hname 6 (by decide) (List.mem_of_getElem? (i := 12) rfl) rfl ⟨rfl, rfl, rfl⟩ rfl rfl dX0_init_54 (fun H locs hP hD hS => ?_)
  refine lv_aload_n hx hb dX0_init_57 rfl (lv_at hl 0 rfl) ?_
  refine lv_iconst (v := nI 0) hx hb dX0_init_58 (by decide) ?_
  refine pfX (ws' := [(h0, .inr (0, [.int (nI 0), .ref q1, .ref q2, .ref q3, .ref q4, .ref q5, .ref q6, .int (nI 0), .null, .null, .int 0, .int 0, .null, .int 0, .int 0, .null, .null, .null])), (q1, .inl (cI, 8, .inl (rI (fun _ => 0)))), (q2, .inl (cI, 8, .inl (rI (fun _ => 0)))), (q3, .inl (cI, 8, .inl (rI (fun _ => 0)))), (q4, .inl (cI, 8, .inl (rI (fun _ => 0)))), (q5, .inl (cI, 8, .inl (rI (fun _ => 0)))), (q6, .inl (cZ, 8, .inl (rI (fun _ => 0))))]) hx hb hts hin hown hK hP hD hS 7 (by decide) (List.mem_of_getElem? (i := 13) rfl) rfl ⟨rfl, rfl⟩ rfl rfl dX0_init_59 (fun H locs hP hD hS => ?_)
  refine lv_aload_n hx hb dX0_init_62 rfl (lv_at hl 0 rfl) ?_
  refine lv_bipush (v := nI 10) hx hb dX0_init_63 (by decide) ?_
  refine n_newI hx hb (hts _ (List.mem_of_getElem? (i := 5) rfl)) hK hP hD hS hA (by decide) (by decide) (by rw [hR]; exact Nat.le_of_ble_eq_true rfl) (by rw [hR]; exact Nat.le_of_ble_eq_true rfl) dX0_init_65 (fun q8 H hP hD hS => ?_)
  have hP : va_P D vwCl [(h0, .inr (0, [.int (nI 0), .ref q1, .ref q2, .ref q3, .ref q4, .ref q5, .ref q6, .int (nI 0), .null, .null, .int 0, .int 0, .null, .int 0, .int 0, .null, .null, .null])), (q1, .inl (cI, 8, .inl (rI (fun _ => 0)))), (q2, .inl (cI, 8, .inl (rI (fun _ => 0)))), (q3, .inl (cI, 8, .inl (rI (fun _ => 0)))), (q4, .inl (cI, 8, .inl (rI (fun _ => 0)))), (q5, .inl (cI, 8, .inl (rI (fun _ => 0)))), (q6, .inl (cZ, 8, .inl (rI (fun _ => 0)))), (q8, .inl (cI, 10, .inl (rI (fun _ => 0))))] H := hP
  have hD : va_D A9 [(h0, .inr (0, [.int (nI 0), .ref q1, .ref q2, .ref q3, .ref q4, .ref q5, .ref q6, .int (nI 0), .null, .null, .int 0, .int 0, .null, .int 0, .int 0, .null, .null, .null])), (q1, .inl (cI, 8, .inl (rI (fun _ => 0)))), (q2, .inl (cI, 8, .inl (rI (fun _ => 0)))), (q3, .inl (cI, 8, .inl (rI (fun _ => 0)))), (q4, .inl (cI, 8, .inl (rI (fun _ => 0)))), (q5, .inl (cI, 8, .inl (rI (fun _ => 0)))), (q6, .inl (cZ, 8, .inl (rI (fun _ => 0)))), (q8, .inl (cI, 10, .inl (rI (fun _ => 0))))] := hD
  refine fpX (ws' := [(h0, .inr (0, [.int (nI 0), .ref q1, .ref q2, .ref q3, .ref q4, .ref q5, .ref q6, .int (nI 0), .ref q8, .null, .int 0, .int 0, .null, .int 0, .int 0, .null, .null, .null])), (q1, .inl (cI, 8, .inl (rI (fun _ => 0)))), (q2, .inl (cI, 8, .inl (rI (fun _ => 0)))), (q3, .inl (cI, 8, .inl (rI (fun _ => 0)))), (q4, .inl (cI, 8, .inl (rI (fun _ => 0)))), (q5, .inl (cI, 8, .inl (rI (fun _ => 0)))), (q6, .inl (cZ, 8, .inl (rI (fun _ => 0)))), (q8, .inl (cI, 10, .inl (rI (fun _ => 0))))]) hx hb hts hin hown hK hP hD hS hname 8 (by decide) (List.mem_of_getElem? (i := 14) rfl) rfl ⟨rfl, rfl, rfl⟩ rfl rfl dX0_init_67 (fun H locs hP hD hS => ?_)
  refine lv_aload_n hx hb dX0_init_70 rfl (lv_at hl 0 rfl) ?_
  refine lv_bipush (v := nI 10) hx hb dX0_init_71 (by decide) ?_
  refine n_newI hx hb (hts _ (List.mem_of_getElem? (i := 5) rfl)) hK hP hD hS hA (by decide) (by decide) (by rw [hR]; exact Nat.le_of_ble_eq_true rfl) (by rw [hR]; exact Nat.le_of_ble_eq_true rfl) dX0_init_73 (fun q9 H hP hD hS => ?_)
  have hP : va_P D vwCl [(h0, .inr (0, [.int (nI 0), .ref q1, .ref q2, .ref q3, .ref q4, .ref q5, .ref q6, .int (nI 0), .ref q8, .null, .int 0, .int 0, .null, .int 0, .int 0, .null, .null, .null])), (q1, .inl (cI, 8, .inl (rI (fun _ => 0)))), (q2, .inl (cI, 8, .inl (rI (fun _ => 0)))), (q3, .inl (cI, 8, .inl (rI (fun _ => 0)))), (q4, .inl (cI, 8, .inl (rI (fun _ => 0)))), (q5, .inl (cI, 8, .inl (rI (fun _ => 0)))), (q6, .inl (cZ, 8, .inl (rI (fun _ => 0)))), (q8, .inl (cI, 10, .inl (rI (fun _ => 0)))), (q9, .inl (cI, 10, .inl (rI (fun _ => 0))))] H := hP
  have hD : va_D A9 [(h0, .inr (0, [.int (nI 0), .ref q1, .ref q2, .ref q3, .ref q4, .ref q5, .ref q6, .int (nI 0), .ref q8, .null, .int 0, .int 0, .null, .int 0, .int 0, .null, .null, .null])), (q1, .inl (cI, 8, .inl (rI (fun _ => 0)))), (q2, .inl (cI, 8, .inl (rI (fun _ => 0)))), (q3, .inl (cI, 8, .inl (rI (fun _ => 0)))), (q4, .inl (cI, 8, .inl (rI (fun _ => 0)))), (q5, .inl (cI, 8, .inl (rI (fun _ => 0)))), (q6, .inl (cZ, 8, .inl (rI (fun _ => 0)))), (q8, .inl (cI, 10, .inl (rI (fun _ => 0)))), (q9, .inl (cI, 10, .inl (rI (fun _ => 0))))] := hD
  refine fpX (ws' := [(h0, .inr (0, [.int (nI 0), .ref q1, .ref q2, .ref q3, .ref q4, .ref q5, .ref q6, .int (nI 0), .ref q8, .ref q9, .int 0, .int 0, .null, .int 0, .int 0, .null, .null, .null])), (q1, .inl (cI, 8, .inl (rI (fun _ => 0)))), (q2, .inl (cI, 8, .inl (rI (fun _ => 0)))), (q3, .inl (cI, 8, .inl (rI (fun _ => 0)))), (q4, .inl (cI, 8, .inl (rI (fun _ => 0)))), (q5, .inl (cI, 8, .inl (rI (fun _ => 0)))), (q6, .inl (cZ, 8, .inl (rI (fun _ => 0)))), (q8, .inl (cI, 10, .inl (rI (fun _ => 0)))), (q9, .inl (cI, 10, .inl (rI (fun _ => 0))))]) hx hb hts hin hown hK hP hD hS hname 9 (by decide) (List.mem_of_getElem? (i := 15) rfl) rfl ⟨rfl, rfl, rfl⟩ rfl rfl dX0_init_75 (fun H locs hP hD hS => ?_)
  refine lv_aload_n hx hb dX0_init_78 rfl (lv_at hl 0 rfl) ?_
  refine lv_sipush (v := nI 1000) hx hb dX0_init_79 (by decide) ?_
  refine pfX (ws' := [(h0, .inr (0, [.int (nI 0), .ref q1, .ref q2, .ref q3, .ref q4, .ref q5, .ref q6, .int (nI 0), .ref q8, .ref q9, .int (nI 1000), .int 0, .null, .int 0, .int 0, .null, .null, .null])), (q1, .inl (cI, 8, .inl (rI (fun _ => 0)))), (q2, .inl (cI, 8, .inl (rI (fun _ => 0)))), (q3, .inl (cI, 8, .inl (rI (fun _ => 0)))), (q4, .inl (cI, 8, .inl (rI (fun _ => 0)))), (q5, .inl (cI, 8, .inl (rI (fun _ => 0)))), (q6, .inl (cZ, 8, .inl (rI (fun _ => 0)))), (q8, .inl (cI, 10, .inl (rI (fun _ => 0)))), (q9, .inl (cI, 10, .inl (rI (fun _ => 0))))]) hx hb hts hin hown hK hP hD hS 10 (by decide) (List.mem_of_getElem? (i := 16) rfl) rfl ⟨rfl, rfl⟩ rfl rfl dX0_init_82 (fun H locs hP hD hS => ?_)
  refine lv_aload_n hx hb dX0_init_85 rfl (lv_at hl 0 rfl) ?_
  refine lv_iconst (v := nI 0) hx hb dX0_init_86 (by decide) ?_
  refine pfX (ws' := [(h0, .inr (0, [.int (nI 0), .ref q1, .ref q2, .ref q3, .ref q4, .ref q5, .ref q6, .int (nI 0), .ref q8, .ref q9, .int (nI 1000), .int (nI 0), .null, .int 0, .int 0, .null, .null, .null])), (q1, .inl (cI, 8, .inl (rI (fun _ => 0)))), (q2, .inl (cI, 8, .inl (rI (fun _ => 0)))), (q3, .inl (cI, 8, .inl (rI (fun _ => 0)))), (q4, .inl (cI, 8, .inl (rI (fun _ => 0)))), (q5, .inl (cI, 8, .inl (rI (fun _ => 0)))), (q6, .inl (cZ, 8, .inl (rI (fun _ => 0)))), (q8, .inl (cI, 10, .inl (rI (fun _ => 0)))), (q9, .inl (cI, 10, .inl (rI (fun _ => 0))))]) hx hb hts hin hown hK hP hD hS 11 (by decide) (List.mem_of_getElem? (i := 17) rfl) rfl ⟨rfl, rfl⟩ rfl rfl dX0_init_87 (fun H locs hP hD hS => ?_)
  refine lv_aload_n hx hb dX0_init_90 rfl (lv_at hl 0 rfl) ?_
  refine lv_bipush (v := nI 12) hx hb dX0_init_91 (by decide) ?_
  refine n_newI hx hb (hts _ (List.mem_of_getElem? (i := 5) rfl)) hK hP hD hS hA (by decide) (by decide) (by rw [hR]; exact Nat.le_of_ble_eq_true rfl) (by rw [hR]; exact Nat.le_of_ble_eq_true rfl) dX0_init_93 (fun q12 H hP hD hS => ?_)
  have hP : va_P D vwCl [(h0, .inr (0, [.int (nI 0), .ref q1, .ref q2, .ref q3, .ref q4, .ref q5, .ref q6, .int (nI 0), .ref q8, .ref q9, .int (nI 1000), .int (nI 0), .null, .int 0, .int 0, .null, .null, .null])), (q1, .inl (cI, 8, .inl (rI (fun _ => 0)))), (q2, .inl (cI, 8, .inl (rI (fun _ => 0)))), (q3, .inl (cI, 8, .inl (rI (fun _ => 0)))), (q4, .inl (cI, 8, .inl (rI (fun _ => 0)))), (q5, .inl (cI, 8, .inl (rI (fun _ => 0)))), (q6, .inl (cZ, 8, .inl (rI (fun _ => 0)))), (q8, .inl (cI, 10, .inl (rI (fun _ => 0)))), (q9, .inl (cI, 10, .inl (rI (fun _ => 0)))), (q12, .inl (cI, 12, .inl (rI (fun _ => 0))))] H := hP
  have hD : va_D A9 [(h0, .inr (0, [.int (nI 0), .ref q1, .ref q2, .ref q3, .ref q4, .ref q5, .ref q6, .int (nI 0), .ref q8, .ref q9, .int (nI 1000), .int (nI 0), .null, .int 0, .int 0, .null, .null, .null])), (q1, .inl (cI, 8, .inl (rI (fun _ => 0)))), (q2, .inl (cI, 8, .inl (rI (fun _ => 0)))), (q3, .inl (cI, 8, .inl (rI (fun _ => 0)))), (q4, .inl (cI, 8, .inl (rI (fun _ => 0)))), (q5, .inl (cI, 8, .inl (rI (fun _ => 0)))), (q6, .inl (cZ, 8, .inl (rI (fun _ => 0)))), (q8, .inl (cI, 10, .inl (rI (fun _ => 0)))), (q9, .inl (cI, 10, .inl (rI (fun _ => 0)))), (q12, .inl (cI, 12, .inl (rI (fun _ => 0))))] := hD
  refine fpX (ws' := [(h0, .inr (0, [.int (nI 0), .ref q1, .ref q2, .ref q3, .ref q4, .ref q5, .ref q6, .int (nI 0), .ref q8, .ref q9, .int (nI 1000), .int (nI 0), .ref q12, .int 0, .int 0, .null, .null, .null])), (q1, .inl (cI, 8, .inl (rI (fun _ => 0)))), (q2, .inl (cI, 8, .inl (rI (fun _ => 0)))), (q3, .inl (cI, 8, .inl (rI (fun _ => 0)))), (q4, .inl (cI, 8, .inl (rI (fun _ => 0)))), (q5, .inl (cI, 8, .inl (rI (fun _ => 0)))), (q6, .inl (cZ, 8, .inl (rI (fun _ => 0)))), (q8, .inl (cI, 10, .inl (rI (fun _ => 0)))), (q9, .inl (cI, 10, .inl (rI (fun _ => 0)))), (q12, .inl (cI, 12, .inl (rI (fun _ => 0))))]) hx hb hts hin hown hK hP hD hS hname 12 (by decide) (List.mem_of_getElem? (i := 18) rfl) rfl ⟨rfl, rfl, rfl⟩ rfl rfl dX0_init_95 (fun H locs hP hD hS => ?_)
  refine lv_aload_n hx hb dX0_init_98 rfl (lv_at hl 0 rfl) ?_
  refine lv_iconst (v := nI 4294967295) hx hb dX0_init_99 (by decide) ?_
  refine pfX (ws' := [(h0, .inr (0, [.int (nI 0), .ref q1, .ref q2, .ref q3, .ref q4, .ref q5, .ref q6, .int (nI 0), .ref q8, .ref q9, .int (nI 1000), .int (nI 0), .ref q12, .int (nI 4294967295), .int 0, .null, .null, .null])), (q1, .inl (cI, 8, .inl (rI (fun _ => 0)))), (q2, .inl (cI, 8, .inl (rI (fun _ => 0)))), (q3, .inl (cI, 8, .inl (rI (fun _ => 0)))), (q4, .inl (cI, 8, .inl (rI (fun _ => 0)))), (q5, .inl (cI, 8, .inl (rI (fun _ => 0)))), (q6, .inl (cZ, 8, .inl (rI (fun _ => 0)))), (q8, .inl (cI, 10, .inl (rI (fun _ => 0)))), (q9, .inl (cI, 10, .inl (rI (fun _ => 0)))), (q12, .inl (cI, 12, .inl (rI (fun _ => 0))))]) hx hb hts hin hown hK hP hD hS 13 (by decide) (List.mem_of_getElem? (i := 19) rfl) rfl ⟨rfl, rfl⟩ rfl rfl dX0_init_100 (fun H locs hP hD hS => ?_)
  refine lv_aload_n hx hb dX0_init_103 rfl (lv_at hl 0 rfl) ?_
  refine lv_iconst (v := nI 0) hx hb dX0_init_104 (by decide) ?_
  refine pfX (ws' := [(h0, .inr (0, [.int (nI 0), .ref q1, .ref q2, .ref q3, .ref q4, .ref q5, .ref q6, .int (nI 0), .ref q8, .ref q9, .int (nI 1000), .int (nI 0), .ref q12, .int (nI 4294967295), .int (nI 0), .null, .null, .null])), (q1, .inl (cI, 8, .inl (rI (fun _ => 0)))), (q2, .inl (cI, 8, .inl (rI (fun _ => 0)))), (q3, .inl (cI, 8, .inl (rI (fun _ => 0)))), (q4, .inl (cI, 8, .inl (rI (fun _ => 0)))), (q5, .inl (cI, 8, .inl (rI (fun _ => 0)))), (q6, .inl (cZ, 8, .inl (rI (fun _ => 0)))), (q8, .inl (cI, 10, .inl (rI (fun _ => 0)))), (q9, .inl (cI, 10, .inl (rI (fun _ => 0)))), (q12, .inl (cI, 12, .inl (rI (fun _ => 0))))]) hx hb hts hin hown hK hP hD hS 14 (by decide) (List.mem_of_getElem? (i := 20) rfl) rfl ⟨rfl, rfl⟩ rfl rfl dX0_init_105 (fun H locs hP hD hS => ?_)
  refine lv_aload_n hx hb dX0_init_108 rfl (lv_at hl 0 rfl) ?_
  refine lv_bipush (v := nI 10) hx hb dX0_init_109 (by decide) ?_
  refine n_newJ hx hb (hts _ (List.mem_of_getElem? (i := 21) rfl)) hK hP hD hS hA (by decide) (by decide) (by rw [hR]; exact Nat.le_of_ble_eq_true rfl) (by rw [hR]; exact Nat.le_of_ble_eq_true rfl) dX0_init_111 (fun q15 H hP hD hS => ?_)
  have hP : va_P D vwCl [(h0, .inr (0, [.int (nI 0), .ref q1, .ref q2, .ref q3, .ref q4, .ref q5, .ref q6, .int (nI 0), .ref q8, .ref q9, .int (nI 1000), .int (nI 0), .ref q12, .int (nI 4294967295), .int (nI 0), .null, .null, .null])), (q1, .inl (cI, 8, .inl (rI (fun _ => 0)))), (q2, .inl (cI, 8, .inl (rI (fun _ => 0)))), (q3, .inl (cI, 8, .inl (rI (fun _ => 0)))), (q4, .inl (cI, 8, .inl (rI (fun _ => 0)))), (q5, .inl (cI, 8, .inl (rI (fun _ => 0)))), (q6, .inl (cZ, 8, .inl (rI (fun _ => 0)))), (q8, .inl (cI, 10, .inl (rI (fun _ => 0)))), (q9, .inl (cI, 10, .inl (rI (fun _ => 0)))), (q12, .inl (cI, 12, .inl (rI (fun _ => 0)))), (q15, .inl (cJ, 10, .inr (.inl (rL (fun _ => 0)))))] H := hP
  have hD : va_D A9 [(h0, .inr (0, [.int (nI 0), .ref q1, .ref q2, .ref q3, .ref q4, .ref q5, .ref q6, .int (nI 0), .ref q8, .ref q9, .int (nI 1000), .int (nI 0), .ref q12, .int (nI 4294967295), .int (nI 0), .null, .null, .null])), (q1, .inl (cI, 8, .inl (rI (fun _ => 0)))), (q2, .inl (cI, 8, .inl (rI (fun _ => 0)))), (q3, .inl (cI, 8, .inl (rI (fun _ => 0)))), (q4, .inl (cI, 8, .inl (rI (fun _ => 0)))), (q5, .inl (cI, 8, .inl (rI (fun _ => 0)))), (q6, .inl (cZ, 8, .inl (rI (fun _ => 0)))), (q8, .inl (cI, 10, .inl (rI (fun _ => 0)))), (q9, .inl (cI, 10, .inl (rI (fun _ => 0)))), (q12, .inl (cI, 12, .inl (rI (fun _ => 0)))), (q15, .inl (cJ, 10, .inr (.inl (rL (fun _ => 0)))))] := hD
  refine fpX (ws' := [(h0, .inr (0, [.int (nI 0), .ref q1, .ref q2, .ref q3, .ref q4, .ref q5, .ref q6, .int (nI 0), .ref q8, .ref q9, .int (nI 1000), .int (nI 0), .ref q12, .int (nI 4294967295), .int (nI 0), .ref q15, .null, .null])), (q1, .inl (cI, 8, .inl (rI (fun _ => 0)))), (q2, .inl (cI, 8, .inl (rI (fun _ => 0)))), (q3, .inl (cI, 8, .inl (rI (fun _ => 0)))), (q4, .inl (cI, 8, .inl (rI (fun _ => 0)))), (q5, .inl (cI, 8, .inl (rI (fun _ => 0)))), (q6, .inl (cZ, 8, .inl (rI (fun _ => 0)))), (q8, .inl (cI, 10, .inl (rI (fun _ => 0)))), (q9, .inl (cI, 10, .inl (rI (fun _ => 0)))), (q12, .inl (cI, 12, .inl (rI (fun _ => 0)))), (q15, .inl (cJ, 10, .inr (.inl (rL (fun _ => 0)))))]) hx hb hts hin hown hK hP hD hS hname 15 (by decide) (List.mem_of_getElem? (i := 22) rfl) rfl ⟨rfl, rfl, rfl⟩ rfl rfl dX0_init_113 (fun H locs hP hD hS => ?_)
  refine lv_aload_n hx hb dX0_init_116 rfl (lv_at hl 0 rfl) ?_
  refine lv_sipush (v := nI 2001) hx hb dX0_init_117 (by decide) ?_
  refine n_newJ hx hb (hts _ (List.mem_of_getElem? (i := 21) rfl)) hK hP hD hS hA (by decide) (by decide) (by rw [hR]; exact Nat.le_of_ble_eq_true rfl) (by rw [hR]; exact Nat.le_of_ble_eq_true rfl) dX0_init_120 (fun q16 H hP hD hS => ?_)
  have hP : va_P D vwCl [(h0, .inr (0, [.int (nI 0), .ref q1, .ref q2, .ref q3, .ref q4, .ref q5, .ref q6, .int (nI 0), .ref q8, .ref q9, .int (nI 1000), .int (nI 0), .ref q12, .int (nI 4294967295), .int (nI 0), .ref q15, .null, .null])), (q1, .inl (cI, 8, .inl (rI (fun _ => 0)))), (q2, .inl (cI, 8, .inl (rI (fun _ => 0)))), (q3, .inl (cI, 8, .inl (rI (fun _ => 0)))), (q4, .inl (cI, 8, .inl (rI (fun _ => 0)))), (q5, .inl (cI, 8, .inl (rI (fun _ => 0)))), (q6, .inl (cZ, 8, .inl (rI (fun _ => 0)))), (q8, .inl (cI, 10, .inl (rI (fun _ => 0)))), (q9, .inl (cI, 10, .inl (rI (fun _ => 0)))), (q12, .inl (cI, 12, .inl (rI (fun _ => 0)))), (q15, .inl (cJ, 10, .inr (.inl (rL (fun _ => 0))))), (q16, .inl (cJ, 2001, .inr (.inl (rL (fun _ => 0)))))] H := hP
  have hD : va_D A9 [(h0, .inr (0, [.int (nI 0), .ref q1, .ref q2, .ref q3, .ref q4, .ref q5, .ref q6, .int (nI 0), .ref q8, .ref q9, .int (nI 1000), .int (nI 0), .ref q12, .int (nI 4294967295), .int (nI 0), .ref q15, .null, .null])), (q1, .inl (cI, 8, .inl (rI (fun _ => 0)))), (q2, .inl (cI, 8, .inl (rI (fun _ => 0)))), (q3, .inl (cI, 8, .inl (rI (fun _ => 0)))), (q4, .inl (cI, 8, .inl (rI (fun _ => 0)))), (q5, .inl (cI, 8, .inl (rI (fun _ => 0)))), (q6, .inl (cZ, 8, .inl (rI (fun _ => 0)))), (q8, .inl (cI, 10, .inl (rI (fun _ => 0)))), (q9, .inl (cI, 10, .inl (rI (fun _ => 0)))), (q12, .inl (cI, 12, .inl (rI (fun _ => 0)))), (q15, .inl (cJ, 10, .inr (.inl (rL (fun _ => 0))))), (q16, .inl (cJ, 2001, .inr (.inl (rL (fun _ => 0)))))] := hD
  refine fpX (ws' := [(h0, .inr (0, [.int (nI 0), .ref q1, .ref q2, .ref q3, .ref q4, .ref q5, .ref q6, .int (nI 0), .ref q8, .ref q9, .int (nI 1000), .int (nI 0), .ref q12, .int (nI 4294967295), .int (nI 0), .ref q15, .ref q16, .null])), (q1, .inl (cI, 8, .inl (rI (fun _ => 0)))), (q2, .inl (cI, 8, .inl (rI (fun _ => 0)))), (q3, .inl (cI, 8, .inl (rI (fun _ => 0)))), (q4, .inl (cI, 8, .inl (rI (fun _ => 0)))), (q5, .inl (cI, 8, .inl (rI (fun _ => 0)))), (q6, .inl (cZ, 8, .inl (rI (fun _ => 0)))), (q8, .inl (cI, 10, .inl (rI (fun _ => 0)))), (q9, .inl (cI, 10, .inl (rI (fun _ => 0)))), (q12, .inl (cI, 12, .inl (rI (fun _ => 0)))), (q15, .inl (cJ, 10, .inr (.inl (rL (fun _ => 0))))), (q16, .inl (cJ, 2001, .inr (.inl (rL (fun _ => 0)))))]) hx hb hts hin hown hK hP hD hS hname 16 (by decide) (List.mem_of_getElem? (i := 23) rfl) rfl ⟨rfl, rfl, rfl⟩ rfl rfl dX0_init_122 (fun H locs hP hD hS => ?_)
  refine lv_aload_n hx hb dX0_init_125 rfl (lv_at hl 0 rfl) ?_
  refine lv_bipush (v := nI 8) hx hb dX0_init_126 (by decide) ?_
  refine n_newI hx hb (hts _ (List.mem_of_getElem? (i := 5) rfl)) hK hP hD hS hA (by decide) (by decide) (by rw [hR]; exact Nat.le_of_ble_eq_true rfl) (by rw [hR]; exact Nat.le_of_ble_eq_true rfl) dX0_init_128 (fun q17 H hP hD hS => ?_)
  have hP : va_P D vwCl [(h0, .inr (0, [.int (nI 0), .ref q1, .ref q2, .ref q3, .ref q4, .ref q5, .ref q6, .int (nI 0), .ref q8, .ref q9, .int (nI 1000), .int (nI 0), .ref q12, .int (nI 4294967295), .int (nI 0), .ref q15, .ref q16, .null])), (q1, .inl (cI, 8, .inl (rI (fun _ => 0)))), (q2, .inl (cI, 8, .inl (rI (fun _ => 0)))), (q3, .inl (cI, 8, .inl (rI (fun _ => 0)))), (q4, .inl (cI, 8, .inl (rI (fun _ => 0)))), (q5, .inl (cI, 8, .inl (rI (fun _ => 0)))), (q6, .inl (cZ, 8, .inl (rI (fun _ => 0)))), (q8, .inl (cI, 10, .inl (rI (fun _ => 0)))), (q9, .inl (cI, 10, .inl (rI (fun _ => 0)))), (q12, .inl (cI, 12, .inl (rI (fun _ => 0)))), (q15, .inl (cJ, 10, .inr (.inl (rL (fun _ => 0))))), (q16, .inl (cJ, 2001, .inr (.inl (rL (fun _ => 0))))), (q17, .inl (cI, 8, .inl (rI (fun _ => 0))))] H := hP
  have hD : va_D A9 [(h0, .inr (0, [.int (nI 0), .ref q1, .ref q2, .ref q3, .ref q4, .ref q5, .ref q6, .int (nI 0), .ref q8, .ref q9, .int (nI 1000), .int (nI 0), .ref q12, .int (nI 4294967295), .int (nI 0), .ref q15, .ref q16, .null])), (q1, .inl (cI, 8, .inl (rI (fun _ => 0)))), (q2, .inl (cI, 8, .inl (rI (fun _ => 0)))), (q3, .inl (cI, 8, .inl (rI (fun _ => 0)))), (q4, .inl (cI, 8, .inl (rI (fun _ => 0)))), (q5, .inl (cI, 8, .inl (rI (fun _ => 0)))), (q6, .inl (cZ, 8, .inl (rI (fun _ => 0)))), (q8, .inl (cI, 10, .inl (rI (fun _ => 0)))), (q9, .inl (cI, 10, .inl (rI (fun _ => 0)))), (q12, .inl (cI, 12, .inl (rI (fun _ => 0)))), (q15, .inl (cJ, 10, .inr (.inl (rL (fun _ => 0))))), (q16, .inl (cJ, 2001, .inr (.inl (rL (fun _ => 0))))), (q17, .inl (cI, 8, .inl (rI (fun _ => 0))))] := hD
  refine fpX (ws' := [(h0, .inr (0, [.int (nI 0), .ref q1, .ref q2, .ref q3, .ref q4, .ref q5, .ref q6, .int (nI 0), .ref q8, .ref q9, .int (nI 1000), .int (nI 0), .ref q12, .int (nI 4294967295), .int (nI 0), .ref q15, .ref q16, .ref q17])), (q1, .inl (cI, 8, .inl (rI (fun _ => 0)))), (q2, .inl (cI, 8, .inl (rI (fun _ => 0)))), (q3, .inl (cI, 8, .inl (rI (fun _ => 0)))), (q4, .inl (cI, 8, .inl (rI (fun _ => 0)))), (q5, .inl (cI, 8, .inl (rI (fun _ => 0)))), (q6, .inl (cZ, 8, .inl (rI (fun _ => 0)))), (q8, .inl (cI, 10, .inl (rI (fun _ => 0)))), (q9, .inl (cI, 10, .inl (rI (fun _ => 0)))), (q12, .inl (cI, 12, .inl (rI (fun _ => 0)))), (q15, .inl (cJ, 10, .inr (.inl (rL (fun _ => 0))))), (q16, .inl (cJ, 2001, .inr (.inl (rL (fun _ => 0))))), (q17, .inl (cI, 8, .inl (rI (fun _ => 0))))]) hx hb hts hin hown hK hP hD hS hname 17 (by decide) (List.mem_of_getElem? (i := 24) rfl) rfl ⟨rfl, rfl, rfl⟩ rfl rfl dX0_init_130 (fun H locs hP hD hS => ?_)
  subst hQ
  exact e_v (fun j => ([h0, q1, q2, q3, q4, q5, q6, 0, q8, q9, 0, 0, q12, 0, 0, q15, q16, q17, 0] : List Nat).getD j 0) hx hb hr hlocks hS hP hD rfl (Nat.le_of_ble_eq_true rfl) (Nat.le_of_ble_eq_true rfl) dX0_init_133
end
section
/-! one coin more keeps every way; what a way's parts come to; what the unit divides -/
theorem xt_up {S S' : Nat → Int → Prop} {v : Nat} {w : Int} {T T' : Nat} (hS : ∀ a z, S a z → S' a z) (h : T ≤ T') {a : Nat} {z : Int} (q : xt S v w T a z) : xt S' v w T' a z := by
  obtain ⟨c, h1, h2, h3⟩ := q
  exact ⟨c, Nat.le_trans h1 h, h2, hS _ _ h3⟩
theorem wS_up {t t' V : Nat → Nat} {g : Nat → Int} : ∀ {m : Nat}, (∀ i, i < m → t i ≤ t' i) → ∀ (a : Nat) (z : Int), wS t V g m a z → wS t' V g m a z
  | 0, _, _, _, h => h
  | m + 1, ht, a, z, h => by
    show xt (wS t' V g m) (V m) (g m) (t' m) a z
    exact xt_up (wS_up (fun i hi => ht i (by omega))) (ht m (by omega)) h
theorem nway_up {t t' V : Nat → Nat} {k a : Nat} (ht : ∀ i, i < k → t i ≤ t' i) (h : nway t' V k a) : nway t V k a := fun z q => h z (wS_up ht a z q)
theorem bway_up {t t' V : Nat → Nat} {k a : Nat} {z z' : Int} (ht : ∀ i, i < k → t i ≤ t' i) (h : bway t V k a z) (h' : bway t' V k a z') : z ≤ z' := h'.2 z (wS_up ht a z h.1)
theorem cnz_anti {z z' : Int} (h : z ≤ z') : cnz z' ≤ cnz z := by
  unfold cnz
  have := Int.ediv_le_ediv (show (0 : Int) < 281474976710656 by decide) h
  omega
theorem gpc_up {P Q : Nat → Prop} (h : ∀ b, P b → Q b) : ∀ a, gpc P a ≤ gpc Q a
  | 0 => Nat.le_refl 0
  | a + 1 => by
    show gpc P a + b1 (P (a + 1)) ≤ gpc Q a + b1 (Q (a + 1))
    have h1 := gpc_up h a
    rcases Classical.em (P (a + 1)) with q | q
    · rw [b1_y q, b1_y (h _ q)]; omega
    · rw [b1_n q]; omega
theorem gpR_up {t t' V : Nat → Nat} {k : Nat} (ht : ∀ i, i < k → t i ≤ t' i) (a : Nat) : gpR t' V k a ≤ gpR t V k a := by
  unfold gpR
  by_cases h : gu V k < 1
  · rw [if_pos h]; omega
  · rw [if_neg h, if_neg h]
    exact gpc_up (fun b q => ⟨q.1, nway_up ht q.2⟩) a
theorem gpR_le {t V : Nat → Nat} {k : Nat} (a : Nat) : gpR t V k a ≤ a := by
  unfold gpR
  by_cases h : gu V k < 1
  · rw [if_pos h]; omega
  · rw [if_neg h]
    exact gpc_le _ a
theorem blR_up {t t' V : Nat → Nat} {k a r r' : Nat} (ht : ∀ i, i < k → t i ≤ t' i) (h : blR t V k a r) (h' : blR t' V k a r') : r ≤ r' :=
  Nat.le_of_not_lt fun q => h.2.1 (nway_up ht (h'.2.2 r q h.1))
theorem blR_y {t V : Nat → Nat} {k a r : Nat} {z : Int} (hb : bway t V k a z) (h : blR t V k a r) : r = a := by
  rcases Nat.lt_or_ge r a with q | q
  · exact absurd hb.1 (h.2.2 a q (Nat.le_refl a) z)
  · exact Nat.le_antisymm h.1 q
theorem blR_n {t V : Nat → Nat} {k a r : Nat} (hn : nway t V k a) (h : blR t V k a r) : r < a := by
  rcases Nat.lt_or_ge r a with q | q
  · exact q
  · exact absurd (show nway t V k r by rw [Nat.le_antisymm h.1 q]; exact hn) h.2.1
theorem wS_dvd {t V : Nat → Nat} {g : Nat → Int} {d : Nat} : ∀ {m : Nat}, (∀ i, i < m → V i % d = 0) → ∀ (a : Nat) (z : Int), wS t V g m a z → a % d = 0
  | 0, _, a, z, h => by
    obtain rfl : a = 0 := h.1
    exact Nat.zero_mod d
  | m + 1, hV, a, z, h => by
    obtain ⟨c, h1, h2, h3⟩ := h
    have e1 : d ∣ a - c * V m := Nat.dvd_of_mod_eq_zero (wS_dvd (fun i hi => hV i (by omega)) _ _ h3)
    have e2 : d ∣ c * V m := Nat.dvd_trans (Nat.dvd_of_mod_eq_zero (hV m (by omega))) (Nat.dvd_mul_left _ _)
    have e3 : (a - c * V m) + c * V m = a := Nat.sub_add_cancel h2
    rw [← e3]
    exact Nat.mod_eq_zero_of_dvd (Nat.dvd_add e1 e2)
theorem fd_dv {V : Nat → Nat} {k : Nat} : ∀ {d : Nat}, 1 ≤ d → dv V k (fd V k d) = 1
  | 0, h => absurd h (by omega)
  | d + 1, _ => by
    by_cases h : dv V k (d + 1) = 1
    · rw [fd_y (by omega) h]; exact h
    · rw [fd_n (by omega) h]
      show dv V k (fd V k d) = 1
      by_cases e : d = 0
      · subst e
        exact absurd (dv_1 V k) h
      · exact fd_dv (by omega)
theorem dv_all {V : Nat → Nat} {k d : Nat} (h : dv V k d = 1) : ∀ i, i < k → V i % d = 0 := by
  unfold dv at h
  by_cases q : ∀ i, i < k → V i % d = 0
  · exact q
  · rw [if_neg q] at h
    omega
theorem gu_fd {V : Nat → Nat} {k : Nat} (hk : 1 ≤ k) : gu V k = fd V k 500 := if_neg (by omega)
theorem gu_pos {V : Nat → Nat} {k : Nat} (hk : 1 ≤ k) : 1 ≤ gu V k := by rw [gu_fd hk]; exact fd_pos (by decide)
theorem gu_le (V : Nat → Nat) (k : Nat) : gu V k ≤ 500 := by
  unfold gu
  split
  · omega
  · exact fd_le V k 500
/-- the unit divides what can be paid -/
theorem unit_div {t V : Nat → Nat} {g : Nat → Int} {k a : Nat} {z : Int} (hk : 1 ≤ k) (h : wS t V g k a z) : a % gu V k = 0 :=
  wS_dvd (dv_all (by rw [gu_fd hk]; exact fd_dv (by decide))) a z h
/-- the parts of a way come to its amount, and to its coins -/
theorem way_sums {t V : Nat → Nat} {k a : Nat} {z : Int} (hk : k ≤ 8) (ht : ∀ i, i < k → t i ≤ 60) (hd : ∀ i j, i < k → j < k → V i = V j → i = j) (h : wS t V (wg V k) k a z) : sm (fun i => pz z (lc V (V i) k) * V i) k = a ∧ sm (fun i => pz z (lc V (V i) k)) k = cnz z ∧ cnz z ≤ 480 := by
  obtain ⟨c, h1, h2, -, -, h5, h6⟩ := way_dec hk ht hd h
  refine ⟨?_, ?_, ?_⟩
  · rw [← h2]; exact sm_cong (fun i hi => by rw [h6 i hi])
  · rw [h5]; exact sm_cong (fun i hi => h6 i hi)
  · rw [h5]
    have q := sm_le (f := c) (c := 60) (n := k) (fun i hi => Nat.le_trans (h1 i hi) (ht i hi))
    have : k * 60 ≤ 8 * 60 := Nat.mul_le_mul_right _ hk
    omega
theorem bway_fn {t V : Nat → Nat} {k a : Nat} {z z' : Int} (h : bway t V k a z) (h' : bway t V k a z') : z = z' := Int.le_antisymm (h'.2 z h.1) (h.2 z' h'.1)
theorem fwR_y {t V : Nat → Nat} {k a r : Nat} {z : Int} (hb : bway t V k a z) (h : fwR t V k a r) : r = cnz z := by
  rcases h with ⟨h1, -⟩ | ⟨z', h1, h2⟩
  · exact absurd hb.1 (h1 z)
  · rw [h2, bway_fn hb h1]
theorem ptR_y {t V : Nat → Nat} {k a i r : Nat} {z : Int} (hb : bway t V k a z) (h : ptR t V k a i r) : r = pz z (lc V (V i) k) := by
  rcases h with ⟨h1, -⟩ | ⟨z', h1, h2⟩
  · exact absurd hb.1 (h1 z)
  · rw [h2, bway_fn hb h1]
theorem ptR_n {t V : Nat → Nat} {k a i r : Nat} (hn : nway t V k a) (h : ptR t V k a i r) : r = 4294967295 := by
  rcases h with ⟨-, h2⟩ | ⟨z', h1, -⟩
  · exact h2
  · exact absurd h1.1 (hn z')
/-- .. what can be paid is told by a way -/
theorem fwR_s {t V : Nat → Nat} {k a r : Nat} (hn : ¬ nway t V k a) (h : fwR t V k a r) : ∃ z, bway t V k a z ∧ r = cnz z := by
  rcases h with ⟨h1, -⟩ | h
  · exact absurd h1 hn
  · exact h
/-- one coin more: as many coins or fewer -/
theorem fwR_up {t t' V : Nat → Nat} {k a r : Nat} {z : Int} (ht : ∀ i, i < k → t i ≤ t' i) (hb : bway t V k a z) (h : fwR t' V k a r) : ∃ z', bway t' V k a z' ∧ r = cnz z' ∧ cnz z' ≤ cnz z := by
  rcases h with ⟨h1, -⟩ | ⟨z', h1, h2⟩
  · exact absurd (wS_up ht a z hb.1) (h1 z)
  · exact ⟨z', h1, h2, cnz_anti (bway_up ht hb h1)⟩
theorem un_up {T : Nat → Nat} {j x : Nat} (h : T j ≤ x) : ∀ i, T i ≤ un T j x i := by
  intro i
  by_cases e : i = j
  · subst e; rw [un_s]; exact h
  · rw [un_n e]; exact Nat.le_refl _
theorem mask_31 (x : Int32) : ∃ d, d < 2147483648 ∧ x &&& nI 2147483647 = nI d := by
  have h : (x &&& nI 2147483647).toBitVec.toNat ≤ 2147483647 := by
    rw [Int32.toBitVec_and, BitVec.toNat_and]
    exact Nat.le_trans Nat.and_le_right (by decide)
  refine ⟨(x &&& nI 2147483647).toBitVec.toNat, by omega, ?_⟩
  apply Int32.toBitVec_inj.mp
  show _ = (Int32.ofNat _).toBitVec
  rw [Int32.toBitVec_ofNat']
  apply BitVec.eq_of_toNat_eq
  rw [BitVec.toNat_ofNat]
  omega
theorem m1_neg : nI 4294967295 < 0 := by decide
theorem m1_le {x : Nat} (h : x < 2147483648) : nI 4294967295 ≤ nI x := by
  rw [Int32.le_iff_toInt_le, nI_toInt h]
  have e : (nI 4294967295).toInt = -1 := by decide
  rw [e]
  omega
theorem cs_0 (CT : Nat → Int64) (pr ch : Nat) : cs CT pr ch 0 = CT 0 := by
  unfold cs
  split <;> simp [vp_updL]
theorem cs_2 (CT : Nat → Int64) (pr ch : Nat) : cs CT pr ch 2 = CT 2 + lZ (ch : Int) := by
  unfold cs
  split <;> simp [vp_updL]
theorem cs_7 (CT : Nat → Int64) (pr ch : Nat) : cs CT pr ch 7 = CT 7 + lZ (pr : Int) := by
  unfold cs
  split <;> simp [vp_updL]
theorem updL_s {f : Nat → Int64} {i : Nat} {x : Int64} : vp_updL f i x i = x := if_pos rfl
theorem updL_n {f : Nat → Int64} {i j : Nat} {x : Int64} (h : j ≠ i) : vp_updL f i x j = f j := if_neg h
theorem cr_un {V WK : Nat → Nat} {w i : Nat} : cr V (un WK w i) (w + 1) = cr V WK w + V i := by
  unfold cr
  show sm (fun j => V (un WK w i j)) w + V (un WK w i w) = _
  rw [un_s, sm_cong (g := fun j => V (WK j)) (fun j hj => by rw [un_n (Nat.ne_of_lt hj)])]
end
section
/-! calls that cannot throw; the script in a world's sight -/
section KN
variable {p : Program} {l : Launch} {e : Env} {R : Room} {s : State} {m : MethodId} {args : Array Value} {below : List Frame} {meth : Method} {c : Code} {H : Heap} {locs : List Loc} {cells slots : Nat} {Q : State → Prop}
variable {mc ms pc : Nat} {b : Addr} {As rest st0 : List Value} {ls : Array Slot} {D : va_G} {tys : List (ClassId × FieldType)} {wa wc wb : va_W} {A : Nat → Prop} {S : Type} {Wf : S → va_W}
theorem kn3_i {post : Int32 → S → Prop} {pe : String → Prop} {a : Array Value} (hr : vx_Run p l e R s m args below meth c H locs cells slots mc ms (F0 m pc ls st0) rest (va_Qi post (bW D (va_A wc H.size) Wf) (va_A wc H.size) a) (xX D pe wc (va_A wc H.size)) (va_A wc H.size)) (hP : va_P D vwCl (wa ++ (wc ++ wb)) H) (hD : va_D A (wa ++ (wc ++ wb))) (hS : va_S A s.heap H locs) (hA : ∀ q, s.heap.size ≤ q → A q) (hno : ∀ E, ¬ pe E) (kk : ∀ (r : Int32) (u : S) (H1 : Heap) (locs1 : List Loc), post r u → va_P D vwCl (wa ++ (Wf u ++ wb)) H1 → va_D A (wa ++ (Wf u ++ wb)) → va_S A s.heap H1 locs1 → W p l e R s m args below meth c H1 locs1 (cells + mc) (slots + ms) Q (F0 m (pc + 3) ls (.int r :: rest))) : W p l e R s m args below meth c H locs cells slots Q (F0 m pc ls st0) :=
  vx_calli hr hS (fun q _ h => free_all (j_mid hD) hS hA q h) (free_all (j_mid hD) hS hA) (fun q _ h => free_all (j_mid hD) hS hA q h) (fun E ce q9 u t H1 locs1 ht _ _ hB _ hk hS1 h1 h2 h3 => absurd hB.1 (hno E)) (fun r u t H1 locs1 ht _ hp hB _ hk hS1 => by
    obtain ⟨h1, h2⟩ := j_join hP hD hk (free_all (j_mid hD) hS hA) (ht ▸ hB.1) hB.2
    exact kk r u H1 locs1 hp h1 h2 hS1)
theorem kn3_l {post : Int64 → S → Prop} {pe : String → Prop} {a : Array Value} (hr : vx_Run p l e R s m args below meth c H locs cells slots mc ms (F0 m pc ls st0) rest (va_Ql post (bW D (va_A wc H.size) Wf) (va_A wc H.size) a) (xX D pe wc (va_A wc H.size)) (va_A wc H.size)) (hP : va_P D vwCl (wa ++ (wc ++ wb)) H) (hD : va_D A (wa ++ (wc ++ wb))) (hS : va_S A s.heap H locs) (hA : ∀ q, s.heap.size ≤ q → A q) (hno : ∀ E, ¬ pe E) (kk : ∀ (r : Int64) (u : S) (H1 : Heap) (locs1 : List Loc), post r u → va_P D vwCl (wa ++ (Wf u ++ wb)) H1 → va_D A (wa ++ (Wf u ++ wb)) → va_S A s.heap H1 locs1 → W p l e R s m args below meth c H1 locs1 (cells + mc) (slots + ms) Q (F0 m (pc + 3) ls (.long r :: rest))) : W p l e R s m args below meth c H locs cells slots Q (F0 m pc ls st0) :=
  vx_calll hr hS (fun q _ h => free_all (j_mid hD) hS hA q h) (free_all (j_mid hD) hS hA) (fun q _ h => free_all (j_mid hD) hS hA q h) (fun E ce q9 u t H1 locs1 ht _ _ hB _ hk hS1 h1 h2 h3 => absurd hB.1 (hno E)) (fun r u t H1 locs1 ht _ hp hB _ hk hS1 => by
    obtain ⟨h1, h2⟩ := j_join hP hD hk (free_all (j_mid hD) hS hA) (ht ▸ hB.1) hB.2
    exact kk r u H1 locs1 hp h1 h2 hS1)
theorem k3_v {post : S → Prop} {a : Array Value} (hr : va_Run p l e R s m args below meth c H locs cells slots mc ms (F0 m pc ls st0) rest (va_Qv post (bW D (va_A wc H.size) Wf) (va_A wc H.size) a) (va_A wc H.size)) (hP : va_P D vwCl (wa ++ (wc ++ wb)) H) (hD : va_D A (wa ++ (wc ++ wb))) (hS : va_S A s.heap H locs) (hA : ∀ q, s.heap.size ≤ q → A q) (kk : ∀ (u : S) (H1 : Heap) (locs1 : List Loc), post u → va_P D vwCl (wa ++ (Wf u ++ wb)) H1 → va_D A (wa ++ (Wf u ++ wb)) → va_S A s.heap H1 locs1 → W p l e R s m args below meth c H1 locs1 (cells + mc) (slots + ms) Q (F0 m (pc + 3) ls rest)) : W p l e R s m args below meth c H locs cells slots Q (F0 m pc ls st0) :=
  va_callv hr hS (fun q _ h => free_all (j_mid hD) hS hA q h) (free_all (j_mid hD) hS hA) (fun u t H1 locs1 ht _ hp hB _ hk hS1 => by
    obtain ⟨h1, h2⟩ := j_join hP hD hk (free_all (j_mid hD) hS hA) (ht ▸ hB.1) hB.2
    exact kk u H1 locs1 hp h1 h2 hS1)
/-- a method's start where the script is read: it lies outside what may change -/
def cxS (D : va_G) (tys : List (ClassId × FieldType)) (ws : va_W) (sz b L : Nat) (xs : Nat → Int32) (U : State) : Prop := cxP D tys ws sz U ∧ va_X b L xs U U.heap ∧ b < sz ∧ ¬ va_A ws sz b
theorem cxS.blind {ws : va_W} {sz b L : Nat} {xs : Nat → Int32} {av : List Value} : FrameBlind (va_Pc av (cxS D tys ws sz b L xs)) := by
  intro a U g mk h
  exact ⟨h.1, (cxP.blind (av := av) a U g mk ⟨h.1, h.2.1⟩).2, va_X.moved (u := U) (U := U.calling g mk a) (Vm.Alike.refl U.vm) h.2.2.1, h.2.2.2⟩
theorem pre_SS {L : Nat} {xs : Nat → Int32} (hP : va_P D vwCl (wa ++ (wc ++ wb)) H) (hK : va_K D vwCl tys s) (hD : va_D A (wa ++ (wc ++ wb))) (hS : va_S A s.heap H locs) (hA : ∀ q, s.heap.size ≤ q → A q) (hZ : zz A s s.heap) (hg : gg s) (hX : va_X b L xs s s.heap) (hbl : b < s.heap.size) (hbA : ¬ A b) : PreS s H (va_Pc As (cxS D tys wc H.size b L xs)) As :=
  ⟨cxS.blind, fun U hU hW => ⟨rfl, cxP.give (j_pm hP) hK (j_mid hD) hS (free_all (j_mid hD) hS hA) hZ hg hU hW, by
    rw [hU]
    exact (hX.kept (hS.2.1 b hbl hbA)).moved hW.alike, Nat.lt_of_lt_of_le hbl hS.1, fun h => hbA (free_all (j_mid hD) hS hA b h)⟩⟩
end KN
section LR
variable {p : Program} {l : Launch} {e : Env} {R : Room} {s : State} {m : MethodId} {args : Array Value} {below : List Frame} {meth : Method} {c : Code} {H : Heap} {locs : List Loc} {cells slots : Nat} {Q : State → Prop} {pc : Nat} {ls : Array Slot} {rest : List Value} {A : Nat → Prop} {cc : ByteArray}
theorem n_sld (hx : p.tables.exec = Jvm.exec) (hb : c.code = cc) {b L : Nat} {xs : Nat → Int32} (hX : va_X b L xs s s.heap) (hbl : b < s.heap.size) (hbA : ¬ A b) (hS : va_S A s.heap H locs) {i : Nat} (hi : i < L) (hn : L < 2147483648) (hd : decode cc pc = .ok (.iaload, 1)) (kk : W p l e R s m args below meth c H locs cells slots Q (F0 m (pc + 1) ls (.int (xs i) :: rest))) : W p l e R s m args below meth c H locs cells slots Q (F0 m pc ls (.int (nI i) :: .ref b :: rest)) := by
  refine va_sld hx hb hX hbl hbA hS (vp_in_nI hi hn) hd ?_
  rw [nI_clamp (Nat.lt_trans hi hn)]
  exact kk
theorem n_slen (hx : p.tables.exec = Jvm.exec) (hb : c.code = cc) {b L : Nat} {xs : Nat → Int32} (hX : va_X b L xs s s.heap) (hbl : b < s.heap.size) (hbA : ¬ A b) (hS : va_S A s.heap H locs) (hd : decode cc pc = .ok (.arraylength, 1)) (kk : W p l e R s m args below meth c H locs cells slots Q (F0 m (pc + 1) ls (.int (nI L) :: rest))) : W p l e R s m args below meth c H locs cells slots Q (F0 m pc ls (.ref b :: rest)) :=
  va_slen hx hb hX hbl hbA hS hd kk
end LR
end
section
set_option maxHeartbeats 4000000 in
set_option maxRecDepth 100000 in
theorem c_L_below (l : Launch) (hst : l.stackTraces = false) (D : va_G) (q : Nat → Nat) (cI cZ cJ : ClassId) (k : Nat) (V : Nat → Nat) (C : Nat → Nat) (T : Nat → Nat) (B : Nat → Nat) (P : Nat → Nat) (A : Nat → Nat) (n : Nat) (PR : Nat → Nat) (ST : Nat → Nat) (li : Nat) (w : Nat) (WK : Nat → Nat) (so : Nat) (sp : Nat) (CT : Nat → Int64) (SC : Nat → Int) (TA : Nat → Nat) (sz : Nat) (v : Int32) (nn : Nat) (hnn : 1 ≤ nn ∧ nn < 2147483648) : Met l yL_below wsL_below ({ frames := 0, cells := 0, slots := 0, locals := 0 }) (va_Pc [.int v, .int (nI nn)] (cxP D (ty3 cI cZ cJ) (wX q cI cZ cJ k V C T B P A n PR ST li w WK so sp CT SC TA) sz)) (va_Qi (fun r (u : Nat) => r = nI u ∧ u < nn) (bW D (va_A (wX q cI cZ cJ k V C T B P A n PR ST li w WK so sp CT SC TA) sz) (fun u => (wX q cI cZ cJ k V C T B P A n PR ST li w WK so sp CT SC TA))) (va_A (wX q cI cZ cJ k V C T B P A n PR ST li w WK so sp CT SC TA) sz)) 0 0 (va_A (wX q cI cZ cJ k V C T B P A n PR ST li w WK so sp CT SC TA) sz) := by
  refine Met.ofW (cc := cL_below) (maxL := 2) (ret := (some .int)) (by decide) rfl ?_
  intro p e s m args below meth c s₁ BB hml hv
  obtain ⟨hav, hsz, hP, hK, hD0, hZ, hg⟩ := hv
  subst hsz
  subst hav
  have hx := BB.exec
  have hb := BB.bytes
  have hr := BB.returns
  have hts := atoms_spec (ws := wsL_below) BB.pre
  have hown : s.vm.findClass RL = some m.cls := findClass_of_methodNamed BB.named
  have hlocks := BB.notSynchronized
  have hD := hD0.self (sz := s.heap.size)
  have hA : ∀ q9 : Nat, s.heap.size ≤ q9 → va_A (wX q cI cZ cJ k V C T B P A n PR ST li w WK so sp CT SC TA) s.heap.size q9 := fun _ h => Or.inr h
  have hl := lv_entry ([.int v, .int (nI nn)]) (n := 2) (Nat.le_of_ble_eq_true rfl)
  rw [lg_entry_eq]
  generalize (lg_sl ([.int v, .int (nI nn)]) ++ List.replicate (2 - (lg_sl ([.int v, .int (nI nn)])).length) Slot.unset).toArray = ls at hl ⊢
  have hl : lv_has ls 2 [(0, .int v), (1, .int (nI nn))] := hl
  refine W_absR (fun R hR => ?_)
  have hR : R = ({ frames := 0, cells := 0, slots := 0, locals := 0 } : Room) := hR
  refine W_absQ (fun Q hQ => ?_)
  generalize ([.int v, .int (nI nn)] : List Value).toArray = args at hts hQ ⊢
  generalize va_A (wX q cI cZ cJ k V C T B P A n PR ST li w WK so sp CT SC TA) s.heap.size = A9 at hD hZ hA hQ
  refine W_start hP (A := A9) (fun H locs hP hS => ?_)
  refine lv_iload_n hx hb dL_below_0 rfl (lv_at hl 0 rfl) ?_
  refine lv_ldc (v := 2147483647) hx hb hown (hts _ (List.mem_of_getElem? (i := 1) rfl)) dL_below_1 ?_
  refine n_top (show (2147483647 : Int32) = nI 2147483647 from by decide) ?_
  refine lv_iand hx hb dL_below_3 ?_
  obtain ⟨d0, hd0, e0⟩ := mask_31 v
  refine n_top e0 ?_
  refine lv_iload_n hx hb dL_below_4 rfl (lv_at hl 1 rfl) ?_
  refine n_irem hx hb hd0 hnn.1 hnn.2 dL_below_5 ?_
  subst hQ
  exact e_i (d0 % nn) hx hb hr hlocks hS hP hD (⟨rfl, Nat.mod_lt _ hnn.1⟩) (Nat.le_of_ble_eq_true rfl) (Nat.le_of_ble_eq_true rfl) dL_below_6
theorem hd_L_below : yL_below.cls = RL ∧ yL_below.cls ≠ "java/lang/invoke/MethodHandle" ∧ yL_below.cls ≠ "java/lang/invoke/VarHandle" ∧ (parseMethodDescriptor yL_below.desc).map (fun d => d.parameters.length) = some 2 := by decide +kernel

set_option maxHeartbeats 4000000 in
set_option maxRecDepth 100000 in
theorem c_L_cell (l : Launch) (hst : l.stackTraces = false) (D : va_G) (q : Nat → Nat) (cI cZ cJ : ClassId) (k : Nat) (V : Nat → Nat) (C : Nat → Nat) (T : Nat → Nat) (B : Nat → Nat) (P : Nat → Nat) (A : Nat → Nat) (n : Nat) (PR : Nat → Nat) (ST : Nat → Nat) (li : Nat) (w : Nat) (WK : Nat → Nat) (so : Nat) (sp : Nat) (CT : Nat → Int64) (SC : Nat → Int) (TA : Nat → Nat) (sz : Nat) (b : Nat) (L : Nat) (xs : Nat → Int32) (kd : Nat) (hkd : kd < 2147483648) (hL : L ≤ 260) : Met l yL_cell wsL_cell ({ frames := 0, cells := 0, slots := 0, locals := 0 }) (va_Pc [.ref b, .int (nI kd)] (cxS D (ty3 cI cZ cJ) (wX q cI cZ cJ k V C T B P A n PR ST li w WK so sp CT SC TA) sz b L xs)) (va_Qi (fun r (u : Int32) => r = u) (bW D (va_A (wX q cI cZ cJ k V C T B P A n PR ST li w WK so sp CT SC TA) sz) (fun u => (wX q cI cZ cJ k V C T B P A n PR ST li w WK so sp CT SC TA))) (va_A (wX q cI cZ cJ k V C T B P A n PR ST li w WK so sp CT SC TA) sz)) 0 0 (va_A (wX q cI cZ cJ k V C T B P A n PR ST li w WK so sp CT SC TA) sz) := by
  refine Met.ofW (cc := cL_cell) (maxL := 2) (ret := (some .int)) (by decide) rfl ?_
  intro p e s m args below meth c s₁ BB hml hv
  obtain ⟨hav, ⟨hsz, hP, hK, hD0, hZ, hg⟩, hX, hbl, hbA⟩ := hv
  subst hsz
  subst hav
  have hx := BB.exec
  have hb := BB.bytes
  have hr := BB.returns
  have hts := atoms_spec (ws := wsL_cell) BB.pre
  have hown : s.vm.findClass RL = some m.cls := findClass_of_methodNamed BB.named
  have hlocks := BB.notSynchronized
  have hD := hD0.self (sz := s.heap.size)
  have hA : ∀ q9 : Nat, s.heap.size ≤ q9 → va_A (wX q cI cZ cJ k V C T B P A n PR ST li w WK so sp CT SC TA) s.heap.size q9 := fun _ h => Or.inr h
  have hl := lv_entry ([.ref b, .int (nI kd)]) (n := 2) (Nat.le_of_ble_eq_true rfl)
  rw [lg_entry_eq]
  generalize (lg_sl ([.ref b, .int (nI kd)]) ++ List.replicate (2 - (lg_sl ([.ref b, .int (nI kd)])).length) Slot.unset).toArray = ls at hl ⊢
  have hl : lv_has ls 2 [(0, .ref b), (1, .int (nI kd))] := hl
  refine W_absR (fun R hR => ?_)
  have hR : R = ({ frames := 0, cells := 0, slots := 0, locals := 0 } : Room) := hR
  refine W_absQ (fun Q hQ => ?_)
  generalize ([.ref b, .int (nI kd)] : List Value).toArray = args at hts hQ ⊢
  generalize va_A (wX q cI cZ cJ k V C T B P A n PR ST li w WK so sp CT SC TA) s.heap.size = A9 at hD hZ hA hQ hbA
  refine W_start hP (A := A9) (fun H locs hP hS => ?_)
  refine lv_iload_n hx hb dL_cell_0 rfl (lv_at hl 1 rfl) ?_
  refine lv_aload_n hx hb dL_cell_1 rfl (lv_at hl 0 rfl) ?_
  refine n_slen hx hb hX hbl hbA hS dL_cell_2 ?_
  refine n_icmp_ge (tgt := 12) hx hb hkd (by omega) dL_cell_3 (by decide) (fun c3 => ?_) (fun c3 => ?_)
  · refine lv_ldc (v := 790386105) hx hb hown (hts _ (List.mem_of_getElem? (i := 1) rfl)) dL_cell_12 ?_
    refine n_top (show (790386105 : Int32) = nI 790386105 from by decide) ?_
    refine lv_iload_n hx hb dL_cell_14 rfl (lv_at hl 1 rfl) ?_
    refine lv_iconst (v := nI 3) hx hb dL_cell_15 (ic_3) ?_
    refine n_iadd hx hb dL_cell_16 ?_
    refine n_imul hx hb dL_cell_17 ?_
    subst hQ
    exact e_i (nI (790386105 * (kd + 3))) hx hb hr hlocks hS hP hD rfl (Nat.le_of_ble_eq_true rfl) (Nat.le_of_ble_eq_true rfl) dL_cell_18
  · refine lv_aload_n hx hb dL_cell_6 rfl (lv_at hl 0 rfl) ?_
    refine lv_iload_n hx hb dL_cell_7 rfl (lv_at hl 1 rfl) ?_
    refine n_sld hx hb hX hbl hbA hS c3 (by omega) dL_cell_8 ?_
    refine lv_goto (tgt := 18) hx hb dL_cell_9 (by decide) ?_
    subst hQ
    exact e_i (xs kd) hx hb hr hlocks hS hP hD rfl (Nat.le_of_ble_eq_true rfl) (Nat.le_of_ble_eq_true rfl) dL_cell_18
theorem hd_L_cell : yL_cell.cls = RL ∧ yL_cell.cls ≠ "java/lang/invoke/MethodHandle" ∧ yL_cell.cls ≠ "java/lang/invoke/VarHandle" ∧ (parseMethodDescriptor yL_cell.desc).map (fun d => d.parameters.length) = some 2 := by decide +kernel

/-- whether a value is new among the first i; isn is 0 or 1 -/
def isNw (V : Nat → Nat) (vl i isn : Nat) : Prop := (isn = 1 → ∀ j, j < i → V j ≠ vl) ∧ (isn = 0 → ∃ j, j < i ∧ V j = vl)
theorem isNw_0 (V : Nat → Nat) (vl : Nat) : isNw V vl 0 1 := ⟨fun _ j hj => absurd hj (Nat.not_lt_zero j), fun h => absurd h (by decide)⟩
theorem isNw_z {V : Nat → Nat} {vl i isn : Nat} (h : isNw V vl i isn) (h0 : isn = 0) : isNw V vl (i + 1) 0 := ⟨fun h => absurd h (by decide), fun _ => by
  obtain ⟨j, h1, h2⟩ := h.2 h0
  exact ⟨j, by omega, h2⟩⟩
theorem isNw_e {V : Nat → Nat} {vl i : Nat} (h : V i = vl) : isNw V vl (i + 1) 0 := ⟨fun h => absurd h (by decide), fun _ => ⟨i, by omega, h⟩⟩
theorem isNw_n {V : Nat → Nat} {vl i isn : Nat} (h : isNw V vl i isn) (h1 : isn ≠ 0) (h2 : isn ≤ 1) (h3 : V i ≠ vl) : isNw V vl (i + 1) 1 := ⟨fun _ j hj => by
  rcases Nat.lt_or_ge j i with q | q
  · have e : isn = 1 := by omega
    exact h.1 e j q
  · rw [show j = i by omega]; exact h3, fun h => absurd h (by decide)⟩
theorem isNw_new {V : Nat → Nat} {vl k isn : Nat} (h : isNw V vl k isn) (h1 : isn ≠ 0) (h2 : isn ≤ 1) : ∀ j, j < k → V j ≠ vl := by
  have e : isn = 1 := by omega
  exact h.1 e
theorem isNw_old {V : Nat → Nat} {vl k isn : Nat} (h : isNw V vl k isn) (h1 : isn = 0) : 1 ≤ k := by
  obtain ⟨j, h2, -⟩ := h.2 h1
  omega
end
section
set_option maxHeartbeats 4000000 in
set_option maxRecDepth 100000 in
/-- kinds that cells choose -/
theorem c_L_build (l : Launch) (hst : l.stackTraces = false) (D : va_G) (q : Nat → Nat) (cI cZ cJ : ClassId) (k : Nat) (V : Nat → Nat) (C : Nat → Nat) (T : Nat → Nat) (B : Nat → Nat) (P : Nat → Nat) (A : Nat → Nat) (n : Nat) (PR : Nat → Nat) (ST : Nat → Nat) (li : Nat) (w : Nat) (WK : Nat → Nat) (so : Nat) (sp : Nat) (CT : Nat → Int64) (SC : Nat → Int) (TA : Nat → Nat) (sz : Nat) (b : Nat) (L : Nat) (xs : Nat → Int32) (a5 : Nat) (a6 : Nat) (a7 : Nat) (TT : Nat → Nat) (CT0 : Nat → Int64) (hL : L ≤ 260) (hT00 : ∀ i, T i = 0) (hCT00 : ∀ j, j ≠ 4 → CT j = CT0 j) : Met l yL_build wsL_build ({ frames := 8, cells := 19, slots := 124, locals := 134 }) (va_Pc [.ref (q 0), .ref b, .int (nI 0), .int (nI 6), .int (nI 9), .ref a5, .ref a6, .ref a7] (cxS D (ty3 cI cZ cJ) ((wX q cI cZ cJ 0 V C T B P A n PR ST li w WK so sp CT SC TA) ++ [(a5, .inl (cI, 8, .inl (rI V))), (a6, .inl (cI, 8, .inl (rI C))), (a7, .inl (cI, 8, .inl (rI TT)))]) sz b L xs)) (va_Qi (fun r (u : Nat × (Nat → Nat) × (Nat → Nat) × (Nat → Nat) × (Nat → Nat) × (Nat → Int64) × (Nat → Nat)) => r = nI u.1 ∧ (1 ≤ u.1 ∧ u.1 ≤ 6) ∧ (∀ i, i < u.1 → 1 ≤ u.2.1 i ∧ u.2.1 i ≤ 500) ∧ (∀ i, i < u.1 → u.2.2.1 i ≤ 60 ∧ u.2.2.2.1 i ≤ u.2.2.1 i) ∧ (∀ i j, i < u.1 → j < u.1 → u.2.1 i = u.2.1 j → i = j) ∧ (∀ i, i < u.1 → u.2.2.2.2.1 i = 1) ∧ (∀ j, j ≠ 4 → u.2.2.2.2.2.1 j = CT0 j)) (bW D (va_A ((wX q cI cZ cJ 0 V C T B P A n PR ST li w WK so sp CT SC TA) ++ [(a5, .inl (cI, 8, .inl (rI V))), (a6, .inl (cI, 8, .inl (rI C))), (a7, .inl (cI, 8, .inl (rI TT)))]) sz) (fun u => ((wX q cI cZ cJ u.1 u.2.1 u.2.2.1 u.2.2.2.1 B P u.2.2.2.2.1 n PR ST li w WK so sp u.2.2.2.2.2.1 SC TA) ++ [(a5, .inl (cI, 8, .inl (rI u.2.1))), (a6, .inl (cI, 8, .inl (rI u.2.2.1))), (a7, .inl (cI, 8, .inl (rI u.2.2.2.2.2.2)))]))) (va_A ((wX q cI cZ cJ 0 V C T B P A n PR ST li w WK so sp CT SC TA) ++ [(a5, .inl (cI, 8, .inl (rI V))), (a6, .inl (cI, 8, .inl (rI C))), (a7, .inl (cI, 8, .inl (rI TT)))]) sz)) 19 124 (va_A ((wX q cI cZ cJ 0 V C T B P A n PR ST li w WK so sp CT SC TA) ++ [(a5, .inl (cI, 8, .inl (rI V))), (a6, .inl (cI, 8, .inl (rI C))), (a7, .inl (cI, 8, .inl (rI TT)))]) sz) := by
  refine Met.ofW (cc := cL_build) (maxL := 16) (ret := (some .int)) (by decide) rfl ?_
  intro p e s m args below meth c s₁ BB hml hv
  obtain ⟨hav, ⟨hsz, hP, hK, hD0, hZ, hg⟩, hX, hbl, hbA⟩ := hv
  subst hsz
  subst hav
  have hx := BB.exec
  have hb := BB.bytes
  have hr := BB.returns
  have hts := atoms_spec (ws := wsL_build) BB.pre
  have hown : s.vm.findClass RL = some m.cls := findClass_of_methodNamed BB.named
  have hlocks := BB.notSynchronized
  have hD := hD0.self (sz := s.heap.size)
  have hA : ∀ q9 : Nat, s.heap.size ≤ q9 → va_A ((wX q cI cZ cJ 0 V C T B P A n PR ST li w WK so sp CT SC TA) ++ [(a5, .inl (cI, 8, .inl (rI V))), (a6, .inl (cI, 8, .inl (rI C))), (a7, .inl (cI, 8, .inl (rI TT)))]) s.heap.size q9 := fun _ h => Or.inr h
  have hl := lv_entry ([.ref (q 0), .ref b, .int (nI 0), .int (nI 6), .int (nI 9), .ref a5, .ref a6, .ref a7]) (n := 16) (Nat.le_of_ble_eq_true rfl)
  rw [lg_entry_eq]
  generalize (lg_sl ([.ref (q 0), .ref b, .int (nI 0), .int (nI 6), .int (nI 9), .ref a5, .ref a6, .ref a7]) ++ List.replicate (16 - (lg_sl ([.ref (q 0), .ref b, .int (nI 0), .int (nI 6), .int (nI 9), .ref a5, .ref a6, .ref a7])).length) Slot.unset).toArray = ls at hl ⊢
  have hl : lv_has ls 16 [(0, .ref (q 0)), (1, .ref b), (2, .int (nI 0)), (3, .int (nI 6)), (4, .int (nI 9)), (5, .ref a5), (6, .ref a6), (7, .ref a7)] := hl
  refine W_absR (fun R hR => ?_)
  have hR : R = ({ frames := 8, cells := 19, slots := 124, locals := 134 } : Room) := hR
  refine W_absQ (fun Q hQ => ?_)
  generalize ([.ref (q 0), .ref b, .int (nI 0), .int (nI 6), .int (nI 9), .ref a5, .ref a6, .ref a7] : List Value).toArray = args at hts hQ ⊢
  generalize va_A ((wX q cI cZ cJ 0 V C T B P A n PR ST li w WK so sp CT SC TA) ++ [(a5, .inl (cI, 8, .inl (rI V))), (a6, .inl (cI, 8, .inl (rI C))), (a7, .inl (cI, 8, .inl (rI TT)))]) s.heap.size = A9 at hD hZ hA hQ hbA
  refine W_start hP (A := A9) (fun H locs hP hS => ?_)
  refine lv_bipush (v := nI 16) hx hb dL_build_0 (by decide) ?_
  refine n_newI (N := 16) hx hb (hts _ (List.mem_of_getElem? (i := 1) rfl)) hK hP hD hS hA (by decide) (by decide) (by rw [hR]; first | exact Nat.le_of_ble_eq_true rfl | (dsimp only; omega)) (by rw [hR]; first | exact Nat.le_of_ble_eq_true rfl | (dsimp only; omega)) dL_build_2 (fun us H hP hD hS => ?_)
  have hP : va_P D vwCl ((wX q cI cZ cJ 0 V C T B P A n PR ST li w WK so sp CT SC TA) ++ [(a5, .inl (cI, 8, .inl (rI V))), (a6, .inl (cI, 8, .inl (rI C))), (a7, .inl (cI, 8, .inl (rI TT))), (us, .inl (cI, 16, .inl (rI (fun _ => 0))))]) H := hP
  have hD : va_D A9 ((wX q cI cZ cJ 0 V C T B P A n PR ST li w WK so sp CT SC TA) ++ [(a5, .inl (cI, 8, .inl (rI V))), (a6, .inl (cI, 8, .inl (rI C))), (a7, .inl (cI, 8, .inl (rI TT))), (us, .inl (cI, 16, .inl (rI (fun _ => 0))))]) := hD
  refine lv_dup hx hb dL_build_4 rfl ?_
  refine lv_iconst (v := nI 0) hx hb dL_build_5 (ic_0) ?_
  refine lv_iconst (v := nI 1) hx hb dL_build_6 (ic_1) ?_
  refine n_iast (ws' := ((wX q cI cZ cJ 0 V C T B P A n PR ST li w WK so sp CT SC TA) ++ [(a5, .inl (cI, 8, .inl (rI V))), (a6, .inl (cI, 8, .inl (rI C))), (a7, .inl (cI, 8, .inl (rI TT))), (us, .inl (cI, 16, .inl (rI (un (fun _ => 0) 0 1))))])) hx hb hK hP hD hS 16 0 rfl rfl (by omega) (by decide) rfl dL_build_7 (fun H locs hP hD hS => ?_)
  refine lv_dup hx hb dL_build_8 rfl ?_
  refine lv_iconst (v := nI 1) hx hb dL_build_9 (ic_1) ?_
  refine lv_iconst (v := nI 2) hx hb dL_build_10 (ic_2) ?_
  refine n_iast (ws' := ((wX q cI cZ cJ 0 V C T B P A n PR ST li w WK so sp CT SC TA) ++ [(a5, .inl (cI, 8, .inl (rI V))), (a6, .inl (cI, 8, .inl (rI C))), (a7, .inl (cI, 8, .inl (rI TT))), (us, .inl (cI, 16, .inl (rI (un (un (fun _ => 0) 0 1) 1 2))))])) hx hb hK hP hD hS 16 0 rfl rfl (by omega) (by decide) rfl dL_build_11 (fun H locs hP hD hS => ?_)
  refine lv_dup hx hb dL_build_12 rfl ?_
  refine lv_iconst (v := nI 2) hx hb dL_build_13 (ic_2) ?_
  refine lv_iconst (v := nI 5) hx hb dL_build_14 (ic_5) ?_
  refine n_iast (ws' := ((wX q cI cZ cJ 0 V C T B P A n PR ST li w WK so sp CT SC TA) ++ [(a5, .inl (cI, 8, .inl (rI V))), (a6, .inl (cI, 8, .inl (rI C))), (a7, .inl (cI, 8, .inl (rI TT))), (us, .inl (cI, 16, .inl (rI (un (un (un (fun _ => 0) 0 1) 1 2) 2 5))))])) hx hb hK hP hD hS 16 0 rfl rfl (by omega) (by decide) rfl dL_build_15 (fun H locs hP hD hS => ?_)
  refine lv_dup hx hb dL_build_16 rfl ?_
  refine lv_iconst (v := nI 3) hx hb dL_build_17 (ic_3) ?_
  refine lv_bipush (v := nI 10) hx hb dL_build_18 (by decide) ?_
  refine n_iast (ws' := ((wX q cI cZ cJ 0 V C T B P A n PR ST li w WK so sp CT SC TA) ++ [(a5, .inl (cI, 8, .inl (rI V))), (a6, .inl (cI, 8, .inl (rI C))), (a7, .inl (cI, 8, .inl (rI TT))), (us, .inl (cI, 16, .inl (rI (un (un (un (un (fun _ => 0) 0 1) 1 2) 2 5) 3 10))))])) hx hb hK hP hD hS 16 0 rfl rfl (by omega) (by decide) rfl dL_build_20 (fun H locs hP hD hS => ?_)
  refine lv_dup hx hb dL_build_21 rfl ?_
  refine lv_iconst (v := nI 4) hx hb dL_build_22 (ic_4) ?_
  refine lv_bipush (v := nI 20) hx hb dL_build_23 (by decide) ?_
  refine n_iast (ws' := ((wX q cI cZ cJ 0 V C T B P A n PR ST li w WK so sp CT SC TA) ++ [(a5, .inl (cI, 8, .inl (rI V))), (a6, .inl (cI, 8, .inl (rI C))), (a7, .inl (cI, 8, .inl (rI TT))), (us, .inl (cI, 16, .inl (rI (un (un (un (un (un (fun _ => 0) 0 1) 1 2) 2 5) 3 10) 4 20))))])) hx hb hK hP hD hS 16 0 rfl rfl (by omega) (by decide) rfl dL_build_25 (fun H locs hP hD hS => ?_)
  refine lv_dup hx hb dL_build_26 rfl ?_
  refine lv_iconst (v := nI 5) hx hb dL_build_27 (ic_5) ?_
  refine lv_bipush (v := nI 50) hx hb dL_build_28 (by decide) ?_
  refine n_iast (ws' := ((wX q cI cZ cJ 0 V C T B P A n PR ST li w WK so sp CT SC TA) ++ [(a5, .inl (cI, 8, .inl (rI V))), (a6, .inl (cI, 8, .inl (rI C))), (a7, .inl (cI, 8, .inl (rI TT))), (us, .inl (cI, 16, .inl (rI (un (un (un (un (un (un (fun _ => 0) 0 1) 1 2) 2 5) 3 10) 4 20) 5 50))))])) hx hb hK hP hD hS 16 0 rfl rfl (by omega) (by decide) rfl dL_build_30 (fun H locs hP hD hS => ?_)
  refine lv_dup hx hb dL_build_31 rfl ?_
  refine lv_bipush (v := nI 6) hx hb dL_build_32 (by decide) ?_
  refine lv_bipush (v := nI 100) hx hb dL_build_34 (by decide) ?_
  refine n_iast (ws' := ((wX q cI cZ cJ 0 V C T B P A n PR ST li w WK so sp CT SC TA) ++ [(a5, .inl (cI, 8, .inl (rI V))), (a6, .inl (cI, 8, .inl (rI C))), (a7, .inl (cI, 8, .inl (rI TT))), (us, .inl (cI, 16, .inl (rI (un (un (un (un (un (un (un (fun _ => 0) 0 1) 1 2) 2 5) 3 10) 4 20) 5 50) 6 100))))])) hx hb hK hP hD hS 16 0 rfl rfl (by omega) (by decide) rfl dL_build_36 (fun H locs hP hD hS => ?_)
  refine lv_dup hx hb dL_build_37 rfl ?_
  refine lv_bipush (v := nI 7) hx hb dL_build_38 (by decide) ?_
  refine lv_sipush (v := nI 200) hx hb dL_build_40 (by decide) ?_
  refine n_iast (ws' := ((wX q cI cZ cJ 0 V C T B P A n PR ST li w WK so sp CT SC TA) ++ [(a5, .inl (cI, 8, .inl (rI V))), (a6, .inl (cI, 8, .inl (rI C))), (a7, .inl (cI, 8, .inl (rI TT))), (us, .inl (cI, 16, .inl (rI (un (un (un (un (un (un (un (un (fun _ => 0) 0 1) 1 2) 2 5) 3 10) 4 20) 5 50) 6 100) 7 200))))])) hx hb hK hP hD hS 16 0 rfl rfl (by omega) (by decide) rfl dL_build_43 (fun H locs hP hD hS => ?_)
  refine lv_dup hx hb dL_build_44 rfl ?_
  refine lv_bipush (v := nI 8) hx hb dL_build_45 (by decide) ?_
  refine lv_bipush (v := nI 25) hx hb dL_build_47 (by decide) ?_
  refine n_iast (ws' := ((wX q cI cZ cJ 0 V C T B P A n PR ST li w WK so sp CT SC TA) ++ [(a5, .inl (cI, 8, .inl (rI V))), (a6, .inl (cI, 8, .inl (rI C))), (a7, .inl (cI, 8, .inl (rI TT))), (us, .inl (cI, 16, .inl (rI (un (un (un (un (un (un (un (un (un (fun _ => 0) 0 1) 1 2) 2 5) 3 10) 4 20) 5 50) 6 100) 7 200) 8 25))))])) hx hb hK hP hD hS 16 0 rfl rfl (by omega) (by decide) rfl dL_build_49 (fun H locs hP hD hS => ?_)
  refine lv_dup hx hb dL_build_50 rfl ?_
  refine lv_bipush (v := nI 9) hx hb dL_build_51 (by decide) ?_
  refine lv_bipush (v := nI 30) hx hb dL_build_53 (by decide) ?_
  refine n_iast (ws' := ((wX q cI cZ cJ 0 V C T B P A n PR ST li w WK so sp CT SC TA) ++ [(a5, .inl (cI, 8, .inl (rI V))), (a6, .inl (cI, 8, .inl (rI C))), (a7, .inl (cI, 8, .inl (rI TT))), (us, .inl (cI, 16, .inl (rI (un (un (un (un (un (un (un (un (un (un (fun _ => 0) 0 1) 1 2) 2 5) 3 10) 4 20) 5 50) 6 100) 7 200) 8 25) 9 30))))])) hx hb hK hP hD hS 16 0 rfl rfl (by omega) (by decide) rfl dL_build_55 (fun H locs hP hD hS => ?_)
  refine lv_dup hx hb dL_build_56 rfl ?_
  refine lv_bipush (v := nI 10) hx hb dL_build_57 (by decide) ?_
  refine lv_bipush (v := nI 7) hx hb dL_build_59 (by decide) ?_
  refine n_iast (ws' := ((wX q cI cZ cJ 0 V C T B P A n PR ST li w WK so sp CT SC TA) ++ [(a5, .inl (cI, 8, .inl (rI V))), (a6, .inl (cI, 8, .inl (rI C))), (a7, .inl (cI, 8, .inl (rI TT))), (us, .inl (cI, 16, .inl (rI (un (un (un (un (un (un (un (un (un (un (un (fun _ => 0) 0 1) 1 2) 2 5) 3 10) 4 20) 5 50) 6 100) 7 200) 8 25) 9 30) 10 7))))])) hx hb hK hP hD hS 16 0 rfl rfl (by omega) (by decide) rfl dL_build_61 (fun H locs hP hD hS => ?_)
  refine lv_dup hx hb dL_build_62 rfl ?_
  refine lv_bipush (v := nI 11) hx hb dL_build_63 (by decide) ?_
  refine lv_iconst (v := nI 4) hx hb dL_build_65 (ic_4) ?_
  refine n_iast (ws' := ((wX q cI cZ cJ 0 V C T B P A n PR ST li w WK so sp CT SC TA) ++ [(a5, .inl (cI, 8, .inl (rI V))), (a6, .inl (cI, 8, .inl (rI C))), (a7, .inl (cI, 8, .inl (rI TT))), (us, .inl (cI, 16, .inl (rI (un (un (un (un (un (un (un (un (un (un (un (un (fun _ => 0) 0 1) 1 2) 2 5) 3 10) 4 20) 5 50) 6 100) 7 200) 8 25) 9 30) 10 7) 11 4))))])) hx hb hK hP hD hS 16 0 rfl rfl (by omega) (by decide) rfl dL_build_66 (fun H locs hP hD hS => ?_)
  refine lv_dup hx hb dL_build_67 rfl ?_
  refine lv_bipush (v := nI 12) hx hb dL_build_68 (by decide) ?_
  refine lv_bipush (v := nI 9) hx hb dL_build_70 (by decide) ?_
  refine n_iast (ws' := ((wX q cI cZ cJ 0 V C T B P A n PR ST li w WK so sp CT SC TA) ++ [(a5, .inl (cI, 8, .inl (rI V))), (a6, .inl (cI, 8, .inl (rI C))), (a7, .inl (cI, 8, .inl (rI TT))), (us, .inl (cI, 16, .inl (rI (un (un (un (un (un (un (un (un (un (un (un (un (un (fun _ => 0) 0 1) 1 2) 2 5) 3 10) 4 20) 5 50) 6 100) 7 200) 8 25) 9 30) 10 7) 11 4) 12 9))))])) hx hb hK hP hD hS 16 0 rfl rfl (by omega) (by decide) rfl dL_build_72 (fun H locs hP hD hS => ?_)
  refine lv_dup hx hb dL_build_73 rfl ?_
  refine lv_bipush (v := nI 13) hx hb dL_build_74 (by decide) ?_
  refine lv_bipush (v := nI 15) hx hb dL_build_76 (by decide) ?_
  refine n_iast (ws' := ((wX q cI cZ cJ 0 V C T B P A n PR ST li w WK so sp CT SC TA) ++ [(a5, .inl (cI, 8, .inl (rI V))), (a6, .inl (cI, 8, .inl (rI C))), (a7, .inl (cI, 8, .inl (rI TT))), (us, .inl (cI, 16, .inl (rI (un (un (un (un (un (un (un (un (un (un (un (un (un (un (fun _ => 0) 0 1) 1 2) 2 5) 3 10) 4 20) 5 50) 6 100) 7 200) 8 25) 9 30) 10 7) 11 4) 12 9) 13 15))))])) hx hb hK hP hD hS 16 0 rfl rfl (by omega) (by decide) rfl dL_build_78 (fun H locs hP hD hS => ?_)
  refine lv_dup hx hb dL_build_79 rfl ?_
  refine lv_bipush (v := nI 14) hx hb dL_build_80 (by decide) ?_
  refine lv_iconst (v := nI 3) hx hb dL_build_82 (ic_3) ?_
  refine n_iast (ws' := ((wX q cI cZ cJ 0 V C T B P A n PR ST li w WK so sp CT SC TA) ++ [(a5, .inl (cI, 8, .inl (rI V))), (a6, .inl (cI, 8, .inl (rI C))), (a7, .inl (cI, 8, .inl (rI TT))), (us, .inl (cI, 16, .inl (rI (un (un (un (un (un (un (un (un (un (un (un (un (un (un (un (fun _ => 0) 0 1) 1 2) 2 5) 3 10) 4 20) 5 50) 6 100) 7 200) 8 25) 9 30) 10 7) 11 4) 12 9) 13 15) 14 3))))])) hx hb hK hP hD hS 16 0 rfl rfl (by omega) (by decide) rfl dL_build_83 (fun H locs hP hD hS => ?_)
  refine lv_dup hx hb dL_build_84 rfl ?_
  refine lv_bipush (v := nI 15) hx hb dL_build_85 (by decide) ?_
  refine lv_bipush (v := nI 40) hx hb dL_build_87 (by decide) ?_
  refine n_iast (ws' := ((wX q cI cZ cJ 0 V C T B P A n PR ST li w WK so sp CT SC TA) ++ [(a5, .inl (cI, 8, .inl (rI V))), (a6, .inl (cI, 8, .inl (rI C))), (a7, .inl (cI, 8, .inl (rI TT))), (us, .inl (cI, 16, .inl (rI (un (un (un (un (un (un (un (un (un (un (un (un (un (un (un (un (fun _ => 0) 0 1) 1 2) 2 5) 3 10) 4 20) 5 50) 6 100) 7 200) 8 25) 9 30) 10 7) 11 4) 12 9) 13 15) 14 3) 15 40))))])) hx hb hK hP hD hS 16 0 rfl rfl (by omega) (by decide) rfl dL_build_89 (fun H locs hP hD hS => ?_)
  obtain ⟨US, hUS⟩ : ∃ f : Nat → Nat, f = un (un (un (un (un (un (un (un (un (un (un (un (un (un (un (un (fun _ => 0) 0 1) 1 2) 2 5) 3 10) 4 20) 5 50) 6 100) 7 200) 8 25) 9 30) 10 7) 11 4) 12 9) 13 15) 14 3) 15 40 := ⟨_, rfl⟩
  have hU : ∀ i, i < 16 → 1 ≤ US i ∧ US i ≤ 500 := by
    intro i hi
    rw [hUS]
    have h16 : i = 0 ∨ i = 1 ∨ i = 2 ∨ i = 3 ∨ i = 4 ∨ i = 5 ∨ i = 6 ∨ i = 7 ∨ i = 8 ∨ i = 9 ∨ i = 10 ∨ i = 11 ∨ i = 12 ∨ i = 13 ∨ i = 14 ∨ i = 15 := by omega
    rcases h16 with rfl | rfl | rfl | rfl | rfl | rfl | rfl | rfl | rfl | rfl | rfl | rfl | rfl | rfl | rfl | rfl <;> decide
  rw [← hUS] at hP hD
  refine lv_astore (lv' := [(8, .ref us), (0, .ref (q 0)), (1, .ref b), (2, .int (nI 0)), (3, .int (nI 6)), (4, .int (nI 9)), (5, .ref a5), (6, .ref a6), (7, .ref a7)]) hx hb dL_build_90 hl (by decide) rfl (fun ls hl => ?_)
  refine lv_iconst (v := nI 0) hx hb dL_build_92 (ic_0) ?_
  refine lv_istore (lv' := [(9, .int (nI 0)), (8, .ref us), (0, .ref (q 0)), (1, .ref b), (2, .int (nI 0)), (3, .int (nI 6)), (4, .int (nI 9)), (5, .ref a5), (6, .ref a6), (7, .ref a7)]) hx hb dL_build_93 hl (by decide) rfl (fun ls hl => ?_)
  refine lv_iconst (v := nI 1) hx hb dL_build_95 (ic_1) ?_
  refine lv_aload_n hx hb dL_build_96 rfl (lv_at hl 3 rfl) ?_
  refine lv_iload_n hx hb dL_build_97 rfl (lv_at hl 4 rfl) ?_
  refine k3_i (wa := []) (wc := (wX q cI cZ cJ 0 V C T B P A n PR ST li w WK so sp CT SC TA)) (wb := [(a5, .inl (cI, 8, .inl (rI V))), (a6, .inl (cI, 8, .inl (rI C))), (a7, .inl (cI, 8, .inl (rI TT))), (us, .inl (cI, 16, .inl (rI US)))]) (va_runS (As := [.ref b, .int (nI 0)]) (rest := [.int (nI 1)]) ⟨hx, hb, hml, hown, hts⟩ (c_L_cell l hst D q cI cZ cJ 0 V C T B P A n PR ST li w WK so sp CT SC TA H.size b L xs 0 (by omega) hL) (va_cwS 2 hts gL_build_L_cell rfl rfl rfl hd_L_cell.2 ⟨(by rw [hR]; first | exact Nat.le_of_ble_eq_true rfl | (dsimp only; omega)), (by rw [hR]; first | exact Nat.le_of_ble_eq_true rfl | (dsimp only; omega))⟩) (pre_SS (wa := []) (wc := (wX q cI cZ cJ 0 V C T B P A n PR ST li w WK so sp CT SC TA)) (wb := [(a5, .inl (cI, 8, .inl (rI V))), (a6, .inl (cI, 8, .inl (rI C))), (a7, .inl (cI, 8, .inl (rI TT))), (us, .inl (cI, 16, .inl (rI US)))]) hP hK hD hS hA hZ hg hX hbl hbA) rfl rfl hl.1 rfl (lv_room (Nat.le_of_ble_eq_true rfl)) dL_build_98 ⟨(by rw [hR]; first | exact Nat.le_of_ble_eq_true rfl | (dsimp only; omega)), (by rw [hR]; first | exact Nat.le_of_ble_eq_true rfl | (dsimp only; omega))⟩) hP hD hS hA (fun r_2 u_1 H locs hp_3 hP hD hS => ?_)
  have hP : va_P D vwCl ((wX q cI cZ cJ 0 V C T B P A n PR ST li w WK so sp CT SC TA) ++ [(a5, .inl (cI, 8, .inl (rI V))), (a6, .inl (cI, 8, .inl (rI C))), (a7, .inl (cI, 8, .inl (rI TT))), (us, .inl (cI, 16, .inl (rI US)))]) H := hP
  have hD : va_D A9 ((wX q cI cZ cJ 0 V C T B P A n PR ST li w WK so sp CT SC TA) ++ [(a5, .inl (cI, 8, .inl (rI V))), (a6, .inl (cI, 8, .inl (rI C))), (a7, .inl (cI, 8, .inl (rI TT))), (us, .inl (cI, 16, .inl (rI US)))]) := hD
  have hp_3 := hp_3.symm
  subst hp_3
  refine lv_iload_n hx hb dL_build_101 rfl (lv_at hl 5 rfl) ?_
  refine k3_i (wa := []) (wc := (wX q cI cZ cJ 0 V C T B P A n PR ST li w WK so sp CT SC TA)) (wb := [(a5, .inl (cI, 8, .inl (rI V))), (a6, .inl (cI, 8, .inl (rI C))), (a7, .inl (cI, 8, .inl (rI TT))), (us, .inl (cI, 16, .inl (rI US)))]) (va_runS (As := [.int u_1, .int (nI 6)]) (rest := [.int (nI 1)]) ⟨hx, hb, hml, hown, hts⟩ (c_L_below l hst D q cI cZ cJ 0 V C T B P A n PR ST li w WK so sp CT SC TA H.size u_1 6 (⟨by omega, by omega⟩)) (va_cwS 2 hts gL_build_L_below rfl rfl rfl hd_L_below.2 ⟨(by rw [hR]; first | exact Nat.le_of_ble_eq_true rfl | (dsimp only; omega)), (by rw [hR]; first | exact Nat.le_of_ble_eq_true rfl | (dsimp only; omega))⟩) (pre_S (j_pm (wa := []) (wc := (wX q cI cZ cJ 0 V C T B P A n PR ST li w WK so sp CT SC TA)) (wb := [(a5, .inl (cI, 8, .inl (rI V))), (a6, .inl (cI, 8, .inl (rI C))), (a7, .inl (cI, 8, .inl (rI TT))), (us, .inl (cI, 16, .inl (rI US)))]) hP) hK (j_mid (wa := []) (wc := (wX q cI cZ cJ 0 V C T B P A n PR ST li w WK so sp CT SC TA)) (wb := [(a5, .inl (cI, 8, .inl (rI V))), (a6, .inl (cI, 8, .inl (rI C))), (a7, .inl (cI, 8, .inl (rI TT))), (us, .inl (cI, 16, .inl (rI US)))]) hD) hS hA hZ hg) rfl rfl hl.1 rfl (lv_room (Nat.le_of_ble_eq_true rfl)) dL_build_102 ⟨(by rw [hR]; first | exact Nat.le_of_ble_eq_true rfl | (dsimp only; omega)), (by rw [hR]; first | exact Nat.le_of_ble_eq_true rfl | (dsimp only; omega))⟩) hP hD hS hA (fun r_4 u2 H locs hp_5 hP hD hS => ?_)
  have hP : va_P D vwCl ((wX q cI cZ cJ 0 V C T B P A n PR ST li w WK so sp CT SC TA) ++ [(a5, .inl (cI, 8, .inl (rI V))), (a6, .inl (cI, 8, .inl (rI C))), (a7, .inl (cI, 8, .inl (rI TT))), (us, .inl (cI, 16, .inl (rI US)))]) H := hP
  have hD : va_D A9 ((wX q cI cZ cJ 0 V C T B P A n PR ST li w WK so sp CT SC TA) ++ [(a5, .inl (cI, 8, .inl (rI V))), (a6, .inl (cI, 8, .inl (rI C))), (a7, .inl (cI, 8, .inl (rI TT))), (us, .inl (cI, 16, .inl (rI US)))]) := hD
  obtain ⟨rfl, hp_5⟩ := hp_5
  have hu2 := hp_5
  obtain ⟨tr, htr⟩ : ∃ t : Nat, t = 1 + u2 := ⟨_, rfl⟩
  refine n_iadd hx hb dL_build_105 ?_
  refine n_top (congrArg nI (show 1 + u2 = tr from htr.symm)) ?_
  refine lv_istore (lv' := [(10, .int (nI tr)), (9, .int (nI 0)), (8, .ref us), (0, .ref (q 0)), (1, .ref b), (2, .int (nI 0)), (3, .int (nI 6)), (4, .int (nI 9)), (5, .ref a5), (6, .ref a6), (7, .ref a7)]) hx hb dL_build_106 hl (by decide) rfl (fun ls hl => ?_)
  refine lv_iconst (v := nI 0) hx hb dL_build_108 (ic_0) ?_
  refine lv_istore (lv' := [(11, .int (nI 0)), (10, .int (nI tr)), (9, .int (nI 0)), (8, .ref us), (0, .ref (q 0)), (1, .ref b), (2, .int (nI 0)), (3, .int (nI 6)), (4, .int (nI 9)), (5, .ref a5), (6, .ref a6), (7, .ref a7)]) hx hb dL_build_109 hl (by decide) rfl (fun ls hl => ?_)
  have lp_111 : ∀ (fu_111 : Nat) (kk : Nat) (k : Nat) (V : Nat → Nat) (C : Nat → Nat) (T : Nat → Nat) (A : Nat → Nat) (CT : Nat → Int64) (TT : Nat → Nat), tr - kk < fu_111 → (kk ≤ tr) → (k ≤ kk) → (kk = 0 ∨ 1 ≤ k) → (∀ i, i < k → 1 ≤ V i ∧ V i ≤ 500) → (∀ i, i < k → C i ≤ 60 ∧ T i ≤ C i) → (∀ i j, i < k → j < k → V i = V j → i = j) → (∀ i, i < k → A i = 1) → (∀ i, k ≤ i → T i = 0) → (∀ j, j ≠ 4 → CT j = CT0 j) → ∀ (H : Heap) (locs : List Loc), va_P D vwCl ((wX q cI cZ cJ k V C T B P A n PR ST li w WK so sp CT SC TA) ++ [(a5, .inl (cI, 8, .inl (rI V))), (a6, .inl (cI, 8, .inl (rI C))), (a7, .inl (cI, 8, .inl (rI TT))), (us, .inl (cI, 16, .inl (rI US)))]) H → va_D A9 ((wX q cI cZ cJ k V C T B P A n PR ST li w WK so sp CT SC TA) ++ [(a5, .inl (cI, 8, .inl (rI V))), (a6, .inl (cI, 8, .inl (rI C))), (a7, .inl (cI, 8, .inl (rI TT))), (us, .inl (cI, 16, .inl (rI US)))]) → va_S A9 s.heap H locs → ∀ ls : Array Slot, lv_has ls 16 [(11, .int (nI kk)), (9, .int (nI k)), (10, .int (nI tr)), (8, .ref us), (7, .ref a7), (6, .ref a6), (5, .ref a5), (4, .int (nI 9)), (3, .int (nI 6)), (2, .int (nI 0)), (1, .ref b), (0, .ref (q 0))] → W p l e R s m args below meth c H locs (1 + 3 * kk) (16 + 18 * kk) Q (F0 m 111 ls []) := by
    intro fu_111
    induction fu_111 with
    | zero =>
      intro kk k V C T A CT TT hfu_111
      exact absurd hfu_111 (Nat.not_lt_zero _)
    | succ fu_111 ih_111 =>
      intro kk k V C T A CT TT hfu_111 hkk hk1 hk2 hV hC hVd hAe hT0 hCT H locs hP hD hS ls hl
      refine lv_iload hx hb dL_build_111 (lv_at hl 0 rfl) ?_
      refine lv_iload hx hb dL_build_113 (lv_at hl 2 rfl) ?_
      refine n_icmp_ge (tgt := 327) hx hb (by omega) (by omega) dL_build_115 (by decide) (fun c115 => ?_) (fun c115 => ?_)
      · refine lv_iload hx hb dL_build_327 (lv_at hl 1 rfl) ?_
        subst hQ
        have hP := hP.sub (ws' := ((wX q cI cZ cJ k V C T B P A n PR ST li w WK so sp CT SC TA) ++ [(a5, .inl (cI, 8, .inl (rI V))), (a6, .inl (cI, 8, .inl (rI C))), (a7, .inl (cI, 8, .inl (rI TT)))])) [0, 1, 2, 3, 4, 5, 6, 7, 8, 9, 10, 11, 12, 13, 14, 15] rfl
        have hD := hD.sub (ws' := ((wX q cI cZ cJ k V C T B P A n PR ST li w WK so sp CT SC TA) ++ [(a5, .inl (cI, 8, .inl (rI V))), (a6, .inl (cI, 8, .inl (rI C))), (a7, .inl (cI, 8, .inl (rI TT)))])) [0, 1, 2, 3, 4, 5, 6, 7, 8, 9, 10, 11, 12, 13, 14, 15] (by decide) rfl
        exact e_i (k, V, C, T, A, CT, TT) hx hb hr hlocks hS hP hD ⟨rfl, ⟨by omega, by omega⟩, hV, hC, hVd, hAe, hCT⟩ (by omega) (by omega) dL_build_329
      · have hk8 : k ≤ 8 := by omega
        refine lv_aload_n hx hb dL_build_118 rfl (lv_at hl 10 rfl) ?_
        refine lv_iload_n hx hb dL_build_119 rfl (lv_at hl 9 rfl) ?_
        refine lv_iconst (v := nI 1) hx hb dL_build_120 (ic_1) ?_
        refine n_iadd hx hb dL_build_121 ?_
        refine lv_iload hx hb dL_build_122 (lv_at hl 0 rfl) ?_
        refine lv_iconst (v := nI 4) hx hb dL_build_124 (ic_4) ?_
        refine n_irem hx hb (by omega) (by omega) (by omega) dL_build_125 ?_
        refine n_iadd hx hb dL_build_126 ?_
        refine k3_i (wa := []) (wc := (wX q cI cZ cJ k V C T B P A n PR ST li w WK so sp CT SC TA)) (wb := [(a5, .inl (cI, 8, .inl (rI V))), (a6, .inl (cI, 8, .inl (rI C))), (a7, .inl (cI, 8, .inl (rI TT))), (us, .inl (cI, 16, .inl (rI US)))]) (va_runS (As := [.ref b, .int (nI ((0 + 1) + (kk % 4)))]) (rest := []) ⟨hx, hb, hml, hown, hts⟩ (c_L_cell l hst D q cI cZ cJ k V C T B P A n PR ST li w WK so sp CT SC TA H.size b L xs ((0 + 1) + (kk % 4)) (by omega) hL) (va_cwS 2 hts gL_build_L_cell rfl rfl rfl hd_L_cell.2 ⟨(by rw [hR]; first | exact Nat.le_of_ble_eq_true rfl | (dsimp only; omega)), (by rw [hR]; first | exact Nat.le_of_ble_eq_true rfl | (dsimp only; omega))⟩) (pre_SS (wa := []) (wc := (wX q cI cZ cJ k V C T B P A n PR ST li w WK so sp CT SC TA)) (wb := [(a5, .inl (cI, 8, .inl (rI V))), (a6, .inl (cI, 8, .inl (rI C))), (a7, .inl (cI, 8, .inl (rI TT))), (us, .inl (cI, 16, .inl (rI US)))]) hP hK hD hS hA hZ hg hX hbl hbA) rfl rfl hl.1 rfl (lv_room (Nat.le_of_ble_eq_true rfl)) dL_build_127 ⟨(by rw [hR]; first | exact Nat.le_of_ble_eq_true rfl | (dsimp only; omega)), (by rw [hR]; first | exact Nat.le_of_ble_eq_true rfl | (dsimp only; omega))⟩) hP hD hS hA (fun r_7 u_6 H locs hp_8 hP hD hS => ?_)
        have hP : va_P D vwCl ((wX q cI cZ cJ k V C T B P A n PR ST li w WK so sp CT SC TA) ++ [(a5, .inl (cI, 8, .inl (rI V))), (a6, .inl (cI, 8, .inl (rI C))), (a7, .inl (cI, 8, .inl (rI TT))), (us, .inl (cI, 16, .inl (rI US)))]) H := hP
        have hD : va_D A9 ((wX q cI cZ cJ k V C T B P A n PR ST li w WK so sp CT SC TA) ++ [(a5, .inl (cI, 8, .inl (rI V))), (a6, .inl (cI, 8, .inl (rI C))), (a7, .inl (cI, 8, .inl (rI TT))), (us, .inl (cI, 16, .inl (rI US)))]) := hD
        have hp_8 := hp_8.symm
        subst hp_8
        refine lv_iload hx hb dL_build_130 (lv_at hl 0 rfl) ?_
        refine lv_iconst (v := nI 4) hx hb dL_build_132 (ic_4) ?_
        refine n_idiv hx hb (by omega) (by omega) (by omega) dL_build_133 ?_
        refine lv_bipush (v := nI 9) hx hb dL_build_134 (by decide) ?_
        refine n_imul hx hb dL_build_136 ?_
        refine lv_ishr hx hb dL_build_137 ?_
        obtain ⟨x1, hx1⟩ : ∃ x9 : Int32, x9 = u_6 >>> (nI ((kk / 4) * 9) &&& 31) := ⟨_, rfl⟩
        refine n_top hx1.symm ?_
        refine lv_istore (lv' := [(12, .int x1), (11, .int (nI kk)), (9, .int (nI k)), (10, .int (nI tr)), (8, .ref us), (7, .ref a7), (6, .ref a6), (5, .ref a5), (4, .int (nI 9)), (3, .int (nI 6)), (2, .int (nI 0)), (1, .ref b), (0, .ref (q 0))]) hx hb dL_build_138 hl (by decide) rfl (fun ls hl => ?_)
        have lp_176 : ∀ (vl : Nat), (1 ≤ vl ∧ vl ≤ 500) → ∀ (H : Heap) (locs : List Loc), va_P D vwCl ((wX q cI cZ cJ k V C T B P A n PR ST li w WK so sp CT SC TA) ++ [(a5, .inl (cI, 8, .inl (rI V))), (a6, .inl (cI, 8, .inl (rI C))), (a7, .inl (cI, 8, .inl (rI TT))), (us, .inl (cI, 16, .inl (rI US)))]) H → va_D A9 ((wX q cI cZ cJ k V C T B P A n PR ST li w WK so sp CT SC TA) ++ [(a5, .inl (cI, 8, .inl (rI V))), (a6, .inl (cI, 8, .inl (rI C))), (a7, .inl (cI, 8, .inl (rI TT))), (us, .inl (cI, 16, .inl (rI US)))]) → va_S A9 s.heap H locs → ∀ ls : Array Slot, lv_has ls 16 [(12, .int x1), (11, .int (nI kk)), (9, .int (nI k)), (10, .int (nI tr)), (8, .ref us), (7, .ref a7), (6, .ref a6), (5, .ref a5), (4, .int (nI 9)), (3, .int (nI 6)), (2, .int (nI 0)), (1, .ref b), (0, .ref (q 0))] → W p l e R s m args below meth c H locs (1 + 3 * kk) (16 + 18 * kk) Q (F0 m 176 ls [.int (nI vl)]) := by
          intro vl hvl H locs hP hD hS ls hl
          refine lv_istore (lv' := [(13, .int (nI vl)), (12, .int x1), (11, .int (nI kk)), (9, .int (nI k)), (10, .int (nI tr)), (8, .ref us), (7, .ref a7), (6, .ref a6), (5, .ref a5), (4, .int (nI 9)), (3, .int (nI 6)), (2, .int (nI 0)), (1, .ref b), (0, .ref (q 0))]) hx hb dL_build_176 hl (by decide) rfl (fun ls hl => ?_)
          refine lv_iconst (v := nI 1) hx hb dL_build_178 (ic_1) ?_
          refine lv_istore (lv' := [(14, .int (nI 1)), (13, .int (nI vl)), (12, .int x1), (11, .int (nI kk)), (9, .int (nI k)), (10, .int (nI tr)), (8, .ref us), (7, .ref a7), (6, .ref a6), (5, .ref a5), (4, .int (nI 9)), (3, .int (nI 6)), (2, .int (nI 0)), (1, .ref b), (0, .ref (q 0))]) hx hb dL_build_179 hl (by decide) rfl (fun ls hl => ?_)
          refine lv_iconst (v := nI 0) hx hb dL_build_181 (ic_0) ?_
          refine lv_istore (lv' := [(15, .int (nI 0)), (14, .int (nI 1)), (13, .int (nI vl)), (12, .int x1), (11, .int (nI kk)), (9, .int (nI k)), (10, .int (nI tr)), (8, .ref us), (7, .ref a7), (6, .ref a6), (5, .ref a5), (4, .int (nI 9)), (3, .int (nI 6)), (2, .int (nI 0)), (1, .ref b), (0, .ref (q 0))]) hx hb dL_build_182 hl (by decide) rfl (fun ls hl => ?_)
          have lp_184 : ∀ (fu_184 : Nat) (i : Nat) (isn : Nat), k - i < fu_184 → (i ≤ k) → (isn ≤ 1) → (isNw V vl i isn) → ∀ (H : Heap) (locs : List Loc), va_P D vwCl ((wX q cI cZ cJ k V C T B P A n PR ST li w WK so sp CT SC TA) ++ [(a5, .inl (cI, 8, .inl (rI V))), (a6, .inl (cI, 8, .inl (rI C))), (a7, .inl (cI, 8, .inl (rI TT))), (us, .inl (cI, 16, .inl (rI US)))]) H → va_D A9 ((wX q cI cZ cJ k V C T B P A n PR ST li w WK so sp CT SC TA) ++ [(a5, .inl (cI, 8, .inl (rI V))), (a6, .inl (cI, 8, .inl (rI C))), (a7, .inl (cI, 8, .inl (rI TT))), (us, .inl (cI, 16, .inl (rI US)))]) → va_S A9 s.heap H locs → ∀ ls : Array Slot, lv_has ls 16 [(15, .int (nI i)), (14, .int (nI isn)), (13, .int (nI vl)), (12, .int x1), (11, .int (nI kk)), (9, .int (nI k)), (10, .int (nI tr)), (8, .ref us), (7, .ref a7), (6, .ref a6), (5, .ref a5), (4, .int (nI 9)), (3, .int (nI 6)), (2, .int (nI 0)), (1, .ref b), (0, .ref (q 0))] → W p l e R s m args below meth c H locs (1 + 3 * kk) (16 + 18 * kk) Q (F0 m 184 ls []) := by
            intro fu_184
            induction fu_184 with
            | zero =>
              intro i isn hfu_184
              exact absurd hfu_184 (Nat.not_lt_zero _)
            | succ fu_184 ih_184 =>
              intro i isn hfu_184 hi his hne H locs hP hD hS ls hl
              refine lv_iload hx hb dL_build_184 (lv_at hl 0 rfl) ?_
              refine lv_iload hx hb dL_build_186 (lv_at hl 5 rfl) ?_
              refine n_icmp_ge (tgt := 219) hx hb (by omega) (by omega) dL_build_188 (by decide) (fun c188 => ?_) (fun c188 => ?_)
              · have hik : i = k := by omega
                rw [hik] at hne
                refine lv_iload hx hb dL_build_219 (lv_at hl 1 rfl) ?_
                refine n_if_ne (tgt := 227) hx hb (by omega) dL_build_221 (by decide) (fun c221 => ?_) (fun c221 => ?_)
                · have hnew := isNw_new hne c221 his
                  refine lv_aload hx hb dL_build_227 (lv_at hl 10 rfl) ?_
                  refine lv_iload hx hb dL_build_229 (lv_at hl 5 rfl) ?_
                  refine lv_iload hx hb dL_build_231 (lv_at hl 2 rfl) ?_
                  refine n_iast (ws' := ((wX q cI cZ cJ k V C T B P A n PR ST li w WK so sp CT SC TA) ++ [(a5, .inl (cI, 8, .inl (rI (un V k vl)))), (a6, .inl (cI, 8, .inl (rI C))), (a7, .inl (cI, 8, .inl (rI TT))), (us, .inl (cI, 16, .inl (rI US)))])) hx hb hK hP hD hS 13 0 rfl rfl (by omega) (by decide) rfl dL_build_233 (fun H locs hP hD hS => ?_)
                  refine lv_aload hx hb dL_build_234 (lv_at hl 9 rfl) ?_
                  refine lv_iload hx hb dL_build_236 (lv_at hl 5 rfl) ?_
                  refine lv_iload hx hb dL_build_238 (lv_at hl 3 rfl) ?_
                  refine lv_bipush (v := nI 6) hx hb dL_build_240 (by decide) ?_
                  refine lv_ishr hx hb dL_build_242 ?_
                  obtain ⟨xv_9, hxv_9⟩ : ∃ x9 : Int32, x9 = x1 >>> (nI 6 &&& 31) := ⟨_, rfl⟩
                  refine n_top hxv_9.symm ?_
                  refine lv_iload hx hb dL_build_243 (lv_at hl 11 rfl) ?_
                  refine lv_iconst (v := nI 3) hx hb dL_build_245 (ic_3) ?_
                  refine n_iadd hx hb dL_build_246 ?_
                  refine k3_i (wa := []) (wc := (wX q cI cZ cJ k V C T B P A n PR ST li w WK so sp CT SC TA)) (wb := [(a5, .inl (cI, 8, .inl (rI (un V k vl)))), (a6, .inl (cI, 8, .inl (rI C))), (a7, .inl (cI, 8, .inl (rI TT))), (us, .inl (cI, 16, .inl (rI US)))]) (va_runS (As := [.int xv_9, .int (nI (9 + 3))]) (rest := [.int (nI k), .ref a6]) ⟨hx, hb, hml, hown, hts⟩ (c_L_below l hst D q cI cZ cJ k V C T B P A n PR ST li w WK so sp CT SC TA H.size xv_9 (9 + 3) (⟨by omega, by omega⟩)) (va_cwS 2 hts gL_build_L_below rfl rfl rfl hd_L_below.2 ⟨(by rw [hR]; first | exact Nat.le_of_ble_eq_true rfl | (dsimp only; omega)), (by rw [hR]; first | exact Nat.le_of_ble_eq_true rfl | (dsimp only; omega))⟩) (pre_S (j_pm (wa := []) (wc := (wX q cI cZ cJ k V C T B P A n PR ST li w WK so sp CT SC TA)) (wb := [(a5, .inl (cI, 8, .inl (rI (un V k vl)))), (a6, .inl (cI, 8, .inl (rI C))), (a7, .inl (cI, 8, .inl (rI TT))), (us, .inl (cI, 16, .inl (rI US)))]) hP) hK (j_mid (wa := []) (wc := (wX q cI cZ cJ k V C T B P A n PR ST li w WK so sp CT SC TA)) (wb := [(a5, .inl (cI, 8, .inl (rI (un V k vl)))), (a6, .inl (cI, 8, .inl (rI C))), (a7, .inl (cI, 8, .inl (rI TT))), (us, .inl (cI, 16, .inl (rI US)))]) hD) hS hA hZ hg) rfl rfl hl.1 rfl (lv_room (Nat.le_of_ble_eq_true rfl)) dL_build_247 ⟨(by rw [hR]; first | exact Nat.le_of_ble_eq_true rfl | (dsimp only; omega)), (by rw [hR]; first | exact Nat.le_of_ble_eq_true rfl | (dsimp only; omega))⟩) hP hD hS hA (fun r_10 ur H locs hp_11 hP hD hS => ?_)
                  have hP : va_P D vwCl ((wX q cI cZ cJ k V C T B P A n PR ST li w WK so sp CT SC TA) ++ [(a5, .inl (cI, 8, .inl (rI (un V k vl)))), (a6, .inl (cI, 8, .inl (rI C))), (a7, .inl (cI, 8, .inl (rI TT))), (us, .inl (cI, 16, .inl (rI US)))]) H := hP
                  have hD : va_D A9 ((wX q cI cZ cJ k V C T B P A n PR ST li w WK so sp CT SC TA) ++ [(a5, .inl (cI, 8, .inl (rI (un V k vl)))), (a6, .inl (cI, 8, .inl (rI C))), (a7, .inl (cI, 8, .inl (rI TT))), (us, .inl (cI, 16, .inl (rI US)))]) := hD
                  obtain ⟨rfl, hp_11⟩ := hp_11
                  have hur := hp_11
                  refine n_iast (ws' := ((wX q cI cZ cJ k V C T B P A n PR ST li w WK so sp CT SC TA) ++ [(a5, .inl (cI, 8, .inl (rI (un V k vl)))), (a6, .inl (cI, 8, .inl (rI (un C k ur)))), (a7, .inl (cI, 8, .inl (rI TT))), (us, .inl (cI, 16, .inl (rI US)))])) hx hb hK hP hD hS 14 0 rfl rfl (by omega) (by decide) rfl dL_build_250 (fun H locs hP hD hS => ?_)
                  refine lv_aload_n hx hb dL_build_251 rfl (lv_at hl 15 rfl) ?_
                  refine lv_iload hx hb dL_build_252 (lv_at hl 2 rfl) ?_
                  refine lv_aload hx hb dL_build_254 (lv_at hl 9 rfl) ?_
                  refine lv_iload hx hb dL_build_256 (lv_at hl 5 rfl) ?_
                  refine n_iald hx hb hK hP 14 0 rfl rfl (by omega) (by decide) dL_build_258 ?_
                  refine n_top (congrArg nI (show (un C k ur) k = ur from un_s)) ?_
                  refine kn3_i (wa := []) (wc := (wX q cI cZ cJ k V C T B P A n PR ST li w WK so sp CT SC TA)) (wb := [(a5, .inl (cI, 8, .inl (rI (un V k vl)))), (a6, .inl (cI, 8, .inl (rI (un C k ur)))), (a7, .inl (cI, 8, .inl (rI TT))), (us, .inl (cI, 16, .inl (rI US)))]) (vx_runV (As := [.int (nI vl), .int (nI ur)]) (rest := []) ⟨hx, hb, hml, hown, hts⟩ (c_X0_addKind l hst D q cI cZ cJ k V C T B P A n PR ST li w WK so sp CT SC TA H.size (nI vl) (nI ur) (by omega) hV) (cwV 2 hts gL_build_X0_addKind rfl rfl rfl hd_X0_addKind ⟨(by rw [hR]; first | exact Nat.le_of_ble_eq_true rfl | (dsimp only; omega)), (by rw [hR]; first | exact Nat.le_of_ble_eq_true rfl | (dsimp only; omega))⟩) (pre_V3 (wa := []) (wc := (wX q cI cZ cJ k V C T B P A n PR ST li w WK so sp CT SC TA)) (wb := [(a5, .inl (cI, 8, .inl (rI (un V k vl)))), (a6, .inl (cI, 8, .inl (rI (un C k ur)))), (a7, .inl (cI, 8, .inl (rI TT))), (us, .inl (cI, 16, .inl (rI US)))]) hP hK hD hS hA hZ hg 0 (ci := 0) rfl rfl) rfl rfl hl.1 rfl (lv_room (Nat.le_of_ble_eq_true rfl)) dL_build_259 ⟨(by rw [hR]; first | exact Nat.le_of_ble_eq_true rfl | (dsimp only; omega)), (by rw [hR]; first | exact Nat.le_of_ble_eq_true rfl | (dsimp only; omega))⟩) hP hD hS hA (fun E h => by
                                        rcases h with ⟨-, h⟩ | ⟨-, -, h | ⟨i, h1, h2⟩⟩
                                        · exact h ⟨⟨vl, hvl.1, by omega, rfl⟩, ⟨ur, by omega, by omega, rfl⟩⟩
                                        · omega
                                        · have h3 := hV i h1
                                          exact hnew i h1 ((nI_eq32 (by omega) (by omega)).mp h2)) (fun r_13 u_12 H locs hp_14 hP hD hS => ?_)
                  have hP : va_P D vwCl ((wX q cI cZ cJ (k + 1) (un V k u_12.1) (un C k u_12.2) T B P (un A k 1) n PR ST li w WK so sp CT SC TA) ++ [(a5, .inl (cI, 8, .inl (rI (un V k vl)))), (a6, .inl (cI, 8, .inl (rI (un C k ur)))), (a7, .inl (cI, 8, .inl (rI TT))), (us, .inl (cI, 16, .inl (rI US)))]) H := hP
                  have hD : va_D A9 ((wX q cI cZ cJ (k + 1) (un V k u_12.1) (un C k u_12.2) T B P (un A k 1) n PR ST li w WK so sp CT SC TA) ++ [(a5, .inl (cI, 8, .inl (rI (un V k vl)))), (a6, .inl (cI, 8, .inl (rI (un C k ur)))), (a7, .inl (cI, 8, .inl (rI TT))), (us, .inl (cI, 16, .inl (rI US)))]) := hD
                  obtain ⟨rfl, hp_14⟩ := hp_14
                  have e1 : u_12.1 = vl := (nI_eq32 (by omega) (by omega)).mp hp_14.2.2.2.1.symm
                  have e2 : u_12.2 = ur := (nI_eq32 (by omega) (by omega)).mp hp_14.2.2.2.2.1.symm
                  rw [e1, e2] at hP hD
                  have hk9 : k + 1 ≤ 8 := by omega
                  have hVn : ∀ i, i < k + 1 → 1 ≤ un V k vl i ∧ un V k vl i ≤ 500 := fun i hi => by
                                      by_cases e : i = k
                                      · rw [e, un_s]; exact hvl
                                      · rw [un_n e]; exact hV i (by omega)
                  have hTk : T k = 0 := hT0 k (Nat.le_refl k)
                  have hCn : ∀ i, i < k + 1 → un C k ur i ≤ 60 ∧ T i ≤ un C k ur i := fun i hi => by
                                      by_cases e : i = k
                                      · rw [e, un_s, hTk]; exact ⟨by omega, by omega⟩
                                      · rw [un_n e]; exact hC i (by omega)
                  have hVdn : ∀ i j, i < k + 1 → j < k + 1 → un V k vl i = un V k vl j → i = j := fun i j hi hj h => by
                                      by_cases ei : i = k
                                      · by_cases ej : j = k
                                        · rw [ei, ej]
                                        · rw [ei, un_s, un_n ej] at h; exact absurd h.symm (hnew j (by omega))
                                      · by_cases ej : j = k
                                        · rw [ej, un_s, un_n ei] at h; exact absurd h (hnew i (by omega))
                                        · rw [un_n ei, un_n ej] at h; exact hVd i j (by omega) (by omega) h
                  have hAn : ∀ i, i < k + 1 → un A k 1 i = 1 := fun i hi => by
                                      by_cases e : i = k
                                      · rw [e, un_s]
                                      · rw [un_n e]; exact hAe i (by omega)
                  refine lv_iload hx hb dL_build_262 (lv_at hl 5 rfl) ?_
                  refine n_icmp_eq (tgt := 269) hx hb (by omega) (by omega) dL_build_264 (by decide) (fun c264 => ?_) (fun c264 => ?_)
                  · refine lv_iload hx hb dL_build_269 (lv_at hl 3 rfl) ?_
                    refine lv_iconst (v := nI 5) hx hb dL_build_271 (ic_5) ?_
                    refine lv_ishr hx hb dL_build_272 ?_
                    obtain ⟨xv_15, hxv_15⟩ : ∃ x9 : Int32, x9 = x1 >>> (nI 5 &&& 31) := ⟨_, rfl⟩
                    refine n_top hxv_15.symm ?_
                    refine lv_iload hx hb dL_build_273 (lv_at hl 11 rfl) ?_
                    refine lv_iconst (v := nI 1) hx hb dL_build_275 (ic_1) ?_
                    refine n_iadd hx hb dL_build_276 ?_
                    refine k3_i (wa := []) (wc := (wX q cI cZ cJ (k + 1) (un V k vl) (un C k ur) T B P (un A k 1) n PR ST li w WK so sp CT SC TA)) (wb := [(a5, .inl (cI, 8, .inl (rI (un V k vl)))), (a6, .inl (cI, 8, .inl (rI (un C k ur)))), (a7, .inl (cI, 8, .inl (rI TT))), (us, .inl (cI, 16, .inl (rI US)))]) (va_runS (As := [.int xv_15, .int (nI (9 + 1))]) (rest := []) ⟨hx, hb, hml, hown, hts⟩ (c_L_below l hst D q cI cZ cJ (k + 1) (un V k vl) (un C k ur) T B P (un A k 1) n PR ST li w WK so sp CT SC TA H.size xv_15 (9 + 1) (⟨by omega, by omega⟩)) (va_cwS 2 hts gL_build_L_below rfl rfl rfl hd_L_below.2 ⟨(by rw [hR]; first | exact Nat.le_of_ble_eq_true rfl | (dsimp only; omega)), (by rw [hR]; first | exact Nat.le_of_ble_eq_true rfl | (dsimp only; omega))⟩) (pre_S (j_pm (wa := []) (wc := (wX q cI cZ cJ (k + 1) (un V k vl) (un C k ur) T B P (un A k 1) n PR ST li w WK so sp CT SC TA)) (wb := [(a5, .inl (cI, 8, .inl (rI (un V k vl)))), (a6, .inl (cI, 8, .inl (rI (un C k ur)))), (a7, .inl (cI, 8, .inl (rI TT))), (us, .inl (cI, 16, .inl (rI US)))]) hP) hK (j_mid (wa := []) (wc := (wX q cI cZ cJ (k + 1) (un V k vl) (un C k ur) T B P (un A k 1) n PR ST li w WK so sp CT SC TA)) (wb := [(a5, .inl (cI, 8, .inl (rI (un V k vl)))), (a6, .inl (cI, 8, .inl (rI (un C k ur)))), (a7, .inl (cI, 8, .inl (rI TT))), (us, .inl (cI, 16, .inl (rI US)))]) hD) hS hA hZ hg) rfl rfl hl.1 rfl (lv_room (Nat.le_of_ble_eq_true rfl)) dL_build_277 ⟨(by rw [hR]; first | exact Nat.le_of_ble_eq_true rfl | (dsimp only; omega)), (by rw [hR]; first | exact Nat.le_of_ble_eq_true rfl | (dsimp only; omega))⟩) hP hD hS hA (fun r_16 uc H locs hp_17 hP hD hS => ?_)
                    have hP : va_P D vwCl ((wX q cI cZ cJ (k + 1) (un V k vl) (un C k ur) T B P (un A k 1) n PR ST li w WK so sp CT SC TA) ++ [(a5, .inl (cI, 8, .inl (rI (un V k vl)))), (a6, .inl (cI, 8, .inl (rI (un C k ur)))), (a7, .inl (cI, 8, .inl (rI TT))), (us, .inl (cI, 16, .inl (rI US)))]) H := hP
                    have hD : va_D A9 ((wX q cI cZ cJ (k + 1) (un V k vl) (un C k ur) T B P (un A k 1) n PR ST li w WK so sp CT SC TA) ++ [(a5, .inl (cI, 8, .inl (rI (un V k vl)))), (a6, .inl (cI, 8, .inl (rI (un C k ur)))), (a7, .inl (cI, 8, .inl (rI TT))), (us, .inl (cI, 16, .inl (rI US)))]) := hD
                    obtain ⟨rfl, hp_17⟩ := hp_17
                    have huc := hp_17
                    refine lv_istore (lv' := [(15, .int (nI uc)), (14, .int (nI isn)), (13, .int (nI vl)), (12, .int x1), (11, .int (nI kk)), (9, .int (nI k)), (10, .int (nI tr)), (8, .ref us), (7, .ref a7), (6, .ref a6), (5, .ref a5), (4, .int (nI 9)), (3, .int (nI 6)), (2, .int (nI 0)), (1, .ref b), (0, .ref (q 0))]) hx hb dL_build_280 hl (by decide) rfl (fun ls hl => ?_)
                    refine lv_aload hx hb dL_build_282 (lv_at hl 8 rfl) ?_
                    refine lv_iload hx hb dL_build_284 (lv_at hl 5 rfl) ?_
                    refine lv_iload hx hb dL_build_286 (lv_at hl 0 rfl) ?_
                    refine lv_aload hx hb dL_build_288 (lv_at hl 9 rfl) ?_
                    refine lv_iload hx hb dL_build_290 (lv_at hl 5 rfl) ?_
                    refine n_iald hx hb hK hP 14 0 rfl rfl (by omega) (by decide) dL_build_292 ?_
                    refine n_top (congrArg nI (show (un C k ur) k = ur from un_s)) ?_
                    refine va_mmin hx hb (hml.trans hl.1.symm) hown (hts _ (List.mem_of_getElem? (i := 2) rfl)) (hts _ (List.mem_of_getElem? (i := 3) rfl)) (hts _ (List.mem_of_getElem? (i := 4) rfl)) (hts _ (List.mem_of_getElem? (i := 5) rfl)) (by rw [hR]; first | exact Nat.le_of_ble_eq_true rfl | (dsimp only; omega)) (by rw [hR]; first | exact Nat.le_of_ble_eq_true rfl | (dsimp only; omega)) (by rw [hR]; first | exact Nat.le_of_ble_eq_true rfl | (dsimp only; omega)) (by rw [hR]; first | exact Nat.le_of_ble_eq_true rfl | (dsimp only; omega)) dL_build_293 (n_top (nI_min _ _ (by omega) (by omega)) ?_)
                    refine n_iast (ws' := ((wX q cI cZ cJ (k + 1) (un V k vl) (un C k ur) T B P (un A k 1) n PR ST li w WK so sp CT SC TA) ++ [(a5, .inl (cI, 8, .inl (rI (un V k vl)))), (a6, .inl (cI, 8, .inl (rI (un C k ur)))), (a7, .inl (cI, 8, .inl (rI (un TT k (min uc ur))))), (us, .inl (cI, 16, .inl (rI US)))])) hx hb hK hP hD hS 15 0 rfl rfl (by omega) (by decide) rfl dL_build_296 (fun H locs hP hD hS => ?_)
                    refine lv_aload_n hx hb dL_build_297 rfl (lv_at hl 15 rfl) ?_
                    refine lv_iload hx hb dL_build_298 (lv_at hl 5 rfl) ?_
                    refine lv_iload hx hb dL_build_300 (lv_at hl 0 rfl) ?_
                    refine kn3_i (wa := []) (wc := (wX q cI cZ cJ (k + 1) (un V k vl) (un C k ur) T B P (un A k 1) n PR ST li w WK so sp CT SC TA)) (wb := [(a5, .inl (cI, 8, .inl (rI (un V k vl)))), (a6, .inl (cI, 8, .inl (rI (un C k ur)))), (a7, .inl (cI, 8, .inl (rI (un TT k (min uc ur))))), (us, .inl (cI, 16, .inl (rI US)))]) (vx_runV (As := [.int (nI k), .int (nI uc)]) (rest := []) ⟨hx, hb, hml, hown, hts⟩ (c_X0_fill l hst D q cI cZ cJ (k + 1) (un V k vl) (un C k ur) T B P (un A k 1) n PR ST li w WK so sp CT SC TA H.size (nI k) (nI uc) hk9 hVn hCn) (cwV 2 hts gL_build_X0_fill rfl rfl rfl hd_X0_fill ⟨(by rw [hR]; first | exact Nat.le_of_ble_eq_true rfl | (dsimp only; omega)), (by rw [hR]; first | exact Nat.le_of_ble_eq_true rfl | (dsimp only; omega))⟩) (pre_V3 (wa := []) (wc := (wX q cI cZ cJ (k + 1) (un V k vl) (un C k ur) T B P (un A k 1) n PR ST li w WK so sp CT SC TA)) (wb := [(a5, .inl (cI, 8, .inl (rI (un V k vl)))), (a6, .inl (cI, 8, .inl (rI (un C k ur)))), (a7, .inl (cI, 8, .inl (rI (un TT k (min uc ur))))), (us, .inl (cI, 16, .inl (rI US)))]) hP hK hD hS hA hZ hg 0 (ci := 0) rfl rfl) rfl rfl hl.1 rfl (lv_room (Nat.le_of_ble_eq_true rfl)) dL_build_302 ⟨(by rw [hR]; first | exact Nat.le_of_ble_eq_true rfl | (dsimp only; omega)), (by rw [hR]; first | exact Nat.le_of_ble_eq_true rfl | (dsimp only; omega))⟩) hP hD hS hA (fun E h => by
                                            rcases h with ⟨-, h⟩ | ⟨-, -, h⟩
                                            · exact h ⟨k, by omega, by omega, rfl⟩
                                            · exact h ⟨uc, by omega, by omega, rfl⟩) (fun r_19 u_18 H locs hp_20 hP hD hS => ?_)
                    have hP : va_P D vwCl ((wX q cI cZ cJ (k + 1) (un V k vl) (un C k ur) (un T u_18.1 (T u_18.1 + min u_18.2 ((un C k ur) u_18.1 - T u_18.1))) B P (un A k 1) n PR ST li w WK so sp (vp_updL CT 4 (CT 4 + lZ ((min u_18.2 ((un C k ur) u_18.1 - T u_18.1) * (un V k vl) u_18.1 : Nat) : Int))) SC TA) ++ [(a5, .inl (cI, 8, .inl (rI (un V k vl)))), (a6, .inl (cI, 8, .inl (rI (un C k ur)))), (a7, .inl (cI, 8, .inl (rI (un TT k (min uc ur))))), (us, .inl (cI, 16, .inl (rI US)))]) H := hP
                    have hD : va_D A9 ((wX q cI cZ cJ (k + 1) (un V k vl) (un C k ur) (un T u_18.1 (T u_18.1 + min u_18.2 ((un C k ur) u_18.1 - T u_18.1))) B P (un A k 1) n PR ST li w WK so sp (vp_updL CT 4 (CT 4 + lZ ((min u_18.2 ((un C k ur) u_18.1 - T u_18.1) * (un V k vl) u_18.1 : Nat) : Int))) SC TA) ++ [(a5, .inl (cI, 8, .inl (rI (un V k vl)))), (a6, .inl (cI, 8, .inl (rI (un C k ur)))), (a7, .inl (cI, 8, .inl (rI (un TT k (min uc ur))))), (us, .inl (cI, 16, .inl (rI US)))]) := hD
                    obtain ⟨rfl, hp_20⟩ := hp_20
                    have e3 : u_18.1 = k := (nI_eq32 (by omega) (by omega)).mp hp_20.2.2.1.symm
                    have e4 : u_18.2 = uc := (nI_eq32 (by omega) (by omega)).mp hp_20.2.2.2.symm
                    rw [e3, e4, un_s (f := C) (i := k) (x := ur), hTk, Nat.sub_zero, Nat.zero_add] at hP hD
                    rw [e3, e4, un_s (f := C) (i := k) (x := ur), hTk, Nat.sub_zero]
                    have hCm : ∀ i, i < k + 1 → un C k ur i ≤ 60 ∧ un T k (min uc ur) i ≤ un C k ur i := fun i hi => by
                                          by_cases e : i = k
                                          · rw [e, un_s, un_s]; exact ⟨by omega, by omega⟩
                                          · rw [un_n e, un_n e]; exact hC i (by omega)
                    have hTn : ∀ i, k + 1 ≤ i → un T k (min uc ur) i = 0 := fun i hi => by rw [un_n (by omega)]; exact hT0 i (by omega)
                    have hCTn : ∀ j, j ≠ 4 → (vp_updL CT 4 (CT 4 + lZ ((min uc ur * un V k vl k : Nat) : Int))) j = CT0 j := fun j hj => by rw [updL_n hj]; exact hCT j hj
                    have hk2n : kk + 1 = 0 ∨ 1 ≤ k + 1 := Or.inr (by omega)
                    refine lv_iload hx hb dL_build_305 (lv_at hl 0 rfl) ?_
                    refine lv_aload hx hb dL_build_307 (lv_at hl 8 rfl) ?_
                    refine lv_iload hx hb dL_build_309 (lv_at hl 5 rfl) ?_
                    refine n_iald hx hb hK hP 15 0 rfl rfl (by omega) (by decide) dL_build_311 ?_
                    refine n_top (congrArg nI (show (un TT k (min uc ur)) k = min uc ur from un_s)) ?_
                    refine n_isub hx hb (by omega) dL_build_312 ?_
                    refine n_icmp_eq (tgt := 318) hx hb (by omega) (by omega) dL_build_313 (by decide) (fun c313 => ?_) (fun c313 => ?_)
                    · refine lv_iinc (v := nI (k + 1)) (lv' := [(9, .int (nI (k + 1))), (15, .int (nI uc)), (14, .int (nI isn)), (13, .int (nI vl)), (12, .int x1), (11, .int (nI kk)), (10, .int (nI tr)), (8, .ref us), (7, .ref a7), (6, .ref a6), (5, .ref a5), (4, .int (nI 9)), (3, .int (nI 6)), (2, .int (nI 0)), (1, .ref b), (0, .ref (q 0))]) hx hb dL_build_318 hl (k := 5) rfl (ni_inc _ 1) (by decide) rfl (fun ls hl => ?_)
                      refine lv_iinc (v := nI (kk + 1)) (lv' := [(11, .int (nI (kk + 1))), (9, .int (nI (k + 1))), (15, .int (nI uc)), (14, .int (nI isn)), (13, .int (nI vl)), (12, .int x1), (10, .int (nI tr)), (8, .ref us), (7, .ref a7), (6, .ref a6), (5, .ref a5), (4, .int (nI 9)), (3, .int (nI 6)), (2, .int (nI 0)), (1, .ref b), (0, .ref (q 0))]) hx hb dL_build_321 hl (k := 5) rfl (ni_inc _ 1) (by decide) rfl (fun ls hl => ?_)
                      refine lv_goto (tgt := 111) hx hb dL_build_324 (by decide) ?_
                      refine W.widen (k := 1 + 3 * (kk + 1)) (n := 16 + 18 * (kk + 1)) (by omega) (by omega) ?_
                      exact ih_111 (kk + 1) (k + 1) (un V k vl) (un C k ur) (un T k (min uc ur)) (un A k 1) (vp_updL CT 4 (CT 4 + lZ ((min uc ur * un V k vl k : Nat) : Int))) (un TT k (min uc ur)) (by omega) (by omega) (by omega) hk2n hVn hCm hVdn hAn hTn hCTn _ _ hP hD hS ls (lv_sub hl [0, 1, 6, 7, 8, 9, 10, 11, 12, 13, 14, 15] rfl)
                    · exact absurd rfl c313
                  · exact absurd rfl c264
                · have hk2n : kk + 1 = 0 ∨ 1 ≤ k := Or.inr (isNw_old hne c221)
                  have hVn := hV
                  have hCm := hC
                  have hVdn := hVd
                  have hAn := hAe
                  have hTn := hT0
                  have hCTn := hCT
                  refine lv_goto (tgt := 321) hx hb dL_build_224 (by decide) ?_
                  refine lv_iinc (v := nI (kk + 1)) (lv' := [(11, .int (nI (kk + 1))), (15, .int (nI i)), (14, .int (nI isn)), (13, .int (nI vl)), (12, .int x1), (9, .int (nI k)), (10, .int (nI tr)), (8, .ref us), (7, .ref a7), (6, .ref a6), (5, .ref a5), (4, .int (nI 9)), (3, .int (nI 6)), (2, .int (nI 0)), (1, .ref b), (0, .ref (q 0))]) hx hb dL_build_321 hl (k := 4) rfl (ni_inc _ 1) (by decide) rfl (fun ls hl => ?_)
                  refine lv_goto (tgt := 111) hx hb dL_build_324 (by decide) ?_
                  refine W.widen (k := 1 + 3 * (kk + 1)) (n := 16 + 18 * (kk + 1)) (by omega) (by omega) ?_
                  exact ih_111 (kk + 1) k V C T A CT TT (by omega) (by omega) (by omega) hk2n hVn hCm hVdn hAn hTn hCTn _ _ hP hD hS ls (lv_sub hl [0, 5, 6, 7, 8, 9, 10, 11, 12, 13, 14, 15] rfl)
              · refine lv_iload hx hb dL_build_191 (lv_at hl 1 rfl) ?_
                refine n_if_eq (tgt := 210) hx hb (by omega) dL_build_193 (by decide) (fun c193 => ?_) (fun c193 => ?_)
                · have hne2 := isNw_z hne c193
                  refine lv_iconst (v := nI 0) hx hb dL_build_210 (ic_0) ?_
                  refine lv_istore (lv' := [(14, .int (nI 0)), (15, .int (nI i)), (13, .int (nI vl)), (12, .int x1), (11, .int (nI kk)), (9, .int (nI k)), (10, .int (nI tr)), (8, .ref us), (7, .ref a7), (6, .ref a6), (5, .ref a5), (4, .int (nI 9)), (3, .int (nI 6)), (2, .int (nI 0)), (1, .ref b), (0, .ref (q 0))]) hx hb dL_build_211 hl (by decide) rfl (fun ls hl => ?_)
                  refine lv_iinc (v := nI (i + 1)) (lv' := [(15, .int (nI (i + 1))), (14, .int (nI 0)), (13, .int (nI vl)), (12, .int x1), (11, .int (nI kk)), (9, .int (nI k)), (10, .int (nI tr)), (8, .ref us), (7, .ref a7), (6, .ref a6), (5, .ref a5), (4, .int (nI 9)), (3, .int (nI 6)), (2, .int (nI 0)), (1, .ref b), (0, .ref (q 0))]) hx hb dL_build_213 hl (k := 1) rfl (ni_inc _ 1) (by decide) rfl (fun ls hl => ?_)
                  refine lv_goto (tgt := 184) hx hb dL_build_216 (by decide) ?_
                  exact ih_184 (i + 1) 0 (by omega) (by omega) (by omega) hne2 _ _ hP hD hS ls (lv_sub hl [0, 1, 2, 3, 4, 5, 6, 7, 8, 9, 10, 11, 12, 13, 14, 15] rfl)
                · refine lv_aload hx hb dL_build_196 (lv_at hl 10 rfl) ?_
                  refine lv_iload hx hb dL_build_198 (lv_at hl 0 rfl) ?_
                  refine n_iald hx hb hK hP 13 0 rfl rfl (by omega) (by decide) dL_build_200 ?_
                  refine lv_iload hx hb dL_build_201 (lv_at hl 2 rfl) ?_
                  refine n_icmp_eq (tgt := 210) hx hb (by have := hV i (by omega); omega) (by omega) dL_build_203 (by decide) (fun c203 => ?_) (fun c203 => ?_)
                  · have hne2 := isNw_e (V := V) c203
                    refine lv_iconst (v := nI 0) hx hb dL_build_210 (ic_0) ?_
                    refine lv_istore (lv' := [(14, .int (nI 0)), (15, .int (nI i)), (13, .int (nI vl)), (12, .int x1), (11, .int (nI kk)), (9, .int (nI k)), (10, .int (nI tr)), (8, .ref us), (7, .ref a7), (6, .ref a6), (5, .ref a5), (4, .int (nI 9)), (3, .int (nI 6)), (2, .int (nI 0)), (1, .ref b), (0, .ref (q 0))]) hx hb dL_build_211 hl (by decide) rfl (fun ls hl => ?_)
                    refine lv_iinc (v := nI (i + 1)) (lv' := [(15, .int (nI (i + 1))), (14, .int (nI 0)), (13, .int (nI vl)), (12, .int x1), (11, .int (nI kk)), (9, .int (nI k)), (10, .int (nI tr)), (8, .ref us), (7, .ref a7), (6, .ref a6), (5, .ref a5), (4, .int (nI 9)), (3, .int (nI 6)), (2, .int (nI 0)), (1, .ref b), (0, .ref (q 0))]) hx hb dL_build_213 hl (k := 1) rfl (ni_inc _ 1) (by decide) rfl (fun ls hl => ?_)
                    refine lv_goto (tgt := 184) hx hb dL_build_216 (by decide) ?_
                    exact ih_184 (i + 1) 0 (by omega) (by omega) (by omega) hne2 _ _ hP hD hS ls (lv_sub hl [0, 1, 2, 3, 4, 5, 6, 7, 8, 9, 10, 11, 12, 13, 14, 15] rfl)
                  · have hne2 := isNw_n hne c193 his c203
                    refine lv_iconst (v := nI 1) hx hb dL_build_206 (ic_1) ?_
                    refine lv_goto (tgt := 211) hx hb dL_build_207 (by decide) ?_
                    refine lv_istore (lv' := [(14, .int (nI 1)), (15, .int (nI i)), (13, .int (nI vl)), (12, .int x1), (11, .int (nI kk)), (9, .int (nI k)), (10, .int (nI tr)), (8, .ref us), (7, .ref a7), (6, .ref a6), (5, .ref a5), (4, .int (nI 9)), (3, .int (nI 6)), (2, .int (nI 0)), (1, .ref b), (0, .ref (q 0))]) hx hb dL_build_211 hl (by decide) rfl (fun ls hl => ?_)
                    refine lv_iinc (v := nI (i + 1)) (lv' := [(15, .int (nI (i + 1))), (14, .int (nI 1)), (13, .int (nI vl)), (12, .int x1), (11, .int (nI kk)), (9, .int (nI k)), (10, .int (nI tr)), (8, .ref us), (7, .ref a7), (6, .ref a6), (5, .ref a5), (4, .int (nI 9)), (3, .int (nI 6)), (2, .int (nI 0)), (1, .ref b), (0, .ref (q 0))]) hx hb dL_build_213 hl (k := 1) rfl (ni_inc _ 1) (by decide) rfl (fun ls hl => ?_)
                    refine lv_goto (tgt := 184) hx hb dL_build_216 (by decide) ?_
                    exact ih_184 (i + 1) 1 (by omega) (by omega) (by omega) hne2 _ _ hP hD hS ls (lv_sub hl [0, 1, 2, 3, 4, 5, 6, 7, 8, 9, 10, 11, 12, 13, 14, 15] rfl)
          exact lp_184 _ 0 1 (Nat.lt_succ_self _) (by omega) (by omega) (isNw_0 V vl) _ _ hP hD hS ls (lv_sub hl [0, 1, 2, 3, 4, 5, 6, 7, 8, 9, 10, 11, 12, 13, 14, 15] rfl)
        refine lv_iload hx hb dL_build_140 (lv_at hl 0 rfl) ?_
        refine lv_bipush (v := nI 6) hx hb dL_build_142 (by decide) ?_
        refine k3_i (wa := []) (wc := (wX q cI cZ cJ k V C T B P A n PR ST li w WK so sp CT SC TA)) (wb := [(a5, .inl (cI, 8, .inl (rI V))), (a6, .inl (cI, 8, .inl (rI C))), (a7, .inl (cI, 8, .inl (rI TT))), (us, .inl (cI, 16, .inl (rI US)))]) (va_runS (As := [.int x1, .int (nI 6)]) (rest := []) ⟨hx, hb, hml, hown, hts⟩ (c_L_below l hst D q cI cZ cJ k V C T B P A n PR ST li w WK so sp CT SC TA H.size x1 6 (⟨by omega, by omega⟩)) (va_cwS 2 hts gL_build_L_below rfl rfl rfl hd_L_below.2 ⟨(by rw [hR]; first | exact Nat.le_of_ble_eq_true rfl | (dsimp only; omega)), (by rw [hR]; first | exact Nat.le_of_ble_eq_true rfl | (dsimp only; omega))⟩) (pre_S (j_pm (wa := []) (wc := (wX q cI cZ cJ k V C T B P A n PR ST li w WK so sp CT SC TA)) (wb := [(a5, .inl (cI, 8, .inl (rI V))), (a6, .inl (cI, 8, .inl (rI C))), (a7, .inl (cI, 8, .inl (rI TT))), (us, .inl (cI, 16, .inl (rI US)))]) hP) hK (j_mid (wa := []) (wc := (wX q cI cZ cJ k V C T B P A n PR ST li w WK so sp CT SC TA)) (wb := [(a5, .inl (cI, 8, .inl (rI V))), (a6, .inl (cI, 8, .inl (rI C))), (a7, .inl (cI, 8, .inl (rI TT))), (us, .inl (cI, 16, .inl (rI US)))]) hD) hS hA hZ hg) rfl rfl hl.1 rfl (lv_room (Nat.le_of_ble_eq_true rfl)) dL_build_144 ⟨(by rw [hR]; first | exact Nat.le_of_ble_eq_true rfl | (dsimp only; omega)), (by rw [hR]; first | exact Nat.le_of_ble_eq_true rfl | (dsimp only; omega))⟩) hP hD hS hA (fun r_22 u_21 H locs hp_23 hP hD hS => ?_)
        have hP : va_P D vwCl ((wX q cI cZ cJ k V C T B P A n PR ST li w WK so sp CT SC TA) ++ [(a5, .inl (cI, 8, .inl (rI V))), (a6, .inl (cI, 8, .inl (rI C))), (a7, .inl (cI, 8, .inl (rI TT))), (us, .inl (cI, 16, .inl (rI US)))]) H := hP
        have hD : va_D A9 ((wX q cI cZ cJ k V C T B P A n PR ST li w WK so sp CT SC TA) ++ [(a5, .inl (cI, 8, .inl (rI V))), (a6, .inl (cI, 8, .inl (rI C))), (a7, .inl (cI, 8, .inl (rI TT))), (us, .inl (cI, 16, .inl (rI US)))]) := hD
        obtain ⟨rfl, hp_23⟩ := hp_23
        have hu6 := hp_23
        refine n_if_ne (tgt := 164) hx hb (by omega) dL_build_147 (by decide) (fun c147 => ?_) (fun c147 => ?_)
        · refine lv_aload hx hb dL_build_164 (lv_at hl 4 rfl) ?_
          refine lv_iload hx hb dL_build_166 (lv_at hl 0 rfl) ?_
          refine lv_iconst (v := nI 3) hx hb dL_build_168 (ic_3) ?_
          refine lv_ishr hx hb dL_build_169 ?_
          obtain ⟨xv_24, hxv_24⟩ : ∃ x9 : Int32, x9 = x1 >>> (nI 3 &&& 31) := ⟨_, rfl⟩
          refine n_top hxv_24.symm ?_
          refine lv_bipush (v := nI 16) hx hb dL_build_170 (by decide) ?_
          refine k3_i (wa := []) (wc := (wX q cI cZ cJ k V C T B P A n PR ST li w WK so sp CT SC TA)) (wb := [(a5, .inl (cI, 8, .inl (rI V))), (a6, .inl (cI, 8, .inl (rI C))), (a7, .inl (cI, 8, .inl (rI TT))), (us, .inl (cI, 16, .inl (rI US)))]) (va_runS (As := [.int xv_24, .int (nI 16)]) (rest := [.ref us]) ⟨hx, hb, hml, hown, hts⟩ (c_L_below l hst D q cI cZ cJ k V C T B P A n PR ST li w WK so sp CT SC TA H.size xv_24 16 (⟨by omega, by omega⟩)) (va_cwS 2 hts gL_build_L_below rfl rfl rfl hd_L_below.2 ⟨(by rw [hR]; first | exact Nat.le_of_ble_eq_true rfl | (dsimp only; omega)), (by rw [hR]; first | exact Nat.le_of_ble_eq_true rfl | (dsimp only; omega))⟩) (pre_S (j_pm (wa := []) (wc := (wX q cI cZ cJ k V C T B P A n PR ST li w WK so sp CT SC TA)) (wb := [(a5, .inl (cI, 8, .inl (rI V))), (a6, .inl (cI, 8, .inl (rI C))), (a7, .inl (cI, 8, .inl (rI TT))), (us, .inl (cI, 16, .inl (rI US)))]) hP) hK (j_mid (wa := []) (wc := (wX q cI cZ cJ k V C T B P A n PR ST li w WK so sp CT SC TA)) (wb := [(a5, .inl (cI, 8, .inl (rI V))), (a6, .inl (cI, 8, .inl (rI C))), (a7, .inl (cI, 8, .inl (rI TT))), (us, .inl (cI, 16, .inl (rI US)))]) hD) hS hA hZ hg) rfl rfl hl.1 rfl (lv_room (Nat.le_of_ble_eq_true rfl)) dL_build_172 ⟨(by rw [hR]; first | exact Nat.le_of_ble_eq_true rfl | (dsimp only; omega)), (by rw [hR]; first | exact Nat.le_of_ble_eq_true rfl | (dsimp only; omega))⟩) hP hD hS hA (fun r_26 u_25 H locs hp_27 hP hD hS => ?_)
          have hP : va_P D vwCl ((wX q cI cZ cJ k V C T B P A n PR ST li w WK so sp CT SC TA) ++ [(a5, .inl (cI, 8, .inl (rI V))), (a6, .inl (cI, 8, .inl (rI C))), (a7, .inl (cI, 8, .inl (rI TT))), (us, .inl (cI, 16, .inl (rI US)))]) H := hP
          have hD : va_D A9 ((wX q cI cZ cJ k V C T B P A n PR ST li w WK so sp CT SC TA) ++ [(a5, .inl (cI, 8, .inl (rI V))), (a6, .inl (cI, 8, .inl (rI C))), (a7, .inl (cI, 8, .inl (rI TT))), (us, .inl (cI, 16, .inl (rI US)))]) := hD
          obtain ⟨rfl, hp_27⟩ := hp_27
          have hU1 := hU u_25 hp_27
          refine n_iald hx hb hK hP 16 0 rfl rfl hp_27 (by decide) dL_build_175 ?_
          exact lp_176 (US u_25) (by omega) _ _ hP hD hS ls (lv_sub hl [0, 1, 2, 3, 4, 5, 6, 7, 8, 9, 10, 11, 12] rfl)
        · refine lv_iconst (v := nI 1) hx hb dL_build_150 (ic_1) ?_
          refine lv_iload hx hb dL_build_151 (lv_at hl 0 rfl) ?_
          refine lv_iconst (v := nI 3) hx hb dL_build_153 (ic_3) ?_
          refine lv_ishr hx hb dL_build_154 ?_
          obtain ⟨xv_28, hxv_28⟩ : ∃ x9 : Int32, x9 = x1 >>> (nI 3 &&& 31) := ⟨_, rfl⟩
          refine n_top hxv_28.symm ?_
          refine lv_bipush (v := nI 60) hx hb dL_build_155 (by decide) ?_
          refine k3_i (wa := []) (wc := (wX q cI cZ cJ k V C T B P A n PR ST li w WK so sp CT SC TA)) (wb := [(a5, .inl (cI, 8, .inl (rI V))), (a6, .inl (cI, 8, .inl (rI C))), (a7, .inl (cI, 8, .inl (rI TT))), (us, .inl (cI, 16, .inl (rI US)))]) (va_runS (As := [.int xv_28, .int (nI 60)]) (rest := [.int (nI 1)]) ⟨hx, hb, hml, hown, hts⟩ (c_L_below l hst D q cI cZ cJ k V C T B P A n PR ST li w WK so sp CT SC TA H.size xv_28 60 (⟨by omega, by omega⟩)) (va_cwS 2 hts gL_build_L_below rfl rfl rfl hd_L_below.2 ⟨(by rw [hR]; first | exact Nat.le_of_ble_eq_true rfl | (dsimp only; omega)), (by rw [hR]; first | exact Nat.le_of_ble_eq_true rfl | (dsimp only; omega))⟩) (pre_S (j_pm (wa := []) (wc := (wX q cI cZ cJ k V C T B P A n PR ST li w WK so sp CT SC TA)) (wb := [(a5, .inl (cI, 8, .inl (rI V))), (a6, .inl (cI, 8, .inl (rI C))), (a7, .inl (cI, 8, .inl (rI TT))), (us, .inl (cI, 16, .inl (rI US)))]) hP) hK (j_mid (wa := []) (wc := (wX q cI cZ cJ k V C T B P A n PR ST li w WK so sp CT SC TA)) (wb := [(a5, .inl (cI, 8, .inl (rI V))), (a6, .inl (cI, 8, .inl (rI C))), (a7, .inl (cI, 8, .inl (rI TT))), (us, .inl (cI, 16, .inl (rI US)))]) hD) hS hA hZ hg) rfl rfl hl.1 rfl (lv_room (Nat.le_of_ble_eq_true rfl)) dL_build_157 ⟨(by rw [hR]; first | exact Nat.le_of_ble_eq_true rfl | (dsimp only; omega)), (by rw [hR]; first | exact Nat.le_of_ble_eq_true rfl | (dsimp only; omega))⟩) hP hD hS hA (fun r_30 u_29 H locs hp_31 hP hD hS => ?_)
          have hP : va_P D vwCl ((wX q cI cZ cJ k V C T B P A n PR ST li w WK so sp CT SC TA) ++ [(a5, .inl (cI, 8, .inl (rI V))), (a6, .inl (cI, 8, .inl (rI C))), (a7, .inl (cI, 8, .inl (rI TT))), (us, .inl (cI, 16, .inl (rI US)))]) H := hP
          have hD : va_D A9 ((wX q cI cZ cJ k V C T B P A n PR ST li w WK so sp CT SC TA) ++ [(a5, .inl (cI, 8, .inl (rI V))), (a6, .inl (cI, 8, .inl (rI C))), (a7, .inl (cI, 8, .inl (rI TT))), (us, .inl (cI, 16, .inl (rI US)))]) := hD
          obtain ⟨rfl, hp_31⟩ := hp_31
          have hu60 := hp_31
          refine n_iadd hx hb dL_build_160 ?_
          refine lv_goto (tgt := 176) hx hb dL_build_161 (by decide) ?_
          exact lp_176 (1 + u_29) (by omega) _ _ hP hD hS ls (lv_sub hl [0, 1, 2, 3, 4, 5, 6, 7, 8, 9, 10, 11, 12] rfl)
  refine W.widen (k := 1 + 3 * 0) (n := 16 + 18 * 0) (by omega) (by omega) ?_
  exact lp_111 _ 0 0 V C T A CT TT (Nat.lt_succ_self _) (by omega) (by omega) (Or.inl rfl) (fun i h => absurd h (Nat.not_lt_zero i)) (fun i h => absurd h (Nat.not_lt_zero i)) (fun i j h => absurd h (Nat.not_lt_zero i)) (fun i h => absurd h (Nat.not_lt_zero i)) (fun i _ => hT00 i) hCT00 _ _ hP hD hS ls (lv_sub hl [0, 2, 1, 3, 11, 10, 9, 8, 7, 6, 5, 4] rfl)
theorem hd_L_build : yL_build.cls = RL ∧ yL_build.cls ≠ "java/lang/invoke/MethodHandle" ∧ yL_build.cls ≠ "java/lang/invoke/VarHandle" ∧ (parseMethodDescriptor yL_build.desc).map (fun d => d.parameters.length) = some 8 := by decide +kernel
end
section
/-! THE CLAIM OUT OF ONE WALK OF THE LAW'S BODY. Your part is whole_start (and what it stands on); all else here is the same for every law, but numbers. -/
def R_law : String := "CoinMechanismLaw"
def lw_P (b : Addr) (xs : List Int32) (args : Array Value) (s : State) : Prop := args = #[.ref b] ∧ s.IntsAt b xs ∧ xs.length ≤ 260 ∧ (Jvm.Cond.and given_1 narrow_1).before args s = true
def lw_Q (_ : Array Value) (s : State) (o : Outcome) (t : State) : Prop := o = .returned (some (.int 1)) ∧ Framed s o t [] 600130 7301080
def lw_Z (below : List Frame) (a : Array Value) (s : State) : State → Prop := fun t => ∃ o, t.status = .running ∧ Ended t below o ∧ lw_Q a s o t
/-- the law's own end, with 1 on the stack, nothing written that was there before, its room as the claim has it -/
theorem lw_ret {p : Program} {l : Launch} {e : Env} {s : State} {m : MethodId} {below : List Frame} {meth : Method} {c : Code} {b : Nat} (hx : p.tables.exec = Jvm.exec) (hb : c.code = code) (hr : meth.sig.returnType = ret) (hlocks : meth.locks = false) {pc : Nat} {H : Heap} {ls : Array Slot} (hdg : decode code pc = .ok (.ireturn, 1)) : W p l e room_1 s m #[Value.ref b] below meth c H [] 600130 7301080 (lw_Z below #[Value.ref b] s) (F0 m pc ls [.int 1]) := by
  intro T hT X
  obtain ⟨fs, hret, hrun, hended, hW, hframe⟩ := X.leave (v := some (.int 1)) (hlocks := hlocks) (fun h => by rw [hr] at h; cases h)
  have hmeth' : T.vm.method? m = some meth := X.method'
  refine ⟨T.setFrames fs, ?_, .returned (some (.int 1)), hrun, hended, rfl, ⟨_, rfl⟩, hW, hframe⟩
  jvm_step X.here [X.here.top, hx, hb, hdg, hmeth', hr, ret, narrow_b1]
  (try refine ⟨rfl, ?_⟩); (try refine ⟨rfl, ?_⟩)
  first | (intro acts; rw [hret _ acts rfl rfl rfl]) | rw [hret _ _ rfl rfl rfl]
  exact Steps.refl _
/-- what holds at the law's entry: the machine, the code, the tables' words (any of lw_tbl by 'hts w (by decide +kernel)'), the script of L ints xs at the cell b, what the Statement gives of the start (any of its parts by flat_of_before) -/
def lw_At (p : Program) (s : State) (m : MethodId) (meth : Method) (c : Code) (b L : Nat) (xs : Nat → Int32) : Prop :=
  p.tables.exec = Jvm.exec ∧ c.code = code ∧ meth.sig.returnType = ret ∧ c.maxLocals = 14 ∧ s.vm.findClass R_law = some m.cls ∧ (∀ w ∈ lw_tbl, w.before #[Value.ref b] s = true) ∧ va_X b L xs s s.heap ∧ b < s.heap.size ∧ meth.locks = false ∧ (Jvm.Cond.and given_1 narrow_1).before #[Value.ref b] s = true
end
