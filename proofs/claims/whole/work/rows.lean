section
-- ===== PART A: goes FIRST, ahead of the names: the tables' words, and 'selects' of the private methods out of them =====
/-- a private method of a class that the tables say can be made, by its rows of tables_1 -/
def lw_okq (q : MethodName × Nat) : Prop := (q.1.cls ≠ "java/lang/invoke/MethodHandle" ∧ q.1.cls ≠ "java/lang/invoke/VarHandle") ∧ Cond.instantiable q.1.cls q.2 ∈ tables_1 ∧ Cond.privateMethod q.1 ∈ tables_1 ∧ Cond.instanceMethod q.1 ∈ tables_1
theorem lw_p0 : lw_okq (⟨"CoinMechanism", "waitingOf", "(I)I"⟩, 18) := ⟨⟨by decide +kernel, by decide +kernel⟩, List.mem_of_getElem? (i := 11) (by decide +kernel), List.mem_of_getElem? (i := 89) (by decide +kernel), List.mem_of_getElem? (i := 90) (by decide +kernel)⟩
theorem lw_p1 : lw_okq (⟨"CoinMechanism", "dividesAllValues", "(I)Z"⟩, 18) := ⟨⟨by decide +kernel, by decide +kernel⟩, List.mem_of_getElem? (i := 11) (by decide +kernel), List.mem_of_getElem? (i := 98) (by decide +kernel), List.mem_of_getElem? (i := 99) (by decide +kernel)⟩
theorem lw_p2 : lw_okq (⟨"CoinMechanism", "scoreWays", "(I[I)V"⟩, 18) := ⟨⟨by decide +kernel, by decide +kernel⟩, List.mem_of_getElem? (i := 11) (by decide +kernel), List.mem_of_getElem? (i := 106) (by decide +kernel), List.mem_of_getElem? (i := 107) (by decide +kernel)⟩
theorem lw_p3 : lw_okq (⟨"CoinMechanism", "addKindToWays", "(III)V"⟩, 18) := ⟨⟨by decide +kernel, by decide +kernel⟩, List.mem_of_getElem? (i := 11) (by decide +kernel), List.mem_of_getElem? (i := 114) (by decide +kernel), List.mem_of_getElem? (i := 115) (by decide +kernel)⟩
theorem lw_p4 : lw_okq (⟨"CoinMechanism", "digitOf", "(I)I"⟩, 18) := ⟨⟨by decide +kernel, by decide +kernel⟩, List.mem_of_getElem? (i := 11) (by decide +kernel), List.mem_of_getElem? (i := 118) (by decide +kernel), List.mem_of_getElem? (i := 119) (by decide +kernel)⟩
theorem lw_p5 : lw_okq (⟨"CoinMechanism", "addPackToWays", "(IJI)V"⟩, 18) := ⟨⟨by decide +kernel, by decide +kernel⟩, List.mem_of_getElem? (i := 11) (by decide +kernel), List.mem_of_getElem? (i := 123) (by decide +kernel), List.mem_of_getElem? (i := 124) (by decide +kernel)⟩
theorem lw_p6 : lw_okq (⟨"CoinMechanism", "needsExactMoney", "(I)Z"⟩, 18) := ⟨⟨by decide +kernel, by decide +kernel⟩, List.mem_of_getElem? (i := 11) (by decide +kernel), List.mem_of_getElem? (i := 130) (by decide +kernel), List.mem_of_getElem? (i := 131) (by decide +kernel)⟩
theorem lw_p7 : lw_okq (⟨"CoinMechanism", "scoreOf", "(I)J"⟩, 18) := ⟨⟨by decide +kernel, by decide +kernel⟩, List.mem_of_getElem? (i := 11) (by decide +kernel), List.mem_of_getElem? (i := 137) (by decide +kernel), List.mem_of_getElem? (i := 138) (by decide +kernel)⟩
theorem lw_p8 : lw_okq (⟨"CoinMechanism", "digestOfKinds", "(J)J"⟩, 18) := ⟨⟨by decide +kernel, by decide +kernel⟩, List.mem_of_getElem? (i := 11) (by decide +kernel), List.mem_of_getElem? (i := 150) (by decide +kernel), List.mem_of_getElem? (i := 151) (by decide +kernel)⟩
theorem lw_p9 : lw_okq (⟨"CoinMechanism", "toldOfKind", "(II)I"⟩, 18) := ⟨⟨by decide +kernel, by decide +kernel⟩, List.mem_of_getElem? (i := 11) (by decide +kernel), List.mem_of_getElem? (i := 155) (by decide +kernel), List.mem_of_getElem? (i := 156) (by decide +kernel)⟩
theorem lw_p10 : lw_okq (⟨"java/lang/Throwable", "fillInStackTrace", "(I)Ljava/lang/Throwable;"⟩, 6) := ⟨⟨by decide +kernel, by decide +kernel⟩, List.mem_of_getElem? (i := 206) (by decide +kernel), List.mem_of_getElem? (i := 204) (by decide +kernel), List.mem_of_getElem? (i := 205) (by decide +kernel)⟩
theorem lw_p11 : lw_okq (⟨"CoinMechanism", "hasKindOfValue", "(I)Z"⟩, 18) := ⟨⟨by decide +kernel, by decide +kernel⟩, List.mem_of_getElem? (i := 11) (by decide +kernel), List.mem_of_getElem? (i := 253) (by decide +kernel), List.mem_of_getElem? (i := 254) (by decide +kernel)⟩
theorem lw_p12 : lw_okq (⟨"CoinMechanism", "checkKind", "(I)V"⟩, 18) := ⟨⟨by decide +kernel, by decide +kernel⟩, List.mem_of_getElem? (i := 11) (by decide +kernel), List.mem_of_getElem? (i := 266) (by decide +kernel), List.mem_of_getElem? (i := 267) (by decide +kernel)⟩
theorem lw_p13 : lw_okq (⟨"CoinMechanism", "checkProduct", "(I)V"⟩, 18) := ⟨⟨by decide +kernel, by decide +kernel⟩, List.mem_of_getElem? (i := 11) (by decide +kernel), List.mem_of_getElem? (i := 332) (by decide +kernel), List.mem_of_getElem? (i := 333) (by decide +kernel)⟩
theorem lw_p14 : lw_okq (⟨"CoinMechanism", "foreseeTubes", "()V"⟩, 18) := ⟨⟨by decide +kernel, by decide +kernel⟩, List.mem_of_getElem? (i := 11) (by decide +kernel), List.mem_of_getElem? (i := 358) (by decide +kernel), List.mem_of_getElem? (i := 359) (by decide +kernel)⟩
theorem lw_p15 : lw_okq (⟨"CoinMechanism", "dropWaiting", "()V"⟩, 18) := ⟨⟨by decide +kernel, by decide +kernel⟩, List.mem_of_getElem? (i := 11) (by decide +kernel), List.mem_of_getElem? (i := 362) (by decide +kernel), List.mem_of_getElem? (i := 363) (by decide +kernel)⟩
def lw_privs_1 : List (MethodName × Nat) := [(⟨"CoinMechanism", "waitingOf", "(I)I"⟩, 18), (⟨"CoinMechanism", "dividesAllValues", "(I)Z"⟩, 18), (⟨"CoinMechanism", "scoreWays", "(I[I)V"⟩, 18), (⟨"CoinMechanism", "addKindToWays", "(III)V"⟩, 18), (⟨"CoinMechanism", "digitOf", "(I)I"⟩, 18), (⟨"CoinMechanism", "addPackToWays", "(IJI)V"⟩, 18), (⟨"CoinMechanism", "needsExactMoney", "(I)Z"⟩, 18), (⟨"CoinMechanism", "scoreOf", "(I)J"⟩, 18), (⟨"CoinMechanism", "digestOfKinds", "(J)J"⟩, 18), (⟨"CoinMechanism", "toldOfKind", "(II)I"⟩, 18), (⟨"java/lang/Throwable", "fillInStackTrace", "(I)Ljava/lang/Throwable;"⟩, 6), (⟨"CoinMechanism", "hasKindOfValue", "(I)Z"⟩, 18), (⟨"CoinMechanism", "checkKind", "(I)V"⟩, 18), (⟨"CoinMechanism", "checkProduct", "(I)V"⟩, 18), (⟨"CoinMechanism", "foreseeTubes", "()V"⟩, 18), (⟨"CoinMechanism", "dropWaiting", "()V"⟩, 18)]
theorem lw_r1 : ∀ q ∈ lw_privs_1, lw_okq q := List.forall_mem_cons.mpr ⟨lw_p0, List.forall_mem_cons.mpr ⟨lw_p1, List.forall_mem_cons.mpr ⟨lw_p2, List.forall_mem_cons.mpr ⟨lw_p3, List.forall_mem_cons.mpr ⟨lw_p4, List.forall_mem_cons.mpr ⟨lw_p5, List.forall_mem_cons.mpr ⟨lw_p6, List.forall_mem_cons.mpr ⟨lw_p7, List.forall_mem_cons.mpr ⟨lw_p8, List.forall_mem_cons.mpr ⟨lw_p9, List.forall_mem_cons.mpr ⟨lw_p10, List.forall_mem_cons.mpr ⟨lw_p11, List.forall_mem_cons.mpr ⟨lw_p12, List.forall_mem_cons.mpr ⟨lw_p13, List.forall_mem_cons.mpr ⟨lw_p14, List.forall_mem_cons.mpr ⟨lw_p15, fun _ h => absurd h List.not_mem_nil⟩⟩⟩⟩⟩⟩⟩⟩⟩⟩⟩⟩⟩⟩⟩⟩
theorem lw_p16 : lw_okq (⟨"CoinMechanism", "payOut", "(J)V"⟩, 18) := ⟨⟨by decide +kernel, by decide +kernel⟩, List.mem_of_getElem? (i := 11) (by decide +kernel), List.mem_of_getElem? (i := 366) (by decide +kernel), List.mem_of_getElem? (i := 367) (by decide +kernel)⟩
theorem lw_p17 : lw_okq (⟨"CoinMechanism", "coinsOfKindInWay", "(JI)I"⟩, 18) := ⟨⟨by decide +kernel, by decide +kernel⟩, List.mem_of_getElem? (i := 11) (by decide +kernel), List.mem_of_getElem? (i := 370) (by decide +kernel), List.mem_of_getElem? (i := 371) (by decide +kernel)⟩
theorem lw_p18 : lw_okq (⟨"CoinMechanism", "countSale", "(II)V"⟩, 18) := ⟨⟨by decide +kernel, by decide +kernel⟩, List.mem_of_getElem? (i := 11) (by decide +kernel), List.mem_of_getElem? (i := 375) (by decide +kernel), List.mem_of_getElem? (i := 376) (by decide +kernel)⟩
theorem lw_p19 : lw_okq (⟨"CoinMechanismModel", "fail", "(I)I"⟩, 19) := ⟨⟨by decide +kernel, by decide +kernel⟩, List.mem_of_getElem? (i := 447) (by decide +kernel), List.mem_of_getElem? (i := 519) (by decide +kernel), List.mem_of_getElem? (i := 520) (by decide +kernel)⟩
theorem lw_p20 : lw_okq (⟨"CoinMechanismModel", "isKind", "(I)Z"⟩, 19) := ⟨⟨by decide +kernel, by decide +kernel⟩, List.mem_of_getElem? (i := 447) (by decide +kernel), List.mem_of_getElem? (i := 527) (by decide +kernel), List.mem_of_getElem? (i := 528) (by decide +kernel)⟩
theorem lw_p21 : lw_okq (⟨"CoinMechanismModel", "isProduct", "(I)Z"⟩, 19) := ⟨⟨by decide +kernel, by decide +kernel⟩, List.mem_of_getElem? (i := 447) (by decide +kernel), List.mem_of_getElem? (i := 562) (by decide +kernel), List.mem_of_getElem? (i := 563) (by decide +kernel)⟩
theorem lw_p22 : lw_okq (⟨"CoinMechanismModel", "creditNow", "()I"⟩, 19) := ⟨⟨by decide +kernel, by decide +kernel⟩, List.mem_of_getElem? (i := 447) (by decide +kernel), List.mem_of_getElem? (i := 574) (by decide +kernel), List.mem_of_getElem? (i := 575) (by decide +kernel)⟩
theorem lw_p23 : lw_okq (⟨"CoinMechanismModel", "pay", "(I)Z"⟩, 19) := ⟨⟨by decide +kernel, by decide +kernel⟩, List.mem_of_getElem? (i := 447) (by decide +kernel), List.mem_of_getElem? (i := 593) (by decide +kernel), List.mem_of_getElem? (i := 594) (by decide +kernel)⟩
theorem lw_p24 : lw_okq (⟨"CoinMechanismModel", "tabulate", "(I)V"⟩, 19) := ⟨⟨by decide +kernel, by decide +kernel⟩, List.mem_of_getElem? (i := 447) (by decide +kernel), List.mem_of_getElem? (i := 597) (by decide +kernel), List.mem_of_getElem? (i := 598) (by decide +kernel)⟩
theorem lw_p25 : lw_okq (⟨"CoinMechanismModel", "inAll", "(I)I"⟩, 19) := ⟨⟨by decide +kernel, by decide +kernel⟩, List.mem_of_getElem? (i := 447) (by decide +kernel), List.mem_of_getElem? (i := 601) (by decide +kernel), List.mem_of_getElem? (i := 602) (by decide +kernel)⟩
theorem lw_p26 : lw_okq (⟨"CoinMechanismModel", "partOf", "(II)I"⟩, 19) := ⟨⟨by decide +kernel, by decide +kernel⟩, List.mem_of_getElem? (i := 447) (by decide +kernel), List.mem_of_getElem? (i := 605) (by decide +kernel), List.mem_of_getElem? (i := 606) (by decide +kernel)⟩
theorem lw_p27 : lw_okq (⟨"CoinMechanismModel", "told", "(II)I"⟩, 19) := ⟨⟨by decide +kernel, by decide +kernel⟩, List.mem_of_getElem? (i := 447) (by decide +kernel), List.mem_of_getElem? (i := 625) (by decide +kernel), List.mem_of_getElem? (i := 626) (by decide +kernel)⟩
theorem lw_p28 : lw_okq (⟨"CoinMechanismModel", "unitNow", "()I"⟩, 19) := ⟨⟨by decide +kernel, by decide +kernel⟩, List.mem_of_getElem? (i := 447) (by decide +kernel), List.mem_of_getElem? (i := 645) (by decide +kernel), List.mem_of_getElem? (i := 646) (by decide +kernel)⟩
def lw_privs_2 : List (MethodName × Nat) := [(⟨"CoinMechanism", "payOut", "(J)V"⟩, 18), (⟨"CoinMechanism", "coinsOfKindInWay", "(JI)I"⟩, 18), (⟨"CoinMechanism", "countSale", "(II)V"⟩, 18), (⟨"CoinMechanismModel", "fail", "(I)I"⟩, 19), (⟨"CoinMechanismModel", "isKind", "(I)Z"⟩, 19), (⟨"CoinMechanismModel", "isProduct", "(I)Z"⟩, 19), (⟨"CoinMechanismModel", "creditNow", "()I"⟩, 19), (⟨"CoinMechanismModel", "pay", "(I)Z"⟩, 19), (⟨"CoinMechanismModel", "tabulate", "(I)V"⟩, 19), (⟨"CoinMechanismModel", "inAll", "(I)I"⟩, 19), (⟨"CoinMechanismModel", "partOf", "(II)I"⟩, 19), (⟨"CoinMechanismModel", "told", "(II)I"⟩, 19), (⟨"CoinMechanismModel", "unitNow", "()I"⟩, 19)]
theorem lw_r2 : ∀ q ∈ lw_privs_2, lw_okq q := List.forall_mem_cons.mpr ⟨lw_p16, List.forall_mem_cons.mpr ⟨lw_p17, List.forall_mem_cons.mpr ⟨lw_p18, List.forall_mem_cons.mpr ⟨lw_p19, List.forall_mem_cons.mpr ⟨lw_p20, List.forall_mem_cons.mpr ⟨lw_p21, List.forall_mem_cons.mpr ⟨lw_p22, List.forall_mem_cons.mpr ⟨lw_p23, List.forall_mem_cons.mpr ⟨lw_p24, List.forall_mem_cons.mpr ⟨lw_p25, List.forall_mem_cons.mpr ⟨lw_p26, List.forall_mem_cons.mpr ⟨lw_p27, List.forall_mem_cons.mpr ⟨lw_p28, fun _ h => absurd h List.not_mem_nil⟩⟩⟩⟩⟩⟩⟩⟩⟩⟩⟩⟩⟩
def lw_privs : List (MethodName × Nat) := lw_privs_1 ++ (lw_privs_2)
def lw_tbl : List Cond := k2_sels lw_privs ++ tables_1
theorem lw_privs_ok : ∀ q ∈ lw_privs, lw_okq q := by
  show ∀ q ∈ lw_privs_1 ++ (lw_privs_2), lw_okq q
  exact List.forall_mem_append.mpr ⟨lw_r1, lw_r2⟩
/-- the streams that the claim lets the run draw from -/
abbrev lw_cs : List Choice := [Jvm.Choice.named "NaN.bits"]
theorem lw_bits : nanBits ∈ lw_cs := by first | decide | exact List.mem_cons_self | simp [lw_cs, nanBits]
end
section
/-! ===== BEGIN words of one list among another's, by their places ===== -/
theorem goodIn_r {big : List Cond} (ws : List Cond) (ps : List Nat) (hp : ws = ps.filterMap (fun i => big[i]?)) (h : ws.all goodWord = true) : GoodIn big ws := by
  intro w hw
  have h1 := List.all_eq_true.mp h w hw
  rw [hp] at hw
  obtain ⟨i, -, hi⟩ := List.mem_filterMap.mp hw
  have hm : w ∈ big := by first | exact List.mem_of_getElem? hi | exact List.getElem?_mem hi
  exact ⟨hm, good_of_word h1⟩
theorem goodIn_app {big a b : List Cond} (ha : GoodIn big a) (hb : GoodIn big b) : GoodIn big (a ++ b) := fun w h => (List.mem_append.mp h).elim (ha w) (hb w)
theorem goodIn_ca {big a b : List Cond} {c : Cond} (ha : GoodIn big (c :: a)) (hb : GoodIn big b) : GoodIn big (c :: (a ++ b)) := fun w h => (List.mem_cons.mp h).elim (fun e => ha w (List.mem_cons.mpr (Or.inl e))) (fun h => (List.mem_append.mp h).elim (fun h => ha w (List.mem_cons.mpr (Or.inr h))) (hb w))
theorem goodIn_sub {big ws : List Cond} (hm : ∀ w ∈ ws, w ∈ big) (h : ws.all goodWord = true) : GoodIn big ws := fun w hw => ⟨hm w hw, good_of_word (List.all_eq_true.mp h w hw)⟩
/-! ===== END ===== -/

/-! ===== BEGIN exceptions that leave a method, and their catching by the caller (launches without stack traces) ===== -/
section VXA
/-! The laws vx_back, vx_callV, vx_callS, vx_callSW, vx_throw0, vx_throwS follow proofs of the library, with one case more: JvmDerived/Free/Laws.lean (Back.of_free), Shelf42/LK1.lean (callV, callS), Shelf/KitTraced.lean (throwNew0V, throwNewS). -/
/-- where a method has thrown q: the class by its name, the cell, what was written, the world -/
def vx_T (XC : String → State → State → Prop) (st : State) (q : Addr) (t : State) (mc ms : Nat) (free : Addr → Prop) : Prop :=
  ∃ (E : String) (ce : Cell) (L : List Loc), XC E st t ∧ t.heap[q]? = some ce ∧ ce.vm = .none ∧ st.vm.findClass E = some ce.cls ∧ st.WarmedH t.vm ∧ st.sameButNew ({ t with vm := st.vm } : State) L mc ms ∧ ∀ z ∈ L, free z.base
def vx_Q (Qc : Array Value → State → Outcome → State → Prop) (XC : String → State → State → Prop) (mc ms : Nat) (free : Addr → Prop) : Array Value → State → Outcome → State → Prop := fun a st o t =>
  (Qc a st o t ∧ ∃ L, FrameEnd st o t L mc ms ∧ ∀ q ∈ L, free q.base) ∨ ∃ q, o = .threw q ∧ vx_T XC st q t mc ms free
/-- a callee that returns or throws -/
def vx_Met (l : Launch) (y : MethodName) (ws : List Cond) (rm : Room) (Pc : Array Value → State → Prop) (Qc : Array Value → State → Outcome → State → Prop) (XC : String → State → State → Prop) (mc ms : Nat) (free : Addr → Prop) : Prop :=
  MetFree l y (headSpec ws rm) Pc (fun _ _ _ _ _ => True) (vx_Q Qc XC mc ms free)
def vx_Post (XC : String → State → State → Prop) (mc ms : Nat) (free : Addr → Prop) : Pt → Array Value → Addr → Pt → Prop := fun A a q B =>
  ∃ (g : JFrame) (mk : MethodId) (t : State) (L : List Loc) (E : String) (ce : Cell), B.U.heap = t.heap ∧ B.U.vm = t.vm ∧ XC E (A.U.calling g mk a) t ∧ t.heap[q]? = some ce ∧ ce.vm = .none ∧ A.U.vm.findClass E = some ce.cls ∧ B.locs = A.locs ++ L ∧ (∀ z ∈ L, free z.base) ∧ B.cells = A.cells + mc ∧ B.slots = A.slots + ms
def vx_Back (l : Launch) (R : Room) (p : Program) (e : Env) (below : List Frame) (s : State) (sargs : Array Value) (y : MethodName) (len W9 : Nat)
    (Pre : Pt → Array Value → Prop) (Post : Pt → Array Value → Option Value → Pt → Prop) (PostX : Pt → Array Value → Addr → Pt → Prop) : Prop :=
  ∀ (m : MethodId) (meth : Method) (c : Code) (A : Pt) (g : JFrame) (ig : Instr) (mk : MethodId) (a : Array Value),
    Stand p l e R s m sargs below meth c A.U A.locs A.cells A.slots → g.method = m → g.locals.size = c.maxLocals → decode c.code g.pc = .ok (ig, len) →
    2 * g.monitorRoom + (g.stack.map fun v => v.category).sum ≤ W9 → A.U.methodNamed? y = some mk → Pre A a →
    (∃ (v : Option Value) (B : Pt), Stand p l e R s m sargs below meth c B.U B.locs B.cells B.slots ∧ Post A a v B ∧
      Steps p.tables e below (doInvoke e (A.U.setTop g) [] mk a).1 (B.U.setTop { g with pc := g.pc + len, stack := v.toList ++ g.stack })) ∨
    (∃ (q : Addr) (B : Pt), Stand p l e R s m sargs below meth c B.U B.locs B.cells B.slots ∧ PostX A a q B ∧
      Steps p.tables e below (doInvoke e (A.U.setTop g) [] mk a).1 ((B.U.setTop g).pushFrame (.throwing q)))
section Payer
variable {l : Launch} {R : Room} {p : Program} {e : Env} {below : List Frame} {s : State} {sargs : Array Value} {y : MethodName} {len W9 : Nat}
theorem vx_back {ws : List Cond} {rm : Room} {Pc : Array Value → State → Prop} {Qc : Array Value → State → Outcome → State → Prop} {XC : String → State → State → Prop} {mc ms : Nat} {free : Addr → Prop} {bytes : ByteArray} {maxL : Nat} {ret : Option FieldType}
    (hM : vx_Met l y ws rm Pc Qc XC mc ms free) (hblind : FrameBlind Pc) (hrc : rm.cells = mc) (hrs : rm.slots = ms)
    (hframes : rm.frames + 1 ≤ R.frames) (hlocals : W9 + (maxL + 11) + rm.locals ≤ R.locals)
    (hws : ∀ w ∈ ws, ∀ a' U, s.WarmedH U.vm → w.before a' U = true) (hcode : Cond.code y bytes maxL ret ∈ ws) (hinit : ∀ a' U, s.WarmedH U.vm → (Cond.initialized y.cls).before a' U = true) :
    vx_Back l R p e below s sargs y len W9 (PreOf R mc ms Pc) (PostOf Qc mc ms free) (vx_Post XC mc ms free) := by
  intro m meth c A g ig mk a X hg hsize hdg hW hn hp
  have h1 : (headSpec ws rm).pre.before a A.U = true := atoms_intro fun w hw => hws w hw _ _ X.warmed
  have h2 : (Cond.code y bytes maxL ret).before a A.U = true := hws _ hcode _ _ X.warmed
  have h3 : (Cond.initialized y.cls).before a A.U = true := hinit _ _ X.warmed
  have h4 : A.cells + (headSpec ws rm).room.cells ≤ R.cells := by rw [show (headSpec ws rm).room.cells = mc from hrc]; exact hp.1
  have h5 : A.slots + (headSpec ws rm).room.slots ≤ R.slots := by rw [show (headSpec ws rm).room.slots = ms from hrs]; exact hp.2.1
  have hPc : Pc a (A.U.calling g mk a) := hblind _ _ _ _ hp.2.2
  obtain ⟨U, Ls, c0, s0⟩ := A
  dsimp only [Pt.U, Pt.locs, Pt.cells, Pt.slots] at h1 h2 h3 h4 h5 X hn hPc ⊢
  obtain ⟨methY, cY, hmY, hcY, -, hlY, -, -, -, -⟩ := Cond.code_spec hn h2
  obtain ⟨kY, hkY, -⟩ := className_of_methodNamed hn
  have hinitY : kY.init = .initialized := Cond.initialized_spec (findClass_of_methodNamed hn) hkY h3
  have h : At U g.method c below := by rw [hg]; exact X.here
  have hlocals9 : W9 + (maxL + 11) + (headSpec ws rm).room.locals ≤ R.locals := hlocals
  have happ : (headSpec ws rm).appliesLoose y e.platform (U.calling g mk a) = true :=
    Spec.appliesLoose_calling (g := g) h hdg hn hkY hinitY
      (X.room_calling (g := g) (R' := (headSpec ws rm).room) hsize hmY hcY hframes (by rw [hlY]; omega) h4 h5) h1
  obtain ⟨mid, hmid⟩ := h.above
  have hfr : (U.setTop g).frames = (.java g :: mid) ++ below := by rw [State.frames_setTop' g h.top, hmid]; rfl
  obtain ⟨o, s₂, hsteps, -, hend, hq⟩ := Steps.callFree hM p X.admits X.cas X.clock (acts := []) hfr happ hPc trivial
  have hq' : vx_Q Qc XC mc ms free a (U.calling g mk a) o s₂ := hq
  rw [State.frames_setTop' g h.top] at hend
  obtain ⟨g₀, hg0⟩ := Option.isSome_iff_exists.mp h.top
  obtain ⟨r, hr⟩ := State.topJava?_eq_some.mp hg0
  have hr' : (({ U with heap := s₂.heap, slotsUsed := s₂.slotsUsed } : State).setVm s₂.vm).frames = .java g₀ :: r := hr
  rcases hq' with ⟨hqc, L, hfe, hL⟩ | ⟨q, rfl, E, ce, L, hx, hce, hcv, hcl, hW₂, hsm, hL⟩
  · obtain ⟨⟨v, rfl⟩, hW₂, e2, q2, q3, q4, q5, q6⟩ := id hfe
    have e3 : s₂ = ({ (U.calling g mk a).setFrames s₂.frames with heap := s₂.heap, slotsUsed := s₂.slotsUsed } : State).setVm s₂.vm := by
      have : s₂ = ({ s₂ with vm := (U.calling g mk a).vm } : State).setVm s₂.vm := rfl
      rw [e2] at this
      exact this
    obtain ⟨c₂, i₂, len₂, hc₂, hd₂, hf₂⟩ := hend
    have hW' : U.WarmedH s₂.vm := hW₂
    have hcc : c₂ = c := by
      have h1 : s₂.code? g.method = U.code? g.method := by
        rw [State.code?_eq, State.code?_eq, hW'.alike.method?]
      exact Option.some.inj (hc₂.symm.trans (h1.trans h.code))
    subst hcc
    have hlen : len₂ = len := by rw [hdg] at hd₂; cases hd₂; rfl
    subst hlen
    have hs₂ : s₂ = (({ U with heap := s₂.heap, slotsUsed := s₂.slotsUsed } : State).setVm s₂.vm).setTop { g with pc := g.pc + len₂, stack := v.toList ++ g.stack } := by
      refine e3.trans ?_
      rw [hf₂, State.calling_eq h.top, State.setFrames_setFrames, State.setTop_of_frames _ hr', hr]
      rfl
    have hsame : U.sameButNew ({ U with heap := s₂.heap, slotsUsed := s₂.slotsUsed } : State) L mc ms := by
      refine ⟨?_, q2, q3, q4, q5, q6⟩
      obtain ⟨t, ht, -⟩ := State.frames_cons hr
      show ({ U with heap := s₂.heap, slotsUsed := s₂.slotsUsed } : State) = { U.setFrames U.frames with heap := s₂.heap, slotsUsed := s₂.slotsUsed }
      rw [State.setFrames_self ht]
    subst hg
    refine Or.inl ⟨v, ⟨(({ U with heap := s₂.heap, slotsUsed := s₂.slotsUsed } : State).setVm s₂.vm), Ls ++ L, c0 + mc, s0 + ms⟩,
      ⟨X.admits, X.cas, X.clock, X.frames, X.room, X.hears, X.method, X.code, (X.here.setHeapUsed s₂.heap s₂.slotsUsed).setVm hW'.alike, X.tail, State.WarmedH.trans X.warmed hW', X.limits, X.bytes, X.same.trans (hsame.setVm s.vm)⟩,
      ⟨g, mk, s₂, L, rfl, rfl, hqc, rfl, hL, rfl, rfl⟩, ?_⟩
    show Steps p.tables e below _ ((({ U with heap := s₂.heap, slotsUsed := s₂.slotsUsed } : State).setVm s₂.vm).setTop { g with pc := g.pc + len₂, stack := v.toList ++ g.stack })
    rw [← hs₂]
    exact hsteps
  · obtain ⟨e2, q2, q3, q4, q5, q6⟩ := id hsm
    have e3 : s₂ = ({ (U.calling g mk a).setFrames s₂.frames with heap := s₂.heap, slotsUsed := s₂.slotsUsed } : State).setVm s₂.vm := by
      have : s₂ = ({ s₂ with vm := (U.calling g mk a).vm } : State).setVm s₂.vm := rfl
      rw [e2] at this
      exact this
    have hf₂ : s₂.frames = .throwing q :: .java g :: U.frames.tail := hend
    have hW' : U.WarmedH s₂.vm := hW₂
    have hs₂ : s₂ = ((({ U with heap := s₂.heap, slotsUsed := s₂.slotsUsed } : State).setVm s₂.vm).setTop g).pushFrame (.throwing q) := by
      refine e3.trans ?_
      rw [hf₂, State.calling_eq h.top, State.setFrames_setFrames, State.pushFrame, State.frames_setTop _ hr', State.setTop_of_frames _ hr', State.setFrames_setFrames, hr]
      rfl
    have hsame : U.sameButNew ({ U with heap := s₂.heap, slotsUsed := s₂.slotsUsed } : State) L mc ms := by
      refine ⟨?_, q2, q3, q4, q5, q6⟩
      obtain ⟨t, ht, -⟩ := State.frames_cons hr
      show ({ U with heap := s₂.heap, slotsUsed := s₂.slotsUsed } : State) = { U.setFrames U.frames with heap := s₂.heap, slotsUsed := s₂.slotsUsed }
      rw [State.setFrames_self ht]
    subst hg
    refine Or.inr ⟨q, ⟨(({ U with heap := s₂.heap, slotsUsed := s₂.slotsUsed } : State).setVm s₂.vm), Ls ++ L, c0 + mc, s0 + ms⟩,
      ⟨X.admits, X.cas, X.clock, X.frames, X.room, X.hears, X.method, X.code, (X.here.setHeapUsed s₂.heap s₂.slotsUsed).setVm hW'.alike, X.tail, State.WarmedH.trans X.warmed hW', X.limits, X.bytes, X.same.trans (hsame.setVm s.vm)⟩,
      ⟨g, mk, s₂, L, E, ce, rfl, rfl, hx, hce, hcv, hcl, rfl, hL, rfl, rfl⟩, ?_⟩
    show Steps p.tables e below _ (((({ U with heap := s₂.heap, slotsUsed := s₂.slotsUsed } : State).setVm s₂.vm).setTop g).pushFrame (.throwing q))
    rw [← hs₂]
    exact hsteps
end Payer
section Calls
variable {p : Program} {l : Launch} {e : Env} {R : Room} {s : State} {m : MethodId} {args : Array Value} {below : List Frame} {meth : Method} {c : Code} {T : State} {locs : List Loc} {cells slots : Nat}
theorem vx_callV (X : Stand p l e R s m args below meth c T locs cells slots) (hexec : p.tables.exec = Jvm.exec) {own C : String} {index : Nat} {y : MethodName} {bytes : ByteArray} {maxL : Nat} {ret : Option FieldType}
    (hown : s.vm.findClass own = some m.cls) (hlink : (Cond.methodLink own index y).before args s = true) (hinst : (Cond.instanceMethod y).before args s = true) (hsel : (Cond.selects C y y).before args s = true)
    (hcode : (Cond.code y bytes maxL ret).before args s = true) (hy : y.cls ≠ "java/lang/invoke/MethodHandle" ∧ y.cls ≠ "java/lang/invoke/VarHandle")
    {W9 : Nat} {Pre : Pt → Array Value → Prop} {Post : Pt → Array Value → Option Value → Pt → Prop} {PostX : Pt → Array Value → Addr → Pt → Prop} (hK : vx_Back l R p e below s args y 3 W9 Pre Post PostX)
    {b : Addr} {cellB : Cell} (hcell : T.heap[b]? = some cellB) (hobj : cellB.vm.isStatics = false) (hcls : s.vm.findClass C = some cellB.cls)
    {g : JFrame} (hg : g.method = m) (hsize : g.locals.size = c.maxLocals) {argsL rest : List Value} (hlen : ∀ sig, parseMethodDescriptor y.desc = some sig → argsL.length = sig.parameters.length)
    (hstack : g.stack = argsL.reverse ++ .ref b :: rest) (hW : 2 * g.monitorRoom + (rest.map fun v => v.category).sum ≤ W9) (hdg : decode c.code g.pc = .ok (.invokevirtual index, 3))
    (hpre : ∀ vm₁, s.WarmedH vm₁ → Pre ⟨T.setVm vm₁, locs, cells, slots⟩ (Value.ref b :: argsL).toArray) :
    (∃ (v : Option Value) (vm₁ : Vm) (B : Pt), s.WarmedH vm₁ ∧ Stand p l e R s m args below meth c B.U B.locs B.cells B.slots ∧ Post ⟨T.setVm vm₁, locs, cells, slots⟩ (Value.ref b :: argsL).toArray v B ∧
      ∀ target, Steps p.tables e below (B.U.setTop { g with pc := g.pc + 3, stack := v.toList ++ rest }) target → Steps p.tables e below (T.setTop g) target) ∨
    (∃ (q : Addr) (vm₁ : Vm) (B : Pt), s.WarmedH vm₁ ∧ Stand p l e R s m args below meth c B.U B.locs B.cells B.slots ∧ PostX ⟨T.setVm vm₁, locs, cells, slots⟩ (Value.ref b :: argsL).toArray q B ∧
      Steps p.tables e below (T.setTop g) ((B.U.setTop { g with stack := rest }).pushFrame (.throwing q))) := by
  obtain ⟨mk, methM, hnamed, hmethM, hstM, habM⟩ := Cond.instanceMethod_spec hinst
  obtain ⟨methM', cM, hmethM', -, -, -, -, -, -, hsigM⟩ := Cond.code_spec hnamed hcode
  cases hmethM.symm.trans hmethM'
  obtain ⟨c2, r2, m2, q1, q2, q3, q4, kP, hkP, hkPi⟩ := Cond.selects_spec hsel
  cases hcls.symm.trans q1
  cases (State.methodFound?_of_named hnamed hy).symm.trans q2
  cases hnamed.symm.trans q3
  have hselP : selectMethod e.platform s.vm cellB.cls mk = .method mk := by rw [Launch.admits_selectMethod X.admits]; exact q4
  obtain ⟨vm₁, X₁, hstep₁⟩ := X.invokevirtual hexec hown hlink hnamed hmethM hstM hkP hkPi hy (a := b) (cell := cellB) hcell
    (fun z h => by rw [h] at hobj; cases hobj) hselP hmethM habM hkP hkPi (g := g) hg (argsL := argsL) (rest := rest) (hlen _ hsigM) hstack hdg
  rcases hK m meth c ⟨T.setVm vm₁, locs, cells, slots⟩ { g with stack := rest } (.invokevirtual index) mk (Value.ref b :: argsL).toArray X₁ hg hsize hdg hW (X₁.named hnamed) (hpre vm₁ X₁.warmed) with ⟨v, B, X', hpost, hsteps⟩ | ⟨q, B, X', hpost, hsteps⟩
  · exact Or.inl ⟨v, vm₁, B, X₁.warmed, X', hpost, fun target h => hstep₁ _ fun acts => by rw [doInvoke_state]; exact hsteps.trans h⟩
  · exact Or.inr ⟨q, vm₁, B, X₁.warmed, X', hpost, hstep₁ _ fun acts => by rw [doInvoke_state]; exact hsteps⟩
theorem vx_callS (X : Stand p l e R s m args below meth c T locs cells slots) (hexec : p.tables.exec = Jvm.exec) {own : String} {index : Nat} {y : MethodName} {bytes : ByteArray} {maxL : Nat} {ret : Option FieldType}
    (hown : s.vm.findClass own = some m.cls) (hlink : (Cond.methodLink own index y).before args s = true) (hstat : (Cond.static y).before args s = true) (hinit : (Cond.initialized y.cls).before args s = true)
    (hcode : (Cond.code y bytes maxL ret).before args s = true) (hy : y.cls ≠ "java/lang/invoke/MethodHandle" ∧ y.cls ≠ "java/lang/invoke/VarHandle")
    {W9 : Nat} {Pre : Pt → Array Value → Prop} {Post : Pt → Array Value → Option Value → Pt → Prop} {PostX : Pt → Array Value → Addr → Pt → Prop} (hK : vx_Back l R p e below s args y 3 W9 Pre Post PostX)
    {g : JFrame} (hg : g.method = m) (hsize : g.locals.size = c.maxLocals) {argsL rest : List Value} (hlen : ∀ sig, parseMethodDescriptor y.desc = some sig → argsL.length = sig.parameters.length)
    (hstack : g.stack = argsL.reverse ++ rest) (hW : 2 * g.monitorRoom + (rest.map fun v => v.category).sum ≤ W9) (hdg : decode c.code g.pc = .ok (.invokestatic index, 3))
    (hpre : ∀ vm₁, s.WarmedH vm₁ → Pre ⟨T.setVm vm₁, locs, cells, slots⟩ argsL.toArray) :
    (∃ (v : Option Value) (vm₁ : Vm) (B : Pt), s.WarmedH vm₁ ∧ Stand p l e R s m args below meth c B.U B.locs B.cells B.slots ∧ Post ⟨T.setVm vm₁, locs, cells, slots⟩ argsL.toArray v B ∧
      ∀ target, Steps p.tables e below (B.U.setTop { g with pc := g.pc + 3, stack := v.toList ++ rest }) target → Steps p.tables e below (T.setTop g) target) ∨
    (∃ (q : Addr) (vm₁ : Vm) (B : Pt), s.WarmedH vm₁ ∧ Stand p l e R s m args below meth c B.U B.locs B.cells B.slots ∧ PostX ⟨T.setVm vm₁, locs, cells, slots⟩ argsL.toArray q B ∧
      Steps p.tables e below (T.setTop g) ((B.U.setTop { g with stack := rest }).pushFrame (.throwing q))) := by
  obtain ⟨mk, hnamed⟩ := Cond.code_named hcode
  obtain ⟨methM, cM, hmethM, -, -, -, -, -, -, hsigM⟩ := Cond.code_spec hnamed hcode
  have hstatic : methM.isStatic = true := Cond.static_spec hnamed hmethM hstat
  obtain ⟨kP, hkP, -⟩ := className_of_methodNamed hnamed
  have hinitP : kP.init = .initialized := Cond.initialized_spec (findClass_of_methodNamed hnamed) hkP hinit
  obtain ⟨vm₁, X₁, hstep₁⟩ := X.invokestatic hexec hown hlink hnamed hmethM hstatic hkP hinitP hy (g := g) hg (argsL := argsL) (rest := rest) (hlen _ hsigM) hstack hdg
  rcases hK m meth c ⟨T.setVm vm₁, locs, cells, slots⟩ { g with stack := rest } (.invokestatic index) mk argsL.toArray X₁ hg hsize hdg hW (X₁.named hnamed) (hpre vm₁ X₁.warmed) with ⟨v, B, X', hpost, hsteps⟩ | ⟨q, B, X', hpost, hsteps⟩
  · exact Or.inl ⟨v, vm₁, B, X₁.warmed, X', hpost, fun target h => hstep₁ _ fun acts => by rw [doInvoke_state]; exact hsteps.trans h⟩
  · exact Or.inr ⟨q, vm₁, B, X₁.warmed, X', hpost, hstep₁ _ fun acts => by rw [doInvoke_state]; exact hsteps⟩
end Calls
theorem vx_cls {s : State} {T : State} {vm₁ : Vm} {E : String} {k : ClassId} (hW : s.WarmedH vm₁) (h : (T.setVm vm₁).vm.findClass E = some k) : s.vm.findClass E = some k := by
  have h1 : vm₁.findClass E = some k := h
  rw [hW.alike.findClass] at h1
  exact h1
/-- the method's frame g, with q thrown over it -/
def vx_W (p : Program) (l : Launch) (e : Env) (R : Room) (s : State) (m : MethodId) (args : Array Value) (below : List Frame) (meth : Method) (c : Code) (H : Heap) (locs : List Loc) (cells slots : Nat) (Q : State → Prop) (g : JFrame) (q : Addr) : Prop :=
  ∀ T : State, T.heap = H → Stand p l e R s m args below meth c T locs cells slots → ∃ t, Steps p.tables e below ((T.setTop g).pushFrame (.throwing q)) t ∧ Q t
def vx_Run (p : Program) (l : Launch) (e : Env) (R : Room) (s : State) (m : MethodId) (args : Array Value) (below : List Frame) (meth : Method) (c : Code) (H : Heap) (locs : List Loc) (cells slots mc ms : Nat) (g : JFrame) (rest : List Value) (Qa : State → Outcome → State → Prop) (XC : String → State → State → Prop) (free : Addr → Prop) : Prop :=
  ∀ T : State, T.heap = H → Stand p l e R s m args below meth c T locs cells slots →
    (∃ (v : Option Value) (st₀ t T' : State) (L : List Loc), st₀.heap = H ∧ Stand p l e R s m args below meth c T' (locs ++ L) (cells + mc) (slots + ms) ∧ (∀ q ∈ L, free q.base) ∧ T'.heap = t.heap ∧ T'.vm = t.vm ∧ Qa st₀ (.returned v) t ∧
      Goes p e below T g T' { g with pc := g.pc + 3, stack := v.toList ++ rest }) ∨
    (∃ (q : Addr) (st₀ t T' : State) (L : List Loc) (E : String) (ce : Cell), st₀.heap = H ∧ Stand p l e R s m args below meth c T' (locs ++ L) (cells + mc) (slots + ms) ∧ (∀ z ∈ L, free z.base) ∧ T'.heap = t.heap ∧ T'.vm = t.vm ∧ XC E st₀ t ∧ t.heap[q]? = some ce ∧ ce.vm = .none ∧ s.vm.findClass E = some ce.cls ∧
      Steps p.tables e below (T.setTop g) ((T'.setTop { g with stack := rest }).pushFrame (.throwing q)))
def vx_X {S : Type} (px : S → Prop) (B : String → S → State → Prop) (A : Nat → Prop) : String → State → State → Prop := fun E st t => ∃ u : S, px u ∧ B E u t ∧ va_F A st t
section Runs
variable {p : Program} {l : Launch} {e : Env} {R : Room} {s : State} {m : MethodId} {args : Array Value} {below : List Frame} {meth : Method} {c : Code} {H : Heap} {locs : List Loc} {cells slots : Nat}
variable {y : MethodName} {bytes cc : ByteArray} {maxL nL mc ms n index : Nat} {ret : Option FieldType} {ws : List Cond} {rm : Room} {Pc : Array Value → State → Prop} {Qc : Array Value → State → Outcome → State → Prop} {XC : String → State → State → Prop} {free : Addr → Prop} {Ts : List Cond} {own C : String} {b : Addr} {As rest : List Value} {g : JFrame}
theorem vx_callBack (cb : CallB R s args own index y bytes maxL ret ws rm mc ms n) (hM : vx_Met l y ws rm Pc Qc XC mc ms free) (hbl : FrameBlind Pc) : vx_Back l R p e below s args y 3 8 (PreOf R mc ms Pc) (PostOf Qc mc ms free) (vx_Post XC mc ms free) := by
  obtain ⟨hrc, hrs, hfr, hlo, hws, hcw, -, hini, -⟩ := cb
  exact vx_back (bytes := bytes) (maxL := maxL) (ret := ret) hM hbl hrc hrs hfr hlo hws hcw (fun a' U hW => word_at hW (Or.inl (by first | rfl | simp [Cond.onTables, Cond.keeps, Cond.steady])) hini)
theorem vx_runV (S : CallFix p m c cc nL s args Ts own) (hM : vx_Met l y ws rm Pc Qc XC mc ms free) (cw : CallW R s args own C index y bytes maxL ret ws rm mc ms n) (hp : PreV s H C b Pc As)
    (hg : g.method = m) (hn : As.length = n) (hsize : g.locals.size = nL) (hstack : g.stack = As.reverse ++ .ref b :: rest) (hW : 2 * g.monitorRoom + (rest.map fun v => v.category).sum ≤ 8) (hdg : decode cc g.pc = .ok (.invokevirtual index, 3)) (hf : cells + mc ≤ R.cells ∧ slots + ms ≤ R.slots) :
    vx_Run p l e R s m args below meth c H locs cells slots mc ms g rest (Qc (Value.ref b :: As).toArray) XC free := by
  have hK : vx_Back l R p e below s args y 3 8 (PreOf R mc ms Pc) (PostOf Qc mc ms free) (vx_Post XC mc ms free) := vx_callBack cw.1 hM hp.1
  obtain ⟨⟨-, -, -, -, -, -, hcode, -, hy, hlen, hl⟩, hin, hse⟩ := cw
  obtain ⟨hx, hb, hml, ho, -⟩ := S
  obtain ⟨-, ⟨cellB, hcB, hoB, hclB⟩, hPc⟩ := hp
  intro T hT X
  rcases vx_callV X hx (C := C) (bytes := bytes) (maxL := maxL) (ret := ret) ho hl hin hse hcode hy hK (by rw [hT]; exact hcB) hoB hclB hg (hsize.trans hml.symm) (argsL := As) (rest := rest) (fun sig h => hn.trans (hlen sig h)) hstack hW (by rw [hb]; exact hdg)
    (fun vm₁ hW₁ => ⟨hf.1, hf.2, hPc (T.setVm vm₁) hT hW₁⟩) with ⟨v, vm₁, ⟨U', l2, c2, s2⟩, hW₁, X', ⟨g', mk, t, L, e1, e2, hq, h1, hL, h2, h3⟩, st⟩ | ⟨q, vm₁, ⟨U', l2, c2, s2⟩, hW₁, X', ⟨g', mk, t, L, E, ce, e1, e2, hq, hce, hcv, hcl, h1, hL, h2, h3⟩, st⟩
  · dsimp only [Pt.U, Pt.locs, Pt.cells, Pt.slots] at X' e1 e2 h1 h2 h3 st
    subst h1; subst h2; subst h3
    exact Or.inl ⟨v, (T.setVm vm₁).calling g' mk (Value.ref b :: As).toArray, t, U', L, hT, X', hL, e1, e2, hq, st⟩
  · dsimp only [Pt.U, Pt.locs, Pt.cells, Pt.slots] at X' e1 e2 h1 h2 h3 st hcl
    subst h1; subst h2; subst h3
    exact Or.inr ⟨q, (T.setVm vm₁).calling g' mk (Value.ref b :: As).toArray, t, U', L, E, ce, hT, X', hL, e1, e2, hq, hce, hcv, vx_cls hW₁ hcl, st⟩
theorem vx_runS (S : CallFix p m c cc nL s args Ts own) (hM : vx_Met l y ws rm Pc Qc XC mc ms free) (cw : CallB R s args own index y bytes maxL ret ws rm mc ms n ∧ (Cond.static y).before args s = true) (hp : PreS s H Pc As)
    (hg : g.method = m) (hn : As.length = n) (hsize : g.locals.size = nL) (hstack : g.stack = As.reverse ++ rest) (hW : 2 * g.monitorRoom + (rest.map fun v => v.category).sum ≤ 8) (hdg : decode cc g.pc = .ok (.invokestatic index, 3)) (hf : cells + mc ≤ R.cells ∧ slots + ms ≤ R.slots) :
    vx_Run p l e R s m args below meth c H locs cells slots mc ms g rest (Qc As.toArray) XC free := by
  have hK : vx_Back l R p e below s args y 3 8 (PreOf R mc ms Pc) (PostOf Qc mc ms free) (vx_Post XC mc ms free) := vx_callBack cw.1 hM hp.1
  obtain ⟨⟨-, -, -, -, -, -, hcode, hini, hy, hlen, hl⟩, hstt⟩ := cw
  obtain ⟨hx, hb, hml, ho, -⟩ := S
  intro T hT X
  rcases vx_callS X hx (bytes := bytes) (maxL := maxL) (ret := ret) ho hl hstt hini hcode hy hK hg (hsize.trans hml.symm) (argsL := As) (rest := rest) (fun sig h => hn.trans (hlen sig h)) hstack hW (by rw [hb]; exact hdg)
    (fun vm₁ hW₁ => ⟨hf.1, hf.2, hp.2 (T.setVm vm₁) hT hW₁⟩) with ⟨v, vm₁, ⟨U', l2, c2, s2⟩, hW₁, X', ⟨g', mk, t, L, e1, e2, hq, h1, hL, h2, h3⟩, st⟩ | ⟨q, vm₁, ⟨U', l2, c2, s2⟩, hW₁, X', ⟨g', mk, t, L, E, ce, e1, e2, hq, hce, hcv, hcl, h1, hL, h2, h3⟩, st⟩
  · dsimp only [Pt.U, Pt.locs, Pt.cells, Pt.slots] at X' e1 e2 h1 h2 h3 st
    subst h1; subst h2; subst h3
    exact Or.inl ⟨v, (T.setVm vm₁).calling g' mk As.toArray, t, U', L, hT, X', hL, e1, e2, hq, st⟩
  · dsimp only [Pt.U, Pt.locs, Pt.cells, Pt.slots] at X' e1 e2 h1 h2 h3 st hcl
    subst h1; subst h2; subst h3
    exact Or.inr ⟨q, (T.setVm vm₁).calling g' mk As.toArray, t, U', L, E, ce, hT, X', hL, e1, e2, hq, hce, hcv, vx_cls hW₁ hcl, st⟩
end Runs
section Rows
variable {p : Program} {l : Launch} {e : Env} {R : Room} {s : State} {m : MethodId} {args : Array Value} {below : List Frame} {meth : Method} {c : Code} {H : Heap} {locs : List Loc} {cells slots : Nat} {Q : State → Prop}
variable {mc ms : Nat} {free : Addr → Prop} {A0 A1 : Nat → Prop} {H0 : Heap} {a : Array Value} {pc : Nat} {ls : Array Slot} {st0 rest : List Value}
theorem vx_keep {st₀ t T' : State} {L : List Loc} (h0 : st₀.heap = H) (e1 : T'.heap = t.heap) (hS : va_S A0 H0 H locs) (hA : ∀ q, q < H.size → A1 q → A0 q) (hf : ∀ q, free q → A0 q) (hL : ∀ q ∈ L, free q.base) (hF : va_F A1 st₀ t) :
    H.size ≤ T'.heap.size ∧ (∀ q : Nat, q < H.size → ¬ A1 q → T'.heap[q]? = H[q]?) ∧ va_S A0 H0 T'.heap (locs ++ L) := by
  obtain ⟨hz, hk⟩ := hF
  rw [h0] at hz hk
  exact ⟨by rw [e1]; exact hz, fun q h1 h2 => by rw [e1]; exact hk q h1 h2,
    ⟨Nat.le_trans hS.1 (by rw [e1]; exact hz), fun q h1 h2 => by rw [e1, hk q (Nat.lt_of_lt_of_le h1 hS.1) (fun z => h2 (hA q (Nat.lt_of_lt_of_le h1 hS.1) z))]; exact hS.2.1 q h1 h2, fun q hq => by
      rcases List.mem_append.mp hq with h | h
      · exact hS.2.2 q h
      · exact hf _ (hL q h)⟩⟩
theorem vx_calli {S SX : Type} {post : Int32 → S → Prop} {px : SX → Prop} {B : S → State → Prop} {BX : String → SX → State → Prop} {AX : Nat → Prop} (hr : vx_Run p l e R s m args below meth c H locs cells slots mc ms (F0 m pc ls st0) rest (va_Qi post B A1 a) (vx_X px BX AX) free) (hS : va_S A0 H0 H locs) (hA : ∀ q, q < H.size → A1 q → A0 q) (hf : ∀ q, free q → A0 q) (hAX : ∀ q, q < H.size → AX q → A0 q)
    (kx : ∀ (E : String) (ce : Cell) (q9 : Addr) (u : SX) (t : State) (H1 : Heap) (locs1 : List Loc), t.heap = H1 → s.vm.Alike t.vm → px u → BX E u t → H.size ≤ H1.size → (∀ q : Nat, q < H.size → ¬ AX q → H1[q]? = H[q]?) → va_S A0 H0 H1 locs1 → H1[q9]? = some ce → ce.vm = .none → s.vm.findClass E = some ce.cls → vx_W p l e R s m args below meth c H1 locs1 (cells + mc) (slots + ms) Q (F0 m pc ls rest) q9)
    (kk : ∀ (r : Int32) (u : S) (t : State) (H1 : Heap) (locs1 : List Loc), t.heap = H1 → s.vm.Alike t.vm → post r u → B u t → H.size ≤ H1.size → (∀ q : Nat, q < H.size → ¬ A1 q → H1[q]? = H[q]?) → va_S A0 H0 H1 locs1 → W p l e R s m args below meth c H1 locs1 (cells + mc) (slots + ms) Q (F0 m (pc + 3) ls (.int r :: rest))) : W p l e R s m args below meth c H locs cells slots Q (F0 m pc ls st0) := by
  intro T hT X
  rcases hr T hT X with ⟨v, st₀, t, T', L, h0, X', hL, e1, e2, ⟨⟨r, u, hv, hp, hb⟩, hF⟩, st⟩ | ⟨q, st₀, t, T', L, E, ce, h0, X', hL, e1, e2, ⟨u, hp, hb, hF⟩, hce, hcv, hcl, st⟩
  · cases hv
    obtain ⟨k1, k2, k3⟩ := vx_keep h0 e1 hS hA hf hL hF
    obtain ⟨t2, a1, b1⟩ := kk r u t T'.heap (locs ++ L) e1.symm (by rw [← e2]; exact X'.warmed.alike) hp hb k1 k2 k3 T' rfl X'
    exact ⟨t2, st t2 a1, b1⟩
  · obtain ⟨k1, k2, k3⟩ := vx_keep h0 e1 hS hAX hf hL hF
    obtain ⟨t2, a1, b1⟩ := kx E ce q u t T'.heap (locs ++ L) e1.symm (by rw [← e2]; exact X'.warmed.alike) hp hb k1 k2 k3 (by rw [e1]; exact hce) hcv hcl T' rfl X'
    exact ⟨t2, st.trans a1, b1⟩
theorem vx_calll {S SX : Type} {post : Int64 → S → Prop} {px : SX → Prop} {B : S → State → Prop} {BX : String → SX → State → Prop} {AX : Nat → Prop} (hr : vx_Run p l e R s m args below meth c H locs cells slots mc ms (F0 m pc ls st0) rest (va_Ql post B A1 a) (vx_X px BX AX) free) (hS : va_S A0 H0 H locs) (hA : ∀ q, q < H.size → A1 q → A0 q) (hf : ∀ q, free q → A0 q) (hAX : ∀ q, q < H.size → AX q → A0 q)
    (kx : ∀ (E : String) (ce : Cell) (q9 : Addr) (u : SX) (t : State) (H1 : Heap) (locs1 : List Loc), t.heap = H1 → s.vm.Alike t.vm → px u → BX E u t → H.size ≤ H1.size → (∀ q : Nat, q < H.size → ¬ AX q → H1[q]? = H[q]?) → va_S A0 H0 H1 locs1 → H1[q9]? = some ce → ce.vm = .none → s.vm.findClass E = some ce.cls → vx_W p l e R s m args below meth c H1 locs1 (cells + mc) (slots + ms) Q (F0 m pc ls rest) q9)
    (kk : ∀ (r : Int64) (u : S) (t : State) (H1 : Heap) (locs1 : List Loc), t.heap = H1 → s.vm.Alike t.vm → post r u → B u t → H.size ≤ H1.size → (∀ q : Nat, q < H.size → ¬ A1 q → H1[q]? = H[q]?) → va_S A0 H0 H1 locs1 → W p l e R s m args below meth c H1 locs1 (cells + mc) (slots + ms) Q (F0 m (pc + 3) ls (.long r :: rest))) : W p l e R s m args below meth c H locs cells slots Q (F0 m pc ls st0) := by
  intro T hT X
  rcases hr T hT X with ⟨v, st₀, t, T', L, h0, X', hL, e1, e2, ⟨⟨r, u, hv, hp, hb⟩, hF⟩, st⟩ | ⟨q, st₀, t, T', L, E, ce, h0, X', hL, e1, e2, ⟨u, hp, hb, hF⟩, hce, hcv, hcl, st⟩
  · cases hv
    obtain ⟨k1, k2, k3⟩ := vx_keep h0 e1 hS hA hf hL hF
    obtain ⟨t2, a1, b1⟩ := kk r u t T'.heap (locs ++ L) e1.symm (by rw [← e2]; exact X'.warmed.alike) hp hb k1 k2 k3 T' rfl X'
    exact ⟨t2, st t2 a1, b1⟩
  · obtain ⟨k1, k2, k3⟩ := vx_keep h0 e1 hS hAX hf hL hF
    obtain ⟨t2, a1, b1⟩ := kx E ce q u t T'.heap (locs ++ L) e1.symm (by rw [← e2]; exact X'.warmed.alike) hp hb k1 k2 k3 (by rw [e1]; exact hce) hcv hcl T' rfl X'
    exact ⟨t2, st.trans a1, b1⟩
theorem vx_callf {S SX : Type} {post : UInt32 → S → Prop} {px : SX → Prop} {B : S → State → Prop} {BX : String → SX → State → Prop} {AX : Nat → Prop} (hr : vx_Run p l e R s m args below meth c H locs cells slots mc ms (F0 m pc ls st0) rest (va_Qf post B A1 a) (vx_X px BX AX) free) (hS : va_S A0 H0 H locs) (hA : ∀ q, q < H.size → A1 q → A0 q) (hf : ∀ q, free q → A0 q) (hAX : ∀ q, q < H.size → AX q → A0 q)
    (kx : ∀ (E : String) (ce : Cell) (q9 : Addr) (u : SX) (t : State) (H1 : Heap) (locs1 : List Loc), t.heap = H1 → s.vm.Alike t.vm → px u → BX E u t → H.size ≤ H1.size → (∀ q : Nat, q < H.size → ¬ AX q → H1[q]? = H[q]?) → va_S A0 H0 H1 locs1 → H1[q9]? = some ce → ce.vm = .none → s.vm.findClass E = some ce.cls → vx_W p l e R s m args below meth c H1 locs1 (cells + mc) (slots + ms) Q (F0 m pc ls rest) q9)
    (kk : ∀ (r : UInt32) (u : S) (t : State) (H1 : Heap) (locs1 : List Loc), t.heap = H1 → s.vm.Alike t.vm → post r u → B u t → H.size ≤ H1.size → (∀ q : Nat, q < H.size → ¬ A1 q → H1[q]? = H[q]?) → va_S A0 H0 H1 locs1 → W p l e R s m args below meth c H1 locs1 (cells + mc) (slots + ms) Q (F0 m (pc + 3) ls (.float r :: rest))) : W p l e R s m args below meth c H locs cells slots Q (F0 m pc ls st0) := by
  intro T hT X
  rcases hr T hT X with ⟨v, st₀, t, T', L, h0, X', hL, e1, e2, ⟨⟨r, u, hv, hp, hb⟩, hF⟩, st⟩ | ⟨q, st₀, t, T', L, E, ce, h0, X', hL, e1, e2, ⟨u, hp, hb, hF⟩, hce, hcv, hcl, st⟩
  · cases hv
    obtain ⟨k1, k2, k3⟩ := vx_keep h0 e1 hS hA hf hL hF
    obtain ⟨t2, a1, b1⟩ := kk r u t T'.heap (locs ++ L) e1.symm (by rw [← e2]; exact X'.warmed.alike) hp hb k1 k2 k3 T' rfl X'
    exact ⟨t2, st t2 a1, b1⟩
  · obtain ⟨k1, k2, k3⟩ := vx_keep h0 e1 hS hAX hf hL hF
    obtain ⟨t2, a1, b1⟩ := kx E ce q u t T'.heap (locs ++ L) e1.symm (by rw [← e2]; exact X'.warmed.alike) hp hb k1 k2 k3 (by rw [e1]; exact hce) hcv hcl T' rfl X'
    exact ⟨t2, st.trans a1, b1⟩
theorem vx_calld {S SX : Type} {post : UInt64 → S → Prop} {px : SX → Prop} {B : S → State → Prop} {BX : String → SX → State → Prop} {AX : Nat → Prop} (hr : vx_Run p l e R s m args below meth c H locs cells slots mc ms (F0 m pc ls st0) rest (va_Qd post B A1 a) (vx_X px BX AX) free) (hS : va_S A0 H0 H locs) (hA : ∀ q, q < H.size → A1 q → A0 q) (hf : ∀ q, free q → A0 q) (hAX : ∀ q, q < H.size → AX q → A0 q)
    (kx : ∀ (E : String) (ce : Cell) (q9 : Addr) (u : SX) (t : State) (H1 : Heap) (locs1 : List Loc), t.heap = H1 → s.vm.Alike t.vm → px u → BX E u t → H.size ≤ H1.size → (∀ q : Nat, q < H.size → ¬ AX q → H1[q]? = H[q]?) → va_S A0 H0 H1 locs1 → H1[q9]? = some ce → ce.vm = .none → s.vm.findClass E = some ce.cls → vx_W p l e R s m args below meth c H1 locs1 (cells + mc) (slots + ms) Q (F0 m pc ls rest) q9)
    (kk : ∀ (r : UInt64) (u : S) (t : State) (H1 : Heap) (locs1 : List Loc), t.heap = H1 → s.vm.Alike t.vm → post r u → B u t → H.size ≤ H1.size → (∀ q : Nat, q < H.size → ¬ A1 q → H1[q]? = H[q]?) → va_S A0 H0 H1 locs1 → W p l e R s m args below meth c H1 locs1 (cells + mc) (slots + ms) Q (F0 m (pc + 3) ls (.double r :: rest))) : W p l e R s m args below meth c H locs cells slots Q (F0 m pc ls st0) := by
  intro T hT X
  rcases hr T hT X with ⟨v, st₀, t, T', L, h0, X', hL, e1, e2, ⟨⟨r, u, hv, hp, hb⟩, hF⟩, st⟩ | ⟨q, st₀, t, T', L, E, ce, h0, X', hL, e1, e2, ⟨u, hp, hb, hF⟩, hce, hcv, hcl, st⟩
  · cases hv
    obtain ⟨k1, k2, k3⟩ := vx_keep h0 e1 hS hA hf hL hF
    obtain ⟨t2, a1, b1⟩ := kk r u t T'.heap (locs ++ L) e1.symm (by rw [← e2]; exact X'.warmed.alike) hp hb k1 k2 k3 T' rfl X'
    exact ⟨t2, st t2 a1, b1⟩
  · obtain ⟨k1, k2, k3⟩ := vx_keep h0 e1 hS hAX hf hL hF
    obtain ⟨t2, a1, b1⟩ := kx E ce q u t T'.heap (locs ++ L) e1.symm (by rw [← e2]; exact X'.warmed.alike) hp hb k1 k2 k3 (by rw [e1]; exact hce) hcv hcl T' rfl X'
    exact ⟨t2, st.trans a1, b1⟩
theorem vx_callv {S SX : Type} {post : S → Prop} {px : SX → Prop} {B : S → State → Prop} {BX : String → SX → State → Prop} {AX : Nat → Prop} (hr : vx_Run p l e R s m args below meth c H locs cells slots mc ms (F0 m pc ls st0) rest (va_Qv post B A1 a) (vx_X px BX AX) free) (hS : va_S A0 H0 H locs) (hA : ∀ q, q < H.size → A1 q → A0 q) (hf : ∀ q, free q → A0 q) (hAX : ∀ q, q < H.size → AX q → A0 q)
    (kx : ∀ (E : String) (ce : Cell) (q9 : Addr) (u : SX) (t : State) (H1 : Heap) (locs1 : List Loc), t.heap = H1 → s.vm.Alike t.vm → px u → BX E u t → H.size ≤ H1.size → (∀ q : Nat, q < H.size → ¬ AX q → H1[q]? = H[q]?) → va_S A0 H0 H1 locs1 → H1[q9]? = some ce → ce.vm = .none → s.vm.findClass E = some ce.cls → vx_W p l e R s m args below meth c H1 locs1 (cells + mc) (slots + ms) Q (F0 m pc ls rest) q9)
    (kk : ∀ (u : S) (t : State) (H1 : Heap) (locs1 : List Loc), t.heap = H1 → s.vm.Alike t.vm → post u → B u t → H.size ≤ H1.size → (∀ q : Nat, q < H.size → ¬ A1 q → H1[q]? = H[q]?) → va_S A0 H0 H1 locs1 → W p l e R s m args below meth c H1 locs1 (cells + mc) (slots + ms) Q (F0 m (pc + 3) ls (rest))) : W p l e R s m args below meth c H locs cells slots Q (F0 m pc ls st0) := by
  intro T hT X
  rcases hr T hT X with ⟨v, st₀, t, T', L, h0, X', hL, e1, e2, ⟨⟨u, hv, hp, hb⟩, hF⟩, st⟩ | ⟨q, st₀, t, T', L, E, ce, h0, X', hL, e1, e2, ⟨u, hp, hb, hF⟩, hce, hcv, hcl, st⟩
  · cases hv
    obtain ⟨k1, k2, k3⟩ := vx_keep h0 e1 hS hA hf hL hF
    obtain ⟨t2, a1, b1⟩ := kk u t T'.heap (locs ++ L) e1.symm (by rw [← e2]; exact X'.warmed.alike) hp hb k1 k2 k3 T' rfl X'
    exact ⟨t2, st t2 a1, b1⟩
  · obtain ⟨k1, k2, k3⟩ := vx_keep h0 e1 hS hAX hf hL hF
    obtain ⟨t2, a1, b1⟩ := kx E ce q u t T'.heap (locs ++ L) e1.symm (by rw [← e2]; exact X'.warmed.alike) hp hb k1 k2 k3 (by rw [e1]; exact hce) hcv hcl T' rfl X'
    exact ⟨t2, st.trans a1, b1⟩
/-- caught by the row x of this method's table; the rows ahead don't take it -/
theorem vx_catch {own name : String} {E : String} {ce : Cell} {q : Addr} (hown : s.vm.findClass own = some m.cls) (pre : List ExceptionTableEntry) (x : ExceptionTableEntry) (suf : List ExceptionTableEntry) (hsplit : c.exceptionTable.toList = pre ++ x :: suf)
    (hpass : ∀ z ∈ pre, covers z pc = false ∨ (z.catchType ≠ 0 ∧ ∃ nm : String, (Cond.classLink own z.catchType nm).before args s = true ∧ va_Nc E nm s)) (hx : covers x pc = true) (h0 : x.catchType ≠ 0)
    (hlink : (Cond.classLink own x.catchType name).before args s = true) (hcast : (Cond.castable E name).before args s = true) (hcell : H[q]? = some ce) (hv : ce.vm = .none) (hcl : s.vm.findClass E = some ce.cls)
    (kk : W p l e R s m args below meth c H locs cells slots Q (F0 m x.handlerPc ls [.ref q])) : vx_W p l e R s m args below meth c H locs cells slots Q (F0 m pc ls rest) q := by
  intro T hT X
  have hpl : e.platform.magicAccessors = ({} : Platform).magicAccessors := by rw [X.admits.platform]
  obtain ⟨c3, c4, hc3, hc4, hasg⟩ := Cond.castable_spec hcast
  cases Option.some.inj (hc3.symm.trans hcl)
  obtain ⟨c5, hc5, hcl5⟩ := Cond.classLink_spec hown hlink e.platform hpl
  cases Option.some.inj (hc4.symm.trans hc5)
  obtain ⟨vm', X', st⟩ := X.thenCaughtThrough q (g := F0 m pc ls rest) rfl (Steps.refl _) (by rw [hT]; exact hcell) (by rw [hv]; rfl) (by obtain ⟨k9, h9, -⟩ := Vm.findClass_spec hcl; exact ⟨k9, h9⟩) pre x suf hsplit
    (fun z hz => by
      rcases hpass z hz with h | ⟨hz0, nm, hl1, hn1⟩
      · exact Or.inl h
      · obtain ⟨c6, hc6, hcl6⟩ := Cond.classLink_spec hown hl1 e.platform hpl
        obtain ⟨a8, b8, h1, h2, h3⟩ := hn1
        cases Option.some.inj (h1.symm.trans hcl)
        cases Option.some.inj (h2.symm.trans hc6)
        exact Or.inr ⟨hz0, _, hcl6, h3⟩) hx (Or.inr ⟨h0, c4, hcl5, hasg⟩)
  obtain ⟨t, a1, b1⟩ := kk (T.setVm vm') hT X'
  exact ⟨t, st.trans a1, b1⟩
end Rows
section Ends
variable {p : Program} {l : Launch} {e : Env} {R : Room} {s : State} {m : MethodId} {args : Array Value} {below : List Frame} {meth : Method} {c : Code} {H : Heap} {locs : List Loc} {cells slots : Nat} {Q : State → Prop}
variable {mc ms : Nat} {free : Addr → Prop} {A0 A1 : Nat → Prop} {H0 : Heap} {a : Array Value} {ls : Array Slot} {st0 rest : List Value}
variable {Qc : Array Value → State → Outcome → State → Prop} {XC : String → State → State → Prop}
/-- what a body that may throw owes at its end -/
def vx_MQ (below : List Frame) (Qc : Array Value → State → Outcome → State → Prop) (XC : String → State → State → Prop) (a : Array Value) (s : State) (mc ms : Nat) (free : Addr → Prop) : State → Prop := fun t =>
  ∃ o, t.status = .running ∧ Ended t below o ∧ vx_Q Qc XC mc ms free a s o t
theorem vx_ret {g : JFrame} {mc ms : Nat} (k : W p l e R s m args below meth c H locs cells slots (MQ below Qc args s mc ms free) g) : W p l e R s m args below meth c H locs cells slots (vx_MQ below Qc XC args s mc ms free) g := by
  intro T hT X
  obtain ⟨t, a1, o, b1, b2, b3, b4⟩ := k T hT X
  exact ⟨t, a1, o, b1, b2, Or.inl ⟨b3, b4⟩⟩
/-- not caught here: it goes on to the caller -/
theorem vx_widen {g : JFrame} {q : Addr} {k n : Nat} (h1 : cells ≤ k) (h2 : slots ≤ n) (kk : vx_W p l e R s m args below meth c H locs k n Q g q) : vx_W p l e R s m args below meth c H locs cells slots Q g q := fun T hT X => kk T hT (stand_widen X h1 h2)
theorem vx_out {pc : Nat} {E : String} {ce : Cell} {q : Addr} {mc ms : Nat} (hout : ∀ x ∈ c.exceptionTable.toList, covers x pc = false) (hlocks : meth.locks = false) (hcell : H[q]? = some ce) (hv : ce.vm = .none) (hcl : s.vm.findClass E = some ce.cls)
    (hx : ∀ t : State, t.heap = H → s.vm.Alike t.vm → XC E s t) (hf : ∀ z ∈ locs, free z.base) (hc : cells ≤ mc) (hs : slots ≤ ms) :
    vx_W p l e R s m args below meth c H locs cells slots (vx_MQ below Qc XC args s mc ms free) (F0 m pc ls rest) q := by
  intro T hT X
  obtain ⟨st1, hrun, hend, hW, hsm⟩ := X.leaveThrown q (g := F0 m pc ls rest) rfl rfl rfl hout hlocks
  have hcell9 : (T.setFrames (.throwing q :: below)).heap[q]? = some ce := by
    show T.heap[q]? = some ce
    rw [hT]; exact hcell
  exact ⟨_, st1, .threw q, hrun, hend, Or.inr ⟨q, rfl, E, ce, locs, hx _ hT hW.alike, hcell9, hv, hcl, hW, hsm.mono hc hs, hf⟩⟩
theorem vx_frame {U : State} {k n : Nat} (h : s.sameButNew ({ U with vm := s.vm } : State) locs k n) : s.heap.size ≤ U.heap.size ∧ ∀ q : Nat, q < s.heap.size → (∀ z ∈ locs, z.base ≠ q) → U.heap[q]? = s.heap[q]? := by
  obtain ⟨-, h2, -, -, -, h6⟩ := h
  refine ⟨h2, fun q hq hz => ?_⟩
  obtain ⟨c9, e1, e2, e3, e4⟩ := h6 q _ (Array.getElem?_eq_getElem hq)
  have hs : c9.slots = (s.heap[q]).slots := Array.ext_getElem? fun i => e4 i fun hm => hz _ hm rfl
  have h9 : c9 = s.heap[q] := by
    rw [hs] at e2
    exact e2
  have e5 : U.heap[q]? = some c9 := e1
  rw [e5, h9, Array.getElem?_eq_getElem hq]
/-- the words of a throw but the four that speak of the heap -/
def vx_no (w : Cond) : Bool := decide (w ≠ .isRef (.static Bundle.tN "UNASSIGNED_STACK" Bundle.steD)) && decide (w ≠ .isRef (.static Bundle.tN "SUPPRESSED_SENTINEL" Bundle.listD)) && decide (w ≠ .laysStatic Bundle.tN "UNASSIGNED_STACK" Bundle.steD) && decide (w ≠ .laysStatic Bundle.tN "SUPPRESSED_SENTINEL" Bundle.listD)
def vx_at0 (own : String) (ic : Nat) (X : String) (names : List String) : List Cond := (Bundle.ownAtoms0 own ic X names).filter vx_no
def vx_atS (own : String) (ic : Nat) (X : String) (names : List String) : List Cond := (Bundle.ownAtoms own ic X names).filter vx_no
/-- a word that the tables alone decide, or a good one -/
def vx_ot (w : Cond) : Bool := w.onTables || goodWord w
theorem vx_ot_at {args a' : Array Value} {s U : State} {w : Cond} (hW : s.WarmedH U.vm) (hvm : s.vm = U.vm) (hg : vx_ot w = true) (h : w.before args s = true) : w.before a' U = true := by
  simp only [vx_ot, Bool.or_eq_true] at hg
  rcases hg with hg | hg
  · exact va_tabs hg hvm h
  · exact word_at hW (good_of_word hg) h
/-- a list's words: the good ones out of the method's own list, the others by premises of their own -/
theorem vx_hat {args : Array Value} {s : State} {L B : List Cond} (h1 : ∀ w ∈ L.filter goodWord, w.before args s = true) (h2 : ∀ w ∈ L.filter (fun w => !goodWord w), w ∈ B) (h3 : ∀ w ∈ B, w.before args s = true) : ∀ w ∈ L, w.before args s = true := by
  intro w hw
  by_cases g : goodWord w = true
  · exact h1 w (List.mem_filter.mpr ⟨hw, g⟩)
  · refine h3 w (h2 w (List.mem_filter.mpr ⟨hw, ?_⟩))
    show (!goodWord w) = true
    cases hgw : goodWord w
    · rfl
    · exact absurd hgw g
theorem vx_c {args : Array Value} {s : State} {w : Cond} {B : List Cond} (h : w.before args s = true) (t : ∀ w ∈ B, w.before args s = true) : ∀ w' ∈ w :: B, w'.before args s = true := fun w' h' => (List.mem_cons.mp h').elim (fun e => by rw [e]; exact h) (t w')
theorem vx_n {args : Array Value} {s : State} : ∀ w ∈ ([] : List Cond), w.before args s = true := fun _ h => nomatch h
theorem vx_own {args : Array Value} {s : State} {L : List Cond} (h1 : ∀ w ∈ L.filter vx_no, w.before args s = true)
    (hU : (Cond.isRef (.static Bundle.tN "UNASSIGNED_STACK" Bundle.steD)).before args s = true) (hN : (Cond.isRef (.static Bundle.tN "SUPPRESSED_SENTINEL" Bundle.listD)).before args s = true)
    (lU : (Cond.laysStatic Bundle.tN "UNASSIGNED_STACK" Bundle.steD).before args s = true) (lN : (Cond.laysStatic Bundle.tN "SUPPRESSED_SENTINEL" Bundle.listD).before args s = true) : ∀ w ∈ L, w.before args s = true := by
  intro w hw
  by_cases e1 : w = .isRef (.static Bundle.tN "UNASSIGNED_STACK" Bundle.steD)
  · rw [e1]; exact hU
  · by_cases e2 : w = .isRef (.static Bundle.tN "SUPPRESSED_SENTINEL" Bundle.listD)
    · rw [e2]; exact hN
    · by_cases e3 : w = .laysStatic Bundle.tN "UNASSIGNED_STACK" Bundle.steD
      · rw [e3]; exact lU
      · by_cases e4 : w = .laysStatic Bundle.tN "SUPPRESSED_SENTINEL" Bundle.listD
        · rw [e4]; exact lN
        · exact h1 w (List.mem_filter.mpr ⟨hw, by unfold vx_no; rw [decide_eq_true e1, decide_eq_true e2, decide_eq_true e3, decide_eq_true e4]; rfl⟩)
/-- where a static field lies, its class's statics cell in H -/
def vx_L (C n d : String) (A : Nat → Prop) (U : State) (H : Heap) : Prop := ∃ (c : ClassId) (k : Class) (i : Nat) (f : Field) (a : Nat) (cell : Cell), U.vm.findClass C = some c ∧ U.fieldFound? C n d = some (c, k, i, f) ∧ f.isStatic = true ∧ k.statics = some a ∧ H[a]? = some cell ∧ cell.vm.isStatics = true ∧ cell.cls = c ∧ f.slot < cell.slots.size ∧ k.staticTypes[f.slot]? = some f.type ∧ ¬ A a
theorem vx_L.moved {C n d : String} {A : Nat → Prop} {u U : State} {H : Heap} (hvm : u.vm.Alike U.vm) (h : vx_L C n d A u H) : vx_L C n d A U H := by
  obtain ⟨c, k, i, f, a, cell, h1, h2, h3, h4, h5, h6, h7, h8, h9, h10⟩ := h
  obtain ⟨k', hi', he⟩ := State.fieldFound?_setVm hvm h2
  exact ⟨c, k', i, f, a, cell, by rw [hvm.findClass]; exact h1, hi', h3, by rw [he]; exact h4, h5, h6, h7, h8, by rw [he]; exact h9, h10⟩
theorem vx_L.kept {C n d : String} {A : Nat → Prop} {U : State} {H H1 : Heap} (h : vx_L C n d A U H) (hq : ∀ a : Nat, a < H.size → ¬ A a → H1[a]? = H[a]?) : vx_L C n d A U H1 := by
  obtain ⟨c, k, i, f, a, cell, h1, h2, h3, h4, h5, h6, h7, h8, h9, h10⟩ := h
  exact ⟨c, k, i, f, a, cell, h1, h2, h3, h4, by rw [hq a (Array.getElem?_eq_some_iff.mp h5).1 h10]; exact h5, h6, h7, h8, h9, h10⟩
theorem vx_L.narrow {C n d : String} {A B : Nat → Prop} {U : State} {H : Heap} (h : vx_L C n d A U H) (hAB : ∀ q, B q → A q) : vx_L C n d B U H := by
  obtain ⟨c, k, i, f, a, cell, h1, h2, h3, h4, h5, h6, h7, h8, h9, h10⟩ := h
  exact ⟨c, k, i, f, a, cell, h1, h2, h3, h4, h5, h6, h7, h8, h9, fun z => h10 (hAB _ z)⟩
theorem vx_L.word {C n d : String} {A : Nat → Prop} {s : State} {args : Array Value} (h : vx_L C n d A s s.heap) : (Cond.laysStatic C n d).before args s = true := by
  obtain ⟨c, k, i, f, a, cell, h1, h2, h3, h4, h5, h6, h7, h8, h9, -⟩ := h
  show (Cond.laysStatic C n d).holds args s none s [] = true
  exact Cond.laysStatic_of h1 h2 h3 h4 h5 h6 h7 h8 h9
/-- .. and what it holds: null or some reference -/
def vx_Zq (C n d : String) (A : Nat → Prop) (U : State) (H : Heap) : Prop := va_Zq C n d A U H ∧ vx_L C n d A U H
theorem vx_Zq.moved {C n d : String} {A : Nat → Prop} {u U : State} {H : Heap} (hvm : u.vm.Alike U.vm) (h : vx_Zq C n d A u H) : vx_Zq C n d A U H := ⟨va_Zq.moved hvm h.1, vx_L.moved hvm h.2⟩
theorem vx_Zq.kept {C n d : String} {A : Nat → Prop} {U : State} {H H1 : Heap} (h : vx_Zq C n d A U H) (hq : ∀ a : Nat, a < H.size → ¬ A a → H1[a]? = H[a]?) : vx_Zq C n d A U H1 := ⟨va_Zq.kept h.1 hq, vx_L.kept h.2 hq⟩
theorem vx_Zq.narrow {C n d : String} {A B : Nat → Prop} {U : State} {H : Heap} (h : vx_Zq C n d A U H) (hAB : ∀ q, B q → A q) : vx_Zq C n d B U H := ⟨va_Zq.narrow h.1 hAB, vx_L.narrow h.2 hAB⟩
theorem vx_Zqof {args : Array Value} {s : State} {C n d : String} {A : Nat → Prop} (hl : (Cond.laysStatic C n d).before args s = true) (hini : (Cond.initialized C).before args s = true) (h : (Cond.isRef (.static C n d)).before args s = true) (hA : ∀ a : Nat, a < s.heap.size → ¬ A a) : vx_Zq C n d A s s.heap := by
  refine ⟨va_Zqof hl hini h hA, ?_⟩
  obtain ⟨c, k, i, f, a, cell, h1, h2, h3, h4, h5, h6, h7, h8, h9⟩ := Cond.laysStatic_spec hl
  exact ⟨c, k, i, f, a, cell, h1, h2, h3, h4, h5, h6, h7, h8, h9, hA a (Array.getElem?_eq_some_iff.mp h5).1⟩
theorem vx_isRef {C n d : String} {v : Value} {A : Nat → Prop} {s : State} {args : Array Value} (h : va_Z C n d v A s s.heap) (hv : v.isRef = true) : (Cond.isRef (.static C n d)).before args s = true := by
  obtain ⟨cf, kf, fi, f, a, cell, h1, h2, h3, h4, h5, h6, h7, -⟩ := h
  have he : (Term.static C n d).eval args s none [] s = some v := by
    simp [Term.eval, State.fieldNamed?, h1, h2, h4, h5, h6, h7]
  simp only [Cond.before, Cond.holds, Cond.value, he]
  cases v <;> simp_all [Value.isRef]
theorem vx_isRefq {C n d : String} {A : Nat → Prop} {s : State} {args : Array Value} (h : va_Zq C n d A s s.heap) : (Cond.isRef (.static C n d)).before args s = true := by
  rcases h with h | ⟨t, h⟩
  · exact vx_isRef h rfl
  · exact vx_isRef h rfl
/-- the same frame, seen from here: as if the method were called anew in this heap -/
theorem vx_rebase {T : State} (X : Stand p l e R s m args below meth c T locs cells slots) {R' : Room} (hf : R'.frames ≤ R.frames) (hl : R'.locals ≤ R.locals) (hc : cells + R'.cells ≤ R.cells) (hs : slots + R'.slots ≤ R.slots) :
    Stand p l e R' ((T.setVm s.vm).setFrames (.invoking m args :: below)) m args below meth c T [] 0 0 := by
  have htop : (T.setVm s.vm).topJava?.isSome := X.here.top
  have hF : ((T.setVm s.vm).setFrames (.invoking m args :: below)).frames = .invoking m args :: below := State.frames_setFrames _ (State.cur_lt_of_top htop)
  obtain ⟨g₀, hg0⟩ := Option.isSome_iff_exists.mp htop
  obtain ⟨r, hr⟩ := State.topJava?_eq_some.mp hg0
  have hl9 : e.platform.stackLimits (T.setVm s.vm).me = e.platform.stackLimits s.me := X.limits
  have hb9 : (T.setVm s.vm).me.stackBytes = s.me.stackBytes := X.bytes
  refine ⟨X.admits, X.cas, X.clock, hF, ?_, X.hears, X.method, X.code, X.here, X.tail, X.warmed, ?_, ?_, ?_⟩
  · have h := X.room
    have hU : ((T.setVm s.vm).setFrames (.invoking m args :: below)).localsInUse = s.localsInUse := by
      rw [State.localsInUse_invoking hF (meth := meth) (c := c) X.method X.code, State.localsInUse_invoking X.frames X.method X.code]
    simp only [State.hasRoom, Bool.and_eq_true, decide_eq_true_eq] at h ⊢
    obtain ⟨⟨⟨⟨h1, h2, h3, h4, h5, h6⟩, h7⟩, h8⟩, h9⟩ := h
    rw [X.frames, List.length_cons] at h2 h3
    have q1 := X.heapSize
    have q2 := X.used
    simp only [hF, hU, List.length_cons, State.stackLimits_setFrames, State.stackBytes_setFrames, hl9, hb9]
    refine ⟨⟨⟨⟨by omega, by omega, by omega, by omega, by omega, h6⟩, ?_⟩, ?_⟩, X.book⟩
    · show T.heap.size + R'.cells ≤ e.platform.maxCells
      omega
    · show T.slotsUsed + R'.slots ≤ e.platform.maxSlots
      omega
  · rw [State.stackLimits_setFrames]; rfl
  · rw [State.stackBytes_setFrames]; rfl
  · refine ⟨?_, Nat.le_refl _, Nat.le_refl _, ?_, ?_, fun a c9 h9 => ⟨c9, h9, rfl, rfl, fun _ _ => rfl⟩⟩
    · obtain ⟨t, ht, -⟩ := State.frames_cons hr
      show T.setVm s.vm = { ((T.setVm s.vm).setFrames (.invoking m args :: below)).setFrames (T.setVm s.vm).frames with heap := T.heap, slotsUsed := T.slotsUsed }
      rw [State.setFrames_setFrames, State.setFrames_self ht]
      rfl
    · show T.slotsUsed = T.slotsUsed + ((T.heap.toList.drop T.heap.size).map (·.slots.size)).sum
      rw [List.drop_eq_nil_of_le (Nat.le_of_eq Array.length_toList)]
      rfl
    · show ((T.heap.toList.drop T.heap.size).map (·.slots.size)).sum ≤ 0
      rw [List.drop_eq_nil_of_le (Nat.le_of_eq Array.length_toList)]
      exact Nat.le_refl _
/-- 'throw new E()': new; dup; invokespecial; athrow -/
theorem vx_throw0 {cc : ByteArray} {pc : Nat} (hexec : p.tables.exec = Jvm.exec) (hb : c.code = cc) (hl : l.stackTraces = false) {own cls : String} {names : List String} {ik ic mc ms : Nat} {A : Nat → Prop}
    (hown : s.vm.findClass own = some m.cls) (hcls : Bundle.fit cls = true) (hnames : ∀ n ∈ names, Bundle.fit n = true)
    (hk : (Cond.classLink own ik cls).before args s = true) (hini : (Cond.initialized cls).before args s = true) (hat : ∀ w ∈ vx_at0 own ic cls names, w.before args s = true)
    (hgood : ∀ w ∈ Cond.classLink own ik cls :: Cond.initialized cls :: vx_at0 own ic cls names, vx_ot w = true)
    (hU : vx_Zq Bundle.tN "UNASSIGNED_STACK" Bundle.steD A s s.heap) (hN : vx_Zq Bundle.tN "SUPPRESSED_SENTINEL" Bundle.listD A s s.heap) (hS : va_S A s.heap H locs) (hsize : ls.size = c.maxLocals)
    (d0 : decode cc pc = .ok (.new ik, 3)) (d3 : decode cc (pc + 3) = .ok (.dup, 1)) (d4 : decode cc (pc + 4) = .ok (.invokespecial ic, 3)) (d7 : decode cc (pc + 7) = .ok (.athrow, 1))
    (hout : ∀ x ∈ c.exceptionTable.toList, covers x (pc + 7) = false)
    (hRframes : names.length + 3 < R.frames) (hRlocals : (rest.map fun v => v.category).sum + (13 * (names.length + 1) + 42) ≤ R.locals) (hRcells : cells + 1 ≤ R.cells) (hRslots : slots + 6 ≤ R.slots) (hlocks : meth.locks = false)
    (hx : ∀ t : State, s.vm.Alike t.vm → H.size ≤ t.heap.size → (∀ q : Nat, q < H.size → t.heap[q]? = H[q]?) → XC cls s t)
    (hf : ∀ z ∈ locs, free z.base) (hc : cells + 1 ≤ mc) (hs : slots + 6 ≤ ms) :
    W p l e R s m args below meth c H locs cells slots (vx_MQ below Qc XC args s mc ms free) (F0 m pc ls rest) := by
  intro T hT X
  have htr : e.platform.stackTraces = false := (show e.platform.stackTraces = l.stackTraces by rw [X.admits.platform]).trans hl
  have Y := vx_rebase X (R' := { frames := R.frames, locals := R.locals, cells := 1, slots := 6 }) (Nat.le_refl _) (Nat.le_refl _) hRcells hRslots
  obtain ⟨s', hA⟩ : ∃ z, z = (T.setVm s.vm).setFrames (.invoking m args :: below) := ⟨_, rfl⟩
  rw [← hA] at Y
  have hvm : s'.vm = s.vm := by rw [hA]; rfl
  have hhp : s'.heap = H := by rw [hA]; exact hT
  have hW0 : s.WarmedH s'.vm := by rw [hvm]; exact State.WarmedH.refl s
  have hat' : ∀ w ∈ vx_at0 own ic cls names, w.before args s' = true := fun w hw => vx_ot_at hW0 hvm.symm (hgood w (List.mem_cons_of_mem _ (List.mem_cons_of_mem _ hw))) (hat w hw)
  have hk' : (Cond.classLink own ik cls).before args s' = true := vx_ot_at hW0 hvm.symm (hgood _ List.mem_cons_self) hk
  have hini' : (Cond.initialized cls).before args s' = true := vx_ot_at hW0 hvm.symm (hgood _ (List.mem_cons_of_mem _ List.mem_cons_self)) hini
  have hU' : vx_Zq Bundle.tN "UNASSIGNED_STACK" Bundle.steD A s' s'.heap := by rw [hhp]; exact vx_Zq.moved hW0.alike (hU.kept hS.2.1)
  have hN' : vx_Zq Bundle.tN "SUPPRESSED_SENTINEL" Bundle.listD A s' s'.heap := by rw [hhp]; exact vx_Zq.moved hW0.alike (hN.kept hS.2.1)
  have h : ∀ w ∈ Bundle.ownAtoms0 own ic cls names, w.before args s' = true := vx_own hat' (vx_isRefq hU'.1) (vx_isRefq hN'.1) hU'.2.word hN'.2.word
  have hown' : s'.vm.findClass own = some m.cls := by rw [hvm]; exact hown
  have hins : (Cond.instantiable cls 6).before args s' = true := h _ (by simp [Bundle.ownAtoms0])
  obtain ⟨vm₁, cX, kX, hfX, hkX, -, -, X₁, st1⟩ := Y.newCold hexec (own := own) (C := cls) (index := ik) (n := 6) hown' hk' hins hini'
    (g := F0 m pc ls rest) rfl (by rw [hb]; exact d0) (Nat.le_refl _) (Nat.le_refl _)
  generalize hT1 : (T.setVm vm₁).pushCell { cls := cX, slots := kX.instanceTypes.map defaultValue, vm := .none } = T1 at X₁ st1
  have hcat : (Value.ref T.heap.size).category = 1 := rfl
  have hcellA : T1.heap[T.heap.size]? = some (freshCell cX kX) := by rw [← hT1]; exact State.heap_pushCell_size _ _
  have d3' : decode c.code (pc + 3) = .ok (.dup, 1) := by rw [hb]; exact d3
  obtain ⟨U, hsteps, hrun, hend, hW, hsame, ce, hce, hO⟩ := X₁.ctorThrow0 hexec htr (own := own) (cls := cls) (names := names) (ic := ic) hown' hcls hnames h (fun x hx => nomatch hx) hfX hkX hcellA (by rw [hhp, hT]; exact Nat.le_refl _)
    (g := { method := m, pc := pc + 4, locals := ls, stack := .ref T.heap.size :: .ref T.heap.size :: rest, locked := none }) rfl hsize rfl rfl (rest := rest) rfl
    (by rw [hb]; exact d4) (by rw [hb]; exact d7) hout hRframes (by simp only [List.map_cons, List.sum_cons, hcat]; omega) hlocks
  obtain ⟨f1, f2⟩ := vx_frame hsame
  rw [hhp] at f1 f2
  have hWs : s.WarmedH U.vm := State.WarmedH.trans hW0 hW
  have hcl : s.vm.findClass cls = some ce.cls := by
    have h9 := hO.cls
    rw [hvm] at h9
    exact h9
  have hall : s.sameButNew ({ U with vm := s.vm } : State) locs mc ms := by
    subst hA
    obtain ⟨e1, e2⟩ := hsame
    rw [State.setFrames_setFrames] at e1
    have h2 : (T.setVm s.vm).sameButNew ({ U with vm := s.vm } : State) [] (0 + 1) (0 + 6) := ⟨e1, e2⟩
    have h3 := X.same.trans h2
    rw [List.append_nil] at h3
    exact h3.mono hc hs
  refine ⟨U, ?_, .threw T.heap.size, hrun, hend, Or.inr ⟨T.heap.size, rfl, cls, ce, locs, hx U hWs.alike f1 (fun q hq => f2 q hq (fun z hz => nomatch hz)), hce, hO.vm, hcl, hWs, hall, hf⟩⟩
  refine st1 _ ?_
  show Steps p.tables e below (T1.setTop { method := m, pc := pc + 3, locals := ls, stack := .ref T.heap.size :: rest, locked := none }) _
  jvm_step X₁.here [X₁.here.top, hexec, d3', Value.category]
  exact hsteps
/-- 'throw new E("text")': new; dup; ldc; invokespecial; athrow -/
theorem vx_throwS {cc : ByteArray} {pc : Nat} (hexec : p.tables.exec = Jvm.exec) (hb : c.code = cc) (hl : l.stackTraces = false) {own cls text : String} {names : List String} {ik is ic mc ms sa : Nat} {A : Nat → Prop}
    (hown : s.vm.findClass own = some m.cls) (hcls : Bundle.fit cls = true) (hnames : ∀ n ∈ names, Bundle.fit n = true)
    (hk : (Cond.classLink own ik cls).before args s = true) (hini : (Cond.initialized cls).before args s = true) (hstr : vk_R own is text sa s) (hat : ∀ w ∈ vx_atS own ic cls names, w.before args s = true)
    (hgood : ∀ w ∈ Cond.classLink own ik cls :: Cond.initialized cls :: vx_atS own ic cls names, vx_ot w = true)
    (hU : vx_Zq Bundle.tN "UNASSIGNED_STACK" Bundle.steD A s s.heap) (hN : vx_Zq Bundle.tN "SUPPRESSED_SENTINEL" Bundle.listD A s s.heap) (hS : va_S A s.heap H locs) (hsize : ls.size = c.maxLocals)
    (d0 : decode cc pc = .ok (.new ik, 3)) (d3 : decode cc (pc + 3) = .ok (.dup, 1)) (d4 : decode cc (pc + 4) = .ok (.ldc is, 2)) (d6 : decode cc (pc + 6) = .ok (.invokespecial ic, 3)) (d9 : decode cc (pc + 9) = .ok (.athrow, 1))
    (hout : ∀ x ∈ c.exceptionTable.toList, covers x (pc + 9) = false)
    (hRframes : names.length + 3 < R.frames) (hRlocals : (rest.map fun v => v.category).sum + (13 * (names.length + 1) + 43) ≤ R.locals) (hRcells : cells + 1 ≤ R.cells) (hRslots : slots + 6 ≤ R.slots) (hlocks : meth.locks = false)
    (hx : ∀ t : State, s.vm.Alike t.vm → H.size ≤ t.heap.size → (∀ q : Nat, q < H.size → t.heap[q]? = H[q]?) → XC cls s t)
    (hf : ∀ z ∈ locs, free z.base) (hc : cells + 1 ≤ mc) (hs : slots + 6 ≤ ms) :
    W p l e R s m args below meth c H locs cells slots (vx_MQ below Qc XC args s mc ms free) (F0 m pc ls rest) := by
  intro T hT X
  have htr : e.platform.stackTraces = false := (show e.platform.stackTraces = l.stackTraces by rw [X.admits.platform]).trans hl
  have Y := vx_rebase X (R' := { frames := R.frames, locals := R.locals, cells := 1, slots := 6 }) (Nat.le_refl _) (Nat.le_refl _) hRcells hRslots
  obtain ⟨s', hA⟩ : ∃ z, z = (T.setVm s.vm).setFrames (.invoking m args :: below) := ⟨_, rfl⟩
  rw [← hA] at Y
  have hvm : s'.vm = s.vm := by rw [hA]; rfl
  have hhp : s'.heap = H := by rw [hA]; exact hT
  have hW0 : s.WarmedH s'.vm := by rw [hvm]; exact State.WarmedH.refl s
  have hat' : ∀ w ∈ vx_atS own ic cls names, w.before args s' = true := fun w hw => vx_ot_at hW0 hvm.symm (hgood w (List.mem_cons_of_mem _ (List.mem_cons_of_mem _ hw))) (hat w hw)
  have hk' : (Cond.classLink own ik cls).before args s' = true := vx_ot_at hW0 hvm.symm (hgood _ List.mem_cons_self) hk
  have hini' : (Cond.initialized cls).before args s' = true := vx_ot_at hW0 hvm.symm (hgood _ (List.mem_cons_of_mem _ List.mem_cons_self)) hini
  have hU' : vx_Zq Bundle.tN "UNASSIGNED_STACK" Bundle.steD A s' s'.heap := by rw [hhp]; exact vx_Zq.moved hW0.alike (hU.kept hS.2.1)
  have hN' : vx_Zq Bundle.tN "SUPPRESSED_SENTINEL" Bundle.listD A s' s'.heap := by rw [hhp]; exact vx_Zq.moved hW0.alike (hN.kept hS.2.1)
  have h : ∀ w ∈ Bundle.ownAtoms own ic cls names, w.before args s' = true := vx_own hat' (vx_isRefq hU'.1) (vx_isRefq hN'.1) hU'.2.word hN'.2.word
  have hown' : s'.vm.findClass own = some m.cls := by rw [hvm]; exact hown
  have hins : (Cond.instantiable cls 6).before args s' = true := h _ (by simp [Bundle.ownAtoms])
  obtain ⟨vm₁, cX, kX, hfX, hkX, -, -, X₁, st1⟩ := Y.newCold hexec (own := own) (C := cls) (index := ik) (n := 6) hown' hk' hins hini'
    (g := F0 m pc ls rest) rfl (by rw [hb]; exact d0) (Nat.le_refl _) (Nat.le_refl _)
  generalize hT1 : (T.setVm vm₁).pushCell { cls := cX, slots := kX.instanceTypes.map defaultValue, vm := .none } = T1 at X₁ st1
  have hcat : (Value.ref T.heap.size).category = 1 := rfl
  have hcellA : T1.heap[T.heap.size]? = some (freshCell cX kX) := by rw [← hT1]; exact State.heap_pushCell_size _ _
  have d3' : decode c.code (pc + 3) = .ok (.dup, 1) := by rw [hb]; exact d3
  have d4' : decode c.code (pc + 4) = .ok (.ldc is, 2) := by rw [hb]; exact d4
  have hstr' : vk_R own is text sa s' := vk_R.warm hW0 hstr
  obtain ⟨U, hsteps, hrun, hend, hW, hsame, ce, hce, hO⟩ := X₁.ctorThrowS hexec htr (own := own) (cls := cls) (names := names) (ic := ic) hown' hcls hnames h (fun x hx => nomatch hx) hfX hkX hcellA (by rw [hhp, hT]; exact Nat.le_refl _) (msg := .ref sa) rfl
    (g := { method := m, pc := pc + 6, locals := ls, stack := .ref sa :: .ref T.heap.size :: .ref T.heap.size :: rest, locked := none }) rfl hsize rfl rfl (rest := rest) rfl
    (by rw [hb]; exact d6) (by rw [hb]; exact d9) hout hRframes (by simp only [List.map_cons, List.sum_cons, hcat]; omega) hlocks
  obtain ⟨f1, f2⟩ := vx_frame hsame
  rw [hhp] at f1 f2
  have hWs : s.WarmedH U.vm := State.WarmedH.trans hW0 hW
  have hcl : s.vm.findClass cls = some ce.cls := by
    have h9 := hO.cls
    rw [hvm] at h9
    exact h9
  have hall : s.sameButNew ({ U with vm := s.vm } : State) locs mc ms := by
    subst hA
    obtain ⟨e1, e2⟩ := hsame
    rw [State.setFrames_setFrames] at e1
    have h2 : (T.setVm s.vm).sameButNew ({ U with vm := s.vm } : State) [] (0 + 1) (0 + 6) := ⟨e1, e2⟩
    have h3 := X.same.trans h2
    rw [List.append_nil] at h3
    exact h3.mono hc hs
  refine ⟨U, ?_, .threw T.heap.size, hrun, hend, Or.inr ⟨T.heap.size, rfl, cls, ce, locs, hx U hWs.alike f1 (fun q hq => f2 q hq (fun z hz => nomatch hz)), hce, hO.vm, hcl, hWs, hall, hf⟩⟩
  refine st1 _ ?_
  show Steps p.tables e below (T1.setTop { method := m, pc := pc + 3, locals := ls, stack := .ref T.heap.size :: rest, locked := none }) _
  jvm_step X₁.here [X₁.here.top, hexec, d3', Value.category]
  exact X₁.ldcString hexec (own := own) (text := text) (index := is) (a := sa) hown' hstr'.1 hstr'.2
    (g := { method := m, pc := pc + 4, locals := ls, stack := .ref T.heap.size :: .ref T.heap.size :: rest, locked := none }) rfl d4' _ hsteps
/-- 'throw new E("text")', the text by a wide index -/
theorem vx_throwSW {cc : ByteArray} {pc : Nat} (hexec : p.tables.exec = Jvm.exec) (hb : c.code = cc) (hl : l.stackTraces = false) {own cls text : String} {names : List String} {ik is ic mc ms sa : Nat} {A : Nat → Prop}
    (hown : s.vm.findClass own = some m.cls) (hcls : Bundle.fit cls = true) (hnames : ∀ n ∈ names, Bundle.fit n = true)
    (hk : (Cond.classLink own ik cls).before args s = true) (hini : (Cond.initialized cls).before args s = true) (hstr : vk_R own is text sa s) (hat : ∀ w ∈ vx_atS own ic cls names, w.before args s = true)
    (hgood : ∀ w ∈ Cond.classLink own ik cls :: Cond.initialized cls :: vx_atS own ic cls names, vx_ot w = true)
    (hU : vx_Zq Bundle.tN "UNASSIGNED_STACK" Bundle.steD A s s.heap) (hN : vx_Zq Bundle.tN "SUPPRESSED_SENTINEL" Bundle.listD A s s.heap) (hS : va_S A s.heap H locs) (hsize : ls.size = c.maxLocals)
    (d0 : decode cc pc = .ok (.new ik, 3)) (d3 : decode cc (pc + 3) = .ok (.dup, 1)) (d4 : decode cc (pc + 4) = .ok (.ldc_w is, 3)) (d7 : decode cc (pc + 7) = .ok (.invokespecial ic, 3)) (d10 : decode cc (pc + 10) = .ok (.athrow, 1))
    (hout : ∀ x ∈ c.exceptionTable.toList, covers x (pc + 10) = false)
    (hRframes : names.length + 3 < R.frames) (hRlocals : (rest.map fun v => v.category).sum + (13 * (names.length + 1) + 43) ≤ R.locals) (hRcells : cells + 1 ≤ R.cells) (hRslots : slots + 6 ≤ R.slots) (hlocks : meth.locks = false)
    (hx : ∀ t : State, s.vm.Alike t.vm → H.size ≤ t.heap.size → (∀ q : Nat, q < H.size → t.heap[q]? = H[q]?) → XC cls s t)
    (hf : ∀ z ∈ locs, free z.base) (hc : cells + 1 ≤ mc) (hs : slots + 6 ≤ ms) :
    W p l e R s m args below meth c H locs cells slots (vx_MQ below Qc XC args s mc ms free) (F0 m pc ls rest) := by
  intro T hT X
  have htr : e.platform.stackTraces = false := (show e.platform.stackTraces = l.stackTraces by rw [X.admits.platform]).trans hl
  have Y := vx_rebase X (R' := { frames := R.frames, locals := R.locals, cells := 1, slots := 6 }) (Nat.le_refl _) (Nat.le_refl _) hRcells hRslots
  obtain ⟨s', hA⟩ : ∃ z, z = (T.setVm s.vm).setFrames (.invoking m args :: below) := ⟨_, rfl⟩
  rw [← hA] at Y
  have hvm : s'.vm = s.vm := by rw [hA]; rfl
  have hhp : s'.heap = H := by rw [hA]; exact hT
  have hW0 : s.WarmedH s'.vm := by rw [hvm]; exact State.WarmedH.refl s
  have hat' : ∀ w ∈ vx_atS own ic cls names, w.before args s' = true := fun w hw => vx_ot_at hW0 hvm.symm (hgood w (List.mem_cons_of_mem _ (List.mem_cons_of_mem _ hw))) (hat w hw)
  have hk' : (Cond.classLink own ik cls).before args s' = true := vx_ot_at hW0 hvm.symm (hgood _ List.mem_cons_self) hk
  have hini' : (Cond.initialized cls).before args s' = true := vx_ot_at hW0 hvm.symm (hgood _ (List.mem_cons_of_mem _ List.mem_cons_self)) hini
  have hU' : vx_Zq Bundle.tN "UNASSIGNED_STACK" Bundle.steD A s' s'.heap := by rw [hhp]; exact vx_Zq.moved hW0.alike (hU.kept hS.2.1)
  have hN' : vx_Zq Bundle.tN "SUPPRESSED_SENTINEL" Bundle.listD A s' s'.heap := by rw [hhp]; exact vx_Zq.moved hW0.alike (hN.kept hS.2.1)
  have h : ∀ w ∈ Bundle.ownAtoms own ic cls names, w.before args s' = true := vx_own hat' (vx_isRefq hU'.1) (vx_isRefq hN'.1) hU'.2.word hN'.2.word
  have hown' : s'.vm.findClass own = some m.cls := by rw [hvm]; exact hown
  have hins : (Cond.instantiable cls 6).before args s' = true := h _ (by simp [Bundle.ownAtoms])
  obtain ⟨vm₁, cX, kX, hfX, hkX, -, -, X₁, st1⟩ := Y.newCold hexec (own := own) (C := cls) (index := ik) (n := 6) hown' hk' hins hini'
    (g := F0 m pc ls rest) rfl (by rw [hb]; exact d0) (Nat.le_refl _) (Nat.le_refl _)
  generalize hT1 : (T.setVm vm₁).pushCell { cls := cX, slots := kX.instanceTypes.map defaultValue, vm := .none } = T1 at X₁ st1
  have hcat : (Value.ref T.heap.size).category = 1 := rfl
  have hcellA : T1.heap[T.heap.size]? = some (freshCell cX kX) := by rw [← hT1]; exact State.heap_pushCell_size _ _
  have d3' : decode c.code (pc + 3) = .ok (.dup, 1) := by rw [hb]; exact d3
  have d4' : decode c.code (pc + 4) = .ok (.ldc_w is, 3) := by rw [hb]; exact d4
  have hstr' : vk_R own is text sa s' := vk_R.warm hW0 hstr
  obtain ⟨U, hsteps, hrun, hend, hW, hsame, ce, hce, hO⟩ := X₁.ctorThrowS hexec htr (own := own) (cls := cls) (names := names) (ic := ic) hown' hcls hnames h (fun x hx => nomatch hx) hfX hkX hcellA (by rw [hhp, hT]; exact Nat.le_refl _) (msg := .ref sa) rfl
    (g := { method := m, pc := pc + 7, locals := ls, stack := .ref sa :: .ref T.heap.size :: .ref T.heap.size :: rest, locked := none }) rfl hsize rfl rfl (rest := rest) rfl
    (by rw [hb]; exact d7) (by rw [hb]; exact d10) hout hRframes (by simp only [List.map_cons, List.sum_cons, hcat]; omega) hlocks
  obtain ⟨f1, f2⟩ := vx_frame hsame
  rw [hhp] at f1 f2
  have hWs : s.WarmedH U.vm := State.WarmedH.trans hW0 hW
  have hcl : s.vm.findClass cls = some ce.cls := by
    have h9 := hO.cls
    rw [hvm] at h9
    exact h9
  have hall : s.sameButNew ({ U with vm := s.vm } : State) locs mc ms := by
    subst hA
    obtain ⟨e1, e2⟩ := hsame
    rw [State.setFrames_setFrames] at e1
    have h2 : (T.setVm s.vm).sameButNew ({ U with vm := s.vm } : State) [] (0 + 1) (0 + 6) := ⟨e1, e2⟩
    have h3 := X.same.trans h2
    rw [List.append_nil] at h3
    exact h3.mono hc hs
  refine ⟨U, ?_, .threw T.heap.size, hrun, hend, Or.inr ⟨T.heap.size, rfl, cls, ce, locs, hx U hWs.alike f1 (fun q hq => f2 q hq (fun z hz => nomatch hz)), hce, hO.vm, hcl, hWs, hall, hf⟩⟩
  refine st1 _ ?_
  show Steps p.tables e below (T1.setTop { method := m, pc := pc + 3, locals := ls, stack := .ref T.heap.size :: rest, locked := none }) _
  jvm_step X₁.here [X₁.here.top, hexec, d3', Value.category]
  exact X₁.ldcStringW hexec (own := own) (text := text) (index := is) (a := sa) hown' hstr'.1 hstr'.2
    (g := { method := m, pc := pc + 4, locals := ls, stack := .ref T.heap.size :: .ref T.heap.size :: rest, locked := none }) rfl d4' _ hsteps
end Ends
section Bodies
variable {l : Launch}
theorem vx_ofW {y : MethodName} {ws ws' : List Cond} {rm : Room} {Pc : Array Value → State → Prop} {Qc : Array Value → State → Outcome → State → Prop} {XC : String → State → State → Prop} {mc ms : Nat} {free : Addr → Prop} {cc : ByteArray} {maxL : Nat} {ret : Option FieldType}
    (hy : plainName y.cls = true) (hw : ws = Cond.code y cc maxL ret :: ws')
    (body : ∀ p e s m args below meth c s₁, BodyLoose p l y (headSpec ws rm) cc maxL ret e s m args below meth c s₁ → c.maxLocals = maxL → (∀ x ∈ c.exceptionTable.toList, False) → Pc args s →
      W p l e (headSpec ws rm).room s m args below meth c s.heap [] 0 0 (vx_MQ below Qc XC args s mc ms free) (entryFrame m args maxL)) : vx_Met l y ws rm Pc Qc XC mc ms free := by
  refine MetFree.of_bodyS (code := cc) (maxLocals := maxL) (ret := ret) hy ?_ ?_
  · intro args s m h hn
    obtain ⟨meth, c, h1, h2, h3, h4, h5, h6, -, -⟩ := Cond.code_spec hn (atoms_spec (ws := ws) h _ (by rw [hw]; exact List.mem_cons_self))
    exact ⟨meth, c, h1, h2, h3, h4, h5, h6⟩
  · intro p e s m args below meth c s₁ B hml hP _
    have hh0 : s₁.heap = s.heap := by rw [B.state]; rfl
    have ht : ∀ x ∈ c.exceptionTable.toList, False := by
      obtain ⟨meth9, c9, h1, h2, -, -, -, -, h7, -⟩ := Cond.code_spec B.named (atoms_spec (ws := ws) B.pre _ (by rw [hw]; exact List.mem_cons_self))
      cases Option.some.inj (h1.symm.trans B.method)
      cases Option.some.inj (h2.symm.trans (Stand.of_body B).code)
      intro x hx
      rw [Array.isEmpty_iff.mp h7] at hx
      cases hx
    obtain ⟨t, a1, o, b1, b2, b3⟩ := body p e s m args below meth c s₁ B hml ht hP s₁ hh0 (Stand.of_body B)
    exact ⟨t, o, a1, b1, b2, b3⟩
/-- the table of a body with handlers -/
theorem vx_table {p : Program} {x y : MethodName} {S : Spec} {cc bytes : ByteArray} {maxL maxL' : Nat} {ret ret' : Option FieldType} {e : Env} {s s₁ : State} {m : MethodId} {args : Array Value} {below : List Frame} {meth : Method} {c : Code} {hh : List (Nat × Nat × Nat × Nat)}
    (B : BodyLoose p l y S cc maxL ret e s m args below meth c s₁) (h : (Cond.codeWith y bytes maxL' ret' hh).before args s = true) : c.exceptionTable.toList = tableOf hh := by
  obtain ⟨m9, meth9, c9, hn9, h1, h2, -, -, h6, -⟩ := Cond.codeWith_spec h
  cases Option.some.inj (hn9.symm.trans B.named)
  cases Option.some.inj (h1.symm.trans B.method)
  cases Option.some.inj (h2.symm.trans (Stand.of_body B).code)
  rw [← h6, table_eq]
end Bodies
end VXA
/-! ===== END ===== -/
/-! ===== BEGIN a static call of a method with an exception table ===== -/
section VXS
variable {p : Program} {l : Launch} {e : Env} {R : Room} {s : State} {m : MethodId} {args : Array Value} {below : List Frame} {meth : Method} {c : Code} {T : State} {H : Heap} {locs : List Loc} {cells slots : Nat}
abbrev vx_CSW (R : Room) (s : State) (args : Array Value) (own : String) (index : Nat) (y : MethodName) (bytes : ByteArray) (maxL : Nat) (ret : Option FieldType) (hh : List (Nat × Nat × Nat × Nat)) (ws : List Cond) (rm : Room) (mc ms n : Nat) : Prop :=
  (rm.cells = mc ∧ rm.slots = ms ∧ rm.frames + 1 ≤ R.frames ∧ 8 + (maxL + 11) + rm.locals ≤ R.locals ∧ (∀ w ∈ ws, ∀ (a' : Array Value) (U : State), s.WarmedH U.vm → w.before a' U = true) ∧ Cond.codeWith y bytes maxL ret hh ∈ ws) ∧
  (Cond.codeWith y bytes maxL ret hh).before args s = true ∧ (Cond.initialized y.cls).before args s = true ∧ (y.cls ≠ "java/lang/invoke/MethodHandle" ∧ y.cls ≠ "java/lang/invoke/VarHandle") ∧
  (∀ sig, parseMethodDescriptor y.desc = some sig → n = sig.parameters.length) ∧ (Cond.methodLink own index y).before args s = true ∧ (Cond.static y).before args s = true
theorem vx_cwSW {own : String} {index maxL mc ms : Nat} {y : MethodName} {bytes : ByteArray} {ret : Option FieldType} {hh : List (Nat × Nat × Nat × Nat)} {Ts ws ws' : List Cond} {rm : Room} (n : Nat) (ht : ∀ w ∈ Ts, w.before args s = true) (hT : GoodIn Ts (va_wsS own index y ws)) (hw : ws = Cond.codeWith y bytes maxL ret hh :: ws') (hrc : rm.cells = mc) (hrs : rm.slots = ms)
    (hd : y.cls ≠ "java/lang/invoke/MethodHandle" ∧ y.cls ≠ "java/lang/invoke/VarHandle" ∧ (parseMethodDescriptor y.desc).map (fun d => d.parameters.length) = some n) (hR : rm.frames + 1 ≤ R.frames ∧ 8 + (maxL + 11) + rm.locals ≤ R.locals) :
    vx_CSW R s args own index y bytes maxL ret hh ws rm mc ms n := by
  have ok : ∀ w ∈ va_wsS own index y ws, w.before args s = true := fun w h => ht w (hT w h).1
  have hG : GoodIn Ts ws := fun w h => hT w (by unfold va_wsS; exact List.mem_append_right _ h)
  have hc : Cond.codeWith y bytes maxL ret hh ∈ ws := by rw [hw]; exact List.mem_cons_self
  refine ⟨⟨hrc, hrs, hR.1, hR.2, pay_in ht hG, hc⟩, ht _ (hG _ hc).1, ok _ (by simp [va_wsS]), ⟨hd.1, hd.2.1⟩, fun sig h => ?_, ok _ (by simp [va_wsS]), ok _ (by simp [va_wsS])⟩
  have h2 := hd.2.2
  rw [h] at h2
  exact (Option.some.inj h2).symm
theorem vx_callSW (X : Stand p l e R s m args below meth c T locs cells slots) (hexec : p.tables.exec = Jvm.exec) {own : String} {index : Nat} {y : MethodName} {bytes : ByteArray} {maxL : Nat} {ret : Option FieldType} {hh : List (Nat × Nat × Nat × Nat)}
    (hown : s.vm.findClass own = some m.cls) (hlink : (Cond.methodLink own index y).before args s = true) (hstat : (Cond.static y).before args s = true) (hinit : (Cond.initialized y.cls).before args s = true)
    (hcode : (Cond.codeWith y bytes maxL ret hh).before args s = true) (hy : y.cls ≠ "java/lang/invoke/MethodHandle" ∧ y.cls ≠ "java/lang/invoke/VarHandle")
    {W9 : Nat} {Pre : Pt → Array Value → Prop} {Post : Pt → Array Value → Option Value → Pt → Prop} (hK : Back l R p e below s args y 3 W9 Pre Post)
    {g : JFrame} (hg : g.method = m) (hsize : g.locals.size = c.maxLocals) {argsL rest : List Value} (hlen : ∀ sig, parseMethodDescriptor y.desc = some sig → argsL.length = sig.parameters.length)
    (hstack : g.stack = argsL.reverse ++ rest) (hW : 2 * g.monitorRoom + (rest.map fun v => v.category).sum ≤ W9) (hdg : decode c.code g.pc = .ok (.invokestatic index, 3))
    (hpre : ∀ vm₁, s.WarmedH vm₁ → Pre ⟨T.setVm vm₁, locs, cells, slots⟩ argsL.toArray) :
    ∃ (v : Option Value) (vm₁ : Vm) (B : Pt), s.WarmedH vm₁ ∧ Stand p l e R s m args below meth c B.U B.locs B.cells B.slots ∧ Post ⟨T.setVm vm₁, locs, cells, slots⟩ argsL.toArray v B ∧
      ∀ target, Steps p.tables e below (B.U.setTop { g with pc := g.pc + 3, stack := v.toList ++ rest }) target → Steps p.tables e below (T.setTop g) target := by
  obtain ⟨mk, methM, cM, hnamed, hmethM, -, -, -, -, -, -, hsigM⟩ := Cond.codeWith_spec hcode
  have hstatic : methM.isStatic = true := Cond.static_spec hnamed hmethM hstat
  obtain ⟨kP, hkP, -⟩ := className_of_methodNamed hnamed
  have hinitP : kP.init = .initialized := Cond.initialized_spec (findClass_of_methodNamed hnamed) hkP hinit
  obtain ⟨vm₁, X₁, hstep₁⟩ := X.invokestatic hexec hown hlink hnamed hmethM hstatic hkP hinitP hy (g := g) hg (argsL := argsL) (rest := rest) (hlen _ hsigM) hstack hdg
  obtain ⟨v, B, X', hpost, hsteps⟩ := hK m meth c ⟨T.setVm vm₁, locs, cells, slots⟩ { g with stack := rest } (.invokestatic index) mk argsL.toArray X₁ hg hsize hdg hW (X₁.named hnamed) (hpre vm₁ X₁.warmed)
  exact ⟨v, vm₁, B, X₁.warmed, X', hpost, fun target h => hstep₁ _ fun acts => by rw [doInvoke_state]; exact hsteps.trans h⟩
theorem vx_runSW {y : MethodName} {bytes cc : ByteArray} {maxL nL mc ms n index : Nat} {ret : Option FieldType} {hh : List (Nat × Nat × Nat × Nat)} {ws : List Cond} {rm : Room} {Pc : Array Value → State → Prop} {Qc : Array Value → State → Outcome → State → Prop} {free : Addr → Prop} {Ts : List Cond} {own : String} {As rest : List Value} {g : JFrame}
    (S : CallFix p m c cc nL s args Ts own) (hM : Met l y ws rm Pc Qc mc ms free) (cw : vx_CSW R s args own index y bytes maxL ret hh ws rm mc ms n) (hp : PreS s H Pc As)
    (hg : g.method = m) (hn : As.length = n) (hsize : g.locals.size = nL) (hstack : g.stack = As.reverse ++ rest) (hW : 2 * g.monitorRoom + (rest.map fun v => v.category).sum ≤ 8) (hdg : decode cc g.pc = .ok (.invokestatic index, 3)) (hf : cells + mc ≤ R.cells ∧ slots + ms ≤ R.slots) :
    va_Run p l e R s m args below meth c H locs cells slots mc ms g rest (Qc As.toArray) (free) := by
  obtain ⟨⟨hrc, hrs, hfr, hlo, hws, hcw⟩, hcode, hini, hy, hlen, hl, hstt⟩ := cw
  have hK : Back l R p e below s args y 3 8 (PreOf R mc ms Pc) (PostOf Qc mc ms free) := va_backW (hh := hh) (bytes := bytes) (maxL := maxL) (ret := ret) hM hp.1 hrc hrs hfr hlo hws hcw (fun a' U hW => word_at hW (Or.inl (by first | rfl | simp [Cond.onTables, Cond.keeps, Cond.steady])) hini)
  obtain ⟨hx, hb, hml, ho, -⟩ := S
  intro T hT X
  obtain ⟨v, vm₁, ⟨U', l2, c2, s2⟩, hW₁, X', ⟨g', mk, t, L, e1, e2, hq, h1, hL, h2, h3⟩, st⟩ := vx_callSW X hx (hh := hh) (bytes := bytes) (maxL := maxL) (ret := ret) ho hl hstt hini hcode hy hK hg (hsize.trans hml.symm) (argsL := As) (rest := rest) (fun sig h => hn.trans (hlen sig h)) hstack hW (by rw [hb]; exact hdg)
    (fun vm₁ hW₁ => ⟨hf.1, hf.2, hp.2 (T.setVm vm₁) hT hW₁⟩)
  dsimp only [Pt.U, Pt.locs, Pt.cells, Pt.slots] at X' e1 e2 h1 h2 h3 st
  subst h1; subst h2; subst h3
  exact ⟨v, (T.setVm vm₁).calling g' mk As.toArray, t, U', L, hT, X', hL, e1, e2, hq, st⟩
/-- not caught here, past rows that name other classes: it goes on to the caller -/
theorem vx_outP {p : Program} {l : Launch} {e : Env} {R : Room} {s : State} {m : MethodId} {args : Array Value} {below : List Frame} {meth : Method} {c : Code} {H : Heap} {locs : List Loc} {cells slots : Nat} {free : Addr → Prop} {ls : Array Slot} {rest : List Value} {Qc : Array Value → State → Outcome → State → Prop} {XC : String → State → State → Prop}
    {pc : Nat} {own E : String} {ce : Cell} {q : Addr} {mc ms : Nat} (hown : s.vm.findClass own = some m.cls) (hlocks : meth.locks = false)
    (hpass : ∀ z ∈ c.exceptionTable.toList, covers z pc = false ∨ (z.catchType ≠ 0 ∧ ∃ nm : String, (Cond.classLink own z.catchType nm).before args s = true ∧ va_Nc E nm s)) (hcell : H[q]? = some ce) (hv : ce.vm = .none) (hcl : s.vm.findClass E = some ce.cls)
    (hx : ∀ t : State, t.heap = H → s.vm.Alike t.vm → XC E s t) (hf : ∀ z ∈ locs, free z.base) (hc : cells ≤ mc) (hs : slots ≤ ms) :
    vx_W p l e R s m args below meth c H locs cells slots (vx_MQ below Qc XC args s mc ms free) (F0 m pc ls rest) q := by
  intro T hT X
  have hpl : e.platform.magicAccessors = ({} : Platform).magicAccessors := by rw [X.admits.platform]
  obtain ⟨vm', hW', X', st⟩ := X.outThrough hlocks q (g := F0 m pc ls rest) rfl rfl rfl (cell := ce) (by rw [hT]; exact hcell) (by rw [hv]; rfl)
    (by obtain ⟨k9, h9, -⟩ := Vm.findClass_spec hcl; exact ⟨k9, h9⟩) (fun z hz => by
      rcases hpass z hz with h | ⟨hz0, nm, hl1, hn1⟩
      · exact Or.inl h
      · obtain ⟨c6, hc6, hcl6⟩ := Cond.classLink_spec hown hl1 e.platform hpl
        obtain ⟨a8, b8, h1, h2, h3⟩ := hn1
        cases Option.some.inj (h1.symm.trans hcl)
        cases Option.some.inj (h2.symm.trans hc6)
        exact Or.inr ⟨hz0, _, hcl6, h3⟩)
  obtain ⟨g₀, hfr⟩ := X'.frames_eq
  have hcell9 : ((T.setVm vm').setFrames (.throwing q :: below)).heap[q]? = some ce := by
    show T.heap[q]? = some ce
    rw [hT]; exact hcell
  have hend : Ended ((T.setVm vm').setFrames (.throwing q :: below)) below (.threw q) := State.frames_setFrames _ (State.cur_lt_of_frames hfr)
  refine ⟨(T.setVm vm').setFrames (.throwing q :: below), ?_, .threw q, X'.here.running, hend, Or.inr ⟨q, rfl, E, ce, locs, hx _ hT (X'.ends _).1.alike, hcell9, hv, hcl, (X'.ends _).1, (X'.ends _).2.mono hc hs, hf⟩⟩
  rw [X.pushThrowing_eq]
  exact st
/-- a thing of a world lies in the heap -/
theorem vx_lt {D : va_G} {cl : List vw_C} {ws : va_W} {H1 : Heap} (h : va_P D cl ws H1) {k : Nat} {q : Nat × va_E} (hk : ws[k]? = some q) : q.1 < H1.size := (h k q hk).lt
end VXS
/-! ===== END ===== -/
/-! ===== BEGIN methods with a table of their own: called by a name, returning or throwing ===== -/
section VXH
/-! vx_backW, vx_callVX, vx_callSX, vx_callVW, vx_runVW, vx_runVX, vx_runSX, vx_ofWH follow the same proofs as their sisters above (Free/Laws.lean, Shelf42/LK1.lean); vx_outP calls Shelf42/NT130.lean (outThrough). -/
section
variable {l : Launch} {R : Room} {p : Program} {e : Env} {below : List Frame} {s : State} {sargs : Array Value} {y : MethodName} {len W9 : Nat}
theorem vx_backW {ws : List Cond} {rm : Room} {Pc : Array Value → State → Prop} {Qc : Array Value → State → Outcome → State → Prop} {XC : String → State → State → Prop} {mc ms : Nat} {free : Addr → Prop} {bytes : ByteArray} {maxL : Nat} {ret : Option FieldType} {hh : List (Nat × Nat × Nat × Nat)}
    (hM : vx_Met l y ws rm Pc Qc XC mc ms free) (hblind : FrameBlind Pc) (hrc : rm.cells = mc) (hrs : rm.slots = ms)
    (hframes : rm.frames + 1 ≤ R.frames) (hlocals : W9 + (maxL + 11) + rm.locals ≤ R.locals)
    (hws : ∀ w ∈ ws, ∀ a' U, s.WarmedH U.vm → w.before a' U = true) (hcode : Cond.codeWith y bytes maxL ret hh ∈ ws) (hinit : ∀ a' U, s.WarmedH U.vm → (Cond.initialized y.cls).before a' U = true) :
    vx_Back l R p e below s sargs y len W9 (PreOf R mc ms Pc) (PostOf Qc mc ms free) (vx_Post XC mc ms free) := by
  intro m meth c A g ig mk a X hg hsize hdg hW hn hp
  have h1 : (headSpec ws rm).pre.before a A.U = true := atoms_intro fun w hw => hws w hw _ _ X.warmed
  have h2 : (Cond.codeWith y bytes maxL ret hh).before a A.U = true := hws _ hcode _ _ X.warmed
  have h3 : (Cond.initialized y.cls).before a A.U = true := hinit _ _ X.warmed
  have h4 : A.cells + (headSpec ws rm).room.cells ≤ R.cells := by rw [show (headSpec ws rm).room.cells = mc from hrc]; exact hp.1
  have h5 : A.slots + (headSpec ws rm).room.slots ≤ R.slots := by rw [show (headSpec ws rm).room.slots = ms from hrs]; exact hp.2.1
  have hPc : Pc a (A.U.calling g mk a) := hblind _ _ _ _ hp.2.2
  obtain ⟨U, Ls, c0, s0⟩ := A
  dsimp only [Pt.U, Pt.locs, Pt.cells, Pt.slots] at h1 h2 h3 h4 h5 X hn hPc ⊢
  obtain ⟨m9, methY, cY, hn9, hmY, hcY, -, hlY, -⟩ := Cond.codeWith_spec h2
  cases Option.some.inj (hn9.symm.trans hn)
  obtain ⟨kY, hkY, -⟩ := className_of_methodNamed hn
  have hinitY : kY.init = .initialized := Cond.initialized_spec (findClass_of_methodNamed hn) hkY h3
  have h : At U g.method c below := by rw [hg]; exact X.here
  have hlocals9 : W9 + (maxL + 11) + (headSpec ws rm).room.locals ≤ R.locals := hlocals
  have happ : (headSpec ws rm).appliesLoose y e.platform (U.calling g mk a) = true :=
    Spec.appliesLoose_calling (g := g) h hdg hn hkY hinitY
      (X.room_calling (g := g) (R' := (headSpec ws rm).room) hsize hmY hcY hframes (by rw [hlY]; omega) h4 h5) h1
  obtain ⟨mid, hmid⟩ := h.above
  have hfr : (U.setTop g).frames = (.java g :: mid) ++ below := by rw [State.frames_setTop' g h.top, hmid]; rfl
  obtain ⟨o, s₂, hsteps, -, hend, hq⟩ := Steps.callFree hM p X.admits X.cas X.clock (acts := []) hfr happ hPc trivial
  have hq' : vx_Q Qc XC mc ms free a (U.calling g mk a) o s₂ := hq
  rw [State.frames_setTop' g h.top] at hend
  obtain ⟨g₀, hg0⟩ := Option.isSome_iff_exists.mp h.top
  obtain ⟨r, hr⟩ := State.topJava?_eq_some.mp hg0
  have hr' : (({ U with heap := s₂.heap, slotsUsed := s₂.slotsUsed } : State).setVm s₂.vm).frames = .java g₀ :: r := hr
  rcases hq' with ⟨hqc, L, hfe, hL⟩ | ⟨q, rfl, E, ce, L, hx, hce, hcv, hcl, hW₂, hsm, hL⟩
  · obtain ⟨⟨v, rfl⟩, hW₂, e2, q2, q3, q4, q5, q6⟩ := id hfe
    have e3 : s₂ = ({ (U.calling g mk a).setFrames s₂.frames with heap := s₂.heap, slotsUsed := s₂.slotsUsed } : State).setVm s₂.vm := by
      have : s₂ = ({ s₂ with vm := (U.calling g mk a).vm } : State).setVm s₂.vm := rfl
      rw [e2] at this
      exact this
    obtain ⟨c₂, i₂, len₂, hc₂, hd₂, hf₂⟩ := hend
    have hW' : U.WarmedH s₂.vm := hW₂
    have hcc : c₂ = c := by
      have h1 : s₂.code? g.method = U.code? g.method := by
        rw [State.code?_eq, State.code?_eq, hW'.alike.method?]
      exact Option.some.inj (hc₂.symm.trans (h1.trans h.code))
    subst hcc
    have hlen : len₂ = len := by rw [hdg] at hd₂; cases hd₂; rfl
    subst hlen
    have hs₂ : s₂ = (({ U with heap := s₂.heap, slotsUsed := s₂.slotsUsed } : State).setVm s₂.vm).setTop { g with pc := g.pc + len₂, stack := v.toList ++ g.stack } := by
      refine e3.trans ?_
      rw [hf₂, State.calling_eq h.top, State.setFrames_setFrames, State.setTop_of_frames _ hr', hr]
      rfl
    have hsame : U.sameButNew ({ U with heap := s₂.heap, slotsUsed := s₂.slotsUsed } : State) L mc ms := by
      refine ⟨?_, q2, q3, q4, q5, q6⟩
      obtain ⟨t, ht, -⟩ := State.frames_cons hr
      show ({ U with heap := s₂.heap, slotsUsed := s₂.slotsUsed } : State) = { U.setFrames U.frames with heap := s₂.heap, slotsUsed := s₂.slotsUsed }
      rw [State.setFrames_self ht]
    subst hg
    refine Or.inl ⟨v, ⟨(({ U with heap := s₂.heap, slotsUsed := s₂.slotsUsed } : State).setVm s₂.vm), Ls ++ L, c0 + mc, s0 + ms⟩,
      ⟨X.admits, X.cas, X.clock, X.frames, X.room, X.hears, X.method, X.code, (X.here.setHeapUsed s₂.heap s₂.slotsUsed).setVm hW'.alike, X.tail, State.WarmedH.trans X.warmed hW', X.limits, X.bytes, X.same.trans (hsame.setVm s.vm)⟩,
      ⟨g, mk, s₂, L, rfl, rfl, hqc, rfl, hL, rfl, rfl⟩, ?_⟩
    show Steps p.tables e below _ ((({ U with heap := s₂.heap, slotsUsed := s₂.slotsUsed } : State).setVm s₂.vm).setTop { g with pc := g.pc + len₂, stack := v.toList ++ g.stack })
    rw [← hs₂]
    exact hsteps
  · obtain ⟨e2, q2, q3, q4, q5, q6⟩ := id hsm
    have e3 : s₂ = ({ (U.calling g mk a).setFrames s₂.frames with heap := s₂.heap, slotsUsed := s₂.slotsUsed } : State).setVm s₂.vm := by
      have : s₂ = ({ s₂ with vm := (U.calling g mk a).vm } : State).setVm s₂.vm := rfl
      rw [e2] at this
      exact this
    have hf₂ : s₂.frames = .throwing q :: .java g :: U.frames.tail := hend
    have hW' : U.WarmedH s₂.vm := hW₂
    have hs₂ : s₂ = ((({ U with heap := s₂.heap, slotsUsed := s₂.slotsUsed } : State).setVm s₂.vm).setTop g).pushFrame (.throwing q) := by
      refine e3.trans ?_
      rw [hf₂, State.calling_eq h.top, State.setFrames_setFrames, State.pushFrame, State.frames_setTop _ hr', State.setTop_of_frames _ hr', State.setFrames_setFrames, hr]
      rfl
    have hsame : U.sameButNew ({ U with heap := s₂.heap, slotsUsed := s₂.slotsUsed } : State) L mc ms := by
      refine ⟨?_, q2, q3, q4, q5, q6⟩
      obtain ⟨t, ht, -⟩ := State.frames_cons hr
      show ({ U with heap := s₂.heap, slotsUsed := s₂.slotsUsed } : State) = { U.setFrames U.frames with heap := s₂.heap, slotsUsed := s₂.slotsUsed }
      rw [State.setFrames_self ht]
    subst hg
    refine Or.inr ⟨q, ⟨(({ U with heap := s₂.heap, slotsUsed := s₂.slotsUsed } : State).setVm s₂.vm), Ls ++ L, c0 + mc, s0 + ms⟩,
      ⟨X.admits, X.cas, X.clock, X.frames, X.room, X.hears, X.method, X.code, (X.here.setHeapUsed s₂.heap s₂.slotsUsed).setVm hW'.alike, X.tail, State.WarmedH.trans X.warmed hW', X.limits, X.bytes, X.same.trans (hsame.setVm s.vm)⟩,
      ⟨g, mk, s₂, L, E, ce, rfl, rfl, hx, hce, hcv, hcl, rfl, hL, rfl, rfl⟩, ?_⟩
    show Steps p.tables e below _ (((({ U with heap := s₂.heap, slotsUsed := s₂.slotsUsed } : State).setVm s₂.vm).setTop g).pushFrame (.throwing q))
    rw [← hs₂]
    exact hsteps
end
variable {p : Program} {l : Launch} {e : Env} {R : Room} {s : State} {m : MethodId} {args : Array Value} {below : List Frame} {meth : Method} {c : Code} {T : State} {H : Heap} {locs : List Loc} {cells slots : Nat}
theorem vx_callVX (X : Stand p l e R s m args below meth c T locs cells slots) (hexec : p.tables.exec = Jvm.exec) {own C : String} {index : Nat} {y : MethodName} {bytes : ByteArray} {maxL : Nat} {ret : Option FieldType} {hh : List (Nat × Nat × Nat × Nat)}
    (hown : s.vm.findClass own = some m.cls) (hlink : (Cond.methodLink own index y).before args s = true) (hinst : (Cond.instanceMethod y).before args s = true) (hsel : (Cond.selects C y y).before args s = true)
    (hcode : (Cond.codeWith y bytes maxL ret hh).before args s = true) (hy : y.cls ≠ "java/lang/invoke/MethodHandle" ∧ y.cls ≠ "java/lang/invoke/VarHandle")
    {W9 : Nat} {Pre : Pt → Array Value → Prop} {Post : Pt → Array Value → Option Value → Pt → Prop} {PostX : Pt → Array Value → Addr → Pt → Prop} (hK : vx_Back l R p e below s args y 3 W9 Pre Post PostX)
    {b : Addr} {cellB : Cell} (hcell : T.heap[b]? = some cellB) (hobj : cellB.vm.isStatics = false) (hcls : s.vm.findClass C = some cellB.cls)
    {g : JFrame} (hg : g.method = m) (hsize : g.locals.size = c.maxLocals) {argsL rest : List Value} (hlen : ∀ sig, parseMethodDescriptor y.desc = some sig → argsL.length = sig.parameters.length)
    (hstack : g.stack = argsL.reverse ++ .ref b :: rest) (hW : 2 * g.monitorRoom + (rest.map fun v => v.category).sum ≤ W9) (hdg : decode c.code g.pc = .ok (.invokevirtual index, 3))
    (hpre : ∀ vm₁, s.WarmedH vm₁ → Pre ⟨T.setVm vm₁, locs, cells, slots⟩ (Value.ref b :: argsL).toArray) :
    (∃ (v : Option Value) (vm₁ : Vm) (B : Pt), s.WarmedH vm₁ ∧ Stand p l e R s m args below meth c B.U B.locs B.cells B.slots ∧ Post ⟨T.setVm vm₁, locs, cells, slots⟩ (Value.ref b :: argsL).toArray v B ∧
      ∀ target, Steps p.tables e below (B.U.setTop { g with pc := g.pc + 3, stack := v.toList ++ rest }) target → Steps p.tables e below (T.setTop g) target) ∨
    (∃ (q : Addr) (vm₁ : Vm) (B : Pt), s.WarmedH vm₁ ∧ Stand p l e R s m args below meth c B.U B.locs B.cells B.slots ∧ PostX ⟨T.setVm vm₁, locs, cells, slots⟩ (Value.ref b :: argsL).toArray q B ∧
      Steps p.tables e below (T.setTop g) ((B.U.setTop { g with stack := rest }).pushFrame (.throwing q))) := by
  obtain ⟨mk, methM, hnamed, hmethM, hstM, habM⟩ := Cond.instanceMethod_spec hinst
  obtain ⟨m8, methM', cM, hn8, hmethM', -, -, -, -, -, -, hsigM⟩ := Cond.codeWith_spec hcode
  cases Option.some.inj (hn8.symm.trans hnamed)
  cases hmethM.symm.trans hmethM'
  obtain ⟨c2, r2, m2, q1, q2, q3, q4, kP, hkP, hkPi⟩ := Cond.selects_spec hsel
  cases hcls.symm.trans q1
  cases (State.methodFound?_of_named hnamed hy).symm.trans q2
  cases hnamed.symm.trans q3
  have hselP : selectMethod e.platform s.vm cellB.cls mk = .method mk := by rw [Launch.admits_selectMethod X.admits]; exact q4
  obtain ⟨vm₁, X₁, hstep₁⟩ := X.invokevirtual hexec hown hlink hnamed hmethM hstM hkP hkPi hy (a := b) (cell := cellB) hcell
    (fun z h => by rw [h] at hobj; cases hobj) hselP hmethM habM hkP hkPi (g := g) hg (argsL := argsL) (rest := rest) (hlen _ hsigM) hstack hdg
  rcases hK m meth c ⟨T.setVm vm₁, locs, cells, slots⟩ { g with stack := rest } (.invokevirtual index) mk (Value.ref b :: argsL).toArray X₁ hg hsize hdg hW (X₁.named hnamed) (hpre vm₁ X₁.warmed) with ⟨v, B, X', hpost, hsteps⟩ | ⟨q, B, X', hpost, hsteps⟩
  · exact Or.inl ⟨v, vm₁, B, X₁.warmed, X', hpost, fun target h => hstep₁ _ fun acts => by rw [doInvoke_state]; exact hsteps.trans h⟩
  · exact Or.inr ⟨q, vm₁, B, X₁.warmed, X', hpost, hstep₁ _ fun acts => by rw [doInvoke_state]; exact hsteps⟩
theorem vx_callSX (X : Stand p l e R s m args below meth c T locs cells slots) (hexec : p.tables.exec = Jvm.exec) {own : String} {index : Nat} {y : MethodName} {bytes : ByteArray} {maxL : Nat} {ret : Option FieldType} {hh : List (Nat × Nat × Nat × Nat)}
    (hown : s.vm.findClass own = some m.cls) (hlink : (Cond.methodLink own index y).before args s = true) (hstat : (Cond.static y).before args s = true) (hinit : (Cond.initialized y.cls).before args s = true)
    (hcode : (Cond.codeWith y bytes maxL ret hh).before args s = true) (hy : y.cls ≠ "java/lang/invoke/MethodHandle" ∧ y.cls ≠ "java/lang/invoke/VarHandle")
    {W9 : Nat} {Pre : Pt → Array Value → Prop} {Post : Pt → Array Value → Option Value → Pt → Prop} {PostX : Pt → Array Value → Addr → Pt → Prop} (hK : vx_Back l R p e below s args y 3 W9 Pre Post PostX)
    {g : JFrame} (hg : g.method = m) (hsize : g.locals.size = c.maxLocals) {argsL rest : List Value} (hlen : ∀ sig, parseMethodDescriptor y.desc = some sig → argsL.length = sig.parameters.length)
    (hstack : g.stack = argsL.reverse ++ rest) (hW : 2 * g.monitorRoom + (rest.map fun v => v.category).sum ≤ W9) (hdg : decode c.code g.pc = .ok (.invokestatic index, 3))
    (hpre : ∀ vm₁, s.WarmedH vm₁ → Pre ⟨T.setVm vm₁, locs, cells, slots⟩ argsL.toArray) :
    (∃ (v : Option Value) (vm₁ : Vm) (B : Pt), s.WarmedH vm₁ ∧ Stand p l e R s m args below meth c B.U B.locs B.cells B.slots ∧ Post ⟨T.setVm vm₁, locs, cells, slots⟩ argsL.toArray v B ∧
      ∀ target, Steps p.tables e below (B.U.setTop { g with pc := g.pc + 3, stack := v.toList ++ rest }) target → Steps p.tables e below (T.setTop g) target) ∨
    (∃ (q : Addr) (vm₁ : Vm) (B : Pt), s.WarmedH vm₁ ∧ Stand p l e R s m args below meth c B.U B.locs B.cells B.slots ∧ PostX ⟨T.setVm vm₁, locs, cells, slots⟩ argsL.toArray q B ∧
      Steps p.tables e below (T.setTop g) ((B.U.setTop { g with stack := rest }).pushFrame (.throwing q))) := by
  obtain ⟨mk, methM, cM, hnamed, hmethM, -, -, -, -, -, -, hsigM⟩ := Cond.codeWith_spec hcode
  have hstatic : methM.isStatic = true := Cond.static_spec hnamed hmethM hstat
  obtain ⟨kP, hkP, -⟩ := className_of_methodNamed hnamed
  have hinitP : kP.init = .initialized := Cond.initialized_spec (findClass_of_methodNamed hnamed) hkP hinit
  obtain ⟨vm₁, X₁, hstep₁⟩ := X.invokestatic hexec hown hlink hnamed hmethM hstatic hkP hinitP hy (g := g) hg (argsL := argsL) (rest := rest) (hlen _ hsigM) hstack hdg
  rcases hK m meth c ⟨T.setVm vm₁, locs, cells, slots⟩ { g with stack := rest } (.invokestatic index) mk argsL.toArray X₁ hg hsize hdg hW (X₁.named hnamed) (hpre vm₁ X₁.warmed) with ⟨v, B, X', hpost, hsteps⟩ | ⟨q, B, X', hpost, hsteps⟩
  · exact Or.inl ⟨v, vm₁, B, X₁.warmed, X', hpost, fun target h => hstep₁ _ fun acts => by rw [doInvoke_state]; exact hsteps.trans h⟩
  · exact Or.inr ⟨q, vm₁, B, X₁.warmed, X', hpost, hstep₁ _ fun acts => by rw [doInvoke_state]; exact hsteps⟩
theorem vx_callVW (X : Stand p l e R s m args below meth c T locs cells slots) (hexec : p.tables.exec = Jvm.exec) {own C : String} {index : Nat} {y : MethodName} {bytes : ByteArray} {maxL : Nat} {ret : Option FieldType} {hh : List (Nat × Nat × Nat × Nat)}
    (hown : s.vm.findClass own = some m.cls) (hlink : (Cond.methodLink own index y).before args s = true) (hinst : (Cond.instanceMethod y).before args s = true) (hsel : (Cond.selects C y y).before args s = true)
    (hcode : (Cond.codeWith y bytes maxL ret hh).before args s = true) (hy : y.cls ≠ "java/lang/invoke/MethodHandle" ∧ y.cls ≠ "java/lang/invoke/VarHandle")
    {W9 : Nat} {Pre : Pt → Array Value → Prop} {Post : Pt → Array Value → Option Value → Pt → Prop} (hK : Back l R p e below s args y 3 W9 Pre Post)
    {b : Addr} {cellB : Cell} (hcell : T.heap[b]? = some cellB) (hobj : cellB.vm.isStatics = false) (hcls : s.vm.findClass C = some cellB.cls)
    {g : JFrame} (hg : g.method = m) (hsize : g.locals.size = c.maxLocals) {argsL rest : List Value} (hlen : ∀ sig, parseMethodDescriptor y.desc = some sig → argsL.length = sig.parameters.length)
    (hstack : g.stack = argsL.reverse ++ .ref b :: rest) (hW : 2 * g.monitorRoom + (rest.map fun v => v.category).sum ≤ W9) (hdg : decode c.code g.pc = .ok (.invokevirtual index, 3))
    (hpre : ∀ vm₁, s.WarmedH vm₁ → Pre ⟨T.setVm vm₁, locs, cells, slots⟩ (Value.ref b :: argsL).toArray) :
    ∃ (v : Option Value) (vm₁ : Vm) (B : Pt), s.WarmedH vm₁ ∧ Stand p l e R s m args below meth c B.U B.locs B.cells B.slots ∧ Post ⟨T.setVm vm₁, locs, cells, slots⟩ (Value.ref b :: argsL).toArray v B ∧
      ∀ target, Steps p.tables e below (B.U.setTop { g with pc := g.pc + 3, stack := v.toList ++ rest }) target → Steps p.tables e below (T.setTop g) target := by
  obtain ⟨mk, methM, hnamed, hmethM, hstM, habM⟩ := Cond.instanceMethod_spec hinst
  obtain ⟨m8, methM', cM, hn8, hmethM', -, -, -, -, -, -, hsigM⟩ := Cond.codeWith_spec hcode
  cases Option.some.inj (hn8.symm.trans hnamed)
  cases hmethM.symm.trans hmethM'
  obtain ⟨c2, r2, m2, q1, q2, q3, q4, kP, hkP, hkPi⟩ := Cond.selects_spec hsel
  cases hcls.symm.trans q1
  cases (State.methodFound?_of_named hnamed hy).symm.trans q2
  cases hnamed.symm.trans q3
  have hselP : selectMethod e.platform s.vm cellB.cls mk = .method mk := by rw [Launch.admits_selectMethod X.admits]; exact q4
  obtain ⟨vm₁, X₁, hstep₁⟩ := X.invokevirtual hexec hown hlink hnamed hmethM hstM hkP hkPi hy (a := b) (cell := cellB) hcell
    (fun z h => by rw [h] at hobj; cases hobj) hselP hmethM habM hkP hkPi (g := g) hg (argsL := argsL) (rest := rest) (hlen _ hsigM) hstack hdg
  obtain ⟨v, B, X', hpost, hsteps⟩ := hK m meth c ⟨T.setVm vm₁, locs, cells, slots⟩ { g with stack := rest } (.invokevirtual index) mk (Value.ref b :: argsL).toArray X₁ hg hsize hdg hW (X₁.named hnamed) (hpre vm₁ X₁.warmed)
  exact ⟨v, vm₁, B, X₁.warmed, X', hpost, fun target h => hstep₁ _ fun acts => by rw [doInvoke_state]; exact hsteps.trans h⟩
abbrev vx_CVW (R : Room) (s : State) (args : Array Value) (own C : String) (index : Nat) (y : MethodName) (bytes : ByteArray) (maxL : Nat) (ret : Option FieldType) (hh : List (Nat × Nat × Nat × Nat)) (ws : List Cond) (rm : Room) (mc ms n : Nat) : Prop :=
  (rm.cells = mc ∧ rm.slots = ms ∧ rm.frames + 1 ≤ R.frames ∧ 8 + (maxL + 11) + rm.locals ≤ R.locals ∧ (∀ w ∈ ws, ∀ (a' : Array Value) (U : State), s.WarmedH U.vm → w.before a' U = true) ∧ Cond.codeWith y bytes maxL ret hh ∈ ws) ∧
  (Cond.codeWith y bytes maxL ret hh).before args s = true ∧ (Cond.initialized y.cls).before args s = true ∧ (y.cls ≠ "java/lang/invoke/MethodHandle" ∧ y.cls ≠ "java/lang/invoke/VarHandle") ∧
  (∀ sig, parseMethodDescriptor y.desc = some sig → n = sig.parameters.length) ∧ (Cond.methodLink own index y).before args s = true ∧ (Cond.instanceMethod y).before args s = true ∧ (Cond.selects C y y).before args s = true
theorem vx_cwVW {own C : String} {index maxL mc ms : Nat} {y : MethodName} {bytes : ByteArray} {ret : Option FieldType} {hh : List (Nat × Nat × Nat × Nat)} {Ts ws ws' : List Cond} {rm : Room} (n : Nat) (ht : ∀ w ∈ Ts, w.before args s = true) (hT : GoodIn Ts (wsV own index C y ws)) (hw : ws = Cond.codeWith y bytes maxL ret hh :: ws') (hrc : rm.cells = mc) (hrs : rm.slots = ms)
    (hd : y.cls = C ∧ y.cls ≠ "java/lang/invoke/MethodHandle" ∧ y.cls ≠ "java/lang/invoke/VarHandle" ∧ (parseMethodDescriptor y.desc).map (fun d => d.parameters.length) = some n) (hR : rm.frames + 1 ≤ R.frames ∧ 8 + (maxL + 11) + rm.locals ≤ R.locals) :
    vx_CVW R s args own C index y bytes maxL ret hh ws rm mc ms n := by
  obtain ⟨hC, hd⟩ := hd
  subst hC
  have ok : ∀ w ∈ wsV own index y.cls y ws, w.before args s = true := fun w h => ht w (hT w h).1
  have hG : GoodIn Ts ws := fun w h => hT w (by unfold wsV; exact List.mem_append_right _ h)
  have hc : Cond.codeWith y bytes maxL ret hh ∈ ws := by rw [hw]; exact List.mem_cons_self
  refine ⟨⟨hrc, hrs, hR.1, hR.2, pay_in ht hG, hc⟩, ht _ (hG _ hc).1, ok _ (by simp [wsV]), ⟨hd.1, hd.2.1⟩, fun sig h => ?_, ok _ (by simp [wsV]), ok _ (by simp [wsV]), ok _ (by simp [wsV])⟩
  have h2 := hd.2.2
  rw [h] at h2
  exact (Option.some.inj h2).symm
theorem vx_runVW {y : MethodName} {bytes cc : ByteArray} {maxL nL mc ms n index : Nat} {ret : Option FieldType} {hh : List (Nat × Nat × Nat × Nat)} {ws : List Cond} {rm : Room} {Pc : Array Value → State → Prop} {Qc : Array Value → State → Outcome → State → Prop} {free : Addr → Prop} {Ts : List Cond} {own C : String} {b : Addr} {As rest : List Value} {g : JFrame}
    (S : CallFix p m c cc nL s args Ts own) (hM : Met l y ws rm Pc Qc mc ms free) (cw : vx_CVW R s args own C index y bytes maxL ret hh ws rm mc ms n) (hp : PreV s H C b Pc As)
    (hg : g.method = m) (hn : As.length = n) (hsize : g.locals.size = nL) (hstack : g.stack = As.reverse ++ .ref b :: rest) (hW : 2 * g.monitorRoom + (rest.map fun v => v.category).sum ≤ 8) (hdg : decode cc g.pc = .ok (.invokevirtual index, 3)) (hf : cells + mc ≤ R.cells ∧ slots + ms ≤ R.slots) :
    va_Run p l e R s m args below meth c H locs cells slots mc ms g rest (Qc (Value.ref b :: As).toArray) free := by
  obtain ⟨⟨hrc, hrs, hfr, hlo, hws, hcw⟩, hcode, hini, hy, hlen, hl, hin, hse⟩ := cw
  have hK : Back l R p e below s args y 3 8 (PreOf R mc ms Pc) (PostOf Qc mc ms free) := va_backW (hh := hh) (bytes := bytes) (maxL := maxL) (ret := ret) hM hp.1 hrc hrs hfr hlo hws hcw (fun a' U hW => word_at hW (Or.inl (by first | rfl | simp [Cond.onTables, Cond.keeps, Cond.steady])) hini)
  obtain ⟨hx, hb, hml, ho, -⟩ := S
  obtain ⟨-, ⟨cellB, hcB, hoB, hclB⟩, hPc⟩ := hp
  intro T hT X
  obtain ⟨v, vm₁, ⟨U', l2, c2, s2⟩, hW₁, X', ⟨g', mk, t, L, e1, e2, hq, h1, hL, h2, h3⟩, st⟩ := vx_callVW X hx (C := C) (hh := hh) (bytes := bytes) (maxL := maxL) (ret := ret) ho hl hin hse hcode hy hK (by rw [hT]; exact hcB) hoB hclB hg (hsize.trans hml.symm) (argsL := As) (rest := rest) (fun sig h => hn.trans (hlen sig h)) hstack hW (by rw [hb]; exact hdg)
    (fun vm₁ hW₁ => ⟨hf.1, hf.2, hPc (T.setVm vm₁) hT hW₁⟩)
  dsimp only [Pt.U, Pt.locs, Pt.cells, Pt.slots] at X' e1 e2 h1 h2 h3 st
  subst h1; subst h2; subst h3
  exact ⟨v, (T.setVm vm₁).calling g' mk (Value.ref b :: As).toArray, t, U', L, hT, X', hL, e1, e2, hq, st⟩
section
variable {y : MethodName} {bytes cc : ByteArray} {maxL nL mc ms n index : Nat} {ret : Option FieldType} {ws : List Cond} {rm : Room} {Pc : Array Value → State → Prop} {Qc : Array Value → State → Outcome → State → Prop} {XC : String → State → State → Prop} {free : Addr → Prop} {Ts : List Cond} {own C : String} {b : Addr} {As rest : List Value} {g : JFrame}
theorem vx_runVX {hh : List (Nat × Nat × Nat × Nat)} (S : CallFix p m c cc nL s args Ts own) (hM : vx_Met l y ws rm Pc Qc XC mc ms free) (cw : vx_CVW R s args own C index y bytes maxL ret hh ws rm mc ms n) (hp : PreV s H C b Pc As)
    (hg : g.method = m) (hn : As.length = n) (hsize : g.locals.size = nL) (hstack : g.stack = As.reverse ++ .ref b :: rest) (hW : 2 * g.monitorRoom + (rest.map fun v => v.category).sum ≤ 8) (hdg : decode cc g.pc = .ok (.invokevirtual index, 3)) (hf : cells + mc ≤ R.cells ∧ slots + ms ≤ R.slots) :
    vx_Run p l e R s m args below meth c H locs cells slots mc ms g rest (Qc (Value.ref b :: As).toArray) XC free := by
  obtain ⟨⟨hrc, hrs, hfr, hlo, hws, hcw⟩, hcode, hini, hy, hlen, hl, hin, hse⟩ := cw
  have hK : vx_Back l R p e below s args y 3 8 (PreOf R mc ms Pc) (PostOf Qc mc ms free) (vx_Post XC mc ms free) := vx_backW (hh := hh) (bytes := bytes) (maxL := maxL) (ret := ret) hM hp.1 hrc hrs hfr hlo hws hcw (fun a' U hW => word_at hW (Or.inl (by first | rfl | simp [Cond.onTables, Cond.keeps, Cond.steady])) hini)
  obtain ⟨hx, hb, hml, ho, -⟩ := S
  obtain ⟨-, ⟨cellB, hcB, hoB, hclB⟩, hPc⟩ := hp
  intro T hT X
  rcases vx_callVX X hx (C := C) (hh := hh) (bytes := bytes) (maxL := maxL) (ret := ret) ho hl hin hse hcode hy hK (by rw [hT]; exact hcB) hoB hclB hg (hsize.trans hml.symm) (argsL := As) (rest := rest) (fun sig h => hn.trans (hlen sig h)) hstack hW (by rw [hb]; exact hdg)
    (fun vm₁ hW₁ => ⟨hf.1, hf.2, hPc (T.setVm vm₁) hT hW₁⟩) with ⟨v, vm₁, ⟨U', l2, c2, s2⟩, hW₁, X', ⟨g', mk, t, L, e1, e2, hq, h1, hL, h2, h3⟩, st⟩ | ⟨q, vm₁, ⟨U', l2, c2, s2⟩, hW₁, X', ⟨g', mk, t, L, E, ce, e1, e2, hq, hce, hcv, hcl, h1, hL, h2, h3⟩, st⟩
  · dsimp only [Pt.U, Pt.locs, Pt.cells, Pt.slots] at X' e1 e2 h1 h2 h3 st
    subst h1; subst h2; subst h3
    exact Or.inl ⟨v, (T.setVm vm₁).calling g' mk (Value.ref b :: As).toArray, t, U', L, hT, X', hL, e1, e2, hq, st⟩
  · dsimp only [Pt.U, Pt.locs, Pt.cells, Pt.slots] at X' e1 e2 h1 h2 h3 st hcl
    subst h1; subst h2; subst h3
    exact Or.inr ⟨q, (T.setVm vm₁).calling g' mk (Value.ref b :: As).toArray, t, U', L, E, ce, hT, X', hL, e1, e2, hq, hce, hcv, vx_cls hW₁ hcl, st⟩
theorem vx_runSX {hh : List (Nat × Nat × Nat × Nat)} (S : CallFix p m c cc nL s args Ts own) (hM : vx_Met l y ws rm Pc Qc XC mc ms free) (cw : vx_CSW R s args own index y bytes maxL ret hh ws rm mc ms n) (hp : PreS s H Pc As)
    (hg : g.method = m) (hn : As.length = n) (hsize : g.locals.size = nL) (hstack : g.stack = As.reverse ++ rest) (hW : 2 * g.monitorRoom + (rest.map fun v => v.category).sum ≤ 8) (hdg : decode cc g.pc = .ok (.invokestatic index, 3)) (hf : cells + mc ≤ R.cells ∧ slots + ms ≤ R.slots) :
    vx_Run p l e R s m args below meth c H locs cells slots mc ms g rest (Qc As.toArray) XC free := by
  obtain ⟨⟨hrc, hrs, hfr, hlo, hws, hcw⟩, hcode, hini, hy, hlen, hl, hstt⟩ := cw
  have hK : vx_Back l R p e below s args y 3 8 (PreOf R mc ms Pc) (PostOf Qc mc ms free) (vx_Post XC mc ms free) := vx_backW (hh := hh) (bytes := bytes) (maxL := maxL) (ret := ret) hM hp.1 hrc hrs hfr hlo hws hcw (fun a' U hW => word_at hW (Or.inl (by first | rfl | simp [Cond.onTables, Cond.keeps, Cond.steady])) hini)
  obtain ⟨hx, hb, hml, ho, -⟩ := S
  intro T hT X
  rcases vx_callSX X hx (hh := hh) (bytes := bytes) (maxL := maxL) (ret := ret) ho hl hstt hini hcode hy hK hg (hsize.trans hml.symm) (argsL := As) (rest := rest) (fun sig h => hn.trans (hlen sig h)) hstack hW (by rw [hb]; exact hdg)
    (fun vm₁ hW₁ => ⟨hf.1, hf.2, hp.2 (T.setVm vm₁) hT hW₁⟩) with ⟨v, vm₁, ⟨U', l2, c2, s2⟩, hW₁, X', ⟨g', mk, t, L, e1, e2, hq, h1, hL, h2, h3⟩, st⟩ | ⟨q, vm₁, ⟨U', l2, c2, s2⟩, hW₁, X', ⟨g', mk, t, L, E, ce, e1, e2, hq, hce, hcv, hcl, h1, hL, h2, h3⟩, st⟩
  · dsimp only [Pt.U, Pt.locs, Pt.cells, Pt.slots] at X' e1 e2 h1 h2 h3 st
    subst h1; subst h2; subst h3
    exact Or.inl ⟨v, (T.setVm vm₁).calling g' mk As.toArray, t, U', L, hT, X', hL, e1, e2, hq, st⟩
  · dsimp only [Pt.U, Pt.locs, Pt.cells, Pt.slots] at X' e1 e2 h1 h2 h3 st hcl
    subst h1; subst h2; subst h3
    exact Or.inr ⟨q, (T.setVm vm₁).calling g' mk As.toArray, t, U', L, E, ce, hT, X', hL, e1, e2, hq, hce, hcv, vx_cls hW₁ hcl, st⟩
end
end VXH
theorem vx_ofWH {l : Launch} {y : MethodName} {ws ws' : List Cond} {rm : Room} {Pc : Array Value → State → Prop} {Qc : Array Value → State → Outcome → State → Prop} {XC : String → State → State → Prop} {mc ms : Nat} {free : Addr → Prop} {cc : ByteArray} {maxL : Nat} {ret : Option FieldType} {hh : List (Nat × Nat × Nat × Nat)}
    (hy : plainName y.cls = true) (hw : ws = Cond.codeWith y cc maxL ret hh :: ws')
    (body : ∀ p e s m args below meth c s₁, BodyLoose p l y (headSpec ws rm) cc maxL ret e s m args below meth c s₁ → c.maxLocals = maxL → Pc args s →
      W p l e (headSpec ws rm).room s m args below meth c s.heap [] 0 0 (vx_MQ below Qc XC args s mc ms free) (entryFrame m args maxL)) : vx_Met l y ws rm Pc Qc XC mc ms free := by
  refine MetFree.of_bodyS (code := cc) (maxLocals := maxL) (ret := ret) hy ?_ ?_
  · intro args s m h hn
    obtain ⟨m9, meth, c, hn9, h1, h2, h3, h4, -, h5, h6, -⟩ := Cond.codeWith_spec (atoms_spec (ws := ws) h _ (by rw [hw]; exact List.mem_cons_self))
    cases hn.symm.trans hn9
    exact ⟨meth, c, h1, h2, h3, h4, h5, h6⟩
  · intro p e s m args below meth c s₁ B hml hP _
    have hh0 : s₁.heap = s.heap := by rw [B.state]; rfl
    obtain ⟨t, a1, o, b1, b2, b3⟩ := body p e s m args below meth c s₁ B hml hP s₁ hh0 (Stand.of_body B)
    exact ⟨t, o, a1, b1, b2, b3⟩
/-! ===== END ===== -/
end
section
/-! ===== BEGIN printed: names, fields, word lists, decode rows ===== -/
def RX0 : String := "CoinMechanism"
def TX0 : u_T := fun k => match k with
  | 0 => ("CoinMechanism", "kinds", "I", false)
  | 1 => ("CoinMechanism", "values", "[I", true)
  | 2 => ("CoinMechanism", "capacities", "[I", true)
  | 3 => ("CoinMechanism", "tubes", "[I", true)
  | 4 => ("CoinMechanism", "boxed", "[I", true)
  | 5 => ("CoinMechanism", "paid", "[I", true)
  | 6 => ("CoinMechanism", "accepted", "[Z", true)
  | 7 => ("CoinMechanism", "products", "I", false)
  | 8 => ("CoinMechanism", "prices", "[I", true)
  | 9 => ("CoinMechanism", "stocks", "[I", true)
  | 10 => ("CoinMechanism", "limit", "I", false)
  | 11 => ("CoinMechanism", "waiting", "I", false)
  | 12 => ("CoinMechanism", "waitingKinds", "[I", true)
  | 13 => ("CoinMechanism", "soldProduct", "I", false)
  | 14 => ("CoinMechanism", "soldPrice", "I", false)
  | 15 => ("CoinMechanism", "counters", "[J", true)
  | 16 => ("CoinMechanism", "scores", "[J", true)
  | _ => ("CoinMechanism", "tubesAfter", "[I", true)
def tyX0 : Nat → FieldType := fun k => match k with
  | 0 => .int
  | 1 => .array .int
  | 2 => .array .int
  | 3 => .array .int
  | 4 => .array .int
  | 5 => .array .int
  | 6 => .array .boolean
  | 7 => .int
  | 8 => .array .int
  | 9 => .array .int
  | 10 => .int
  | 11 => .int
  | 12 => .array .int
  | 13 => .int
  | 14 => .int
  | 15 => .array .long
  | 16 => .array .long
  | _ => .array .int
abbrev wsX00 : List Cond := u_ws RX0 TX0 18
theorem nmX0 : ∀ a, a < 18 → ∀ b, b < 18 → a ≠ b → (TX0 a).2.1 ≠ (TX0 b).2.1 := by decide +kernel
theorem tyX0_ok : ∀ k, k < 18 → parseFieldDescriptor (TX0 k).2.2.1 = some (tyX0 k) := by decide +kernel
abbrev cX0_init : ByteArray := prog_1_method_1_code
def yX0_init : MethodName := ⟨RX0, "<init>", "()V"⟩
abbrev cX0_addKind : ByteArray := prog_1_method_2_code
def yX0_addKind : MethodName := ⟨RX0, "addKind", "(II)I"⟩
abbrev cX0_fill : ByteArray := prog_1_method_3_code
def yX0_fill : MethodName := ⟨RX0, "fill", "(II)I"⟩
abbrev cX0_take : ByteArray := prog_1_method_4_code
def yX0_take : MethodName := ⟨RX0, "take", "(II)I"⟩
abbrev cX0_emptyBox : ByteArray := prog_1_method_5_code
def yX0_emptyBox : MethodName := ⟨RX0, "emptyBox", "()I"⟩
abbrev cX0_accept : ByteArray := prog_1_method_6_code
def yX0_accept : MethodName := ⟨RX0, "accept", "(IZ)Z"⟩
abbrev cX0_setLimit : ByteArray := prog_1_method_7_code
def yX0_setLimit : MethodName := ⟨RX0, "setLimit", "(I)I"⟩
abbrev cX0_addProduct : ByteArray := prog_1_method_8_code
def yX0_addProduct : MethodName := ⟨RX0, "addProduct", "(II)I"⟩
abbrev cX0_setProduct : ByteArray := prog_1_method_9_code
def yX0_setProduct : MethodName := ⟨RX0, "setProduct", "(III)I"⟩
abbrev cX0_product : ByteArray := prog_1_method_10_code
def yX0_product : MethodName := ⟨RX0, "product", "(IZ)I"⟩
abbrev cX0_insert : ByteArray := prog_1_method_11_code
def yX0_insert : MethodName := ⟨RX0, "insert", "(I)I"⟩
abbrev cX0_cancel : ByteArray := prog_1_method_12_code
def yX0_cancel : MethodName := ⟨RX0, "cancel", "()I"⟩
abbrev cX0_buy : ByteArray := prog_1_method_13_code
def yX0_buy : MethodName := ⟨RX0, "buy", "(I)I"⟩
abbrev cX0_refund : ByteArray := prog_1_method_14_code
def yX0_refund : MethodName := ⟨RX0, "refund", "()Z"⟩
abbrev cX0_credit : ByteArray := prog_1_method_15_code
def yX0_credit : MethodName := ⟨RX0, "credit", "()I"⟩
abbrev cX0_escrow : ByteArray := prog_1_method_16_code
def yX0_escrow : MethodName := ⟨RX0, "escrow", "(I)I"⟩
abbrev cX0_coins : ByteArray := prog_1_method_17_code
def yX0_coins : MethodName := ⟨RX0, "coins", "(II)I"⟩
abbrev cX0_fewest : ByteArray := prog_1_method_18_code
def yX0_fewest : MethodName := ⟨RX0, "fewest", "(I)I"⟩
abbrev cX0_part : ByteArray := prog_1_method_19_code
def yX0_part : MethodName := ⟨RX0, "part", "(II)I"⟩
abbrev cX0_below : ByteArray := prog_1_method_20_code
def yX0_below : MethodName := ⟨RX0, "below", "(I)I"⟩
abbrev cX0_gaps : ByteArray := prog_1_method_21_code
def yX0_gaps : MethodName := ⟨RX0, "gaps", "(I)I"⟩
abbrev cX0_unit : ByteArray := prog_1_method_22_code
def yX0_unit : MethodName := ⟨RX0, "unit", "()I"⟩
abbrev cX0_lamp : ByteArray := prog_1_method_23_code
def yX0_lamp : MethodName := ⟨RX0, "lamp", "()Z"⟩
abbrev cX0_audit : ByteArray := prog_1_method_24_code
def yX0_audit : MethodName := ⟨RX0, "audit", "(I)J"⟩
abbrev cX0_exactShare : ByteArray := prog_1_method_25_code
def yX0_exactShare : MethodName := ⟨RX0, "exactShare", "()D"⟩
abbrev cX0_digest : ByteArray := prog_1_method_26_code
def yX0_digest : MethodName := ⟨RX0, "digest", "()J"⟩
abbrev cX0_checkKind : ByteArray := prog_1_method_27_code
def yX0_checkKind : MethodName := ⟨RX0, "checkKind", "(I)V"⟩
abbrev cX0_checkProduct : ByteArray := prog_1_method_28_code
def yX0_checkProduct : MethodName := ⟨RX0, "checkProduct", "(I)V"⟩
abbrev cX0_checkMany : ByteArray := prog_1_method_29_code
def yX0_checkMany : MethodName := ⟨RX0, "checkMany", "(I)V"⟩
abbrev cX0_checkPriceAndStock : ByteArray := prog_1_method_30_code
def yX0_checkPriceAndStock : MethodName := ⟨RX0, "checkPriceAndStock", "(II)V"⟩
abbrev cX0_checkAmount : ByteArray := prog_1_method_31_code
def yX0_checkAmount : MethodName := ⟨RX0, "checkAmount", "(I)V"⟩
abbrev cX0_hasKindOfValue : ByteArray := prog_1_method_32_code
def yX0_hasKindOfValue : MethodName := ⟨RX0, "hasKindOfValue", "(I)Z"⟩
abbrev cX0_dividesAllValues : ByteArray := prog_1_method_33_code
def yX0_dividesAllValues : MethodName := ⟨RX0, "dividesAllValues", "(I)Z"⟩
abbrev cX0_toldOfKind : ByteArray := prog_1_method_34_code
def yX0_toldOfKind : MethodName := ⟨RX0, "toldOfKind", "(II)I"⟩
abbrev cX0_digestOfKinds : ByteArray := prog_1_method_35_code
def yX0_digestOfKinds : MethodName := ⟨RX0, "digestOfKinds", "(J)J"⟩
abbrev cX0_waitingOf : ByteArray := prog_1_method_36_code
def yX0_waitingOf : MethodName := ⟨RX0, "waitingOf", "(I)I"⟩
abbrev cX0_foreseeTubes : ByteArray := prog_1_method_37_code
def yX0_foreseeTubes : MethodName := ⟨RX0, "foreseeTubes", "()V"⟩
abbrev cX0_dropWaiting : ByteArray := prog_1_method_38_code
def yX0_dropWaiting : MethodName := ⟨RX0, "dropWaiting", "()V"⟩
abbrev cX0_payOut : ByteArray := prog_1_method_39_code
def yX0_payOut : MethodName := ⟨RX0, "payOut", "(J)V"⟩
abbrev cX0_countSale : ByteArray := prog_1_method_40_code
def yX0_countSale : MethodName := ⟨RX0, "countSale", "(II)V"⟩
abbrev cX0_scoreWays : ByteArray := prog_1_method_41_code
def yX0_scoreWays : MethodName := ⟨RX0, "scoreWays", "(I[I)V"⟩
abbrev cX0_addKindToWays : ByteArray := prog_1_method_42_code
def yX0_addKindToWays : MethodName := ⟨RX0, "addKindToWays", "(III)V"⟩
abbrev cX0_addPackToWays : ByteArray := prog_1_method_43_code
def yX0_addPackToWays : MethodName := ⟨RX0, "addPackToWays", "(IJI)V"⟩
abbrev cX0_scoreOf : ByteArray := prog_1_method_44_code
def yX0_scoreOf : MethodName := ⟨RX0, "scoreOf", "(I)J"⟩
abbrev cX0_digitOf : ByteArray := prog_1_method_45_code
def yX0_digitOf : MethodName := ⟨RX0, "digitOf", "(I)I"⟩
abbrev cX0_coinsInWay : ByteArray := prog_1_method_46_code
def yX0_coinsInWay : MethodName := ⟨RX0, "coinsInWay", "(J)I"⟩
abbrev cX0_coinsOfKindInWay : ByteArray := prog_1_method_47_code
def yX0_coinsOfKindInWay : MethodName := ⟨RX0, "coinsOfKindInWay", "(JI)I"⟩
abbrev cX0_needsExactMoney : ByteArray := prog_1_method_48_code
def yX0_needsExactMoney : MethodName := ⟨RX0, "needsExactMoney", "(I)Z"⟩
abbrev cX0_overpaid : ByteArray := prog_1_method_49_code
def yX0_overpaid : MethodName := ⟨RX0, "overpaid", "(II)I"⟩
def RX1 : String := "CoinMechanismModel"
def TX1 : u_T := fun k => match k with
  | 0 => ("CoinMechanismModel", "thrown", "I", false)
  | 1 => ("CoinMechanismModel", "kinds", "I", false)
  | 2 => ("CoinMechanismModel", "values", "[I", true)
  | 3 => ("CoinMechanismModel", "rooms", "[I", true)
  | 4 => ("CoinMechanismModel", "areOn", "[Z", true)
  | 5 => ("CoinMechanismModel", "tubes", "[I", true)
  | 6 => ("CoinMechanismModel", "box", "[I", true)
  | 7 => ("CoinMechanismModel", "paid", "[I", true)
  | 8 => ("CoinMechanismModel", "order", "[I", true)
  | 9 => ("CoinMechanismModel", "products", "I", false)
  | 10 => ("CoinMechanismModel", "prices", "[I", true)
  | 11 => ("CoinMechanismModel", "stocks", "[I", true)
  | 12 => ("CoinMechanismModel", "limit", "I", false)
  | 13 => ("CoinMechanismModel", "waiting", "I", false)
  | 14 => ("CoinMechanismModel", "escrow", "[I", true)
  | 15 => ("CoinMechanismModel", "soldProduct", "I", false)
  | 16 => ("CoinMechanismModel", "soldPrice", "I", false)
  | 17 => ("CoinMechanismModel", "audits", "[J", true)
  | _ => ("CoinMechanismModel", "fewest", "[I", true)
def tyX1 : Nat → FieldType := fun k => match k with
  | 0 => .int
  | 1 => .int
  | 2 => .array .int
  | 3 => .array .int
  | 4 => .array .boolean
  | 5 => .array .int
  | 6 => .array .int
  | 7 => .array .int
  | 8 => .array .int
  | 9 => .int
  | 10 => .array .int
  | 11 => .array .int
  | 12 => .int
  | 13 => .int
  | 14 => .array .int
  | 15 => .int
  | 16 => .int
  | 17 => .array .long
  | _ => .array .int
abbrev wsX10 : List Cond := u_ws RX1 TX1 19
theorem nmX1 : ∀ a, a < 19 → ∀ b, b < 19 → a ≠ b → (TX1 a).2.1 ≠ (TX1 b).2.1 := by decide +kernel
theorem tyX1_ok : ∀ k, k < 19 → parseFieldDescriptor (TX1 k).2.2.1 = some (tyX1 k) := by decide +kernel
abbrev cX1_init : ByteArray := prog_3_method_1_code
def yX1_init : MethodName := ⟨RX1, "<init>", "()V"⟩
abbrev cX1_thrown : ByteArray := prog_3_method_2_code
def yX1_thrown : MethodName := ⟨RX1, "thrown", "()I"⟩
abbrev cX1_fail : ByteArray := prog_3_method_3_code
def yX1_fail : MethodName := ⟨RX1, "fail", "(I)I"⟩
abbrev cX1_isKind : ByteArray := prog_3_method_4_code
def yX1_isKind : MethodName := ⟨RX1, "isKind", "(I)Z"⟩
abbrev cX1_isProduct : ByteArray := prog_3_method_5_code
def yX1_isProduct : MethodName := ⟨RX1, "isProduct", "(I)Z"⟩
abbrev cX1_isAmount : ByteArray := prog_3_method_6_code
def yX1_isAmount : MethodName := ⟨RX1, "isAmount", "(I)Z"⟩
abbrev cX1_isGoods : ByteArray := prog_3_method_7_code
def yX1_isGoods : MethodName := ⟨RX1, "isGoods", "(II)Z"⟩
abbrev cX1_addKind : ByteArray := prog_3_method_8_code
def yX1_addKind : MethodName := ⟨RX1, "addKind", "(II)I"⟩
abbrev cX1_fill : ByteArray := prog_3_method_9_code
def yX1_fill : MethodName := ⟨RX1, "fill", "(II)I"⟩
abbrev cX1_take : ByteArray := prog_3_method_10_code
def yX1_take : MethodName := ⟨RX1, "take", "(II)I"⟩
abbrev cX1_emptyBox : ByteArray := prog_3_method_11_code
def yX1_emptyBox : MethodName := ⟨RX1, "emptyBox", "()I"⟩
abbrev cX1_accept : ByteArray := prog_3_method_12_code
def yX1_accept : MethodName := ⟨RX1, "accept", "(IZ)Z"⟩
abbrev cX1_setLimit : ByteArray := prog_3_method_13_code
def yX1_setLimit : MethodName := ⟨RX1, "setLimit", "(I)I"⟩
abbrev cX1_addProduct : ByteArray := prog_3_method_14_code
def yX1_addProduct : MethodName := ⟨RX1, "addProduct", "(II)I"⟩
abbrev cX1_setProduct : ByteArray := prog_3_method_15_code
def yX1_setProduct : MethodName := ⟨RX1, "setProduct", "(III)I"⟩
abbrev cX1_product : ByteArray := prog_3_method_16_code
def yX1_product : MethodName := ⟨RX1, "product", "(IZ)I"⟩
abbrev cX1_tabulate : ByteArray := prog_3_method_17_code
def yX1_tabulate : MethodName := ⟨RX1, "tabulate", "(I)V"⟩
abbrev cX1_inAll : ByteArray := prog_3_method_18_code
def yX1_inAll : MethodName := ⟨RX1, "inAll", "(I)I"⟩
abbrev cX1_partOf : ByteArray := prog_3_method_19_code
def yX1_partOf : MethodName := ⟨RX1, "partOf", "(II)I"⟩
abbrev cX1_pay : ByteArray := prog_3_method_20_code
def yX1_pay : MethodName := ⟨RX1, "pay", "(I)Z"⟩
abbrev cX1_creditNow : ByteArray := prog_3_method_21_code
def yX1_creditNow : MethodName := ⟨RX1, "creditNow", "()I"⟩
abbrev cX1_insert : ByteArray := prog_3_method_22_code
def yX1_insert : MethodName := ⟨RX1, "insert", "(I)I"⟩
abbrev cX1_cancel : ByteArray := prog_3_method_23_code
def yX1_cancel : MethodName := ⟨RX1, "cancel", "()I"⟩
abbrev cX1_buy : ByteArray := prog_3_method_24_code
def yX1_buy : MethodName := ⟨RX1, "buy", "(I)I"⟩
abbrev cX1_refund : ByteArray := prog_3_method_25_code
def yX1_refund : MethodName := ⟨RX1, "refund", "()Z"⟩
abbrev cX1_credit : ByteArray := prog_3_method_26_code
def yX1_credit : MethodName := ⟨RX1, "credit", "()I"⟩
abbrev cX1_escrow : ByteArray := prog_3_method_27_code
def yX1_escrow : MethodName := ⟨RX1, "escrow", "(I)I"⟩
abbrev cX1_told : ByteArray := prog_3_method_28_code
def yX1_told : MethodName := ⟨RX1, "told", "(II)I"⟩
abbrev cX1_coins : ByteArray := prog_3_method_29_code
def yX1_coins : MethodName := ⟨RX1, "coins", "(II)I"⟩
abbrev cX1_fewest : ByteArray := prog_3_method_30_code
def yX1_fewest : MethodName := ⟨RX1, "fewest", "(I)I"⟩
abbrev cX1_part : ByteArray := prog_3_method_31_code
def yX1_part : MethodName := ⟨RX1, "part", "(II)I"⟩
abbrev cX1_below : ByteArray := prog_3_method_32_code
def yX1_below : MethodName := ⟨RX1, "below", "(I)I"⟩
abbrev cX1_unitNow : ByteArray := prog_3_method_33_code
def yX1_unitNow : MethodName := ⟨RX1, "unitNow", "()I"⟩
abbrev cX1_gaps : ByteArray := prog_3_method_34_code
def yX1_gaps : MethodName := ⟨RX1, "gaps", "(I)I"⟩
abbrev cX1_unit : ByteArray := prog_3_method_35_code
def yX1_unit : MethodName := ⟨RX1, "unit", "()I"⟩
abbrev cX1_lamp : ByteArray := prog_3_method_36_code
def yX1_lamp : MethodName := ⟨RX1, "lamp", "()Z"⟩
abbrev cX1_audit : ByteArray := prog_3_method_37_code
def yX1_audit : MethodName := ⟨RX1, "audit", "(I)J"⟩
abbrev cX1_exactShare : ByteArray := prog_3_method_38_code
def yX1_exactShare : MethodName := ⟨RX1, "exactShare", "()D"⟩
abbrev cX1_digest : ByteArray := prog_3_method_39_code
def yX1_digest : MethodName := ⟨RX1, "digest", "()J"⟩
def RJx8e188 : String := "java/lang/Cloneable"
def TJx8e188 : u_T := fun k => match k with
  | _ => ("", "", "", false)
def tyJx8e188 : Nat → FieldType := fun k => match k with
  | _ => .int
abbrev wsJx8e1880 : List Cond := u_ws RJx8e188 TJx8e188 0
theorem nmJx8e188 : ∀ a, a < 0 → ∀ b, b < 0 → a ≠ b → (TJx8e188 a).2.1 ≠ (TJx8e188 b).2.1 := by decide +kernel
theorem tyJx8e188_ok : ∀ k, k < 0 → parseFieldDescriptor (TJx8e188 k).2.2.1 = some (tyJx8e188 k) := by decide +kernel
def RJ9 : String := "java/lang/Math"
def TJ9 : u_T := fun k => match k with
  | _ => ("", "", "", false)
def tyJ9 : Nat → FieldType := fun k => match k with
  | _ => .int
abbrev wsJ90 : List Cond := u_ws RJ9 TJ9 0
theorem nmJ9 : ∀ a, a < 0 → ∀ b, b < 0 → a ≠ b → (TJ9 a).2.1 ≠ (TJ9 b).2.1 := by decide +kernel
theorem tyJ9_ok : ∀ k, k < 0 → parseFieldDescriptor (TJ9 k).2.2.1 = some (tyJ9 k) := by decide +kernel
abbrev cJ9_max_f86c9 : ByteArray := prog_9_method_66_code
def yJ9_max_f86c9 : MethodName := ⟨RJ9, "max", "(JJ)J"⟩
abbrev cJ9_min_7cf53 : ByteArray := prog_9_method_69_code
def yJ9_min_7cf53 : MethodName := ⟨RJ9, "min", "(II)I"⟩
def RJ0 : String := "java/lang/String"
def TJ0 : u_T := fun k => match k with
  | _ => ("", "", "", false)
def tyJ0 : Nat → FieldType := fun k => match k with
  | _ => .int
abbrev wsJ00 : List Cond := u_ws RJ0 TJ0 0
theorem nmJ0 : ∀ a, a < 0 → ∀ b, b < 0 → a ≠ b → (TJ0 a).2.1 ≠ (TJ0 b).2.1 := by decide +kernel
theorem tyJ0_ok : ∀ k, k < 0 → parseFieldDescriptor (TJ0 k).2.2.1 = some (tyJ0 k) := by decide +kernel
def RL : String := "CoinMechanismLaw"
abbrev cL_addKind : ByteArray := method_3_code
def yL_addKind : MethodName := ⟨RL, "addKind", "(LCoinMechanism;II[J)I"⟩
abbrev cL_fill : ByteArray := method_4_code
def yL_fill : MethodName := ⟨RL, "fill", "(LCoinMechanism;II[J)I"⟩
abbrev cL_take : ByteArray := method_5_code
def yL_take : MethodName := ⟨RL, "take", "(LCoinMechanism;II[J)I"⟩
abbrev cL_accept : ByteArray := method_6_code
def yL_accept : MethodName := ⟨RL, "accept", "(LCoinMechanism;IZ[J)I"⟩
abbrev cL_setLimit : ByteArray := method_7_code
def yL_setLimit : MethodName := ⟨RL, "setLimit", "(LCoinMechanism;I[J)I"⟩
abbrev cL_addProduct : ByteArray := method_8_code
def yL_addProduct : MethodName := ⟨RL, "addProduct", "(LCoinMechanism;II[J)I"⟩
abbrev cL_setProduct : ByteArray := method_9_code
def yL_setProduct : MethodName := ⟨RL, "setProduct", "(LCoinMechanism;III[J)I"⟩
abbrev cL_product : ByteArray := method_10_code
def yL_product : MethodName := ⟨RL, "product", "(LCoinMechanism;IZ[J)I"⟩
abbrev cL_insert : ByteArray := method_11_code
def yL_insert : MethodName := ⟨RL, "insert", "(LCoinMechanism;I[J)I"⟩
abbrev cL_buy : ByteArray := method_12_code
def yL_buy : MethodName := ⟨RL, "buy", "(LCoinMechanism;I[J)I"⟩
abbrev cL_refund : ByteArray := method_13_code
def yL_refund : MethodName := ⟨RL, "refund", "(LCoinMechanism;[J)I"⟩
abbrev cL_escrow : ByteArray := method_14_code
def yL_escrow : MethodName := ⟨RL, "escrow", "(LCoinMechanism;I[J)I"⟩
abbrev cL_coins : ByteArray := method_15_code
def yL_coins : MethodName := ⟨RL, "coins", "(LCoinMechanism;II[J)I"⟩
abbrev cL_fewest : ByteArray := method_16_code
def yL_fewest : MethodName := ⟨RL, "fewest", "(LCoinMechanism;I[J)I"⟩
abbrev cL_part : ByteArray := method_17_code
def yL_part : MethodName := ⟨RL, "part", "(LCoinMechanism;II[J)I"⟩
abbrev cL_below : ByteArray := method_18_code
def yL_below : MethodName := ⟨RL, "below", "(LCoinMechanism;I[J)I"⟩
abbrev cL_gaps : ByteArray := method_19_code
def yL_gaps : MethodName := ⟨RL, "gaps", "(LCoinMechanism;I[J)I"⟩
abbrev cL_audit : ByteArray := method_20_code
def yL_audit : MethodName := ⟨RL, "audit", "(LCoinMechanism;I[J)I"⟩
abbrev cL_law : ByteArray := code
def yL_law : MethodName := ⟨RL, "law", "([I)Z"⟩
def wsX0_init : List Cond := .code yX0_init cX0_init 1 none :: ([.methodLink RX0 3 objectInit, .instanceMethod objectInit, .code objectInit ⟨#[0xb1]⟩ 1 none, .fieldLink RX0 9 "CoinMechanism" "kinds" "I", .arrayClass .int, .fieldLink RX0 13 "CoinMechanism" "values" "[I", .fieldLink RX0 17 "CoinMechanism" "capacities" "[I", .fieldLink RX0 20 "CoinMechanism" "tubes" "[I", .fieldLink RX0 23 "CoinMechanism" "boxed" "[I", .fieldLink RX0 26 "CoinMechanism" "paid" "[I", .arrayClass .boolean, .fieldLink RX0 29 "CoinMechanism" "accepted" "[Z", .fieldLink RX0 33 "CoinMechanism" "products" "I", .fieldLink RX0 36 "CoinMechanism" "prices" "[I", .fieldLink RX0 39 "CoinMechanism" "stocks" "[I", .fieldLink RX0 42 "CoinMechanism" "limit" "I", .fieldLink RX0 45 "CoinMechanism" "waiting" "I", .fieldLink RX0 48 "CoinMechanism" "waitingKinds" "[I", .fieldLink RX0 51 "CoinMechanism" "soldProduct" "I", .fieldLink RX0 54 "CoinMechanism" "soldPrice" "I", .arrayClass .long, .fieldLink RX0 57 "CoinMechanism" "counters" "[J", .fieldLink RX0 61 "CoinMechanism" "scores" "[J", .fieldLink RX0 64 "CoinMechanism" "tubesAfter" "[I"] ++ wsX00)
def wsX0_hasKindOfValue : List Cond := .code yX0_hasKindOfValue cX0_hasKindOfValue 3 (some .boolean) :: ([.fieldLink RX0 9 "CoinMechanism" "kinds" "I", .fieldLink RX0 13 "CoinMechanism" "values" "[I"] ++ wsX00)
def wsX0_addKind : List Cond := .code yX0_addKind cX0_addKind 3 (some .int) :: ([.classLink RX0 67 "java/lang/IllegalArgumentException", .initialized "java/lang/IllegalArgumentException", .classLink RX0 76 "java/lang/IllegalStateException", .initialized "java/lang/IllegalStateException", .fieldLink RX0 9 "CoinMechanism" "kinds" "I", .fieldLink RX0 13 "CoinMechanism" "values" "[I", .fieldLink RX0 17 "CoinMechanism" "capacities" "[I", .fieldLink RX0 29 "CoinMechanism" "accepted" "[Z", .methodLink RX0 81 yX0_hasKindOfValue, .instanceMethod yX0_hasKindOfValue, .selects RX0 yX0_hasKindOfValue yX0_hasKindOfValue, .initialized RX0, .code yX0_hasKindOfValue cX0_hasKindOfValue 3 (some .boolean)] ++ wsX00 ++ (vx_atS RX0 71 "java/lang/IllegalArgumentException" ["java/lang/RuntimeException", "java/lang/Exception"]).filter goodWord ++ (vx_atS RX0 80 "java/lang/IllegalStateException" ["java/lang/RuntimeException", "java/lang/Exception"]).filter goodWord)
def wsX0_checkKind : List Cond := .code yX0_checkKind cX0_checkKind 2 none :: ([.classLink RX0 144 "java/lang/IndexOutOfBoundsException", .initialized "java/lang/IndexOutOfBoundsException", .fieldLink RX0 9 "CoinMechanism" "kinds" "I"] ++ wsX00 ++ (vx_atS RX0 148 "java/lang/IndexOutOfBoundsException" ["java/lang/RuntimeException", "java/lang/Exception"]).filter goodWord)
def wsX0_checkMany : List Cond := .code yX0_checkMany cX0_checkMany 1 none :: ([.classLink RX0 67 "java/lang/IllegalArgumentException", .initialized "java/lang/IllegalArgumentException"] ++ (vx_atS RX0 71 "java/lang/IllegalArgumentException" ["java/lang/RuntimeException", "java/lang/Exception"]).filter goodWord)
def wsX0_fill : List Cond := .code yX0_fill cX0_fill 4 (some .int) :: ([.fieldLink RX0 17 "CoinMechanism" "capacities" "[I", .fieldLink RX0 20 "CoinMechanism" "tubes" "[I", .methodLink RX0 94 Lib.Math.min.name, .static Lib.Math.min.name, .initialized "java/lang/Math", .code Lib.Math.min.name Lib.Math.min.code 2 (some .int), .fieldLink RX0 57 "CoinMechanism" "counters" "[J", .fieldLink RX0 13 "CoinMechanism" "values" "[I", .methodLink RX0 87 yX0_checkKind, .instanceMethod yX0_checkKind, .selects RX0 yX0_checkKind yX0_checkKind, .initialized RX0, .code yX0_checkKind cX0_checkKind 2 none, .classLink RX0 144 "java/lang/IndexOutOfBoundsException", .initialized "java/lang/IndexOutOfBoundsException", .fieldLink RX0 9 "CoinMechanism" "kinds" "I", .methodLink RX0 91 yX0_checkMany, .static yX0_checkMany, .code yX0_checkMany cX0_checkMany 1 none, .classLink RX0 67 "java/lang/IllegalArgumentException", .initialized "java/lang/IllegalArgumentException"] ++ wsX00 ++ (vx_atS RX0 148 "java/lang/IndexOutOfBoundsException" ["java/lang/RuntimeException", "java/lang/Exception"]).filter goodWord ++ (vx_atS RX0 71 "java/lang/IllegalArgumentException" ["java/lang/RuntimeException", "java/lang/Exception"]).filter goodWord)
def wsX0_take : List Cond := .code yX0_take cX0_take 4 (some .int) :: ([.fieldLink RX0 20 "CoinMechanism" "tubes" "[I", .methodLink RX0 94 Lib.Math.min.name, .static Lib.Math.min.name, .initialized "java/lang/Math", .code Lib.Math.min.name Lib.Math.min.code 2 (some .int), .fieldLink RX0 57 "CoinMechanism" "counters" "[J", .fieldLink RX0 13 "CoinMechanism" "values" "[I", .methodLink RX0 87 yX0_checkKind, .instanceMethod yX0_checkKind, .selects RX0 yX0_checkKind yX0_checkKind, .initialized RX0, .code yX0_checkKind cX0_checkKind 2 none, .classLink RX0 144 "java/lang/IndexOutOfBoundsException", .initialized "java/lang/IndexOutOfBoundsException", .fieldLink RX0 9 "CoinMechanism" "kinds" "I", .methodLink RX0 91 yX0_checkMany, .static yX0_checkMany, .code yX0_checkMany cX0_checkMany 1 none, .classLink RX0 67 "java/lang/IllegalArgumentException", .initialized "java/lang/IllegalArgumentException"] ++ wsX00 ++ (vx_atS RX0 148 "java/lang/IndexOutOfBoundsException" ["java/lang/RuntimeException", "java/lang/Exception"]).filter goodWord ++ (vx_atS RX0 71 "java/lang/IllegalArgumentException" ["java/lang/RuntimeException", "java/lang/Exception"]).filter goodWord)
def wsX0_emptyBox : List Cond := .code yX0_emptyBox cX0_emptyBox 3 (some .int) :: ([.fieldLink RX0 9 "CoinMechanism" "kinds" "I", .fieldLink RX0 23 "CoinMechanism" "boxed" "[I", .fieldLink RX0 13 "CoinMechanism" "values" "[I", .fieldLink RX0 57 "CoinMechanism" "counters" "[J"] ++ wsX00)
def wsX0_accept : List Cond := .code yX0_accept cX0_accept 4 (some .boolean) :: ([.fieldLink RX0 29 "CoinMechanism" "accepted" "[Z", .methodLink RX0 87 yX0_checkKind, .instanceMethod yX0_checkKind, .selects RX0 yX0_checkKind yX0_checkKind, .initialized RX0, .code yX0_checkKind cX0_checkKind 2 none, .classLink RX0 144 "java/lang/IndexOutOfBoundsException", .initialized "java/lang/IndexOutOfBoundsException", .fieldLink RX0 9 "CoinMechanism" "kinds" "I"] ++ wsX00 ++ (vx_atS RX0 148 "java/lang/IndexOutOfBoundsException" ["java/lang/RuntimeException", "java/lang/Exception"]).filter goodWord)
def wsX0_setLimit : List Cond := .code yX0_setLimit cX0_setLimit 3 (some .int) :: ([.classLink RX0 67 "java/lang/IllegalArgumentException", .initialized "java/lang/IllegalArgumentException", .fieldLink RX0 42 "CoinMechanism" "limit" "I"] ++ wsX00 ++ (vx_atS RX0 71 "java/lang/IllegalArgumentException" ["java/lang/RuntimeException", "java/lang/Exception"]).filter goodWord)
def wsX0_checkPriceAndStock : List Cond := .code yX0_checkPriceAndStock cX0_checkPriceAndStock 2 none :: ([.classLink RX0 67 "java/lang/IllegalArgumentException", .initialized "java/lang/IllegalArgumentException"] ++ (vx_atS RX0 71 "java/lang/IllegalArgumentException" ["java/lang/RuntimeException", "java/lang/Exception"]).filter goodWord)
def wsX0_addProduct : List Cond := .code yX0_addProduct cX0_addProduct 3 (some .int) :: ([.classLink RX0 76 "java/lang/IllegalStateException", .initialized "java/lang/IllegalStateException", .fieldLink RX0 33 "CoinMechanism" "products" "I", .fieldLink RX0 36 "CoinMechanism" "prices" "[I", .fieldLink RX0 39 "CoinMechanism" "stocks" "[I", .methodLink RX0 102 yX0_checkPriceAndStock, .static yX0_checkPriceAndStock, .initialized RX0, .code yX0_checkPriceAndStock cX0_checkPriceAndStock 2 none, .classLink RX0 67 "java/lang/IllegalArgumentException", .initialized "java/lang/IllegalArgumentException"] ++ wsX00 ++ (vx_atS RX0 80 "java/lang/IllegalStateException" ["java/lang/RuntimeException", "java/lang/Exception"]).filter goodWord ++ (vx_atS RX0 71 "java/lang/IllegalArgumentException" ["java/lang/RuntimeException", "java/lang/Exception"]).filter goodWord)
def wsX0_checkProduct : List Cond := .code yX0_checkProduct cX0_checkProduct 2 none :: ([.classLink RX0 144 "java/lang/IndexOutOfBoundsException", .initialized "java/lang/IndexOutOfBoundsException", .fieldLink RX0 33 "CoinMechanism" "products" "I"] ++ wsX00 ++ (vx_atS RX0 148 "java/lang/IndexOutOfBoundsException" ["java/lang/RuntimeException", "java/lang/Exception"]).filter goodWord)
def wsX0_setProduct : List Cond := .code yX0_setProduct cX0_setProduct 5 (some .int) :: ([.fieldLink RX0 36 "CoinMechanism" "prices" "[I", .fieldLink RX0 39 "CoinMechanism" "stocks" "[I", .methodLink RX0 108 yX0_checkProduct, .instanceMethod yX0_checkProduct, .selects RX0 yX0_checkProduct yX0_checkProduct, .initialized RX0, .code yX0_checkProduct cX0_checkProduct 2 none, .classLink RX0 144 "java/lang/IndexOutOfBoundsException", .initialized "java/lang/IndexOutOfBoundsException", .fieldLink RX0 33 "CoinMechanism" "products" "I", .methodLink RX0 102 yX0_checkPriceAndStock, .static yX0_checkPriceAndStock, .code yX0_checkPriceAndStock cX0_checkPriceAndStock 2 none, .classLink RX0 67 "java/lang/IllegalArgumentException", .initialized "java/lang/IllegalArgumentException"] ++ wsX00 ++ (vx_atS RX0 148 "java/lang/IndexOutOfBoundsException" ["java/lang/RuntimeException", "java/lang/Exception"]).filter goodWord ++ (vx_atS RX0 71 "java/lang/IllegalArgumentException" ["java/lang/RuntimeException", "java/lang/Exception"]).filter goodWord)
def wsX0_product : List Cond := .code yX0_product cX0_product 3 (some .int) :: ([.fieldLink RX0 39 "CoinMechanism" "stocks" "[I", .fieldLink RX0 36 "CoinMechanism" "prices" "[I", .methodLink RX0 108 yX0_checkProduct, .instanceMethod yX0_checkProduct, .selects RX0 yX0_checkProduct yX0_checkProduct, .initialized RX0, .code yX0_checkProduct cX0_checkProduct 2 none, .classLink RX0 144 "java/lang/IndexOutOfBoundsException", .initialized "java/lang/IndexOutOfBoundsException", .fieldLink RX0 33 "CoinMechanism" "products" "I"] ++ wsX00 ++ (vx_atS RX0 148 "java/lang/IndexOutOfBoundsException" ["java/lang/RuntimeException", "java/lang/Exception"]).filter goodWord)
def wsX0_waitingOf : List Cond := .code yX0_waitingOf cX0_waitingOf 4 (some .int) :: ([.fieldLink RX0 45 "CoinMechanism" "waiting" "I", .fieldLink RX0 48 "CoinMechanism" "waitingKinds" "[I"] ++ wsX00)
def wsX0_credit : List Cond := .code yX0_credit cX0_credit 3 (some .int) :: ([.fieldLink RX0 9 "CoinMechanism" "kinds" "I", .fieldLink RX0 13 "CoinMechanism" "values" "[I", .methodLink RX0 140 yX0_waitingOf, .instanceMethod yX0_waitingOf, .selects RX0 yX0_waitingOf yX0_waitingOf, .initialized RX0, .code yX0_waitingOf cX0_waitingOf 4 (some .int), .fieldLink RX0 45 "CoinMechanism" "waiting" "I", .fieldLink RX0 48 "CoinMechanism" "waitingKinds" "[I"] ++ wsX00)
def wsX0_insert : List Cond := .code yX0_insert cX0_insert 2 (some .int) :: ([.fieldLink RX0 29 "CoinMechanism" "accepted" "[Z", .fieldLink RX0 45 "CoinMechanism" "waiting" "I", .fieldLink RX0 13 "CoinMechanism" "values" "[I", .fieldLink RX0 42 "CoinMechanism" "limit" "I", .fieldLink RX0 48 "CoinMechanism" "waitingKinds" "[I", .fieldLink RX0 57 "CoinMechanism" "counters" "[J", .methodLink RX0 87 yX0_checkKind, .instanceMethod yX0_checkKind, .selects RX0 yX0_checkKind yX0_checkKind, .initialized RX0, .code yX0_checkKind cX0_checkKind 2 none, .classLink RX0 144 "java/lang/IndexOutOfBoundsException", .initialized "java/lang/IndexOutOfBoundsException", .fieldLink RX0 9 "CoinMechanism" "kinds" "I", .methodLink RX0 111 yX0_credit, .instanceMethod yX0_credit, .selects RX0 yX0_credit yX0_credit, .code yX0_credit cX0_credit 3 (some .int), .methodLink RX0 140 yX0_waitingOf, .instanceMethod yX0_waitingOf, .selects RX0 yX0_waitingOf yX0_waitingOf, .code yX0_waitingOf cX0_waitingOf 4 (some .int)] ++ wsX00 ++ (vx_atS RX0 148 "java/lang/IndexOutOfBoundsException" ["java/lang/RuntimeException", "java/lang/Exception"]).filter goodWord)
def wsX0_cancel : List Cond := .code yX0_cancel cX0_cancel 2 (some .int) :: ([.fieldLink RX0 45 "CoinMechanism" "waiting" "I", .fieldLink RX0 57 "CoinMechanism" "counters" "[J", .methodLink RX0 111 yX0_credit, .instanceMethod yX0_credit, .selects RX0 yX0_credit yX0_credit, .initialized RX0, .code yX0_credit cX0_credit 3 (some .int), .fieldLink RX0 9 "CoinMechanism" "kinds" "I", .fieldLink RX0 13 "CoinMechanism" "values" "[I", .methodLink RX0 140 yX0_waitingOf, .instanceMethod yX0_waitingOf, .selects RX0 yX0_waitingOf yX0_waitingOf, .code yX0_waitingOf cX0_waitingOf 4 (some .int), .fieldLink RX0 48 "CoinMechanism" "waitingKinds" "[I"] ++ wsX00)
def wsX0_foreseeTubes : List Cond := .code yX0_foreseeTubes cX0_foreseeTubes 2 none :: ([.fieldLink RX0 9 "CoinMechanism" "kinds" "I", .fieldLink RX0 64 "CoinMechanism" "tubesAfter" "[I", .fieldLink RX0 20 "CoinMechanism" "tubes" "[I", .fieldLink RX0 17 "CoinMechanism" "capacities" "[I", .methodLink RX0 94 Lib.Math.min.name, .static Lib.Math.min.name, .initialized "java/lang/Math", .code Lib.Math.min.name Lib.Math.min.code 2 (some .int), .methodLink RX0 140 yX0_waitingOf, .instanceMethod yX0_waitingOf, .selects RX0 yX0_waitingOf yX0_waitingOf, .initialized RX0, .code yX0_waitingOf cX0_waitingOf 4 (some .int), .fieldLink RX0 45 "CoinMechanism" "waiting" "I", .fieldLink RX0 48 "CoinMechanism" "waitingKinds" "[I"] ++ wsX00)
def wsX0_digitOf : List Cond := .code yX0_digitOf cX0_digitOf 4 (some .int) :: ([.fieldLink RX0 9 "CoinMechanism" "kinds" "I", .fieldLink RX0 13 "CoinMechanism" "values" "[I"] ++ wsX00)
def wsX0_addPackToWays : List Cond := .code yX0_addPackToWays cX0_addPackToWays 8 none :: ([.fieldLink RX0 61 "CoinMechanism" "scores" "[J", .constantLong RX0 126 (-4611686018427387904), .methodLink RX0 209 Lib.MathLoose.max_long.x, .static Lib.MathLoose.max_long.x, .initialized "java/lang/Math", .code Lib.MathLoose.max_long.x Lib.MathLoose.max_long.code 4 (some .long)] ++ wsX00)
def wsX0_addKindToWays : List Cond := .code yX0_addKindToWays cX0_addKindToWays 9 none :: ([.constantLong RX0 203 (281474976710656), .methodLink RX0 94 Lib.Math.min.name, .static Lib.Math.min.name, .initialized "java/lang/Math", .code Lib.Math.min.name Lib.Math.min.code 2 (some .int), .fieldLink RX0 13 "CoinMechanism" "values" "[I", .methodLink RX0 200 yX0_digitOf, .instanceMethod yX0_digitOf, .selects RX0 yX0_digitOf yX0_digitOf, .initialized RX0, .code yX0_digitOf cX0_digitOf 4 (some .int), .fieldLink RX0 9 "CoinMechanism" "kinds" "I", .methodLink RX0 205 yX0_addPackToWays, .instanceMethod yX0_addPackToWays, .selects RX0 yX0_addPackToWays yX0_addPackToWays, .code yX0_addPackToWays cX0_addPackToWays 8 none, .fieldLink RX0 61 "CoinMechanism" "scores" "[J", .constantLong RX0 126 (-4611686018427387904), .methodLink RX0 209 Lib.MathLoose.max_long.x, .static Lib.MathLoose.max_long.x, .code Lib.MathLoose.max_long.x Lib.MathLoose.max_long.code 4 (some .long)] ++ wsX00)
def wsX0_scoreWays_r1 : List Cond := [Cond.methodLink RX0 94 Lib.Math.min.name, Cond.static Lib.Math.min.name, Cond.initialized "java/lang/Math", Cond.code Lib.Math.min.name Lib.Math.min.code 2 (some .int), Cond.fieldLink RX0 61 "CoinMechanism" "scores" "[J", Cond.constantLong RX0 126 (-4611686018427387904), Cond.fieldLink RX0 9 "CoinMechanism" "kinds" "I", Cond.methodLink RX0 196 yX0_addKindToWays, Cond.instanceMethod yX0_addKindToWays, Cond.selects RX0 yX0_addKindToWays yX0_addKindToWays, Cond.initialized RX0, Cond.code yX0_addKindToWays cX0_addKindToWays 9 none, Cond.constantLong RX0 203 (281474976710656), Cond.fieldLink RX0 13 "CoinMechanism" "values" "[I", Cond.methodLink RX0 200 yX0_digitOf, Cond.instanceMethod yX0_digitOf, Cond.selects RX0 yX0_digitOf yX0_digitOf, Cond.code yX0_digitOf cX0_digitOf 4 (some .int), Cond.methodLink RX0 205 yX0_addPackToWays, Cond.instanceMethod yX0_addPackToWays, Cond.selects RX0 yX0_addPackToWays yX0_addPackToWays, Cond.code yX0_addPackToWays cX0_addPackToWays 8 none, Cond.methodLink RX0 209 Lib.MathLoose.max_long.x, Cond.static Lib.MathLoose.max_long.x]
def wsX0_scoreWays_r2 : List Cond := [Cond.code Lib.MathLoose.max_long.x Lib.MathLoose.max_long.code 4 (some .long)]
def wsX0_scoreWays : List Cond := .code yX0_scoreWays cX0_scoreWays 5 none :: ((wsX0_scoreWays_r1 ++ wsX0_scoreWays_r2) ++ wsX00)
def wsX0_scoreOf : List Cond := .code yX0_scoreOf cX0_scoreOf 2 (some .long) :: ([.constantLong RX0 126 (-4611686018427387904), .fieldLink RX0 61 "CoinMechanism" "scores" "[J"] ++ wsX00)
def wsX0_dropWaiting : List Cond := .code yX0_dropWaiting cX0_dropWaiting 4 none :: ([.fieldLink RX0 9 "CoinMechanism" "kinds" "I", .fieldLink RX0 17 "CoinMechanism" "capacities" "[I", .fieldLink RX0 20 "CoinMechanism" "tubes" "[I", .methodLink RX0 94 Lib.Math.min.name, .static Lib.Math.min.name, .initialized "java/lang/Math", .code Lib.Math.min.name Lib.Math.min.code 2 (some .int), .fieldLink RX0 23 "CoinMechanism" "boxed" "[I", .fieldLink RX0 45 "CoinMechanism" "waiting" "I", .methodLink RX0 140 yX0_waitingOf, .instanceMethod yX0_waitingOf, .selects RX0 yX0_waitingOf yX0_waitingOf, .initialized RX0, .code yX0_waitingOf cX0_waitingOf 4 (some .int), .fieldLink RX0 48 "CoinMechanism" "waitingKinds" "[I"] ++ wsX00)
def wsX0_coinsOfKindInWay : List Cond := .code yX0_coinsOfKindInWay cX0_coinsOfKindInWay 4 (some .int) :: ([.constantLong RX0 213 (63), .methodLink RX0 200 yX0_digitOf, .instanceMethod yX0_digitOf, .selects RX0 yX0_digitOf yX0_digitOf, .initialized RX0, .code yX0_digitOf cX0_digitOf 4 (some .int), .fieldLink RX0 9 "CoinMechanism" "kinds" "I", .fieldLink RX0 13 "CoinMechanism" "values" "[I"] ++ wsX00)
def wsX0_payOut : List Cond := .code yX0_payOut cX0_payOut 4 none :: ([.fieldLink RX0 9 "CoinMechanism" "kinds" "I", .fieldLink RX0 26 "CoinMechanism" "paid" "[I", .fieldLink RX0 20 "CoinMechanism" "tubes" "[I", .methodLink RX0 161 yX0_coinsOfKindInWay, .instanceMethod yX0_coinsOfKindInWay, .selects RX0 yX0_coinsOfKindInWay yX0_coinsOfKindInWay, .initialized RX0, .code yX0_coinsOfKindInWay cX0_coinsOfKindInWay 4 (some .int), .constantLong RX0 213 (63), .methodLink RX0 200 yX0_digitOf, .instanceMethod yX0_digitOf, .selects RX0 yX0_digitOf yX0_digitOf, .code yX0_digitOf cX0_digitOf 4 (some .int), .fieldLink RX0 13 "CoinMechanism" "values" "[I"] ++ wsX00)
def wsX0_countSale : List Cond := .code yX0_countSale cX0_countSale 3 none :: ([.fieldLink RX0 57 "CoinMechanism" "counters" "[J"] ++ wsX00)
def wsX0_buy_r1 : List Cond := [Cond.fieldLink RX0 39 "CoinMechanism" "stocks" "[I", Cond.fieldLink RX0 36 "CoinMechanism" "prices" "[I", Cond.fieldLink RX0 64 "CoinMechanism" "tubesAfter" "[I", Cond.constantLong RX0 126 (-4611686018427387904), Cond.fieldLink RX0 51 "CoinMechanism" "soldProduct" "I", Cond.fieldLink RX0 54 "CoinMechanism" "soldPrice" "I", Cond.methodLink RX0 108 yX0_checkProduct, Cond.instanceMethod yX0_checkProduct, Cond.selects RX0 yX0_checkProduct yX0_checkProduct, Cond.initialized RX0, Cond.code yX0_checkProduct cX0_checkProduct 2 none, Cond.classLink RX0 144 "java/lang/IndexOutOfBoundsException", Cond.initialized "java/lang/IndexOutOfBoundsException", Cond.fieldLink RX0 33 "CoinMechanism" "products" "I", Cond.methodLink RX0 111 yX0_credit, Cond.instanceMethod yX0_credit, Cond.selects RX0 yX0_credit yX0_credit, Cond.code yX0_credit cX0_credit 3 (some .int), Cond.fieldLink RX0 9 "CoinMechanism" "kinds" "I", Cond.fieldLink RX0 13 "CoinMechanism" "values" "[I", Cond.methodLink RX0 140 yX0_waitingOf, Cond.instanceMethod yX0_waitingOf, Cond.selects RX0 yX0_waitingOf yX0_waitingOf, Cond.code yX0_waitingOf cX0_waitingOf 4 (some .int)]
def wsX0_buy_r2 : List Cond := [Cond.fieldLink RX0 45 "CoinMechanism" "waiting" "I", Cond.fieldLink RX0 48 "CoinMechanism" "waitingKinds" "[I", Cond.methodLink RX0 115 yX0_foreseeTubes, Cond.instanceMethod yX0_foreseeTubes, Cond.selects RX0 yX0_foreseeTubes yX0_foreseeTubes, Cond.code yX0_foreseeTubes cX0_foreseeTubes 2 none, Cond.fieldLink RX0 20 "CoinMechanism" "tubes" "[I", Cond.fieldLink RX0 17 "CoinMechanism" "capacities" "[I", Cond.methodLink RX0 94 Lib.Math.min.name, Cond.static Lib.Math.min.name, Cond.initialized "java/lang/Math", Cond.code Lib.Math.min.name Lib.Math.min.code 2 (some .int), Cond.methodLink RX0 118 yX0_scoreWays, Cond.instanceMethod yX0_scoreWays, Cond.selects RX0 yX0_scoreWays yX0_scoreWays, Cond.code yX0_scoreWays cX0_scoreWays 5 none, Cond.fieldLink RX0 61 "CoinMechanism" "scores" "[J", Cond.methodLink RX0 196 yX0_addKindToWays, Cond.instanceMethod yX0_addKindToWays, Cond.selects RX0 yX0_addKindToWays yX0_addKindToWays, Cond.code yX0_addKindToWays cX0_addKindToWays 9 none, Cond.constantLong RX0 203 (281474976710656), Cond.methodLink RX0 200 yX0_digitOf, Cond.instanceMethod yX0_digitOf]
def wsX0_buy_r3 : List Cond := [Cond.selects RX0 yX0_digitOf yX0_digitOf, Cond.code yX0_digitOf cX0_digitOf 4 (some .int), Cond.methodLink RX0 205 yX0_addPackToWays, Cond.instanceMethod yX0_addPackToWays, Cond.selects RX0 yX0_addPackToWays yX0_addPackToWays, Cond.code yX0_addPackToWays cX0_addPackToWays 8 none, Cond.methodLink RX0 209 Lib.MathLoose.max_long.x, Cond.static Lib.MathLoose.max_long.x, Cond.code Lib.MathLoose.max_long.x Lib.MathLoose.max_long.code 4 (some .long), Cond.methodLink RX0 122 yX0_scoreOf, Cond.instanceMethod yX0_scoreOf, Cond.selects RX0 yX0_scoreOf yX0_scoreOf, Cond.code yX0_scoreOf cX0_scoreOf 2 (some .long), Cond.methodLink RX0 128 yX0_dropWaiting, Cond.instanceMethod yX0_dropWaiting, Cond.selects RX0 yX0_dropWaiting yX0_dropWaiting, Cond.code yX0_dropWaiting cX0_dropWaiting 4 none, Cond.fieldLink RX0 23 "CoinMechanism" "boxed" "[I", Cond.methodLink RX0 131 yX0_payOut, Cond.instanceMethod yX0_payOut, Cond.selects RX0 yX0_payOut yX0_payOut, Cond.code yX0_payOut cX0_payOut 4 none, Cond.fieldLink RX0 26 "CoinMechanism" "paid" "[I", Cond.methodLink RX0 161 yX0_coinsOfKindInWay]
def wsX0_buy_r4 : List Cond := [Cond.instanceMethod yX0_coinsOfKindInWay, Cond.selects RX0 yX0_coinsOfKindInWay yX0_coinsOfKindInWay, Cond.code yX0_coinsOfKindInWay cX0_coinsOfKindInWay 4 (some .int), Cond.constantLong RX0 213 (63), Cond.methodLink RX0 135 yX0_countSale, Cond.instanceMethod yX0_countSale, Cond.selects RX0 yX0_countSale yX0_countSale, Cond.code yX0_countSale cX0_countSale 3 none, Cond.fieldLink RX0 57 "CoinMechanism" "counters" "[J"]
def wsX0_buy : List Cond := .code yX0_buy cX0_buy 6 (some .int) :: ((wsX0_buy_r1 ++ (wsX0_buy_r2 ++ (wsX0_buy_r3 ++ wsX0_buy_r4))) ++ wsX00 ++ (vx_atS RX0 148 "java/lang/IndexOutOfBoundsException" ["java/lang/RuntimeException", "java/lang/Exception"]).filter goodWord)
def wsX0_refund_r1 : List Cond := [Cond.classLink RX0 76 "java/lang/IllegalStateException", Cond.initialized "java/lang/IllegalStateException", Cond.fieldLink RX0 51 "CoinMechanism" "soldProduct" "I", Cond.fieldLink RX0 33 "CoinMechanism" "products" "I", Cond.fieldLink RX0 54 "CoinMechanism" "soldPrice" "I", Cond.fieldLink RX0 20 "CoinMechanism" "tubes" "[I", Cond.constantLong RX0 126 (-4611686018427387904), Cond.fieldLink RX0 39 "CoinMechanism" "stocks" "[I", Cond.methodLink RX0 94 Lib.Math.min.name, Cond.static Lib.Math.min.name, Cond.initialized "java/lang/Math", Cond.code Lib.Math.min.name Lib.Math.min.code 2 (some .int), Cond.fieldLink RX0 57 "CoinMechanism" "counters" "[J", Cond.methodLink RX0 118 yX0_scoreWays, Cond.instanceMethod yX0_scoreWays, Cond.selects RX0 yX0_scoreWays yX0_scoreWays, Cond.initialized RX0, Cond.code yX0_scoreWays cX0_scoreWays 5 none, Cond.fieldLink RX0 61 "CoinMechanism" "scores" "[J", Cond.fieldLink RX0 9 "CoinMechanism" "kinds" "I", Cond.methodLink RX0 196 yX0_addKindToWays, Cond.instanceMethod yX0_addKindToWays, Cond.selects RX0 yX0_addKindToWays yX0_addKindToWays, Cond.code yX0_addKindToWays cX0_addKindToWays 9 none]
def wsX0_refund_r2 : List Cond := [Cond.constantLong RX0 203 (281474976710656), Cond.fieldLink RX0 13 "CoinMechanism" "values" "[I", Cond.methodLink RX0 200 yX0_digitOf, Cond.instanceMethod yX0_digitOf, Cond.selects RX0 yX0_digitOf yX0_digitOf, Cond.code yX0_digitOf cX0_digitOf 4 (some .int), Cond.methodLink RX0 205 yX0_addPackToWays, Cond.instanceMethod yX0_addPackToWays, Cond.selects RX0 yX0_addPackToWays yX0_addPackToWays, Cond.code yX0_addPackToWays cX0_addPackToWays 8 none, Cond.methodLink RX0 209 Lib.MathLoose.max_long.x, Cond.static Lib.MathLoose.max_long.x, Cond.code Lib.MathLoose.max_long.x Lib.MathLoose.max_long.code 4 (some .long), Cond.methodLink RX0 122 yX0_scoreOf, Cond.instanceMethod yX0_scoreOf, Cond.selects RX0 yX0_scoreOf yX0_scoreOf, Cond.code yX0_scoreOf cX0_scoreOf 2 (some .long), Cond.methodLink RX0 131 yX0_payOut, Cond.instanceMethod yX0_payOut, Cond.selects RX0 yX0_payOut yX0_payOut, Cond.code yX0_payOut cX0_payOut 4 none, Cond.fieldLink RX0 26 "CoinMechanism" "paid" "[I", Cond.methodLink RX0 161 yX0_coinsOfKindInWay, Cond.instanceMethod yX0_coinsOfKindInWay]
def wsX0_refund_r3 : List Cond := [Cond.selects RX0 yX0_coinsOfKindInWay yX0_coinsOfKindInWay, Cond.code yX0_coinsOfKindInWay cX0_coinsOfKindInWay 4 (some .int), Cond.constantLong RX0 213 (63)]
def wsX0_refund : List Cond := .code yX0_refund cX0_refund 3 (some .boolean) :: ((wsX0_refund_r1 ++ (wsX0_refund_r2 ++ wsX0_refund_r3)) ++ wsX00 ++ (vx_atS RX0 80 "java/lang/IllegalStateException" ["java/lang/RuntimeException", "java/lang/Exception"]).filter goodWord)
def wsX0_escrow : List Cond := .code yX0_escrow cX0_escrow 2 (some .int) :: ([.classLink RX0 144 "java/lang/IndexOutOfBoundsException", .initialized "java/lang/IndexOutOfBoundsException", .fieldLink RX0 45 "CoinMechanism" "waiting" "I", .fieldLink RX0 48 "CoinMechanism" "waitingKinds" "[I"] ++ wsX00 ++ (vx_atS RX0 148 "java/lang/IndexOutOfBoundsException" ["java/lang/RuntimeException", "java/lang/Exception"]).filter goodWord)
def wsX0_toldOfKind : List Cond := .code yX0_toldOfKind cX0_toldOfKind 3 (some .int) :: ([.fieldLink RX0 13 "CoinMechanism" "values" "[I", .fieldLink RX0 20 "CoinMechanism" "tubes" "[I", .fieldLink RX0 23 "CoinMechanism" "boxed" "[I", .fieldLink RX0 26 "CoinMechanism" "paid" "[I"] ++ wsX00)
def wsX0_coins : List Cond := .code yX0_coins cX0_coins 3 (some .int) :: ([.classLink RX0 144 "java/lang/IndexOutOfBoundsException", .initialized "java/lang/IndexOutOfBoundsException", .methodLink RX0 87 yX0_checkKind, .instanceMethod yX0_checkKind, .selects RX0 yX0_checkKind yX0_checkKind, .initialized RX0, .code yX0_checkKind cX0_checkKind 2 none, .fieldLink RX0 9 "CoinMechanism" "kinds" "I", .methodLink RX0 151 yX0_toldOfKind, .instanceMethod yX0_toldOfKind, .selects RX0 yX0_toldOfKind yX0_toldOfKind, .code yX0_toldOfKind cX0_toldOfKind 3 (some .int), .fieldLink RX0 13 "CoinMechanism" "values" "[I", .fieldLink RX0 20 "CoinMechanism" "tubes" "[I", .fieldLink RX0 23 "CoinMechanism" "boxed" "[I", .fieldLink RX0 26 "CoinMechanism" "paid" "[I"] ++ wsX00 ++ (vx_atS RX0 148 "java/lang/IndexOutOfBoundsException" ["java/lang/RuntimeException", "java/lang/Exception"]).filter goodWord)
def wsX0_checkAmount : List Cond := .code yX0_checkAmount cX0_checkAmount 1 none :: ([.classLink RX0 67 "java/lang/IllegalArgumentException", .initialized "java/lang/IllegalArgumentException"] ++ (vx_atS RX0 71 "java/lang/IllegalArgumentException" ["java/lang/RuntimeException", "java/lang/Exception"]).filter goodWord)
def wsX0_coinsInWay : List Cond := .code yX0_coinsInWay cX0_coinsInWay 2 (some .int) :: ([])
def wsX0_fewest_r1 : List Cond := [Cond.fieldLink RX0 20 "CoinMechanism" "tubes" "[I", Cond.constantLong RX0 126 (-4611686018427387904), Cond.methodLink RX0 154 yX0_checkAmount, Cond.static yX0_checkAmount, Cond.initialized RX0, Cond.code yX0_checkAmount cX0_checkAmount 1 none, Cond.classLink RX0 67 "java/lang/IllegalArgumentException", Cond.initialized "java/lang/IllegalArgumentException", Cond.methodLink RX0 118 yX0_scoreWays, Cond.instanceMethod yX0_scoreWays, Cond.selects RX0 yX0_scoreWays yX0_scoreWays, Cond.code yX0_scoreWays cX0_scoreWays 5 none, Cond.methodLink RX0 94 Lib.Math.min.name, Cond.static Lib.Math.min.name, Cond.initialized "java/lang/Math", Cond.code Lib.Math.min.name Lib.Math.min.code 2 (some .int), Cond.fieldLink RX0 61 "CoinMechanism" "scores" "[J", Cond.fieldLink RX0 9 "CoinMechanism" "kinds" "I", Cond.methodLink RX0 196 yX0_addKindToWays, Cond.instanceMethod yX0_addKindToWays, Cond.selects RX0 yX0_addKindToWays yX0_addKindToWays, Cond.code yX0_addKindToWays cX0_addKindToWays 9 none, Cond.constantLong RX0 203 (281474976710656), Cond.fieldLink RX0 13 "CoinMechanism" "values" "[I"]
def wsX0_fewest_r2 : List Cond := [Cond.methodLink RX0 200 yX0_digitOf, Cond.instanceMethod yX0_digitOf, Cond.selects RX0 yX0_digitOf yX0_digitOf, Cond.code yX0_digitOf cX0_digitOf 4 (some .int), Cond.methodLink RX0 205 yX0_addPackToWays, Cond.instanceMethod yX0_addPackToWays, Cond.selects RX0 yX0_addPackToWays yX0_addPackToWays, Cond.code yX0_addPackToWays cX0_addPackToWays 8 none, Cond.methodLink RX0 209 Lib.MathLoose.max_long.x, Cond.static Lib.MathLoose.max_long.x, Cond.code Lib.MathLoose.max_long.x Lib.MathLoose.max_long.code 4 (some .long), Cond.methodLink RX0 122 yX0_scoreOf, Cond.instanceMethod yX0_scoreOf, Cond.selects RX0 yX0_scoreOf yX0_scoreOf, Cond.code yX0_scoreOf cX0_scoreOf 2 (some .long), Cond.methodLink RX0 157 yX0_coinsInWay, Cond.static yX0_coinsInWay, Cond.code yX0_coinsInWay cX0_coinsInWay 2 (some .int)]
def wsX0_fewest : List Cond := .code yX0_fewest cX0_fewest 4 (some .int) :: ((wsX0_fewest_r1 ++ wsX0_fewest_r2) ++ wsX00 ++ (vx_atS RX0 71 "java/lang/IllegalArgumentException" ["java/lang/RuntimeException", "java/lang/Exception"]).filter goodWord)
def wsX0_part_r1 : List Cond := [Cond.fieldLink RX0 20 "CoinMechanism" "tubes" "[I", Cond.constantLong RX0 126 (-4611686018427387904), Cond.methodLink RX0 154 yX0_checkAmount, Cond.static yX0_checkAmount, Cond.initialized RX0, Cond.code yX0_checkAmount cX0_checkAmount 1 none, Cond.classLink RX0 67 "java/lang/IllegalArgumentException", Cond.initialized "java/lang/IllegalArgumentException", Cond.methodLink RX0 87 yX0_checkKind, Cond.instanceMethod yX0_checkKind, Cond.selects RX0 yX0_checkKind yX0_checkKind, Cond.code yX0_checkKind cX0_checkKind 2 none, Cond.classLink RX0 144 "java/lang/IndexOutOfBoundsException", Cond.initialized "java/lang/IndexOutOfBoundsException", Cond.fieldLink RX0 9 "CoinMechanism" "kinds" "I", Cond.methodLink RX0 118 yX0_scoreWays, Cond.instanceMethod yX0_scoreWays, Cond.selects RX0 yX0_scoreWays yX0_scoreWays, Cond.code yX0_scoreWays cX0_scoreWays 5 none, Cond.methodLink RX0 94 Lib.Math.min.name, Cond.static Lib.Math.min.name, Cond.initialized "java/lang/Math", Cond.code Lib.Math.min.name Lib.Math.min.code 2 (some .int), Cond.fieldLink RX0 61 "CoinMechanism" "scores" "[J"]
def wsX0_part_r2 : List Cond := [Cond.methodLink RX0 196 yX0_addKindToWays, Cond.instanceMethod yX0_addKindToWays, Cond.selects RX0 yX0_addKindToWays yX0_addKindToWays, Cond.code yX0_addKindToWays cX0_addKindToWays 9 none, Cond.constantLong RX0 203 (281474976710656), Cond.fieldLink RX0 13 "CoinMechanism" "values" "[I", Cond.methodLink RX0 200 yX0_digitOf, Cond.instanceMethod yX0_digitOf, Cond.selects RX0 yX0_digitOf yX0_digitOf, Cond.code yX0_digitOf cX0_digitOf 4 (some .int), Cond.methodLink RX0 205 yX0_addPackToWays, Cond.instanceMethod yX0_addPackToWays, Cond.selects RX0 yX0_addPackToWays yX0_addPackToWays, Cond.code yX0_addPackToWays cX0_addPackToWays 8 none, Cond.methodLink RX0 209 Lib.MathLoose.max_long.x, Cond.static Lib.MathLoose.max_long.x, Cond.code Lib.MathLoose.max_long.x Lib.MathLoose.max_long.code 4 (some .long), Cond.methodLink RX0 122 yX0_scoreOf, Cond.instanceMethod yX0_scoreOf, Cond.selects RX0 yX0_scoreOf yX0_scoreOf, Cond.code yX0_scoreOf cX0_scoreOf 2 (some .long), Cond.methodLink RX0 161 yX0_coinsOfKindInWay, Cond.instanceMethod yX0_coinsOfKindInWay, Cond.selects RX0 yX0_coinsOfKindInWay yX0_coinsOfKindInWay]
def wsX0_part_r3 : List Cond := [Cond.code yX0_coinsOfKindInWay cX0_coinsOfKindInWay 4 (some .int), Cond.constantLong RX0 213 (63)]
def wsX0_part : List Cond := .code yX0_part cX0_part 5 (some .int) :: ((wsX0_part_r1 ++ (wsX0_part_r2 ++ wsX0_part_r3)) ++ wsX00 ++ (vx_atS RX0 71 "java/lang/IllegalArgumentException" ["java/lang/RuntimeException", "java/lang/Exception"]).filter goodWord ++ (vx_atS RX0 148 "java/lang/IndexOutOfBoundsException" ["java/lang/RuntimeException", "java/lang/Exception"]).filter goodWord)
def wsX0_below_r1 : List Cond := [Cond.fieldLink RX0 20 "CoinMechanism" "tubes" "[I", Cond.constantLong RX0 126 (-4611686018427387904), Cond.methodLink RX0 154 yX0_checkAmount, Cond.static yX0_checkAmount, Cond.initialized RX0, Cond.code yX0_checkAmount cX0_checkAmount 1 none, Cond.classLink RX0 67 "java/lang/IllegalArgumentException", Cond.initialized "java/lang/IllegalArgumentException", Cond.methodLink RX0 118 yX0_scoreWays, Cond.instanceMethod yX0_scoreWays, Cond.selects RX0 yX0_scoreWays yX0_scoreWays, Cond.code yX0_scoreWays cX0_scoreWays 5 none, Cond.methodLink RX0 94 Lib.Math.min.name, Cond.static Lib.Math.min.name, Cond.initialized "java/lang/Math", Cond.code Lib.Math.min.name Lib.Math.min.code 2 (some .int), Cond.fieldLink RX0 61 "CoinMechanism" "scores" "[J", Cond.fieldLink RX0 9 "CoinMechanism" "kinds" "I", Cond.methodLink RX0 196 yX0_addKindToWays, Cond.instanceMethod yX0_addKindToWays, Cond.selects RX0 yX0_addKindToWays yX0_addKindToWays, Cond.code yX0_addKindToWays cX0_addKindToWays 9 none, Cond.constantLong RX0 203 (281474976710656), Cond.fieldLink RX0 13 "CoinMechanism" "values" "[I"]
def wsX0_below_r2 : List Cond := [Cond.methodLink RX0 200 yX0_digitOf, Cond.instanceMethod yX0_digitOf, Cond.selects RX0 yX0_digitOf yX0_digitOf, Cond.code yX0_digitOf cX0_digitOf 4 (some .int), Cond.methodLink RX0 205 yX0_addPackToWays, Cond.instanceMethod yX0_addPackToWays, Cond.selects RX0 yX0_addPackToWays yX0_addPackToWays, Cond.code yX0_addPackToWays cX0_addPackToWays 8 none, Cond.methodLink RX0 209 Lib.MathLoose.max_long.x, Cond.static Lib.MathLoose.max_long.x, Cond.code Lib.MathLoose.max_long.x Lib.MathLoose.max_long.code 4 (some .long), Cond.methodLink RX0 122 yX0_scoreOf, Cond.instanceMethod yX0_scoreOf, Cond.selects RX0 yX0_scoreOf yX0_scoreOf, Cond.code yX0_scoreOf cX0_scoreOf 2 (some .long)]
def wsX0_below : List Cond := .code yX0_below cX0_below 3 (some .int) :: ((wsX0_below_r1 ++ wsX0_below_r2) ++ wsX00 ++ (vx_atS RX0 71 "java/lang/IllegalArgumentException" ["java/lang/RuntimeException", "java/lang/Exception"]).filter goodWord)
def wsX0_dividesAllValues : List Cond := .code yX0_dividesAllValues cX0_dividesAllValues 3 (some .boolean) :: ([.fieldLink RX0 9 "CoinMechanism" "kinds" "I", .fieldLink RX0 13 "CoinMechanism" "values" "[I"] ++ wsX00)
def wsX0_unit : List Cond := .code yX0_unit cX0_unit 2 (some .int) :: ([.fieldLink RX0 9 "CoinMechanism" "kinds" "I", .methodLink RX0 168 yX0_dividesAllValues, .instanceMethod yX0_dividesAllValues, .selects RX0 yX0_dividesAllValues yX0_dividesAllValues, .initialized RX0, .code yX0_dividesAllValues cX0_dividesAllValues 3 (some .boolean), .fieldLink RX0 13 "CoinMechanism" "values" "[I"] ++ wsX00)
def wsX0_gaps_r1 : List Cond := [Cond.fieldLink RX0 20 "CoinMechanism" "tubes" "[I", Cond.constantLong RX0 126 (-4611686018427387904), Cond.methodLink RX0 154 yX0_checkAmount, Cond.static yX0_checkAmount, Cond.initialized RX0, Cond.code yX0_checkAmount cX0_checkAmount 1 none, Cond.classLink RX0 67 "java/lang/IllegalArgumentException", Cond.initialized "java/lang/IllegalArgumentException", Cond.methodLink RX0 165 yX0_unit, Cond.instanceMethod yX0_unit, Cond.selects RX0 yX0_unit yX0_unit, Cond.code yX0_unit cX0_unit 2 (some .int), Cond.fieldLink RX0 9 "CoinMechanism" "kinds" "I", Cond.methodLink RX0 168 yX0_dividesAllValues, Cond.instanceMethod yX0_dividesAllValues, Cond.selects RX0 yX0_dividesAllValues yX0_dividesAllValues, Cond.code yX0_dividesAllValues cX0_dividesAllValues 3 (some .boolean), Cond.fieldLink RX0 13 "CoinMechanism" "values" "[I", Cond.methodLink RX0 118 yX0_scoreWays, Cond.instanceMethod yX0_scoreWays, Cond.selects RX0 yX0_scoreWays yX0_scoreWays, Cond.code yX0_scoreWays cX0_scoreWays 5 none, Cond.methodLink RX0 94 Lib.Math.min.name, Cond.static Lib.Math.min.name]
def wsX0_gaps_r2 : List Cond := [Cond.initialized "java/lang/Math", Cond.code Lib.Math.min.name Lib.Math.min.code 2 (some .int), Cond.fieldLink RX0 61 "CoinMechanism" "scores" "[J", Cond.methodLink RX0 196 yX0_addKindToWays, Cond.instanceMethod yX0_addKindToWays, Cond.selects RX0 yX0_addKindToWays yX0_addKindToWays, Cond.code yX0_addKindToWays cX0_addKindToWays 9 none, Cond.constantLong RX0 203 (281474976710656), Cond.methodLink RX0 200 yX0_digitOf, Cond.instanceMethod yX0_digitOf, Cond.selects RX0 yX0_digitOf yX0_digitOf, Cond.code yX0_digitOf cX0_digitOf 4 (some .int), Cond.methodLink RX0 205 yX0_addPackToWays, Cond.instanceMethod yX0_addPackToWays, Cond.selects RX0 yX0_addPackToWays yX0_addPackToWays, Cond.code yX0_addPackToWays cX0_addPackToWays 8 none, Cond.methodLink RX0 209 Lib.MathLoose.max_long.x, Cond.static Lib.MathLoose.max_long.x, Cond.code Lib.MathLoose.max_long.x Lib.MathLoose.max_long.code 4 (some .long), Cond.methodLink RX0 122 yX0_scoreOf, Cond.instanceMethod yX0_scoreOf, Cond.selects RX0 yX0_scoreOf yX0_scoreOf, Cond.code yX0_scoreOf cX0_scoreOf 2 (some .long)]
def wsX0_gaps : List Cond := .code yX0_gaps cX0_gaps 5 (some .int) :: ((wsX0_gaps_r1 ++ wsX0_gaps_r2) ++ wsX00 ++ (vx_atS RX0 71 "java/lang/IllegalArgumentException" ["java/lang/RuntimeException", "java/lang/Exception"]).filter goodWord)
def wsX0_overpaid : List Cond := .code yX0_overpaid cX0_overpaid 3 (some .int) :: ([])
def wsX0_needsExactMoney : List Cond := .code yX0_needsExactMoney cX0_needsExactMoney 3 (some .boolean) :: ([.fieldLink RX0 9 "CoinMechanism" "kinds" "I", .fieldLink RX0 29 "CoinMechanism" "accepted" "[Z", .fieldLink RX0 13 "CoinMechanism" "values" "[I", .constantLong RX0 126 (-4611686018427387904), .methodLink RX0 215 yX0_overpaid, .static yX0_overpaid, .initialized RX0, .code yX0_overpaid cX0_overpaid 3 (some .int), .methodLink RX0 122 yX0_scoreOf, .instanceMethod yX0_scoreOf, .selects RX0 yX0_scoreOf yX0_scoreOf, .code yX0_scoreOf cX0_scoreOf 2 (some .long), .fieldLink RX0 61 "CoinMechanism" "scores" "[J"] ++ wsX00)
def wsX0_lamp_r1 : List Cond := [Cond.fieldLink RX0 20 "CoinMechanism" "tubes" "[I", Cond.fieldLink RX0 33 "CoinMechanism" "products" "I", Cond.fieldLink RX0 39 "CoinMechanism" "stocks" "[I", Cond.fieldLink RX0 36 "CoinMechanism" "prices" "[I", Cond.methodLink RX0 118 yX0_scoreWays, Cond.instanceMethod yX0_scoreWays, Cond.selects RX0 yX0_scoreWays yX0_scoreWays, Cond.initialized RX0, Cond.code yX0_scoreWays cX0_scoreWays 5 none, Cond.methodLink RX0 94 Lib.Math.min.name, Cond.static Lib.Math.min.name, Cond.initialized "java/lang/Math", Cond.code Lib.Math.min.name Lib.Math.min.code 2 (some .int), Cond.fieldLink RX0 61 "CoinMechanism" "scores" "[J", Cond.constantLong RX0 126 (-4611686018427387904), Cond.fieldLink RX0 9 "CoinMechanism" "kinds" "I", Cond.methodLink RX0 196 yX0_addKindToWays, Cond.instanceMethod yX0_addKindToWays, Cond.selects RX0 yX0_addKindToWays yX0_addKindToWays, Cond.code yX0_addKindToWays cX0_addKindToWays 9 none, Cond.constantLong RX0 203 (281474976710656), Cond.fieldLink RX0 13 "CoinMechanism" "values" "[I", Cond.methodLink RX0 200 yX0_digitOf, Cond.instanceMethod yX0_digitOf]
def wsX0_lamp_r2 : List Cond := [Cond.selects RX0 yX0_digitOf yX0_digitOf, Cond.code yX0_digitOf cX0_digitOf 4 (some .int), Cond.methodLink RX0 205 yX0_addPackToWays, Cond.instanceMethod yX0_addPackToWays, Cond.selects RX0 yX0_addPackToWays yX0_addPackToWays, Cond.code yX0_addPackToWays cX0_addPackToWays 8 none, Cond.methodLink RX0 209 Lib.MathLoose.max_long.x, Cond.static Lib.MathLoose.max_long.x, Cond.code Lib.MathLoose.max_long.x Lib.MathLoose.max_long.code 4 (some .long), Cond.methodLink RX0 171 yX0_needsExactMoney, Cond.instanceMethod yX0_needsExactMoney, Cond.selects RX0 yX0_needsExactMoney yX0_needsExactMoney, Cond.code yX0_needsExactMoney cX0_needsExactMoney 3 (some .boolean), Cond.fieldLink RX0 29 "CoinMechanism" "accepted" "[Z", Cond.methodLink RX0 215 yX0_overpaid, Cond.static yX0_overpaid, Cond.code yX0_overpaid cX0_overpaid 3 (some .int), Cond.methodLink RX0 122 yX0_scoreOf, Cond.instanceMethod yX0_scoreOf, Cond.selects RX0 yX0_scoreOf yX0_scoreOf, Cond.code yX0_scoreOf cX0_scoreOf 2 (some .long)]
def wsX0_lamp : List Cond := .code yX0_lamp cX0_lamp 2 (some .boolean) :: ((wsX0_lamp_r1 ++ wsX0_lamp_r2) ++ wsX00)
def wsX0_audit : List Cond := .code yX0_audit cX0_audit 2 (some .long) :: ([.classLink RX0 144 "java/lang/IndexOutOfBoundsException", .initialized "java/lang/IndexOutOfBoundsException", .fieldLink RX0 57 "CoinMechanism" "counters" "[J"] ++ wsX00 ++ (vx_atS RX0 148 "java/lang/IndexOutOfBoundsException" ["java/lang/RuntimeException", "java/lang/Exception"]).filter goodWord)
def wsX0_exactShare : List Cond := .code yX0_exactShare cX0_exactShare 3 (some .double) :: ([.fieldLink RX0 57 "CoinMechanism" "counters" "[J"] ++ wsX00)
def wsX0_digestOfKinds : List Cond := .code yX0_digestOfKinds cX0_digestOfKinds 7 (some .long) :: ([.constantLong RX0 182 (31), .fieldLink RX0 9 "CoinMechanism" "kinds" "I", .fieldLink RX0 29 "CoinMechanism" "accepted" "[Z", .methodLink RX0 151 yX0_toldOfKind, .instanceMethod yX0_toldOfKind, .selects RX0 yX0_toldOfKind yX0_toldOfKind, .initialized RX0, .code yX0_toldOfKind cX0_toldOfKind 3 (some .int), .fieldLink RX0 13 "CoinMechanism" "values" "[I", .fieldLink RX0 20 "CoinMechanism" "tubes" "[I", .fieldLink RX0 23 "CoinMechanism" "boxed" "[I", .fieldLink RX0 26 "CoinMechanism" "paid" "[I"] ++ wsX00)
def wsX0_digest : List Cond := .code yX0_digest cX0_digest 4 (some .long) :: ([.constantLong RX0 176 (181), .constantLong RX0 182 (31), .fieldLink RX0 42 "CoinMechanism" "limit" "I", .fieldLink RX0 33 "CoinMechanism" "products" "I", .fieldLink RX0 36 "CoinMechanism" "prices" "[I", .fieldLink RX0 39 "CoinMechanism" "stocks" "[I", .fieldLink RX0 45 "CoinMechanism" "waiting" "I", .fieldLink RX0 48 "CoinMechanism" "waitingKinds" "[I", .fieldLink RX0 57 "CoinMechanism" "counters" "[J", .methodLink RX0 178 yX0_digestOfKinds, .instanceMethod yX0_digestOfKinds, .selects RX0 yX0_digestOfKinds yX0_digestOfKinds, .initialized RX0, .code yX0_digestOfKinds cX0_digestOfKinds 7 (some .long), .fieldLink RX0 9 "CoinMechanism" "kinds" "I", .fieldLink RX0 29 "CoinMechanism" "accepted" "[Z", .methodLink RX0 151 yX0_toldOfKind, .instanceMethod yX0_toldOfKind, .selects RX0 yX0_toldOfKind yX0_toldOfKind, .code yX0_toldOfKind cX0_toldOfKind 3 (some .int), .fieldLink RX0 13 "CoinMechanism" "values" "[I", .fieldLink RX0 20 "CoinMechanism" "tubes" "[I", .fieldLink RX0 23 "CoinMechanism" "boxed" "[I", .fieldLink RX0 26 "CoinMechanism" "paid" "[I"] ++ wsX00)
def wsX1_init : List Cond := .code yX1_init cX1_init 1 none :: ([.methodLink RX1 1 objectInit, .instanceMethod objectInit, .code objectInit ⟨#[0xb1]⟩ 1 none, .arrayClass .int, .fieldLink RX1 9 "CoinMechanismModel" "values" "[I", .fieldLink RX1 13 "CoinMechanismModel" "rooms" "[I", .arrayClass .boolean, .fieldLink RX1 16 "CoinMechanismModel" "areOn" "[Z", .fieldLink RX1 20 "CoinMechanismModel" "tubes" "[I", .fieldLink RX1 23 "CoinMechanismModel" "box" "[I", .fieldLink RX1 26 "CoinMechanismModel" "paid" "[I", .fieldLink RX1 29 "CoinMechanismModel" "order" "[I", .fieldLink RX1 32 "CoinMechanismModel" "prices" "[I", .fieldLink RX1 35 "CoinMechanismModel" "stocks" "[I", .fieldLink RX1 38 "CoinMechanismModel" "limit" "I", .fieldLink RX1 42 "CoinMechanismModel" "escrow" "[I", .fieldLink RX1 45 "CoinMechanismModel" "soldProduct" "I", .arrayClass .long, .fieldLink RX1 48 "CoinMechanismModel" "audits" "[J", .fieldLink RX1 52 "CoinMechanismModel" "fewest" "[I"] ++ wsX10)
def wsX1_thrown : List Cond := .code yX1_thrown cX1_thrown 1 (some .int) :: ([.fieldLink RX1 55 "CoinMechanismModel" "thrown" "I"] ++ wsX10)
def wsX1_fail : List Cond := .code yX1_fail cX1_fail 2 (some .int) :: ([.fieldLink RX1 55 "CoinMechanismModel" "thrown" "I"] ++ wsX10)
def wsX1_isKind : List Cond := .code yX1_isKind cX1_isKind 2 (some .boolean) :: ([.fieldLink RX1 58 "CoinMechanismModel" "kinds" "I"] ++ wsX10)
def wsX1_isProduct : List Cond := .code yX1_isProduct cX1_isProduct 2 (some .boolean) :: ([.fieldLink RX1 61 "CoinMechanismModel" "products" "I"] ++ wsX10)
def wsX1_isAmount : List Cond := .code yX1_isAmount cX1_isAmount 1 (some .boolean) :: ([])
def wsX1_isGoods : List Cond := .code yX1_isGoods cX1_isGoods 2 (some .boolean) :: ([])
def wsX1_addKind : List Cond := .code yX1_addKind cX1_addKind 4 (some .int) :: ([.fieldLink RX1 55 "CoinMechanismModel" "thrown" "I", .fieldLink RX1 58 "CoinMechanismModel" "kinds" "I", .fieldLink RX1 9 "CoinMechanismModel" "values" "[I", .fieldLink RX1 13 "CoinMechanismModel" "rooms" "[I", .fieldLink RX1 16 "CoinMechanismModel" "areOn" "[Z", .fieldLink RX1 29 "CoinMechanismModel" "order" "[I", .methodLink RX1 64 yX1_fail, .instanceMethod yX1_fail, .selects RX1 yX1_fail yX1_fail, .initialized RX1, .code yX1_fail cX1_fail 2 (some .int)] ++ wsX10)
def wsX1_fill : List Cond := .code yX1_fill cX1_fill 4 (some .int) :: ([.fieldLink RX1 55 "CoinMechanismModel" "thrown" "I", .fieldLink RX1 13 "CoinMechanismModel" "rooms" "[I", .fieldLink RX1 20 "CoinMechanismModel" "tubes" "[I", .methodLink RX1 72 Lib.Math.min.name, .static Lib.Math.min.name, .initialized "java/lang/Math", .code Lib.Math.min.name Lib.Math.min.code 2 (some .int), .fieldLink RX1 48 "CoinMechanismModel" "audits" "[J", .fieldLink RX1 9 "CoinMechanismModel" "values" "[I", .methodLink RX1 68 yX1_isKind, .instanceMethod yX1_isKind, .selects RX1 yX1_isKind yX1_isKind, .initialized RX1, .code yX1_isKind cX1_isKind 2 (some .boolean), .fieldLink RX1 58 "CoinMechanismModel" "kinds" "I", .methodLink RX1 64 yX1_fail, .instanceMethod yX1_fail, .selects RX1 yX1_fail yX1_fail, .code yX1_fail cX1_fail 2 (some .int)] ++ wsX10)
def wsX1_take : List Cond := .code yX1_take cX1_take 4 (some .int) :: ([.fieldLink RX1 55 "CoinMechanismModel" "thrown" "I", .fieldLink RX1 20 "CoinMechanismModel" "tubes" "[I", .methodLink RX1 72 Lib.Math.min.name, .static Lib.Math.min.name, .initialized "java/lang/Math", .code Lib.Math.min.name Lib.Math.min.code 2 (some .int), .fieldLink RX1 48 "CoinMechanismModel" "audits" "[J", .fieldLink RX1 9 "CoinMechanismModel" "values" "[I", .methodLink RX1 68 yX1_isKind, .instanceMethod yX1_isKind, .selects RX1 yX1_isKind yX1_isKind, .initialized RX1, .code yX1_isKind cX1_isKind 2 (some .boolean), .fieldLink RX1 58 "CoinMechanismModel" "kinds" "I", .methodLink RX1 64 yX1_fail, .instanceMethod yX1_fail, .selects RX1 yX1_fail yX1_fail, .code yX1_fail cX1_fail 2 (some .int)] ++ wsX10)
def wsX1_emptyBox : List Cond := .code yX1_emptyBox cX1_emptyBox 3 (some .int) :: ([.fieldLink RX1 55 "CoinMechanismModel" "thrown" "I", .fieldLink RX1 58 "CoinMechanismModel" "kinds" "I", .fieldLink RX1 23 "CoinMechanismModel" "box" "[I", .fieldLink RX1 9 "CoinMechanismModel" "values" "[I", .fieldLink RX1 48 "CoinMechanismModel" "audits" "[J"] ++ wsX10)
def wsX1_accept : List Cond := .code yX1_accept cX1_accept 4 (some .boolean) :: ([.fieldLink RX1 55 "CoinMechanismModel" "thrown" "I", .fieldLink RX1 16 "CoinMechanismModel" "areOn" "[Z", .methodLink RX1 68 yX1_isKind, .instanceMethod yX1_isKind, .selects RX1 yX1_isKind yX1_isKind, .initialized RX1, .code yX1_isKind cX1_isKind 2 (some .boolean), .fieldLink RX1 58 "CoinMechanismModel" "kinds" "I"] ++ wsX10)
def wsX1_setLimit : List Cond := .code yX1_setLimit cX1_setLimit 3 (some .int) :: ([.fieldLink RX1 55 "CoinMechanismModel" "thrown" "I", .fieldLink RX1 38 "CoinMechanismModel" "limit" "I", .methodLink RX1 78 yX1_isAmount, .static yX1_isAmount, .initialized RX1, .code yX1_isAmount cX1_isAmount 1 (some .boolean), .methodLink RX1 64 yX1_fail, .instanceMethod yX1_fail, .selects RX1 yX1_fail yX1_fail, .code yX1_fail cX1_fail 2 (some .int)] ++ wsX10)
def wsX1_addProduct : List Cond := .code yX1_addProduct cX1_addProduct 3 (some .int) :: ([.fieldLink RX1 55 "CoinMechanismModel" "thrown" "I", .fieldLink RX1 61 "CoinMechanismModel" "products" "I", .fieldLink RX1 32 "CoinMechanismModel" "prices" "[I", .fieldLink RX1 35 "CoinMechanismModel" "stocks" "[I", .methodLink RX1 81 yX1_isGoods, .static yX1_isGoods, .initialized RX1, .code yX1_isGoods cX1_isGoods 2 (some .boolean), .methodLink RX1 64 yX1_fail, .instanceMethod yX1_fail, .selects RX1 yX1_fail yX1_fail, .code yX1_fail cX1_fail 2 (some .int)] ++ wsX10)
def wsX1_setProduct : List Cond := .code yX1_setProduct cX1_setProduct 5 (some .int) :: ([.fieldLink RX1 55 "CoinMechanismModel" "thrown" "I", .fieldLink RX1 32 "CoinMechanismModel" "prices" "[I", .fieldLink RX1 35 "CoinMechanismModel" "stocks" "[I", .methodLink RX1 85 yX1_isProduct, .instanceMethod yX1_isProduct, .selects RX1 yX1_isProduct yX1_isProduct, .initialized RX1, .code yX1_isProduct cX1_isProduct 2 (some .boolean), .fieldLink RX1 61 "CoinMechanismModel" "products" "I", .methodLink RX1 64 yX1_fail, .instanceMethod yX1_fail, .selects RX1 yX1_fail yX1_fail, .code yX1_fail cX1_fail 2 (some .int), .methodLink RX1 81 yX1_isGoods, .static yX1_isGoods, .code yX1_isGoods cX1_isGoods 2 (some .boolean)] ++ wsX10)
def wsX1_product : List Cond := .code yX1_product cX1_product 3 (some .int) :: ([.fieldLink RX1 55 "CoinMechanismModel" "thrown" "I", .fieldLink RX1 35 "CoinMechanismModel" "stocks" "[I", .fieldLink RX1 32 "CoinMechanismModel" "prices" "[I", .methodLink RX1 85 yX1_isProduct, .instanceMethod yX1_isProduct, .selects RX1 yX1_isProduct yX1_isProduct, .initialized RX1, .code yX1_isProduct cX1_isProduct 2 (some .boolean), .fieldLink RX1 61 "CoinMechanismModel" "products" "I", .methodLink RX1 64 yX1_fail, .instanceMethod yX1_fail, .selects RX1 yX1_fail yX1_fail, .code yX1_fail cX1_fail 2 (some .int)] ++ wsX10)
def wsX1_tabulate : List Cond := .code yX1_tabulate cX1_tabulate 10 none :: ([.fieldLink RX1 52 "CoinMechanismModel" "fewest" "[I", .fieldLink RX1 58 "CoinMechanismModel" "kinds" "I", .fieldLink RX1 9 "CoinMechanismModel" "values" "[I", .fieldLink RX1 29 "CoinMechanismModel" "order" "[I", .fieldLink RX1 20 "CoinMechanismModel" "tubes" "[I"] ++ wsX10)
def wsX1_inAll : List Cond := .code yX1_inAll cX1_inAll 2 (some .int) :: ([.fieldLink RX1 52 "CoinMechanismModel" "fewest" "[I", .fieldLink RX1 58 "CoinMechanismModel" "kinds" "I"] ++ wsX10)
def wsX1_partOf : List Cond := .code yX1_partOf cX1_partOf 8 (some .int) :: ([.fieldLink RX1 58 "CoinMechanismModel" "kinds" "I", .fieldLink RX1 9 "CoinMechanismModel" "values" "[I", .fieldLink RX1 29 "CoinMechanismModel" "order" "[I", .fieldLink RX1 20 "CoinMechanismModel" "tubes" "[I", .methodLink RX1 72 Lib.Math.min.name, .static Lib.Math.min.name, .initialized "java/lang/Math", .code Lib.Math.min.name Lib.Math.min.code 2 (some .int), .fieldLink RX1 52 "CoinMechanismModel" "fewest" "[I"] ++ wsX10)
def wsX1_pay : List Cond := .code yX1_pay cX1_pay 3 (some .boolean) :: ([.fieldLink RX1 58 "CoinMechanismModel" "kinds" "I", .fieldLink RX1 26 "CoinMechanismModel" "paid" "[I", .fieldLink RX1 20 "CoinMechanismModel" "tubes" "[I", .methodLink RX1 88 yX1_tabulate, .instanceMethod yX1_tabulate, .selects RX1 yX1_tabulate yX1_tabulate, .initialized RX1, .code yX1_tabulate cX1_tabulate 10 none, .fieldLink RX1 52 "CoinMechanismModel" "fewest" "[I", .fieldLink RX1 9 "CoinMechanismModel" "values" "[I", .fieldLink RX1 29 "CoinMechanismModel" "order" "[I", .methodLink RX1 92 yX1_inAll, .instanceMethod yX1_inAll, .selects RX1 yX1_inAll yX1_inAll, .code yX1_inAll cX1_inAll 2 (some .int), .methodLink RX1 95 yX1_partOf, .instanceMethod yX1_partOf, .selects RX1 yX1_partOf yX1_partOf, .code yX1_partOf cX1_partOf 8 (some .int), .methodLink RX1 72 Lib.Math.min.name, .static Lib.Math.min.name, .initialized "java/lang/Math", .code Lib.Math.min.name Lib.Math.min.code 2 (some .int)] ++ wsX10)
def wsX1_creditNow : List Cond := .code yX1_creditNow cX1_creditNow 3 (some .int) :: ([.fieldLink RX1 98 "CoinMechanismModel" "waiting" "I", .fieldLink RX1 9 "CoinMechanismModel" "values" "[I", .fieldLink RX1 42 "CoinMechanismModel" "escrow" "[I"] ++ wsX10)
def wsX1_insert : List Cond := .code yX1_insert cX1_insert 2 (some .int) :: ([.fieldLink RX1 55 "CoinMechanismModel" "thrown" "I", .fieldLink RX1 16 "CoinMechanismModel" "areOn" "[Z", .fieldLink RX1 98 "CoinMechanismModel" "waiting" "I", .fieldLink RX1 9 "CoinMechanismModel" "values" "[I", .fieldLink RX1 38 "CoinMechanismModel" "limit" "I", .fieldLink RX1 42 "CoinMechanismModel" "escrow" "[I", .fieldLink RX1 48 "CoinMechanismModel" "audits" "[J", .methodLink RX1 68 yX1_isKind, .instanceMethod yX1_isKind, .selects RX1 yX1_isKind yX1_isKind, .initialized RX1, .code yX1_isKind cX1_isKind 2 (some .boolean), .fieldLink RX1 58 "CoinMechanismModel" "kinds" "I", .methodLink RX1 64 yX1_fail, .instanceMethod yX1_fail, .selects RX1 yX1_fail yX1_fail, .code yX1_fail cX1_fail 2 (some .int), .methodLink RX1 101 yX1_creditNow, .instanceMethod yX1_creditNow, .selects RX1 yX1_creditNow yX1_creditNow, .code yX1_creditNow cX1_creditNow 3 (some .int)] ++ wsX10)
def wsX1_cancel : List Cond := .code yX1_cancel cX1_cancel 2 (some .int) :: ([.fieldLink RX1 55 "CoinMechanismModel" "thrown" "I", .fieldLink RX1 98 "CoinMechanismModel" "waiting" "I", .fieldLink RX1 48 "CoinMechanismModel" "audits" "[J", .methodLink RX1 101 yX1_creditNow, .instanceMethod yX1_creditNow, .selects RX1 yX1_creditNow yX1_creditNow, .initialized RX1, .code yX1_creditNow cX1_creditNow 3 (some .int), .fieldLink RX1 9 "CoinMechanismModel" "values" "[I", .fieldLink RX1 42 "CoinMechanismModel" "escrow" "[I"] ++ wsX10)
def wsX1_buy_r1 : List Cond := [Cond.fieldLink RX1 55 "CoinMechanismModel" "thrown" "I", Cond.fieldLink RX1 35 "CoinMechanismModel" "stocks" "[I", Cond.fieldLink RX1 32 "CoinMechanismModel" "prices" "[I", Cond.fieldLink RX1 20 "CoinMechanismModel" "tubes" "[I", Cond.methodLink RX1 105 ⟨"[I", "clone", "()Ljava/lang/Object;"⟩, Cond.sameMethod "[I" "java/lang/Object" "clone" "()Ljava/lang/Object;", Cond.native ⟨"java/lang/Object", "clone", "()Ljava/lang/Object;"⟩, Cond.instanceMethod ⟨"java/lang/Object", "clone", "()Ljava/lang/Object;"⟩, Cond.selects "[I" ⟨"[I", "clone", "()Ljava/lang/Object;"⟩ ⟨"java/lang/Object", "clone", "()Ljava/lang/Object;"⟩, Cond.classLink RX1 106 "[I", Cond.fieldLink RX1 23 "CoinMechanismModel" "box" "[I", Cond.fieldLink RX1 98 "CoinMechanismModel" "waiting" "I", Cond.fieldLink RX1 42 "CoinMechanismModel" "escrow" "[I", Cond.fieldLink RX1 13 "CoinMechanismModel" "rooms" "[I", Cond.fieldLink RX1 45 "CoinMechanismModel" "soldProduct" "I", Cond.fieldLink RX1 113 "CoinMechanismModel" "soldPrice" "I", Cond.fieldLink RX1 48 "CoinMechanismModel" "audits" "[J", Cond.methodLink RX1 85 yX1_isProduct, Cond.instanceMethod yX1_isProduct, Cond.selects RX1 yX1_isProduct yX1_isProduct, Cond.initialized RX1, Cond.code yX1_isProduct cX1_isProduct 2 (some .boolean), Cond.fieldLink RX1 61 "CoinMechanismModel" "products" "I", Cond.methodLink RX1 64 yX1_fail]
def wsX1_buy_r2 : List Cond := [Cond.instanceMethod yX1_fail, Cond.selects RX1 yX1_fail yX1_fail, Cond.code yX1_fail cX1_fail 2 (some .int), Cond.methodLink RX1 101 yX1_creditNow, Cond.instanceMethod yX1_creditNow, Cond.selects RX1 yX1_creditNow yX1_creditNow, Cond.code yX1_creditNow cX1_creditNow 3 (some .int), Cond.fieldLink RX1 9 "CoinMechanismModel" "values" "[I", Cond.methodLink RX1 110 yX1_pay, Cond.instanceMethod yX1_pay, Cond.selects RX1 yX1_pay yX1_pay, Cond.code yX1_pay cX1_pay 3 (some .boolean), Cond.fieldLink RX1 58 "CoinMechanismModel" "kinds" "I", Cond.fieldLink RX1 26 "CoinMechanismModel" "paid" "[I", Cond.methodLink RX1 88 yX1_tabulate, Cond.instanceMethod yX1_tabulate, Cond.selects RX1 yX1_tabulate yX1_tabulate, Cond.code yX1_tabulate cX1_tabulate 10 none, Cond.fieldLink RX1 52 "CoinMechanismModel" "fewest" "[I", Cond.fieldLink RX1 29 "CoinMechanismModel" "order" "[I", Cond.methodLink RX1 92 yX1_inAll, Cond.instanceMethod yX1_inAll, Cond.selects RX1 yX1_inAll yX1_inAll, Cond.code yX1_inAll cX1_inAll 2 (some .int)]
def wsX1_buy_r3 : List Cond := [Cond.methodLink RX1 95 yX1_partOf, Cond.instanceMethod yX1_partOf, Cond.selects RX1 yX1_partOf yX1_partOf, Cond.code yX1_partOf cX1_partOf 8 (some .int), Cond.methodLink RX1 72 Lib.Math.min.name, Cond.static Lib.Math.min.name, Cond.initialized "java/lang/Math", Cond.code Lib.Math.min.name Lib.Math.min.code 2 (some .int)]
def wsX1_buy : List Cond := .code yX1_buy cX1_buy 6 (some .int) :: ((wsX1_buy_r1 ++ (wsX1_buy_r2 ++ wsX1_buy_r3)) ++ wsX10)
def wsX1_refund_r1 : List Cond := [Cond.fieldLink RX1 45 "CoinMechanismModel" "soldProduct" "I", Cond.fieldLink RX1 55 "CoinMechanismModel" "thrown" "I", Cond.fieldLink RX1 113 "CoinMechanismModel" "soldPrice" "I", Cond.fieldLink RX1 35 "CoinMechanismModel" "stocks" "[I", Cond.methodLink RX1 72 Lib.Math.min.name, Cond.static Lib.Math.min.name, Cond.initialized "java/lang/Math", Cond.code Lib.Math.min.name Lib.Math.min.code 2 (some .int), Cond.fieldLink RX1 48 "CoinMechanismModel" "audits" "[J", Cond.methodLink RX1 110 yX1_pay, Cond.instanceMethod yX1_pay, Cond.selects RX1 yX1_pay yX1_pay, Cond.initialized RX1, Cond.code yX1_pay cX1_pay 3 (some .boolean), Cond.fieldLink RX1 58 "CoinMechanismModel" "kinds" "I", Cond.fieldLink RX1 26 "CoinMechanismModel" "paid" "[I", Cond.fieldLink RX1 20 "CoinMechanismModel" "tubes" "[I", Cond.methodLink RX1 88 yX1_tabulate, Cond.instanceMethod yX1_tabulate, Cond.selects RX1 yX1_tabulate yX1_tabulate, Cond.code yX1_tabulate cX1_tabulate 10 none, Cond.fieldLink RX1 52 "CoinMechanismModel" "fewest" "[I", Cond.fieldLink RX1 9 "CoinMechanismModel" "values" "[I", Cond.fieldLink RX1 29 "CoinMechanismModel" "order" "[I"]
def wsX1_refund_r2 : List Cond := [Cond.methodLink RX1 92 yX1_inAll, Cond.instanceMethod yX1_inAll, Cond.selects RX1 yX1_inAll yX1_inAll, Cond.code yX1_inAll cX1_inAll 2 (some .int), Cond.methodLink RX1 95 yX1_partOf, Cond.instanceMethod yX1_partOf, Cond.selects RX1 yX1_partOf yX1_partOf, Cond.code yX1_partOf cX1_partOf 8 (some .int)]
def wsX1_refund : List Cond := .code yX1_refund cX1_refund 1 (some .boolean) :: ((wsX1_refund_r1 ++ wsX1_refund_r2) ++ wsX10)
def wsX1_credit : List Cond := .code yX1_credit cX1_credit 1 (some .int) :: ([.fieldLink RX1 55 "CoinMechanismModel" "thrown" "I", .methodLink RX1 101 yX1_creditNow, .instanceMethod yX1_creditNow, .selects RX1 yX1_creditNow yX1_creditNow, .initialized RX1, .code yX1_creditNow cX1_creditNow 3 (some .int), .fieldLink RX1 98 "CoinMechanismModel" "waiting" "I", .fieldLink RX1 9 "CoinMechanismModel" "values" "[I", .fieldLink RX1 42 "CoinMechanismModel" "escrow" "[I"] ++ wsX10)
def wsX1_escrow : List Cond := .code yX1_escrow cX1_escrow 2 (some .int) :: ([.fieldLink RX1 55 "CoinMechanismModel" "thrown" "I", .fieldLink RX1 98 "CoinMechanismModel" "waiting" "I", .fieldLink RX1 42 "CoinMechanismModel" "escrow" "[I", .methodLink RX1 64 yX1_fail, .instanceMethod yX1_fail, .selects RX1 yX1_fail yX1_fail, .initialized RX1, .code yX1_fail cX1_fail 2 (some .int)] ++ wsX10)
def wsX1_told : List Cond := .code yX1_told cX1_told 3 (some .int) :: ([.fieldLink RX1 9 "CoinMechanismModel" "values" "[I", .fieldLink RX1 20 "CoinMechanismModel" "tubes" "[I", .fieldLink RX1 23 "CoinMechanismModel" "box" "[I", .fieldLink RX1 26 "CoinMechanismModel" "paid" "[I"] ++ wsX10)
def wsX1_coins : List Cond := .code yX1_coins cX1_coins 3 (some .int) :: ([.fieldLink RX1 55 "CoinMechanismModel" "thrown" "I", .methodLink RX1 68 yX1_isKind, .instanceMethod yX1_isKind, .selects RX1 yX1_isKind yX1_isKind, .initialized RX1, .code yX1_isKind cX1_isKind 2 (some .boolean), .fieldLink RX1 58 "CoinMechanismModel" "kinds" "I", .methodLink RX1 116 yX1_told, .instanceMethod yX1_told, .selects RX1 yX1_told yX1_told, .code yX1_told cX1_told 3 (some .int), .fieldLink RX1 9 "CoinMechanismModel" "values" "[I", .fieldLink RX1 20 "CoinMechanismModel" "tubes" "[I", .fieldLink RX1 23 "CoinMechanismModel" "box" "[I", .fieldLink RX1 26 "CoinMechanismModel" "paid" "[I", .methodLink RX1 64 yX1_fail, .instanceMethod yX1_fail, .selects RX1 yX1_fail yX1_fail, .code yX1_fail cX1_fail 2 (some .int)] ++ wsX10)
def wsX1_fewest : List Cond := .code yX1_fewest cX1_fewest 2 (some .int) :: ([.fieldLink RX1 55 "CoinMechanismModel" "thrown" "I", .methodLink RX1 78 yX1_isAmount, .static yX1_isAmount, .initialized RX1, .code yX1_isAmount cX1_isAmount 1 (some .boolean), .methodLink RX1 64 yX1_fail, .instanceMethod yX1_fail, .selects RX1 yX1_fail yX1_fail, .code yX1_fail cX1_fail 2 (some .int), .methodLink RX1 88 yX1_tabulate, .instanceMethod yX1_tabulate, .selects RX1 yX1_tabulate yX1_tabulate, .code yX1_tabulate cX1_tabulate 10 none, .fieldLink RX1 52 "CoinMechanismModel" "fewest" "[I", .fieldLink RX1 58 "CoinMechanismModel" "kinds" "I", .fieldLink RX1 9 "CoinMechanismModel" "values" "[I", .fieldLink RX1 29 "CoinMechanismModel" "order" "[I", .fieldLink RX1 20 "CoinMechanismModel" "tubes" "[I", .methodLink RX1 92 yX1_inAll, .instanceMethod yX1_inAll, .selects RX1 yX1_inAll yX1_inAll, .code yX1_inAll cX1_inAll 2 (some .int)] ++ wsX10)
def wsX1_part_r1 : List Cond := [Cond.fieldLink RX1 55 "CoinMechanismModel" "thrown" "I", Cond.methodLink RX1 78 yX1_isAmount, Cond.static yX1_isAmount, Cond.initialized RX1, Cond.code yX1_isAmount cX1_isAmount 1 (some .boolean), Cond.methodLink RX1 64 yX1_fail, Cond.instanceMethod yX1_fail, Cond.selects RX1 yX1_fail yX1_fail, Cond.code yX1_fail cX1_fail 2 (some .int), Cond.methodLink RX1 68 yX1_isKind, Cond.instanceMethod yX1_isKind, Cond.selects RX1 yX1_isKind yX1_isKind, Cond.code yX1_isKind cX1_isKind 2 (some .boolean), Cond.fieldLink RX1 58 "CoinMechanismModel" "kinds" "I", Cond.methodLink RX1 88 yX1_tabulate, Cond.instanceMethod yX1_tabulate, Cond.selects RX1 yX1_tabulate yX1_tabulate, Cond.code yX1_tabulate cX1_tabulate 10 none, Cond.fieldLink RX1 52 "CoinMechanismModel" "fewest" "[I", Cond.fieldLink RX1 9 "CoinMechanismModel" "values" "[I", Cond.fieldLink RX1 29 "CoinMechanismModel" "order" "[I", Cond.fieldLink RX1 20 "CoinMechanismModel" "tubes" "[I", Cond.methodLink RX1 92 yX1_inAll, Cond.instanceMethod yX1_inAll]
def wsX1_part_r2 : List Cond := [Cond.selects RX1 yX1_inAll yX1_inAll, Cond.code yX1_inAll cX1_inAll 2 (some .int), Cond.methodLink RX1 95 yX1_partOf, Cond.instanceMethod yX1_partOf, Cond.selects RX1 yX1_partOf yX1_partOf, Cond.code yX1_partOf cX1_partOf 8 (some .int), Cond.methodLink RX1 72 Lib.Math.min.name, Cond.static Lib.Math.min.name, Cond.initialized "java/lang/Math", Cond.code Lib.Math.min.name Lib.Math.min.code 2 (some .int)]
def wsX1_part : List Cond := .code yX1_part cX1_part 3 (some .int) :: ((wsX1_part_r1 ++ wsX1_part_r2) ++ wsX10)
def wsX1_below : List Cond := .code yX1_below cX1_below 3 (some .int) :: ([.fieldLink RX1 55 "CoinMechanismModel" "thrown" "I", .methodLink RX1 78 yX1_isAmount, .static yX1_isAmount, .initialized RX1, .code yX1_isAmount cX1_isAmount 1 (some .boolean), .methodLink RX1 64 yX1_fail, .instanceMethod yX1_fail, .selects RX1 yX1_fail yX1_fail, .code yX1_fail cX1_fail 2 (some .int), .methodLink RX1 88 yX1_tabulate, .instanceMethod yX1_tabulate, .selects RX1 yX1_tabulate yX1_tabulate, .code yX1_tabulate cX1_tabulate 10 none, .fieldLink RX1 52 "CoinMechanismModel" "fewest" "[I", .fieldLink RX1 58 "CoinMechanismModel" "kinds" "I", .fieldLink RX1 9 "CoinMechanismModel" "values" "[I", .fieldLink RX1 29 "CoinMechanismModel" "order" "[I", .fieldLink RX1 20 "CoinMechanismModel" "tubes" "[I", .methodLink RX1 92 yX1_inAll, .instanceMethod yX1_inAll, .selects RX1 yX1_inAll yX1_inAll, .code yX1_inAll cX1_inAll 2 (some .int)] ++ wsX10)
def wsX1_unitNow : List Cond := .code yX1_unitNow cX1_unitNow 5 (some .int) :: ([.fieldLink RX1 58 "CoinMechanismModel" "kinds" "I", .fieldLink RX1 9 "CoinMechanismModel" "values" "[I"] ++ wsX10)
def wsX1_gaps_r1 : List Cond := [Cond.fieldLink RX1 55 "CoinMechanismModel" "thrown" "I", Cond.methodLink RX1 78 yX1_isAmount, Cond.static yX1_isAmount, Cond.initialized RX1, Cond.code yX1_isAmount cX1_isAmount 1 (some .boolean), Cond.methodLink RX1 64 yX1_fail, Cond.instanceMethod yX1_fail, Cond.selects RX1 yX1_fail yX1_fail, Cond.code yX1_fail cX1_fail 2 (some .int), Cond.methodLink RX1 88 yX1_tabulate, Cond.instanceMethod yX1_tabulate, Cond.selects RX1 yX1_tabulate yX1_tabulate, Cond.code yX1_tabulate cX1_tabulate 10 none, Cond.fieldLink RX1 52 "CoinMechanismModel" "fewest" "[I", Cond.fieldLink RX1 58 "CoinMechanismModel" "kinds" "I", Cond.fieldLink RX1 9 "CoinMechanismModel" "values" "[I", Cond.fieldLink RX1 29 "CoinMechanismModel" "order" "[I", Cond.fieldLink RX1 20 "CoinMechanismModel" "tubes" "[I", Cond.methodLink RX1 119 yX1_unitNow, Cond.instanceMethod yX1_unitNow, Cond.selects RX1 yX1_unitNow yX1_unitNow, Cond.code yX1_unitNow cX1_unitNow 5 (some .int), Cond.methodLink RX1 92 yX1_inAll, Cond.instanceMethod yX1_inAll]
def wsX1_gaps_r2 : List Cond := [Cond.selects RX1 yX1_inAll yX1_inAll, Cond.code yX1_inAll cX1_inAll 2 (some .int)]
def wsX1_gaps : List Cond := .code yX1_gaps cX1_gaps 5 (some .int) :: ((wsX1_gaps_r1 ++ wsX1_gaps_r2) ++ wsX10)
def wsX1_unit : List Cond := .code yX1_unit cX1_unit 1 (some .int) :: ([.fieldLink RX1 55 "CoinMechanismModel" "thrown" "I", .methodLink RX1 119 yX1_unitNow, .instanceMethod yX1_unitNow, .selects RX1 yX1_unitNow yX1_unitNow, .initialized RX1, .code yX1_unitNow cX1_unitNow 5 (some .int), .fieldLink RX1 58 "CoinMechanismModel" "kinds" "I", .fieldLink RX1 9 "CoinMechanismModel" "values" "[I"] ++ wsX10)
def wsX1_lamp : List Cond := .code yX1_lamp cX1_lamp 5 (some .boolean) :: ([.fieldLink RX1 55 "CoinMechanismModel" "thrown" "I", .fieldLink RX1 61 "CoinMechanismModel" "products" "I", .fieldLink RX1 58 "CoinMechanismModel" "kinds" "I", .fieldLink RX1 35 "CoinMechanismModel" "stocks" "[I", .fieldLink RX1 16 "CoinMechanismModel" "areOn" "[Z", .fieldLink RX1 32 "CoinMechanismModel" "prices" "[I", .fieldLink RX1 9 "CoinMechanismModel" "values" "[I", .methodLink RX1 88 yX1_tabulate, .instanceMethod yX1_tabulate, .selects RX1 yX1_tabulate yX1_tabulate, .initialized RX1, .code yX1_tabulate cX1_tabulate 10 none, .fieldLink RX1 52 "CoinMechanismModel" "fewest" "[I", .fieldLink RX1 29 "CoinMechanismModel" "order" "[I", .fieldLink RX1 20 "CoinMechanismModel" "tubes" "[I", .methodLink RX1 92 yX1_inAll, .instanceMethod yX1_inAll, .selects RX1 yX1_inAll yX1_inAll, .code yX1_inAll cX1_inAll 2 (some .int)] ++ wsX10)
def wsX1_audit : List Cond := .code yX1_audit cX1_audit 2 (some .long) :: ([.fieldLink RX1 55 "CoinMechanismModel" "thrown" "I", .fieldLink RX1 48 "CoinMechanismModel" "audits" "[J"] ++ wsX10)
def wsX1_exactShare : List Cond := .code yX1_exactShare cX1_exactShare 1 (some .double) :: ([.fieldLink RX1 55 "CoinMechanismModel" "thrown" "I", .fieldLink RX1 48 "CoinMechanismModel" "audits" "[J"] ++ wsX10)
def wsX1_digest : List Cond := .code yX1_digest cX1_digest 8 (some .long) :: ([.fieldLink RX1 55 "CoinMechanismModel" "thrown" "I", .constantLong RX1 122 (5611), .fieldLink RX1 58 "CoinMechanismModel" "kinds" "I", .constantLong RX1 124 (31), .fieldLink RX1 16 "CoinMechanismModel" "areOn" "[Z", .fieldLink RX1 38 "CoinMechanismModel" "limit" "I", .fieldLink RX1 61 "CoinMechanismModel" "products" "I", .fieldLink RX1 32 "CoinMechanismModel" "prices" "[I", .fieldLink RX1 35 "CoinMechanismModel" "stocks" "[I", .fieldLink RX1 98 "CoinMechanismModel" "waiting" "I", .fieldLink RX1 42 "CoinMechanismModel" "escrow" "[I", .fieldLink RX1 48 "CoinMechanismModel" "audits" "[J", .methodLink RX1 116 yX1_told, .instanceMethod yX1_told, .selects RX1 yX1_told yX1_told, .initialized RX1, .code yX1_told cX1_told 3 (some .int), .fieldLink RX1 9 "CoinMechanismModel" "values" "[I", .fieldLink RX1 20 "CoinMechanismModel" "tubes" "[I", .fieldLink RX1 23 "CoinMechanismModel" "box" "[I", .fieldLink RX1 26 "CoinMechanismModel" "paid" "[I"] ++ wsX10)
def wsJ9_max_f86c9 : List Cond := .code yJ9_max_f86c9 cJ9_max_f86c9 4 (some .long) :: ([])
def wsJ9_min_7cf53 : List Cond := .code yJ9_min_7cf53 cJ9_min_7cf53 2 (some .int) :: ([])
def wsL_addKind : List Cond := .codeWith yL_addKind cL_addKind 5 (some .int) [(0, 10, 13, 13), (0, 10, 17, 15)] :: ([.classLink RL 13 "java/lang/IllegalArgumentException", .classLink RL 15 "java/lang/IllegalStateException", .methodLink RL 7 yX0_addKind, .instanceMethod yX0_addKind, .selects RX0 yX0_addKind yX0_addKind, .initialized RX0, .code yX0_addKind cX0_addKind 3 (some .int), .classLink RX0 67 "java/lang/IllegalArgumentException", .initialized "java/lang/IllegalArgumentException", .classLink RX0 76 "java/lang/IllegalStateException", .initialized "java/lang/IllegalStateException", .fieldLink RX0 9 "CoinMechanism" "kinds" "I", .fieldLink RX0 13 "CoinMechanism" "values" "[I", .fieldLink RX0 17 "CoinMechanism" "capacities" "[I", .fieldLink RX0 29 "CoinMechanism" "accepted" "[Z", .methodLink RX0 81 yX0_hasKindOfValue, .instanceMethod yX0_hasKindOfValue, .selects RX0 yX0_hasKindOfValue yX0_hasKindOfValue, .code yX0_hasKindOfValue cX0_hasKindOfValue 3 (some .boolean)] ++ wsX00 ++ (vx_atS RX0 71 "java/lang/IllegalArgumentException" ["java/lang/RuntimeException", "java/lang/Exception"]).filter goodWord ++ (vx_atS RX0 80 "java/lang/IllegalStateException" ["java/lang/RuntimeException", "java/lang/Exception"]).filter goodWord)
def wsL_fill_r1 : List Cond := [Cond.classLink RL 20 "java/lang/IndexOutOfBoundsException", Cond.classLink RL 13 "java/lang/IllegalArgumentException", Cond.methodLink RL 17 yX0_fill, Cond.instanceMethod yX0_fill, Cond.selects RX0 yX0_fill yX0_fill, Cond.initialized RX0, Cond.code yX0_fill cX0_fill 4 (some .int), Cond.fieldLink RX0 17 "CoinMechanism" "capacities" "[I", Cond.fieldLink RX0 20 "CoinMechanism" "tubes" "[I", Cond.methodLink RX0 94 Lib.Math.min.name, Cond.static Lib.Math.min.name, Cond.initialized "java/lang/Math", Cond.code Lib.Math.min.name Lib.Math.min.code 2 (some .int), Cond.fieldLink RX0 57 "CoinMechanism" "counters" "[J", Cond.fieldLink RX0 13 "CoinMechanism" "values" "[I", Cond.methodLink RX0 87 yX0_checkKind, Cond.instanceMethod yX0_checkKind, Cond.selects RX0 yX0_checkKind yX0_checkKind, Cond.code yX0_checkKind cX0_checkKind 2 none, Cond.classLink RX0 144 "java/lang/IndexOutOfBoundsException", Cond.initialized "java/lang/IndexOutOfBoundsException", Cond.fieldLink RX0 9 "CoinMechanism" "kinds" "I", Cond.methodLink RX0 91 yX0_checkMany, Cond.static yX0_checkMany]
def wsL_fill_r2 : List Cond := [Cond.code yX0_checkMany cX0_checkMany 1 none, Cond.classLink RX0 67 "java/lang/IllegalArgumentException", Cond.initialized "java/lang/IllegalArgumentException"]
def wsL_fill : List Cond := .codeWith yL_fill cL_fill 5 (some .int) [(0, 10, 13, 20), (0, 10, 17, 13)] :: ((wsL_fill_r1 ++ wsL_fill_r2) ++ wsX00 ++ (vx_atS RX0 148 "java/lang/IndexOutOfBoundsException" ["java/lang/RuntimeException", "java/lang/Exception"]).filter goodWord ++ (vx_atS RX0 71 "java/lang/IllegalArgumentException" ["java/lang/RuntimeException", "java/lang/Exception"]).filter goodWord)
def wsL_take_r1 : List Cond := [Cond.classLink RL 20 "java/lang/IndexOutOfBoundsException", Cond.classLink RL 13 "java/lang/IllegalArgumentException", Cond.methodLink RL 22 yX0_take, Cond.instanceMethod yX0_take, Cond.selects RX0 yX0_take yX0_take, Cond.initialized RX0, Cond.code yX0_take cX0_take 4 (some .int), Cond.fieldLink RX0 20 "CoinMechanism" "tubes" "[I", Cond.methodLink RX0 94 Lib.Math.min.name, Cond.static Lib.Math.min.name, Cond.initialized "java/lang/Math", Cond.code Lib.Math.min.name Lib.Math.min.code 2 (some .int), Cond.fieldLink RX0 57 "CoinMechanism" "counters" "[J", Cond.fieldLink RX0 13 "CoinMechanism" "values" "[I", Cond.methodLink RX0 87 yX0_checkKind, Cond.instanceMethod yX0_checkKind, Cond.selects RX0 yX0_checkKind yX0_checkKind, Cond.code yX0_checkKind cX0_checkKind 2 none, Cond.classLink RX0 144 "java/lang/IndexOutOfBoundsException", Cond.initialized "java/lang/IndexOutOfBoundsException", Cond.fieldLink RX0 9 "CoinMechanism" "kinds" "I", Cond.methodLink RX0 91 yX0_checkMany, Cond.static yX0_checkMany, Cond.code yX0_checkMany cX0_checkMany 1 none]
def wsL_take_r2 : List Cond := [Cond.classLink RX0 67 "java/lang/IllegalArgumentException", Cond.initialized "java/lang/IllegalArgumentException"]
def wsL_take : List Cond := .codeWith yL_take cL_take 5 (some .int) [(0, 10, 13, 20), (0, 10, 17, 13)] :: ((wsL_take_r1 ++ wsL_take_r2) ++ wsX00 ++ (vx_atS RX0 148 "java/lang/IndexOutOfBoundsException" ["java/lang/RuntimeException", "java/lang/Exception"]).filter goodWord ++ (vx_atS RX0 71 "java/lang/IllegalArgumentException" ["java/lang/RuntimeException", "java/lang/Exception"]).filter goodWord)
def wsL_accept : List Cond := .codeWith yL_accept cL_accept 5 (some .int) [(0, 17, 20, 20)] :: ([.classLink RL 20 "java/lang/IndexOutOfBoundsException", .methodLink RL 25 yX0_accept, .instanceMethod yX0_accept, .selects RX0 yX0_accept yX0_accept, .initialized RX0, .code yX0_accept cX0_accept 4 (some .boolean), .fieldLink RX0 29 "CoinMechanism" "accepted" "[Z", .methodLink RX0 87 yX0_checkKind, .instanceMethod yX0_checkKind, .selects RX0 yX0_checkKind yX0_checkKind, .code yX0_checkKind cX0_checkKind 2 none, .classLink RX0 144 "java/lang/IndexOutOfBoundsException", .initialized "java/lang/IndexOutOfBoundsException", .fieldLink RX0 9 "CoinMechanism" "kinds" "I"] ++ wsX00 ++ (vx_atS RX0 148 "java/lang/IndexOutOfBoundsException" ["java/lang/RuntimeException", "java/lang/Exception"]).filter goodWord)
def wsL_setLimit : List Cond := .codeWith yL_setLimit cL_setLimit 4 (some .int) [(0, 9, 12, 13)] :: ([.classLink RL 13 "java/lang/IllegalArgumentException", .methodLink RL 29 yX0_setLimit, .instanceMethod yX0_setLimit, .selects RX0 yX0_setLimit yX0_setLimit, .initialized RX0, .code yX0_setLimit cX0_setLimit 3 (some .int), .classLink RX0 67 "java/lang/IllegalArgumentException", .initialized "java/lang/IllegalArgumentException", .fieldLink RX0 42 "CoinMechanism" "limit" "I"] ++ wsX00 ++ (vx_atS RX0 71 "java/lang/IllegalArgumentException" ["java/lang/RuntimeException", "java/lang/Exception"]).filter goodWord)
def wsL_addProduct : List Cond := .codeWith yL_addProduct cL_addProduct 5 (some .int) [(0, 10, 13, 13), (0, 10, 17, 15)] :: ([.classLink RL 13 "java/lang/IllegalArgumentException", .classLink RL 15 "java/lang/IllegalStateException", .methodLink RL 33 yX0_addProduct, .instanceMethod yX0_addProduct, .selects RX0 yX0_addProduct yX0_addProduct, .initialized RX0, .code yX0_addProduct cX0_addProduct 3 (some .int), .classLink RX0 76 "java/lang/IllegalStateException", .initialized "java/lang/IllegalStateException", .fieldLink RX0 33 "CoinMechanism" "products" "I", .fieldLink RX0 36 "CoinMechanism" "prices" "[I", .fieldLink RX0 39 "CoinMechanism" "stocks" "[I", .methodLink RX0 102 yX0_checkPriceAndStock, .static yX0_checkPriceAndStock, .code yX0_checkPriceAndStock cX0_checkPriceAndStock 2 none, .classLink RX0 67 "java/lang/IllegalArgumentException", .initialized "java/lang/IllegalArgumentException"] ++ wsX00 ++ (vx_atS RX0 80 "java/lang/IllegalStateException" ["java/lang/RuntimeException", "java/lang/Exception"]).filter goodWord ++ (vx_atS RX0 71 "java/lang/IllegalArgumentException" ["java/lang/RuntimeException", "java/lang/Exception"]).filter goodWord)
def wsL_setProduct : List Cond := .codeWith yL_setProduct cL_setProduct 6 (some .int) [(0, 12, 15, 20), (0, 12, 19, 13)] :: ([.classLink RL 20 "java/lang/IndexOutOfBoundsException", .classLink RL 13 "java/lang/IllegalArgumentException", .methodLink RL 36 yX0_setProduct, .instanceMethod yX0_setProduct, .selects RX0 yX0_setProduct yX0_setProduct, .initialized RX0, .code yX0_setProduct cX0_setProduct 5 (some .int), .fieldLink RX0 36 "CoinMechanism" "prices" "[I", .fieldLink RX0 39 "CoinMechanism" "stocks" "[I", .methodLink RX0 108 yX0_checkProduct, .instanceMethod yX0_checkProduct, .selects RX0 yX0_checkProduct yX0_checkProduct, .code yX0_checkProduct cX0_checkProduct 2 none, .classLink RX0 144 "java/lang/IndexOutOfBoundsException", .initialized "java/lang/IndexOutOfBoundsException", .fieldLink RX0 33 "CoinMechanism" "products" "I", .methodLink RX0 102 yX0_checkPriceAndStock, .static yX0_checkPriceAndStock, .code yX0_checkPriceAndStock cX0_checkPriceAndStock 2 none, .classLink RX0 67 "java/lang/IllegalArgumentException", .initialized "java/lang/IllegalArgumentException"] ++ wsX00 ++ (vx_atS RX0 148 "java/lang/IndexOutOfBoundsException" ["java/lang/RuntimeException", "java/lang/Exception"]).filter goodWord ++ (vx_atS RX0 71 "java/lang/IllegalArgumentException" ["java/lang/RuntimeException", "java/lang/Exception"]).filter goodWord)
def wsL_product : List Cond := .codeWith yL_product cL_product 5 (some .int) [(0, 10, 13, 20)] :: ([.classLink RL 20 "java/lang/IndexOutOfBoundsException", .methodLink RL 40 yX0_product, .instanceMethod yX0_product, .selects RX0 yX0_product yX0_product, .initialized RX0, .code yX0_product cX0_product 3 (some .int), .fieldLink RX0 39 "CoinMechanism" "stocks" "[I", .fieldLink RX0 36 "CoinMechanism" "prices" "[I", .methodLink RX0 108 yX0_checkProduct, .instanceMethod yX0_checkProduct, .selects RX0 yX0_checkProduct yX0_checkProduct, .code yX0_checkProduct cX0_checkProduct 2 none, .classLink RX0 144 "java/lang/IndexOutOfBoundsException", .initialized "java/lang/IndexOutOfBoundsException", .fieldLink RX0 33 "CoinMechanism" "products" "I"] ++ wsX00 ++ (vx_atS RX0 148 "java/lang/IndexOutOfBoundsException" ["java/lang/RuntimeException", "java/lang/Exception"]).filter goodWord)
def wsL_insert_r1 : List Cond := [Cond.classLink RL 20 "java/lang/IndexOutOfBoundsException", Cond.methodLink RL 44 yX0_insert, Cond.instanceMethod yX0_insert, Cond.selects RX0 yX0_insert yX0_insert, Cond.initialized RX0, Cond.code yX0_insert cX0_insert 2 (some .int), Cond.fieldLink RX0 29 "CoinMechanism" "accepted" "[Z", Cond.fieldLink RX0 45 "CoinMechanism" "waiting" "I", Cond.fieldLink RX0 13 "CoinMechanism" "values" "[I", Cond.fieldLink RX0 42 "CoinMechanism" "limit" "I", Cond.fieldLink RX0 48 "CoinMechanism" "waitingKinds" "[I", Cond.fieldLink RX0 57 "CoinMechanism" "counters" "[J", Cond.methodLink RX0 87 yX0_checkKind, Cond.instanceMethod yX0_checkKind, Cond.selects RX0 yX0_checkKind yX0_checkKind, Cond.code yX0_checkKind cX0_checkKind 2 none, Cond.classLink RX0 144 "java/lang/IndexOutOfBoundsException", Cond.initialized "java/lang/IndexOutOfBoundsException", Cond.fieldLink RX0 9 "CoinMechanism" "kinds" "I", Cond.methodLink RX0 111 yX0_credit, Cond.instanceMethod yX0_credit, Cond.selects RX0 yX0_credit yX0_credit, Cond.code yX0_credit cX0_credit 3 (some .int), Cond.methodLink RX0 140 yX0_waitingOf]
def wsL_insert_r2 : List Cond := [Cond.instanceMethod yX0_waitingOf, Cond.selects RX0 yX0_waitingOf yX0_waitingOf, Cond.code yX0_waitingOf cX0_waitingOf 4 (some .int)]
def wsL_insert : List Cond := .codeWith yL_insert cL_insert 4 (some .int) [(0, 9, 12, 20)] :: ((wsL_insert_r1 ++ wsL_insert_r2) ++ wsX00 ++ (vx_atS RX0 148 "java/lang/IndexOutOfBoundsException" ["java/lang/RuntimeException", "java/lang/Exception"]).filter goodWord)
def wsL_buy_r1 : List Cond := [Cond.classLink RL 20 "java/lang/IndexOutOfBoundsException", Cond.methodLink RL 47 yX0_buy, Cond.instanceMethod yX0_buy, Cond.selects RX0 yX0_buy yX0_buy, Cond.initialized RX0, Cond.code yX0_buy cX0_buy 6 (some .int), Cond.fieldLink RX0 39 "CoinMechanism" "stocks" "[I", Cond.fieldLink RX0 36 "CoinMechanism" "prices" "[I", Cond.fieldLink RX0 64 "CoinMechanism" "tubesAfter" "[I", Cond.constantLong RX0 126 (-4611686018427387904), Cond.fieldLink RX0 51 "CoinMechanism" "soldProduct" "I", Cond.fieldLink RX0 54 "CoinMechanism" "soldPrice" "I", Cond.methodLink RX0 108 yX0_checkProduct, Cond.instanceMethod yX0_checkProduct, Cond.selects RX0 yX0_checkProduct yX0_checkProduct, Cond.code yX0_checkProduct cX0_checkProduct 2 none, Cond.classLink RX0 144 "java/lang/IndexOutOfBoundsException", Cond.initialized "java/lang/IndexOutOfBoundsException", Cond.fieldLink RX0 33 "CoinMechanism" "products" "I", Cond.methodLink RX0 111 yX0_credit, Cond.instanceMethod yX0_credit, Cond.selects RX0 yX0_credit yX0_credit, Cond.code yX0_credit cX0_credit 3 (some .int), Cond.fieldLink RX0 9 "CoinMechanism" "kinds" "I"]
def wsL_buy_r2 : List Cond := [Cond.fieldLink RX0 13 "CoinMechanism" "values" "[I", Cond.methodLink RX0 140 yX0_waitingOf, Cond.instanceMethod yX0_waitingOf, Cond.selects RX0 yX0_waitingOf yX0_waitingOf, Cond.code yX0_waitingOf cX0_waitingOf 4 (some .int), Cond.fieldLink RX0 45 "CoinMechanism" "waiting" "I", Cond.fieldLink RX0 48 "CoinMechanism" "waitingKinds" "[I", Cond.methodLink RX0 115 yX0_foreseeTubes, Cond.instanceMethod yX0_foreseeTubes, Cond.selects RX0 yX0_foreseeTubes yX0_foreseeTubes, Cond.code yX0_foreseeTubes cX0_foreseeTubes 2 none, Cond.fieldLink RX0 20 "CoinMechanism" "tubes" "[I", Cond.fieldLink RX0 17 "CoinMechanism" "capacities" "[I", Cond.methodLink RX0 94 Lib.Math.min.name, Cond.static Lib.Math.min.name, Cond.initialized "java/lang/Math", Cond.code Lib.Math.min.name Lib.Math.min.code 2 (some .int), Cond.methodLink RX0 118 yX0_scoreWays, Cond.instanceMethod yX0_scoreWays, Cond.selects RX0 yX0_scoreWays yX0_scoreWays, Cond.code yX0_scoreWays cX0_scoreWays 5 none, Cond.fieldLink RX0 61 "CoinMechanism" "scores" "[J", Cond.methodLink RX0 196 yX0_addKindToWays, Cond.instanceMethod yX0_addKindToWays]
def wsL_buy_r3 : List Cond := [Cond.selects RX0 yX0_addKindToWays yX0_addKindToWays, Cond.code yX0_addKindToWays cX0_addKindToWays 9 none, Cond.constantLong RX0 203 (281474976710656), Cond.methodLink RX0 200 yX0_digitOf, Cond.instanceMethod yX0_digitOf, Cond.selects RX0 yX0_digitOf yX0_digitOf, Cond.code yX0_digitOf cX0_digitOf 4 (some .int), Cond.methodLink RX0 205 yX0_addPackToWays, Cond.instanceMethod yX0_addPackToWays, Cond.selects RX0 yX0_addPackToWays yX0_addPackToWays, Cond.code yX0_addPackToWays cX0_addPackToWays 8 none, Cond.methodLink RX0 209 Lib.MathLoose.max_long.x, Cond.static Lib.MathLoose.max_long.x, Cond.code Lib.MathLoose.max_long.x Lib.MathLoose.max_long.code 4 (some .long), Cond.methodLink RX0 122 yX0_scoreOf, Cond.instanceMethod yX0_scoreOf, Cond.selects RX0 yX0_scoreOf yX0_scoreOf, Cond.code yX0_scoreOf cX0_scoreOf 2 (some .long), Cond.methodLink RX0 128 yX0_dropWaiting, Cond.instanceMethod yX0_dropWaiting, Cond.selects RX0 yX0_dropWaiting yX0_dropWaiting, Cond.code yX0_dropWaiting cX0_dropWaiting 4 none, Cond.fieldLink RX0 23 "CoinMechanism" "boxed" "[I", Cond.methodLink RX0 131 yX0_payOut]
def wsL_buy_r4 : List Cond := [Cond.instanceMethod yX0_payOut, Cond.selects RX0 yX0_payOut yX0_payOut, Cond.code yX0_payOut cX0_payOut 4 none, Cond.fieldLink RX0 26 "CoinMechanism" "paid" "[I", Cond.methodLink RX0 161 yX0_coinsOfKindInWay, Cond.instanceMethod yX0_coinsOfKindInWay, Cond.selects RX0 yX0_coinsOfKindInWay yX0_coinsOfKindInWay, Cond.code yX0_coinsOfKindInWay cX0_coinsOfKindInWay 4 (some .int), Cond.constantLong RX0 213 (63), Cond.methodLink RX0 135 yX0_countSale, Cond.instanceMethod yX0_countSale, Cond.selects RX0 yX0_countSale yX0_countSale, Cond.code yX0_countSale cX0_countSale 3 none, Cond.fieldLink RX0 57 "CoinMechanism" "counters" "[J"]
def wsL_buy : List Cond := .codeWith yL_buy cL_buy 4 (some .int) [(0, 9, 12, 20)] :: ((wsL_buy_r1 ++ (wsL_buy_r2 ++ (wsL_buy_r3 ++ wsL_buy_r4))) ++ wsX00 ++ (vx_atS RX0 148 "java/lang/IndexOutOfBoundsException" ["java/lang/RuntimeException", "java/lang/Exception"]).filter goodWord)
def wsL_refund_r1 : List Cond := [Cond.classLink RL 15 "java/lang/IllegalStateException", Cond.methodLink RL 50 yX0_refund, Cond.instanceMethod yX0_refund, Cond.selects RX0 yX0_refund yX0_refund, Cond.initialized RX0, Cond.code yX0_refund cX0_refund 3 (some .boolean), Cond.classLink RX0 76 "java/lang/IllegalStateException", Cond.initialized "java/lang/IllegalStateException", Cond.fieldLink RX0 51 "CoinMechanism" "soldProduct" "I", Cond.fieldLink RX0 33 "CoinMechanism" "products" "I", Cond.fieldLink RX0 54 "CoinMechanism" "soldPrice" "I", Cond.fieldLink RX0 20 "CoinMechanism" "tubes" "[I", Cond.constantLong RX0 126 (-4611686018427387904), Cond.fieldLink RX0 39 "CoinMechanism" "stocks" "[I", Cond.methodLink RX0 94 Lib.Math.min.name, Cond.static Lib.Math.min.name, Cond.initialized "java/lang/Math", Cond.code Lib.Math.min.name Lib.Math.min.code 2 (some .int), Cond.fieldLink RX0 57 "CoinMechanism" "counters" "[J", Cond.methodLink RX0 118 yX0_scoreWays, Cond.instanceMethod yX0_scoreWays, Cond.selects RX0 yX0_scoreWays yX0_scoreWays, Cond.code yX0_scoreWays cX0_scoreWays 5 none, Cond.fieldLink RX0 61 "CoinMechanism" "scores" "[J"]
def wsL_refund_r2 : List Cond := [Cond.fieldLink RX0 9 "CoinMechanism" "kinds" "I", Cond.methodLink RX0 196 yX0_addKindToWays, Cond.instanceMethod yX0_addKindToWays, Cond.selects RX0 yX0_addKindToWays yX0_addKindToWays, Cond.code yX0_addKindToWays cX0_addKindToWays 9 none, Cond.constantLong RX0 203 (281474976710656), Cond.fieldLink RX0 13 "CoinMechanism" "values" "[I", Cond.methodLink RX0 200 yX0_digitOf, Cond.instanceMethod yX0_digitOf, Cond.selects RX0 yX0_digitOf yX0_digitOf, Cond.code yX0_digitOf cX0_digitOf 4 (some .int), Cond.methodLink RX0 205 yX0_addPackToWays, Cond.instanceMethod yX0_addPackToWays, Cond.selects RX0 yX0_addPackToWays yX0_addPackToWays, Cond.code yX0_addPackToWays cX0_addPackToWays 8 none, Cond.methodLink RX0 209 Lib.MathLoose.max_long.x, Cond.static Lib.MathLoose.max_long.x, Cond.code Lib.MathLoose.max_long.x Lib.MathLoose.max_long.code 4 (some .long), Cond.methodLink RX0 122 yX0_scoreOf, Cond.instanceMethod yX0_scoreOf, Cond.selects RX0 yX0_scoreOf yX0_scoreOf, Cond.code yX0_scoreOf cX0_scoreOf 2 (some .long), Cond.methodLink RX0 131 yX0_payOut, Cond.instanceMethod yX0_payOut]
def wsL_refund_r3 : List Cond := [Cond.selects RX0 yX0_payOut yX0_payOut, Cond.code yX0_payOut cX0_payOut 4 none, Cond.fieldLink RX0 26 "CoinMechanism" "paid" "[I", Cond.methodLink RX0 161 yX0_coinsOfKindInWay, Cond.instanceMethod yX0_coinsOfKindInWay, Cond.selects RX0 yX0_coinsOfKindInWay yX0_coinsOfKindInWay, Cond.code yX0_coinsOfKindInWay cX0_coinsOfKindInWay 4 (some .int), Cond.constantLong RX0 213 (63)]
def wsL_refund : List Cond := .codeWith yL_refund cL_refund 3 (some .int) [(0, 15, 18, 15)] :: ((wsL_refund_r1 ++ (wsL_refund_r2 ++ wsL_refund_r3)) ++ wsX00 ++ (vx_atS RX0 80 "java/lang/IllegalStateException" ["java/lang/RuntimeException", "java/lang/Exception"]).filter goodWord)
def wsL_escrow : List Cond := .codeWith yL_escrow cL_escrow 4 (some .int) [(0, 9, 12, 20)] :: ([.classLink RL 20 "java/lang/IndexOutOfBoundsException", .methodLink RL 54 yX0_escrow, .instanceMethod yX0_escrow, .selects RX0 yX0_escrow yX0_escrow, .initialized RX0, .code yX0_escrow cX0_escrow 2 (some .int), .classLink RX0 144 "java/lang/IndexOutOfBoundsException", .initialized "java/lang/IndexOutOfBoundsException", .fieldLink RX0 45 "CoinMechanism" "waiting" "I", .fieldLink RX0 48 "CoinMechanism" "waitingKinds" "[I"] ++ wsX00 ++ (vx_atS RX0 148 "java/lang/IndexOutOfBoundsException" ["java/lang/RuntimeException", "java/lang/Exception"]).filter goodWord)
def wsL_coins : List Cond := .codeWith yL_coins cL_coins 5 (some .int) [(0, 10, 13, 20)] :: ([.classLink RL 20 "java/lang/IndexOutOfBoundsException", .methodLink RL 57 yX0_coins, .instanceMethod yX0_coins, .selects RX0 yX0_coins yX0_coins, .initialized RX0, .code yX0_coins cX0_coins 3 (some .int), .classLink RX0 144 "java/lang/IndexOutOfBoundsException", .initialized "java/lang/IndexOutOfBoundsException", .methodLink RX0 87 yX0_checkKind, .instanceMethod yX0_checkKind, .selects RX0 yX0_checkKind yX0_checkKind, .code yX0_checkKind cX0_checkKind 2 none, .fieldLink RX0 9 "CoinMechanism" "kinds" "I", .methodLink RX0 151 yX0_toldOfKind, .instanceMethod yX0_toldOfKind, .selects RX0 yX0_toldOfKind yX0_toldOfKind, .code yX0_toldOfKind cX0_toldOfKind 3 (some .int), .fieldLink RX0 13 "CoinMechanism" "values" "[I", .fieldLink RX0 20 "CoinMechanism" "tubes" "[I", .fieldLink RX0 23 "CoinMechanism" "boxed" "[I", .fieldLink RX0 26 "CoinMechanism" "paid" "[I"] ++ wsX00 ++ (vx_atS RX0 148 "java/lang/IndexOutOfBoundsException" ["java/lang/RuntimeException", "java/lang/Exception"]).filter goodWord)
def wsL_fewest_r1 : List Cond := [Cond.classLink RL 13 "java/lang/IllegalArgumentException", Cond.methodLink RL 60 yX0_fewest, Cond.instanceMethod yX0_fewest, Cond.selects RX0 yX0_fewest yX0_fewest, Cond.initialized RX0, Cond.code yX0_fewest cX0_fewest 4 (some .int), Cond.fieldLink RX0 20 "CoinMechanism" "tubes" "[I", Cond.constantLong RX0 126 (-4611686018427387904), Cond.methodLink RX0 154 yX0_checkAmount, Cond.static yX0_checkAmount, Cond.code yX0_checkAmount cX0_checkAmount 1 none, Cond.classLink RX0 67 "java/lang/IllegalArgumentException", Cond.initialized "java/lang/IllegalArgumentException", Cond.methodLink RX0 118 yX0_scoreWays, Cond.instanceMethod yX0_scoreWays, Cond.selects RX0 yX0_scoreWays yX0_scoreWays, Cond.code yX0_scoreWays cX0_scoreWays 5 none, Cond.methodLink RX0 94 Lib.Math.min.name, Cond.static Lib.Math.min.name, Cond.initialized "java/lang/Math", Cond.code Lib.Math.min.name Lib.Math.min.code 2 (some .int), Cond.fieldLink RX0 61 "CoinMechanism" "scores" "[J", Cond.fieldLink RX0 9 "CoinMechanism" "kinds" "I", Cond.methodLink RX0 196 yX0_addKindToWays]
def wsL_fewest_r2 : List Cond := [Cond.instanceMethod yX0_addKindToWays, Cond.selects RX0 yX0_addKindToWays yX0_addKindToWays, Cond.code yX0_addKindToWays cX0_addKindToWays 9 none, Cond.constantLong RX0 203 (281474976710656), Cond.fieldLink RX0 13 "CoinMechanism" "values" "[I", Cond.methodLink RX0 200 yX0_digitOf, Cond.instanceMethod yX0_digitOf, Cond.selects RX0 yX0_digitOf yX0_digitOf, Cond.code yX0_digitOf cX0_digitOf 4 (some .int), Cond.methodLink RX0 205 yX0_addPackToWays, Cond.instanceMethod yX0_addPackToWays, Cond.selects RX0 yX0_addPackToWays yX0_addPackToWays, Cond.code yX0_addPackToWays cX0_addPackToWays 8 none, Cond.methodLink RX0 209 Lib.MathLoose.max_long.x, Cond.static Lib.MathLoose.max_long.x, Cond.code Lib.MathLoose.max_long.x Lib.MathLoose.max_long.code 4 (some .long), Cond.methodLink RX0 122 yX0_scoreOf, Cond.instanceMethod yX0_scoreOf, Cond.selects RX0 yX0_scoreOf yX0_scoreOf, Cond.code yX0_scoreOf cX0_scoreOf 2 (some .long), Cond.methodLink RX0 157 yX0_coinsInWay, Cond.static yX0_coinsInWay, Cond.code yX0_coinsInWay cX0_coinsInWay 2 (some .int)]
def wsL_fewest : List Cond := .codeWith yL_fewest cL_fewest 4 (some .int) [(0, 9, 12, 13)] :: ((wsL_fewest_r1 ++ wsL_fewest_r2) ++ wsX00 ++ (vx_atS RX0 71 "java/lang/IllegalArgumentException" ["java/lang/RuntimeException", "java/lang/Exception"]).filter goodWord)
def wsL_part_r1 : List Cond := [Cond.classLink RL 13 "java/lang/IllegalArgumentException", Cond.classLink RL 20 "java/lang/IndexOutOfBoundsException", Cond.methodLink RL 63 yX0_part, Cond.instanceMethod yX0_part, Cond.selects RX0 yX0_part yX0_part, Cond.initialized RX0, Cond.code yX0_part cX0_part 5 (some .int), Cond.fieldLink RX0 20 "CoinMechanism" "tubes" "[I", Cond.constantLong RX0 126 (-4611686018427387904), Cond.methodLink RX0 154 yX0_checkAmount, Cond.static yX0_checkAmount, Cond.code yX0_checkAmount cX0_checkAmount 1 none, Cond.classLink RX0 67 "java/lang/IllegalArgumentException", Cond.initialized "java/lang/IllegalArgumentException", Cond.methodLink RX0 87 yX0_checkKind, Cond.instanceMethod yX0_checkKind, Cond.selects RX0 yX0_checkKind yX0_checkKind, Cond.code yX0_checkKind cX0_checkKind 2 none, Cond.classLink RX0 144 "java/lang/IndexOutOfBoundsException", Cond.initialized "java/lang/IndexOutOfBoundsException", Cond.fieldLink RX0 9 "CoinMechanism" "kinds" "I", Cond.methodLink RX0 118 yX0_scoreWays, Cond.instanceMethod yX0_scoreWays, Cond.selects RX0 yX0_scoreWays yX0_scoreWays]
def wsL_part_r2 : List Cond := [Cond.code yX0_scoreWays cX0_scoreWays 5 none, Cond.methodLink RX0 94 Lib.Math.min.name, Cond.static Lib.Math.min.name, Cond.initialized "java/lang/Math", Cond.code Lib.Math.min.name Lib.Math.min.code 2 (some .int), Cond.fieldLink RX0 61 "CoinMechanism" "scores" "[J", Cond.methodLink RX0 196 yX0_addKindToWays, Cond.instanceMethod yX0_addKindToWays, Cond.selects RX0 yX0_addKindToWays yX0_addKindToWays, Cond.code yX0_addKindToWays cX0_addKindToWays 9 none, Cond.constantLong RX0 203 (281474976710656), Cond.fieldLink RX0 13 "CoinMechanism" "values" "[I", Cond.methodLink RX0 200 yX0_digitOf, Cond.instanceMethod yX0_digitOf, Cond.selects RX0 yX0_digitOf yX0_digitOf, Cond.code yX0_digitOf cX0_digitOf 4 (some .int), Cond.methodLink RX0 205 yX0_addPackToWays, Cond.instanceMethod yX0_addPackToWays, Cond.selects RX0 yX0_addPackToWays yX0_addPackToWays, Cond.code yX0_addPackToWays cX0_addPackToWays 8 none, Cond.methodLink RX0 209 Lib.MathLoose.max_long.x, Cond.static Lib.MathLoose.max_long.x, Cond.code Lib.MathLoose.max_long.x Lib.MathLoose.max_long.code 4 (some .long), Cond.methodLink RX0 122 yX0_scoreOf]
def wsL_part_r3 : List Cond := [Cond.instanceMethod yX0_scoreOf, Cond.selects RX0 yX0_scoreOf yX0_scoreOf, Cond.code yX0_scoreOf cX0_scoreOf 2 (some .long), Cond.methodLink RX0 161 yX0_coinsOfKindInWay, Cond.instanceMethod yX0_coinsOfKindInWay, Cond.selects RX0 yX0_coinsOfKindInWay yX0_coinsOfKindInWay, Cond.code yX0_coinsOfKindInWay cX0_coinsOfKindInWay 4 (some .int), Cond.constantLong RX0 213 (63)]
def wsL_part : List Cond := .codeWith yL_part cL_part 5 (some .int) [(0, 10, 13, 13), (0, 10, 17, 20)] :: ((wsL_part_r1 ++ (wsL_part_r2 ++ wsL_part_r3)) ++ wsX00 ++ (vx_atS RX0 71 "java/lang/IllegalArgumentException" ["java/lang/RuntimeException", "java/lang/Exception"]).filter goodWord ++ (vx_atS RX0 148 "java/lang/IndexOutOfBoundsException" ["java/lang/RuntimeException", "java/lang/Exception"]).filter goodWord)
def wsL_below_r1 : List Cond := [Cond.classLink RL 13 "java/lang/IllegalArgumentException", Cond.methodLink RL 66 yX0_below, Cond.instanceMethod yX0_below, Cond.selects RX0 yX0_below yX0_below, Cond.initialized RX0, Cond.code yX0_below cX0_below 3 (some .int), Cond.fieldLink RX0 20 "CoinMechanism" "tubes" "[I", Cond.constantLong RX0 126 (-4611686018427387904), Cond.methodLink RX0 154 yX0_checkAmount, Cond.static yX0_checkAmount, Cond.code yX0_checkAmount cX0_checkAmount 1 none, Cond.classLink RX0 67 "java/lang/IllegalArgumentException", Cond.initialized "java/lang/IllegalArgumentException", Cond.methodLink RX0 118 yX0_scoreWays, Cond.instanceMethod yX0_scoreWays, Cond.selects RX0 yX0_scoreWays yX0_scoreWays, Cond.code yX0_scoreWays cX0_scoreWays 5 none, Cond.methodLink RX0 94 Lib.Math.min.name, Cond.static Lib.Math.min.name, Cond.initialized "java/lang/Math", Cond.code Lib.Math.min.name Lib.Math.min.code 2 (some .int), Cond.fieldLink RX0 61 "CoinMechanism" "scores" "[J", Cond.fieldLink RX0 9 "CoinMechanism" "kinds" "I", Cond.methodLink RX0 196 yX0_addKindToWays]
def wsL_below_r2 : List Cond := [Cond.instanceMethod yX0_addKindToWays, Cond.selects RX0 yX0_addKindToWays yX0_addKindToWays, Cond.code yX0_addKindToWays cX0_addKindToWays 9 none, Cond.constantLong RX0 203 (281474976710656), Cond.fieldLink RX0 13 "CoinMechanism" "values" "[I", Cond.methodLink RX0 200 yX0_digitOf, Cond.instanceMethod yX0_digitOf, Cond.selects RX0 yX0_digitOf yX0_digitOf, Cond.code yX0_digitOf cX0_digitOf 4 (some .int), Cond.methodLink RX0 205 yX0_addPackToWays, Cond.instanceMethod yX0_addPackToWays, Cond.selects RX0 yX0_addPackToWays yX0_addPackToWays, Cond.code yX0_addPackToWays cX0_addPackToWays 8 none, Cond.methodLink RX0 209 Lib.MathLoose.max_long.x, Cond.static Lib.MathLoose.max_long.x, Cond.code Lib.MathLoose.max_long.x Lib.MathLoose.max_long.code 4 (some .long), Cond.methodLink RX0 122 yX0_scoreOf, Cond.instanceMethod yX0_scoreOf, Cond.selects RX0 yX0_scoreOf yX0_scoreOf, Cond.code yX0_scoreOf cX0_scoreOf 2 (some .long)]
def wsL_below : List Cond := .codeWith yL_below cL_below 4 (some .int) [(0, 9, 12, 13)] :: ((wsL_below_r1 ++ wsL_below_r2) ++ wsX00 ++ (vx_atS RX0 71 "java/lang/IllegalArgumentException" ["java/lang/RuntimeException", "java/lang/Exception"]).filter goodWord)
def wsL_gaps_r1 : List Cond := [Cond.classLink RL 13 "java/lang/IllegalArgumentException", Cond.methodLink RL 69 yX0_gaps, Cond.instanceMethod yX0_gaps, Cond.selects RX0 yX0_gaps yX0_gaps, Cond.initialized RX0, Cond.code yX0_gaps cX0_gaps 5 (some .int), Cond.fieldLink RX0 20 "CoinMechanism" "tubes" "[I", Cond.constantLong RX0 126 (-4611686018427387904), Cond.methodLink RX0 154 yX0_checkAmount, Cond.static yX0_checkAmount, Cond.code yX0_checkAmount cX0_checkAmount 1 none, Cond.classLink RX0 67 "java/lang/IllegalArgumentException", Cond.initialized "java/lang/IllegalArgumentException", Cond.methodLink RX0 165 yX0_unit, Cond.instanceMethod yX0_unit, Cond.selects RX0 yX0_unit yX0_unit, Cond.code yX0_unit cX0_unit 2 (some .int), Cond.fieldLink RX0 9 "CoinMechanism" "kinds" "I", Cond.methodLink RX0 168 yX0_dividesAllValues, Cond.instanceMethod yX0_dividesAllValues, Cond.selects RX0 yX0_dividesAllValues yX0_dividesAllValues, Cond.code yX0_dividesAllValues cX0_dividesAllValues 3 (some .boolean), Cond.fieldLink RX0 13 "CoinMechanism" "values" "[I", Cond.methodLink RX0 118 yX0_scoreWays]
def wsL_gaps_r2 : List Cond := [Cond.instanceMethod yX0_scoreWays, Cond.selects RX0 yX0_scoreWays yX0_scoreWays, Cond.code yX0_scoreWays cX0_scoreWays 5 none, Cond.methodLink RX0 94 Lib.Math.min.name, Cond.static Lib.Math.min.name, Cond.initialized "java/lang/Math", Cond.code Lib.Math.min.name Lib.Math.min.code 2 (some .int), Cond.fieldLink RX0 61 "CoinMechanism" "scores" "[J", Cond.methodLink RX0 196 yX0_addKindToWays, Cond.instanceMethod yX0_addKindToWays, Cond.selects RX0 yX0_addKindToWays yX0_addKindToWays, Cond.code yX0_addKindToWays cX0_addKindToWays 9 none, Cond.constantLong RX0 203 (281474976710656), Cond.methodLink RX0 200 yX0_digitOf, Cond.instanceMethod yX0_digitOf, Cond.selects RX0 yX0_digitOf yX0_digitOf, Cond.code yX0_digitOf cX0_digitOf 4 (some .int), Cond.methodLink RX0 205 yX0_addPackToWays, Cond.instanceMethod yX0_addPackToWays, Cond.selects RX0 yX0_addPackToWays yX0_addPackToWays, Cond.code yX0_addPackToWays cX0_addPackToWays 8 none, Cond.methodLink RX0 209 Lib.MathLoose.max_long.x, Cond.static Lib.MathLoose.max_long.x, Cond.code Lib.MathLoose.max_long.x Lib.MathLoose.max_long.code 4 (some .long)]
def wsL_gaps_r3 : List Cond := [Cond.methodLink RX0 122 yX0_scoreOf, Cond.instanceMethod yX0_scoreOf, Cond.selects RX0 yX0_scoreOf yX0_scoreOf, Cond.code yX0_scoreOf cX0_scoreOf 2 (some .long)]
def wsL_gaps : List Cond := .codeWith yL_gaps cL_gaps 4 (some .int) [(0, 9, 12, 13)] :: ((wsL_gaps_r1 ++ (wsL_gaps_r2 ++ wsL_gaps_r3)) ++ wsX00 ++ (vx_atS RX0 71 "java/lang/IllegalArgumentException" ["java/lang/RuntimeException", "java/lang/Exception"]).filter goodWord)
def wsL_audit : List Cond := .codeWith yL_audit cL_audit 4 (some .int) [(0, 8, 11, 20)] :: ([.classLink RL 20 "java/lang/IndexOutOfBoundsException", .methodLink RL 72 yX0_audit, .instanceMethod yX0_audit, .selects RX0 yX0_audit yX0_audit, .initialized RX0, .code yX0_audit cX0_audit 2 (some .long), .classLink RX0 144 "java/lang/IndexOutOfBoundsException", .initialized "java/lang/IndexOutOfBoundsException", .fieldLink RX0 57 "CoinMechanism" "counters" "[J"] ++ wsX00 ++ (vx_atS RX0 148 "java/lang/IndexOutOfBoundsException" ["java/lang/RuntimeException", "java/lang/Exception"]).filter goodWord)
def wsL_law0_r1 : List Cond := [Cond.classLink RL 8 RX0, Cond.instantiable RX0 18, Cond.initialized RX0, Cond.classLink RL 77 RX1, Cond.instantiable RX1 19, Cond.initialized RX1, Cond.arrayClass .long, Cond.methodLink RL 76 yX0_init, Cond.instanceMethod yX0_init, Cond.code yX0_init cX0_init 1 none, Cond.methodLink RX0 3 objectInit, Cond.instanceMethod objectInit, Cond.code objectInit ⟨#[0xb1]⟩ 1 none, Cond.fieldLink RX0 9 "CoinMechanism" "kinds" "I", Cond.arrayClass .int, Cond.fieldLink RX0 13 "CoinMechanism" "values" "[I", Cond.fieldLink RX0 17 "CoinMechanism" "capacities" "[I", Cond.fieldLink RX0 20 "CoinMechanism" "tubes" "[I", Cond.fieldLink RX0 23 "CoinMechanism" "boxed" "[I", Cond.fieldLink RX0 26 "CoinMechanism" "paid" "[I", Cond.arrayClass .boolean, Cond.fieldLink RX0 29 "CoinMechanism" "accepted" "[Z", Cond.fieldLink RX0 33 "CoinMechanism" "products" "I", Cond.fieldLink RX0 36 "CoinMechanism" "prices" "[I"]
def wsL_law0_r2 : List Cond := [Cond.fieldLink RX0 39 "CoinMechanism" "stocks" "[I", Cond.fieldLink RX0 42 "CoinMechanism" "limit" "I", Cond.fieldLink RX0 45 "CoinMechanism" "waiting" "I", Cond.fieldLink RX0 48 "CoinMechanism" "waitingKinds" "[I", Cond.fieldLink RX0 51 "CoinMechanism" "soldProduct" "I", Cond.fieldLink RX0 54 "CoinMechanism" "soldPrice" "I", Cond.fieldLink RX0 57 "CoinMechanism" "counters" "[J", Cond.fieldLink RX0 61 "CoinMechanism" "scores" "[J", Cond.fieldLink RX0 64 "CoinMechanism" "tubesAfter" "[I", Cond.methodLink RL 79 yX1_init, Cond.instanceMethod yX1_init, Cond.code yX1_init cX1_init 1 none, Cond.methodLink RX1 1 objectInit, Cond.fieldLink RX1 9 "CoinMechanismModel" "values" "[I", Cond.fieldLink RX1 13 "CoinMechanismModel" "rooms" "[I", Cond.fieldLink RX1 16 "CoinMechanismModel" "areOn" "[Z", Cond.fieldLink RX1 20 "CoinMechanismModel" "tubes" "[I", Cond.fieldLink RX1 23 "CoinMechanismModel" "box" "[I", Cond.fieldLink RX1 26 "CoinMechanismModel" "paid" "[I", Cond.fieldLink RX1 29 "CoinMechanismModel" "order" "[I", Cond.fieldLink RX1 32 "CoinMechanismModel" "prices" "[I", Cond.fieldLink RX1 35 "CoinMechanismModel" "stocks" "[I", Cond.fieldLink RX1 38 "CoinMechanismModel" "limit" "I", Cond.fieldLink RX1 42 "CoinMechanismModel" "escrow" "[I"]
def wsL_law0_r3 : List Cond := [Cond.fieldLink RX1 45 "CoinMechanismModel" "soldProduct" "I", Cond.fieldLink RX1 48 "CoinMechanismModel" "audits" "[J", Cond.fieldLink RX1 52 "CoinMechanismModel" "fewest" "[I", Cond.methodLink RL 80 yL_addKind, Cond.static yL_addKind, Cond.initialized RL, Cond.codeWith yL_addKind cL_addKind 5 (some .int) [(0, 10, 13, 13), (0, 10, 17, 15)], Cond.classLink RL 13 "java/lang/IllegalArgumentException", Cond.classLink RL 15 "java/lang/IllegalStateException", Cond.methodLink RL 7 yX0_addKind, Cond.instanceMethod yX0_addKind, Cond.selects RX0 yX0_addKind yX0_addKind, Cond.code yX0_addKind cX0_addKind 3 (some .int), Cond.classLink RX0 67 "java/lang/IllegalArgumentException", Cond.initialized "java/lang/IllegalArgumentException", Cond.classLink RX0 76 "java/lang/IllegalStateException", Cond.initialized "java/lang/IllegalStateException", Cond.methodLink RX0 81 yX0_hasKindOfValue, Cond.instanceMethod yX0_hasKindOfValue, Cond.selects RX0 yX0_hasKindOfValue yX0_hasKindOfValue, Cond.code yX0_hasKindOfValue cX0_hasKindOfValue 3 (some .boolean), Cond.methodLink RL 85 yX1_addKind, Cond.instanceMethod yX1_addKind, Cond.selects RX1 yX1_addKind yX1_addKind]
def wsL_law0_r4 : List Cond := [Cond.code yX1_addKind cX1_addKind 4 (some .int), Cond.fieldLink RX1 55 "CoinMechanismModel" "thrown" "I", Cond.fieldLink RX1 58 "CoinMechanismModel" "kinds" "I", Cond.methodLink RX1 64 yX1_fail, Cond.instanceMethod yX1_fail, Cond.selects RX1 yX1_fail yX1_fail, Cond.code yX1_fail cX1_fail 2 (some .int), Cond.methodLink RL 86 yX1_thrown, Cond.instanceMethod yX1_thrown, Cond.selects RX1 yX1_thrown yX1_thrown, Cond.code yX1_thrown cX1_thrown 1 (some .int), Cond.methodLink RL 90 yL_fill, Cond.static yL_fill, Cond.codeWith yL_fill cL_fill 5 (some .int) [(0, 10, 13, 20), (0, 10, 17, 13)], Cond.classLink RL 20 "java/lang/IndexOutOfBoundsException", Cond.methodLink RL 17 yX0_fill, Cond.instanceMethod yX0_fill, Cond.selects RX0 yX0_fill yX0_fill, Cond.code yX0_fill cX0_fill 4 (some .int), Cond.methodLink RX0 94 Lib.Math.min.name, Cond.static Lib.Math.min.name, Cond.initialized "java/lang/Math", Cond.code Lib.Math.min.name Lib.Math.min.code 2 (some .int), Cond.methodLink RX0 87 yX0_checkKind]
def wsL_law0_r5 : List Cond := [Cond.instanceMethod yX0_checkKind, Cond.selects RX0 yX0_checkKind yX0_checkKind, Cond.code yX0_checkKind cX0_checkKind 2 none, Cond.classLink RX0 144 "java/lang/IndexOutOfBoundsException", Cond.initialized "java/lang/IndexOutOfBoundsException", Cond.methodLink RX0 91 yX0_checkMany, Cond.static yX0_checkMany, Cond.code yX0_checkMany cX0_checkMany 1 none, Cond.methodLink RL 92 yX1_fill, Cond.instanceMethod yX1_fill, Cond.selects RX1 yX1_fill yX1_fill, Cond.code yX1_fill cX1_fill 4 (some .int), Cond.methodLink RX1 72 Lib.Math.min.name, Cond.methodLink RX1 68 yX1_isKind, Cond.instanceMethod yX1_isKind, Cond.selects RX1 yX1_isKind yX1_isKind, Cond.code yX1_isKind cX1_isKind 2 (some .boolean), Cond.methodLink RL 93 yL_take, Cond.static yL_take, Cond.codeWith yL_take cL_take 5 (some .int) [(0, 10, 13, 20), (0, 10, 17, 13)], Cond.methodLink RL 22 yX0_take, Cond.instanceMethod yX0_take, Cond.selects RX0 yX0_take yX0_take, Cond.code yX0_take cX0_take 4 (some .int)]
def wsL_law0_r6 : List Cond := [Cond.methodLink RL 95 yX1_take, Cond.instanceMethod yX1_take, Cond.selects RX1 yX1_take yX1_take, Cond.code yX1_take cX1_take 4 (some .int), Cond.methodLink RL 96 yX0_emptyBox, Cond.instanceMethod yX0_emptyBox, Cond.selects RX0 yX0_emptyBox yX0_emptyBox, Cond.code yX0_emptyBox cX0_emptyBox 3 (some .int), Cond.methodLink RL 99 yX1_emptyBox, Cond.instanceMethod yX1_emptyBox, Cond.selects RX1 yX1_emptyBox yX1_emptyBox, Cond.code yX1_emptyBox cX1_emptyBox 3 (some .int), Cond.methodLink RL 100 yL_accept, Cond.static yL_accept, Cond.codeWith yL_accept cL_accept 5 (some .int) [(0, 17, 20, 20)], Cond.methodLink RL 25 yX0_accept, Cond.instanceMethod yX0_accept, Cond.selects RX0 yX0_accept yX0_accept, Cond.code yX0_accept cX0_accept 4 (some .boolean), Cond.methodLink RL 103 yX1_accept, Cond.instanceMethod yX1_accept, Cond.selects RX1 yX1_accept yX1_accept, Cond.code yX1_accept cX1_accept 4 (some .boolean), Cond.methodLink RL 104 yL_setLimit]
def wsL_law0_r7 : List Cond := [Cond.static yL_setLimit, Cond.codeWith yL_setLimit cL_setLimit 4 (some .int) [(0, 9, 12, 13)], Cond.methodLink RL 29 yX0_setLimit, Cond.instanceMethod yX0_setLimit, Cond.selects RX0 yX0_setLimit yX0_setLimit, Cond.code yX0_setLimit cX0_setLimit 3 (some .int), Cond.methodLink RL 107 yX1_setLimit, Cond.instanceMethod yX1_setLimit, Cond.selects RX1 yX1_setLimit yX1_setLimit, Cond.code yX1_setLimit cX1_setLimit 3 (some .int), Cond.methodLink RX1 78 yX1_isAmount, Cond.static yX1_isAmount, Cond.code yX1_isAmount cX1_isAmount 1 (some .boolean), Cond.methodLink RL 108 yL_addProduct, Cond.static yL_addProduct, Cond.codeWith yL_addProduct cL_addProduct 5 (some .int) [(0, 10, 13, 13), (0, 10, 17, 15)], Cond.methodLink RL 33 yX0_addProduct, Cond.instanceMethod yX0_addProduct, Cond.selects RX0 yX0_addProduct yX0_addProduct, Cond.code yX0_addProduct cX0_addProduct 3 (some .int), Cond.methodLink RX0 102 yX0_checkPriceAndStock, Cond.static yX0_checkPriceAndStock, Cond.code yX0_checkPriceAndStock cX0_checkPriceAndStock 2 none, Cond.methodLink RL 110 yX1_addProduct]
def wsL_law0_r8 : List Cond := [Cond.instanceMethod yX1_addProduct, Cond.selects RX1 yX1_addProduct yX1_addProduct, Cond.code yX1_addProduct cX1_addProduct 3 (some .int), Cond.fieldLink RX1 61 "CoinMechanismModel" "products" "I", Cond.methodLink RX1 81 yX1_isGoods, Cond.static yX1_isGoods, Cond.code yX1_isGoods cX1_isGoods 2 (some .boolean), Cond.methodLink RL 111 yL_setProduct, Cond.static yL_setProduct, Cond.codeWith yL_setProduct cL_setProduct 6 (some .int) [(0, 12, 15, 20), (0, 12, 19, 13)], Cond.methodLink RL 36 yX0_setProduct, Cond.instanceMethod yX0_setProduct, Cond.selects RX0 yX0_setProduct yX0_setProduct, Cond.code yX0_setProduct cX0_setProduct 5 (some .int), Cond.methodLink RX0 108 yX0_checkProduct, Cond.instanceMethod yX0_checkProduct, Cond.selects RX0 yX0_checkProduct yX0_checkProduct, Cond.code yX0_checkProduct cX0_checkProduct 2 none, Cond.methodLink RL 114 yX1_setProduct, Cond.instanceMethod yX1_setProduct, Cond.selects RX1 yX1_setProduct yX1_setProduct, Cond.code yX1_setProduct cX1_setProduct 5 (some .int), Cond.methodLink RX1 85 yX1_isProduct, Cond.instanceMethod yX1_isProduct]
def wsL_law0_r9 : List Cond := [Cond.selects RX1 yX1_isProduct yX1_isProduct, Cond.code yX1_isProduct cX1_isProduct 2 (some .boolean), Cond.methodLink RL 115 yL_product, Cond.static yL_product, Cond.codeWith yL_product cL_product 5 (some .int) [(0, 10, 13, 20)], Cond.methodLink RL 40 yX0_product, Cond.instanceMethod yX0_product, Cond.selects RX0 yX0_product yX0_product, Cond.code yX0_product cX0_product 3 (some .int), Cond.methodLink RL 117 yX1_product, Cond.instanceMethod yX1_product, Cond.selects RX1 yX1_product yX1_product, Cond.code yX1_product cX1_product 3 (some .int), Cond.methodLink RL 118 yL_insert, Cond.static yL_insert, Cond.codeWith yL_insert cL_insert 4 (some .int) [(0, 9, 12, 20)], Cond.methodLink RL 44 yX0_insert, Cond.instanceMethod yX0_insert, Cond.selects RX0 yX0_insert yX0_insert, Cond.code yX0_insert cX0_insert 2 (some .int), Cond.methodLink RX0 111 yX0_credit, Cond.instanceMethod yX0_credit, Cond.selects RX0 yX0_credit yX0_credit, Cond.code yX0_credit cX0_credit 3 (some .int)]
def wsL_law0_r10 : List Cond := [Cond.methodLink RX0 140 yX0_waitingOf, Cond.instanceMethod yX0_waitingOf, Cond.selects RX0 yX0_waitingOf yX0_waitingOf, Cond.code yX0_waitingOf cX0_waitingOf 4 (some .int), Cond.methodLink RL 120 yX1_insert, Cond.instanceMethod yX1_insert, Cond.selects RX1 yX1_insert yX1_insert, Cond.code yX1_insert cX1_insert 2 (some .int), Cond.fieldLink RX1 98 "CoinMechanismModel" "waiting" "I", Cond.methodLink RX1 101 yX1_creditNow, Cond.instanceMethod yX1_creditNow, Cond.selects RX1 yX1_creditNow yX1_creditNow, Cond.code yX1_creditNow cX1_creditNow 3 (some .int), Cond.methodLink RL 121 yX0_cancel, Cond.instanceMethod yX0_cancel, Cond.selects RX0 yX0_cancel yX0_cancel, Cond.code yX0_cancel cX0_cancel 2 (some .int), Cond.methodLink RL 124 yX1_cancel, Cond.instanceMethod yX1_cancel, Cond.selects RX1 yX1_cancel yX1_cancel, Cond.code yX1_cancel cX1_cancel 2 (some .int), Cond.methodLink RL 125 yL_buy, Cond.static yL_buy, Cond.codeWith yL_buy cL_buy 4 (some .int) [(0, 9, 12, 20)]]
def wsL_law0_r11 : List Cond := [Cond.methodLink RL 47 yX0_buy, Cond.instanceMethod yX0_buy, Cond.selects RX0 yX0_buy yX0_buy, Cond.code yX0_buy cX0_buy 6 (some .int), Cond.constantLong RX0 126 (-4611686018427387904), Cond.methodLink RX0 115 yX0_foreseeTubes, Cond.instanceMethod yX0_foreseeTubes, Cond.selects RX0 yX0_foreseeTubes yX0_foreseeTubes, Cond.code yX0_foreseeTubes cX0_foreseeTubes 2 none, Cond.methodLink RX0 118 yX0_scoreWays, Cond.instanceMethod yX0_scoreWays, Cond.selects RX0 yX0_scoreWays yX0_scoreWays, Cond.code yX0_scoreWays cX0_scoreWays 5 none, Cond.methodLink RX0 196 yX0_addKindToWays, Cond.instanceMethod yX0_addKindToWays, Cond.selects RX0 yX0_addKindToWays yX0_addKindToWays, Cond.code yX0_addKindToWays cX0_addKindToWays 9 none, Cond.constantLong RX0 203 (281474976710656), Cond.methodLink RX0 200 yX0_digitOf, Cond.instanceMethod yX0_digitOf, Cond.selects RX0 yX0_digitOf yX0_digitOf, Cond.code yX0_digitOf cX0_digitOf 4 (some .int), Cond.methodLink RX0 205 yX0_addPackToWays, Cond.instanceMethod yX0_addPackToWays]
def wsL_law0_r12 : List Cond := [Cond.selects RX0 yX0_addPackToWays yX0_addPackToWays, Cond.code yX0_addPackToWays cX0_addPackToWays 8 none, Cond.methodLink RX0 209 Lib.MathLoose.max_long.x, Cond.static Lib.MathLoose.max_long.x, Cond.code Lib.MathLoose.max_long.x Lib.MathLoose.max_long.code 4 (some .long), Cond.methodLink RX0 122 yX0_scoreOf, Cond.instanceMethod yX0_scoreOf, Cond.selects RX0 yX0_scoreOf yX0_scoreOf, Cond.code yX0_scoreOf cX0_scoreOf 2 (some .long), Cond.methodLink RX0 128 yX0_dropWaiting, Cond.instanceMethod yX0_dropWaiting, Cond.selects RX0 yX0_dropWaiting yX0_dropWaiting, Cond.code yX0_dropWaiting cX0_dropWaiting 4 none, Cond.methodLink RX0 131 yX0_payOut, Cond.instanceMethod yX0_payOut, Cond.selects RX0 yX0_payOut yX0_payOut, Cond.code yX0_payOut cX0_payOut 4 none, Cond.methodLink RX0 161 yX0_coinsOfKindInWay, Cond.instanceMethod yX0_coinsOfKindInWay, Cond.selects RX0 yX0_coinsOfKindInWay yX0_coinsOfKindInWay, Cond.code yX0_coinsOfKindInWay cX0_coinsOfKindInWay 4 (some .int), Cond.constantLong RX0 213 (63), Cond.methodLink RX0 135 yX0_countSale, Cond.instanceMethod yX0_countSale]
def wsL_law0_r13 : List Cond := [Cond.selects RX0 yX0_countSale yX0_countSale, Cond.code yX0_countSale cX0_countSale 3 none, Cond.methodLink RL 127 yX1_buy, Cond.instanceMethod yX1_buy, Cond.selects RX1 yX1_buy yX1_buy, Cond.code yX1_buy cX1_buy 6 (some .int), Cond.methodLink RX1 105 ⟨"[I", "clone", "()Ljava/lang/Object;"⟩, Cond.sameMethod "[I" "java/lang/Object" "clone" "()Ljava/lang/Object;", Cond.native ⟨"java/lang/Object", "clone", "()Ljava/lang/Object;"⟩, Cond.instanceMethod ⟨"java/lang/Object", "clone", "()Ljava/lang/Object;"⟩, Cond.selects "[I" ⟨"[I", "clone", "()Ljava/lang/Object;"⟩ ⟨"java/lang/Object", "clone", "()Ljava/lang/Object;"⟩, Cond.classLink RX1 106 "[I", Cond.fieldLink RX1 113 "CoinMechanismModel" "soldPrice" "I", Cond.methodLink RX1 110 yX1_pay, Cond.instanceMethod yX1_pay, Cond.selects RX1 yX1_pay yX1_pay, Cond.code yX1_pay cX1_pay 3 (some .boolean), Cond.methodLink RX1 88 yX1_tabulate, Cond.instanceMethod yX1_tabulate, Cond.selects RX1 yX1_tabulate yX1_tabulate, Cond.code yX1_tabulate cX1_tabulate 10 none, Cond.methodLink RX1 92 yX1_inAll, Cond.instanceMethod yX1_inAll, Cond.selects RX1 yX1_inAll yX1_inAll]
def wsL_law0_r14 : List Cond := [Cond.code yX1_inAll cX1_inAll 2 (some .int), Cond.methodLink RX1 95 yX1_partOf, Cond.instanceMethod yX1_partOf, Cond.selects RX1 yX1_partOf yX1_partOf, Cond.code yX1_partOf cX1_partOf 8 (some .int), Cond.methodLink RL 128 yL_refund, Cond.static yL_refund, Cond.codeWith yL_refund cL_refund 3 (some .int) [(0, 15, 18, 15)], Cond.methodLink RL 50 yX0_refund, Cond.instanceMethod yX0_refund, Cond.selects RX0 yX0_refund yX0_refund, Cond.code yX0_refund cX0_refund 3 (some .boolean), Cond.methodLink RL 131 yX1_refund, Cond.instanceMethod yX1_refund, Cond.selects RX1 yX1_refund yX1_refund, Cond.code yX1_refund cX1_refund 1 (some .boolean), Cond.methodLink RL 132 yX0_credit, Cond.methodLink RL 135 yX1_credit, Cond.instanceMethod yX1_credit, Cond.selects RX1 yX1_credit yX1_credit, Cond.code yX1_credit cX1_credit 1 (some .int), Cond.methodLink RL 136 yL_escrow, Cond.static yL_escrow, Cond.codeWith yL_escrow cL_escrow 4 (some .int) [(0, 9, 12, 20)]]
def wsL_law0_r15 : List Cond := [Cond.methodLink RL 54 yX0_escrow, Cond.instanceMethod yX0_escrow, Cond.selects RX0 yX0_escrow yX0_escrow, Cond.code yX0_escrow cX0_escrow 2 (some .int), Cond.methodLink RL 138 yX1_escrow, Cond.instanceMethod yX1_escrow, Cond.selects RX1 yX1_escrow yX1_escrow, Cond.code yX1_escrow cX1_escrow 2 (some .int), Cond.methodLink RL 139 yL_coins, Cond.static yL_coins, Cond.codeWith yL_coins cL_coins 5 (some .int) [(0, 10, 13, 20)], Cond.methodLink RL 57 yX0_coins, Cond.instanceMethod yX0_coins, Cond.selects RX0 yX0_coins yX0_coins, Cond.code yX0_coins cX0_coins 3 (some .int), Cond.methodLink RX0 151 yX0_toldOfKind, Cond.instanceMethod yX0_toldOfKind, Cond.selects RX0 yX0_toldOfKind yX0_toldOfKind, Cond.code yX0_toldOfKind cX0_toldOfKind 3 (some .int), Cond.methodLink RL 141 yX1_coins, Cond.instanceMethod yX1_coins, Cond.selects RX1 yX1_coins yX1_coins, Cond.code yX1_coins cX1_coins 3 (some .int), Cond.methodLink RX1 116 yX1_told]
def wsL_law0_r16 : List Cond := [Cond.instanceMethod yX1_told, Cond.selects RX1 yX1_told yX1_told, Cond.code yX1_told cX1_told 3 (some .int), Cond.methodLink RL 142 yL_fewest, Cond.static yL_fewest, Cond.codeWith yL_fewest cL_fewest 4 (some .int) [(0, 9, 12, 13)], Cond.methodLink RL 60 yX0_fewest, Cond.instanceMethod yX0_fewest, Cond.selects RX0 yX0_fewest yX0_fewest, Cond.code yX0_fewest cX0_fewest 4 (some .int), Cond.methodLink RX0 154 yX0_checkAmount, Cond.static yX0_checkAmount, Cond.code yX0_checkAmount cX0_checkAmount 1 none, Cond.methodLink RX0 157 yX0_coinsInWay, Cond.static yX0_coinsInWay, Cond.code yX0_coinsInWay cX0_coinsInWay 2 (some .int), Cond.methodLink RL 144 yX1_fewest, Cond.instanceMethod yX1_fewest, Cond.selects RX1 yX1_fewest yX1_fewest, Cond.code yX1_fewest cX1_fewest 2 (some .int), Cond.methodLink RL 145 yL_part, Cond.static yL_part, Cond.codeWith yL_part cL_part 5 (some .int) [(0, 10, 13, 13), (0, 10, 17, 20)], Cond.methodLink RL 63 yX0_part]
def wsL_law0_r17 : List Cond := [Cond.instanceMethod yX0_part, Cond.selects RX0 yX0_part yX0_part, Cond.code yX0_part cX0_part 5 (some .int), Cond.methodLink RL 147 yX1_part, Cond.instanceMethod yX1_part, Cond.selects RX1 yX1_part yX1_part, Cond.code yX1_part cX1_part 3 (some .int), Cond.methodLink RL 148 yL_below, Cond.static yL_below, Cond.codeWith yL_below cL_below 4 (some .int) [(0, 9, 12, 13)], Cond.methodLink RL 66 yX0_below, Cond.instanceMethod yX0_below, Cond.selects RX0 yX0_below yX0_below, Cond.code yX0_below cX0_below 3 (some .int), Cond.methodLink RL 150 yX1_below, Cond.instanceMethod yX1_below, Cond.selects RX1 yX1_below yX1_below, Cond.code yX1_below cX1_below 3 (some .int), Cond.methodLink RL 151 yL_gaps, Cond.static yL_gaps, Cond.codeWith yL_gaps cL_gaps 4 (some .int) [(0, 9, 12, 13)], Cond.methodLink RL 69 yX0_gaps, Cond.instanceMethod yX0_gaps, Cond.selects RX0 yX0_gaps yX0_gaps]
def wsL_law0_r18 : List Cond := [Cond.code yX0_gaps cX0_gaps 5 (some .int), Cond.methodLink RX0 165 yX0_unit, Cond.instanceMethod yX0_unit, Cond.selects RX0 yX0_unit yX0_unit, Cond.code yX0_unit cX0_unit 2 (some .int), Cond.methodLink RX0 168 yX0_dividesAllValues, Cond.instanceMethod yX0_dividesAllValues, Cond.selects RX0 yX0_dividesAllValues yX0_dividesAllValues, Cond.code yX0_dividesAllValues cX0_dividesAllValues 3 (some .boolean), Cond.methodLink RL 153 yX1_gaps, Cond.instanceMethod yX1_gaps, Cond.selects RX1 yX1_gaps yX1_gaps, Cond.code yX1_gaps cX1_gaps 5 (some .int), Cond.methodLink RX1 119 yX1_unitNow, Cond.instanceMethod yX1_unitNow, Cond.selects RX1 yX1_unitNow yX1_unitNow, Cond.code yX1_unitNow cX1_unitNow 5 (some .int), Cond.methodLink RL 154 yX0_unit, Cond.methodLink RL 157 yX1_unit, Cond.instanceMethod yX1_unit, Cond.selects RX1 yX1_unit yX1_unit, Cond.code yX1_unit cX1_unit 1 (some .int), Cond.methodLink RL 158 yX0_lamp, Cond.instanceMethod yX0_lamp]
def wsL_law0_r19 : List Cond := [Cond.selects RX0 yX0_lamp yX0_lamp, Cond.code yX0_lamp cX0_lamp 2 (some .boolean), Cond.methodLink RX0 171 yX0_needsExactMoney, Cond.instanceMethod yX0_needsExactMoney, Cond.selects RX0 yX0_needsExactMoney yX0_needsExactMoney, Cond.code yX0_needsExactMoney cX0_needsExactMoney 3 (some .boolean), Cond.methodLink RX0 215 yX0_overpaid, Cond.static yX0_overpaid, Cond.code yX0_overpaid cX0_overpaid 3 (some .int), Cond.methodLink RL 161 yX1_lamp, Cond.instanceMethod yX1_lamp, Cond.selects RX1 yX1_lamp yX1_lamp, Cond.code yX1_lamp cX1_lamp 5 (some .boolean), Cond.methodLink RL 162 yL_audit, Cond.static yL_audit, Cond.codeWith yL_audit cL_audit 4 (some .int) [(0, 8, 11, 20)], Cond.methodLink RL 72 yX0_audit, Cond.instanceMethod yX0_audit, Cond.selects RX0 yX0_audit yX0_audit, Cond.code yX0_audit cX0_audit 2 (some .long), Cond.methodLink RL 164 yX1_audit, Cond.instanceMethod yX1_audit, Cond.selects RX1 yX1_audit yX1_audit, Cond.code yX1_audit cX1_audit 2 (some .long)]
def wsL_law0_r20 : List Cond := [Cond.methodLink RL 165 yX0_exactShare, Cond.instanceMethod yX0_exactShare, Cond.selects RX0 yX0_exactShare yX0_exactShare, Cond.code yX0_exactShare cX0_exactShare 3 (some .double), Cond.methodLink RL 169 yX1_exactShare, Cond.instanceMethod yX1_exactShare, Cond.selects RX1 yX1_exactShare yX1_exactShare, Cond.code yX1_exactShare cX1_exactShare 1 (some .double), Cond.methodLink RL 170 yX0_digest, Cond.instanceMethod yX0_digest, Cond.selects RX0 yX0_digest yX0_digest, Cond.code yX0_digest cX0_digest 4 (some .long), Cond.constantLong RX0 176 (181), Cond.constantLong RX0 182 (31), Cond.methodLink RX0 178 yX0_digestOfKinds, Cond.instanceMethod yX0_digestOfKinds, Cond.selects RX0 yX0_digestOfKinds yX0_digestOfKinds, Cond.code yX0_digestOfKinds cX0_digestOfKinds 7 (some .long), Cond.methodLink RL 174 yX1_digest, Cond.instanceMethod yX1_digest, Cond.selects RX1 yX1_digest yX1_digest, Cond.code yX1_digest cX1_digest 8 (some .long), Cond.constantLong RX1 122 (5611), Cond.constantLong RX1 124 (31)]
def wsL_law0 : List Cond := (wsL_law0_r1 ++ (wsL_law0_r2 ++ (wsL_law0_r3 ++ (wsL_law0_r4 ++ (wsL_law0_r5 ++ (wsL_law0_r6 ++ (wsL_law0_r7 ++ (wsL_law0_r8 ++ (wsL_law0_r9 ++ (wsL_law0_r10 ++ (wsL_law0_r11 ++ (wsL_law0_r12 ++ (wsL_law0_r13 ++ (wsL_law0_r14 ++ (wsL_law0_r15 ++ (wsL_law0_r16 ++ (wsL_law0_r17 ++ (wsL_law0_r18 ++ (wsL_law0_r19 ++ wsL_law0_r20))))))))))))))))))) ++ wsX00 ++ wsX10 ++ ([] : List Cond)
def wsL_law : List Cond := wsL_law0 ++ (vx_atS RX0 71 "java/lang/IllegalArgumentException" ["java/lang/RuntimeException", "java/lang/Exception"]).filter goodWord ++ (vx_atS RX0 80 "java/lang/IllegalStateException" ["java/lang/RuntimeException", "java/lang/Exception"]).filter goodWord ++ (vx_atS RX0 148 "java/lang/IndexOutOfBoundsException" ["java/lang/RuntimeException", "java/lang/Exception"]).filter goodWord
theorem in_r {big : List Cond} (ws : List Cond) (ps : List Nat) (hp : ws = ps.filterMap (fun i => big[i]?)) : ∀ w ∈ ws, w ∈ big := by
  intro w hw
  rw [hp] at hw
  obtain ⟨i, -, hi⟩ := List.mem_filterMap.mp hw
  exact List.mem_of_getElem? hi
set_option maxRecDepth 20000 in
theorem wsL_law0_r1_in : ∀ w ∈ wsL_law0_r1, w ∈ lw_tbl := in_r _ [39, 40, 30, 475, 476, 31, 104, 41, 42, 43, 44, 45, 46, 47, 102, 48, 49, 50, 51, 52, 103, 53, 54, 55] (by decide +kernel)
set_option maxRecDepth 20000 in
theorem wsL_law0_r2_in : ∀ w ∈ wsL_law0_r2, w ∈ lw_tbl := in_r _ [56, 57, 58, 59, 60, 61, 62, 63, 64, 477, 478, 479, 480, 483, 484, 485, 486, 487, 488, 489, 491, 492, 493, 495] (by decide +kernel)
set_option maxRecDepth 20000 in
theorem wsL_law0_r3_in : ∀ w ∈ wsL_law0_r3, w ∈ lw_tbl := in_r _ [496, 498, 499, 187, 188, 29, 189, 190, 191, 192, 193, 194, 195, 196, 35, 265, 36, 281, 283, 11, 284, 543, 544, 545] (by decide +kernel)
set_option maxRecDepth 20000 in
theorem wsL_law0_r4_in : ∀ w ∈ wsL_law0_r4, w ∈ lw_tbl := in_r _ [546, 481, 482, 547, 549, 19, 550, 539, 540, 541, 542, 286, 287, 288, 289, 290, 291, 292, 293, 138, 139, 38, 140, 294] (by decide +kernel)
set_option maxRecDepth 20000 in
theorem wsL_law0_r5_in : ∀ w ∈ wsL_law0_r5, w ∈ lw_tbl := in_r _ [296, 12, 297, 298, 37, 314, 315, 316, 551, 552, 553, 554, 559, 555, 557, 20, 558, 318, 319, 320, 321, 322, 323, 324] (by decide +kernel)
set_option maxRecDepth 20000 in
theorem wsL_law0_r6_in : ∀ w ∈ wsL_law0_r6, w ∈ lw_tbl := in_r _ [560, 561, 562, 563, 105, 106, 107, 108, 564, 565, 566, 567, 325, 326, 327, 328, 329, 330, 331, 568, 569, 570, 571, 332] (by decide +kernel)
set_option maxRecDepth 20000 in
theorem wsL_law0_r7_in : ∀ w ∈ wsL_law0_r7, w ∈ lw_tbl := in_r _ [333, 334, 335, 336, 337, 338, 572, 573, 574, 575, 576, 577, 578, 340, 341, 342, 343, 344, 345, 346, 347, 348, 349, 579] (by decide +kernel)
set_option maxRecDepth 20000 in
theorem wsL_law0_r8_in : ∀ w ∈ wsL_law0_r8, w ∈ lw_tbl := in_r _ [580, 581, 582, 490, 583, 584, 585, 353, 354, 355, 356, 357, 358, 359, 360, 362, 13, 363, 586, 587, 588, 589, 590, 592] (by decide +kernel)
set_option maxRecDepth 20000 in
theorem wsL_law0_r9_in : ∀ w ∈ wsL_law0_r9, w ∈ lw_tbl := in_r _ [21, 593, 365, 366, 367, 368, 369, 370, 371, 594, 595, 596, 597, 372, 373, 374, 375, 376, 377, 378, 113, 114, 115, 116] (by decide +kernel)
set_option maxRecDepth 20000 in
theorem wsL_law0_r10_in : ∀ w ∈ wsL_law0_r10, w ∈ lw_tbl := in_r _ [117, 119, 0, 120, 598, 599, 600, 601, 494, 602, 604, 22, 605, 109, 110, 111, 112, 606, 607, 608, 609, 379, 380, 381] (by decide +kernel)
set_option maxRecDepth 20000 in
theorem wsL_law0_r11_in : ∀ w ∈ wsL_law0_r11, w ∈ lw_tbl := in_r _ [382, 383, 384, 385, 141, 386, 388, 14, 389, 134, 136, 2, 137, 142, 144, 3, 145, 150, 146, 148, 4, 149, 151, 153] (by decide +kernel)
set_option maxRecDepth 20000 in
theorem wsL_law0_r12_in : ∀ w ∈ wsL_law0_r12, w ∈ lw_tbl := in_r _ [5, 154, 155, 156, 157, 165, 167, 7, 168, 390, 392, 15, 393, 394, 396, 16, 397, 398, 400, 17, 401, 402, 403, 405] (by decide +kernel)
set_option maxRecDepth 20000 in
theorem wsL_law0_r13_in : ∀ w ∈ wsL_law0_r13, w ∈ lw_tbl := in_r _ [18, 406, 610, 611, 612, 613, 614, 615, 616, 617, 618, 620, 497, 621, 623, 23, 624, 625, 627, 24, 628, 629, 631, 25] (by decide +kernel)
set_option maxRecDepth 20000 in
theorem wsL_law0_r14_in : ∀ w ∈ wsL_law0_r14, w ∈ lw_tbl := in_r _ [632, 633, 635, 26, 636, 407, 408, 409, 410, 411, 412, 413, 637, 638, 639, 640, 121, 641, 642, 643, 644, 415, 416, 417] (by decide +kernel)
set_option maxRecDepth 20000 in
theorem wsL_law0_r15_in : ∀ w ∈ wsL_law0_r15, w ∈ lw_tbl := in_r _ [418, 419, 420, 421, 645, 646, 647, 648, 423, 424, 425, 426, 427, 428, 429, 183, 185, 9, 186, 649, 650, 651, 652, 653] (by decide +kernel)
set_option maxRecDepth 20000 in
theorem wsL_law0_r16_in : ∀ w ∈ wsL_law0_r16, w ∈ lw_tbl := in_r _ [655, 27, 656, 431, 432, 433, 434, 435, 436, 437, 438, 439, 440, 442, 443, 444, 657, 658, 659, 660, 445, 446, 447, 448] (by decide +kernel)
set_option maxRecDepth 20000 in
theorem wsL_law0_r17_in : ∀ w ∈ wsL_law0_r17, w ∈ lw_tbl := in_r _ [449, 450, 451, 661, 662, 663, 664, 452, 453, 454, 455, 456, 457, 458, 665, 666, 667, 668, 459, 460, 461, 462, 463, 464] (by decide +kernel)
set_option maxRecDepth 20000 in
theorem wsL_law0_r18_in : ∀ w ∈ wsL_law0_r18, w ∈ lw_tbl := in_r _ [465, 466, 123, 124, 125, 126, 128, 1, 129, 669, 670, 671, 672, 673, 675, 28, 676, 122, 677, 678, 679, 680, 130, 131] (by decide +kernel)
set_option maxRecDepth 20000 in
theorem wsL_law0_r19_in : ∀ w ∈ wsL_law0_r19, w ∈ lw_tbl := in_r _ [132, 133, 158, 160, 6, 161, 162, 163, 164, 681, 682, 683, 684, 467, 468, 469, 470, 471, 472, 473, 685, 686, 687, 688] (by decide +kernel)
set_option maxRecDepth 20000 in
theorem wsL_law0_r20_in : ∀ w ∈ wsL_law0_r20, w ∈ lw_tbl := in_r _ [169, 170, 171, 172, 689, 690, 691, 692, 173, 174, 175, 176, 177, 182, 178, 180, 8, 181, 693, 694, 695, 696, 697, 698] (by decide +kernel)
set_option maxRecDepth 20000 in
theorem wsX00_in : ∀ w ∈ wsX00, w ∈ lw_tbl := by decide +kernel
set_option maxRecDepth 20000 in
theorem wsX10_in : ∀ w ∈ wsX10, w ∈ lw_tbl := by decide +kernel
theorem wsL_law_in0 : ∀ w ∈ wsL_law0, w ∈ lw_tbl := fun w h => (List.mem_append.mp h).elim (fun h => (List.mem_append.mp h).elim (fun h => (List.mem_append.mp h).elim (fun h => (List.mem_append.mp h).elim (fun h => wsL_law0_r1_in w h) (fun h => (List.mem_append.mp h).elim (fun h => wsL_law0_r2_in w h) (fun h => (List.mem_append.mp h).elim (fun h => wsL_law0_r3_in w h) (fun h => (List.mem_append.mp h).elim (fun h => wsL_law0_r4_in w h) (fun h => (List.mem_append.mp h).elim (fun h => wsL_law0_r5_in w h) (fun h => (List.mem_append.mp h).elim (fun h => wsL_law0_r6_in w h) (fun h => (List.mem_append.mp h).elim (fun h => wsL_law0_r7_in w h) (fun h => (List.mem_append.mp h).elim (fun h => wsL_law0_r8_in w h) (fun h => (List.mem_append.mp h).elim (fun h => wsL_law0_r9_in w h) (fun h => (List.mem_append.mp h).elim (fun h => wsL_law0_r10_in w h) (fun h => (List.mem_append.mp h).elim (fun h => wsL_law0_r11_in w h) (fun h => (List.mem_append.mp h).elim (fun h => wsL_law0_r12_in w h) (fun h => (List.mem_append.mp h).elim (fun h => wsL_law0_r13_in w h) (fun h => (List.mem_append.mp h).elim (fun h => wsL_law0_r14_in w h) (fun h => (List.mem_append.mp h).elim (fun h => wsL_law0_r15_in w h) (fun h => (List.mem_append.mp h).elim (fun h => wsL_law0_r16_in w h) (fun h => (List.mem_append.mp h).elim (fun h => wsL_law0_r17_in w h) (fun h => (List.mem_append.mp h).elim (fun h => wsL_law0_r18_in w h) (fun h => (List.mem_append.mp h).elim (fun h => wsL_law0_r19_in w h) (fun h => wsL_law0_r20_in w h)))))))))))))))))))) (fun h => wsX00_in w h)) (fun h => wsX10_in w h)) (fun h => absurd h List.not_mem_nil)
theorem wsL_law_x0 : ∀ w ∈ (vx_atS RX0 71 "java/lang/IllegalArgumentException" ["java/lang/RuntimeException", "java/lang/Exception"]).filter goodWord, w ∈ lw_tbl := by decide +kernel
theorem wsL_law_x1 : ∀ w ∈ (vx_atS RX0 80 "java/lang/IllegalStateException" ["java/lang/RuntimeException", "java/lang/Exception"]).filter goodWord, w ∈ lw_tbl := by decide +kernel
theorem wsL_law_x2 : ∀ w ∈ (vx_atS RX0 148 "java/lang/IndexOutOfBoundsException" ["java/lang/RuntimeException", "java/lang/Exception"]).filter goodWord, w ∈ lw_tbl := by decide +kernel
theorem wsL_law_in : ∀ w ∈ wsL_law, w ∈ lw_tbl := fun w h => (List.mem_append.mp h).elim (fun h => (List.mem_append.mp h).elim (fun h => (List.mem_append.mp h).elim (fun h => wsL_law_in0 w h) (fun h => wsL_law_x0 w h)) (fun h => wsL_law_x1 w h)) (fun h => wsL_law_x2 w h)
theorem inlX0 : ∀ w ∈ wsX00, w ∈ wsL_law := fun _ h => List.mem_append_left _ (List.mem_append_left _ (List.mem_append_left _ (List.mem_append_left _ (List.mem_append_left _ (List.mem_append_right _ h)))))
theorem inX0 : ∀ w ∈ wsX00, w ∈ lw_tbl := fun w h => wsL_law_in w (inlX0 w h)
theorem inlX1 : ∀ w ∈ wsX10, w ∈ wsL_law := fun _ h => List.mem_append_left _ (List.mem_append_left _ (List.mem_append_left _ (List.mem_append_left _ (List.mem_append_right _ h))))
theorem inX1 : ∀ w ∈ wsX10, w ∈ lw_tbl := fun w h => wsL_law_in w (inlX1 w h)
theorem inJx8e188 : ∀ w ∈ wsJx8e1880, w ∈ lw_tbl := by decide +kernel
theorem inJ9 : ∀ w ∈ wsJ90, w ∈ lw_tbl := by decide +kernel
theorem inJ0 : ∀ w ∈ wsJ00, w ∈ lw_tbl := by decide +kernel
end
section
/-! numbers: every int of the two classes is nI of a natural, every score lZ of an integer -/
def un (f : Nat → Nat) (i x : Nat) : Nat → Nat := fun j => if j = i then x else f j
theorem un_s {f : Nat → Nat} {i x : Nat} : un f i x i = x := if_pos rfl
theorem un_n {f : Nat → Nat} {i x j : Nat} (h : j ≠ i) : un f i x j = f j := if_neg h
def uz (f : Nat → Int) (i : Nat) (x : Int) : Nat → Int := fun j => if j = i then x else f j
theorem uz_s {f : Nat → Int} {i : Nat} {x : Int} : uz f i x i = x := if_pos rfl
theorem uz_n {f : Nat → Int} {i j : Nat} {x : Int} (h : j ≠ i) : uz f i x j = f j := if_neg h
def lZ (x : Int) : Int64 := Int64.ofInt x
def rI (f : Nat → Nat) : Nat → Int32 := fun j => nI (f j)
def rL (f : Nat → Int) : Nat → Int64 := fun j => lZ (f j)
theorem rI_up (f : Nat → Nat) (i x : Nat) : upd (rI f) i (nI x) = rI (un f i x) := by
  funext j
  unfold upd rI un
  by_cases h : j = i
  · rw [if_pos h, if_pos h]
  · rw [if_neg h, if_neg h]
theorem rL_up (f : Nat → Int) (i : Nat) (x : Int) : vp_updL (rL f) i (lZ x) = rL (uz f i x) := by
  funext j
  unfold vp_updL rL uz
  by_cases h : j = i
  · rw [if_pos h, if_pos h]
  · rw [if_neg h, if_neg h]
theorem lZ_add (a b : Int) : lZ a + lZ b = lZ (a + b) := (Int64.ofInt_add a b).symm
theorem lZ_mul (a b : Int) : lZ a * lZ b = lZ (a * b) := (Int64.ofInt_mul a b).symm
theorem lZ_neg (a : Int) : - lZ a = lZ (-a) := (Int64.ofInt_neg a).symm
theorem lZ_sub (a b : Int) : lZ a - lZ b = lZ (a - b) := (Int64.ofInt_sub a b).symm
theorem lZ_toInt {a : Int} (h1 : -9223372036854775808 ≤ a) (h2 : a < 9223372036854775808) : (lZ a).toInt = a := by
  unfold lZ
  rw [Int64.toInt_ofInt]
  apply Int.bmod_eq_of_le
  · show -((2 ^ 64 : Nat) : Int) / 2 ≤ a
    have e : -((2 ^ 64 : Nat) : Int) / 2 = -9223372036854775808 := by decide
    rw [e]; exact h1
  · show a < (((2 ^ 64 : Nat) : Int) + 1) / 2
    have e : (((2 ^ 64 : Nat) : Int) + 1) / 2 = 9223372036854775808 := by decide
    rw [e]; exact h2
theorem lZ_lt {a b : Int} (h1 : -9223372036854775808 ≤ a) (h2 : a < 9223372036854775808) (h3 : -9223372036854775808 ≤ b) (h4 : b < 9223372036854775808) : lZ a < lZ b ↔ a < b := by
  rw [Int64.lt_iff_toInt_lt, lZ_toInt h1 h2, lZ_toInt h3 h4]
theorem lZ_eq {a b : Int} (h1 : -9223372036854775808 ≤ a) (h2 : a < 9223372036854775808) (h3 : -9223372036854775808 ≤ b) (h4 : b < 9223372036854775808) : lZ a = lZ b ↔ a = b := by
  rw [← Int64.toInt_inj, lZ_toInt h1 h2, lZ_toInt h3 h4]
theorem nI_lZ {n : Nat} (h : n < 2147483648) : (nI n).toInt64 = lZ (n : Int) := by
  apply Int64.toInt_inj.mp
  rw [Int32.toInt_toInt64, nI_toInt h, lZ_toInt (by omega) (by omega)]
theorem nI_eq32 {a b : Nat} (ha : a < 4294967296) (hb : b < 4294967296) : nI a = nI b ↔ a = b := by
  constructor
  · intro h
    have e := congrArg (fun z : Int32 => z.toBitVec.toNat) h
    simp only [nI, Int32.toBitVec_ofNat', BitVec.toNat_ofNat] at e
    omega
  · intro h; rw [h]
theorem nI_min (a b : Nat) (ha : a < 2147483648) (hb : b < 2147483648) : (if nI b < nI a then nI b else nI a) = nI (min a b) := by
  by_cases h : b < a
  · rw [if_pos ((nI_ltI hb ha).mpr h), Nat.min_eq_right (Nat.le_of_lt h)]
  · rw [if_neg (fun q => h ((nI_ltI hb ha).mp q)), Nat.min_eq_left (by omega)]
theorem lZ_max (a b : Int) (h1 : -9223372036854775808 ≤ a) (h2 : a < 9223372036854775808) (h3 : -9223372036854775808 ≤ b) (h4 : b < 9223372036854775808) : (if lZ b < lZ a then lZ a else lZ b) = lZ (max a b) := by
  by_cases h : b < a
  · rw [if_pos ((lZ_lt h3 h4 h1 h2).mpr h)]
    congr 1; omega
  · rw [if_neg (fun q => h ((lZ_lt h3 h4 h1 h2).mp q))]
    congr 1; omega
theorem nI_out {x : Int32} {n : Nat} (hn : n < 2147483648) (h : ¬ vp_in x n) : x < 0 ∨ nI n ≤ x := by
  by_cases h0 : x < 0
  · exact Or.inl h0
  · right
    obtain ⟨j, hj, rfl⟩ := nI_of h0
    apply nI_le _ hj
    rcases Nat.lt_or_ge j n with q | q
    · exact absurd (vp_in_nI q hn) h
    · exact q
theorem vp_of {x : Int32} {n : Nat} (hn : n < 2147483648) (h0 : ¬ x < 0) (h : ¬ nI n ≤ x) : vp_in x n := by
  obtain ⟨j, hj, rfl⟩ := nI_of h0
  apply vp_in_nI _ hn
  rcases Nat.lt_or_ge j n with q | q
  · exact q
  · exact absurd (nI_le q hj) h
section NR
variable {p : Program} {l : Launch} {e : Env} {R : Room} {s : State} {m : MethodId} {args : Array Value} {below : List Frame} {meth : Method} {c : Code} {H : Heap} {locs : List Loc} {cells slots : Nat} {Q : State → Prop}
variable {cc : ByteArray} {pc : Nat} {ls : Array Slot} {rest : List Value}
theorem n_top {x y : Int32} (h : x = y) (k : W p l e R s m args below meth c H locs cells slots Q (F0 m pc ls (.int y :: rest))) : W p l e R s m args below meth c H locs cells slots Q (F0 m pc ls (.int x :: rest)) := by rw [h]; exact k
theorem n_topl {x y : Int64} (h : x = y) (k : W p l e R s m args below meth c H locs cells slots Q (F0 m pc ls (.long y :: rest))) : W p l e R s m args below meth c H locs cells slots Q (F0 m pc ls (.long x :: rest)) := by rw [h]; exact k
theorem n_iadd (hx : p.tables.exec = Jvm.exec) (hb : c.code = cc) {a b : Nat} (hd : decode cc pc = .ok (.iadd, 1)) (k : W p l e R s m args below meth c H locs cells slots Q (F0 m (pc + 1) ls (.int (nI (a + b)) :: rest))) : W p l e R s m args below meth c H locs cells slots Q (F0 m pc ls (.int (nI b) :: .int (nI a) :: rest)) :=
  lv_iadd hx hb hd (n_top (nI_add a b) k)
theorem n_isub (hx : p.tables.exec = Jvm.exec) (hb : c.code = cc) {a b : Nat} (hle : b ≤ a) (hd : decode cc pc = .ok (.isub, 1)) (k : W p l e R s m args below meth c H locs cells slots Q (F0 m (pc + 1) ls (.int (nI (a - b)) :: rest))) : W p l e R s m args below meth c H locs cells slots Q (F0 m pc ls (.int (nI b) :: .int (nI a) :: rest)) :=
  lv_isub hx hb hd (n_top (pk_sub hle) k)
theorem n_imul (hx : p.tables.exec = Jvm.exec) (hb : c.code = cc) {a b : Nat} (hd : decode cc pc = .ok (.imul, 1)) (k : W p l e R s m args below meth c H locs cells slots Q (F0 m (pc + 1) ls (.int (nI (a * b)) :: rest))) : W p l e R s m args below meth c H locs cells slots Q (F0 m pc ls (.int (nI b) :: .int (nI a) :: rest)) :=
  lv_imul hx hb hd (n_top (pk_mul a b) k)
theorem n_idiv (hx : p.tables.exec = Jvm.exec) (hb : c.code = cc) {a b : Nat} (ha : a < 2147483648) (h0 : 0 < b) (hbb : b < 2147483648) (hd : decode cc pc = .ok (.idiv, 1)) (k : W p l e R s m args below meth c H locs cells slots Q (F0 m (pc + 1) ls (.int (nI (a / b)) :: rest))) : W p l e R s m args below meth c H locs cells slots Q (F0 m pc ls (.int (nI b) :: .int (nI a) :: rest)) :=
  lv_idiv hx hb hd (nI_ne0 h0 hbb) (n_top (pk_div ha h0 hbb) k)
theorem n_irem (hx : p.tables.exec = Jvm.exec) (hb : c.code = cc) {a b : Nat} (ha : a < 2147483648) (h0 : 0 < b) (hbb : b < 2147483648) (hd : decode cc pc = .ok (.irem, 1)) (k : W p l e R s m args below meth c H locs cells slots Q (F0 m (pc + 1) ls (.int (nI (a % b)) :: rest))) : W p l e R s m args below meth c H locs cells slots Q (F0 m pc ls (.int (nI b) :: .int (nI a) :: rest)) :=
  lv_irem hx hb hd (nI_ne0 h0 hbb) (n_top (pk_rem ha h0 hbb) k)
theorem n_ladd (hx : p.tables.exec = Jvm.exec) (hb : c.code = cc) {a b : Int} (hd : decode cc pc = .ok (.ladd, 1)) (k : W p l e R s m args below meth c H locs cells slots Q (F0 m (pc + 1) ls (.long (lZ (a + b)) :: rest))) : W p l e R s m args below meth c H locs cells slots Q (F0 m pc ls (.long (lZ b) :: .long (lZ a) :: rest)) :=
  lv_ladd hx hb hd (n_topl (lZ_add a b) k)
theorem n_lmul (hx : p.tables.exec = Jvm.exec) (hb : c.code = cc) {a b : Int} (hd : decode cc pc = .ok (.lmul, 1)) (k : W p l e R s m args below meth c H locs cells slots Q (F0 m (pc + 1) ls (.long (lZ (a * b)) :: rest))) : W p l e R s m args below meth c H locs cells slots Q (F0 m pc ls (.long (lZ b) :: .long (lZ a) :: rest)) :=
  lv_lmul hx hb hd (n_topl (lZ_mul a b) k)
theorem n_i2l (hx : p.tables.exec = Jvm.exec) (hb : c.code = cc) {a : Nat} (ha : a < 2147483648) (hd : decode cc pc = .ok (.i2l, 1)) (k : W p l e R s m args below meth c H locs cells slots Q (F0 m (pc + 1) ls (.long (lZ (a : Int)) :: rest))) : W p l e R s m args below meth c H locs cells slots Q (F0 m pc ls (.int (nI a) :: rest)) :=
  lv_i2l hx hb hd (nI_lZ ha) k
theorem n_icmp_lt (hx : p.tables.exec = Jvm.exec) (hb : c.code = cc) {a b : Nat} {off : Int} {tgt : Nat} (ha : a < 2147483648) (hbb : b < 2147483648) (hd : decode cc pc = .ok (.if_icmp .lt off, 3)) (ht : (pc : Int) + off = (tgt : Int)) (kt : a < b → W p l e R s m args below meth c H locs cells slots Q (F0 m tgt ls rest)) (kf : b ≤ a → W p l e R s m args below meth c H locs cells slots Q (F0 m (pc + 3) ls rest)) : W p l e R s m args below meth c H locs cells slots Q (F0 m pc ls (.int (nI b) :: .int (nI a) :: rest)) :=
  lv_icmp_lt hx hb hd ht (fun h => kt ((nI_ltI ha hbb).mp h)) (fun h => kf (Nat.le_of_not_lt fun q => h ((nI_ltI ha hbb).mpr q)))
theorem n_icmp_ge (hx : p.tables.exec = Jvm.exec) (hb : c.code = cc) {a b : Nat} {off : Int} {tgt : Nat} (ha : a < 2147483648) (hbb : b < 2147483648) (hd : decode cc pc = .ok (.if_icmp .ge off, 3)) (ht : (pc : Int) + off = (tgt : Int)) (kt : b ≤ a → W p l e R s m args below meth c H locs cells slots Q (F0 m tgt ls rest)) (kf : a < b → W p l e R s m args below meth c H locs cells slots Q (F0 m (pc + 3) ls rest)) : W p l e R s m args below meth c H locs cells slots Q (F0 m pc ls (.int (nI b) :: .int (nI a) :: rest)) :=
  lv_icmp_ge hx hb hd ht (fun h => kt ((nI_leI hbb ha).mp h)) (fun h => kf (Nat.lt_of_not_le fun q => h ((nI_leI hbb ha).mpr q)))
theorem n_icmp_gt (hx : p.tables.exec = Jvm.exec) (hb : c.code = cc) {a b : Nat} {off : Int} {tgt : Nat} (ha : a < 2147483648) (hbb : b < 2147483648) (hd : decode cc pc = .ok (.if_icmp .gt off, 3)) (ht : (pc : Int) + off = (tgt : Int)) (kt : b < a → W p l e R s m args below meth c H locs cells slots Q (F0 m tgt ls rest)) (kf : a ≤ b → W p l e R s m args below meth c H locs cells slots Q (F0 m (pc + 3) ls rest)) : W p l e R s m args below meth c H locs cells slots Q (F0 m pc ls (.int (nI b) :: .int (nI a) :: rest)) :=
  lv_icmp_gt hx hb hd ht (fun h => kt ((nI_ltI hbb ha).mp h)) (fun h => kf (Nat.le_of_not_lt fun q => h ((nI_ltI hbb ha).mpr q)))
theorem n_icmp_le (hx : p.tables.exec = Jvm.exec) (hb : c.code = cc) {a b : Nat} {off : Int} {tgt : Nat} (ha : a < 2147483648) (hbb : b < 2147483648) (hd : decode cc pc = .ok (.if_icmp .le off, 3)) (ht : (pc : Int) + off = (tgt : Int)) (kt : a ≤ b → W p l e R s m args below meth c H locs cells slots Q (F0 m tgt ls rest)) (kf : b < a → W p l e R s m args below meth c H locs cells slots Q (F0 m (pc + 3) ls rest)) : W p l e R s m args below meth c H locs cells slots Q (F0 m pc ls (.int (nI b) :: .int (nI a) :: rest)) :=
  lv_icmp_le hx hb hd ht (fun h => kt ((nI_leI ha hbb).mp h)) (fun h => kf (Nat.lt_of_not_le fun q => h ((nI_leI ha hbb).mpr q)))
theorem n_icmp_eq (hx : p.tables.exec = Jvm.exec) (hb : c.code = cc) {a b : Nat} {off : Int} {tgt : Nat} (ha : a < 4294967296) (hbb : b < 4294967296) (hd : decode cc pc = .ok (.if_icmp .eq off, 3)) (ht : (pc : Int) + off = (tgt : Int)) (kt : a = b → W p l e R s m args below meth c H locs cells slots Q (F0 m tgt ls rest)) (kf : a ≠ b → W p l e R s m args below meth c H locs cells slots Q (F0 m (pc + 3) ls rest)) : W p l e R s m args below meth c H locs cells slots Q (F0 m pc ls (.int (nI b) :: .int (nI a) :: rest)) :=
  lv_icmp_eq hx hb hd ht (fun h => kt ((nI_eq32 ha hbb).mp h)) (fun h => kf (fun q => h ((nI_eq32 ha hbb).mpr q)))
theorem n_icmp_ne (hx : p.tables.exec = Jvm.exec) (hb : c.code = cc) {a b : Nat} {off : Int} {tgt : Nat} (ha : a < 4294967296) (hbb : b < 4294967296) (hd : decode cc pc = .ok (.if_icmp .ne off, 3)) (ht : (pc : Int) + off = (tgt : Int)) (kt : a ≠ b → W p l e R s m args below meth c H locs cells slots Q (F0 m tgt ls rest)) (kf : a = b → W p l e R s m args below meth c H locs cells slots Q (F0 m (pc + 3) ls rest)) : W p l e R s m args below meth c H locs cells slots Q (F0 m pc ls (.int (nI b) :: .int (nI a) :: rest)) :=
  lv_icmp_ne hx hb hd ht (fun h => kt (fun q => h ((nI_eq32 ha hbb).mpr q))) (fun h => kf ((nI_eq32 ha hbb).mp h))
theorem n_if_eq (hx : p.tables.exec = Jvm.exec) (hb : c.code = cc) {a : Nat} {off : Int} {tgt : Nat} (ha : a < 4294967296) (hd : decode cc pc = .ok (.ifCond .eq off, 3)) (ht : (pc : Int) + off = (tgt : Int)) (kt : a = 0 → W p l e R s m args below meth c H locs cells slots Q (F0 m tgt ls rest)) (kf : a ≠ 0 → W p l e R s m args below meth c H locs cells slots Q (F0 m (pc + 3) ls rest)) : W p l e R s m args below meth c H locs cells slots Q (F0 m pc ls (.int (nI a) :: rest)) :=
  lv_if_eq hx hb hd ht (fun h => kt ((nI_eq32 ha (by decide)).mp (h.trans nI_0.symm))) (fun h => kf (fun q => h (by rw [q]; exact nI_0)))
theorem n_if_ne (hx : p.tables.exec = Jvm.exec) (hb : c.code = cc) {a : Nat} {off : Int} {tgt : Nat} (ha : a < 4294967296) (hd : decode cc pc = .ok (.ifCond .ne off, 3)) (ht : (pc : Int) + off = (tgt : Int)) (kt : a ≠ 0 → W p l e R s m args below meth c H locs cells slots Q (F0 m tgt ls rest)) (kf : a = 0 → W p l e R s m args below meth c H locs cells slots Q (F0 m (pc + 3) ls rest)) : W p l e R s m args below meth c H locs cells slots Q (F0 m pc ls (.int (nI a) :: rest)) :=
  lv_if_ne hx hb hd ht (fun h => kt (fun q => h (by rw [q]; exact nI_0))) (fun h => kf ((nI_eq32 ha (by decide)).mp (h.trans nI_0.symm)))
theorem n_if_le (hx : p.tables.exec = Jvm.exec) (hb : c.code = cc) {a : Nat} {off : Int} {tgt : Nat} (ha : a < 2147483648) (hd : decode cc pc = .ok (.ifCond .le off, 3)) (ht : (pc : Int) + off = (tgt : Int)) (kt : a = 0 → W p l e R s m args below meth c H locs cells slots Q (F0 m tgt ls rest)) (kf : 0 < a → W p l e R s m args below meth c H locs cells slots Q (F0 m (pc + 3) ls rest)) : W p l e R s m args below meth c H locs cells slots Q (F0 m pc ls (.int (nI a) :: rest)) :=
  lv_if_le hx hb hd ht (fun h => kt (Nat.eq_zero_of_le_zero (Nat.le_of_not_lt fun q => nI_nle q ha h))) (fun h => kf (Nat.pos_of_ne_zero fun q => h (by rw [q]; exact nI_le (Nat.le_refl 0) (by decide))))
theorem n_if_gt (hx : p.tables.exec = Jvm.exec) (hb : c.code = cc) {a : Nat} {off : Int} {tgt : Nat} (ha : a < 2147483648) (hd : decode cc pc = .ok (.ifCond .gt off, 3)) (ht : (pc : Int) + off = (tgt : Int)) (kt : 0 < a → W p l e R s m args below meth c H locs cells slots Q (F0 m tgt ls rest)) (kf : a = 0 → W p l e R s m args below meth c H locs cells slots Q (F0 m (pc + 3) ls rest)) : W p l e R s m args below meth c H locs cells slots Q (F0 m pc ls (.int (nI a) :: rest)) :=
  lv_if_gt hx hb hd ht (fun h => kt (Nat.pos_of_ne_zero fun q => by rw [q, nI_0] at h; exact absurd h (by decide))) (fun h => kf (Nat.eq_zero_of_le_zero (Nat.le_of_not_lt fun q => h (by have z := nI_lt q ha; rwa [nI_0] at z))))
theorem n_if_lt (hx : p.tables.exec = Jvm.exec) (hb : c.code = cc) {a : Nat} {off : Int} {tgt : Nat} (ha : a < 2147483648) (hd : decode cc pc = .ok (.ifCond .lt off, 3)) (ht : (pc : Int) + off = (tgt : Int)) (kf : W p l e R s m args below meth c H locs cells slots Q (F0 m (pc + 3) ls rest)) : W p l e R s m args below meth c H locs cells slots Q (F0 m pc ls (.int (nI a) :: rest)) :=
  lv_if_lt hx hb hd ht (fun h => absurd h (nI_pos ha)) (fun _ => kf)
theorem n_if_ge (hx : p.tables.exec = Jvm.exec) (hb : c.code = cc) {a : Nat} {off : Int} {tgt : Nat} (ha : a < 2147483648) (hd : decode cc pc = .ok (.ifCond .ge off, 3)) (ht : (pc : Int) + off = (tgt : Int)) (kt : W p l e R s m args below meth c H locs cells slots Q (F0 m tgt ls rest)) : W p l e R s m args below meth c H locs cells slots Q (F0 m pc ls (.int (nI a) :: rest)) :=
  lv_if_ge hx hb hd ht (fun _ => kt) (fun h => absurd (nI_pos' ha) h)
/-- lcmp and the branch behind it -/
theorem n_lcmp_eq (hx : p.tables.exec = Jvm.exec) (hb : c.code = cc) {x y : Int64} {off : Int} {tgt : Nat} (hd : decode cc pc = .ok (.lcmp, 1)) (hd2 : decode cc (pc + 1) = .ok (.ifCond .eq off, 3)) (ht : ((pc + 1 : Nat) : Int) + off = (tgt : Int)) (kt : x = y → W p l e R s m args below meth c H locs cells slots Q (F0 m tgt ls rest)) (kf : x ≠ y → W p l e R s m args below meth c H locs cells slots Q (F0 m (pc + 1 + 3) ls rest)) : W p l e R s m args below meth c H locs cells slots Q (F0 m pc ls (.long y :: .long x :: rest)) :=
  W.lcmp hx hb hd (lv_if_eq hx hb hd2 ht (fun h => kt ((lg_cmp_eq x y).mp h)) (fun h => kf (fun q => h ((lg_cmp_eq x y).mpr q))))
theorem n_lcmp_ne (hx : p.tables.exec = Jvm.exec) (hb : c.code = cc) {x y : Int64} {off : Int} {tgt : Nat} (hd : decode cc pc = .ok (.lcmp, 1)) (hd2 : decode cc (pc + 1) = .ok (.ifCond .ne off, 3)) (ht : ((pc + 1 : Nat) : Int) + off = (tgt : Int)) (kt : x ≠ y → W p l e R s m args below meth c H locs cells slots Q (F0 m tgt ls rest)) (kf : x = y → W p l e R s m args below meth c H locs cells slots Q (F0 m (pc + 1 + 3) ls rest)) : W p l e R s m args below meth c H locs cells slots Q (F0 m pc ls (.long y :: .long x :: rest)) :=
  W.lcmp hx hb hd (lv_if_ne hx hb hd2 ht (fun h => kt (fun q => h ((lg_cmp_eq x y).mpr q))) (fun h => kf ((lg_cmp_eq x y).mp h)))
variable {D : va_G} {cl : List vw_C} {A : Nat → Prop} {a : Nat} {tys : List (ClassId × FieldType)} {ws ws' : va_W} {H0 : Heap}
theorem n_iald (hx : p.tables.exec = Jvm.exec) (hb : c.code = cc) (hK : va_K D cl tys s) (hP : va_P D cl ws H) (q0 t0 : Nat) {cA : ClassId} {n : Nat} {f : Nat → Nat} (ha : ws[q0]? = some (a, .inl (cA, n, .inl (rI f)))) (ht : tys[t0]? = some (cA, .int)) {i : Nat} (hi : i < n) (hn : n < 2147483648) (hd : decode cc pc = .ok (.iaload, 1)) (kk : W p l e R s m args below meth c H locs cells slots Q (F0 m (pc + 1) ls (.int (nI (f i)) :: rest))) : W p l e R s m args below meth c H locs cells slots Q (F0 m pc ls (.int (nI i) :: .ref a :: rest)) :=
  va_iald hx hb hK hP q0 t0 ha ht (vp_in_nI hi hn) hd (n_top (by rw [nI_clamp (Nat.lt_trans hi hn)]; rfl) kk)
theorem n_zald (hx : p.tables.exec = Jvm.exec) (hb : c.code = cc) (hK : va_K D cl tys s) (hP : va_P D cl ws H) (q0 t0 : Nat) {cA : ClassId} {n : Nat} {f : Nat → Nat} (ha : ws[q0]? = some (a, .inl (cA, n, .inl (rI f)))) (ht : tys[t0]? = some (cA, .boolean)) {i : Nat} (hi : i < n) (hn : n < 2147483648) (hd : decode cc pc = .ok (.baload, 1)) (kk : W p l e R s m args below meth c H locs cells slots Q (F0 m (pc + 1) ls (.int (nI (f i)) :: rest))) : W p l e R s m args below meth c H locs cells slots Q (F0 m pc ls (.int (nI i) :: .ref a :: rest)) :=
  va_zald hx hb hK hP q0 t0 ha ht (vp_in_nI hi hn) hd (n_top (by rw [nI_clamp (Nat.lt_trans hi hn)]; rfl) kk)
theorem n_lald (hx : p.tables.exec = Jvm.exec) (hb : c.code = cc) (hK : va_K D cl tys s) (hP : va_P D cl ws H) (q0 t0 : Nat) {cA : ClassId} {n : Nat} {f : Nat → Int64} (ha : ws[q0]? = some (a, .inl (cA, n, .inr (.inl f)))) (ht : tys[t0]? = some (cA, .long)) {i : Nat} (hi : i < n) (hn : n < 2147483648) (hd : decode cc pc = .ok (.laload, 1)) (kk : W p l e R s m args below meth c H locs cells slots Q (F0 m (pc + 1) ls (.long (f i) :: rest))) : W p l e R s m args below meth c H locs cells slots Q (F0 m pc ls (.int (nI i) :: .ref a :: rest)) :=
  va_lald hx hb hK hP q0 t0 ha ht (vp_in_nI hi hn) hd (n_topl (by rw [nI_clamp (Nat.lt_trans hi hn)]) kk)
theorem n_sald (hx : p.tables.exec = Jvm.exec) (hb : c.code = cc) (hK : va_K D cl tys s) (hP : va_P D cl ws H) (q0 t0 : Nat) {cA : ClassId} {n : Nat} {f : Nat → Int} (ha : ws[q0]? = some (a, .inl (cA, n, .inr (.inl (rL f))))) (ht : tys[t0]? = some (cA, .long)) {i : Nat} (hi : i < n) (hn : n < 2147483648) (hd : decode cc pc = .ok (.laload, 1)) (kk : W p l e R s m args below meth c H locs cells slots Q (F0 m (pc + 1) ls (.long (lZ (f i)) :: rest))) : W p l e R s m args below meth c H locs cells slots Q (F0 m pc ls (.int (nI i) :: .ref a :: rest)) :=
  n_lald hx hb hK hP q0 t0 ha ht hi hn hd kk
theorem n_iast (hx : p.tables.exec = Jvm.exec) (hb : c.code = cc) (hK : va_K D cl tys s) (hP : va_P D cl ws H) (hD : va_D A ws) (hS : va_S A H0 H locs) (q0 t0 : Nat) {cA : ClassId} {n : Nat} {f : Nat → Nat} (ha : ws[q0]? = some (a, .inl (cA, n, .inl (rI f)))) (ht : tys[t0]? = some (cA, .int)) {i x : Nat} (hi : i < n) (hn : n < 2147483648) (hw : ws.set q0 (a, .inl (cA, n, .inl (rI (un f i x)))) = ws') (hd : decode cc pc = .ok (.iastore, 1)) (kk : ∀ (H1 : Heap) (locs1 : List Loc), va_P D cl ws' H1 → va_D A ws' → va_S A H0 H1 locs1 → W p l e R s m args below meth c H1 locs1 cells slots Q (F0 m (pc + 1) ls rest)) : W p l e R s m args below meth c H locs cells slots Q (F0 m pc ls (.int (nI x) :: .int (nI i) :: .ref a :: rest)) := by
  refine va_iast hx hb hK hP hD hS q0 t0 ha ht (vp_in_nI hi hn) hd (fun H1 locs1 h1 h2 h3 => ?_)
  rw [nI_clamp (Nat.lt_trans hi hn), rI_up, hw] at h1 h2
  exact kk H1 locs1 h1 h2 h3
theorem n_last (hx : p.tables.exec = Jvm.exec) (hb : c.code = cc) (hK : va_K D cl tys s) (hP : va_P D cl ws H) (hD : va_D A ws) (hS : va_S A H0 H locs) (q0 t0 : Nat) {cA : ClassId} {n : Nat} {f : Nat → Int64} (ha : ws[q0]? = some (a, .inl (cA, n, .inr (.inl f)))) (ht : tys[t0]? = some (cA, .long)) {i : Nat} {x : Int64} (hi : i < n) (hn : n < 2147483648) (hw : ws.set q0 (a, .inl (cA, n, .inr (.inl (vp_updL f i x)))) = ws') (hd : decode cc pc = .ok (.lastore, 1)) (kk : ∀ (H1 : Heap) (locs1 : List Loc), va_P D cl ws' H1 → va_D A ws' → va_S A H0 H1 locs1 → W p l e R s m args below meth c H1 locs1 cells slots Q (F0 m (pc + 1) ls rest)) : W p l e R s m args below meth c H locs cells slots Q (F0 m pc ls (.long x :: .int (nI i) :: .ref a :: rest)) := by
  refine va_last hx hb hK hP hD hS q0 t0 ha ht (vp_in_nI hi hn) hd (fun H1 locs1 h1 h2 h3 => ?_)
  rw [nI_clamp (Nat.lt_trans hi hn), hw] at h1 h2
  exact kk H1 locs1 h1 h2 h3
theorem n_sast (hx : p.tables.exec = Jvm.exec) (hb : c.code = cc) (hK : va_K D cl tys s) (hP : va_P D cl ws H) (hD : va_D A ws) (hS : va_S A H0 H locs) (q0 t0 : Nat) {cA : ClassId} {n : Nat} {f : Nat → Int} (ha : ws[q0]? = some (a, .inl (cA, n, .inr (.inl (rL f))))) (ht : tys[t0]? = some (cA, .long)) {i : Nat} {x : Int} (hi : i < n) (hn : n < 2147483648) (hw : ws.set q0 (a, .inl (cA, n, .inr (.inl (rL (uz f i x))))) = ws') (hd : decode cc pc = .ok (.lastore, 1)) (kk : ∀ (H1 : Heap) (locs1 : List Loc), va_P D cl ws' H1 → va_D A ws' → va_S A H0 H1 locs1 → W p l e R s m args below meth c H1 locs1 cells slots Q (F0 m (pc + 1) ls rest)) : W p l e R s m args below meth c H locs cells slots Q (F0 m pc ls (.long (lZ x) :: .int (nI i) :: .ref a :: rest)) := by
  refine n_last hx hb hK hP hD hS q0 t0 ha ht hi hn (by rw [rL_up]; exact hw) hd kk
end NR
end
section
abbrev vwCl : List vw_C := [(RX0, TX0, 18), (RX1, TX1, 19)]
/-! what every method of CoinMechanism is begun with: the strings, the exceptions' classes, Throwable's two statics -/
def eIA : String := "java/lang/IllegalArgumentException"
def eIS : String := "java/lang/IllegalStateException"
def eIB : String := "java/lang/IndexOutOfBoundsException"
def strs : List (Nat × String) := [(69, "value is not 1 to 500"), (74, "capacity is not 0 to 60"), (78, "there are 8 kinds"), (85, "a kind has this value"), (100, "limit is not 0 to 2000"), (106, "there are 10 products"), (138, "no sale can be taken back"), (146, "no such index in the escrow"), (149, "what is not 0 to 3"), (174, "what is not 0 to 9"), (184, "no such kind"), (186, "no such product"), (188, "many is not 0 to 60"), (190, "price is not 1 to 2000"), (192, "stock is not 0 to 99"), (194, "amount is not 0 to 2000")]
def iRE : MethodName := ⟨"java/lang/RuntimeException", "<init>", "(Ljava/lang/String;)V"⟩
def iEX : MethodName := ⟨"java/lang/Exception", "<init>", "(Ljava/lang/String;)V"⟩
def iTH : MethodName := ⟨"java/lang/Throwable", "<init>", "(Ljava/lang/String;)V"⟩
def gg (U : State) : Prop := (∀ q ∈ strs, ∃ a, vk_R RX0 q.1 q.2 a U) ∧ va_Nw (.castable eIA eIA) U ∧ va_Nw (.castable eIS eIS) U ∧ va_Nw (.castable eIB eIB) U ∧ va_Nw (.declares iRE) U ∧ va_Nw (.declares iEX) U ∧ va_Nw (.declares iTH) U
theorem gg.same {u U : State} (hv : U.vm = u.vm) (h : gg u) : gg U :=
  ⟨fun q hq => by obtain ⟨a, ha⟩ := h.1 q hq; exact ⟨a, ha.same hv⟩, va_Nw.same rfl hv.symm h.2.1, va_Nw.same rfl hv.symm h.2.2.1, va_Nw.same rfl hv.symm h.2.2.2.1, va_Nw.same rfl hv.symm h.2.2.2.2.1, va_Nw.same rfl hv.symm h.2.2.2.2.2.1, va_Nw.same rfl hv.symm h.2.2.2.2.2.2⟩
theorem gg.warm {s U : State} (hW : s.WarmedH U.vm) (h : gg s) : gg U :=
  ⟨fun q hq => by obtain ⟨a, ha⟩ := h.1 q hq; exact ⟨a, ha.warm hW⟩, va_Nw.warmC hW h.2.1, va_Nw.warmC hW h.2.2.1, va_Nw.warmC hW h.2.2.2.1, va_Nw.warmD hW h.2.2.2.2.1, va_Nw.warmD hW h.2.2.2.2.2.1, va_Nw.warmD hW h.2.2.2.2.2.2⟩
def zz (A : Nat → Prop) (U : State) (H : Heap) : Prop := vx_Zq Bundle.tN "UNASSIGNED_STACK" Bundle.steD A U H ∧ vx_Zq Bundle.tN "SUPPRESSED_SENTINEL" Bundle.listD A U H
theorem zz.moved {A : Nat → Prop} {u U : State} {H : Heap} (hvm : u.vm.Alike U.vm) (h : zz A u H) : zz A U H := ⟨h.1.moved hvm, h.2.moved hvm⟩
theorem zz.kept {A : Nat → Prop} {U : State} {H H1 : Heap} (h : zz A U H) (hq : ∀ a : Nat, a < H.size → ¬ A a → H1[a]? = H[a]?) : zz A U H1 := ⟨h.1.kept hq, h.2.kept hq⟩
theorem zz.narrow {A B : Nat → Prop} {U : State} {H : Heap} (h : zz A U H) (hAB : ∀ q, B q → A q) : zz B U H := ⟨h.1.narrow hAB, h.2.narrow hAB⟩
/-- a method's start: the world ws, sz cells in the heap -/
def cxP (D : va_G) (tys : List (ClassId × FieldType)) (ws : va_W) (sz : Nat) (U : State) : Prop :=
  U.heap.size = sz ∧ va_P D vwCl ws U.heap ∧ va_K D vwCl tys U ∧ va_D (fun _ => True) ws ∧ zz (va_A ws sz) U U.heap ∧ gg U
theorem cxP.blind {D : va_G} {tys : List (ClassId × FieldType)} {ws : va_W} {sz : Nat} {av : List Value} : FrameBlind (va_Pc av (cxP D tys ws sz)) := by
  intro a U g mk h
  obtain ⟨h1, h2, h3, h4, h5, h6, h7⟩ := h
  exact ⟨h1, h2, h3, va_K.moved (u := U) (U := U.calling g mk a) (Vm.Alike.refl U.vm) h4, h5, zz.moved (u := U) (U := U.calling g mk a) (Vm.Alike.refl U.vm) h6, gg.same (u := U) (U := U.calling g mk a) rfl h7⟩
theorem cxP.give {D : va_G} {tys : List (ClassId × FieldType)} {wc : va_W} {A : Nat → Prop} {s U : State} {H : Heap} {locs : List Loc} (hP : va_P D vwCl wc H) (hK : va_K D vwCl tys s) (hD : va_D A wc) (hS : va_S A s.heap H locs) (hF : ∀ q, va_A wc H.size q → A q) (hZ : zz A s s.heap) (hg : gg s) (hU : U.heap = H) (hW : s.WarmedH U.vm) : cxP D tys wc H.size U := by
  subst hU
  exact ⟨rfl, hP, va_K.moved hW.alike hK, hD.weaken (fun _ _ _ _ => trivial), ((hZ.kept (fun a h1 h2 => hS.2.1 a h1 h2)).narrow hF).moved hW.alike, hg.warm hW⟩
/-- what a method leaves: a world, of the same kind of cells -/
abbrev bW {S : Type} (D : va_G) (A : Nat → Prop) (Wf : S → va_W) : S → State → Prop := fun u t => va_P D vwCl (Wf u) t.heap ∧ va_D A (Wf u)
/-- .. where it throws: the world as it was -/
abbrev xX (D : va_G) (pe : String → Prop) (ws : va_W) (A : Nat → Prop) : String → State → State → Prop := vx_X (fun _ : Unit => True) (fun E _ t => pe E ∧ va_P D vwCl ws t.heap ∧ va_D A ws) A
theorem free_all {A0 : Nat → Prop} {ws : va_W} {H0 H : Heap} {locs : List Loc} (hD : va_D A0 ws) (hS : va_S A0 H0 H locs) (hA : ∀ q, H0.size ≤ q → A0 q) : ∀ q, va_A ws H.size q → A0 q := by
  intro q h
  rcases h with ⟨k, e, h⟩ | h
  · exact hD.2 k _ h
  · exact hA q (Nat.le_trans hS.1 h)
section KC
variable {p : Program} {l : Launch} {e : Env} {R : Room} {s : State} {m : MethodId} {args : Array Value} {below : List Frame} {meth : Method} {c : Code} {H : Heap} {locs : List Loc} {cells slots : Nat} {Q : State → Prop}
variable {y : MethodName} {bytes cc : ByteArray} {maxL nL mc ms n index pc : Nat} {ret : Option FieldType} {wsy : List Cond} {rm : Room} {Ts : List Cond} {own C : String} {b : Addr} {As rest st0 : List Value} {ls : Array Slot} {D : va_G} {tys : List (ClassId × FieldType)} {wc : va_W} {A : Nat → Prop} {S : Type} {Wf : S → va_W}
variable {Qc : Array Value → State → Outcome → State → Prop} {XC : String → State → State → Prop}
/-- a call on the whole world: what the caller hands -/
theorem pre_V (hP : va_P D vwCl wc H) (hK : va_K D vwCl tys s) (hD : va_D A wc) (hS : va_S A s.heap H locs) (hA : ∀ q, s.heap.size ≤ q → A q) (hZ : zz A s s.heap) (hg : gg s) (q0 : Nat) {ci : Nat} {fs : List Value} {q : vw_C} (hc : vwCl[ci]? = some q) (he : wc[q0]? = some (b, .inr (ci, fs))) : PreV s H q.1 b (va_Pc (.ref b :: As) (cxP D tys wc H.size)) As :=
  ⟨cxP.blind, va_recv hK hP hc he, fun _ hU hW => ⟨rfl, cxP.give hP hK hD hS (free_all hD hS hA) hZ hg hU hW⟩⟩
theorem pre_S (hP : va_P D vwCl wc H) (hK : va_K D vwCl tys s) (hD : va_D A wc) (hS : va_S A s.heap H locs) (hA : ∀ q, s.heap.size ≤ q → A q) (hZ : zz A s s.heap) (hg : gg s) : PreS s H (va_Pc As (cxP D tys wc H.size)) As :=
  ⟨cxP.blind, fun _ hU hW => ⟨rfl, cxP.give hP hK hD hS (free_all hD hS hA) hZ hg hU hW⟩⟩
/-- .. and what comes back -/
theorem k_i {post : Int32 → S → Prop} {a : Array Value} (hr : va_Run p l e R s m args below meth c H locs cells slots mc ms (F0 m pc ls st0) rest (va_Qi post (bW D (va_A wc H.size) Wf) (va_A wc H.size) a) (va_A wc H.size)) (hD : va_D A wc) (hS : va_S A s.heap H locs) (hA : ∀ q, s.heap.size ≤ q → A q) (kk : ∀ (r : Int32) (u : S) (H1 : Heap) (locs1 : List Loc), post r u → va_P D vwCl (Wf u) H1 → va_D A (Wf u) → va_S A s.heap H1 locs1 → W p l e R s m args below meth c H1 locs1 (cells + mc) (slots + ms) Q (F0 m (pc + 3) ls (.int r :: rest))) : W p l e R s m args below meth c H locs cells slots Q (F0 m pc ls st0) :=
  va_calli hr hS (fun q _ h => free_all hD hS hA q h) (free_all hD hS hA) (fun r u t H1 locs1 ht _ hp hB _ _ hS1 => kk r u H1 locs1 hp (ht ▸ hB.1) (hB.2.weaken (fun _ q _ h => free_all hD hS hA q.1 h)) hS1)
theorem k_l {post : Int64 → S → Prop} {a : Array Value} (hr : va_Run p l e R s m args below meth c H locs cells slots mc ms (F0 m pc ls st0) rest (va_Ql post (bW D (va_A wc H.size) Wf) (va_A wc H.size) a) (va_A wc H.size)) (hD : va_D A wc) (hS : va_S A s.heap H locs) (hA : ∀ q, s.heap.size ≤ q → A q) (kk : ∀ (r : Int64) (u : S) (H1 : Heap) (locs1 : List Loc), post r u → va_P D vwCl (Wf u) H1 → va_D A (Wf u) → va_S A s.heap H1 locs1 → W p l e R s m args below meth c H1 locs1 (cells + mc) (slots + ms) Q (F0 m (pc + 3) ls (.long r :: rest))) : W p l e R s m args below meth c H locs cells slots Q (F0 m pc ls st0) :=
  va_calll hr hS (fun q _ h => free_all hD hS hA q h) (free_all hD hS hA) (fun r u t H1 locs1 ht _ hp hB _ _ hS1 => kk r u H1 locs1 hp (ht ▸ hB.1) (hB.2.weaken (fun _ q _ h => free_all hD hS hA q.1 h)) hS1)
theorem k_v {post : S → Prop} {a : Array Value} (hr : va_Run p l e R s m args below meth c H locs cells slots mc ms (F0 m pc ls st0) rest (va_Qv post (bW D (va_A wc H.size) Wf) (va_A wc H.size) a) (va_A wc H.size)) (hD : va_D A wc) (hS : va_S A s.heap H locs) (hA : ∀ q, s.heap.size ≤ q → A q) (kk : ∀ (u : S) (H1 : Heap) (locs1 : List Loc), post u → va_P D vwCl (Wf u) H1 → va_D A (Wf u) → va_S A s.heap H1 locs1 → W p l e R s m args below meth c H1 locs1 (cells + mc) (slots + ms) Q (F0 m (pc + 3) ls rest)) : W p l e R s m args below meth c H locs cells slots Q (F0 m pc ls st0) :=
  va_callv hr hS (fun q _ h => free_all hD hS hA q h) (free_all hD hS hA) (fun u t H1 locs1 ht _ hp hB _ _ hS1 => kk u H1 locs1 hp (ht ▸ hB.1) (hB.2.weaken (fun _ q _ h => free_all hD hS hA q.1 h)) hS1)
/-- a call that may throw, from a method that lets it go on to its caller -/
theorem kx_thru {pe pe' : String → Prop} {ws0 : va_W} {E : String} {ce : Cell} {q9 : Addr} {t : State} {H1 : Heap} {locs1 : List Loc} {mc1 ms1 cells1 slots1 : Nat} (hD : va_D A wc) (hw : wc = ws0) (hpe : pe E → pe' E) (hout : ∀ x ∈ c.exceptionTable.toList, False) (hlocks : meth.locks = false) (ht : t.heap = H1) (hB : pe E ∧ va_P D vwCl wc t.heap ∧ va_D (va_A wc H.size) wc) (hS1 : va_S A s.heap H1 locs1) (h1 : H1[q9]? = some ce) (h2 : ce.vm = .none) (h3 : s.vm.findClass E = some ce.cls) (hmc : cells1 ≤ mc1) (hms : slots1 ≤ ms1) : vx_W p l e R s m args below meth c H1 locs1 cells1 slots1 (vx_MQ below Qc (xX D pe' ws0 A) args s mc1 ms1 A) (F0 m pc ls rest) q9 := by
  subst hw
  subst ht
  exact vx_out (fun x hx => (hout x hx).elim) hlocks h1 h2 h3 (fun t' ht' hal => ⟨(), trivial, ⟨hpe hB.1, by rw [ht']; exact hB.2.1, hD⟩, hS1.F ht'⟩) (fun z hz => hS1.2.2 z hz) hmc hms
theorem kx_i {post : Int32 → S → Prop} {pe pe' : String → Prop} {ws0 : va_W} {a : Array Value} {mc1 ms1 : Nat} (hr : vx_Run p l e R s m args below meth c H locs cells slots mc ms (F0 m pc ls st0) rest (va_Qi post (bW D (va_A wc H.size) Wf) (va_A wc H.size) a) (xX D pe wc (va_A wc H.size)) (va_A wc H.size)) (hD : va_D A wc) (hS : va_S A s.heap H locs) (hA : ∀ q, s.heap.size ≤ q → A q) (hw : wc = ws0) (hpe : ∀ E, pe E → pe' E) (hout : ∀ x ∈ c.exceptionTable.toList, False) (hlocks : meth.locks = false) (hmc : cells + mc ≤ mc1) (hms : slots + ms ≤ ms1) (kk : ∀ (r : Int32) (u : S) (H1 : Heap) (locs1 : List Loc), post r u → va_P D vwCl (Wf u) H1 → va_D A (Wf u) → va_S A s.heap H1 locs1 → W p l e R s m args below meth c H1 locs1 (cells + mc) (slots + ms) (vx_MQ below Qc (xX D pe' ws0 A) args s mc1 ms1 A) (F0 m (pc + 3) ls (.int r :: rest))) : W p l e R s m args below meth c H locs cells slots (vx_MQ below Qc (xX D pe' ws0 A) args s mc1 ms1 A) (F0 m pc ls st0) :=
  vx_calli hr hS (fun q _ h => free_all hD hS hA q h) (free_all hD hS hA) (fun q _ h => free_all hD hS hA q h) (fun E ce q9 u t H1 locs1 ht _ _ hB _ _ hS1 h1 h2 h3 => kx_thru (H := H) hD hw (hpe E) hout hlocks ht hB hS1 h1 h2 h3 hmc hms) (fun r u t H1 locs1 ht _ hp hB _ _ hS1 => kk r u H1 locs1 hp (ht ▸ hB.1) (hB.2.weaken (fun _ q _ h => free_all hD hS hA q.1 h)) hS1)
theorem kx_v {post : S → Prop} {pe pe' : String → Prop} {ws0 : va_W} {a : Array Value} {mc1 ms1 : Nat} (hr : vx_Run p l e R s m args below meth c H locs cells slots mc ms (F0 m pc ls st0) rest (va_Qv post (bW D (va_A wc H.size) Wf) (va_A wc H.size) a) (xX D pe wc (va_A wc H.size)) (va_A wc H.size)) (hD : va_D A wc) (hS : va_S A s.heap H locs) (hA : ∀ q, s.heap.size ≤ q → A q) (hw : wc = ws0) (hpe : ∀ E, pe E → pe' E) (hout : ∀ x ∈ c.exceptionTable.toList, False) (hlocks : meth.locks = false) (hmc : cells + mc ≤ mc1) (hms : slots + ms ≤ ms1) (kk : ∀ (u : S) (H1 : Heap) (locs1 : List Loc), post u → va_P D vwCl (Wf u) H1 → va_D A (Wf u) → va_S A s.heap H1 locs1 → W p l e R s m args below meth c H1 locs1 (cells + mc) (slots + ms) (vx_MQ below Qc (xX D pe' ws0 A) args s mc1 ms1 A) (F0 m (pc + 3) ls rest)) : W p l e R s m args below meth c H locs cells slots (vx_MQ below Qc (xX D pe' ws0 A) args s mc1 ms1 A) (F0 m pc ls st0) :=
  vx_callv hr hS (fun q _ h => free_all hD hS hA q h) (free_all hD hS hA) (fun q _ h => free_all hD hS hA q h) (fun E ce q9 u t H1 locs1 ht _ _ hB _ _ hS1 h1 h2 h3 => kx_thru (H := H) hD hw (hpe E) hout hlocks ht hB hS1 h1 h2 h3 hmc hms) (fun u t H1 locs1 ht _ hp hB _ _ hS1 => kk u H1 locs1 hp (ht ▸ hB.1) (hB.2.weaken (fun _ q _ h => free_all hD hS hA q.1 h)) hS1)
/-- throw new E("text"), the world as it was at the entry -/
theorem k_throw (hx : p.tables.exec = Jvm.exec) (hb : c.code = cc) (hl : l.stackTraces = false) {cls text : String} {ik is ic mc1 ms1 : Nat} {pe : String → Prop} {ws0 : va_W} (hown : s.vm.findClass RX0 = some m.cls) (hcls : Bundle.fit cls = true) (hk : (Cond.classLink RX0 ik cls).before args s = true) (hini : (Cond.initialized cls).before args s = true) (hstr : ∃ a, vk_R RX0 is text a s) (hat : ∀ w ∈ vx_atS RX0 ic cls ["java/lang/RuntimeException", "java/lang/Exception"], w.before args s = true) (hgood : ∀ w ∈ Cond.classLink RX0 ik cls :: Cond.initialized cls :: vx_atS RX0 ic cls ["java/lang/RuntimeException", "java/lang/Exception"], vx_ot w = true) (hZ : zz A s s.heap) (hS : va_S A s.heap H locs) (hsize : ls.size = c.maxLocals) (d0 : decode cc pc = .ok (.new ik, 3)) (d3 : decode cc (pc + 3) = .ok (.dup, 1)) (d4 : decode cc (pc + 4) = .ok (.ldc is, 2)) (d6 : decode cc (pc + 6) = .ok (.invokespecial ic, 3)) (d9 : decode cc (pc + 9) = .ok (.athrow, 1)) (hout : ∀ x ∈ c.exceptionTable.toList, False) (hRframes : 5 < R.frames) (hRlocals : (rest.map fun v => v.category).sum + 82 ≤ R.locals) (hRcells : cells + 1 ≤ R.cells) (hRslots : slots + 6 ≤ R.slots) (hlocks : meth.locks = false) (hP : va_P D vwCl ws0 H) (hD : va_D A ws0) (hpe : pe cls) (hmc : cells + 1 ≤ mc1) (hms : slots + 6 ≤ ms1) : W p l e R s m args below meth c H locs cells slots (vx_MQ below Qc (xX D pe ws0 A) args s mc1 ms1 A) (F0 m pc ls rest) := by
  obtain ⟨sa, hstr⟩ := hstr
  refine vx_throwS hx hb hl hown hcls (names := ["java/lang/RuntimeException", "java/lang/Exception"]) (by decide +kernel) hk hini hstr hat hgood hZ.1 hZ.2 hS hsize d0 d3 d4 d6 d9 (fun x hx => (hout x hx).elim) hRframes hRlocals hRcells hRslots hlocks (fun t hal hsz hq => ⟨(), trivial, ⟨hpe, hP.kept (fun k q hk => hq q.1 (hP k q hk).lt), hD⟩, Nat.le_trans hS.1 hsz, fun q h1 h2 => (hq q (Nat.lt_of_lt_of_le h1 hS.1)).trans (hS.2.1 q h1 h2)⟩) (fun z hz => hS.2.2 z hz) hmc hms
/-- the words of a throw -/
theorem k_hat {ic : Nat} {cls : String} (h1 : ∀ w ∈ (vx_atS RX0 ic cls ["java/lang/RuntimeException", "java/lang/Exception"]).filter goodWord, w.before args s = true) (h2 : ∀ w ∈ (vx_atS RX0 ic cls ["java/lang/RuntimeException", "java/lang/Exception"]).filter (fun w => !goodWord w), w ∈ ([.castable cls cls, .declares iRE, .declares iEX, .declares iTH] : List Cond)) (h3 : va_Nw (.castable cls cls) s) (hg : gg s) : ∀ w ∈ vx_atS RX0 ic cls ["java/lang/RuntimeException", "java/lang/Exception"], w.before args s = true :=
  vx_hat h1 h2 (vx_c (h3.use rfl) (vx_c (hg.2.2.2.2.1.use rfl) (vx_c (hg.2.2.2.2.2.1.use rfl) (vx_c (hg.2.2.2.2.2.2.use rfl) vx_n))))
/-- ends -/
theorem e_i {post : Int32 → S → Prop} {mc1 ms1 : Nat} {v : Int32} (u : S) (hx : p.tables.exec = Jvm.exec) (hb : c.code = cc) (hr : meth.sig.returnType = some .int) (hlocks : meth.locks = false) (hS : va_S A s.heap H locs) (hP : va_P D vwCl (Wf u) H) (hD : va_D A (Wf u)) (hp : post v u) (hc : cells ≤ mc1) (hs : slots ≤ ms1) (hd : decode cc pc = .ok (.ireturn, 1)) : W p l e R s m args below meth c H locs cells slots (MQ below (va_Qi post (bW D A Wf) A) args s mc1 ms1 A) (F0 m pc ls [.int v]) :=
  W.widen hc hs (W.iret hx hb hr (fun t ht _ => ⟨⟨v, u, rfl, hp, ⟨by rw [ht]; exact hP, hD⟩⟩, hS.F ht⟩) hS.2.2 hd hlocks)
theorem e_z {post : Int32 → S → Prop} {mc1 ms1 : Nat} {v : Nat} (u : S) (hx : p.tables.exec = Jvm.exec) (hb : c.code = cc) (hr : meth.sig.returnType = some .boolean) (hlocks : meth.locks = false) (hS : va_S A s.heap H locs) (hv : v ≤ 1) (hP : va_P D vwCl (Wf u) H) (hD : va_D A (Wf u)) (hp : post (nI v) u) (hc : cells ≤ mc1) (hs : slots ≤ ms1) (hd : decode cc pc = .ok (.ireturn, 1)) : W p l e R s m args below meth c H locs cells slots (MQ below (va_Qi post (bW D A Wf) A) args s mc1 ms1 A) (F0 m pc ls [.int (nI v)]) :=
  W.widen hc hs (W.zret hx hb hr (by have h : v = 0 ∨ v = 1 := by omega
                                     rcases h with rfl | rfl <;> rfl) (fun t ht _ => ⟨⟨nI v, u, rfl, hp, ⟨by rw [ht]; exact hP, hD⟩⟩, hS.F ht⟩) hS.2.2 hd hlocks)
theorem e_l {post : Int64 → S → Prop} {mc1 ms1 : Nat} {v : Int64} (u : S) (hx : p.tables.exec = Jvm.exec) (hb : c.code = cc) (hr : meth.sig.returnType = some .long) (hlocks : meth.locks = false) (hS : va_S A s.heap H locs) (hP : va_P D vwCl (Wf u) H) (hD : va_D A (Wf u)) (hp : post v u) (hc : cells ≤ mc1) (hs : slots ≤ ms1) (hd : decode cc pc = .ok (.lreturn, 1)) : W p l e R s m args below meth c H locs cells slots (MQ below (va_Ql post (bW D A Wf) A) args s mc1 ms1 A) (F0 m pc ls [.long v]) :=
  W.widen hc hs (W.lret hx hb hr (fun t ht _ => ⟨⟨v, u, rfl, hp, ⟨by rw [ht]; exact hP, hD⟩⟩, hS.F ht⟩) hS.2.2 hd hlocks)
theorem e_v {post : S → Prop} {mc1 ms1 : Nat} (u : S) (hx : p.tables.exec = Jvm.exec) (hb : c.code = cc) (hr : meth.sig.returnType = none) (hlocks : meth.locks = false) (hS : va_S A s.heap H locs) (hP : va_P D vwCl (Wf u) H) (hD : va_D A (Wf u)) (hp : post u) (hc : cells ≤ mc1) (hs : slots ≤ ms1) (hd : decode cc pc = .ok (.return_, 1)) : W p l e R s m args below meth c H locs cells slots (MQ below (va_Qv post (bW D A Wf) A) args s mc1 ms1 A) (F0 m pc ls []) :=
  W.widen hc hs (W.vret hx hb hr (fun t ht _ => ⟨⟨u, rfl, hp, ⟨by rw [ht]; exact hP, hD⟩⟩, hS.F ht⟩) hS.2.2 hd hlocks)
end KC
/-! the worlds -/
abbrev ty3 (cI cZ cJ : ClassId) : List (ClassId × FieldType) := [(cI, .int), (cZ, .boolean), (cJ, .long)]
abbrev wX (q : Nat → Nat) (cI cZ cJ : ClassId) (k : Nat) (V C T B P A : Nat → Nat) (n : Nat) (PR ST : Nat → Nat) (li w : Nat) (WK : Nat → Nat) (so sp : Nat) (CT : Nat → Int64) (SC : Nat → Int) (TA : Nat → Nat) : va_W :=
  [(q 0, .inr (0, [.int (nI k), .ref (q 1), .ref (q 2), .ref (q 3), .ref (q 4), .ref (q 5), .ref (q 6), .int (nI n), .ref (q 8), .ref (q 9), .int (nI li), .int (nI w), .ref (q 12), .int (nI so), .int (nI sp), .ref (q 15), .ref (q 16), .ref (q 17)])),
   (q 1, .inl (cI, 8, .inl (rI V))), (q 2, .inl (cI, 8, .inl (rI C))), (q 3, .inl (cI, 8, .inl (rI T))), (q 4, .inl (cI, 8, .inl (rI B))), (q 5, .inl (cI, 8, .inl (rI P))), (q 6, .inl (cZ, 8, .inl (rI A))),
   (q 8, .inl (cI, 10, .inl (rI PR))), (q 9, .inl (cI, 10, .inl (rI ST))), (q 12, .inl (cI, 12, .inl (rI WK))), (q 15, .inl (cJ, 10, .inr (.inl CT))), (q 16, .inl (cJ, 2001, .inr (.inl (rL SC)))), (q 17, .inl (cI, 8, .inl (rI TA)))]
abbrev wM (q : Nat → Nat) (cI cZ cJ : ClassId) (th k : Nat) (V C A T B P OR : Nat → Nat) (n : Nat) (PR ST : Nat → Nat) (li w : Nat) (WK : Nat → Nat) (so sp : Nat) (CT : Nat → Int64) (FW : Nat → Nat) : va_W :=
  [(q 0, .inr (1, [.int (nI th), .int (nI k), .ref (q 2), .ref (q 3), .ref (q 4), .ref (q 5), .ref (q 6), .ref (q 7), .ref (q 8), .int (nI n), .ref (q 10), .ref (q 11), .int (nI li), .int (nI w), .ref (q 14), .int (nI so), .int (nI sp), .ref (q 17), .ref (q 18)])),
   (q 2, .inl (cI, 8, .inl (rI V))), (q 3, .inl (cI, 8, .inl (rI C))), (q 4, .inl (cZ, 8, .inl (rI A))), (q 5, .inl (cI, 8, .inl (rI T))), (q 6, .inl (cI, 8, .inl (rI B))), (q 7, .inl (cI, 8, .inl (rI P))), (q 8, .inl (cI, 8, .inl (rI OR))),
   (q 10, .inl (cI, 10, .inl (rI PR))), (q 11, .inl (cI, 10, .inl (rI ST))), (q 14, .inl (cI, 12, .inl (rI WK))), (q 17, .inl (cJ, 10, .inr (.inl CT))), (q 18, .inl (cI, 18009, .inl (rI FW)))]
end
section
theorem dX0_init_0 : decode cX0_init 0 = .ok (.aload_n 0, 1) := by decide +kernel
theorem dX0_init_1 : decode cX0_init 1 = .ok (.invokespecial 3, 3) := by decide +kernel
theorem dX0_init_4 : decode cX0_init 4 = .ok (.aload_n 0, 1) := by decide +kernel
theorem dX0_init_5 : decode cX0_init 5 = .ok (.iconst 0, 1) := by decide +kernel
theorem dX0_init_6 : decode cX0_init 6 = .ok (.putfield 9, 3) := by decide +kernel
theorem dX0_init_9 : decode cX0_init 9 = .ok (.aload_n 0, 1) := by decide +kernel
theorem dX0_init_10 : decode cX0_init 10 = .ok (.bipush 8, 2) := by decide +kernel
theorem dX0_init_12 : decode cX0_init 12 = .ok (.newarray .int, 2) := by decide +kernel
theorem dX0_init_14 : decode cX0_init 14 = .ok (.putfield 13, 3) := by decide +kernel
theorem dX0_init_17 : decode cX0_init 17 = .ok (.aload_n 0, 1) := by decide +kernel
theorem dX0_init_18 : decode cX0_init 18 = .ok (.bipush 8, 2) := by decide +kernel
theorem dX0_init_20 : decode cX0_init 20 = .ok (.newarray .int, 2) := by decide +kernel
theorem dX0_init_22 : decode cX0_init 22 = .ok (.putfield 17, 3) := by decide +kernel
theorem dX0_init_25 : decode cX0_init 25 = .ok (.aload_n 0, 1) := by decide +kernel
theorem dX0_init_26 : decode cX0_init 26 = .ok (.bipush 8, 2) := by decide +kernel
theorem dX0_init_28 : decode cX0_init 28 = .ok (.newarray .int, 2) := by decide +kernel
theorem dX0_init_30 : decode cX0_init 30 = .ok (.putfield 20, 3) := by decide +kernel
theorem dX0_init_33 : decode cX0_init 33 = .ok (.aload_n 0, 1) := by decide +kernel
theorem dX0_init_34 : decode cX0_init 34 = .ok (.bipush 8, 2) := by decide +kernel
theorem dX0_init_36 : decode cX0_init 36 = .ok (.newarray .int, 2) := by decide +kernel
theorem dX0_init_38 : decode cX0_init 38 = .ok (.putfield 23, 3) := by decide +kernel
theorem dX0_init_41 : decode cX0_init 41 = .ok (.aload_n 0, 1) := by decide +kernel
theorem dX0_init_42 : decode cX0_init 42 = .ok (.bipush 8, 2) := by decide +kernel
theorem dX0_init_44 : decode cX0_init 44 = .ok (.newarray .int, 2) := by decide +kernel
theorem dX0_init_46 : decode cX0_init 46 = .ok (.putfield 26, 3) := by decide +kernel
theorem dX0_init_49 : decode cX0_init 49 = .ok (.aload_n 0, 1) := by decide +kernel
theorem dX0_init_50 : decode cX0_init 50 = .ok (.bipush 8, 2) := by decide +kernel
theorem dX0_init_52 : decode cX0_init 52 = .ok (.newarray .boolean, 2) := by decide +kernel
theorem dX0_init_54 : decode cX0_init 54 = .ok (.putfield 29, 3) := by decide +kernel
theorem dX0_init_57 : decode cX0_init 57 = .ok (.aload_n 0, 1) := by decide +kernel
theorem dX0_init_58 : decode cX0_init 58 = .ok (.iconst 0, 1) := by decide +kernel
theorem dX0_init_59 : decode cX0_init 59 = .ok (.putfield 33, 3) := by decide +kernel
theorem dX0_init_62 : decode cX0_init 62 = .ok (.aload_n 0, 1) := by decide +kernel
theorem dX0_init_63 : decode cX0_init 63 = .ok (.bipush 10, 2) := by decide +kernel
theorem dX0_init_65 : decode cX0_init 65 = .ok (.newarray .int, 2) := by decide +kernel
theorem dX0_init_67 : decode cX0_init 67 = .ok (.putfield 36, 3) := by decide +kernel
theorem dX0_init_70 : decode cX0_init 70 = .ok (.aload_n 0, 1) := by decide +kernel
theorem dX0_init_71 : decode cX0_init 71 = .ok (.bipush 10, 2) := by decide +kernel
theorem dX0_init_73 : decode cX0_init 73 = .ok (.newarray .int, 2) := by decide +kernel
theorem dX0_init_75 : decode cX0_init 75 = .ok (.putfield 39, 3) := by decide +kernel
theorem dX0_init_78 : decode cX0_init 78 = .ok (.aload_n 0, 1) := by decide +kernel
theorem dX0_init_79 : decode cX0_init 79 = .ok (.sipush 1000, 3) := by decide +kernel
theorem dX0_init_82 : decode cX0_init 82 = .ok (.putfield 42, 3) := by decide +kernel
theorem dX0_init_85 : decode cX0_init 85 = .ok (.aload_n 0, 1) := by decide +kernel
theorem dX0_init_86 : decode cX0_init 86 = .ok (.iconst 0, 1) := by decide +kernel
theorem dX0_init_87 : decode cX0_init 87 = .ok (.putfield 45, 3) := by decide +kernel
theorem dX0_init_90 : decode cX0_init 90 = .ok (.aload_n 0, 1) := by decide +kernel
theorem dX0_init_91 : decode cX0_init 91 = .ok (.bipush 12, 2) := by decide +kernel
theorem dX0_init_93 : decode cX0_init 93 = .ok (.newarray .int, 2) := by decide +kernel
theorem dX0_init_95 : decode cX0_init 95 = .ok (.putfield 48, 3) := by decide +kernel
theorem dX0_init_98 : decode cX0_init 98 = .ok (.aload_n 0, 1) := by decide +kernel
theorem dX0_init_99 : decode cX0_init 99 = .ok (.iconst (-1), 1) := by decide +kernel
theorem dX0_init_100 : decode cX0_init 100 = .ok (.putfield 51, 3) := by decide +kernel
theorem dX0_init_103 : decode cX0_init 103 = .ok (.aload_n 0, 1) := by decide +kernel
theorem dX0_init_104 : decode cX0_init 104 = .ok (.iconst 0, 1) := by decide +kernel
theorem dX0_init_105 : decode cX0_init 105 = .ok (.putfield 54, 3) := by decide +kernel
theorem dX0_init_108 : decode cX0_init 108 = .ok (.aload_n 0, 1) := by decide +kernel
theorem dX0_init_109 : decode cX0_init 109 = .ok (.bipush 10, 2) := by decide +kernel
theorem dX0_init_111 : decode cX0_init 111 = .ok (.newarray .long, 2) := by decide +kernel
theorem dX0_init_113 : decode cX0_init 113 = .ok (.putfield 57, 3) := by decide +kernel
theorem dX0_init_116 : decode cX0_init 116 = .ok (.aload_n 0, 1) := by decide +kernel
theorem dX0_init_117 : decode cX0_init 117 = .ok (.sipush 2001, 3) := by decide +kernel
theorem dX0_init_120 : decode cX0_init 120 = .ok (.newarray .long, 2) := by decide +kernel
theorem dX0_init_122 : decode cX0_init 122 = .ok (.putfield 61, 3) := by decide +kernel
theorem dX0_init_125 : decode cX0_init 125 = .ok (.aload_n 0, 1) := by decide +kernel
theorem dX0_init_126 : decode cX0_init 126 = .ok (.bipush 8, 2) := by decide +kernel
theorem dX0_init_128 : decode cX0_init 128 = .ok (.newarray .int, 2) := by decide +kernel
theorem dX0_init_130 : decode cX0_init 130 = .ok (.putfield 64, 3) := by decide +kernel
theorem dX0_init_133 : decode cX0_init 133 = .ok (.return_, 1) := by decide +kernel
set_option maxRecDepth 20000 in
theorem ggX0_addKind_X0_hasKindOfValue : GoodIn wsX0_addKind wsX0_hasKindOfValue := goodIn_r _ [13, 5, 6, 14, 15, 16, 17, 18, 19, 20, 21, 22, 23, 24, 25, 26, 27, 28, 29, 30, 31] (by decide +kernel) (by decide +kernel)
set_option maxRecDepth 20000 in
theorem gX0_addKind_X0_hasKindOfValue : GoodIn wsX0_addKind (wsV RX0 81 RX0 yX0_hasKindOfValue wsX0_hasKindOfValue) := goodIn_app (goodIn_of _ (by decide +kernel)) ggX0_addKind_X0_hasKindOfValue
theorem dX0_addKind_0 : decode cX0_addKind 0 = .ok (.iload_n 1, 1) := by decide +kernel
theorem dX0_addKind_1 : decode cX0_addKind 1 = .ok (.iconst 1, 1) := by decide +kernel
theorem dX0_addKind_2 : decode cX0_addKind 2 = .ok (.if_icmp .lt 10, 3) := by decide +kernel
theorem dX0_addKind_5 : decode cX0_addKind 5 = .ok (.iload_n 1, 1) := by decide +kernel
theorem dX0_addKind_6 : decode cX0_addKind 6 = .ok (.sipush 500, 3) := by decide +kernel
theorem dX0_addKind_9 : decode cX0_addKind 9 = .ok (.if_icmp .le 13, 3) := by decide +kernel
theorem dX0_addKind_12 : decode cX0_addKind 12 = .ok (.new 67, 3) := by decide +kernel
theorem dX0_addKind_15 : decode cX0_addKind 15 = .ok (.dup, 1) := by decide +kernel
theorem dX0_addKind_16 : decode cX0_addKind 16 = .ok (.ldc 69, 2) := by decide +kernel
theorem dX0_addKind_18 : decode cX0_addKind 18 = .ok (.invokespecial 71, 3) := by decide +kernel
theorem dX0_addKind_21 : decode cX0_addKind 21 = .ok (.athrow, 1) := by decide +kernel
theorem dX0_addKind_22 : decode cX0_addKind 22 = .ok (.iload_n 2, 1) := by decide +kernel
theorem dX0_addKind_23 : decode cX0_addKind 23 = .ok (.ifCond .lt 9, 3) := by decide +kernel
theorem dX0_addKind_26 : decode cX0_addKind 26 = .ok (.iload_n 2, 1) := by decide +kernel
theorem dX0_addKind_27 : decode cX0_addKind 27 = .ok (.bipush 60, 2) := by decide +kernel
theorem dX0_addKind_29 : decode cX0_addKind 29 = .ok (.if_icmp .le 13, 3) := by decide +kernel
theorem dX0_addKind_32 : decode cX0_addKind 32 = .ok (.new 67, 3) := by decide +kernel
theorem dX0_addKind_35 : decode cX0_addKind 35 = .ok (.dup, 1) := by decide +kernel
theorem dX0_addKind_36 : decode cX0_addKind 36 = .ok (.ldc 74, 2) := by decide +kernel
theorem dX0_addKind_38 : decode cX0_addKind 38 = .ok (.invokespecial 71, 3) := by decide +kernel
theorem dX0_addKind_41 : decode cX0_addKind 41 = .ok (.athrow, 1) := by decide +kernel
theorem dX0_addKind_42 : decode cX0_addKind 42 = .ok (.aload_n 0, 1) := by decide +kernel
theorem dX0_addKind_43 : decode cX0_addKind 43 = .ok (.getfield 9, 3) := by decide +kernel
theorem dX0_addKind_46 : decode cX0_addKind 46 = .ok (.bipush 8, 2) := by decide +kernel
theorem dX0_addKind_48 : decode cX0_addKind 48 = .ok (.if_icmp .lt 13, 3) := by decide +kernel
theorem dX0_addKind_51 : decode cX0_addKind 51 = .ok (.new 76, 3) := by decide +kernel
theorem dX0_addKind_54 : decode cX0_addKind 54 = .ok (.dup, 1) := by decide +kernel
theorem dX0_addKind_55 : decode cX0_addKind 55 = .ok (.ldc 78, 2) := by decide +kernel
theorem dX0_addKind_57 : decode cX0_addKind 57 = .ok (.invokespecial 80, 3) := by decide +kernel
theorem dX0_addKind_60 : decode cX0_addKind 60 = .ok (.athrow, 1) := by decide +kernel
theorem dX0_addKind_61 : decode cX0_addKind 61 = .ok (.aload_n 0, 1) := by decide +kernel
theorem dX0_addKind_62 : decode cX0_addKind 62 = .ok (.iload_n 1, 1) := by decide +kernel
theorem dX0_addKind_63 : decode cX0_addKind 63 = .ok (.invokevirtual 81, 3) := by decide +kernel
theorem dX0_addKind_66 : decode cX0_addKind 66 = .ok (.ifCond .eq 13, 3) := by decide +kernel
theorem dX0_addKind_69 : decode cX0_addKind 69 = .ok (.new 76, 3) := by decide +kernel
theorem dX0_addKind_72 : decode cX0_addKind 72 = .ok (.dup, 1) := by decide +kernel
theorem dX0_addKind_73 : decode cX0_addKind 73 = .ok (.ldc 85, 2) := by decide +kernel
theorem dX0_addKind_75 : decode cX0_addKind 75 = .ok (.invokespecial 80, 3) := by decide +kernel
theorem dX0_addKind_78 : decode cX0_addKind 78 = .ok (.athrow, 1) := by decide +kernel
theorem dX0_addKind_79 : decode cX0_addKind 79 = .ok (.aload_n 0, 1) := by decide +kernel
theorem dX0_addKind_80 : decode cX0_addKind 80 = .ok (.getfield 13, 3) := by decide +kernel
theorem dX0_addKind_83 : decode cX0_addKind 83 = .ok (.aload_n 0, 1) := by decide +kernel
theorem dX0_addKind_84 : decode cX0_addKind 84 = .ok (.getfield 9, 3) := by decide +kernel
theorem dX0_addKind_87 : decode cX0_addKind 87 = .ok (.iload_n 1, 1) := by decide +kernel
theorem dX0_addKind_88 : decode cX0_addKind 88 = .ok (.iastore, 1) := by decide +kernel
theorem dX0_addKind_89 : decode cX0_addKind 89 = .ok (.aload_n 0, 1) := by decide +kernel
theorem dX0_addKind_90 : decode cX0_addKind 90 = .ok (.getfield 17, 3) := by decide +kernel
theorem dX0_addKind_93 : decode cX0_addKind 93 = .ok (.aload_n 0, 1) := by decide +kernel
theorem dX0_addKind_94 : decode cX0_addKind 94 = .ok (.getfield 9, 3) := by decide +kernel
theorem dX0_addKind_97 : decode cX0_addKind 97 = .ok (.iload_n 2, 1) := by decide +kernel
theorem dX0_addKind_98 : decode cX0_addKind 98 = .ok (.iastore, 1) := by decide +kernel
theorem dX0_addKind_99 : decode cX0_addKind 99 = .ok (.aload_n 0, 1) := by decide +kernel
theorem dX0_addKind_100 : decode cX0_addKind 100 = .ok (.getfield 29, 3) := by decide +kernel
theorem dX0_addKind_103 : decode cX0_addKind 103 = .ok (.aload_n 0, 1) := by decide +kernel
theorem dX0_addKind_104 : decode cX0_addKind 104 = .ok (.getfield 9, 3) := by decide +kernel
theorem dX0_addKind_107 : decode cX0_addKind 107 = .ok (.iconst 1, 1) := by decide +kernel
theorem dX0_addKind_108 : decode cX0_addKind 108 = .ok (.bastore, 1) := by decide +kernel
theorem dX0_addKind_109 : decode cX0_addKind 109 = .ok (.aload_n 0, 1) := by decide +kernel
theorem dX0_addKind_110 : decode cX0_addKind 110 = .ok (.dup, 1) := by decide +kernel
theorem dX0_addKind_111 : decode cX0_addKind 111 = .ok (.getfield 9, 3) := by decide +kernel
theorem dX0_addKind_114 : decode cX0_addKind 114 = .ok (.iconst 1, 1) := by decide +kernel
theorem dX0_addKind_115 : decode cX0_addKind 115 = .ok (.iadd, 1) := by decide +kernel
theorem dX0_addKind_116 : decode cX0_addKind 116 = .ok (.putfield 9, 3) := by decide +kernel
theorem dX0_addKind_119 : decode cX0_addKind 119 = .ok (.aload_n 0, 1) := by decide +kernel
theorem dX0_addKind_120 : decode cX0_addKind 120 = .ok (.getfield 9, 3) := by decide +kernel
theorem dX0_addKind_123 : decode cX0_addKind 123 = .ok (.iconst 1, 1) := by decide +kernel
theorem dX0_addKind_124 : decode cX0_addKind 124 = .ok (.isub, 1) := by decide +kernel
theorem dX0_addKind_125 : decode cX0_addKind 125 = .ok (.ireturn, 1) := by decide +kernel
set_option maxRecDepth 20000 in
theorem ggX0_fill_X0_checkKind : GoodIn wsX0_fill wsX0_checkKind := goodIn_ca (goodIn_r _ [13, 14, 15, 16, 22, 23, 24, 25, 26, 27, 28, 29, 30, 31, 32, 33, 34, 35, 36, 37, 38, 39] (by decide +kernel) (by decide +kernel)) (goodIn_sub (fun _ h => List.mem_cons_of_mem _ (List.mem_append_left _ (List.mem_append_right _ h))) (by decide +kernel))
set_option maxRecDepth 20000 in
theorem gX0_fill_X0_checkKind : GoodIn wsX0_fill (wsV RX0 87 RX0 yX0_checkKind wsX0_checkKind) := goodIn_app (goodIn_of _ (by decide +kernel)) ggX0_fill_X0_checkKind
set_option maxRecDepth 20000 in
theorem ggX0_fill_X0_checkMany : GoodIn wsX0_fill wsX0_checkMany := goodIn_ca (goodIn_r _ [19, 20, 21] (by decide +kernel) (by decide +kernel)) (goodIn_sub (fun _ h => List.mem_cons_of_mem _ (List.mem_append_right _ h)) (by decide +kernel))
set_option maxRecDepth 20000 in
theorem gX0_fill_X0_checkMany : GoodIn wsX0_fill (va_wsS RX0 91 yX0_checkMany wsX0_checkMany) := goodIn_app (goodIn_of _ (by decide +kernel)) ggX0_fill_X0_checkMany
theorem dX0_fill_0 : decode cX0_fill 0 = .ok (.aload_n 0, 1) := by decide +kernel
theorem dX0_fill_1 : decode cX0_fill 1 = .ok (.iload_n 1, 1) := by decide +kernel
theorem dX0_fill_2 : decode cX0_fill 2 = .ok (.invokevirtual 87, 3) := by decide +kernel
theorem dX0_fill_5 : decode cX0_fill 5 = .ok (.iload_n 2, 1) := by decide +kernel
theorem dX0_fill_6 : decode cX0_fill 6 = .ok (.invokestatic 91, 3) := by decide +kernel
theorem dX0_fill_9 : decode cX0_fill 9 = .ok (.iload_n 2, 1) := by decide +kernel
theorem dX0_fill_10 : decode cX0_fill 10 = .ok (.aload_n 0, 1) := by decide +kernel
theorem dX0_fill_11 : decode cX0_fill 11 = .ok (.getfield 17, 3) := by decide +kernel
theorem dX0_fill_14 : decode cX0_fill 14 = .ok (.iload_n 1, 1) := by decide +kernel
theorem dX0_fill_15 : decode cX0_fill 15 = .ok (.iaload, 1) := by decide +kernel
theorem dX0_fill_16 : decode cX0_fill 16 = .ok (.aload_n 0, 1) := by decide +kernel
theorem dX0_fill_17 : decode cX0_fill 17 = .ok (.getfield 20, 3) := by decide +kernel
theorem dX0_fill_20 : decode cX0_fill 20 = .ok (.iload_n 1, 1) := by decide +kernel
theorem dX0_fill_21 : decode cX0_fill 21 = .ok (.iaload, 1) := by decide +kernel
theorem dX0_fill_22 : decode cX0_fill 22 = .ok (.isub, 1) := by decide +kernel
theorem dX0_fill_23 : decode cX0_fill 23 = .ok (.invokestatic 94, 3) := by decide +kernel
theorem dX0_fill_26 : decode cX0_fill 26 = .ok (.istore_n 3, 1) := by decide +kernel
theorem dX0_fill_27 : decode cX0_fill 27 = .ok (.aload_n 0, 1) := by decide +kernel
theorem dX0_fill_28 : decode cX0_fill 28 = .ok (.getfield 20, 3) := by decide +kernel
theorem dX0_fill_31 : decode cX0_fill 31 = .ok (.iload_n 1, 1) := by decide +kernel
theorem dX0_fill_32 : decode cX0_fill 32 = .ok (.dup2, 1) := by decide +kernel
theorem dX0_fill_33 : decode cX0_fill 33 = .ok (.iaload, 1) := by decide +kernel
theorem dX0_fill_34 : decode cX0_fill 34 = .ok (.iload_n 3, 1) := by decide +kernel
theorem dX0_fill_35 : decode cX0_fill 35 = .ok (.iadd, 1) := by decide +kernel
theorem dX0_fill_36 : decode cX0_fill 36 = .ok (.iastore, 1) := by decide +kernel
theorem dX0_fill_37 : decode cX0_fill 37 = .ok (.aload_n 0, 1) := by decide +kernel
theorem dX0_fill_38 : decode cX0_fill 38 = .ok (.getfield 57, 3) := by decide +kernel
theorem dX0_fill_41 : decode cX0_fill 41 = .ok (.iconst 4, 1) := by decide +kernel
theorem dX0_fill_42 : decode cX0_fill 42 = .ok (.dup2, 1) := by decide +kernel
theorem dX0_fill_43 : decode cX0_fill 43 = .ok (.laload, 1) := by decide +kernel
theorem dX0_fill_44 : decode cX0_fill 44 = .ok (.iload_n 3, 1) := by decide +kernel
theorem dX0_fill_45 : decode cX0_fill 45 = .ok (.aload_n 0, 1) := by decide +kernel
theorem dX0_fill_46 : decode cX0_fill 46 = .ok (.getfield 13, 3) := by decide +kernel
theorem dX0_fill_49 : decode cX0_fill 49 = .ok (.iload_n 1, 1) := by decide +kernel
theorem dX0_fill_50 : decode cX0_fill 50 = .ok (.iaload, 1) := by decide +kernel
theorem dX0_fill_51 : decode cX0_fill 51 = .ok (.imul, 1) := by decide +kernel
theorem dX0_fill_52 : decode cX0_fill 52 = .ok (.i2l, 1) := by decide +kernel
theorem dX0_fill_53 : decode cX0_fill 53 = .ok (.ladd, 1) := by decide +kernel
theorem dX0_fill_54 : decode cX0_fill 54 = .ok (.lastore, 1) := by decide +kernel
theorem dX0_fill_55 : decode cX0_fill 55 = .ok (.iload_n 2, 1) := by decide +kernel
theorem dX0_fill_56 : decode cX0_fill 56 = .ok (.iload_n 3, 1) := by decide +kernel
theorem dX0_fill_57 : decode cX0_fill 57 = .ok (.isub, 1) := by decide +kernel
theorem dX0_fill_58 : decode cX0_fill 58 = .ok (.ireturn, 1) := by decide +kernel
set_option maxRecDepth 20000 in
theorem ggX0_take_X0_checkKind : GoodIn wsX0_take wsX0_checkKind := goodIn_ca (goodIn_r _ [12, 13, 14, 15, 21, 22, 23, 24, 25, 26, 27, 28, 29, 30, 31, 32, 33, 34, 35, 36, 37, 38] (by decide +kernel) (by decide +kernel)) (goodIn_sub (fun _ h => List.mem_cons_of_mem _ (List.mem_append_left _ (List.mem_append_right _ h))) (by decide +kernel))
set_option maxRecDepth 20000 in
theorem gX0_take_X0_checkKind : GoodIn wsX0_take (wsV RX0 87 RX0 yX0_checkKind wsX0_checkKind) := goodIn_app (goodIn_of _ (by decide +kernel)) ggX0_take_X0_checkKind
set_option maxRecDepth 20000 in
theorem ggX0_take_X0_checkMany : GoodIn wsX0_take wsX0_checkMany := goodIn_ca (goodIn_r _ [18, 19, 20] (by decide +kernel) (by decide +kernel)) (goodIn_sub (fun _ h => List.mem_cons_of_mem _ (List.mem_append_right _ h)) (by decide +kernel))
set_option maxRecDepth 20000 in
theorem gX0_take_X0_checkMany : GoodIn wsX0_take (va_wsS RX0 91 yX0_checkMany wsX0_checkMany) := goodIn_app (goodIn_of _ (by decide +kernel)) ggX0_take_X0_checkMany
theorem dX0_take_0 : decode cX0_take 0 = .ok (.aload_n 0, 1) := by decide +kernel
theorem dX0_take_1 : decode cX0_take 1 = .ok (.iload_n 1, 1) := by decide +kernel
theorem dX0_take_2 : decode cX0_take 2 = .ok (.invokevirtual 87, 3) := by decide +kernel
theorem dX0_take_5 : decode cX0_take 5 = .ok (.iload_n 2, 1) := by decide +kernel
theorem dX0_take_6 : decode cX0_take 6 = .ok (.invokestatic 91, 3) := by decide +kernel
theorem dX0_take_9 : decode cX0_take 9 = .ok (.iload_n 2, 1) := by decide +kernel
theorem dX0_take_10 : decode cX0_take 10 = .ok (.aload_n 0, 1) := by decide +kernel
theorem dX0_take_11 : decode cX0_take 11 = .ok (.getfield 20, 3) := by decide +kernel
theorem dX0_take_14 : decode cX0_take 14 = .ok (.iload_n 1, 1) := by decide +kernel
theorem dX0_take_15 : decode cX0_take 15 = .ok (.iaload, 1) := by decide +kernel
theorem dX0_take_16 : decode cX0_take 16 = .ok (.invokestatic 94, 3) := by decide +kernel
theorem dX0_take_19 : decode cX0_take 19 = .ok (.istore_n 3, 1) := by decide +kernel
theorem dX0_take_20 : decode cX0_take 20 = .ok (.aload_n 0, 1) := by decide +kernel
theorem dX0_take_21 : decode cX0_take 21 = .ok (.getfield 20, 3) := by decide +kernel
theorem dX0_take_24 : decode cX0_take 24 = .ok (.iload_n 1, 1) := by decide +kernel
theorem dX0_take_25 : decode cX0_take 25 = .ok (.dup2, 1) := by decide +kernel
theorem dX0_take_26 : decode cX0_take 26 = .ok (.iaload, 1) := by decide +kernel
theorem dX0_take_27 : decode cX0_take 27 = .ok (.iload_n 3, 1) := by decide +kernel
theorem dX0_take_28 : decode cX0_take 28 = .ok (.isub, 1) := by decide +kernel
theorem dX0_take_29 : decode cX0_take 29 = .ok (.iastore, 1) := by decide +kernel
theorem dX0_take_30 : decode cX0_take 30 = .ok (.aload_n 0, 1) := by decide +kernel
theorem dX0_take_31 : decode cX0_take 31 = .ok (.getfield 57, 3) := by decide +kernel
theorem dX0_take_34 : decode cX0_take 34 = .ok (.iconst 5, 1) := by decide +kernel
theorem dX0_take_35 : decode cX0_take 35 = .ok (.dup2, 1) := by decide +kernel
theorem dX0_take_36 : decode cX0_take 36 = .ok (.laload, 1) := by decide +kernel
theorem dX0_take_37 : decode cX0_take 37 = .ok (.iload_n 3, 1) := by decide +kernel
theorem dX0_take_38 : decode cX0_take 38 = .ok (.aload_n 0, 1) := by decide +kernel
theorem dX0_take_39 : decode cX0_take 39 = .ok (.getfield 13, 3) := by decide +kernel
theorem dX0_take_42 : decode cX0_take 42 = .ok (.iload_n 1, 1) := by decide +kernel
theorem dX0_take_43 : decode cX0_take 43 = .ok (.iaload, 1) := by decide +kernel
theorem dX0_take_44 : decode cX0_take 44 = .ok (.imul, 1) := by decide +kernel
theorem dX0_take_45 : decode cX0_take 45 = .ok (.i2l, 1) := by decide +kernel
theorem dX0_take_46 : decode cX0_take 46 = .ok (.ladd, 1) := by decide +kernel
theorem dX0_take_47 : decode cX0_take 47 = .ok (.lastore, 1) := by decide +kernel
theorem dX0_take_48 : decode cX0_take 48 = .ok (.iload_n 3, 1) := by decide +kernel
theorem dX0_take_49 : decode cX0_take 49 = .ok (.ireturn, 1) := by decide +kernel
theorem dX0_emptyBox_0 : decode cX0_emptyBox 0 = .ok (.iconst 0, 1) := by decide +kernel
theorem dX0_emptyBox_1 : decode cX0_emptyBox 1 = .ok (.istore_n 1, 1) := by decide +kernel
theorem dX0_emptyBox_2 : decode cX0_emptyBox 2 = .ok (.iconst 0, 1) := by decide +kernel
theorem dX0_emptyBox_3 : decode cX0_emptyBox 3 = .ok (.istore_n 2, 1) := by decide +kernel
theorem dX0_emptyBox_4 : decode cX0_emptyBox 4 = .ok (.iload_n 2, 1) := by decide +kernel
theorem dX0_emptyBox_5 : decode cX0_emptyBox 5 = .ok (.aload_n 0, 1) := by decide +kernel
theorem dX0_emptyBox_6 : decode cX0_emptyBox 6 = .ok (.getfield 9, 3) := by decide +kernel
theorem dX0_emptyBox_9 : decode cX0_emptyBox 9 = .ok (.if_icmp .ge 32, 3) := by decide +kernel
theorem dX0_emptyBox_12 : decode cX0_emptyBox 12 = .ok (.iload_n 1, 1) := by decide +kernel
theorem dX0_emptyBox_13 : decode cX0_emptyBox 13 = .ok (.aload_n 0, 1) := by decide +kernel
theorem dX0_emptyBox_14 : decode cX0_emptyBox 14 = .ok (.getfield 23, 3) := by decide +kernel
theorem dX0_emptyBox_17 : decode cX0_emptyBox 17 = .ok (.iload_n 2, 1) := by decide +kernel
theorem dX0_emptyBox_18 : decode cX0_emptyBox 18 = .ok (.iaload, 1) := by decide +kernel
theorem dX0_emptyBox_19 : decode cX0_emptyBox 19 = .ok (.aload_n 0, 1) := by decide +kernel
theorem dX0_emptyBox_20 : decode cX0_emptyBox 20 = .ok (.getfield 13, 3) := by decide +kernel
theorem dX0_emptyBox_23 : decode cX0_emptyBox 23 = .ok (.iload_n 2, 1) := by decide +kernel
theorem dX0_emptyBox_24 : decode cX0_emptyBox 24 = .ok (.iaload, 1) := by decide +kernel
theorem dX0_emptyBox_25 : decode cX0_emptyBox 25 = .ok (.imul, 1) := by decide +kernel
theorem dX0_emptyBox_26 : decode cX0_emptyBox 26 = .ok (.iadd, 1) := by decide +kernel
theorem dX0_emptyBox_27 : decode cX0_emptyBox 27 = .ok (.istore_n 1, 1) := by decide +kernel
theorem dX0_emptyBox_28 : decode cX0_emptyBox 28 = .ok (.aload_n 0, 1) := by decide +kernel
theorem dX0_emptyBox_29 : decode cX0_emptyBox 29 = .ok (.getfield 23, 3) := by decide +kernel
theorem dX0_emptyBox_32 : decode cX0_emptyBox 32 = .ok (.iload_n 2, 1) := by decide +kernel
theorem dX0_emptyBox_33 : decode cX0_emptyBox 33 = .ok (.iconst 0, 1) := by decide +kernel
theorem dX0_emptyBox_34 : decode cX0_emptyBox 34 = .ok (.iastore, 1) := by decide +kernel
theorem dX0_emptyBox_35 : decode cX0_emptyBox 35 = .ok (.iinc 2 1, 3) := by decide +kernel
theorem dX0_emptyBox_38 : decode cX0_emptyBox 38 = .ok (.goto (-34), 3) := by decide +kernel
theorem dX0_emptyBox_41 : decode cX0_emptyBox 41 = .ok (.aload_n 0, 1) := by decide +kernel
theorem dX0_emptyBox_42 : decode cX0_emptyBox 42 = .ok (.getfield 57, 3) := by decide +kernel
theorem dX0_emptyBox_45 : decode cX0_emptyBox 45 = .ok (.bipush 6, 2) := by decide +kernel
theorem dX0_emptyBox_47 : decode cX0_emptyBox 47 = .ok (.dup2, 1) := by decide +kernel
theorem dX0_emptyBox_48 : decode cX0_emptyBox 48 = .ok (.laload, 1) := by decide +kernel
theorem dX0_emptyBox_49 : decode cX0_emptyBox 49 = .ok (.iload_n 1, 1) := by decide +kernel
theorem dX0_emptyBox_50 : decode cX0_emptyBox 50 = .ok (.i2l, 1) := by decide +kernel
theorem dX0_emptyBox_51 : decode cX0_emptyBox 51 = .ok (.ladd, 1) := by decide +kernel
theorem dX0_emptyBox_52 : decode cX0_emptyBox 52 = .ok (.lastore, 1) := by decide +kernel
theorem dX0_emptyBox_53 : decode cX0_emptyBox 53 = .ok (.iload_n 1, 1) := by decide +kernel
theorem dX0_emptyBox_54 : decode cX0_emptyBox 54 = .ok (.ireturn, 1) := by decide +kernel
set_option maxRecDepth 20000 in
theorem ggX0_accept_X0_checkKind : GoodIn wsX0_accept wsX0_checkKind := goodIn_ca (goodIn_r _ [6, 7, 8, 9, 10, 11, 12, 13, 14, 15, 16, 17, 18, 19, 20, 21, 22, 23, 24, 25, 26, 27] (by decide +kernel) (by decide +kernel)) (goodIn_sub (fun _ h => List.mem_cons_of_mem _ (List.mem_append_right _ h)) (by decide +kernel))
set_option maxRecDepth 20000 in
theorem gX0_accept_X0_checkKind : GoodIn wsX0_accept (wsV RX0 87 RX0 yX0_checkKind wsX0_checkKind) := goodIn_app (goodIn_of _ (by decide +kernel)) ggX0_accept_X0_checkKind
theorem dX0_accept_0 : decode cX0_accept 0 = .ok (.aload_n 0, 1) := by decide +kernel
theorem dX0_accept_1 : decode cX0_accept 1 = .ok (.iload_n 1, 1) := by decide +kernel
theorem dX0_accept_2 : decode cX0_accept 2 = .ok (.invokevirtual 87, 3) := by decide +kernel
theorem dX0_accept_5 : decode cX0_accept 5 = .ok (.aload_n 0, 1) := by decide +kernel
theorem dX0_accept_6 : decode cX0_accept 6 = .ok (.getfield 29, 3) := by decide +kernel
theorem dX0_accept_9 : decode cX0_accept 9 = .ok (.iload_n 1, 1) := by decide +kernel
theorem dX0_accept_10 : decode cX0_accept 10 = .ok (.baload, 1) := by decide +kernel
theorem dX0_accept_11 : decode cX0_accept 11 = .ok (.istore_n 3, 1) := by decide +kernel
theorem dX0_accept_12 : decode cX0_accept 12 = .ok (.aload_n 0, 1) := by decide +kernel
theorem dX0_accept_13 : decode cX0_accept 13 = .ok (.getfield 29, 3) := by decide +kernel
theorem dX0_accept_16 : decode cX0_accept 16 = .ok (.iload_n 1, 1) := by decide +kernel
theorem dX0_accept_17 : decode cX0_accept 17 = .ok (.iload_n 2, 1) := by decide +kernel
theorem dX0_accept_18 : decode cX0_accept 18 = .ok (.bastore, 1) := by decide +kernel
theorem dX0_accept_19 : decode cX0_accept 19 = .ok (.iload_n 3, 1) := by decide +kernel
theorem dX0_accept_20 : decode cX0_accept 20 = .ok (.ireturn, 1) := by decide +kernel
theorem dX0_setLimit_0 : decode cX0_setLimit 0 = .ok (.iload_n 1, 1) := by decide +kernel
theorem dX0_setLimit_1 : decode cX0_setLimit 1 = .ok (.ifCond .lt 10, 3) := by decide +kernel
theorem dX0_setLimit_4 : decode cX0_setLimit 4 = .ok (.iload_n 1, 1) := by decide +kernel
theorem dX0_setLimit_5 : decode cX0_setLimit 5 = .ok (.sipush 2000, 3) := by decide +kernel
theorem dX0_setLimit_8 : decode cX0_setLimit 8 = .ok (.if_icmp .le 13, 3) := by decide +kernel
theorem dX0_setLimit_11 : decode cX0_setLimit 11 = .ok (.new 67, 3) := by decide +kernel
theorem dX0_setLimit_14 : decode cX0_setLimit 14 = .ok (.dup, 1) := by decide +kernel
theorem dX0_setLimit_15 : decode cX0_setLimit 15 = .ok (.ldc 100, 2) := by decide +kernel
theorem dX0_setLimit_17 : decode cX0_setLimit 17 = .ok (.invokespecial 71, 3) := by decide +kernel
theorem dX0_setLimit_20 : decode cX0_setLimit 20 = .ok (.athrow, 1) := by decide +kernel
theorem dX0_setLimit_21 : decode cX0_setLimit 21 = .ok (.aload_n 0, 1) := by decide +kernel
theorem dX0_setLimit_22 : decode cX0_setLimit 22 = .ok (.getfield 42, 3) := by decide +kernel
theorem dX0_setLimit_25 : decode cX0_setLimit 25 = .ok (.istore_n 2, 1) := by decide +kernel
theorem dX0_setLimit_26 : decode cX0_setLimit 26 = .ok (.aload_n 0, 1) := by decide +kernel
theorem dX0_setLimit_27 : decode cX0_setLimit 27 = .ok (.iload_n 1, 1) := by decide +kernel
theorem dX0_setLimit_28 : decode cX0_setLimit 28 = .ok (.putfield 42, 3) := by decide +kernel
theorem dX0_setLimit_31 : decode cX0_setLimit 31 = .ok (.iload_n 2, 1) := by decide +kernel
theorem dX0_setLimit_32 : decode cX0_setLimit 32 = .ok (.ireturn, 1) := by decide +kernel
set_option maxRecDepth 20000 in
theorem ggX0_addProduct_X0_checkPriceAndStock : GoodIn wsX0_addProduct wsX0_checkPriceAndStock := goodIn_ca (goodIn_r _ [9, 10, 11] (by decide +kernel) (by decide +kernel)) (goodIn_sub (fun _ h => List.mem_cons_of_mem _ (List.mem_append_right _ h)) (by decide +kernel))
set_option maxRecDepth 20000 in
theorem gX0_addProduct_X0_checkPriceAndStock : GoodIn wsX0_addProduct (va_wsS RX0 102 yX0_checkPriceAndStock wsX0_checkPriceAndStock) := goodIn_app (goodIn_of _ (by decide +kernel)) ggX0_addProduct_X0_checkPriceAndStock
theorem dX0_addProduct_0 : decode cX0_addProduct 0 = .ok (.iload_n 1, 1) := by decide +kernel
theorem dX0_addProduct_1 : decode cX0_addProduct 1 = .ok (.iload_n 2, 1) := by decide +kernel
theorem dX0_addProduct_2 : decode cX0_addProduct 2 = .ok (.invokestatic 102, 3) := by decide +kernel
theorem dX0_addProduct_5 : decode cX0_addProduct 5 = .ok (.aload_n 0, 1) := by decide +kernel
theorem dX0_addProduct_6 : decode cX0_addProduct 6 = .ok (.getfield 33, 3) := by decide +kernel
theorem dX0_addProduct_9 : decode cX0_addProduct 9 = .ok (.bipush 10, 2) := by decide +kernel
theorem dX0_addProduct_11 : decode cX0_addProduct 11 = .ok (.if_icmp .lt 13, 3) := by decide +kernel
theorem dX0_addProduct_14 : decode cX0_addProduct 14 = .ok (.new 76, 3) := by decide +kernel
theorem dX0_addProduct_17 : decode cX0_addProduct 17 = .ok (.dup, 1) := by decide +kernel
theorem dX0_addProduct_18 : decode cX0_addProduct 18 = .ok (.ldc 106, 2) := by decide +kernel
theorem dX0_addProduct_20 : decode cX0_addProduct 20 = .ok (.invokespecial 80, 3) := by decide +kernel
theorem dX0_addProduct_23 : decode cX0_addProduct 23 = .ok (.athrow, 1) := by decide +kernel
theorem dX0_addProduct_24 : decode cX0_addProduct 24 = .ok (.aload_n 0, 1) := by decide +kernel
theorem dX0_addProduct_25 : decode cX0_addProduct 25 = .ok (.getfield 36, 3) := by decide +kernel
theorem dX0_addProduct_28 : decode cX0_addProduct 28 = .ok (.aload_n 0, 1) := by decide +kernel
theorem dX0_addProduct_29 : decode cX0_addProduct 29 = .ok (.getfield 33, 3) := by decide +kernel
theorem dX0_addProduct_32 : decode cX0_addProduct 32 = .ok (.iload_n 1, 1) := by decide +kernel
theorem dX0_addProduct_33 : decode cX0_addProduct 33 = .ok (.iastore, 1) := by decide +kernel
theorem dX0_addProduct_34 : decode cX0_addProduct 34 = .ok (.aload_n 0, 1) := by decide +kernel
theorem dX0_addProduct_35 : decode cX0_addProduct 35 = .ok (.getfield 39, 3) := by decide +kernel
theorem dX0_addProduct_38 : decode cX0_addProduct 38 = .ok (.aload_n 0, 1) := by decide +kernel
theorem dX0_addProduct_39 : decode cX0_addProduct 39 = .ok (.getfield 33, 3) := by decide +kernel
theorem dX0_addProduct_42 : decode cX0_addProduct 42 = .ok (.iload_n 2, 1) := by decide +kernel
theorem dX0_addProduct_43 : decode cX0_addProduct 43 = .ok (.iastore, 1) := by decide +kernel
theorem dX0_addProduct_44 : decode cX0_addProduct 44 = .ok (.aload_n 0, 1) := by decide +kernel
theorem dX0_addProduct_45 : decode cX0_addProduct 45 = .ok (.dup, 1) := by decide +kernel
theorem dX0_addProduct_46 : decode cX0_addProduct 46 = .ok (.getfield 33, 3) := by decide +kernel
theorem dX0_addProduct_49 : decode cX0_addProduct 49 = .ok (.iconst 1, 1) := by decide +kernel
theorem dX0_addProduct_50 : decode cX0_addProduct 50 = .ok (.iadd, 1) := by decide +kernel
theorem dX0_addProduct_51 : decode cX0_addProduct 51 = .ok (.putfield 33, 3) := by decide +kernel
theorem dX0_addProduct_54 : decode cX0_addProduct 54 = .ok (.aload_n 0, 1) := by decide +kernel
theorem dX0_addProduct_55 : decode cX0_addProduct 55 = .ok (.getfield 33, 3) := by decide +kernel
theorem dX0_addProduct_58 : decode cX0_addProduct 58 = .ok (.iconst 1, 1) := by decide +kernel
theorem dX0_addProduct_59 : decode cX0_addProduct 59 = .ok (.isub, 1) := by decide +kernel
theorem dX0_addProduct_60 : decode cX0_addProduct 60 = .ok (.ireturn, 1) := by decide +kernel
set_option maxRecDepth 20000 in
theorem ggX0_setProduct_X0_checkProduct : GoodIn wsX0_setProduct wsX0_checkProduct := goodIn_ca (goodIn_r _ [7, 8, 9, 10, 16, 17, 18, 19, 20, 21, 22, 23, 24, 25, 26, 27, 28, 29, 30, 31, 32, 33] (by decide +kernel) (by decide +kernel)) (goodIn_sub (fun _ h => List.mem_cons_of_mem _ (List.mem_append_left _ (List.mem_append_right _ h))) (by decide +kernel))
set_option maxRecDepth 20000 in
theorem gX0_setProduct_X0_checkProduct : GoodIn wsX0_setProduct (wsV RX0 108 RX0 yX0_checkProduct wsX0_checkProduct) := goodIn_app (goodIn_of _ (by decide +kernel)) ggX0_setProduct_X0_checkProduct
set_option maxRecDepth 20000 in
theorem ggX0_setProduct_X0_checkPriceAndStock : GoodIn wsX0_setProduct wsX0_checkPriceAndStock := goodIn_ca (goodIn_r _ [13, 14, 15] (by decide +kernel) (by decide +kernel)) (goodIn_sub (fun _ h => List.mem_cons_of_mem _ (List.mem_append_right _ h)) (by decide +kernel))
set_option maxRecDepth 20000 in
theorem gX0_setProduct_X0_checkPriceAndStock : GoodIn wsX0_setProduct (va_wsS RX0 102 yX0_checkPriceAndStock wsX0_checkPriceAndStock) := goodIn_app (goodIn_of _ (by decide +kernel)) ggX0_setProduct_X0_checkPriceAndStock
theorem dX0_setProduct_0 : decode cX0_setProduct 0 = .ok (.aload_n 0, 1) := by decide +kernel
theorem dX0_setProduct_1 : decode cX0_setProduct 1 = .ok (.iload_n 1, 1) := by decide +kernel
theorem dX0_setProduct_2 : decode cX0_setProduct 2 = .ok (.invokevirtual 108, 3) := by decide +kernel
theorem dX0_setProduct_5 : decode cX0_setProduct 5 = .ok (.iload_n 2, 1) := by decide +kernel
theorem dX0_setProduct_6 : decode cX0_setProduct 6 = .ok (.iload_n 3, 1) := by decide +kernel
theorem dX0_setProduct_7 : decode cX0_setProduct 7 = .ok (.invokestatic 102, 3) := by decide +kernel
theorem dX0_setProduct_10 : decode cX0_setProduct 10 = .ok (.aload_n 0, 1) := by decide +kernel
theorem dX0_setProduct_11 : decode cX0_setProduct 11 = .ok (.getfield 36, 3) := by decide +kernel
theorem dX0_setProduct_14 : decode cX0_setProduct 14 = .ok (.iload_n 1, 1) := by decide +kernel
theorem dX0_setProduct_15 : decode cX0_setProduct 15 = .ok (.iaload, 1) := by decide +kernel
theorem dX0_setProduct_16 : decode cX0_setProduct 16 = .ok (.istore 4, 2) := by decide +kernel
theorem dX0_setProduct_18 : decode cX0_setProduct 18 = .ok (.aload_n 0, 1) := by decide +kernel
theorem dX0_setProduct_19 : decode cX0_setProduct 19 = .ok (.getfield 36, 3) := by decide +kernel
theorem dX0_setProduct_22 : decode cX0_setProduct 22 = .ok (.iload_n 1, 1) := by decide +kernel
theorem dX0_setProduct_23 : decode cX0_setProduct 23 = .ok (.iload_n 2, 1) := by decide +kernel
theorem dX0_setProduct_24 : decode cX0_setProduct 24 = .ok (.iastore, 1) := by decide +kernel
theorem dX0_setProduct_25 : decode cX0_setProduct 25 = .ok (.aload_n 0, 1) := by decide +kernel
theorem dX0_setProduct_26 : decode cX0_setProduct 26 = .ok (.getfield 39, 3) := by decide +kernel
theorem dX0_setProduct_29 : decode cX0_setProduct 29 = .ok (.iload_n 1, 1) := by decide +kernel
theorem dX0_setProduct_30 : decode cX0_setProduct 30 = .ok (.iload_n 3, 1) := by decide +kernel
theorem dX0_setProduct_31 : decode cX0_setProduct 31 = .ok (.iastore, 1) := by decide +kernel
theorem dX0_setProduct_32 : decode cX0_setProduct 32 = .ok (.iload 4, 2) := by decide +kernel
theorem dX0_setProduct_34 : decode cX0_setProduct 34 = .ok (.ireturn, 1) := by decide +kernel
set_option maxRecDepth 20000 in
theorem ggX0_product_X0_checkProduct : GoodIn wsX0_product wsX0_checkProduct := goodIn_ca (goodIn_r _ [7, 8, 9, 10, 11, 12, 13, 14, 15, 16, 17, 18, 19, 20, 21, 22, 23, 24, 25, 26, 27, 28] (by decide +kernel) (by decide +kernel)) (goodIn_sub (fun _ h => List.mem_cons_of_mem _ (List.mem_append_right _ h)) (by decide +kernel))
set_option maxRecDepth 20000 in
theorem gX0_product_X0_checkProduct : GoodIn wsX0_product (wsV RX0 108 RX0 yX0_checkProduct wsX0_checkProduct) := goodIn_app (goodIn_of _ (by decide +kernel)) ggX0_product_X0_checkProduct
theorem dX0_product_0 : decode cX0_product 0 = .ok (.aload_n 0, 1) := by decide +kernel
theorem dX0_product_1 : decode cX0_product 1 = .ok (.iload_n 1, 1) := by decide +kernel
theorem dX0_product_2 : decode cX0_product 2 = .ok (.invokevirtual 108, 3) := by decide +kernel
theorem dX0_product_5 : decode cX0_product 5 = .ok (.iload_n 2, 1) := by decide +kernel
theorem dX0_product_6 : decode cX0_product 6 = .ok (.ifCond .eq 12, 3) := by decide +kernel
theorem dX0_product_9 : decode cX0_product 9 = .ok (.aload_n 0, 1) := by decide +kernel
theorem dX0_product_10 : decode cX0_product 10 = .ok (.getfield 39, 3) := by decide +kernel
theorem dX0_product_13 : decode cX0_product 13 = .ok (.iload_n 1, 1) := by decide +kernel
theorem dX0_product_14 : decode cX0_product 14 = .ok (.iaload, 1) := by decide +kernel
theorem dX0_product_15 : decode cX0_product 15 = .ok (.goto 9, 3) := by decide +kernel
theorem dX0_product_18 : decode cX0_product 18 = .ok (.aload_n 0, 1) := by decide +kernel
theorem dX0_product_19 : decode cX0_product 19 = .ok (.getfield 36, 3) := by decide +kernel
theorem dX0_product_22 : decode cX0_product 22 = .ok (.iload_n 1, 1) := by decide +kernel
theorem dX0_product_23 : decode cX0_product 23 = .ok (.iaload, 1) := by decide +kernel
theorem dX0_product_24 : decode cX0_product 24 = .ok (.ireturn, 1) := by decide +kernel
set_option maxRecDepth 20000 in
theorem ggX0_insert_X0_checkKind : GoodIn wsX0_insert wsX0_checkKind := goodIn_ca (goodIn_r _ [11, 12, 13, 14, 23, 24, 25, 26, 27, 28, 29, 30, 31, 32, 33, 34, 35, 36, 37, 38, 39, 40] (by decide +kernel) (by decide +kernel)) (goodIn_sub (fun _ h => List.mem_cons_of_mem _ (List.mem_append_right _ h)) (by decide +kernel))
set_option maxRecDepth 20000 in
theorem gX0_insert_X0_checkKind : GoodIn wsX0_insert (wsV RX0 87 RX0 yX0_checkKind wsX0_checkKind) := goodIn_app (goodIn_of _ (by decide +kernel)) ggX0_insert_X0_checkKind
set_option maxRecDepth 20000 in
theorem ggX0_insert_X0_credit : GoodIn wsX0_insert wsX0_credit := goodIn_r _ [18, 14, 3, 19, 20, 21, 10, 22, 2, 5, 23, 24, 25, 26, 27, 28, 29, 30, 31, 32, 33, 34, 35, 36, 37, 38, 39, 40] (by decide +kernel) (by decide +kernel)
set_option maxRecDepth 20000 in
theorem gX0_insert_X0_credit : GoodIn wsX0_insert (wsV RX0 111 RX0 yX0_credit wsX0_credit) := goodIn_app (goodIn_of _ (by decide +kernel)) ggX0_insert_X0_credit
theorem dX0_insert_0 : decode cX0_insert 0 = .ok (.aload_n 0, 1) := by decide +kernel
theorem dX0_insert_1 : decode cX0_insert 1 = .ok (.iload_n 1, 1) := by decide +kernel
theorem dX0_insert_2 : decode cX0_insert 2 = .ok (.invokevirtual 87, 3) := by decide +kernel
theorem dX0_insert_5 : decode cX0_insert 5 = .ok (.aload_n 0, 1) := by decide +kernel
theorem dX0_insert_6 : decode cX0_insert 6 = .ok (.getfield 29, 3) := by decide +kernel
theorem dX0_insert_9 : decode cX0_insert 9 = .ok (.iload_n 1, 1) := by decide +kernel
theorem dX0_insert_10 : decode cX0_insert 10 = .ok (.baload, 1) := by decide +kernel
theorem dX0_insert_11 : decode cX0_insert 11 = .ok (.ifCond .ne 5, 3) := by decide +kernel
theorem dX0_insert_14 : decode cX0_insert 14 = .ok (.iconst 1, 1) := by decide +kernel
theorem dX0_insert_15 : decode cX0_insert 15 = .ok (.ireturn, 1) := by decide +kernel
theorem dX0_insert_16 : decode cX0_insert 16 = .ok (.aload_n 0, 1) := by decide +kernel
theorem dX0_insert_17 : decode cX0_insert 17 = .ok (.getfield 45, 3) := by decide +kernel
theorem dX0_insert_20 : decode cX0_insert 20 = .ok (.bipush 12, 2) := by decide +kernel
theorem dX0_insert_22 : decode cX0_insert 22 = .ok (.if_icmp .lt 5, 3) := by decide +kernel
theorem dX0_insert_25 : decode cX0_insert 25 = .ok (.iconst 2, 1) := by decide +kernel
theorem dX0_insert_26 : decode cX0_insert 26 = .ok (.ireturn, 1) := by decide +kernel
theorem dX0_insert_27 : decode cX0_insert 27 = .ok (.aload_n 0, 1) := by decide +kernel
theorem dX0_insert_28 : decode cX0_insert 28 = .ok (.invokevirtual 111, 3) := by decide +kernel
theorem dX0_insert_31 : decode cX0_insert 31 = .ok (.aload_n 0, 1) := by decide +kernel
theorem dX0_insert_32 : decode cX0_insert 32 = .ok (.getfield 13, 3) := by decide +kernel
theorem dX0_insert_35 : decode cX0_insert 35 = .ok (.iload_n 1, 1) := by decide +kernel
theorem dX0_insert_36 : decode cX0_insert 36 = .ok (.iaload, 1) := by decide +kernel
theorem dX0_insert_37 : decode cX0_insert 37 = .ok (.iadd, 1) := by decide +kernel
theorem dX0_insert_38 : decode cX0_insert 38 = .ok (.aload_n 0, 1) := by decide +kernel
theorem dX0_insert_39 : decode cX0_insert 39 = .ok (.getfield 42, 3) := by decide +kernel
theorem dX0_insert_42 : decode cX0_insert 42 = .ok (.if_icmp .le 5, 3) := by decide +kernel
theorem dX0_insert_45 : decode cX0_insert 45 = .ok (.iconst 3, 1) := by decide +kernel
theorem dX0_insert_46 : decode cX0_insert 46 = .ok (.ireturn, 1) := by decide +kernel
theorem dX0_insert_47 : decode cX0_insert 47 = .ok (.aload_n 0, 1) := by decide +kernel
theorem dX0_insert_48 : decode cX0_insert 48 = .ok (.getfield 48, 3) := by decide +kernel
theorem dX0_insert_51 : decode cX0_insert 51 = .ok (.aload_n 0, 1) := by decide +kernel
theorem dX0_insert_52 : decode cX0_insert 52 = .ok (.getfield 45, 3) := by decide +kernel
theorem dX0_insert_55 : decode cX0_insert 55 = .ok (.iload_n 1, 1) := by decide +kernel
theorem dX0_insert_56 : decode cX0_insert 56 = .ok (.iastore, 1) := by decide +kernel
theorem dX0_insert_57 : decode cX0_insert 57 = .ok (.aload_n 0, 1) := by decide +kernel
theorem dX0_insert_58 : decode cX0_insert 58 = .ok (.dup, 1) := by decide +kernel
theorem dX0_insert_59 : decode cX0_insert 59 = .ok (.getfield 45, 3) := by decide +kernel
theorem dX0_insert_62 : decode cX0_insert 62 = .ok (.iconst 1, 1) := by decide +kernel
theorem dX0_insert_63 : decode cX0_insert 63 = .ok (.iadd, 1) := by decide +kernel
theorem dX0_insert_64 : decode cX0_insert 64 = .ok (.putfield 45, 3) := by decide +kernel
theorem dX0_insert_67 : decode cX0_insert 67 = .ok (.aload_n 0, 1) := by decide +kernel
theorem dX0_insert_68 : decode cX0_insert 68 = .ok (.getfield 57, 3) := by decide +kernel
theorem dX0_insert_71 : decode cX0_insert 71 = .ok (.iconst 0, 1) := by decide +kernel
theorem dX0_insert_72 : decode cX0_insert 72 = .ok (.dup2, 1) := by decide +kernel
theorem dX0_insert_73 : decode cX0_insert 73 = .ok (.laload, 1) := by decide +kernel
theorem dX0_insert_74 : decode cX0_insert 74 = .ok (.aload_n 0, 1) := by decide +kernel
theorem dX0_insert_75 : decode cX0_insert 75 = .ok (.getfield 13, 3) := by decide +kernel
theorem dX0_insert_78 : decode cX0_insert 78 = .ok (.iload_n 1, 1) := by decide +kernel
theorem dX0_insert_79 : decode cX0_insert 79 = .ok (.iaload, 1) := by decide +kernel
theorem dX0_insert_80 : decode cX0_insert 80 = .ok (.i2l, 1) := by decide +kernel
theorem dX0_insert_81 : decode cX0_insert 81 = .ok (.ladd, 1) := by decide +kernel
theorem dX0_insert_82 : decode cX0_insert 82 = .ok (.lastore, 1) := by decide +kernel
theorem dX0_insert_83 : decode cX0_insert 83 = .ok (.iconst 0, 1) := by decide +kernel
theorem dX0_insert_84 : decode cX0_insert 84 = .ok (.ireturn, 1) := by decide +kernel
set_option maxRecDepth 20000 in
theorem ggX0_cancel_X0_credit : GoodIn wsX0_cancel wsX0_credit := goodIn_r _ [7, 8, 9, 10, 11, 12, 6, 13, 1, 14, 15, 16, 17, 18, 19, 20, 21, 22, 23, 24, 25, 26, 27, 28, 29, 30, 31, 32] (by decide +kernel) (by decide +kernel)
set_option maxRecDepth 20000 in
theorem gX0_cancel_X0_credit : GoodIn wsX0_cancel (wsV RX0 111 RX0 yX0_credit wsX0_credit) := goodIn_app (goodIn_of _ (by decide +kernel)) ggX0_cancel_X0_credit
theorem dX0_cancel_0 : decode cX0_cancel 0 = .ok (.aload_n 0, 1) := by decide +kernel
theorem dX0_cancel_1 : decode cX0_cancel 1 = .ok (.invokevirtual 111, 3) := by decide +kernel
theorem dX0_cancel_4 : decode cX0_cancel 4 = .ok (.istore_n 1, 1) := by decide +kernel
theorem dX0_cancel_5 : decode cX0_cancel 5 = .ok (.aload_n 0, 1) := by decide +kernel
theorem dX0_cancel_6 : decode cX0_cancel 6 = .ok (.iconst 0, 1) := by decide +kernel
theorem dX0_cancel_7 : decode cX0_cancel 7 = .ok (.putfield 45, 3) := by decide +kernel
theorem dX0_cancel_10 : decode cX0_cancel 10 = .ok (.aload_n 0, 1) := by decide +kernel
theorem dX0_cancel_11 : decode cX0_cancel 11 = .ok (.getfield 57, 3) := by decide +kernel
theorem dX0_cancel_14 : decode cX0_cancel 14 = .ok (.iconst 1, 1) := by decide +kernel
theorem dX0_cancel_15 : decode cX0_cancel 15 = .ok (.dup2, 1) := by decide +kernel
theorem dX0_cancel_16 : decode cX0_cancel 16 = .ok (.laload, 1) := by decide +kernel
theorem dX0_cancel_17 : decode cX0_cancel 17 = .ok (.iload_n 1, 1) := by decide +kernel
theorem dX0_cancel_18 : decode cX0_cancel 18 = .ok (.i2l, 1) := by decide +kernel
theorem dX0_cancel_19 : decode cX0_cancel 19 = .ok (.ladd, 1) := by decide +kernel
theorem dX0_cancel_20 : decode cX0_cancel 20 = .ok (.lastore, 1) := by decide +kernel
theorem dX0_cancel_21 : decode cX0_cancel 21 = .ok (.iload_n 1, 1) := by decide +kernel
theorem dX0_cancel_22 : decode cX0_cancel 22 = .ok (.ireturn, 1) := by decide +kernel
set_option maxRecDepth 20000 in
theorem ggX0_buy_X0_checkProduct : GoodIn wsX0_buy wsX0_checkProduct := goodIn_ca (goodIn_r _ [11, 12, 13, 14, 82, 83, 84, 85, 86, 87, 88, 89, 90, 91, 92, 93, 94, 95, 96, 97, 98, 99] (by decide +kernel) (by decide +kernel)) (goodIn_sub (fun _ h => List.mem_cons_of_mem _ (List.mem_append_right _ h)) (by decide +kernel))
set_option maxRecDepth 20000 in
theorem gX0_buy_X0_checkProduct : GoodIn wsX0_buy (wsV RX0 108 RX0 yX0_checkProduct wsX0_checkProduct) := goodIn_app (goodIn_of _ (by decide +kernel)) ggX0_buy_X0_checkProduct
set_option maxRecDepth 20000 in
theorem ggX0_buy_X0_credit : GoodIn wsX0_buy wsX0_credit := goodIn_r _ [18, 19, 20, 21, 22, 23, 10, 24, 25, 26, 82, 83, 84, 85, 86, 87, 88, 89, 90, 91, 92, 93, 94, 95, 96, 97, 98, 99] (by decide +kernel) (by decide +kernel)
set_option maxRecDepth 20000 in
theorem gX0_buy_X0_credit : GoodIn wsX0_buy (wsV RX0 111 RX0 yX0_credit wsX0_credit) := goodIn_app (goodIn_of _ (by decide +kernel)) ggX0_buy_X0_credit
set_option maxRecDepth 20000 in
theorem ggX0_buy_X0_foreseeTubes : GoodIn wsX0_buy wsX0_foreseeTubes := goodIn_r _ [30, 19, 3, 31, 32, 33, 34, 35, 36, 21, 22, 23, 10, 24, 25, 26, 82, 83, 84, 85, 86, 87, 88, 89, 90, 91, 92, 93, 94, 95, 96, 97, 98, 99] (by decide +kernel) (by decide +kernel)
set_option maxRecDepth 20000 in
theorem gX0_buy_X0_foreseeTubes : GoodIn wsX0_buy (wsV RX0 115 RX0 yX0_foreseeTubes wsX0_foreseeTubes) := goodIn_app (goodIn_of _ (by decide +kernel)) ggX0_buy_X0_foreseeTubes
set_option maxRecDepth 20000 in
theorem ggX0_buy_X0_scoreWays : GoodIn wsX0_buy wsX0_scoreWays := goodIn_r _ [40, 33, 34, 35, 36, 41, 4, 19, 42, 43, 44, 10, 45, 46, 20, 47, 48, 49, 50, 51, 52, 53, 54, 55, 56, 57, 82, 83, 84, 85, 86, 87, 88, 89, 90, 91, 92, 93, 94, 95, 96, 97, 98, 99] (by decide +kernel) (by decide +kernel)
set_option maxRecDepth 20000 in
theorem gX0_buy_X0_scoreWays : GoodIn wsX0_buy (wsV RX0 118 RX0 yX0_scoreWays wsX0_scoreWays) := goodIn_app (goodIn_of _ (by decide +kernel)) ggX0_buy_X0_scoreWays
set_option maxRecDepth 20000 in
theorem ggX0_buy_X0_scoreOf : GoodIn wsX0_buy wsX0_scoreOf := goodIn_r _ [61, 4, 41, 82, 83, 84, 85, 86, 87, 88, 89, 90, 91, 92, 93, 94, 95, 96, 97, 98, 99] (by decide +kernel) (by decide +kernel)
set_option maxRecDepth 20000 in
theorem gX0_buy_X0_scoreOf : GoodIn wsX0_buy (wsV RX0 122 RX0 yX0_scoreOf wsX0_scoreOf) := goodIn_app (goodIn_of _ (by decide +kernel)) ggX0_buy_X0_scoreOf
set_option maxRecDepth 20000 in
theorem ggX0_buy_X0_dropWaiting : GoodIn wsX0_buy wsX0_dropWaiting := goodIn_r _ [65, 19, 32, 31, 33, 34, 35, 36, 66, 25, 21, 22, 23, 10, 24, 26, 82, 83, 84, 85, 86, 87, 88, 89, 90, 91, 92, 93, 94, 95, 96, 97, 98, 99] (by decide +kernel) (by decide +kernel)
set_option maxRecDepth 20000 in
theorem gX0_buy_X0_dropWaiting : GoodIn wsX0_buy (wsV RX0 128 RX0 yX0_dropWaiting wsX0_dropWaiting) := goodIn_app (goodIn_of _ (by decide +kernel)) ggX0_buy_X0_dropWaiting
set_option maxRecDepth 20000 in
theorem ggX0_buy_X0_payOut : GoodIn wsX0_buy wsX0_payOut := goodIn_r _ [70, 19, 71, 31, 72, 73, 74, 10, 75, 76, 47, 48, 49, 50, 20, 82, 83, 84, 85, 86, 87, 88, 89, 90, 91, 92, 93, 94, 95, 96, 97, 98, 99] (by decide +kernel) (by decide +kernel)
set_option maxRecDepth 20000 in
theorem gX0_buy_X0_payOut : GoodIn wsX0_buy (wsV RX0 131 RX0 yX0_payOut wsX0_payOut) := goodIn_app (goodIn_of _ (by decide +kernel)) ggX0_buy_X0_payOut
set_option maxRecDepth 20000 in
theorem ggX0_buy_X0_countSale : GoodIn wsX0_buy wsX0_countSale := goodIn_r _ [80, 81, 82, 83, 84, 85, 86, 87, 88, 89, 90, 91, 92, 93, 94, 95, 96, 97, 98, 99] (by decide +kernel) (by decide +kernel)
set_option maxRecDepth 20000 in
theorem gX0_buy_X0_countSale : GoodIn wsX0_buy (wsV RX0 135 RX0 yX0_countSale wsX0_countSale) := goodIn_app (goodIn_of _ (by decide +kernel)) ggX0_buy_X0_countSale
theorem dX0_buy_0 : decode cX0_buy 0 = .ok (.aload_n 0, 1) := by decide +kernel
theorem dX0_buy_1 : decode cX0_buy 1 = .ok (.iload_n 1, 1) := by decide +kernel
theorem dX0_buy_2 : decode cX0_buy 2 = .ok (.invokevirtual 108, 3) := by decide +kernel
theorem dX0_buy_5 : decode cX0_buy 5 = .ok (.aload_n 0, 1) := by decide +kernel
theorem dX0_buy_6 : decode cX0_buy 6 = .ok (.getfield 39, 3) := by decide +kernel
theorem dX0_buy_9 : decode cX0_buy 9 = .ok (.iload_n 1, 1) := by decide +kernel
theorem dX0_buy_10 : decode cX0_buy 10 = .ok (.iaload, 1) := by decide +kernel
theorem dX0_buy_11 : decode cX0_buy 11 = .ok (.ifCond .ne 5, 3) := by decide +kernel
theorem dX0_buy_14 : decode cX0_buy 14 = .ok (.iconst 1, 1) := by decide +kernel
theorem dX0_buy_15 : decode cX0_buy 15 = .ok (.ireturn, 1) := by decide +kernel
theorem dX0_buy_16 : decode cX0_buy 16 = .ok (.aload_n 0, 1) := by decide +kernel
theorem dX0_buy_17 : decode cX0_buy 17 = .ok (.getfield 36, 3) := by decide +kernel
theorem dX0_buy_20 : decode cX0_buy 20 = .ok (.iload_n 1, 1) := by decide +kernel
theorem dX0_buy_21 : decode cX0_buy 21 = .ok (.iaload, 1) := by decide +kernel
theorem dX0_buy_22 : decode cX0_buy 22 = .ok (.istore_n 2, 1) := by decide +kernel
theorem dX0_buy_23 : decode cX0_buy 23 = .ok (.aload_n 0, 1) := by decide +kernel
theorem dX0_buy_24 : decode cX0_buy 24 = .ok (.invokevirtual 111, 3) := by decide +kernel
theorem dX0_buy_27 : decode cX0_buy 27 = .ok (.iload_n 2, 1) := by decide +kernel
theorem dX0_buy_28 : decode cX0_buy 28 = .ok (.isub, 1) := by decide +kernel
theorem dX0_buy_29 : decode cX0_buy 29 = .ok (.istore_n 3, 1) := by decide +kernel
theorem dX0_buy_30 : decode cX0_buy 30 = .ok (.iload_n 3, 1) := by decide +kernel
theorem dX0_buy_31 : decode cX0_buy 31 = .ok (.ifCond .ge 5, 3) := by decide +kernel
theorem dX0_buy_34 : decode cX0_buy 34 = .ok (.iconst 2, 1) := by decide +kernel
theorem dX0_buy_35 : decode cX0_buy 35 = .ok (.ireturn, 1) := by decide +kernel
theorem dX0_buy_36 : decode cX0_buy 36 = .ok (.aload_n 0, 1) := by decide +kernel
theorem dX0_buy_37 : decode cX0_buy 37 = .ok (.invokevirtual 115, 3) := by decide +kernel
theorem dX0_buy_40 : decode cX0_buy 40 = .ok (.aload_n 0, 1) := by decide +kernel
theorem dX0_buy_41 : decode cX0_buy 41 = .ok (.iload_n 3, 1) := by decide +kernel
theorem dX0_buy_42 : decode cX0_buy 42 = .ok (.aload_n 0, 1) := by decide +kernel
theorem dX0_buy_43 : decode cX0_buy 43 = .ok (.getfield 64, 3) := by decide +kernel
theorem dX0_buy_46 : decode cX0_buy 46 = .ok (.invokevirtual 118, 3) := by decide +kernel
theorem dX0_buy_49 : decode cX0_buy 49 = .ok (.aload_n 0, 1) := by decide +kernel
theorem dX0_buy_50 : decode cX0_buy 50 = .ok (.iload_n 3, 1) := by decide +kernel
theorem dX0_buy_51 : decode cX0_buy 51 = .ok (.invokevirtual 122, 3) := by decide +kernel
theorem dX0_buy_54 : decode cX0_buy 54 = .ok (.lstore 4, 2) := by decide +kernel
theorem dX0_buy_56 : decode cX0_buy 56 = .ok (.lload 4, 2) := by decide +kernel
theorem dX0_buy_58 : decode cX0_buy 58 = .ok (.ldc2_w 126, 3) := by decide +kernel
theorem dX0_buy_61 : decode cX0_buy 61 = .ok (.lcmp, 1) := by decide +kernel
theorem dX0_buy_62 : decode cX0_buy 62 = .ok (.ifCond .ne 5, 3) := by decide +kernel
theorem dX0_buy_65 : decode cX0_buy 65 = .ok (.iconst 3, 1) := by decide +kernel
theorem dX0_buy_66 : decode cX0_buy 66 = .ok (.ireturn, 1) := by decide +kernel
theorem dX0_buy_67 : decode cX0_buy 67 = .ok (.aload_n 0, 1) := by decide +kernel
theorem dX0_buy_68 : decode cX0_buy 68 = .ok (.invokevirtual 128, 3) := by decide +kernel
theorem dX0_buy_71 : decode cX0_buy 71 = .ok (.aload_n 0, 1) := by decide +kernel
theorem dX0_buy_72 : decode cX0_buy 72 = .ok (.lload 4, 2) := by decide +kernel
theorem dX0_buy_74 : decode cX0_buy 74 = .ok (.invokevirtual 131, 3) := by decide +kernel
theorem dX0_buy_77 : decode cX0_buy 77 = .ok (.aload_n 0, 1) := by decide +kernel
theorem dX0_buy_78 : decode cX0_buy 78 = .ok (.getfield 39, 3) := by decide +kernel
theorem dX0_buy_81 : decode cX0_buy 81 = .ok (.iload_n 1, 1) := by decide +kernel
theorem dX0_buy_82 : decode cX0_buy 82 = .ok (.dup2, 1) := by decide +kernel
theorem dX0_buy_83 : decode cX0_buy 83 = .ok (.iaload, 1) := by decide +kernel
theorem dX0_buy_84 : decode cX0_buy 84 = .ok (.iconst 1, 1) := by decide +kernel
theorem dX0_buy_85 : decode cX0_buy 85 = .ok (.isub, 1) := by decide +kernel
theorem dX0_buy_86 : decode cX0_buy 86 = .ok (.iastore, 1) := by decide +kernel
theorem dX0_buy_87 : decode cX0_buy 87 = .ok (.aload_n 0, 1) := by decide +kernel
theorem dX0_buy_88 : decode cX0_buy 88 = .ok (.iload_n 1, 1) := by decide +kernel
theorem dX0_buy_89 : decode cX0_buy 89 = .ok (.putfield 51, 3) := by decide +kernel
theorem dX0_buy_92 : decode cX0_buy 92 = .ok (.aload_n 0, 1) := by decide +kernel
theorem dX0_buy_93 : decode cX0_buy 93 = .ok (.iload_n 2, 1) := by decide +kernel
theorem dX0_buy_94 : decode cX0_buy 94 = .ok (.putfield 54, 3) := by decide +kernel
theorem dX0_buy_97 : decode cX0_buy 97 = .ok (.aload_n 0, 1) := by decide +kernel
theorem dX0_buy_98 : decode cX0_buy 98 = .ok (.iload_n 2, 1) := by decide +kernel
theorem dX0_buy_99 : decode cX0_buy 99 = .ok (.iload_n 3, 1) := by decide +kernel
theorem dX0_buy_100 : decode cX0_buy 100 = .ok (.invokevirtual 135, 3) := by decide +kernel
theorem dX0_buy_103 : decode cX0_buy 103 = .ok (.iconst 0, 1) := by decide +kernel
theorem dX0_buy_104 : decode cX0_buy 104 = .ok (.ireturn, 1) := by decide +kernel
set_option maxRecDepth 20000 in
theorem ggX0_refund_X0_scoreWays : GoodIn wsX0_refund wsX0_scoreWays := goodIn_r _ [18, 9, 10, 11, 12, 19, 7, 20, 21, 22, 23, 17, 24, 25, 26, 27, 28, 29, 30, 31, 32, 33, 34, 35, 36, 37, 52, 53, 54, 55, 56, 57, 58, 59, 60, 61, 62, 63, 64, 65, 66, 67, 68, 69] (by decide +kernel) (by decide +kernel)
set_option maxRecDepth 20000 in
theorem gX0_refund_X0_scoreWays : GoodIn wsX0_refund (wsV RX0 118 RX0 yX0_scoreWays wsX0_scoreWays) := goodIn_app (goodIn_of _ (by decide +kernel)) ggX0_refund_X0_scoreWays
set_option maxRecDepth 20000 in
theorem ggX0_refund_X0_scoreOf : GoodIn wsX0_refund wsX0_scoreOf := goodIn_r _ [41, 7, 19, 52, 53, 54, 55, 56, 57, 58, 59, 60, 61, 62, 63, 64, 65, 66, 67, 68, 69] (by decide +kernel) (by decide +kernel)
set_option maxRecDepth 20000 in
theorem gX0_refund_X0_scoreOf : GoodIn wsX0_refund (wsV RX0 122 RX0 yX0_scoreOf wsX0_scoreOf) := goodIn_app (goodIn_of _ (by decide +kernel)) ggX0_refund_X0_scoreOf
set_option maxRecDepth 20000 in
theorem ggX0_refund_X0_payOut : GoodIn wsX0_refund wsX0_payOut := goodIn_r _ [45, 20, 46, 6, 47, 48, 49, 17, 50, 51, 27, 28, 29, 30, 26, 52, 53, 54, 55, 56, 57, 58, 59, 60, 61, 62, 63, 64, 65, 66, 67, 68, 69] (by decide +kernel) (by decide +kernel)
set_option maxRecDepth 20000 in
theorem gX0_refund_X0_payOut : GoodIn wsX0_refund (wsV RX0 131 RX0 yX0_payOut wsX0_payOut) := goodIn_app (goodIn_of _ (by decide +kernel)) ggX0_refund_X0_payOut
theorem dX0_refund_0 : decode cX0_refund 0 = .ok (.aload_n 0, 1) := by decide +kernel
theorem dX0_refund_1 : decode cX0_refund 1 = .ok (.getfield 51, 3) := by decide +kernel
theorem dX0_refund_4 : decode cX0_refund 4 = .ok (.ifCond .lt 14, 3) := by decide +kernel
theorem dX0_refund_7 : decode cX0_refund 7 = .ok (.aload_n 0, 1) := by decide +kernel
theorem dX0_refund_8 : decode cX0_refund 8 = .ok (.getfield 51, 3) := by decide +kernel
theorem dX0_refund_11 : decode cX0_refund 11 = .ok (.aload_n 0, 1) := by decide +kernel
theorem dX0_refund_12 : decode cX0_refund 12 = .ok (.getfield 33, 3) := by decide +kernel
theorem dX0_refund_15 : decode cX0_refund 15 = .ok (.if_icmp .lt 13, 3) := by decide +kernel
theorem dX0_refund_18 : decode cX0_refund 18 = .ok (.new 76, 3) := by decide +kernel
theorem dX0_refund_21 : decode cX0_refund 21 = .ok (.dup, 1) := by decide +kernel
theorem dX0_refund_22 : decode cX0_refund 22 = .ok (.ldc 138, 2) := by decide +kernel
theorem dX0_refund_24 : decode cX0_refund 24 = .ok (.invokespecial 80, 3) := by decide +kernel
theorem dX0_refund_27 : decode cX0_refund 27 = .ok (.athrow, 1) := by decide +kernel
theorem dX0_refund_28 : decode cX0_refund 28 = .ok (.aload_n 0, 1) := by decide +kernel
theorem dX0_refund_29 : decode cX0_refund 29 = .ok (.aload_n 0, 1) := by decide +kernel
theorem dX0_refund_30 : decode cX0_refund 30 = .ok (.getfield 54, 3) := by decide +kernel
theorem dX0_refund_33 : decode cX0_refund 33 = .ok (.aload_n 0, 1) := by decide +kernel
theorem dX0_refund_34 : decode cX0_refund 34 = .ok (.getfield 20, 3) := by decide +kernel
theorem dX0_refund_37 : decode cX0_refund 37 = .ok (.invokevirtual 118, 3) := by decide +kernel
theorem dX0_refund_40 : decode cX0_refund 40 = .ok (.aload_n 0, 1) := by decide +kernel
theorem dX0_refund_41 : decode cX0_refund 41 = .ok (.aload_n 0, 1) := by decide +kernel
theorem dX0_refund_42 : decode cX0_refund 42 = .ok (.getfield 54, 3) := by decide +kernel
theorem dX0_refund_45 : decode cX0_refund 45 = .ok (.invokevirtual 122, 3) := by decide +kernel
theorem dX0_refund_48 : decode cX0_refund 48 = .ok (.lstore_n 1, 1) := by decide +kernel
theorem dX0_refund_49 : decode cX0_refund 49 = .ok (.lload_n 1, 1) := by decide +kernel
theorem dX0_refund_50 : decode cX0_refund 50 = .ok (.ldc2_w 126, 3) := by decide +kernel
theorem dX0_refund_53 : decode cX0_refund 53 = .ok (.lcmp, 1) := by decide +kernel
theorem dX0_refund_54 : decode cX0_refund 54 = .ok (.ifCond .ne 5, 3) := by decide +kernel
theorem dX0_refund_57 : decode cX0_refund 57 = .ok (.iconst 0, 1) := by decide +kernel
theorem dX0_refund_58 : decode cX0_refund 58 = .ok (.ireturn, 1) := by decide +kernel
theorem dX0_refund_59 : decode cX0_refund 59 = .ok (.aload_n 0, 1) := by decide +kernel
theorem dX0_refund_60 : decode cX0_refund 60 = .ok (.lload_n 1, 1) := by decide +kernel
theorem dX0_refund_61 : decode cX0_refund 61 = .ok (.invokevirtual 131, 3) := by decide +kernel
theorem dX0_refund_64 : decode cX0_refund 64 = .ok (.aload_n 0, 1) := by decide +kernel
theorem dX0_refund_65 : decode cX0_refund 65 = .ok (.getfield 39, 3) := by decide +kernel
theorem dX0_refund_68 : decode cX0_refund 68 = .ok (.aload_n 0, 1) := by decide +kernel
theorem dX0_refund_69 : decode cX0_refund 69 = .ok (.getfield 51, 3) := by decide +kernel
theorem dX0_refund_72 : decode cX0_refund 72 = .ok (.aload_n 0, 1) := by decide +kernel
theorem dX0_refund_73 : decode cX0_refund 73 = .ok (.getfield 39, 3) := by decide +kernel
theorem dX0_refund_76 : decode cX0_refund 76 = .ok (.aload_n 0, 1) := by decide +kernel
theorem dX0_refund_77 : decode cX0_refund 77 = .ok (.getfield 51, 3) := by decide +kernel
theorem dX0_refund_80 : decode cX0_refund 80 = .ok (.iaload, 1) := by decide +kernel
theorem dX0_refund_81 : decode cX0_refund 81 = .ok (.iconst 1, 1) := by decide +kernel
theorem dX0_refund_82 : decode cX0_refund 82 = .ok (.iadd, 1) := by decide +kernel
theorem dX0_refund_83 : decode cX0_refund 83 = .ok (.bipush 99, 2) := by decide +kernel
theorem dX0_refund_85 : decode cX0_refund 85 = .ok (.invokestatic 94, 3) := by decide +kernel
theorem dX0_refund_88 : decode cX0_refund 88 = .ok (.iastore, 1) := by decide +kernel
theorem dX0_refund_89 : decode cX0_refund 89 = .ok (.aload_n 0, 1) := by decide +kernel
theorem dX0_refund_90 : decode cX0_refund 90 = .ok (.getfield 57, 3) := by decide +kernel
theorem dX0_refund_93 : decode cX0_refund 93 = .ok (.iconst 3, 1) := by decide +kernel
theorem dX0_refund_94 : decode cX0_refund 94 = .ok (.dup2, 1) := by decide +kernel
theorem dX0_refund_95 : decode cX0_refund 95 = .ok (.laload, 1) := by decide +kernel
theorem dX0_refund_96 : decode cX0_refund 96 = .ok (.aload_n 0, 1) := by decide +kernel
theorem dX0_refund_97 : decode cX0_refund 97 = .ok (.getfield 54, 3) := by decide +kernel
theorem dX0_refund_100 : decode cX0_refund 100 = .ok (.i2l, 1) := by decide +kernel
theorem dX0_refund_101 : decode cX0_refund 101 = .ok (.ladd, 1) := by decide +kernel
theorem dX0_refund_102 : decode cX0_refund 102 = .ok (.lastore, 1) := by decide +kernel
theorem dX0_refund_103 : decode cX0_refund 103 = .ok (.aload_n 0, 1) := by decide +kernel
theorem dX0_refund_104 : decode cX0_refund 104 = .ok (.iconst (-1), 1) := by decide +kernel
theorem dX0_refund_105 : decode cX0_refund 105 = .ok (.putfield 51, 3) := by decide +kernel
theorem dX0_refund_108 : decode cX0_refund 108 = .ok (.iconst 1, 1) := by decide +kernel
theorem dX0_refund_109 : decode cX0_refund 109 = .ok (.ireturn, 1) := by decide +kernel
set_option maxRecDepth 20000 in
theorem ggX0_credit_X0_waitingOf : GoodIn wsX0_credit wsX0_waitingOf := goodIn_r _ [7, 8, 9, 10, 11, 12, 13, 14, 15, 16, 17, 18, 19, 20, 21, 22, 23, 24, 25, 26, 27] (by decide +kernel) (by decide +kernel)
set_option maxRecDepth 20000 in
theorem gX0_credit_X0_waitingOf : GoodIn wsX0_credit (wsV RX0 140 RX0 yX0_waitingOf wsX0_waitingOf) := goodIn_app (goodIn_of _ (by decide +kernel)) ggX0_credit_X0_waitingOf
theorem dX0_credit_0 : decode cX0_credit 0 = .ok (.iconst 0, 1) := by decide +kernel
theorem dX0_credit_1 : decode cX0_credit 1 = .ok (.istore_n 1, 1) := by decide +kernel
theorem dX0_credit_2 : decode cX0_credit 2 = .ok (.iconst 0, 1) := by decide +kernel
theorem dX0_credit_3 : decode cX0_credit 3 = .ok (.istore_n 2, 1) := by decide +kernel
theorem dX0_credit_4 : decode cX0_credit 4 = .ok (.iload_n 2, 1) := by decide +kernel
theorem dX0_credit_5 : decode cX0_credit 5 = .ok (.aload_n 0, 1) := by decide +kernel
theorem dX0_credit_6 : decode cX0_credit 6 = .ok (.getfield 9, 3) := by decide +kernel
theorem dX0_credit_9 : decode cX0_credit 9 = .ok (.if_icmp .ge 24, 3) := by decide +kernel
theorem dX0_credit_12 : decode cX0_credit 12 = .ok (.iload_n 1, 1) := by decide +kernel
theorem dX0_credit_13 : decode cX0_credit 13 = .ok (.aload_n 0, 1) := by decide +kernel
theorem dX0_credit_14 : decode cX0_credit 14 = .ok (.iload_n 2, 1) := by decide +kernel
theorem dX0_credit_15 : decode cX0_credit 15 = .ok (.invokevirtual 140, 3) := by decide +kernel
theorem dX0_credit_18 : decode cX0_credit 18 = .ok (.aload_n 0, 1) := by decide +kernel
theorem dX0_credit_19 : decode cX0_credit 19 = .ok (.getfield 13, 3) := by decide +kernel
theorem dX0_credit_22 : decode cX0_credit 22 = .ok (.iload_n 2, 1) := by decide +kernel
theorem dX0_credit_23 : decode cX0_credit 23 = .ok (.iaload, 1) := by decide +kernel
theorem dX0_credit_24 : decode cX0_credit 24 = .ok (.imul, 1) := by decide +kernel
theorem dX0_credit_25 : decode cX0_credit 25 = .ok (.iadd, 1) := by decide +kernel
theorem dX0_credit_26 : decode cX0_credit 26 = .ok (.istore_n 1, 1) := by decide +kernel
theorem dX0_credit_27 : decode cX0_credit 27 = .ok (.iinc 2 1, 3) := by decide +kernel
theorem dX0_credit_30 : decode cX0_credit 30 = .ok (.goto (-26), 3) := by decide +kernel
theorem dX0_credit_33 : decode cX0_credit 33 = .ok (.iload_n 1, 1) := by decide +kernel
theorem dX0_credit_34 : decode cX0_credit 34 = .ok (.ireturn, 1) := by decide +kernel
theorem dX0_escrow_0 : decode cX0_escrow 0 = .ok (.iload_n 1, 1) := by decide +kernel
theorem dX0_escrow_1 : decode cX0_escrow 1 = .ok (.ifCond .lt 11, 3) := by decide +kernel
theorem dX0_escrow_4 : decode cX0_escrow 4 = .ok (.iload_n 1, 1) := by decide +kernel
theorem dX0_escrow_5 : decode cX0_escrow 5 = .ok (.aload_n 0, 1) := by decide +kernel
theorem dX0_escrow_6 : decode cX0_escrow 6 = .ok (.getfield 45, 3) := by decide +kernel
theorem dX0_escrow_9 : decode cX0_escrow 9 = .ok (.if_icmp .lt 13, 3) := by decide +kernel
theorem dX0_escrow_12 : decode cX0_escrow 12 = .ok (.new 144, 3) := by decide +kernel
theorem dX0_escrow_15 : decode cX0_escrow 15 = .ok (.dup, 1) := by decide +kernel
theorem dX0_escrow_16 : decode cX0_escrow 16 = .ok (.ldc 146, 2) := by decide +kernel
theorem dX0_escrow_18 : decode cX0_escrow 18 = .ok (.invokespecial 148, 3) := by decide +kernel
theorem dX0_escrow_21 : decode cX0_escrow 21 = .ok (.athrow, 1) := by decide +kernel
theorem dX0_escrow_22 : decode cX0_escrow 22 = .ok (.aload_n 0, 1) := by decide +kernel
theorem dX0_escrow_23 : decode cX0_escrow 23 = .ok (.getfield 48, 3) := by decide +kernel
theorem dX0_escrow_26 : decode cX0_escrow 26 = .ok (.iload_n 1, 1) := by decide +kernel
theorem dX0_escrow_27 : decode cX0_escrow 27 = .ok (.iaload, 1) := by decide +kernel
theorem dX0_escrow_28 : decode cX0_escrow 28 = .ok (.ireturn, 1) := by decide +kernel
set_option maxRecDepth 20000 in
theorem ggX0_coins_X0_checkKind : GoodIn wsX0_coins wsX0_checkKind := goodIn_ca (goodIn_r _ [7, 1, 2, 8, 17, 18, 19, 20, 21, 22, 23, 24, 25, 26, 27, 28, 29, 30, 31, 32, 33, 34] (by decide +kernel) (by decide +kernel)) (goodIn_sub (fun _ h => List.mem_cons_of_mem _ (List.mem_append_right _ h)) (by decide +kernel))
set_option maxRecDepth 20000 in
theorem gX0_coins_X0_checkKind : GoodIn wsX0_coins (wsV RX0 87 RX0 yX0_checkKind wsX0_checkKind) := goodIn_app (goodIn_of _ (by decide +kernel)) ggX0_coins_X0_checkKind
set_option maxRecDepth 20000 in
theorem ggX0_coins_X0_toldOfKind : GoodIn wsX0_coins wsX0_toldOfKind := goodIn_r _ [12, 13, 14, 15, 16, 17, 18, 19, 20, 21, 22, 23, 24, 25, 26, 27, 28, 29, 30, 31, 32, 33, 34] (by decide +kernel) (by decide +kernel)
set_option maxRecDepth 20000 in
theorem gX0_coins_X0_toldOfKind : GoodIn wsX0_coins (wsV RX0 151 RX0 yX0_toldOfKind wsX0_toldOfKind) := goodIn_app (goodIn_of _ (by decide +kernel)) ggX0_coins_X0_toldOfKind
theorem dX0_coins_0 : decode cX0_coins 0 = .ok (.aload_n 0, 1) := by decide +kernel
theorem dX0_coins_1 : decode cX0_coins 1 = .ok (.iload_n 1, 1) := by decide +kernel
theorem dX0_coins_2 : decode cX0_coins 2 = .ok (.invokevirtual 87, 3) := by decide +kernel
theorem dX0_coins_5 : decode cX0_coins 5 = .ok (.iload_n 2, 1) := by decide +kernel
theorem dX0_coins_6 : decode cX0_coins 6 = .ok (.ifCond .lt 8, 3) := by decide +kernel
theorem dX0_coins_9 : decode cX0_coins 9 = .ok (.iload_n 2, 1) := by decide +kernel
theorem dX0_coins_10 : decode cX0_coins 10 = .ok (.iconst 4, 1) := by decide +kernel
theorem dX0_coins_11 : decode cX0_coins 11 = .ok (.if_icmp .lt 13, 3) := by decide +kernel
theorem dX0_coins_14 : decode cX0_coins 14 = .ok (.new 144, 3) := by decide +kernel
theorem dX0_coins_17 : decode cX0_coins 17 = .ok (.dup, 1) := by decide +kernel
theorem dX0_coins_18 : decode cX0_coins 18 = .ok (.ldc 149, 2) := by decide +kernel
theorem dX0_coins_20 : decode cX0_coins 20 = .ok (.invokespecial 148, 3) := by decide +kernel
theorem dX0_coins_23 : decode cX0_coins 23 = .ok (.athrow, 1) := by decide +kernel
theorem dX0_coins_24 : decode cX0_coins 24 = .ok (.aload_n 0, 1) := by decide +kernel
theorem dX0_coins_25 : decode cX0_coins 25 = .ok (.iload_n 1, 1) := by decide +kernel
theorem dX0_coins_26 : decode cX0_coins 26 = .ok (.iload_n 2, 1) := by decide +kernel
theorem dX0_coins_27 : decode cX0_coins 27 = .ok (.invokevirtual 151, 3) := by decide +kernel
theorem dX0_coins_30 : decode cX0_coins 30 = .ok (.ireturn, 1) := by decide +kernel
set_option maxRecDepth 20000 in
theorem ggX0_fewest_X0_checkAmount : GoodIn wsX0_fewest wsX0_checkAmount := goodIn_ca (goodIn_r _ [6, 7, 8] (by decide +kernel) (by decide +kernel)) (goodIn_sub (fun _ h => List.mem_cons_of_mem _ (List.mem_append_right _ h)) (by decide +kernel))
set_option maxRecDepth 20000 in
theorem gX0_fewest_X0_checkAmount : GoodIn wsX0_fewest (va_wsS RX0 154 yX0_checkAmount wsX0_checkAmount) := goodIn_app (goodIn_of _ (by decide +kernel)) ggX0_fewest_X0_checkAmount
set_option maxRecDepth 20000 in
theorem ggX0_fewest_X0_scoreWays : GoodIn wsX0_fewest wsX0_scoreWays := goodIn_r _ [12, 13, 14, 15, 16, 17, 2, 18, 19, 20, 21, 5, 22, 23, 24, 25, 26, 27, 28, 29, 30, 31, 32, 33, 34, 35, 43, 44, 45, 46, 47, 48, 49, 50, 51, 52, 53, 54, 55, 56, 57, 58, 59, 60] (by decide +kernel) (by decide +kernel)
set_option maxRecDepth 20000 in
theorem gX0_fewest_X0_scoreWays : GoodIn wsX0_fewest (wsV RX0 118 RX0 yX0_scoreWays wsX0_scoreWays) := goodIn_app (goodIn_of _ (by decide +kernel)) ggX0_fewest_X0_scoreWays
set_option maxRecDepth 20000 in
theorem ggX0_fewest_X0_scoreOf : GoodIn wsX0_fewest wsX0_scoreOf := goodIn_r _ [39, 2, 17, 43, 44, 45, 46, 47, 48, 49, 50, 51, 52, 53, 54, 55, 56, 57, 58, 59, 60] (by decide +kernel) (by decide +kernel)
set_option maxRecDepth 20000 in
theorem gX0_fewest_X0_scoreOf : GoodIn wsX0_fewest (wsV RX0 122 RX0 yX0_scoreOf wsX0_scoreOf) := goodIn_app (goodIn_of _ (by decide +kernel)) ggX0_fewest_X0_scoreOf
set_option maxRecDepth 20000 in
theorem ggX0_fewest_X0_coinsInWay : GoodIn wsX0_fewest wsX0_coinsInWay := goodIn_r _ [42] (by decide +kernel) (by decide +kernel)
set_option maxRecDepth 20000 in
theorem gX0_fewest_X0_coinsInWay : GoodIn wsX0_fewest (va_wsS RX0 157 yX0_coinsInWay wsX0_coinsInWay) := goodIn_app (goodIn_of _ (by decide +kernel)) ggX0_fewest_X0_coinsInWay
theorem dX0_fewest_0 : decode cX0_fewest 0 = .ok (.iload_n 1, 1) := by decide +kernel
theorem dX0_fewest_1 : decode cX0_fewest 1 = .ok (.invokestatic 154, 3) := by decide +kernel
theorem dX0_fewest_4 : decode cX0_fewest 4 = .ok (.aload_n 0, 1) := by decide +kernel
theorem dX0_fewest_5 : decode cX0_fewest 5 = .ok (.iload_n 1, 1) := by decide +kernel
theorem dX0_fewest_6 : decode cX0_fewest 6 = .ok (.aload_n 0, 1) := by decide +kernel
theorem dX0_fewest_7 : decode cX0_fewest 7 = .ok (.getfield 20, 3) := by decide +kernel
theorem dX0_fewest_10 : decode cX0_fewest 10 = .ok (.invokevirtual 118, 3) := by decide +kernel
theorem dX0_fewest_13 : decode cX0_fewest 13 = .ok (.aload_n 0, 1) := by decide +kernel
theorem dX0_fewest_14 : decode cX0_fewest 14 = .ok (.iload_n 1, 1) := by decide +kernel
theorem dX0_fewest_15 : decode cX0_fewest 15 = .ok (.invokevirtual 122, 3) := by decide +kernel
theorem dX0_fewest_18 : decode cX0_fewest 18 = .ok (.lstore_n 2, 1) := by decide +kernel
theorem dX0_fewest_19 : decode cX0_fewest 19 = .ok (.lload_n 2, 1) := by decide +kernel
theorem dX0_fewest_20 : decode cX0_fewest 20 = .ok (.ldc2_w 126, 3) := by decide +kernel
theorem dX0_fewest_23 : decode cX0_fewest 23 = .ok (.lcmp, 1) := by decide +kernel
theorem dX0_fewest_24 : decode cX0_fewest 24 = .ok (.ifCond .ne 7, 3) := by decide +kernel
theorem dX0_fewest_27 : decode cX0_fewest 27 = .ok (.iconst (-1), 1) := by decide +kernel
theorem dX0_fewest_28 : decode cX0_fewest 28 = .ok (.goto 7, 3) := by decide +kernel
theorem dX0_fewest_31 : decode cX0_fewest 31 = .ok (.lload_n 2, 1) := by decide +kernel
theorem dX0_fewest_32 : decode cX0_fewest 32 = .ok (.invokestatic 157, 3) := by decide +kernel
theorem dX0_fewest_35 : decode cX0_fewest 35 = .ok (.ireturn, 1) := by decide +kernel
set_option maxRecDepth 20000 in
theorem ggX0_part_X0_checkAmount : GoodIn wsX0_part wsX0_checkAmount := goodIn_ca (goodIn_r _ [6, 7, 8] (by decide +kernel) (by decide +kernel)) (goodIn_sub (fun _ h => List.mem_cons_of_mem _ (List.mem_append_left _ (List.mem_append_right _ h))) (by decide +kernel))
set_option maxRecDepth 20000 in
theorem gX0_part_X0_checkAmount : GoodIn wsX0_part (va_wsS RX0 154 yX0_checkAmount wsX0_checkAmount) := goodIn_app (goodIn_of _ (by decide +kernel)) ggX0_part_X0_checkAmount
set_option maxRecDepth 20000 in
theorem ggX0_part_X0_checkKind : GoodIn wsX0_part wsX0_checkKind := goodIn_ca (goodIn_r _ [12, 13, 14, 15, 51, 52, 53, 54, 55, 56, 57, 58, 59, 60, 61, 62, 63, 64, 65, 66, 67, 68] (by decide +kernel) (by decide +kernel)) (goodIn_sub (fun _ h => List.mem_cons_of_mem _ (List.mem_append_right _ h)) (by decide +kernel))
set_option maxRecDepth 20000 in
theorem gX0_part_X0_checkKind : GoodIn wsX0_part (wsV RX0 87 RX0 yX0_checkKind wsX0_checkKind) := goodIn_app (goodIn_of _ (by decide +kernel)) ggX0_part_X0_checkKind
set_option maxRecDepth 20000 in
theorem ggX0_part_X0_scoreWays : GoodIn wsX0_part wsX0_scoreWays := goodIn_r _ [19, 20, 21, 22, 23, 24, 2, 15, 25, 26, 27, 5, 28, 29, 30, 31, 32, 33, 34, 35, 36, 37, 38, 39, 40, 41, 51, 52, 53, 54, 55, 56, 57, 58, 59, 60, 61, 62, 63, 64, 65, 66, 67, 68] (by decide +kernel) (by decide +kernel)
set_option maxRecDepth 20000 in
theorem gX0_part_X0_scoreWays : GoodIn wsX0_part (wsV RX0 118 RX0 yX0_scoreWays wsX0_scoreWays) := goodIn_app (goodIn_of _ (by decide +kernel)) ggX0_part_X0_scoreWays
set_option maxRecDepth 20000 in
theorem ggX0_part_X0_scoreOf : GoodIn wsX0_part wsX0_scoreOf := goodIn_r _ [45, 2, 24, 51, 52, 53, 54, 55, 56, 57, 58, 59, 60, 61, 62, 63, 64, 65, 66, 67, 68] (by decide +kernel) (by decide +kernel)
set_option maxRecDepth 20000 in
theorem gX0_part_X0_scoreOf : GoodIn wsX0_part (wsV RX0 122 RX0 yX0_scoreOf wsX0_scoreOf) := goodIn_app (goodIn_of _ (by decide +kernel)) ggX0_part_X0_scoreOf
set_option maxRecDepth 20000 in
theorem ggX0_part_X0_coinsOfKindInWay : GoodIn wsX0_part wsX0_coinsOfKindInWay := goodIn_r _ [49, 50, 31, 32, 33, 5, 34, 15, 30, 51, 52, 53, 54, 55, 56, 57, 58, 59, 60, 61, 62, 63, 64, 65, 66, 67, 68] (by decide +kernel) (by decide +kernel)
set_option maxRecDepth 20000 in
theorem gX0_part_X0_coinsOfKindInWay : GoodIn wsX0_part (wsV RX0 161 RX0 yX0_coinsOfKindInWay wsX0_coinsOfKindInWay) := goodIn_app (goodIn_of _ (by decide +kernel)) ggX0_part_X0_coinsOfKindInWay
theorem dX0_part_0 : decode cX0_part 0 = .ok (.iload_n 1, 1) := by decide +kernel
theorem dX0_part_1 : decode cX0_part 1 = .ok (.invokestatic 154, 3) := by decide +kernel
theorem dX0_part_4 : decode cX0_part 4 = .ok (.aload_n 0, 1) := by decide +kernel
theorem dX0_part_5 : decode cX0_part 5 = .ok (.iload_n 2, 1) := by decide +kernel
theorem dX0_part_6 : decode cX0_part 6 = .ok (.invokevirtual 87, 3) := by decide +kernel
theorem dX0_part_9 : decode cX0_part 9 = .ok (.aload_n 0, 1) := by decide +kernel
theorem dX0_part_10 : decode cX0_part 10 = .ok (.iload_n 1, 1) := by decide +kernel
theorem dX0_part_11 : decode cX0_part 11 = .ok (.aload_n 0, 1) := by decide +kernel
theorem dX0_part_12 : decode cX0_part 12 = .ok (.getfield 20, 3) := by decide +kernel
theorem dX0_part_15 : decode cX0_part 15 = .ok (.invokevirtual 118, 3) := by decide +kernel
theorem dX0_part_18 : decode cX0_part 18 = .ok (.aload_n 0, 1) := by decide +kernel
theorem dX0_part_19 : decode cX0_part 19 = .ok (.iload_n 1, 1) := by decide +kernel
theorem dX0_part_20 : decode cX0_part 20 = .ok (.invokevirtual 122, 3) := by decide +kernel
theorem dX0_part_23 : decode cX0_part 23 = .ok (.lstore_n 3, 1) := by decide +kernel
theorem dX0_part_24 : decode cX0_part 24 = .ok (.lload_n 3, 1) := by decide +kernel
theorem dX0_part_25 : decode cX0_part 25 = .ok (.ldc2_w 126, 3) := by decide +kernel
theorem dX0_part_28 : decode cX0_part 28 = .ok (.lcmp, 1) := by decide +kernel
theorem dX0_part_29 : decode cX0_part 29 = .ok (.ifCond .ne 7, 3) := by decide +kernel
theorem dX0_part_32 : decode cX0_part 32 = .ok (.iconst (-1), 1) := by decide +kernel
theorem dX0_part_33 : decode cX0_part 33 = .ok (.goto 9, 3) := by decide +kernel
theorem dX0_part_36 : decode cX0_part 36 = .ok (.aload_n 0, 1) := by decide +kernel
theorem dX0_part_37 : decode cX0_part 37 = .ok (.lload_n 3, 1) := by decide +kernel
theorem dX0_part_38 : decode cX0_part 38 = .ok (.iload_n 2, 1) := by decide +kernel
theorem dX0_part_39 : decode cX0_part 39 = .ok (.invokevirtual 161, 3) := by decide +kernel
theorem dX0_part_42 : decode cX0_part 42 = .ok (.ireturn, 1) := by decide +kernel
set_option maxRecDepth 20000 in
theorem ggX0_below_X0_checkAmount : GoodIn wsX0_below wsX0_checkAmount := goodIn_ca (goodIn_r _ [6, 7, 8] (by decide +kernel) (by decide +kernel)) (goodIn_sub (fun _ h => List.mem_cons_of_mem _ (List.mem_append_right _ h)) (by decide +kernel))
set_option maxRecDepth 20000 in
theorem gX0_below_X0_checkAmount : GoodIn wsX0_below (va_wsS RX0 154 yX0_checkAmount wsX0_checkAmount) := goodIn_app (goodIn_of _ (by decide +kernel)) ggX0_below_X0_checkAmount
set_option maxRecDepth 20000 in
theorem ggX0_below_X0_scoreWays : GoodIn wsX0_below wsX0_scoreWays := goodIn_r _ [12, 13, 14, 15, 16, 17, 2, 18, 19, 20, 21, 5, 22, 23, 24, 25, 26, 27, 28, 29, 30, 31, 32, 33, 34, 35, 40, 41, 42, 43, 44, 45, 46, 47, 48, 49, 50, 51, 52, 53, 54, 55, 56, 57] (by decide +kernel) (by decide +kernel)
set_option maxRecDepth 20000 in
theorem gX0_below_X0_scoreWays : GoodIn wsX0_below (wsV RX0 118 RX0 yX0_scoreWays wsX0_scoreWays) := goodIn_app (goodIn_of _ (by decide +kernel)) ggX0_below_X0_scoreWays
set_option maxRecDepth 20000 in
theorem ggX0_below_X0_scoreOf : GoodIn wsX0_below wsX0_scoreOf := goodIn_r _ [39, 2, 17, 40, 41, 42, 43, 44, 45, 46, 47, 48, 49, 50, 51, 52, 53, 54, 55, 56, 57] (by decide +kernel) (by decide +kernel)
set_option maxRecDepth 20000 in
theorem gX0_below_X0_scoreOf : GoodIn wsX0_below (wsV RX0 122 RX0 yX0_scoreOf wsX0_scoreOf) := goodIn_app (goodIn_of _ (by decide +kernel)) ggX0_below_X0_scoreOf
theorem dX0_below_0 : decode cX0_below 0 = .ok (.iload_n 1, 1) := by decide +kernel
theorem dX0_below_1 : decode cX0_below 1 = .ok (.invokestatic 154, 3) := by decide +kernel
theorem dX0_below_4 : decode cX0_below 4 = .ok (.aload_n 0, 1) := by decide +kernel
theorem dX0_below_5 : decode cX0_below 5 = .ok (.iload_n 1, 1) := by decide +kernel
theorem dX0_below_6 : decode cX0_below 6 = .ok (.aload_n 0, 1) := by decide +kernel
theorem dX0_below_7 : decode cX0_below 7 = .ok (.getfield 20, 3) := by decide +kernel
theorem dX0_below_10 : decode cX0_below 10 = .ok (.invokevirtual 118, 3) := by decide +kernel
theorem dX0_below_13 : decode cX0_below 13 = .ok (.iload_n 1, 1) := by decide +kernel
theorem dX0_below_14 : decode cX0_below 14 = .ok (.istore_n 2, 1) := by decide +kernel
theorem dX0_below_15 : decode cX0_below 15 = .ok (.iload_n 2, 1) := by decide +kernel
theorem dX0_below_16 : decode cX0_below 16 = .ok (.ifCond .le 23, 3) := by decide +kernel
theorem dX0_below_19 : decode cX0_below 19 = .ok (.aload_n 0, 1) := by decide +kernel
theorem dX0_below_20 : decode cX0_below 20 = .ok (.iload_n 2, 1) := by decide +kernel
theorem dX0_below_21 : decode cX0_below 21 = .ok (.invokevirtual 122, 3) := by decide +kernel
theorem dX0_below_24 : decode cX0_below 24 = .ok (.ldc2_w 126, 3) := by decide +kernel
theorem dX0_below_27 : decode cX0_below 27 = .ok (.lcmp, 1) := by decide +kernel
theorem dX0_below_28 : decode cX0_below 28 = .ok (.ifCond .eq 5, 3) := by decide +kernel
theorem dX0_below_31 : decode cX0_below 31 = .ok (.iload_n 2, 1) := by decide +kernel
theorem dX0_below_32 : decode cX0_below 32 = .ok (.ireturn, 1) := by decide +kernel
theorem dX0_below_33 : decode cX0_below 33 = .ok (.iinc 2 (-1), 3) := by decide +kernel
theorem dX0_below_36 : decode cX0_below 36 = .ok (.goto (-21), 3) := by decide +kernel
theorem dX0_below_39 : decode cX0_below 39 = .ok (.iconst 0, 1) := by decide +kernel
theorem dX0_below_40 : decode cX0_below 40 = .ok (.ireturn, 1) := by decide +kernel
set_option maxRecDepth 20000 in
theorem ggX0_gaps_X0_checkAmount : GoodIn wsX0_gaps wsX0_checkAmount := goodIn_ca (goodIn_r _ [6, 7, 8] (by decide +kernel) (by decide +kernel)) (goodIn_sub (fun _ h => List.mem_cons_of_mem _ (List.mem_append_right _ h)) (by decide +kernel))
set_option maxRecDepth 20000 in
theorem gX0_gaps_X0_checkAmount : GoodIn wsX0_gaps (va_wsS RX0 154 yX0_checkAmount wsX0_checkAmount) := goodIn_app (goodIn_of _ (by decide +kernel)) ggX0_gaps_X0_checkAmount
set_option maxRecDepth 20000 in
theorem ggX0_gaps_X0_unit : GoodIn wsX0_gaps wsX0_unit := goodIn_r _ [12, 13, 14, 15, 16, 5, 17, 18, 48, 49, 50, 51, 52, 53, 54, 55, 56, 57, 58, 59, 60, 61, 62, 63, 64, 65] (by decide +kernel) (by decide +kernel)
set_option maxRecDepth 20000 in
theorem gX0_gaps_X0_unit : GoodIn wsX0_gaps (wsV RX0 165 RX0 yX0_unit wsX0_unit) := goodIn_app (goodIn_of _ (by decide +kernel)) ggX0_gaps_X0_unit
set_option maxRecDepth 20000 in
theorem ggX0_gaps_X0_scoreWays : GoodIn wsX0_gaps wsX0_scoreWays := goodIn_r _ [22, 23, 24, 25, 26, 27, 2, 13, 28, 29, 30, 5, 31, 32, 18, 33, 34, 35, 36, 37, 38, 39, 40, 41, 42, 43, 48, 49, 50, 51, 52, 53, 54, 55, 56, 57, 58, 59, 60, 61, 62, 63, 64, 65] (by decide +kernel) (by decide +kernel)
set_option maxRecDepth 20000 in
theorem gX0_gaps_X0_scoreWays : GoodIn wsX0_gaps (wsV RX0 118 RX0 yX0_scoreWays wsX0_scoreWays) := goodIn_app (goodIn_of _ (by decide +kernel)) ggX0_gaps_X0_scoreWays
set_option maxRecDepth 20000 in
theorem ggX0_gaps_X0_scoreOf : GoodIn wsX0_gaps wsX0_scoreOf := goodIn_r _ [47, 2, 27, 48, 49, 50, 51, 52, 53, 54, 55, 56, 57, 58, 59, 60, 61, 62, 63, 64, 65] (by decide +kernel) (by decide +kernel)
set_option maxRecDepth 20000 in
theorem gX0_gaps_X0_scoreOf : GoodIn wsX0_gaps (wsV RX0 122 RX0 yX0_scoreOf wsX0_scoreOf) := goodIn_app (goodIn_of _ (by decide +kernel)) ggX0_gaps_X0_scoreOf
theorem dX0_gaps_0 : decode cX0_gaps 0 = .ok (.iload_n 1, 1) := by decide +kernel
theorem dX0_gaps_1 : decode cX0_gaps 1 = .ok (.invokestatic 154, 3) := by decide +kernel
theorem dX0_gaps_4 : decode cX0_gaps 4 = .ok (.aload_n 0, 1) := by decide +kernel
theorem dX0_gaps_5 : decode cX0_gaps 5 = .ok (.invokevirtual 165, 3) := by decide +kernel
theorem dX0_gaps_8 : decode cX0_gaps 8 = .ok (.istore_n 2, 1) := by decide +kernel
theorem dX0_gaps_9 : decode cX0_gaps 9 = .ok (.iload_n 2, 1) := by decide +kernel
theorem dX0_gaps_10 : decode cX0_gaps 10 = .ok (.iconst 1, 1) := by decide +kernel
theorem dX0_gaps_11 : decode cX0_gaps 11 = .ok (.if_icmp .ge 5, 3) := by decide +kernel
theorem dX0_gaps_14 : decode cX0_gaps 14 = .ok (.iconst 0, 1) := by decide +kernel
theorem dX0_gaps_15 : decode cX0_gaps 15 = .ok (.ireturn, 1) := by decide +kernel
theorem dX0_gaps_16 : decode cX0_gaps 16 = .ok (.aload_n 0, 1) := by decide +kernel
theorem dX0_gaps_17 : decode cX0_gaps 17 = .ok (.iload_n 1, 1) := by decide +kernel
theorem dX0_gaps_18 : decode cX0_gaps 18 = .ok (.aload_n 0, 1) := by decide +kernel
theorem dX0_gaps_19 : decode cX0_gaps 19 = .ok (.getfield 20, 3) := by decide +kernel
theorem dX0_gaps_22 : decode cX0_gaps 22 = .ok (.invokevirtual 118, 3) := by decide +kernel
theorem dX0_gaps_25 : decode cX0_gaps 25 = .ok (.iconst 0, 1) := by decide +kernel
theorem dX0_gaps_26 : decode cX0_gaps 26 = .ok (.istore_n 3, 1) := by decide +kernel
theorem dX0_gaps_27 : decode cX0_gaps 27 = .ok (.iconst 1, 1) := by decide +kernel
theorem dX0_gaps_28 : decode cX0_gaps 28 = .ok (.istore 4, 2) := by decide +kernel
theorem dX0_gaps_30 : decode cX0_gaps 30 = .ok (.iload 4, 2) := by decide +kernel
theorem dX0_gaps_32 : decode cX0_gaps 32 = .ok (.iload_n 1, 1) := by decide +kernel
theorem dX0_gaps_33 : decode cX0_gaps 33 = .ok (.if_icmp .gt 32, 3) := by decide +kernel
theorem dX0_gaps_36 : decode cX0_gaps 36 = .ok (.iload 4, 2) := by decide +kernel
theorem dX0_gaps_38 : decode cX0_gaps 38 = .ok (.iload_n 2, 1) := by decide +kernel
theorem dX0_gaps_39 : decode cX0_gaps 39 = .ok (.irem, 1) := by decide +kernel
theorem dX0_gaps_40 : decode cX0_gaps 40 = .ok (.ifCond .ne 19, 3) := by decide +kernel
theorem dX0_gaps_43 : decode cX0_gaps 43 = .ok (.aload_n 0, 1) := by decide +kernel
theorem dX0_gaps_44 : decode cX0_gaps 44 = .ok (.iload 4, 2) := by decide +kernel
theorem dX0_gaps_46 : decode cX0_gaps 46 = .ok (.invokevirtual 122, 3) := by decide +kernel
theorem dX0_gaps_49 : decode cX0_gaps 49 = .ok (.ldc2_w 126, 3) := by decide +kernel
theorem dX0_gaps_52 : decode cX0_gaps 52 = .ok (.lcmp, 1) := by decide +kernel
theorem dX0_gaps_53 : decode cX0_gaps 53 = .ok (.ifCond .ne 6, 3) := by decide +kernel
theorem dX0_gaps_56 : decode cX0_gaps 56 = .ok (.iinc 3 1, 3) := by decide +kernel
theorem dX0_gaps_59 : decode cX0_gaps 59 = .ok (.iinc 4 1, 3) := by decide +kernel
theorem dX0_gaps_62 : decode cX0_gaps 62 = .ok (.goto (-32), 3) := by decide +kernel
theorem dX0_gaps_65 : decode cX0_gaps 65 = .ok (.iload_n 3, 1) := by decide +kernel
theorem dX0_gaps_66 : decode cX0_gaps 66 = .ok (.ireturn, 1) := by decide +kernel
set_option maxRecDepth 20000 in
theorem ggX0_unit_X0_dividesAllValues : GoodIn wsX0_unit wsX0_dividesAllValues := goodIn_r _ [6, 1, 7, 8, 9, 10, 11, 12, 13, 14, 15, 16, 17, 18, 19, 20, 21, 22, 23, 24, 25] (by decide +kernel) (by decide +kernel)
set_option maxRecDepth 20000 in
theorem gX0_unit_X0_dividesAllValues : GoodIn wsX0_unit (wsV RX0 168 RX0 yX0_dividesAllValues wsX0_dividesAllValues) := goodIn_app (goodIn_of _ (by decide +kernel)) ggX0_unit_X0_dividesAllValues
theorem dX0_unit_0 : decode cX0_unit 0 = .ok (.aload_n 0, 1) := by decide +kernel
theorem dX0_unit_1 : decode cX0_unit 1 = .ok (.getfield 9, 3) := by decide +kernel
theorem dX0_unit_4 : decode cX0_unit 4 = .ok (.ifCond .ne 5, 3) := by decide +kernel
theorem dX0_unit_7 : decode cX0_unit 7 = .ok (.iconst 0, 1) := by decide +kernel
theorem dX0_unit_8 : decode cX0_unit 8 = .ok (.ireturn, 1) := by decide +kernel
theorem dX0_unit_9 : decode cX0_unit 9 = .ok (.sipush 500, 3) := by decide +kernel
theorem dX0_unit_12 : decode cX0_unit 12 = .ok (.istore_n 1, 1) := by decide +kernel
theorem dX0_unit_13 : decode cX0_unit 13 = .ok (.iload_n 1, 1) := by decide +kernel
theorem dX0_unit_14 : decode cX0_unit 14 = .ok (.iconst 1, 1) := by decide +kernel
theorem dX0_unit_15 : decode cX0_unit 15 = .ok (.if_icmp .le 19, 3) := by decide +kernel
theorem dX0_unit_18 : decode cX0_unit 18 = .ok (.aload_n 0, 1) := by decide +kernel
theorem dX0_unit_19 : decode cX0_unit 19 = .ok (.iload_n 1, 1) := by decide +kernel
theorem dX0_unit_20 : decode cX0_unit 20 = .ok (.invokevirtual 168, 3) := by decide +kernel
theorem dX0_unit_23 : decode cX0_unit 23 = .ok (.ifCond .eq 5, 3) := by decide +kernel
theorem dX0_unit_26 : decode cX0_unit 26 = .ok (.iload_n 1, 1) := by decide +kernel
theorem dX0_unit_27 : decode cX0_unit 27 = .ok (.ireturn, 1) := by decide +kernel
theorem dX0_unit_28 : decode cX0_unit 28 = .ok (.iinc 1 (-1), 3) := by decide +kernel
theorem dX0_unit_31 : decode cX0_unit 31 = .ok (.goto (-18), 3) := by decide +kernel
theorem dX0_unit_34 : decode cX0_unit 34 = .ok (.iconst 1, 1) := by decide +kernel
theorem dX0_unit_35 : decode cX0_unit 35 = .ok (.ireturn, 1) := by decide +kernel
set_option maxRecDepth 20000 in
theorem ggX0_lamp_X0_scoreWays : GoodIn wsX0_lamp wsX0_scoreWays := goodIn_r _ [9, 10, 11, 12, 13, 14, 15, 16, 17, 18, 19, 8, 20, 21, 22, 23, 24, 25, 26, 27, 28, 29, 30, 31, 32, 33, 46, 47, 48, 49, 50, 51, 52, 53, 54, 55, 56, 57, 58, 59, 60, 61, 62, 63] (by decide +kernel) (by decide +kernel)
set_option maxRecDepth 20000 in
theorem gX0_lamp_X0_scoreWays : GoodIn wsX0_lamp (wsV RX0 118 RX0 yX0_scoreWays wsX0_scoreWays) := goodIn_app (goodIn_of _ (by decide +kernel)) ggX0_lamp_X0_scoreWays
set_option maxRecDepth 20000 in
theorem ggX0_lamp_X0_needsExactMoney : GoodIn wsX0_lamp wsX0_needsExactMoney := goodIn_r _ [37, 16, 38, 22, 15, 39, 40, 8, 41, 42, 43, 44, 45, 14, 46, 47, 48, 49, 50, 51, 52, 53, 54, 55, 56, 57, 58, 59, 60, 61, 62, 63] (by decide +kernel) (by decide +kernel)
set_option maxRecDepth 20000 in
theorem gX0_lamp_X0_needsExactMoney : GoodIn wsX0_lamp (wsV RX0 171 RX0 yX0_needsExactMoney wsX0_needsExactMoney) := goodIn_app (goodIn_of _ (by decide +kernel)) ggX0_lamp_X0_needsExactMoney
theorem dX0_lamp_0 : decode cX0_lamp 0 = .ok (.aload_n 0, 1) := by decide +kernel
theorem dX0_lamp_1 : decode cX0_lamp 1 = .ok (.sipush 500, 3) := by decide +kernel
theorem dX0_lamp_4 : decode cX0_lamp 4 = .ok (.aload_n 0, 1) := by decide +kernel
theorem dX0_lamp_5 : decode cX0_lamp 5 = .ok (.getfield 20, 3) := by decide +kernel
theorem dX0_lamp_8 : decode cX0_lamp 8 = .ok (.invokevirtual 118, 3) := by decide +kernel
theorem dX0_lamp_11 : decode cX0_lamp 11 = .ok (.iconst 0, 1) := by decide +kernel
theorem dX0_lamp_12 : decode cX0_lamp 12 = .ok (.istore_n 1, 1) := by decide +kernel
theorem dX0_lamp_13 : decode cX0_lamp 13 = .ok (.iload_n 1, 1) := by decide +kernel
theorem dX0_lamp_14 : decode cX0_lamp 14 = .ok (.aload_n 0, 1) := by decide +kernel
theorem dX0_lamp_15 : decode cX0_lamp 15 = .ok (.getfield 33, 3) := by decide +kernel
theorem dX0_lamp_18 : decode cX0_lamp 18 = .ok (.if_icmp .ge 33, 3) := by decide +kernel
theorem dX0_lamp_21 : decode cX0_lamp 21 = .ok (.aload_n 0, 1) := by decide +kernel
theorem dX0_lamp_22 : decode cX0_lamp 22 = .ok (.getfield 39, 3) := by decide +kernel
theorem dX0_lamp_25 : decode cX0_lamp 25 = .ok (.iload_n 1, 1) := by decide +kernel
theorem dX0_lamp_26 : decode cX0_lamp 26 = .ok (.iaload, 1) := by decide +kernel
theorem dX0_lamp_27 : decode cX0_lamp 27 = .ok (.ifCond .le 18, 3) := by decide +kernel
theorem dX0_lamp_30 : decode cX0_lamp 30 = .ok (.aload_n 0, 1) := by decide +kernel
theorem dX0_lamp_31 : decode cX0_lamp 31 = .ok (.aload_n 0, 1) := by decide +kernel
theorem dX0_lamp_32 : decode cX0_lamp 32 = .ok (.getfield 36, 3) := by decide +kernel
theorem dX0_lamp_35 : decode cX0_lamp 35 = .ok (.iload_n 1, 1) := by decide +kernel
theorem dX0_lamp_36 : decode cX0_lamp 36 = .ok (.iaload, 1) := by decide +kernel
theorem dX0_lamp_37 : decode cX0_lamp 37 = .ok (.invokevirtual 171, 3) := by decide +kernel
theorem dX0_lamp_40 : decode cX0_lamp 40 = .ok (.ifCond .eq 5, 3) := by decide +kernel
theorem dX0_lamp_43 : decode cX0_lamp 43 = .ok (.iconst 1, 1) := by decide +kernel
theorem dX0_lamp_44 : decode cX0_lamp 44 = .ok (.ireturn, 1) := by decide +kernel
theorem dX0_lamp_45 : decode cX0_lamp 45 = .ok (.iinc 1 1, 3) := by decide +kernel
theorem dX0_lamp_48 : decode cX0_lamp 48 = .ok (.goto (-35), 3) := by decide +kernel
theorem dX0_lamp_51 : decode cX0_lamp 51 = .ok (.iconst 0, 1) := by decide +kernel
theorem dX0_lamp_52 : decode cX0_lamp 52 = .ok (.ireturn, 1) := by decide +kernel
theorem dX0_audit_0 : decode cX0_audit 0 = .ok (.iload_n 1, 1) := by decide +kernel
theorem dX0_audit_1 : decode cX0_audit 1 = .ok (.ifCond .lt 9, 3) := by decide +kernel
theorem dX0_audit_4 : decode cX0_audit 4 = .ok (.iload_n 1, 1) := by decide +kernel
theorem dX0_audit_5 : decode cX0_audit 5 = .ok (.bipush 10, 2) := by decide +kernel
theorem dX0_audit_7 : decode cX0_audit 7 = .ok (.if_icmp .lt 13, 3) := by decide +kernel
theorem dX0_audit_10 : decode cX0_audit 10 = .ok (.new 144, 3) := by decide +kernel
theorem dX0_audit_13 : decode cX0_audit 13 = .ok (.dup, 1) := by decide +kernel
theorem dX0_audit_14 : decode cX0_audit 14 = .ok (.ldc 174, 2) := by decide +kernel
theorem dX0_audit_16 : decode cX0_audit 16 = .ok (.invokespecial 148, 3) := by decide +kernel
theorem dX0_audit_19 : decode cX0_audit 19 = .ok (.athrow, 1) := by decide +kernel
theorem dX0_audit_20 : decode cX0_audit 20 = .ok (.aload_n 0, 1) := by decide +kernel
theorem dX0_audit_21 : decode cX0_audit 21 = .ok (.getfield 57, 3) := by decide +kernel
theorem dX0_audit_24 : decode cX0_audit 24 = .ok (.iload_n 1, 1) := by decide +kernel
theorem dX0_audit_25 : decode cX0_audit 25 = .ok (.laload, 1) := by decide +kernel
theorem dX0_audit_26 : decode cX0_audit 26 = .ok (.lreturn, 1) := by decide +kernel
theorem dX0_exactShare_0 : decode cX0_exactShare 0 = .ok (.aload_n 0, 1) := by decide +kernel
theorem dX0_exactShare_1 : decode cX0_exactShare 1 = .ok (.getfield 57, 3) := by decide +kernel
theorem dX0_exactShare_4 : decode cX0_exactShare 4 = .ok (.bipush 8, 2) := by decide +kernel
theorem dX0_exactShare_6 : decode cX0_exactShare 6 = .ok (.laload, 1) := by decide +kernel
theorem dX0_exactShare_7 : decode cX0_exactShare 7 = .ok (.lstore_n 1, 1) := by decide +kernel
theorem dX0_exactShare_8 : decode cX0_exactShare 8 = .ok (.lload_n 1, 1) := by decide +kernel
theorem dX0_exactShare_9 : decode cX0_exactShare 9 = .ok (.lconst 0, 1) := by decide +kernel
theorem dX0_exactShare_10 : decode cX0_exactShare 10 = .ok (.lcmp, 1) := by decide +kernel
theorem dX0_exactShare_11 : decode cX0_exactShare 11 = .ok (.ifCond .ne 7, 3) := by decide +kernel
theorem dX0_exactShare_14 : decode cX0_exactShare 14 = .ok (.dconst 1, 1) := by decide +kernel
theorem dX0_exactShare_15 : decode cX0_exactShare 15 = .ok (.goto 14, 3) := by decide +kernel
theorem dX0_exactShare_18 : decode cX0_exactShare 18 = .ok (.aload_n 0, 1) := by decide +kernel
theorem dX0_exactShare_19 : decode cX0_exactShare 19 = .ok (.getfield 57, 3) := by decide +kernel
theorem dX0_exactShare_22 : decode cX0_exactShare 22 = .ok (.bipush 9, 2) := by decide +kernel
theorem dX0_exactShare_24 : decode cX0_exactShare 24 = .ok (.laload, 1) := by decide +kernel
theorem dX0_exactShare_25 : decode cX0_exactShare 25 = .ok (.l2d, 1) := by decide +kernel
theorem dX0_exactShare_26 : decode cX0_exactShare 26 = .ok (.lload_n 1, 1) := by decide +kernel
theorem dX0_exactShare_27 : decode cX0_exactShare 27 = .ok (.l2d, 1) := by decide +kernel
theorem dX0_exactShare_28 : decode cX0_exactShare 28 = .ok (.ddiv, 1) := by decide +kernel
theorem dX0_exactShare_29 : decode cX0_exactShare 29 = .ok (.dreturn, 1) := by decide +kernel
set_option maxRecDepth 20000 in
theorem ggX0_digest_X0_digestOfKinds : GoodIn wsX0_digest wsX0_digestOfKinds := goodIn_r _ [14, 2, 15, 16, 17, 18, 19, 13, 20, 21, 22, 23, 24, 25, 26, 27, 28, 29, 30, 31, 32, 33, 34, 35, 36, 37, 38, 39, 40, 41, 42] (by decide +kernel) (by decide +kernel)
set_option maxRecDepth 20000 in
theorem gX0_digest_X0_digestOfKinds : GoodIn wsX0_digest (wsV RX0 178 RX0 yX0_digestOfKinds wsX0_digestOfKinds) := goodIn_app (goodIn_of _ (by decide +kernel)) ggX0_digest_X0_digestOfKinds
theorem dX0_digest_0 : decode cX0_digest 0 = .ok (.aload_n 0, 1) := by decide +kernel
theorem dX0_digest_1 : decode cX0_digest 1 = .ok (.ldc2_w 176, 3) := by decide +kernel
theorem dX0_digest_4 : decode cX0_digest 4 = .ok (.invokevirtual 178, 3) := by decide +kernel
theorem dX0_digest_7 : decode cX0_digest 7 = .ok (.lstore_n 1, 1) := by decide +kernel
theorem dX0_digest_8 : decode cX0_digest 8 = .ok (.lload_n 1, 1) := by decide +kernel
theorem dX0_digest_9 : decode cX0_digest 9 = .ok (.ldc2_w 182, 3) := by decide +kernel
theorem dX0_digest_12 : decode cX0_digest 12 = .ok (.lmul, 1) := by decide +kernel
theorem dX0_digest_13 : decode cX0_digest 13 = .ok (.aload_n 0, 1) := by decide +kernel
theorem dX0_digest_14 : decode cX0_digest 14 = .ok (.getfield 42, 3) := by decide +kernel
theorem dX0_digest_17 : decode cX0_digest 17 = .ok (.i2l, 1) := by decide +kernel
theorem dX0_digest_18 : decode cX0_digest 18 = .ok (.ladd, 1) := by decide +kernel
theorem dX0_digest_19 : decode cX0_digest 19 = .ok (.lstore_n 1, 1) := by decide +kernel
theorem dX0_digest_20 : decode cX0_digest 20 = .ok (.lload_n 1, 1) := by decide +kernel
theorem dX0_digest_21 : decode cX0_digest 21 = .ok (.ldc2_w 182, 3) := by decide +kernel
theorem dX0_digest_24 : decode cX0_digest 24 = .ok (.lmul, 1) := by decide +kernel
theorem dX0_digest_25 : decode cX0_digest 25 = .ok (.aload_n 0, 1) := by decide +kernel
theorem dX0_digest_26 : decode cX0_digest 26 = .ok (.getfield 33, 3) := by decide +kernel
theorem dX0_digest_29 : decode cX0_digest 29 = .ok (.i2l, 1) := by decide +kernel
theorem dX0_digest_30 : decode cX0_digest 30 = .ok (.ladd, 1) := by decide +kernel
theorem dX0_digest_31 : decode cX0_digest 31 = .ok (.lstore_n 1, 1) := by decide +kernel
theorem dX0_digest_32 : decode cX0_digest 32 = .ok (.iconst 0, 1) := by decide +kernel
theorem dX0_digest_33 : decode cX0_digest 33 = .ok (.istore_n 3, 1) := by decide +kernel
theorem dX0_digest_34 : decode cX0_digest 34 = .ok (.iload_n 3, 1) := by decide +kernel
theorem dX0_digest_35 : decode cX0_digest 35 = .ok (.aload_n 0, 1) := by decide +kernel
theorem dX0_digest_36 : decode cX0_digest 36 = .ok (.getfield 33, 3) := by decide +kernel
theorem dX0_digest_39 : decode cX0_digest 39 = .ok (.if_icmp .ge 37, 3) := by decide +kernel
theorem dX0_digest_42 : decode cX0_digest 42 = .ok (.lload_n 1, 1) := by decide +kernel
theorem dX0_digest_43 : decode cX0_digest 43 = .ok (.ldc2_w 182, 3) := by decide +kernel
theorem dX0_digest_46 : decode cX0_digest 46 = .ok (.lmul, 1) := by decide +kernel
theorem dX0_digest_47 : decode cX0_digest 47 = .ok (.aload_n 0, 1) := by decide +kernel
theorem dX0_digest_48 : decode cX0_digest 48 = .ok (.getfield 36, 3) := by decide +kernel
theorem dX0_digest_51 : decode cX0_digest 51 = .ok (.iload_n 3, 1) := by decide +kernel
theorem dX0_digest_52 : decode cX0_digest 52 = .ok (.iaload, 1) := by decide +kernel
theorem dX0_digest_53 : decode cX0_digest 53 = .ok (.i2l, 1) := by decide +kernel
theorem dX0_digest_54 : decode cX0_digest 54 = .ok (.ladd, 1) := by decide +kernel
theorem dX0_digest_55 : decode cX0_digest 55 = .ok (.lstore_n 1, 1) := by decide +kernel
theorem dX0_digest_56 : decode cX0_digest 56 = .ok (.lload_n 1, 1) := by decide +kernel
theorem dX0_digest_57 : decode cX0_digest 57 = .ok (.ldc2_w 182, 3) := by decide +kernel
theorem dX0_digest_60 : decode cX0_digest 60 = .ok (.lmul, 1) := by decide +kernel
theorem dX0_digest_61 : decode cX0_digest 61 = .ok (.aload_n 0, 1) := by decide +kernel
theorem dX0_digest_62 : decode cX0_digest 62 = .ok (.getfield 39, 3) := by decide +kernel
theorem dX0_digest_65 : decode cX0_digest 65 = .ok (.iload_n 3, 1) := by decide +kernel
theorem dX0_digest_66 : decode cX0_digest 66 = .ok (.iaload, 1) := by decide +kernel
theorem dX0_digest_67 : decode cX0_digest 67 = .ok (.i2l, 1) := by decide +kernel
theorem dX0_digest_68 : decode cX0_digest 68 = .ok (.ladd, 1) := by decide +kernel
theorem dX0_digest_69 : decode cX0_digest 69 = .ok (.lstore_n 1, 1) := by decide +kernel
theorem dX0_digest_70 : decode cX0_digest 70 = .ok (.iinc 3 1, 3) := by decide +kernel
theorem dX0_digest_73 : decode cX0_digest 73 = .ok (.goto (-39), 3) := by decide +kernel
theorem dX0_digest_76 : decode cX0_digest 76 = .ok (.lload_n 1, 1) := by decide +kernel
theorem dX0_digest_77 : decode cX0_digest 77 = .ok (.ldc2_w 182, 3) := by decide +kernel
theorem dX0_digest_80 : decode cX0_digest 80 = .ok (.lmul, 1) := by decide +kernel
theorem dX0_digest_81 : decode cX0_digest 81 = .ok (.aload_n 0, 1) := by decide +kernel
theorem dX0_digest_82 : decode cX0_digest 82 = .ok (.getfield 45, 3) := by decide +kernel
theorem dX0_digest_85 : decode cX0_digest 85 = .ok (.i2l, 1) := by decide +kernel
theorem dX0_digest_86 : decode cX0_digest 86 = .ok (.ladd, 1) := by decide +kernel
theorem dX0_digest_87 : decode cX0_digest 87 = .ok (.lstore_n 1, 1) := by decide +kernel
theorem dX0_digest_88 : decode cX0_digest 88 = .ok (.iconst 0, 1) := by decide +kernel
theorem dX0_digest_89 : decode cX0_digest 89 = .ok (.istore_n 3, 1) := by decide +kernel
theorem dX0_digest_90 : decode cX0_digest 90 = .ok (.iload_n 3, 1) := by decide +kernel
theorem dX0_digest_91 : decode cX0_digest 91 = .ok (.aload_n 0, 1) := by decide +kernel
theorem dX0_digest_92 : decode cX0_digest 92 = .ok (.getfield 45, 3) := by decide +kernel
theorem dX0_digest_95 : decode cX0_digest 95 = .ok (.if_icmp .ge 23, 3) := by decide +kernel
theorem dX0_digest_98 : decode cX0_digest 98 = .ok (.lload_n 1, 1) := by decide +kernel
theorem dX0_digest_99 : decode cX0_digest 99 = .ok (.ldc2_w 182, 3) := by decide +kernel
theorem dX0_digest_102 : decode cX0_digest 102 = .ok (.lmul, 1) := by decide +kernel
theorem dX0_digest_103 : decode cX0_digest 103 = .ok (.aload_n 0, 1) := by decide +kernel
theorem dX0_digest_104 : decode cX0_digest 104 = .ok (.getfield 48, 3) := by decide +kernel
theorem dX0_digest_107 : decode cX0_digest 107 = .ok (.iload_n 3, 1) := by decide +kernel
theorem dX0_digest_108 : decode cX0_digest 108 = .ok (.iaload, 1) := by decide +kernel
theorem dX0_digest_109 : decode cX0_digest 109 = .ok (.i2l, 1) := by decide +kernel
theorem dX0_digest_110 : decode cX0_digest 110 = .ok (.ladd, 1) := by decide +kernel
theorem dX0_digest_111 : decode cX0_digest 111 = .ok (.lstore_n 1, 1) := by decide +kernel
theorem dX0_digest_112 : decode cX0_digest 112 = .ok (.iinc 3 1, 3) := by decide +kernel
theorem dX0_digest_115 : decode cX0_digest 115 = .ok (.goto (-25), 3) := by decide +kernel
theorem dX0_digest_118 : decode cX0_digest 118 = .ok (.iconst 0, 1) := by decide +kernel
theorem dX0_digest_119 : decode cX0_digest 119 = .ok (.istore_n 3, 1) := by decide +kernel
theorem dX0_digest_120 : decode cX0_digest 120 = .ok (.iload_n 3, 1) := by decide +kernel
theorem dX0_digest_121 : decode cX0_digest 121 = .ok (.bipush 10, 2) := by decide +kernel
theorem dX0_digest_123 : decode cX0_digest 123 = .ok (.if_icmp .ge 22, 3) := by decide +kernel
theorem dX0_digest_126 : decode cX0_digest 126 = .ok (.lload_n 1, 1) := by decide +kernel
theorem dX0_digest_127 : decode cX0_digest 127 = .ok (.ldc2_w 182, 3) := by decide +kernel
theorem dX0_digest_130 : decode cX0_digest 130 = .ok (.lmul, 1) := by decide +kernel
theorem dX0_digest_131 : decode cX0_digest 131 = .ok (.aload_n 0, 1) := by decide +kernel
theorem dX0_digest_132 : decode cX0_digest 132 = .ok (.getfield 57, 3) := by decide +kernel
theorem dX0_digest_135 : decode cX0_digest 135 = .ok (.iload_n 3, 1) := by decide +kernel
theorem dX0_digest_136 : decode cX0_digest 136 = .ok (.laload, 1) := by decide +kernel
theorem dX0_digest_137 : decode cX0_digest 137 = .ok (.ladd, 1) := by decide +kernel
theorem dX0_digest_138 : decode cX0_digest 138 = .ok (.lstore_n 1, 1) := by decide +kernel
theorem dX0_digest_139 : decode cX0_digest 139 = .ok (.iinc 3 1, 3) := by decide +kernel
theorem dX0_digest_142 : decode cX0_digest 142 = .ok (.goto (-22), 3) := by decide +kernel
theorem dX0_digest_145 : decode cX0_digest 145 = .ok (.lload_n 1, 1) := by decide +kernel
theorem dX0_digest_146 : decode cX0_digest 146 = .ok (.lreturn, 1) := by decide +kernel
theorem dX0_checkKind_0 : decode cX0_checkKind 0 = .ok (.iload_n 1, 1) := by decide +kernel
theorem dX0_checkKind_1 : decode cX0_checkKind 1 = .ok (.ifCond .lt 11, 3) := by decide +kernel
theorem dX0_checkKind_4 : decode cX0_checkKind 4 = .ok (.iload_n 1, 1) := by decide +kernel
theorem dX0_checkKind_5 : decode cX0_checkKind 5 = .ok (.aload_n 0, 1) := by decide +kernel
theorem dX0_checkKind_6 : decode cX0_checkKind 6 = .ok (.getfield 9, 3) := by decide +kernel
theorem dX0_checkKind_9 : decode cX0_checkKind 9 = .ok (.if_icmp .lt 13, 3) := by decide +kernel
theorem dX0_checkKind_12 : decode cX0_checkKind 12 = .ok (.new 144, 3) := by decide +kernel
theorem dX0_checkKind_15 : decode cX0_checkKind 15 = .ok (.dup, 1) := by decide +kernel
theorem dX0_checkKind_16 : decode cX0_checkKind 16 = .ok (.ldc 184, 2) := by decide +kernel
theorem dX0_checkKind_18 : decode cX0_checkKind 18 = .ok (.invokespecial 148, 3) := by decide +kernel
theorem dX0_checkKind_21 : decode cX0_checkKind 21 = .ok (.athrow, 1) := by decide +kernel
theorem dX0_checkKind_22 : decode cX0_checkKind 22 = .ok (.return_, 1) := by decide +kernel
theorem dX0_checkProduct_0 : decode cX0_checkProduct 0 = .ok (.iload_n 1, 1) := by decide +kernel
theorem dX0_checkProduct_1 : decode cX0_checkProduct 1 = .ok (.ifCond .lt 11, 3) := by decide +kernel
theorem dX0_checkProduct_4 : decode cX0_checkProduct 4 = .ok (.iload_n 1, 1) := by decide +kernel
theorem dX0_checkProduct_5 : decode cX0_checkProduct 5 = .ok (.aload_n 0, 1) := by decide +kernel
theorem dX0_checkProduct_6 : decode cX0_checkProduct 6 = .ok (.getfield 33, 3) := by decide +kernel
theorem dX0_checkProduct_9 : decode cX0_checkProduct 9 = .ok (.if_icmp .lt 13, 3) := by decide +kernel
theorem dX0_checkProduct_12 : decode cX0_checkProduct 12 = .ok (.new 144, 3) := by decide +kernel
theorem dX0_checkProduct_15 : decode cX0_checkProduct 15 = .ok (.dup, 1) := by decide +kernel
theorem dX0_checkProduct_16 : decode cX0_checkProduct 16 = .ok (.ldc 186, 2) := by decide +kernel
theorem dX0_checkProduct_18 : decode cX0_checkProduct 18 = .ok (.invokespecial 148, 3) := by decide +kernel
theorem dX0_checkProduct_21 : decode cX0_checkProduct 21 = .ok (.athrow, 1) := by decide +kernel
theorem dX0_checkProduct_22 : decode cX0_checkProduct 22 = .ok (.return_, 1) := by decide +kernel
theorem dX0_checkMany_0 : decode cX0_checkMany 0 = .ok (.iload_n 0, 1) := by decide +kernel
theorem dX0_checkMany_1 : decode cX0_checkMany 1 = .ok (.ifCond .lt 9, 3) := by decide +kernel
theorem dX0_checkMany_4 : decode cX0_checkMany 4 = .ok (.iload_n 0, 1) := by decide +kernel
theorem dX0_checkMany_5 : decode cX0_checkMany 5 = .ok (.bipush 60, 2) := by decide +kernel
theorem dX0_checkMany_7 : decode cX0_checkMany 7 = .ok (.if_icmp .le 13, 3) := by decide +kernel
theorem dX0_checkMany_10 : decode cX0_checkMany 10 = .ok (.new 67, 3) := by decide +kernel
theorem dX0_checkMany_13 : decode cX0_checkMany 13 = .ok (.dup, 1) := by decide +kernel
theorem dX0_checkMany_14 : decode cX0_checkMany 14 = .ok (.ldc 188, 2) := by decide +kernel
theorem dX0_checkMany_16 : decode cX0_checkMany 16 = .ok (.invokespecial 71, 3) := by decide +kernel
theorem dX0_checkMany_19 : decode cX0_checkMany 19 = .ok (.athrow, 1) := by decide +kernel
theorem dX0_checkMany_20 : decode cX0_checkMany 20 = .ok (.return_, 1) := by decide +kernel
theorem dX0_checkPriceAndStock_0 : decode cX0_checkPriceAndStock 0 = .ok (.iload_n 0, 1) := by decide +kernel
theorem dX0_checkPriceAndStock_1 : decode cX0_checkPriceAndStock 1 = .ok (.iconst 1, 1) := by decide +kernel
theorem dX0_checkPriceAndStock_2 : decode cX0_checkPriceAndStock 2 = .ok (.if_icmp .lt 10, 3) := by decide +kernel
theorem dX0_checkPriceAndStock_5 : decode cX0_checkPriceAndStock 5 = .ok (.iload_n 0, 1) := by decide +kernel
theorem dX0_checkPriceAndStock_6 : decode cX0_checkPriceAndStock 6 = .ok (.sipush 2000, 3) := by decide +kernel
theorem dX0_checkPriceAndStock_9 : decode cX0_checkPriceAndStock 9 = .ok (.if_icmp .le 13, 3) := by decide +kernel
theorem dX0_checkPriceAndStock_12 : decode cX0_checkPriceAndStock 12 = .ok (.new 67, 3) := by decide +kernel
theorem dX0_checkPriceAndStock_15 : decode cX0_checkPriceAndStock 15 = .ok (.dup, 1) := by decide +kernel
theorem dX0_checkPriceAndStock_16 : decode cX0_checkPriceAndStock 16 = .ok (.ldc 190, 2) := by decide +kernel
theorem dX0_checkPriceAndStock_18 : decode cX0_checkPriceAndStock 18 = .ok (.invokespecial 71, 3) := by decide +kernel
theorem dX0_checkPriceAndStock_21 : decode cX0_checkPriceAndStock 21 = .ok (.athrow, 1) := by decide +kernel
theorem dX0_checkPriceAndStock_22 : decode cX0_checkPriceAndStock 22 = .ok (.iload_n 1, 1) := by decide +kernel
theorem dX0_checkPriceAndStock_23 : decode cX0_checkPriceAndStock 23 = .ok (.ifCond .lt 9, 3) := by decide +kernel
theorem dX0_checkPriceAndStock_26 : decode cX0_checkPriceAndStock 26 = .ok (.iload_n 1, 1) := by decide +kernel
theorem dX0_checkPriceAndStock_27 : decode cX0_checkPriceAndStock 27 = .ok (.bipush 99, 2) := by decide +kernel
theorem dX0_checkPriceAndStock_29 : decode cX0_checkPriceAndStock 29 = .ok (.if_icmp .le 13, 3) := by decide +kernel
theorem dX0_checkPriceAndStock_32 : decode cX0_checkPriceAndStock 32 = .ok (.new 67, 3) := by decide +kernel
theorem dX0_checkPriceAndStock_35 : decode cX0_checkPriceAndStock 35 = .ok (.dup, 1) := by decide +kernel
theorem dX0_checkPriceAndStock_36 : decode cX0_checkPriceAndStock 36 = .ok (.ldc 192, 2) := by decide +kernel
theorem dX0_checkPriceAndStock_38 : decode cX0_checkPriceAndStock 38 = .ok (.invokespecial 71, 3) := by decide +kernel
theorem dX0_checkPriceAndStock_41 : decode cX0_checkPriceAndStock 41 = .ok (.athrow, 1) := by decide +kernel
theorem dX0_checkPriceAndStock_42 : decode cX0_checkPriceAndStock 42 = .ok (.return_, 1) := by decide +kernel
theorem dX0_checkAmount_0 : decode cX0_checkAmount 0 = .ok (.iload_n 0, 1) := by decide +kernel
theorem dX0_checkAmount_1 : decode cX0_checkAmount 1 = .ok (.ifCond .lt 10, 3) := by decide +kernel
theorem dX0_checkAmount_4 : decode cX0_checkAmount 4 = .ok (.iload_n 0, 1) := by decide +kernel
theorem dX0_checkAmount_5 : decode cX0_checkAmount 5 = .ok (.sipush 2000, 3) := by decide +kernel
theorem dX0_checkAmount_8 : decode cX0_checkAmount 8 = .ok (.if_icmp .le 13, 3) := by decide +kernel
theorem dX0_checkAmount_11 : decode cX0_checkAmount 11 = .ok (.new 67, 3) := by decide +kernel
theorem dX0_checkAmount_14 : decode cX0_checkAmount 14 = .ok (.dup, 1) := by decide +kernel
theorem dX0_checkAmount_15 : decode cX0_checkAmount 15 = .ok (.ldc 194, 2) := by decide +kernel
theorem dX0_checkAmount_17 : decode cX0_checkAmount 17 = .ok (.invokespecial 71, 3) := by decide +kernel
theorem dX0_checkAmount_20 : decode cX0_checkAmount 20 = .ok (.athrow, 1) := by decide +kernel
theorem dX0_checkAmount_21 : decode cX0_checkAmount 21 = .ok (.return_, 1) := by decide +kernel
theorem dX0_hasKindOfValue_0 : decode cX0_hasKindOfValue 0 = .ok (.iconst 0, 1) := by decide +kernel
theorem dX0_hasKindOfValue_1 : decode cX0_hasKindOfValue 1 = .ok (.istore_n 2, 1) := by decide +kernel
theorem dX0_hasKindOfValue_2 : decode cX0_hasKindOfValue 2 = .ok (.iload_n 2, 1) := by decide +kernel
theorem dX0_hasKindOfValue_3 : decode cX0_hasKindOfValue 3 = .ok (.aload_n 0, 1) := by decide +kernel
theorem dX0_hasKindOfValue_4 : decode cX0_hasKindOfValue 4 = .ok (.getfield 9, 3) := by decide +kernel
theorem dX0_hasKindOfValue_7 : decode cX0_hasKindOfValue 7 = .ok (.if_icmp .ge 21, 3) := by decide +kernel
theorem dX0_hasKindOfValue_10 : decode cX0_hasKindOfValue 10 = .ok (.aload_n 0, 1) := by decide +kernel
theorem dX0_hasKindOfValue_11 : decode cX0_hasKindOfValue 11 = .ok (.getfield 13, 3) := by decide +kernel
theorem dX0_hasKindOfValue_14 : decode cX0_hasKindOfValue 14 = .ok (.iload_n 2, 1) := by decide +kernel
theorem dX0_hasKindOfValue_15 : decode cX0_hasKindOfValue 15 = .ok (.iaload, 1) := by decide +kernel
theorem dX0_hasKindOfValue_16 : decode cX0_hasKindOfValue 16 = .ok (.iload_n 1, 1) := by decide +kernel
theorem dX0_hasKindOfValue_17 : decode cX0_hasKindOfValue 17 = .ok (.if_icmp .ne 5, 3) := by decide +kernel
theorem dX0_hasKindOfValue_20 : decode cX0_hasKindOfValue 20 = .ok (.iconst 1, 1) := by decide +kernel
theorem dX0_hasKindOfValue_21 : decode cX0_hasKindOfValue 21 = .ok (.ireturn, 1) := by decide +kernel
theorem dX0_hasKindOfValue_22 : decode cX0_hasKindOfValue 22 = .ok (.iinc 2 1, 3) := by decide +kernel
theorem dX0_hasKindOfValue_25 : decode cX0_hasKindOfValue 25 = .ok (.goto (-23), 3) := by decide +kernel
theorem dX0_hasKindOfValue_28 : decode cX0_hasKindOfValue 28 = .ok (.iconst 0, 1) := by decide +kernel
theorem dX0_hasKindOfValue_29 : decode cX0_hasKindOfValue 29 = .ok (.ireturn, 1) := by decide +kernel
theorem dX0_dividesAllValues_0 : decode cX0_dividesAllValues 0 = .ok (.iconst 0, 1) := by decide +kernel
theorem dX0_dividesAllValues_1 : decode cX0_dividesAllValues 1 = .ok (.istore_n 2, 1) := by decide +kernel
theorem dX0_dividesAllValues_2 : decode cX0_dividesAllValues 2 = .ok (.iload_n 2, 1) := by decide +kernel
theorem dX0_dividesAllValues_3 : decode cX0_dividesAllValues 3 = .ok (.aload_n 0, 1) := by decide +kernel
theorem dX0_dividesAllValues_4 : decode cX0_dividesAllValues 4 = .ok (.getfield 9, 3) := by decide +kernel
theorem dX0_dividesAllValues_7 : decode cX0_dividesAllValues 7 = .ok (.if_icmp .ge 27, 3) := by decide +kernel
theorem dX0_dividesAllValues_10 : decode cX0_dividesAllValues 10 = .ok (.iload_n 1, 1) := by decide +kernel
theorem dX0_dividesAllValues_11 : decode cX0_dividesAllValues 11 = .ok (.iconst 1, 1) := by decide +kernel
theorem dX0_dividesAllValues_12 : decode cX0_dividesAllValues 12 = .ok (.if_icmp .lt 14, 3) := by decide +kernel
theorem dX0_dividesAllValues_15 : decode cX0_dividesAllValues 15 = .ok (.aload_n 0, 1) := by decide +kernel
theorem dX0_dividesAllValues_16 : decode cX0_dividesAllValues 16 = .ok (.getfield 13, 3) := by decide +kernel
theorem dX0_dividesAllValues_19 : decode cX0_dividesAllValues 19 = .ok (.iload_n 2, 1) := by decide +kernel
theorem dX0_dividesAllValues_20 : decode cX0_dividesAllValues 20 = .ok (.iaload, 1) := by decide +kernel
theorem dX0_dividesAllValues_21 : decode cX0_dividesAllValues 21 = .ok (.iload_n 1, 1) := by decide +kernel
theorem dX0_dividesAllValues_22 : decode cX0_dividesAllValues 22 = .ok (.irem, 1) := by decide +kernel
theorem dX0_dividesAllValues_23 : decode cX0_dividesAllValues 23 = .ok (.ifCond .eq 5, 3) := by decide +kernel
theorem dX0_dividesAllValues_26 : decode cX0_dividesAllValues 26 = .ok (.iconst 0, 1) := by decide +kernel
theorem dX0_dividesAllValues_27 : decode cX0_dividesAllValues 27 = .ok (.ireturn, 1) := by decide +kernel
theorem dX0_dividesAllValues_28 : decode cX0_dividesAllValues 28 = .ok (.iinc 2 1, 3) := by decide +kernel
theorem dX0_dividesAllValues_31 : decode cX0_dividesAllValues 31 = .ok (.goto (-29), 3) := by decide +kernel
theorem dX0_dividesAllValues_34 : decode cX0_dividesAllValues 34 = .ok (.iconst 1, 1) := by decide +kernel
theorem dX0_dividesAllValues_35 : decode cX0_dividesAllValues 35 = .ok (.ireturn, 1) := by decide +kernel
theorem dX0_toldOfKind_0 : decode cX0_toldOfKind 0 = .ok (.iload_n 2, 1) := by decide +kernel
theorem dX0_toldOfKind_1 : decode cX0_toldOfKind 1 = .ok (.tableswitch 59 0 3 #[31, 38, 45, 52], 31) := by decide +kernel
theorem dX0_toldOfKind_32 : decode cX0_toldOfKind 32 = .ok (.aload_n 0, 1) := by decide +kernel
theorem dX0_toldOfKind_33 : decode cX0_toldOfKind 33 = .ok (.getfield 13, 3) := by decide +kernel
theorem dX0_toldOfKind_36 : decode cX0_toldOfKind 36 = .ok (.iload_n 1, 1) := by decide +kernel
theorem dX0_toldOfKind_37 : decode cX0_toldOfKind 37 = .ok (.iaload, 1) := by decide +kernel
theorem dX0_toldOfKind_38 : decode cX0_toldOfKind 38 = .ok (.ireturn, 1) := by decide +kernel
theorem dX0_toldOfKind_39 : decode cX0_toldOfKind 39 = .ok (.aload_n 0, 1) := by decide +kernel
theorem dX0_toldOfKind_40 : decode cX0_toldOfKind 40 = .ok (.getfield 20, 3) := by decide +kernel
theorem dX0_toldOfKind_43 : decode cX0_toldOfKind 43 = .ok (.iload_n 1, 1) := by decide +kernel
theorem dX0_toldOfKind_44 : decode cX0_toldOfKind 44 = .ok (.iaload, 1) := by decide +kernel
theorem dX0_toldOfKind_45 : decode cX0_toldOfKind 45 = .ok (.ireturn, 1) := by decide +kernel
theorem dX0_toldOfKind_46 : decode cX0_toldOfKind 46 = .ok (.aload_n 0, 1) := by decide +kernel
theorem dX0_toldOfKind_47 : decode cX0_toldOfKind 47 = .ok (.getfield 23, 3) := by decide +kernel
theorem dX0_toldOfKind_50 : decode cX0_toldOfKind 50 = .ok (.iload_n 1, 1) := by decide +kernel
theorem dX0_toldOfKind_51 : decode cX0_toldOfKind 51 = .ok (.iaload, 1) := by decide +kernel
theorem dX0_toldOfKind_52 : decode cX0_toldOfKind 52 = .ok (.ireturn, 1) := by decide +kernel
theorem dX0_toldOfKind_53 : decode cX0_toldOfKind 53 = .ok (.aload_n 0, 1) := by decide +kernel
theorem dX0_toldOfKind_54 : decode cX0_toldOfKind 54 = .ok (.getfield 26, 3) := by decide +kernel
theorem dX0_toldOfKind_57 : decode cX0_toldOfKind 57 = .ok (.iload_n 1, 1) := by decide +kernel
theorem dX0_toldOfKind_58 : decode cX0_toldOfKind 58 = .ok (.iaload, 1) := by decide +kernel
theorem dX0_toldOfKind_59 : decode cX0_toldOfKind 59 = .ok (.ireturn, 1) := by decide +kernel
theorem dX0_toldOfKind_60 : decode cX0_toldOfKind 60 = .ok (.iconst 0, 1) := by decide +kernel
theorem dX0_toldOfKind_61 : decode cX0_toldOfKind 61 = .ok (.ireturn, 1) := by decide +kernel
set_option maxRecDepth 20000 in
theorem ggX0_digestOfKinds_X0_toldOfKind : GoodIn wsX0_digestOfKinds wsX0_toldOfKind := goodIn_r _ [8, 9, 10, 11, 12, 13, 14, 15, 16, 17, 18, 19, 20, 21, 22, 23, 24, 25, 26, 27, 28, 29, 30] (by decide +kernel) (by decide +kernel)
set_option maxRecDepth 20000 in
theorem gX0_digestOfKinds_X0_toldOfKind : GoodIn wsX0_digestOfKinds (wsV RX0 151 RX0 yX0_toldOfKind wsX0_toldOfKind) := goodIn_app (goodIn_of _ (by decide +kernel)) ggX0_digestOfKinds_X0_toldOfKind
theorem dX0_digestOfKinds_0 : decode cX0_digestOfKinds 0 = .ok (.lload_n 1, 1) := by decide +kernel
theorem dX0_digestOfKinds_1 : decode cX0_digestOfKinds 1 = .ok (.ldc2_w 182, 3) := by decide +kernel
theorem dX0_digestOfKinds_4 : decode cX0_digestOfKinds 4 = .ok (.lmul, 1) := by decide +kernel
theorem dX0_digestOfKinds_5 : decode cX0_digestOfKinds 5 = .ok (.aload_n 0, 1) := by decide +kernel
theorem dX0_digestOfKinds_6 : decode cX0_digestOfKinds 6 = .ok (.getfield 9, 3) := by decide +kernel
theorem dX0_digestOfKinds_9 : decode cX0_digestOfKinds 9 = .ok (.i2l, 1) := by decide +kernel
theorem dX0_digestOfKinds_10 : decode cX0_digestOfKinds 10 = .ok (.ladd, 1) := by decide +kernel
theorem dX0_digestOfKinds_11 : decode cX0_digestOfKinds 11 = .ok (.lstore_n 3, 1) := by decide +kernel
theorem dX0_digestOfKinds_12 : decode cX0_digestOfKinds 12 = .ok (.iconst 0, 1) := by decide +kernel
theorem dX0_digestOfKinds_13 : decode cX0_digestOfKinds 13 = .ok (.istore 5, 2) := by decide +kernel
theorem dX0_digestOfKinds_15 : decode cX0_digestOfKinds 15 = .ok (.iload 5, 2) := by decide +kernel
theorem dX0_digestOfKinds_17 : decode cX0_digestOfKinds 17 = .ok (.aload_n 0, 1) := by decide +kernel
theorem dX0_digestOfKinds_18 : decode cX0_digestOfKinds 18 = .ok (.getfield 9, 3) := by decide +kernel
theorem dX0_digestOfKinds_21 : decode cX0_digestOfKinds 21 = .ok (.if_icmp .ge 63, 3) := by decide +kernel
theorem dX0_digestOfKinds_24 : decode cX0_digestOfKinds 24 = .ok (.iconst 0, 1) := by decide +kernel
theorem dX0_digestOfKinds_25 : decode cX0_digestOfKinds 25 = .ok (.istore 6, 2) := by decide +kernel
theorem dX0_digestOfKinds_27 : decode cX0_digestOfKinds 27 = .ok (.iload 6, 2) := by decide +kernel
theorem dX0_digestOfKinds_29 : decode cX0_digestOfKinds 29 = .ok (.iconst 4, 1) := by decide +kernel
theorem dX0_digestOfKinds_30 : decode cX0_digestOfKinds 30 = .ok (.if_icmp .ge 25, 3) := by decide +kernel
theorem dX0_digestOfKinds_33 : decode cX0_digestOfKinds 33 = .ok (.lload_n 3, 1) := by decide +kernel
theorem dX0_digestOfKinds_34 : decode cX0_digestOfKinds 34 = .ok (.ldc2_w 182, 3) := by decide +kernel
theorem dX0_digestOfKinds_37 : decode cX0_digestOfKinds 37 = .ok (.lmul, 1) := by decide +kernel
theorem dX0_digestOfKinds_38 : decode cX0_digestOfKinds 38 = .ok (.aload_n 0, 1) := by decide +kernel
theorem dX0_digestOfKinds_39 : decode cX0_digestOfKinds 39 = .ok (.iload 5, 2) := by decide +kernel
theorem dX0_digestOfKinds_41 : decode cX0_digestOfKinds 41 = .ok (.iload 6, 2) := by decide +kernel
theorem dX0_digestOfKinds_43 : decode cX0_digestOfKinds 43 = .ok (.invokevirtual 151, 3) := by decide +kernel
theorem dX0_digestOfKinds_46 : decode cX0_digestOfKinds 46 = .ok (.i2l, 1) := by decide +kernel
theorem dX0_digestOfKinds_47 : decode cX0_digestOfKinds 47 = .ok (.ladd, 1) := by decide +kernel
theorem dX0_digestOfKinds_48 : decode cX0_digestOfKinds 48 = .ok (.lstore_n 3, 1) := by decide +kernel
theorem dX0_digestOfKinds_49 : decode cX0_digestOfKinds 49 = .ok (.iinc 6 1, 3) := by decide +kernel
theorem dX0_digestOfKinds_52 : decode cX0_digestOfKinds 52 = .ok (.goto (-25), 3) := by decide +kernel
theorem dX0_digestOfKinds_55 : decode cX0_digestOfKinds 55 = .ok (.lload_n 3, 1) := by decide +kernel
theorem dX0_digestOfKinds_56 : decode cX0_digestOfKinds 56 = .ok (.ldc2_w 182, 3) := by decide +kernel
theorem dX0_digestOfKinds_59 : decode cX0_digestOfKinds 59 = .ok (.lmul, 1) := by decide +kernel
theorem dX0_digestOfKinds_60 : decode cX0_digestOfKinds 60 = .ok (.aload_n 0, 1) := by decide +kernel
theorem dX0_digestOfKinds_61 : decode cX0_digestOfKinds 61 = .ok (.getfield 29, 3) := by decide +kernel
theorem dX0_digestOfKinds_64 : decode cX0_digestOfKinds 64 = .ok (.iload 5, 2) := by decide +kernel
theorem dX0_digestOfKinds_66 : decode cX0_digestOfKinds 66 = .ok (.baload, 1) := by decide +kernel
theorem dX0_digestOfKinds_67 : decode cX0_digestOfKinds 67 = .ok (.ifCond .eq 7, 3) := by decide +kernel
theorem dX0_digestOfKinds_70 : decode cX0_digestOfKinds 70 = .ok (.iconst 1, 1) := by decide +kernel
theorem dX0_digestOfKinds_71 : decode cX0_digestOfKinds 71 = .ok (.goto 4, 3) := by decide +kernel
theorem dX0_digestOfKinds_74 : decode cX0_digestOfKinds 74 = .ok (.iconst 0, 1) := by decide +kernel
theorem dX0_digestOfKinds_75 : decode cX0_digestOfKinds 75 = .ok (.i2l, 1) := by decide +kernel
theorem dX0_digestOfKinds_76 : decode cX0_digestOfKinds 76 = .ok (.ladd, 1) := by decide +kernel
theorem dX0_digestOfKinds_77 : decode cX0_digestOfKinds 77 = .ok (.lstore_n 3, 1) := by decide +kernel
theorem dX0_digestOfKinds_78 : decode cX0_digestOfKinds 78 = .ok (.iinc 5 1, 3) := by decide +kernel
theorem dX0_digestOfKinds_81 : decode cX0_digestOfKinds 81 = .ok (.goto (-66), 3) := by decide +kernel
theorem dX0_digestOfKinds_84 : decode cX0_digestOfKinds 84 = .ok (.lload_n 3, 1) := by decide +kernel
theorem dX0_digestOfKinds_85 : decode cX0_digestOfKinds 85 = .ok (.lreturn, 1) := by decide +kernel
theorem dX0_waitingOf_0 : decode cX0_waitingOf 0 = .ok (.iconst 0, 1) := by decide +kernel
theorem dX0_waitingOf_1 : decode cX0_waitingOf 1 = .ok (.istore_n 2, 1) := by decide +kernel
theorem dX0_waitingOf_2 : decode cX0_waitingOf 2 = .ok (.iconst 0, 1) := by decide +kernel
theorem dX0_waitingOf_3 : decode cX0_waitingOf 3 = .ok (.istore_n 3, 1) := by decide +kernel
theorem dX0_waitingOf_4 : decode cX0_waitingOf 4 = .ok (.iload_n 3, 1) := by decide +kernel
theorem dX0_waitingOf_5 : decode cX0_waitingOf 5 = .ok (.aload_n 0, 1) := by decide +kernel
theorem dX0_waitingOf_6 : decode cX0_waitingOf 6 = .ok (.getfield 45, 3) := by decide +kernel
theorem dX0_waitingOf_9 : decode cX0_waitingOf 9 = .ok (.if_icmp .ge 22, 3) := by decide +kernel
theorem dX0_waitingOf_12 : decode cX0_waitingOf 12 = .ok (.aload_n 0, 1) := by decide +kernel
theorem dX0_waitingOf_13 : decode cX0_waitingOf 13 = .ok (.getfield 48, 3) := by decide +kernel
theorem dX0_waitingOf_16 : decode cX0_waitingOf 16 = .ok (.iload_n 3, 1) := by decide +kernel
theorem dX0_waitingOf_17 : decode cX0_waitingOf 17 = .ok (.iaload, 1) := by decide +kernel
theorem dX0_waitingOf_18 : decode cX0_waitingOf 18 = .ok (.iload_n 1, 1) := by decide +kernel
theorem dX0_waitingOf_19 : decode cX0_waitingOf 19 = .ok (.if_icmp .ne 6, 3) := by decide +kernel
theorem dX0_waitingOf_22 : decode cX0_waitingOf 22 = .ok (.iinc 2 1, 3) := by decide +kernel
theorem dX0_waitingOf_25 : decode cX0_waitingOf 25 = .ok (.iinc 3 1, 3) := by decide +kernel
theorem dX0_waitingOf_28 : decode cX0_waitingOf 28 = .ok (.goto (-24), 3) := by decide +kernel
theorem dX0_waitingOf_31 : decode cX0_waitingOf 31 = .ok (.iload_n 2, 1) := by decide +kernel
theorem dX0_waitingOf_32 : decode cX0_waitingOf 32 = .ok (.ireturn, 1) := by decide +kernel
set_option maxRecDepth 20000 in
theorem ggX0_foreseeTubes_X0_waitingOf : GoodIn wsX0_foreseeTubes wsX0_waitingOf := goodIn_r _ [13, 14, 15, 16, 17, 18, 19, 20, 21, 22, 23, 24, 25, 26, 27, 28, 29, 30, 31, 32, 33] (by decide +kernel) (by decide +kernel)
set_option maxRecDepth 20000 in
theorem gX0_foreseeTubes_X0_waitingOf : GoodIn wsX0_foreseeTubes (wsV RX0 140 RX0 yX0_waitingOf wsX0_waitingOf) := goodIn_app (goodIn_of _ (by decide +kernel)) ggX0_foreseeTubes_X0_waitingOf
theorem dX0_foreseeTubes_0 : decode cX0_foreseeTubes 0 = .ok (.iconst 0, 1) := by decide +kernel
theorem dX0_foreseeTubes_1 : decode cX0_foreseeTubes 1 = .ok (.istore_n 1, 1) := by decide +kernel
theorem dX0_foreseeTubes_2 : decode cX0_foreseeTubes 2 = .ok (.iload_n 1, 1) := by decide +kernel
theorem dX0_foreseeTubes_3 : decode cX0_foreseeTubes 3 = .ok (.aload_n 0, 1) := by decide +kernel
theorem dX0_foreseeTubes_4 : decode cX0_foreseeTubes 4 = .ok (.getfield 9, 3) := by decide +kernel
theorem dX0_foreseeTubes_7 : decode cX0_foreseeTubes 7 = .ok (.if_icmp .ge 36, 3) := by decide +kernel
theorem dX0_foreseeTubes_10 : decode cX0_foreseeTubes 10 = .ok (.aload_n 0, 1) := by decide +kernel
theorem dX0_foreseeTubes_11 : decode cX0_foreseeTubes 11 = .ok (.getfield 64, 3) := by decide +kernel
theorem dX0_foreseeTubes_14 : decode cX0_foreseeTubes 14 = .ok (.iload_n 1, 1) := by decide +kernel
theorem dX0_foreseeTubes_15 : decode cX0_foreseeTubes 15 = .ok (.aload_n 0, 1) := by decide +kernel
theorem dX0_foreseeTubes_16 : decode cX0_foreseeTubes 16 = .ok (.getfield 20, 3) := by decide +kernel
theorem dX0_foreseeTubes_19 : decode cX0_foreseeTubes 19 = .ok (.iload_n 1, 1) := by decide +kernel
theorem dX0_foreseeTubes_20 : decode cX0_foreseeTubes 20 = .ok (.iaload, 1) := by decide +kernel
theorem dX0_foreseeTubes_21 : decode cX0_foreseeTubes 21 = .ok (.aload_n 0, 1) := by decide +kernel
theorem dX0_foreseeTubes_22 : decode cX0_foreseeTubes 22 = .ok (.iload_n 1, 1) := by decide +kernel
theorem dX0_foreseeTubes_23 : decode cX0_foreseeTubes 23 = .ok (.invokevirtual 140, 3) := by decide +kernel
theorem dX0_foreseeTubes_26 : decode cX0_foreseeTubes 26 = .ok (.iadd, 1) := by decide +kernel
theorem dX0_foreseeTubes_27 : decode cX0_foreseeTubes 27 = .ok (.aload_n 0, 1) := by decide +kernel
theorem dX0_foreseeTubes_28 : decode cX0_foreseeTubes 28 = .ok (.getfield 17, 3) := by decide +kernel
theorem dX0_foreseeTubes_31 : decode cX0_foreseeTubes 31 = .ok (.iload_n 1, 1) := by decide +kernel
theorem dX0_foreseeTubes_32 : decode cX0_foreseeTubes 32 = .ok (.iaload, 1) := by decide +kernel
theorem dX0_foreseeTubes_33 : decode cX0_foreseeTubes 33 = .ok (.invokestatic 94, 3) := by decide +kernel
theorem dX0_foreseeTubes_36 : decode cX0_foreseeTubes 36 = .ok (.iastore, 1) := by decide +kernel
theorem dX0_foreseeTubes_37 : decode cX0_foreseeTubes 37 = .ok (.iinc 1 1, 3) := by decide +kernel
theorem dX0_foreseeTubes_40 : decode cX0_foreseeTubes 40 = .ok (.goto (-38), 3) := by decide +kernel
theorem dX0_foreseeTubes_43 : decode cX0_foreseeTubes 43 = .ok (.return_, 1) := by decide +kernel
set_option maxRecDepth 20000 in
theorem ggX0_dropWaiting_X0_waitingOf : GoodIn wsX0_dropWaiting wsX0_waitingOf := goodIn_r _ [14, 9, 15, 16, 17, 18, 19, 20, 21, 22, 23, 24, 25, 26, 27, 28, 29, 30, 31, 32, 33] (by decide +kernel) (by decide +kernel)
set_option maxRecDepth 20000 in
theorem gX0_dropWaiting_X0_waitingOf : GoodIn wsX0_dropWaiting (wsV RX0 140 RX0 yX0_waitingOf wsX0_waitingOf) := goodIn_app (goodIn_of _ (by decide +kernel)) ggX0_dropWaiting_X0_waitingOf
theorem dX0_dropWaiting_0 : decode cX0_dropWaiting 0 = .ok (.iconst 0, 1) := by decide +kernel
theorem dX0_dropWaiting_1 : decode cX0_dropWaiting 1 = .ok (.istore_n 1, 1) := by decide +kernel
theorem dX0_dropWaiting_2 : decode cX0_dropWaiting 2 = .ok (.iload_n 1, 1) := by decide +kernel
theorem dX0_dropWaiting_3 : decode cX0_dropWaiting 3 = .ok (.aload_n 0, 1) := by decide +kernel
theorem dX0_dropWaiting_4 : decode cX0_dropWaiting 4 = .ok (.getfield 9, 3) := by decide +kernel
theorem dX0_dropWaiting_7 : decode cX0_dropWaiting 7 = .ok (.if_icmp .ge 55, 3) := by decide +kernel
theorem dX0_dropWaiting_10 : decode cX0_dropWaiting 10 = .ok (.aload_n 0, 1) := by decide +kernel
theorem dX0_dropWaiting_11 : decode cX0_dropWaiting 11 = .ok (.iload_n 1, 1) := by decide +kernel
theorem dX0_dropWaiting_12 : decode cX0_dropWaiting 12 = .ok (.invokevirtual 140, 3) := by decide +kernel
theorem dX0_dropWaiting_15 : decode cX0_dropWaiting 15 = .ok (.istore_n 2, 1) := by decide +kernel
theorem dX0_dropWaiting_16 : decode cX0_dropWaiting 16 = .ok (.iload_n 2, 1) := by decide +kernel
theorem dX0_dropWaiting_17 : decode cX0_dropWaiting 17 = .ok (.aload_n 0, 1) := by decide +kernel
theorem dX0_dropWaiting_18 : decode cX0_dropWaiting 18 = .ok (.getfield 17, 3) := by decide +kernel
theorem dX0_dropWaiting_21 : decode cX0_dropWaiting 21 = .ok (.iload_n 1, 1) := by decide +kernel
theorem dX0_dropWaiting_22 : decode cX0_dropWaiting 22 = .ok (.iaload, 1) := by decide +kernel
theorem dX0_dropWaiting_23 : decode cX0_dropWaiting 23 = .ok (.aload_n 0, 1) := by decide +kernel
theorem dX0_dropWaiting_24 : decode cX0_dropWaiting 24 = .ok (.getfield 20, 3) := by decide +kernel
theorem dX0_dropWaiting_27 : decode cX0_dropWaiting 27 = .ok (.iload_n 1, 1) := by decide +kernel
theorem dX0_dropWaiting_28 : decode cX0_dropWaiting 28 = .ok (.iaload, 1) := by decide +kernel
theorem dX0_dropWaiting_29 : decode cX0_dropWaiting 29 = .ok (.isub, 1) := by decide +kernel
theorem dX0_dropWaiting_30 : decode cX0_dropWaiting 30 = .ok (.invokestatic 94, 3) := by decide +kernel
theorem dX0_dropWaiting_33 : decode cX0_dropWaiting 33 = .ok (.istore_n 3, 1) := by decide +kernel
theorem dX0_dropWaiting_34 : decode cX0_dropWaiting 34 = .ok (.aload_n 0, 1) := by decide +kernel
theorem dX0_dropWaiting_35 : decode cX0_dropWaiting 35 = .ok (.getfield 20, 3) := by decide +kernel
theorem dX0_dropWaiting_38 : decode cX0_dropWaiting 38 = .ok (.iload_n 1, 1) := by decide +kernel
theorem dX0_dropWaiting_39 : decode cX0_dropWaiting 39 = .ok (.dup2, 1) := by decide +kernel
theorem dX0_dropWaiting_40 : decode cX0_dropWaiting 40 = .ok (.iaload, 1) := by decide +kernel
theorem dX0_dropWaiting_41 : decode cX0_dropWaiting 41 = .ok (.iload_n 3, 1) := by decide +kernel
theorem dX0_dropWaiting_42 : decode cX0_dropWaiting 42 = .ok (.iadd, 1) := by decide +kernel
theorem dX0_dropWaiting_43 : decode cX0_dropWaiting 43 = .ok (.iastore, 1) := by decide +kernel
theorem dX0_dropWaiting_44 : decode cX0_dropWaiting 44 = .ok (.aload_n 0, 1) := by decide +kernel
theorem dX0_dropWaiting_45 : decode cX0_dropWaiting 45 = .ok (.getfield 23, 3) := by decide +kernel
theorem dX0_dropWaiting_48 : decode cX0_dropWaiting 48 = .ok (.iload_n 1, 1) := by decide +kernel
theorem dX0_dropWaiting_49 : decode cX0_dropWaiting 49 = .ok (.dup2, 1) := by decide +kernel
theorem dX0_dropWaiting_50 : decode cX0_dropWaiting 50 = .ok (.iaload, 1) := by decide +kernel
theorem dX0_dropWaiting_51 : decode cX0_dropWaiting 51 = .ok (.iload_n 2, 1) := by decide +kernel
theorem dX0_dropWaiting_52 : decode cX0_dropWaiting 52 = .ok (.iload_n 3, 1) := by decide +kernel
theorem dX0_dropWaiting_53 : decode cX0_dropWaiting 53 = .ok (.isub, 1) := by decide +kernel
theorem dX0_dropWaiting_54 : decode cX0_dropWaiting 54 = .ok (.iadd, 1) := by decide +kernel
theorem dX0_dropWaiting_55 : decode cX0_dropWaiting 55 = .ok (.iastore, 1) := by decide +kernel
theorem dX0_dropWaiting_56 : decode cX0_dropWaiting 56 = .ok (.iinc 1 1, 3) := by decide +kernel
theorem dX0_dropWaiting_59 : decode cX0_dropWaiting 59 = .ok (.goto (-57), 3) := by decide +kernel
theorem dX0_dropWaiting_62 : decode cX0_dropWaiting 62 = .ok (.aload_n 0, 1) := by decide +kernel
theorem dX0_dropWaiting_63 : decode cX0_dropWaiting 63 = .ok (.iconst 0, 1) := by decide +kernel
theorem dX0_dropWaiting_64 : decode cX0_dropWaiting 64 = .ok (.putfield 45, 3) := by decide +kernel
theorem dX0_dropWaiting_67 : decode cX0_dropWaiting 67 = .ok (.return_, 1) := by decide +kernel
set_option maxRecDepth 20000 in
theorem ggX0_payOut_X0_coinsOfKindInWay : GoodIn wsX0_payOut wsX0_coinsOfKindInWay := goodIn_r _ [8, 9, 10, 11, 12, 7, 13, 1, 14, 15, 16, 17, 18, 19, 20, 21, 22, 23, 24, 25, 26, 27, 28, 29, 30, 31, 32] (by decide +kernel) (by decide +kernel)
set_option maxRecDepth 20000 in
theorem gX0_payOut_X0_coinsOfKindInWay : GoodIn wsX0_payOut (wsV RX0 161 RX0 yX0_coinsOfKindInWay wsX0_coinsOfKindInWay) := goodIn_app (goodIn_of _ (by decide +kernel)) ggX0_payOut_X0_coinsOfKindInWay
theorem dX0_payOut_0 : decode cX0_payOut 0 = .ok (.iconst 0, 1) := by decide +kernel
theorem dX0_payOut_1 : decode cX0_payOut 1 = .ok (.istore_n 3, 1) := by decide +kernel
theorem dX0_payOut_2 : decode cX0_payOut 2 = .ok (.iload_n 3, 1) := by decide +kernel
theorem dX0_payOut_3 : decode cX0_payOut 3 = .ok (.aload_n 0, 1) := by decide +kernel
theorem dX0_payOut_4 : decode cX0_payOut 4 = .ok (.getfield 9, 3) := by decide +kernel
theorem dX0_payOut_7 : decode cX0_payOut 7 = .ok (.if_icmp .ge 36, 3) := by decide +kernel
theorem dX0_payOut_10 : decode cX0_payOut 10 = .ok (.aload_n 0, 1) := by decide +kernel
theorem dX0_payOut_11 : decode cX0_payOut 11 = .ok (.getfield 26, 3) := by decide +kernel
theorem dX0_payOut_14 : decode cX0_payOut 14 = .ok (.iload_n 3, 1) := by decide +kernel
theorem dX0_payOut_15 : decode cX0_payOut 15 = .ok (.aload_n 0, 1) := by decide +kernel
theorem dX0_payOut_16 : decode cX0_payOut 16 = .ok (.lload_n 1, 1) := by decide +kernel
theorem dX0_payOut_17 : decode cX0_payOut 17 = .ok (.iload_n 3, 1) := by decide +kernel
theorem dX0_payOut_18 : decode cX0_payOut 18 = .ok (.invokevirtual 161, 3) := by decide +kernel
theorem dX0_payOut_21 : decode cX0_payOut 21 = .ok (.iastore, 1) := by decide +kernel
theorem dX0_payOut_22 : decode cX0_payOut 22 = .ok (.aload_n 0, 1) := by decide +kernel
theorem dX0_payOut_23 : decode cX0_payOut 23 = .ok (.getfield 20, 3) := by decide +kernel
theorem dX0_payOut_26 : decode cX0_payOut 26 = .ok (.iload_n 3, 1) := by decide +kernel
theorem dX0_payOut_27 : decode cX0_payOut 27 = .ok (.dup2, 1) := by decide +kernel
theorem dX0_payOut_28 : decode cX0_payOut 28 = .ok (.iaload, 1) := by decide +kernel
theorem dX0_payOut_29 : decode cX0_payOut 29 = .ok (.aload_n 0, 1) := by decide +kernel
theorem dX0_payOut_30 : decode cX0_payOut 30 = .ok (.getfield 26, 3) := by decide +kernel
theorem dX0_payOut_33 : decode cX0_payOut 33 = .ok (.iload_n 3, 1) := by decide +kernel
theorem dX0_payOut_34 : decode cX0_payOut 34 = .ok (.iaload, 1) := by decide +kernel
theorem dX0_payOut_35 : decode cX0_payOut 35 = .ok (.isub, 1) := by decide +kernel
theorem dX0_payOut_36 : decode cX0_payOut 36 = .ok (.iastore, 1) := by decide +kernel
theorem dX0_payOut_37 : decode cX0_payOut 37 = .ok (.iinc 3 1, 3) := by decide +kernel
theorem dX0_payOut_40 : decode cX0_payOut 40 = .ok (.goto (-38), 3) := by decide +kernel
theorem dX0_payOut_43 : decode cX0_payOut 43 = .ok (.return_, 1) := by decide +kernel
theorem dX0_countSale_0 : decode cX0_countSale 0 = .ok (.aload_n 0, 1) := by decide +kernel
theorem dX0_countSale_1 : decode cX0_countSale 1 = .ok (.getfield 57, 3) := by decide +kernel
theorem dX0_countSale_4 : decode cX0_countSale 4 = .ok (.iconst 2, 1) := by decide +kernel
theorem dX0_countSale_5 : decode cX0_countSale 5 = .ok (.dup2, 1) := by decide +kernel
theorem dX0_countSale_6 : decode cX0_countSale 6 = .ok (.laload, 1) := by decide +kernel
theorem dX0_countSale_7 : decode cX0_countSale 7 = .ok (.iload_n 2, 1) := by decide +kernel
theorem dX0_countSale_8 : decode cX0_countSale 8 = .ok (.i2l, 1) := by decide +kernel
theorem dX0_countSale_9 : decode cX0_countSale 9 = .ok (.ladd, 1) := by decide +kernel
theorem dX0_countSale_10 : decode cX0_countSale 10 = .ok (.lastore, 1) := by decide +kernel
theorem dX0_countSale_11 : decode cX0_countSale 11 = .ok (.aload_n 0, 1) := by decide +kernel
theorem dX0_countSale_12 : decode cX0_countSale 12 = .ok (.getfield 57, 3) := by decide +kernel
theorem dX0_countSale_15 : decode cX0_countSale 15 = .ok (.bipush 7, 2) := by decide +kernel
theorem dX0_countSale_17 : decode cX0_countSale 17 = .ok (.dup2, 1) := by decide +kernel
theorem dX0_countSale_18 : decode cX0_countSale 18 = .ok (.laload, 1) := by decide +kernel
theorem dX0_countSale_19 : decode cX0_countSale 19 = .ok (.iload_n 1, 1) := by decide +kernel
theorem dX0_countSale_20 : decode cX0_countSale 20 = .ok (.i2l, 1) := by decide +kernel
theorem dX0_countSale_21 : decode cX0_countSale 21 = .ok (.ladd, 1) := by decide +kernel
theorem dX0_countSale_22 : decode cX0_countSale 22 = .ok (.lastore, 1) := by decide +kernel
theorem dX0_countSale_23 : decode cX0_countSale 23 = .ok (.aload_n 0, 1) := by decide +kernel
theorem dX0_countSale_24 : decode cX0_countSale 24 = .ok (.getfield 57, 3) := by decide +kernel
theorem dX0_countSale_27 : decode cX0_countSale 27 = .ok (.bipush 8, 2) := by decide +kernel
theorem dX0_countSale_29 : decode cX0_countSale 29 = .ok (.dup2, 1) := by decide +kernel
theorem dX0_countSale_30 : decode cX0_countSale 30 = .ok (.laload, 1) := by decide +kernel
theorem dX0_countSale_31 : decode cX0_countSale 31 = .ok (.lconst 1, 1) := by decide +kernel
theorem dX0_countSale_32 : decode cX0_countSale 32 = .ok (.ladd, 1) := by decide +kernel
theorem dX0_countSale_33 : decode cX0_countSale 33 = .ok (.lastore, 1) := by decide +kernel
theorem dX0_countSale_34 : decode cX0_countSale 34 = .ok (.iload_n 2, 1) := by decide +kernel
theorem dX0_countSale_35 : decode cX0_countSale 35 = .ok (.ifCond .ne 14, 3) := by decide +kernel
theorem dX0_countSale_38 : decode cX0_countSale 38 = .ok (.aload_n 0, 1) := by decide +kernel
theorem dX0_countSale_39 : decode cX0_countSale 39 = .ok (.getfield 57, 3) := by decide +kernel
theorem dX0_countSale_42 : decode cX0_countSale 42 = .ok (.bipush 9, 2) := by decide +kernel
theorem dX0_countSale_44 : decode cX0_countSale 44 = .ok (.dup2, 1) := by decide +kernel
theorem dX0_countSale_45 : decode cX0_countSale 45 = .ok (.laload, 1) := by decide +kernel
theorem dX0_countSale_46 : decode cX0_countSale 46 = .ok (.lconst 1, 1) := by decide +kernel
theorem dX0_countSale_47 : decode cX0_countSale 47 = .ok (.ladd, 1) := by decide +kernel
theorem dX0_countSale_48 : decode cX0_countSale 48 = .ok (.lastore, 1) := by decide +kernel
theorem dX0_countSale_49 : decode cX0_countSale 49 = .ok (.return_, 1) := by decide +kernel
set_option maxRecDepth 20000 in
theorem ggX0_scoreWays_X0_addKindToWays : GoodIn wsX0_scoreWays wsX0_addKindToWays := goodIn_r _ [12, 13, 1, 2, 3, 4, 14, 15, 16, 17, 11, 18, 7, 19, 20, 21, 22, 5, 6, 23, 24, 25, 26, 27, 28, 29, 30, 31, 32, 33, 34, 35, 36, 37, 38, 39, 40, 41, 42, 43] (by decide +kernel) (by decide +kernel)
set_option maxRecDepth 20000 in
theorem gX0_scoreWays_X0_addKindToWays : GoodIn wsX0_scoreWays (wsV RX0 196 RX0 yX0_addKindToWays wsX0_addKindToWays) := goodIn_app (goodIn_of _ (by decide +kernel)) ggX0_scoreWays_X0_addKindToWays
theorem dX0_scoreWays_0 : decode cX0_scoreWays 0 = .ok (.iload_n 1, 1) := by decide +kernel
theorem dX0_scoreWays_1 : decode cX0_scoreWays 1 = .ok (.sipush 2000, 3) := by decide +kernel
theorem dX0_scoreWays_4 : decode cX0_scoreWays 4 = .ok (.invokestatic 94, 3) := by decide +kernel
theorem dX0_scoreWays_7 : decode cX0_scoreWays 7 = .ok (.istore_n 3, 1) := by decide +kernel
theorem dX0_scoreWays_8 : decode cX0_scoreWays 8 = .ok (.aload_n 0, 1) := by decide +kernel
theorem dX0_scoreWays_9 : decode cX0_scoreWays 9 = .ok (.getfield 61, 3) := by decide +kernel
theorem dX0_scoreWays_12 : decode cX0_scoreWays 12 = .ok (.iconst 0, 1) := by decide +kernel
theorem dX0_scoreWays_13 : decode cX0_scoreWays 13 = .ok (.lconst 0, 1) := by decide +kernel
theorem dX0_scoreWays_14 : decode cX0_scoreWays 14 = .ok (.lastore, 1) := by decide +kernel
theorem dX0_scoreWays_15 : decode cX0_scoreWays 15 = .ok (.iconst 1, 1) := by decide +kernel
theorem dX0_scoreWays_16 : decode cX0_scoreWays 16 = .ok (.istore 4, 2) := by decide +kernel
theorem dX0_scoreWays_18 : decode cX0_scoreWays 18 = .ok (.iload 4, 2) := by decide +kernel
theorem dX0_scoreWays_20 : decode cX0_scoreWays 20 = .ok (.iload_n 3, 1) := by decide +kernel
theorem dX0_scoreWays_21 : decode cX0_scoreWays 21 = .ok (.if_icmp .gt 19, 3) := by decide +kernel
theorem dX0_scoreWays_24 : decode cX0_scoreWays 24 = .ok (.aload_n 0, 1) := by decide +kernel
theorem dX0_scoreWays_25 : decode cX0_scoreWays 25 = .ok (.getfield 61, 3) := by decide +kernel
theorem dX0_scoreWays_28 : decode cX0_scoreWays 28 = .ok (.iload 4, 2) := by decide +kernel
theorem dX0_scoreWays_30 : decode cX0_scoreWays 30 = .ok (.ldc2_w 126, 3) := by decide +kernel
theorem dX0_scoreWays_33 : decode cX0_scoreWays 33 = .ok (.lastore, 1) := by decide +kernel
theorem dX0_scoreWays_34 : decode cX0_scoreWays 34 = .ok (.iinc 4 1, 3) := by decide +kernel
theorem dX0_scoreWays_37 : decode cX0_scoreWays 37 = .ok (.goto (-19), 3) := by decide +kernel
theorem dX0_scoreWays_40 : decode cX0_scoreWays 40 = .ok (.iconst 0, 1) := by decide +kernel
theorem dX0_scoreWays_41 : decode cX0_scoreWays 41 = .ok (.istore 4, 2) := by decide +kernel
theorem dX0_scoreWays_43 : decode cX0_scoreWays 43 = .ok (.iload 4, 2) := by decide +kernel
theorem dX0_scoreWays_45 : decode cX0_scoreWays 45 = .ok (.aload_n 0, 1) := by decide +kernel
theorem dX0_scoreWays_46 : decode cX0_scoreWays 46 = .ok (.getfield 9, 3) := by decide +kernel
theorem dX0_scoreWays_49 : decode cX0_scoreWays 49 = .ok (.if_icmp .ge 20, 3) := by decide +kernel
theorem dX0_scoreWays_52 : decode cX0_scoreWays 52 = .ok (.aload_n 0, 1) := by decide +kernel
theorem dX0_scoreWays_53 : decode cX0_scoreWays 53 = .ok (.iload 4, 2) := by decide +kernel
theorem dX0_scoreWays_55 : decode cX0_scoreWays 55 = .ok (.aload_n 2, 1) := by decide +kernel
theorem dX0_scoreWays_56 : decode cX0_scoreWays 56 = .ok (.iload 4, 2) := by decide +kernel
theorem dX0_scoreWays_58 : decode cX0_scoreWays 58 = .ok (.iaload, 1) := by decide +kernel
theorem dX0_scoreWays_59 : decode cX0_scoreWays 59 = .ok (.iload_n 3, 1) := by decide +kernel
theorem dX0_scoreWays_60 : decode cX0_scoreWays 60 = .ok (.invokevirtual 196, 3) := by decide +kernel
theorem dX0_scoreWays_63 : decode cX0_scoreWays 63 = .ok (.iinc 4 1, 3) := by decide +kernel
theorem dX0_scoreWays_66 : decode cX0_scoreWays 66 = .ok (.goto (-23), 3) := by decide +kernel
theorem dX0_scoreWays_69 : decode cX0_scoreWays 69 = .ok (.return_, 1) := by decide +kernel
set_option maxRecDepth 20000 in
theorem ggX0_addKindToWays_X0_digitOf : GoodIn wsX0_addKindToWays wsX0_digitOf := goodIn_r _ [11, 12, 6, 22, 23, 24, 25, 26, 27, 28, 29, 30, 31, 32, 33, 34, 35, 36, 37, 38, 39] (by decide +kernel) (by decide +kernel)
set_option maxRecDepth 20000 in
theorem gX0_addKindToWays_X0_digitOf : GoodIn wsX0_addKindToWays (wsV RX0 200 RX0 yX0_digitOf wsX0_digitOf) := goodIn_app (goodIn_of _ (by decide +kernel)) ggX0_addKindToWays_X0_digitOf
set_option maxRecDepth 20000 in
theorem ggX0_addKindToWays_X0_addPackToWays : GoodIn wsX0_addKindToWays wsX0_addPackToWays := goodIn_r _ [16, 17, 18, 19, 20, 4, 21, 22, 23, 24, 25, 26, 27, 28, 29, 30, 31, 32, 33, 34, 35, 36, 37, 38, 39] (by decide +kernel) (by decide +kernel)
set_option maxRecDepth 20000 in
theorem gX0_addKindToWays_X0_addPackToWays : GoodIn wsX0_addKindToWays (wsV RX0 205 RX0 yX0_addPackToWays wsX0_addPackToWays) := goodIn_app (goodIn_of _ (by decide +kernel)) ggX0_addKindToWays_X0_addPackToWays
theorem dX0_addKindToWays_0 : decode cX0_addKindToWays 0 = .ok (.lconst 1, 1) := by decide +kernel
theorem dX0_addKindToWays_1 : decode cX0_addKindToWays 1 = .ok (.aload_n 0, 1) := by decide +kernel
theorem dX0_addKindToWays_2 : decode cX0_addKindToWays 2 = .ok (.iload_n 1, 1) := by decide +kernel
theorem dX0_addKindToWays_3 : decode cX0_addKindToWays 3 = .ok (.invokevirtual 200, 3) := by decide +kernel
theorem dX0_addKindToWays_6 : decode cX0_addKindToWays 6 = .ok (.lshl, 1) := by decide +kernel
theorem dX0_addKindToWays_7 : decode cX0_addKindToWays 7 = .ok (.ldc2_w 203, 3) := by decide +kernel
theorem dX0_addKindToWays_10 : decode cX0_addKindToWays 10 = .ok (.lsub, 1) := by decide +kernel
theorem dX0_addKindToWays_11 : decode cX0_addKindToWays 11 = .ok (.lstore 4, 2) := by decide +kernel
theorem dX0_addKindToWays_13 : decode cX0_addKindToWays 13 = .ok (.iload_n 2, 1) := by decide +kernel
theorem dX0_addKindToWays_14 : decode cX0_addKindToWays 14 = .ok (.istore 6, 2) := by decide +kernel
theorem dX0_addKindToWays_16 : decode cX0_addKindToWays 16 = .ok (.iconst 1, 1) := by decide +kernel
theorem dX0_addKindToWays_17 : decode cX0_addKindToWays 17 = .ok (.istore 7, 2) := by decide +kernel
theorem dX0_addKindToWays_19 : decode cX0_addKindToWays 19 = .ok (.iload 7, 2) := by decide +kernel
theorem dX0_addKindToWays_21 : decode cX0_addKindToWays 21 = .ok (.bipush 60, 2) := by decide +kernel
theorem dX0_addKindToWays_23 : decode cX0_addKindToWays 23 = .ok (.if_icmp .gt 53, 3) := by decide +kernel
theorem dX0_addKindToWays_26 : decode cX0_addKindToWays 26 = .ok (.iload 7, 2) := by decide +kernel
theorem dX0_addKindToWays_28 : decode cX0_addKindToWays 28 = .ok (.iload 6, 2) := by decide +kernel
theorem dX0_addKindToWays_30 : decode cX0_addKindToWays 30 = .ok (.invokestatic 94, 3) := by decide +kernel
theorem dX0_addKindToWays_33 : decode cX0_addKindToWays 33 = .ok (.istore 8, 2) := by decide +kernel
theorem dX0_addKindToWays_35 : decode cX0_addKindToWays 35 = .ok (.iload 8, 2) := by decide +kernel
theorem dX0_addKindToWays_37 : decode cX0_addKindToWays 37 = .ok (.ifCond .le 23, 3) := by decide +kernel
theorem dX0_addKindToWays_40 : decode cX0_addKindToWays 40 = .ok (.aload_n 0, 1) := by decide +kernel
theorem dX0_addKindToWays_41 : decode cX0_addKindToWays 41 = .ok (.iload 8, 2) := by decide +kernel
theorem dX0_addKindToWays_43 : decode cX0_addKindToWays 43 = .ok (.aload_n 0, 1) := by decide +kernel
theorem dX0_addKindToWays_44 : decode cX0_addKindToWays 44 = .ok (.getfield 13, 3) := by decide +kernel
theorem dX0_addKindToWays_47 : decode cX0_addKindToWays 47 = .ok (.iload_n 1, 1) := by decide +kernel
theorem dX0_addKindToWays_48 : decode cX0_addKindToWays 48 = .ok (.iaload, 1) := by decide +kernel
theorem dX0_addKindToWays_49 : decode cX0_addKindToWays 49 = .ok (.imul, 1) := by decide +kernel
theorem dX0_addKindToWays_50 : decode cX0_addKindToWays 50 = .ok (.iload 8, 2) := by decide +kernel
theorem dX0_addKindToWays_52 : decode cX0_addKindToWays 52 = .ok (.i2l, 1) := by decide +kernel
theorem dX0_addKindToWays_53 : decode cX0_addKindToWays 53 = .ok (.lload 4, 2) := by decide +kernel
theorem dX0_addKindToWays_55 : decode cX0_addKindToWays 55 = .ok (.lmul, 1) := by decide +kernel
theorem dX0_addKindToWays_56 : decode cX0_addKindToWays 56 = .ok (.iload_n 3, 1) := by decide +kernel
theorem dX0_addKindToWays_57 : decode cX0_addKindToWays 57 = .ok (.invokevirtual 205, 3) := by decide +kernel
theorem dX0_addKindToWays_60 : decode cX0_addKindToWays 60 = .ok (.iload 6, 2) := by decide +kernel
theorem dX0_addKindToWays_62 : decode cX0_addKindToWays 62 = .ok (.iload 8, 2) := by decide +kernel
theorem dX0_addKindToWays_64 : decode cX0_addKindToWays 64 = .ok (.isub, 1) := by decide +kernel
theorem dX0_addKindToWays_65 : decode cX0_addKindToWays 65 = .ok (.istore 6, 2) := by decide +kernel
theorem dX0_addKindToWays_67 : decode cX0_addKindToWays 67 = .ok (.iload 7, 2) := by decide +kernel
theorem dX0_addKindToWays_69 : decode cX0_addKindToWays 69 = .ok (.iconst 2, 1) := by decide +kernel
theorem dX0_addKindToWays_70 : decode cX0_addKindToWays 70 = .ok (.imul, 1) := by decide +kernel
theorem dX0_addKindToWays_71 : decode cX0_addKindToWays 71 = .ok (.istore 7, 2) := by decide +kernel
theorem dX0_addKindToWays_73 : decode cX0_addKindToWays 73 = .ok (.goto (-54), 3) := by decide +kernel
theorem dX0_addKindToWays_76 : decode cX0_addKindToWays 76 = .ok (.return_, 1) := by decide +kernel
theorem dX0_addPackToWays_0 : decode cX0_addPackToWays 0 = .ok (.iload 4, 2) := by decide +kernel
theorem dX0_addPackToWays_2 : decode cX0_addPackToWays 2 = .ok (.istore 5, 2) := by decide +kernel
theorem dX0_addPackToWays_4 : decode cX0_addPackToWays 4 = .ok (.iload 5, 2) := by decide +kernel
theorem dX0_addPackToWays_6 : decode cX0_addPackToWays 6 = .ok (.iload_n 1, 1) := by decide +kernel
theorem dX0_addPackToWays_7 : decode cX0_addPackToWays 7 = .ok (.if_icmp .lt 50, 3) := by decide +kernel
theorem dX0_addPackToWays_10 : decode cX0_addPackToWays 10 = .ok (.aload_n 0, 1) := by decide +kernel
theorem dX0_addPackToWays_11 : decode cX0_addPackToWays 11 = .ok (.getfield 61, 3) := by decide +kernel
theorem dX0_addPackToWays_14 : decode cX0_addPackToWays 14 = .ok (.iload 5, 2) := by decide +kernel
theorem dX0_addPackToWays_16 : decode cX0_addPackToWays 16 = .ok (.iload_n 1, 1) := by decide +kernel
theorem dX0_addPackToWays_17 : decode cX0_addPackToWays 17 = .ok (.isub, 1) := by decide +kernel
theorem dX0_addPackToWays_18 : decode cX0_addPackToWays 18 = .ok (.laload, 1) := by decide +kernel
theorem dX0_addPackToWays_19 : decode cX0_addPackToWays 19 = .ok (.lstore 6, 2) := by decide +kernel
theorem dX0_addPackToWays_21 : decode cX0_addPackToWays 21 = .ok (.lload 6, 2) := by decide +kernel
theorem dX0_addPackToWays_23 : decode cX0_addPackToWays 23 = .ok (.ldc2_w 126, 3) := by decide +kernel
theorem dX0_addPackToWays_26 : decode cX0_addPackToWays 26 = .ok (.lcmp, 1) := by decide +kernel
theorem dX0_addPackToWays_27 : decode cX0_addPackToWays 27 = .ok (.ifCond .eq 24, 3) := by decide +kernel
theorem dX0_addPackToWays_30 : decode cX0_addPackToWays 30 = .ok (.aload_n 0, 1) := by decide +kernel
theorem dX0_addPackToWays_31 : decode cX0_addPackToWays 31 = .ok (.getfield 61, 3) := by decide +kernel
theorem dX0_addPackToWays_34 : decode cX0_addPackToWays 34 = .ok (.iload 5, 2) := by decide +kernel
theorem dX0_addPackToWays_36 : decode cX0_addPackToWays 36 = .ok (.aload_n 0, 1) := by decide +kernel
theorem dX0_addPackToWays_37 : decode cX0_addPackToWays 37 = .ok (.getfield 61, 3) := by decide +kernel
theorem dX0_addPackToWays_40 : decode cX0_addPackToWays 40 = .ok (.iload 5, 2) := by decide +kernel
theorem dX0_addPackToWays_42 : decode cX0_addPackToWays 42 = .ok (.laload, 1) := by decide +kernel
theorem dX0_addPackToWays_43 : decode cX0_addPackToWays 43 = .ok (.lload 6, 2) := by decide +kernel
theorem dX0_addPackToWays_45 : decode cX0_addPackToWays 45 = .ok (.lload_n 2, 1) := by decide +kernel
theorem dX0_addPackToWays_46 : decode cX0_addPackToWays 46 = .ok (.ladd, 1) := by decide +kernel
theorem dX0_addPackToWays_47 : decode cX0_addPackToWays 47 = .ok (.invokestatic 209, 3) := by decide +kernel
theorem dX0_addPackToWays_50 : decode cX0_addPackToWays 50 = .ok (.lastore, 1) := by decide +kernel
theorem dX0_addPackToWays_51 : decode cX0_addPackToWays 51 = .ok (.iinc 5 (-1), 3) := by decide +kernel
theorem dX0_addPackToWays_54 : decode cX0_addPackToWays 54 = .ok (.goto (-50), 3) := by decide +kernel
theorem dX0_addPackToWays_57 : decode cX0_addPackToWays 57 = .ok (.return_, 1) := by decide +kernel
theorem dX0_scoreOf_0 : decode cX0_scoreOf 0 = .ok (.iload_n 1, 1) := by decide +kernel
theorem dX0_scoreOf_1 : decode cX0_scoreOf 1 = .ok (.ifCond .lt 10, 3) := by decide +kernel
theorem dX0_scoreOf_4 : decode cX0_scoreOf 4 = .ok (.iload_n 1, 1) := by decide +kernel
theorem dX0_scoreOf_5 : decode cX0_scoreOf 5 = .ok (.sipush 2000, 3) := by decide +kernel
theorem dX0_scoreOf_8 : decode cX0_scoreOf 8 = .ok (.if_icmp .le 9, 3) := by decide +kernel
theorem dX0_scoreOf_11 : decode cX0_scoreOf 11 = .ok (.ldc2_w 126, 3) := by decide +kernel
theorem dX0_scoreOf_14 : decode cX0_scoreOf 14 = .ok (.goto 9, 3) := by decide +kernel
theorem dX0_scoreOf_17 : decode cX0_scoreOf 17 = .ok (.aload_n 0, 1) := by decide +kernel
theorem dX0_scoreOf_18 : decode cX0_scoreOf 18 = .ok (.getfield 61, 3) := by decide +kernel
theorem dX0_scoreOf_21 : decode cX0_scoreOf 21 = .ok (.iload_n 1, 1) := by decide +kernel
theorem dX0_scoreOf_22 : decode cX0_scoreOf 22 = .ok (.laload, 1) := by decide +kernel
theorem dX0_scoreOf_23 : decode cX0_scoreOf 23 = .ok (.lreturn, 1) := by decide +kernel
theorem dX0_digitOf_0 : decode cX0_digitOf 0 = .ok (.iconst 0, 1) := by decide +kernel
theorem dX0_digitOf_1 : decode cX0_digitOf 1 = .ok (.istore_n 2, 1) := by decide +kernel
theorem dX0_digitOf_2 : decode cX0_digitOf 2 = .ok (.iconst 0, 1) := by decide +kernel
theorem dX0_digitOf_3 : decode cX0_digitOf 3 = .ok (.istore_n 3, 1) := by decide +kernel
theorem dX0_digitOf_4 : decode cX0_digitOf 4 = .ok (.iload_n 3, 1) := by decide +kernel
theorem dX0_digitOf_5 : decode cX0_digitOf 5 = .ok (.aload_n 0, 1) := by decide +kernel
theorem dX0_digitOf_6 : decode cX0_digitOf 6 = .ok (.getfield 9, 3) := by decide +kernel
theorem dX0_digitOf_9 : decode cX0_digitOf 9 = .ok (.if_icmp .ge 27, 3) := by decide +kernel
theorem dX0_digitOf_12 : decode cX0_digitOf 12 = .ok (.aload_n 0, 1) := by decide +kernel
theorem dX0_digitOf_13 : decode cX0_digitOf 13 = .ok (.getfield 13, 3) := by decide +kernel
theorem dX0_digitOf_16 : decode cX0_digitOf 16 = .ok (.iload_n 3, 1) := by decide +kernel
theorem dX0_digitOf_17 : decode cX0_digitOf 17 = .ok (.iaload, 1) := by decide +kernel
theorem dX0_digitOf_18 : decode cX0_digitOf 18 = .ok (.aload_n 0, 1) := by decide +kernel
theorem dX0_digitOf_19 : decode cX0_digitOf 19 = .ok (.getfield 13, 3) := by decide +kernel
theorem dX0_digitOf_22 : decode cX0_digitOf 22 = .ok (.iload_n 1, 1) := by decide +kernel
theorem dX0_digitOf_23 : decode cX0_digitOf 23 = .ok (.iaload, 1) := by decide +kernel
theorem dX0_digitOf_24 : decode cX0_digitOf 24 = .ok (.if_icmp .ge 6, 3) := by decide +kernel
theorem dX0_digitOf_27 : decode cX0_digitOf 27 = .ok (.iinc 2 1, 3) := by decide +kernel
theorem dX0_digitOf_30 : decode cX0_digitOf 30 = .ok (.iinc 3 1, 3) := by decide +kernel
theorem dX0_digitOf_33 : decode cX0_digitOf 33 = .ok (.goto (-29), 3) := by decide +kernel
theorem dX0_digitOf_36 : decode cX0_digitOf 36 = .ok (.iload_n 2, 1) := by decide +kernel
theorem dX0_digitOf_37 : decode cX0_digitOf 37 = .ok (.bipush 6, 2) := by decide +kernel
theorem dX0_digitOf_39 : decode cX0_digitOf 39 = .ok (.imul, 1) := by decide +kernel
theorem dX0_digitOf_40 : decode cX0_digitOf 40 = .ok (.ireturn, 1) := by decide +kernel
theorem dX0_coinsInWay_0 : decode cX0_coinsInWay 0 = .ok (.lload_n 0, 1) := by decide +kernel
theorem dX0_coinsInWay_1 : decode cX0_coinsInWay 1 = .ok (.bipush 48, 2) := by decide +kernel
theorem dX0_coinsInWay_3 : decode cX0_coinsInWay 3 = .ok (.lshr, 1) := by decide +kernel
theorem dX0_coinsInWay_4 : decode cX0_coinsInWay 4 = .ok (.lneg, 1) := by decide +kernel
theorem dX0_coinsInWay_5 : decode cX0_coinsInWay 5 = .ok (.l2i, 1) := by decide +kernel
theorem dX0_coinsInWay_6 : decode cX0_coinsInWay 6 = .ok (.ireturn, 1) := by decide +kernel
set_option maxRecDepth 20000 in
theorem ggX0_coinsOfKindInWay_X0_digitOf : GoodIn wsX0_coinsOfKindInWay wsX0_digitOf := goodIn_r _ [6, 7, 8, 9, 10, 11, 12, 13, 14, 15, 16, 17, 18, 19, 20, 21, 22, 23, 24, 25, 26] (by decide +kernel) (by decide +kernel)
set_option maxRecDepth 20000 in
theorem gX0_coinsOfKindInWay_X0_digitOf : GoodIn wsX0_coinsOfKindInWay (wsV RX0 200 RX0 yX0_digitOf wsX0_digitOf) := goodIn_app (goodIn_of _ (by decide +kernel)) ggX0_coinsOfKindInWay_X0_digitOf
theorem dX0_coinsOfKindInWay_0 : decode cX0_coinsOfKindInWay 0 = .ok (.lload_n 1, 1) := by decide +kernel
theorem dX0_coinsOfKindInWay_1 : decode cX0_coinsOfKindInWay 1 = .ok (.aload_n 0, 1) := by decide +kernel
theorem dX0_coinsOfKindInWay_2 : decode cX0_coinsOfKindInWay 2 = .ok (.iload_n 3, 1) := by decide +kernel
theorem dX0_coinsOfKindInWay_3 : decode cX0_coinsOfKindInWay 3 = .ok (.invokevirtual 200, 3) := by decide +kernel
theorem dX0_coinsOfKindInWay_6 : decode cX0_coinsOfKindInWay 6 = .ok (.lshr, 1) := by decide +kernel
theorem dX0_coinsOfKindInWay_7 : decode cX0_coinsOfKindInWay 7 = .ok (.ldc2_w 213, 3) := by decide +kernel
theorem dX0_coinsOfKindInWay_10 : decode cX0_coinsOfKindInWay 10 = .ok (.land, 1) := by decide +kernel
theorem dX0_coinsOfKindInWay_11 : decode cX0_coinsOfKindInWay 11 = .ok (.l2i, 1) := by decide +kernel
theorem dX0_coinsOfKindInWay_12 : decode cX0_coinsOfKindInWay 12 = .ok (.ireturn, 1) := by decide +kernel
set_option maxRecDepth 20000 in
theorem ggX0_needsExactMoney_X0_overpaid : GoodIn wsX0_needsExactMoney wsX0_overpaid := goodIn_r _ [8] (by decide +kernel) (by decide +kernel)
set_option maxRecDepth 20000 in
theorem gX0_needsExactMoney_X0_overpaid : GoodIn wsX0_needsExactMoney (va_wsS RX0 215 yX0_overpaid wsX0_overpaid) := goodIn_app (goodIn_of _ (by decide +kernel)) ggX0_needsExactMoney_X0_overpaid
set_option maxRecDepth 20000 in
theorem ggX0_needsExactMoney_X0_scoreOf : GoodIn wsX0_needsExactMoney wsX0_scoreOf := goodIn_r _ [12, 4, 13, 14, 15, 16, 17, 18, 19, 20, 21, 22, 23, 24, 25, 26, 27, 28, 29, 30, 31] (by decide +kernel) (by decide +kernel)
set_option maxRecDepth 20000 in
theorem gX0_needsExactMoney_X0_scoreOf : GoodIn wsX0_needsExactMoney (wsV RX0 122 RX0 yX0_scoreOf wsX0_scoreOf) := goodIn_app (goodIn_of _ (by decide +kernel)) ggX0_needsExactMoney_X0_scoreOf
theorem dX0_needsExactMoney_0 : decode cX0_needsExactMoney 0 = .ok (.iconst 0, 1) := by decide +kernel
theorem dX0_needsExactMoney_1 : decode cX0_needsExactMoney 1 = .ok (.istore_n 2, 1) := by decide +kernel
theorem dX0_needsExactMoney_2 : decode cX0_needsExactMoney 2 = .ok (.iload_n 2, 1) := by decide +kernel
theorem dX0_needsExactMoney_3 : decode cX0_needsExactMoney 3 = .ok (.aload_n 0, 1) := by decide +kernel
theorem dX0_needsExactMoney_4 : decode cX0_needsExactMoney 4 = .ok (.getfield 9, 3) := by decide +kernel
theorem dX0_needsExactMoney_7 : decode cX0_needsExactMoney 7 = .ok (.if_icmp .ge 41, 3) := by decide +kernel
theorem dX0_needsExactMoney_10 : decode cX0_needsExactMoney 10 = .ok (.aload_n 0, 1) := by decide +kernel
theorem dX0_needsExactMoney_11 : decode cX0_needsExactMoney 11 = .ok (.getfield 29, 3) := by decide +kernel
theorem dX0_needsExactMoney_14 : decode cX0_needsExactMoney 14 = .ok (.iload_n 2, 1) := by decide +kernel
theorem dX0_needsExactMoney_15 : decode cX0_needsExactMoney 15 = .ok (.baload, 1) := by decide +kernel
theorem dX0_needsExactMoney_16 : decode cX0_needsExactMoney 16 = .ok (.ifCond .eq 26, 3) := by decide +kernel
theorem dX0_needsExactMoney_19 : decode cX0_needsExactMoney 19 = .ok (.aload_n 0, 1) := by decide +kernel
theorem dX0_needsExactMoney_20 : decode cX0_needsExactMoney 20 = .ok (.iload_n 1, 1) := by decide +kernel
theorem dX0_needsExactMoney_21 : decode cX0_needsExactMoney 21 = .ok (.aload_n 0, 1) := by decide +kernel
theorem dX0_needsExactMoney_22 : decode cX0_needsExactMoney 22 = .ok (.getfield 13, 3) := by decide +kernel
theorem dX0_needsExactMoney_25 : decode cX0_needsExactMoney 25 = .ok (.iload_n 2, 1) := by decide +kernel
theorem dX0_needsExactMoney_26 : decode cX0_needsExactMoney 26 = .ok (.iaload, 1) := by decide +kernel
theorem dX0_needsExactMoney_27 : decode cX0_needsExactMoney 27 = .ok (.invokestatic 215, 3) := by decide +kernel
theorem dX0_needsExactMoney_30 : decode cX0_needsExactMoney 30 = .ok (.invokevirtual 122, 3) := by decide +kernel
theorem dX0_needsExactMoney_33 : decode cX0_needsExactMoney 33 = .ok (.ldc2_w 126, 3) := by decide +kernel
theorem dX0_needsExactMoney_36 : decode cX0_needsExactMoney 36 = .ok (.lcmp, 1) := by decide +kernel
theorem dX0_needsExactMoney_37 : decode cX0_needsExactMoney 37 = .ok (.ifCond .ne 5, 3) := by decide +kernel
theorem dX0_needsExactMoney_40 : decode cX0_needsExactMoney 40 = .ok (.iconst 1, 1) := by decide +kernel
theorem dX0_needsExactMoney_41 : decode cX0_needsExactMoney 41 = .ok (.ireturn, 1) := by decide +kernel
theorem dX0_needsExactMoney_42 : decode cX0_needsExactMoney 42 = .ok (.iinc 2 1, 3) := by decide +kernel
theorem dX0_needsExactMoney_45 : decode cX0_needsExactMoney 45 = .ok (.goto (-43), 3) := by decide +kernel
theorem dX0_needsExactMoney_48 : decode cX0_needsExactMoney 48 = .ok (.iconst 0, 1) := by decide +kernel
theorem dX0_needsExactMoney_49 : decode cX0_needsExactMoney 49 = .ok (.ireturn, 1) := by decide +kernel
theorem dX0_overpaid_0 : decode cX0_overpaid 0 = .ok (.iload_n 1, 1) := by decide +kernel
theorem dX0_overpaid_1 : decode cX0_overpaid 1 = .ok (.iconst 1, 1) := by decide +kernel
theorem dX0_overpaid_2 : decode cX0_overpaid 2 = .ok (.if_icmp .ge 7, 3) := by decide +kernel
theorem dX0_overpaid_5 : decode cX0_overpaid 5 = .ok (.iconst 0, 1) := by decide +kernel
theorem dX0_overpaid_6 : decode cX0_overpaid 6 = .ok (.goto 6, 3) := by decide +kernel
theorem dX0_overpaid_9 : decode cX0_overpaid 9 = .ok (.iload_n 0, 1) := by decide +kernel
theorem dX0_overpaid_10 : decode cX0_overpaid 10 = .ok (.iload_n 1, 1) := by decide +kernel
theorem dX0_overpaid_11 : decode cX0_overpaid 11 = .ok (.irem, 1) := by decide +kernel
theorem dX0_overpaid_12 : decode cX0_overpaid 12 = .ok (.istore_n 2, 1) := by decide +kernel
theorem dX0_overpaid_13 : decode cX0_overpaid 13 = .ok (.iload_n 2, 1) := by decide +kernel
theorem dX0_overpaid_14 : decode cX0_overpaid 14 = .ok (.ifCond .ne 7, 3) := by decide +kernel
theorem dX0_overpaid_17 : decode cX0_overpaid 17 = .ok (.iconst 0, 1) := by decide +kernel
theorem dX0_overpaid_18 : decode cX0_overpaid 18 = .ok (.goto 6, 3) := by decide +kernel
theorem dX0_overpaid_21 : decode cX0_overpaid 21 = .ok (.iload_n 1, 1) := by decide +kernel
theorem dX0_overpaid_22 : decode cX0_overpaid 22 = .ok (.iload_n 2, 1) := by decide +kernel
theorem dX0_overpaid_23 : decode cX0_overpaid 23 = .ok (.isub, 1) := by decide +kernel
theorem dX0_overpaid_24 : decode cX0_overpaid 24 = .ok (.ireturn, 1) := by decide +kernel
end
section
theorem dX1_init_0 : decode cX1_init 0 = .ok (.aload_n 0, 1) := by decide +kernel
theorem dX1_init_1 : decode cX1_init 1 = .ok (.invokespecial 1, 3) := by decide +kernel
theorem dX1_init_4 : decode cX1_init 4 = .ok (.aload_n 0, 1) := by decide +kernel
theorem dX1_init_5 : decode cX1_init 5 = .ok (.bipush 8, 2) := by decide +kernel
theorem dX1_init_7 : decode cX1_init 7 = .ok (.newarray .int, 2) := by decide +kernel
theorem dX1_init_9 : decode cX1_init 9 = .ok (.putfield 9, 3) := by decide +kernel
theorem dX1_init_12 : decode cX1_init 12 = .ok (.aload_n 0, 1) := by decide +kernel
theorem dX1_init_13 : decode cX1_init 13 = .ok (.bipush 8, 2) := by decide +kernel
theorem dX1_init_15 : decode cX1_init 15 = .ok (.newarray .int, 2) := by decide +kernel
theorem dX1_init_17 : decode cX1_init 17 = .ok (.putfield 13, 3) := by decide +kernel
theorem dX1_init_20 : decode cX1_init 20 = .ok (.aload_n 0, 1) := by decide +kernel
theorem dX1_init_21 : decode cX1_init 21 = .ok (.bipush 8, 2) := by decide +kernel
theorem dX1_init_23 : decode cX1_init 23 = .ok (.newarray .boolean, 2) := by decide +kernel
theorem dX1_init_25 : decode cX1_init 25 = .ok (.putfield 16, 3) := by decide +kernel
theorem dX1_init_28 : decode cX1_init 28 = .ok (.aload_n 0, 1) := by decide +kernel
theorem dX1_init_29 : decode cX1_init 29 = .ok (.bipush 8, 2) := by decide +kernel
theorem dX1_init_31 : decode cX1_init 31 = .ok (.newarray .int, 2) := by decide +kernel
theorem dX1_init_33 : decode cX1_init 33 = .ok (.putfield 20, 3) := by decide +kernel
theorem dX1_init_36 : decode cX1_init 36 = .ok (.aload_n 0, 1) := by decide +kernel
theorem dX1_init_37 : decode cX1_init 37 = .ok (.bipush 8, 2) := by decide +kernel
theorem dX1_init_39 : decode cX1_init 39 = .ok (.newarray .int, 2) := by decide +kernel
theorem dX1_init_41 : decode cX1_init 41 = .ok (.putfield 23, 3) := by decide +kernel
theorem dX1_init_44 : decode cX1_init 44 = .ok (.aload_n 0, 1) := by decide +kernel
theorem dX1_init_45 : decode cX1_init 45 = .ok (.bipush 8, 2) := by decide +kernel
theorem dX1_init_47 : decode cX1_init 47 = .ok (.newarray .int, 2) := by decide +kernel
theorem dX1_init_49 : decode cX1_init 49 = .ok (.putfield 26, 3) := by decide +kernel
theorem dX1_init_52 : decode cX1_init 52 = .ok (.aload_n 0, 1) := by decide +kernel
theorem dX1_init_53 : decode cX1_init 53 = .ok (.bipush 8, 2) := by decide +kernel
theorem dX1_init_55 : decode cX1_init 55 = .ok (.newarray .int, 2) := by decide +kernel
theorem dX1_init_57 : decode cX1_init 57 = .ok (.putfield 29, 3) := by decide +kernel
theorem dX1_init_60 : decode cX1_init 60 = .ok (.aload_n 0, 1) := by decide +kernel
theorem dX1_init_61 : decode cX1_init 61 = .ok (.bipush 10, 2) := by decide +kernel
theorem dX1_init_63 : decode cX1_init 63 = .ok (.newarray .int, 2) := by decide +kernel
theorem dX1_init_65 : decode cX1_init 65 = .ok (.putfield 32, 3) := by decide +kernel
theorem dX1_init_68 : decode cX1_init 68 = .ok (.aload_n 0, 1) := by decide +kernel
theorem dX1_init_69 : decode cX1_init 69 = .ok (.bipush 10, 2) := by decide +kernel
theorem dX1_init_71 : decode cX1_init 71 = .ok (.newarray .int, 2) := by decide +kernel
theorem dX1_init_73 : decode cX1_init 73 = .ok (.putfield 35, 3) := by decide +kernel
theorem dX1_init_76 : decode cX1_init 76 = .ok (.aload_n 0, 1) := by decide +kernel
theorem dX1_init_77 : decode cX1_init 77 = .ok (.sipush 1000, 3) := by decide +kernel
theorem dX1_init_80 : decode cX1_init 80 = .ok (.putfield 38, 3) := by decide +kernel
theorem dX1_init_83 : decode cX1_init 83 = .ok (.aload_n 0, 1) := by decide +kernel
theorem dX1_init_84 : decode cX1_init 84 = .ok (.bipush 12, 2) := by decide +kernel
theorem dX1_init_86 : decode cX1_init 86 = .ok (.newarray .int, 2) := by decide +kernel
theorem dX1_init_88 : decode cX1_init 88 = .ok (.putfield 42, 3) := by decide +kernel
theorem dX1_init_91 : decode cX1_init 91 = .ok (.aload_n 0, 1) := by decide +kernel
theorem dX1_init_92 : decode cX1_init 92 = .ok (.iconst (-1), 1) := by decide +kernel
theorem dX1_init_93 : decode cX1_init 93 = .ok (.putfield 45, 3) := by decide +kernel
theorem dX1_init_96 : decode cX1_init 96 = .ok (.aload_n 0, 1) := by decide +kernel
theorem dX1_init_97 : decode cX1_init 97 = .ok (.bipush 10, 2) := by decide +kernel
theorem dX1_init_99 : decode cX1_init 99 = .ok (.newarray .long, 2) := by decide +kernel
theorem dX1_init_101 : decode cX1_init 101 = .ok (.putfield 48, 3) := by decide +kernel
theorem dX1_init_104 : decode cX1_init 104 = .ok (.aload_n 0, 1) := by decide +kernel
theorem dX1_init_105 : decode cX1_init 105 = .ok (.sipush 18009, 3) := by decide +kernel
theorem dX1_init_108 : decode cX1_init 108 = .ok (.newarray .int, 2) := by decide +kernel
theorem dX1_init_110 : decode cX1_init 110 = .ok (.putfield 52, 3) := by decide +kernel
theorem dX1_init_113 : decode cX1_init 113 = .ok (.return_, 1) := by decide +kernel
theorem dX1_thrown_0 : decode cX1_thrown 0 = .ok (.aload_n 0, 1) := by decide +kernel
theorem dX1_thrown_1 : decode cX1_thrown 1 = .ok (.getfield 55, 3) := by decide +kernel
theorem dX1_thrown_4 : decode cX1_thrown 4 = .ok (.ireturn, 1) := by decide +kernel
theorem dX1_fail_0 : decode cX1_fail 0 = .ok (.aload_n 0, 1) := by decide +kernel
theorem dX1_fail_1 : decode cX1_fail 1 = .ok (.iload_n 1, 1) := by decide +kernel
theorem dX1_fail_2 : decode cX1_fail 2 = .ok (.putfield 55, 3) := by decide +kernel
theorem dX1_fail_5 : decode cX1_fail 5 = .ok (.iconst 0, 1) := by decide +kernel
theorem dX1_fail_6 : decode cX1_fail 6 = .ok (.ireturn, 1) := by decide +kernel
theorem dX1_isKind_0 : decode cX1_isKind 0 = .ok (.iload_n 1, 1) := by decide +kernel
theorem dX1_isKind_1 : decode cX1_isKind 1 = .ok (.ifCond .lt 15, 3) := by decide +kernel
theorem dX1_isKind_4 : decode cX1_isKind 4 = .ok (.iload_n 1, 1) := by decide +kernel
theorem dX1_isKind_5 : decode cX1_isKind 5 = .ok (.aload_n 0, 1) := by decide +kernel
theorem dX1_isKind_6 : decode cX1_isKind 6 = .ok (.getfield 58, 3) := by decide +kernel
theorem dX1_isKind_9 : decode cX1_isKind 9 = .ok (.if_icmp .ge 7, 3) := by decide +kernel
theorem dX1_isKind_12 : decode cX1_isKind 12 = .ok (.iconst 1, 1) := by decide +kernel
theorem dX1_isKind_13 : decode cX1_isKind 13 = .ok (.goto 4, 3) := by decide +kernel
theorem dX1_isKind_16 : decode cX1_isKind 16 = .ok (.iconst 0, 1) := by decide +kernel
theorem dX1_isKind_17 : decode cX1_isKind 17 = .ok (.ireturn, 1) := by decide +kernel
theorem dX1_isProduct_0 : decode cX1_isProduct 0 = .ok (.iload_n 1, 1) := by decide +kernel
theorem dX1_isProduct_1 : decode cX1_isProduct 1 = .ok (.ifCond .lt 15, 3) := by decide +kernel
theorem dX1_isProduct_4 : decode cX1_isProduct 4 = .ok (.iload_n 1, 1) := by decide +kernel
theorem dX1_isProduct_5 : decode cX1_isProduct 5 = .ok (.aload_n 0, 1) := by decide +kernel
theorem dX1_isProduct_6 : decode cX1_isProduct 6 = .ok (.getfield 61, 3) := by decide +kernel
theorem dX1_isProduct_9 : decode cX1_isProduct 9 = .ok (.if_icmp .ge 7, 3) := by decide +kernel
theorem dX1_isProduct_12 : decode cX1_isProduct 12 = .ok (.iconst 1, 1) := by decide +kernel
theorem dX1_isProduct_13 : decode cX1_isProduct 13 = .ok (.goto 4, 3) := by decide +kernel
theorem dX1_isProduct_16 : decode cX1_isProduct 16 = .ok (.iconst 0, 1) := by decide +kernel
theorem dX1_isProduct_17 : decode cX1_isProduct 17 = .ok (.ireturn, 1) := by decide +kernel
theorem dX1_isAmount_0 : decode cX1_isAmount 0 = .ok (.iload_n 0, 1) := by decide +kernel
theorem dX1_isAmount_1 : decode cX1_isAmount 1 = .ok (.ifCond .lt 14, 3) := by decide +kernel
theorem dX1_isAmount_4 : decode cX1_isAmount 4 = .ok (.iload_n 0, 1) := by decide +kernel
theorem dX1_isAmount_5 : decode cX1_isAmount 5 = .ok (.sipush 2000, 3) := by decide +kernel
theorem dX1_isAmount_8 : decode cX1_isAmount 8 = .ok (.if_icmp .gt 7, 3) := by decide +kernel
theorem dX1_isAmount_11 : decode cX1_isAmount 11 = .ok (.iconst 1, 1) := by decide +kernel
theorem dX1_isAmount_12 : decode cX1_isAmount 12 = .ok (.goto 4, 3) := by decide +kernel
theorem dX1_isAmount_15 : decode cX1_isAmount 15 = .ok (.iconst 0, 1) := by decide +kernel
theorem dX1_isAmount_16 : decode cX1_isAmount 16 = .ok (.ireturn, 1) := by decide +kernel
theorem dX1_isGoods_0 : decode cX1_isGoods 0 = .ok (.iload_n 0, 1) := by decide +kernel
theorem dX1_isGoods_1 : decode cX1_isGoods 1 = .ok (.iconst 1, 1) := by decide +kernel
theorem dX1_isGoods_2 : decode cX1_isGoods 2 = .ok (.if_icmp .lt 24, 3) := by decide +kernel
theorem dX1_isGoods_5 : decode cX1_isGoods 5 = .ok (.iload_n 0, 1) := by decide +kernel
theorem dX1_isGoods_6 : decode cX1_isGoods 6 = .ok (.sipush 2000, 3) := by decide +kernel
theorem dX1_isGoods_9 : decode cX1_isGoods 9 = .ok (.if_icmp .gt 17, 3) := by decide +kernel
theorem dX1_isGoods_12 : decode cX1_isGoods 12 = .ok (.iload_n 1, 1) := by decide +kernel
theorem dX1_isGoods_13 : decode cX1_isGoods 13 = .ok (.ifCond .lt 13, 3) := by decide +kernel
theorem dX1_isGoods_16 : decode cX1_isGoods 16 = .ok (.iload_n 1, 1) := by decide +kernel
theorem dX1_isGoods_17 : decode cX1_isGoods 17 = .ok (.bipush 99, 2) := by decide +kernel
theorem dX1_isGoods_19 : decode cX1_isGoods 19 = .ok (.if_icmp .gt 7, 3) := by decide +kernel
theorem dX1_isGoods_22 : decode cX1_isGoods 22 = .ok (.iconst 1, 1) := by decide +kernel
theorem dX1_isGoods_23 : decode cX1_isGoods 23 = .ok (.goto 4, 3) := by decide +kernel
theorem dX1_isGoods_26 : decode cX1_isGoods 26 = .ok (.iconst 0, 1) := by decide +kernel
theorem dX1_isGoods_27 : decode cX1_isGoods 27 = .ok (.ireturn, 1) := by decide +kernel
set_option maxRecDepth 20000 in
theorem ggX1_addKind_X1_fail : GoodIn wsX1_addKind wsX1_fail := goodIn_r _ [11, 1, 12, 13, 14, 15, 16, 17, 18, 19, 20, 21, 22, 23, 24, 25, 26, 27, 28, 29, 30] (by decide +kernel) (by decide +kernel)
set_option maxRecDepth 20000 in
theorem gX1_addKind_X1_fail : GoodIn wsX1_addKind (wsV RX1 64 RX1 yX1_fail wsX1_fail) := goodIn_app (goodIn_of _ (by decide +kernel)) ggX1_addKind_X1_fail
theorem dX1_addKind_0 : decode cX1_addKind 0 = .ok (.aload_n 0, 1) := by decide +kernel
theorem dX1_addKind_1 : decode cX1_addKind 1 = .ok (.iconst 0, 1) := by decide +kernel
theorem dX1_addKind_2 : decode cX1_addKind 2 = .ok (.putfield 55, 3) := by decide +kernel
theorem dX1_addKind_5 : decode cX1_addKind 5 = .ok (.iload_n 1, 1) := by decide +kernel
theorem dX1_addKind_6 : decode cX1_addKind 6 = .ok (.iconst 1, 1) := by decide +kernel
theorem dX1_addKind_7 : decode cX1_addKind 7 = .ok (.if_icmp .lt 20, 3) := by decide +kernel
theorem dX1_addKind_10 : decode cX1_addKind 10 = .ok (.iload_n 1, 1) := by decide +kernel
theorem dX1_addKind_11 : decode cX1_addKind 11 = .ok (.sipush 500, 3) := by decide +kernel
theorem dX1_addKind_14 : decode cX1_addKind 14 = .ok (.if_icmp .gt 13, 3) := by decide +kernel
theorem dX1_addKind_17 : decode cX1_addKind 17 = .ok (.iload_n 2, 1) := by decide +kernel
theorem dX1_addKind_18 : decode cX1_addKind 18 = .ok (.ifCond .lt 9, 3) := by decide +kernel
theorem dX1_addKind_21 : decode cX1_addKind 21 = .ok (.iload_n 2, 1) := by decide +kernel
theorem dX1_addKind_22 : decode cX1_addKind 22 = .ok (.bipush 60, 2) := by decide +kernel
theorem dX1_addKind_24 : decode cX1_addKind 24 = .ok (.if_icmp .le 9, 3) := by decide +kernel
theorem dX1_addKind_27 : decode cX1_addKind 27 = .ok (.aload_n 0, 1) := by decide +kernel
theorem dX1_addKind_28 : decode cX1_addKind 28 = .ok (.iconst 1, 1) := by decide +kernel
theorem dX1_addKind_29 : decode cX1_addKind 29 = .ok (.invokevirtual 64, 3) := by decide +kernel
theorem dX1_addKind_32 : decode cX1_addKind 32 = .ok (.ireturn, 1) := by decide +kernel
theorem dX1_addKind_33 : decode cX1_addKind 33 = .ok (.aload_n 0, 1) := by decide +kernel
theorem dX1_addKind_34 : decode cX1_addKind 34 = .ok (.getfield 58, 3) := by decide +kernel
theorem dX1_addKind_37 : decode cX1_addKind 37 = .ok (.bipush 8, 2) := by decide +kernel
theorem dX1_addKind_39 : decode cX1_addKind 39 = .ok (.if_icmp .ne 9, 3) := by decide +kernel
theorem dX1_addKind_42 : decode cX1_addKind 42 = .ok (.aload_n 0, 1) := by decide +kernel
theorem dX1_addKind_43 : decode cX1_addKind 43 = .ok (.iconst 2, 1) := by decide +kernel
theorem dX1_addKind_44 : decode cX1_addKind 44 = .ok (.invokevirtual 64, 3) := by decide +kernel
theorem dX1_addKind_47 : decode cX1_addKind 47 = .ok (.ireturn, 1) := by decide +kernel
theorem dX1_addKind_48 : decode cX1_addKind 48 = .ok (.iconst 0, 1) := by decide +kernel
theorem dX1_addKind_49 : decode cX1_addKind 49 = .ok (.istore_n 3, 1) := by decide +kernel
theorem dX1_addKind_50 : decode cX1_addKind 50 = .ok (.iload_n 3, 1) := by decide +kernel
theorem dX1_addKind_51 : decode cX1_addKind 51 = .ok (.aload_n 0, 1) := by decide +kernel
theorem dX1_addKind_52 : decode cX1_addKind 52 = .ok (.getfield 58, 3) := by decide +kernel
theorem dX1_addKind_55 : decode cX1_addKind 55 = .ok (.if_icmp .ge 25, 3) := by decide +kernel
theorem dX1_addKind_58 : decode cX1_addKind 58 = .ok (.aload_n 0, 1) := by decide +kernel
theorem dX1_addKind_59 : decode cX1_addKind 59 = .ok (.getfield 9, 3) := by decide +kernel
theorem dX1_addKind_62 : decode cX1_addKind 62 = .ok (.iload_n 3, 1) := by decide +kernel
theorem dX1_addKind_63 : decode cX1_addKind 63 = .ok (.iaload, 1) := by decide +kernel
theorem dX1_addKind_64 : decode cX1_addKind 64 = .ok (.iload_n 1, 1) := by decide +kernel
theorem dX1_addKind_65 : decode cX1_addKind 65 = .ok (.if_icmp .ne 9, 3) := by decide +kernel
theorem dX1_addKind_68 : decode cX1_addKind 68 = .ok (.aload_n 0, 1) := by decide +kernel
theorem dX1_addKind_69 : decode cX1_addKind 69 = .ok (.iconst 2, 1) := by decide +kernel
theorem dX1_addKind_70 : decode cX1_addKind 70 = .ok (.invokevirtual 64, 3) := by decide +kernel
theorem dX1_addKind_73 : decode cX1_addKind 73 = .ok (.ireturn, 1) := by decide +kernel
theorem dX1_addKind_74 : decode cX1_addKind 74 = .ok (.iinc 3 1, 3) := by decide +kernel
theorem dX1_addKind_77 : decode cX1_addKind 77 = .ok (.goto (-27), 3) := by decide +kernel
theorem dX1_addKind_80 : decode cX1_addKind 80 = .ok (.aload_n 0, 1) := by decide +kernel
theorem dX1_addKind_81 : decode cX1_addKind 81 = .ok (.getfield 9, 3) := by decide +kernel
theorem dX1_addKind_84 : decode cX1_addKind 84 = .ok (.aload_n 0, 1) := by decide +kernel
theorem dX1_addKind_85 : decode cX1_addKind 85 = .ok (.getfield 58, 3) := by decide +kernel
theorem dX1_addKind_88 : decode cX1_addKind 88 = .ok (.iload_n 1, 1) := by decide +kernel
theorem dX1_addKind_89 : decode cX1_addKind 89 = .ok (.iastore, 1) := by decide +kernel
theorem dX1_addKind_90 : decode cX1_addKind 90 = .ok (.aload_n 0, 1) := by decide +kernel
theorem dX1_addKind_91 : decode cX1_addKind 91 = .ok (.getfield 13, 3) := by decide +kernel
theorem dX1_addKind_94 : decode cX1_addKind 94 = .ok (.aload_n 0, 1) := by decide +kernel
theorem dX1_addKind_95 : decode cX1_addKind 95 = .ok (.getfield 58, 3) := by decide +kernel
theorem dX1_addKind_98 : decode cX1_addKind 98 = .ok (.iload_n 2, 1) := by decide +kernel
theorem dX1_addKind_99 : decode cX1_addKind 99 = .ok (.iastore, 1) := by decide +kernel
theorem dX1_addKind_100 : decode cX1_addKind 100 = .ok (.aload_n 0, 1) := by decide +kernel
theorem dX1_addKind_101 : decode cX1_addKind 101 = .ok (.getfield 16, 3) := by decide +kernel
theorem dX1_addKind_104 : decode cX1_addKind 104 = .ok (.aload_n 0, 1) := by decide +kernel
theorem dX1_addKind_105 : decode cX1_addKind 105 = .ok (.getfield 58, 3) := by decide +kernel
theorem dX1_addKind_108 : decode cX1_addKind 108 = .ok (.iconst 1, 1) := by decide +kernel
theorem dX1_addKind_109 : decode cX1_addKind 109 = .ok (.bastore, 1) := by decide +kernel
theorem dX1_addKind_110 : decode cX1_addKind 110 = .ok (.aload_n 0, 1) := by decide +kernel
theorem dX1_addKind_111 : decode cX1_addKind 111 = .ok (.getfield 58, 3) := by decide +kernel
theorem dX1_addKind_114 : decode cX1_addKind 114 = .ok (.istore_n 3, 1) := by decide +kernel
theorem dX1_addKind_115 : decode cX1_addKind 115 = .ok (.iload_n 3, 1) := by decide +kernel
theorem dX1_addKind_116 : decode cX1_addKind 116 = .ok (.ifCond .le 40, 3) := by decide +kernel
theorem dX1_addKind_119 : decode cX1_addKind 119 = .ok (.aload_n 0, 1) := by decide +kernel
theorem dX1_addKind_120 : decode cX1_addKind 120 = .ok (.getfield 9, 3) := by decide +kernel
theorem dX1_addKind_123 : decode cX1_addKind 123 = .ok (.aload_n 0, 1) := by decide +kernel
theorem dX1_addKind_124 : decode cX1_addKind 124 = .ok (.getfield 29, 3) := by decide +kernel
theorem dX1_addKind_127 : decode cX1_addKind 127 = .ok (.iload_n 3, 1) := by decide +kernel
theorem dX1_addKind_128 : decode cX1_addKind 128 = .ok (.iconst 1, 1) := by decide +kernel
theorem dX1_addKind_129 : decode cX1_addKind 129 = .ok (.isub, 1) := by decide +kernel
theorem dX1_addKind_130 : decode cX1_addKind 130 = .ok (.iaload, 1) := by decide +kernel
theorem dX1_addKind_131 : decode cX1_addKind 131 = .ok (.iaload, 1) := by decide +kernel
theorem dX1_addKind_132 : decode cX1_addKind 132 = .ok (.iload_n 1, 1) := by decide +kernel
theorem dX1_addKind_133 : decode cX1_addKind 133 = .ok (.if_icmp .le 23, 3) := by decide +kernel
theorem dX1_addKind_136 : decode cX1_addKind 136 = .ok (.aload_n 0, 1) := by decide +kernel
theorem dX1_addKind_137 : decode cX1_addKind 137 = .ok (.getfield 29, 3) := by decide +kernel
theorem dX1_addKind_140 : decode cX1_addKind 140 = .ok (.iload_n 3, 1) := by decide +kernel
theorem dX1_addKind_141 : decode cX1_addKind 141 = .ok (.aload_n 0, 1) := by decide +kernel
theorem dX1_addKind_142 : decode cX1_addKind 142 = .ok (.getfield 29, 3) := by decide +kernel
theorem dX1_addKind_145 : decode cX1_addKind 145 = .ok (.iload_n 3, 1) := by decide +kernel
theorem dX1_addKind_146 : decode cX1_addKind 146 = .ok (.iconst 1, 1) := by decide +kernel
theorem dX1_addKind_147 : decode cX1_addKind 147 = .ok (.isub, 1) := by decide +kernel
theorem dX1_addKind_148 : decode cX1_addKind 148 = .ok (.iaload, 1) := by decide +kernel
theorem dX1_addKind_149 : decode cX1_addKind 149 = .ok (.iastore, 1) := by decide +kernel
theorem dX1_addKind_150 : decode cX1_addKind 150 = .ok (.iinc 3 (-1), 3) := by decide +kernel
theorem dX1_addKind_153 : decode cX1_addKind 153 = .ok (.goto (-38), 3) := by decide +kernel
theorem dX1_addKind_156 : decode cX1_addKind 156 = .ok (.aload_n 0, 1) := by decide +kernel
theorem dX1_addKind_157 : decode cX1_addKind 157 = .ok (.getfield 29, 3) := by decide +kernel
theorem dX1_addKind_160 : decode cX1_addKind 160 = .ok (.iload_n 3, 1) := by decide +kernel
theorem dX1_addKind_161 : decode cX1_addKind 161 = .ok (.aload_n 0, 1) := by decide +kernel
theorem dX1_addKind_162 : decode cX1_addKind 162 = .ok (.getfield 58, 3) := by decide +kernel
theorem dX1_addKind_165 : decode cX1_addKind 165 = .ok (.iastore, 1) := by decide +kernel
theorem dX1_addKind_166 : decode cX1_addKind 166 = .ok (.aload_n 0, 1) := by decide +kernel
theorem dX1_addKind_167 : decode cX1_addKind 167 = .ok (.dup, 1) := by decide +kernel
theorem dX1_addKind_168 : decode cX1_addKind 168 = .ok (.getfield 58, 3) := by decide +kernel
theorem dX1_addKind_171 : decode cX1_addKind 171 = .ok (.iconst 1, 1) := by decide +kernel
theorem dX1_addKind_172 : decode cX1_addKind 172 = .ok (.iadd, 1) := by decide +kernel
theorem dX1_addKind_173 : decode cX1_addKind 173 = .ok (.putfield 58, 3) := by decide +kernel
theorem dX1_addKind_176 : decode cX1_addKind 176 = .ok (.aload_n 0, 1) := by decide +kernel
theorem dX1_addKind_177 : decode cX1_addKind 177 = .ok (.getfield 58, 3) := by decide +kernel
theorem dX1_addKind_180 : decode cX1_addKind 180 = .ok (.iconst 1, 1) := by decide +kernel
theorem dX1_addKind_181 : decode cX1_addKind 181 = .ok (.isub, 1) := by decide +kernel
theorem dX1_addKind_182 : decode cX1_addKind 182 = .ok (.ireturn, 1) := by decide +kernel
set_option maxRecDepth 20000 in
theorem ggX1_fill_X1_isKind : GoodIn wsX1_fill wsX1_isKind := goodIn_r _ [14, 15, 20, 21, 22, 23, 24, 25, 26, 27, 28, 29, 30, 31, 32, 33, 34, 35, 36, 37, 38] (by decide +kernel) (by decide +kernel)
set_option maxRecDepth 20000 in
theorem gX1_fill_X1_isKind : GoodIn wsX1_fill (wsV RX1 68 RX1 yX1_isKind wsX1_isKind) := goodIn_app (goodIn_of _ (by decide +kernel)) ggX1_fill_X1_isKind
set_option maxRecDepth 20000 in
theorem ggX1_fill_X1_fail : GoodIn wsX1_fill wsX1_fail := goodIn_r _ [19, 1, 20, 21, 22, 23, 24, 25, 26, 27, 28, 29, 30, 31, 32, 33, 34, 35, 36, 37, 38] (by decide +kernel) (by decide +kernel)
set_option maxRecDepth 20000 in
theorem gX1_fill_X1_fail : GoodIn wsX1_fill (wsV RX1 64 RX1 yX1_fail wsX1_fail) := goodIn_app (goodIn_of _ (by decide +kernel)) ggX1_fill_X1_fail
theorem dX1_fill_0 : decode cX1_fill 0 = .ok (.aload_n 0, 1) := by decide +kernel
theorem dX1_fill_1 : decode cX1_fill 1 = .ok (.iconst 0, 1) := by decide +kernel
theorem dX1_fill_2 : decode cX1_fill 2 = .ok (.putfield 55, 3) := by decide +kernel
theorem dX1_fill_5 : decode cX1_fill 5 = .ok (.aload_n 0, 1) := by decide +kernel
theorem dX1_fill_6 : decode cX1_fill 6 = .ok (.iload_n 1, 1) := by decide +kernel
theorem dX1_fill_7 : decode cX1_fill 7 = .ok (.invokevirtual 68, 3) := by decide +kernel
theorem dX1_fill_10 : decode cX1_fill 10 = .ok (.ifCond .ne 9, 3) := by decide +kernel
theorem dX1_fill_13 : decode cX1_fill 13 = .ok (.aload_n 0, 1) := by decide +kernel
theorem dX1_fill_14 : decode cX1_fill 14 = .ok (.iconst 1, 1) := by decide +kernel
theorem dX1_fill_15 : decode cX1_fill 15 = .ok (.invokevirtual 64, 3) := by decide +kernel
theorem dX1_fill_18 : decode cX1_fill 18 = .ok (.ireturn, 1) := by decide +kernel
theorem dX1_fill_19 : decode cX1_fill 19 = .ok (.iload_n 2, 1) := by decide +kernel
theorem dX1_fill_20 : decode cX1_fill 20 = .ok (.ifCond .lt 9, 3) := by decide +kernel
theorem dX1_fill_23 : decode cX1_fill 23 = .ok (.iload_n 2, 1) := by decide +kernel
theorem dX1_fill_24 : decode cX1_fill 24 = .ok (.bipush 60, 2) := by decide +kernel
theorem dX1_fill_26 : decode cX1_fill 26 = .ok (.if_icmp .le 9, 3) := by decide +kernel
theorem dX1_fill_29 : decode cX1_fill 29 = .ok (.aload_n 0, 1) := by decide +kernel
theorem dX1_fill_30 : decode cX1_fill 30 = .ok (.iconst 2, 1) := by decide +kernel
theorem dX1_fill_31 : decode cX1_fill 31 = .ok (.invokevirtual 64, 3) := by decide +kernel
theorem dX1_fill_34 : decode cX1_fill 34 = .ok (.ireturn, 1) := by decide +kernel
theorem dX1_fill_35 : decode cX1_fill 35 = .ok (.iload_n 2, 1) := by decide +kernel
theorem dX1_fill_36 : decode cX1_fill 36 = .ok (.aload_n 0, 1) := by decide +kernel
theorem dX1_fill_37 : decode cX1_fill 37 = .ok (.getfield 13, 3) := by decide +kernel
theorem dX1_fill_40 : decode cX1_fill 40 = .ok (.iload_n 1, 1) := by decide +kernel
theorem dX1_fill_41 : decode cX1_fill 41 = .ok (.iaload, 1) := by decide +kernel
theorem dX1_fill_42 : decode cX1_fill 42 = .ok (.aload_n 0, 1) := by decide +kernel
theorem dX1_fill_43 : decode cX1_fill 43 = .ok (.getfield 20, 3) := by decide +kernel
theorem dX1_fill_46 : decode cX1_fill 46 = .ok (.iload_n 1, 1) := by decide +kernel
theorem dX1_fill_47 : decode cX1_fill 47 = .ok (.iaload, 1) := by decide +kernel
theorem dX1_fill_48 : decode cX1_fill 48 = .ok (.isub, 1) := by decide +kernel
theorem dX1_fill_49 : decode cX1_fill 49 = .ok (.invokestatic 72, 3) := by decide +kernel
theorem dX1_fill_52 : decode cX1_fill 52 = .ok (.istore_n 3, 1) := by decide +kernel
theorem dX1_fill_53 : decode cX1_fill 53 = .ok (.aload_n 0, 1) := by decide +kernel
theorem dX1_fill_54 : decode cX1_fill 54 = .ok (.getfield 20, 3) := by decide +kernel
theorem dX1_fill_57 : decode cX1_fill 57 = .ok (.iload_n 1, 1) := by decide +kernel
theorem dX1_fill_58 : decode cX1_fill 58 = .ok (.dup2, 1) := by decide +kernel
theorem dX1_fill_59 : decode cX1_fill 59 = .ok (.iaload, 1) := by decide +kernel
theorem dX1_fill_60 : decode cX1_fill 60 = .ok (.iload_n 3, 1) := by decide +kernel
theorem dX1_fill_61 : decode cX1_fill 61 = .ok (.iadd, 1) := by decide +kernel
theorem dX1_fill_62 : decode cX1_fill 62 = .ok (.iastore, 1) := by decide +kernel
theorem dX1_fill_63 : decode cX1_fill 63 = .ok (.aload_n 0, 1) := by decide +kernel
theorem dX1_fill_64 : decode cX1_fill 64 = .ok (.getfield 48, 3) := by decide +kernel
theorem dX1_fill_67 : decode cX1_fill 67 = .ok (.iconst 4, 1) := by decide +kernel
theorem dX1_fill_68 : decode cX1_fill 68 = .ok (.dup2, 1) := by decide +kernel
theorem dX1_fill_69 : decode cX1_fill 69 = .ok (.laload, 1) := by decide +kernel
theorem dX1_fill_70 : decode cX1_fill 70 = .ok (.iload_n 3, 1) := by decide +kernel
theorem dX1_fill_71 : decode cX1_fill 71 = .ok (.i2l, 1) := by decide +kernel
theorem dX1_fill_72 : decode cX1_fill 72 = .ok (.aload_n 0, 1) := by decide +kernel
theorem dX1_fill_73 : decode cX1_fill 73 = .ok (.getfield 9, 3) := by decide +kernel
theorem dX1_fill_76 : decode cX1_fill 76 = .ok (.iload_n 1, 1) := by decide +kernel
theorem dX1_fill_77 : decode cX1_fill 77 = .ok (.iaload, 1) := by decide +kernel
theorem dX1_fill_78 : decode cX1_fill 78 = .ok (.i2l, 1) := by decide +kernel
theorem dX1_fill_79 : decode cX1_fill 79 = .ok (.lmul, 1) := by decide +kernel
theorem dX1_fill_80 : decode cX1_fill 80 = .ok (.ladd, 1) := by decide +kernel
theorem dX1_fill_81 : decode cX1_fill 81 = .ok (.lastore, 1) := by decide +kernel
theorem dX1_fill_82 : decode cX1_fill 82 = .ok (.iload_n 2, 1) := by decide +kernel
theorem dX1_fill_83 : decode cX1_fill 83 = .ok (.iload_n 3, 1) := by decide +kernel
theorem dX1_fill_84 : decode cX1_fill 84 = .ok (.isub, 1) := by decide +kernel
theorem dX1_fill_85 : decode cX1_fill 85 = .ok (.ireturn, 1) := by decide +kernel
set_option maxRecDepth 20000 in
theorem ggX1_take_X1_isKind : GoodIn wsX1_take wsX1_isKind := goodIn_r _ [13, 14, 19, 20, 21, 22, 23, 24, 25, 26, 27, 28, 29, 30, 31, 32, 33, 34, 35, 36, 37] (by decide +kernel) (by decide +kernel)
set_option maxRecDepth 20000 in
theorem gX1_take_X1_isKind : GoodIn wsX1_take (wsV RX1 68 RX1 yX1_isKind wsX1_isKind) := goodIn_app (goodIn_of _ (by decide +kernel)) ggX1_take_X1_isKind
set_option maxRecDepth 20000 in
theorem ggX1_take_X1_fail : GoodIn wsX1_take wsX1_fail := goodIn_r _ [18, 1, 19, 20, 21, 22, 23, 24, 25, 26, 27, 28, 29, 30, 31, 32, 33, 34, 35, 36, 37] (by decide +kernel) (by decide +kernel)
set_option maxRecDepth 20000 in
theorem gX1_take_X1_fail : GoodIn wsX1_take (wsV RX1 64 RX1 yX1_fail wsX1_fail) := goodIn_app (goodIn_of _ (by decide +kernel)) ggX1_take_X1_fail
theorem dX1_take_0 : decode cX1_take 0 = .ok (.aload_n 0, 1) := by decide +kernel
theorem dX1_take_1 : decode cX1_take 1 = .ok (.iconst 0, 1) := by decide +kernel
theorem dX1_take_2 : decode cX1_take 2 = .ok (.putfield 55, 3) := by decide +kernel
theorem dX1_take_5 : decode cX1_take 5 = .ok (.aload_n 0, 1) := by decide +kernel
theorem dX1_take_6 : decode cX1_take 6 = .ok (.iload_n 1, 1) := by decide +kernel
theorem dX1_take_7 : decode cX1_take 7 = .ok (.invokevirtual 68, 3) := by decide +kernel
theorem dX1_take_10 : decode cX1_take 10 = .ok (.ifCond .ne 9, 3) := by decide +kernel
theorem dX1_take_13 : decode cX1_take 13 = .ok (.aload_n 0, 1) := by decide +kernel
theorem dX1_take_14 : decode cX1_take 14 = .ok (.iconst 1, 1) := by decide +kernel
theorem dX1_take_15 : decode cX1_take 15 = .ok (.invokevirtual 64, 3) := by decide +kernel
theorem dX1_take_18 : decode cX1_take 18 = .ok (.ireturn, 1) := by decide +kernel
theorem dX1_take_19 : decode cX1_take 19 = .ok (.iload_n 2, 1) := by decide +kernel
theorem dX1_take_20 : decode cX1_take 20 = .ok (.ifCond .lt 9, 3) := by decide +kernel
theorem dX1_take_23 : decode cX1_take 23 = .ok (.iload_n 2, 1) := by decide +kernel
theorem dX1_take_24 : decode cX1_take 24 = .ok (.bipush 60, 2) := by decide +kernel
theorem dX1_take_26 : decode cX1_take 26 = .ok (.if_icmp .le 9, 3) := by decide +kernel
theorem dX1_take_29 : decode cX1_take 29 = .ok (.aload_n 0, 1) := by decide +kernel
theorem dX1_take_30 : decode cX1_take 30 = .ok (.iconst 2, 1) := by decide +kernel
theorem dX1_take_31 : decode cX1_take 31 = .ok (.invokevirtual 64, 3) := by decide +kernel
theorem dX1_take_34 : decode cX1_take 34 = .ok (.ireturn, 1) := by decide +kernel
theorem dX1_take_35 : decode cX1_take 35 = .ok (.iload_n 2, 1) := by decide +kernel
theorem dX1_take_36 : decode cX1_take 36 = .ok (.aload_n 0, 1) := by decide +kernel
theorem dX1_take_37 : decode cX1_take 37 = .ok (.getfield 20, 3) := by decide +kernel
theorem dX1_take_40 : decode cX1_take 40 = .ok (.iload_n 1, 1) := by decide +kernel
theorem dX1_take_41 : decode cX1_take 41 = .ok (.iaload, 1) := by decide +kernel
theorem dX1_take_42 : decode cX1_take 42 = .ok (.invokestatic 72, 3) := by decide +kernel
theorem dX1_take_45 : decode cX1_take 45 = .ok (.istore_n 3, 1) := by decide +kernel
theorem dX1_take_46 : decode cX1_take 46 = .ok (.aload_n 0, 1) := by decide +kernel
theorem dX1_take_47 : decode cX1_take 47 = .ok (.getfield 20, 3) := by decide +kernel
theorem dX1_take_50 : decode cX1_take 50 = .ok (.iload_n 1, 1) := by decide +kernel
theorem dX1_take_51 : decode cX1_take 51 = .ok (.dup2, 1) := by decide +kernel
theorem dX1_take_52 : decode cX1_take 52 = .ok (.iaload, 1) := by decide +kernel
theorem dX1_take_53 : decode cX1_take 53 = .ok (.iload_n 3, 1) := by decide +kernel
theorem dX1_take_54 : decode cX1_take 54 = .ok (.isub, 1) := by decide +kernel
theorem dX1_take_55 : decode cX1_take 55 = .ok (.iastore, 1) := by decide +kernel
theorem dX1_take_56 : decode cX1_take 56 = .ok (.aload_n 0, 1) := by decide +kernel
theorem dX1_take_57 : decode cX1_take 57 = .ok (.getfield 48, 3) := by decide +kernel
theorem dX1_take_60 : decode cX1_take 60 = .ok (.iconst 5, 1) := by decide +kernel
theorem dX1_take_61 : decode cX1_take 61 = .ok (.dup2, 1) := by decide +kernel
theorem dX1_take_62 : decode cX1_take 62 = .ok (.laload, 1) := by decide +kernel
theorem dX1_take_63 : decode cX1_take 63 = .ok (.iload_n 3, 1) := by decide +kernel
theorem dX1_take_64 : decode cX1_take 64 = .ok (.i2l, 1) := by decide +kernel
theorem dX1_take_65 : decode cX1_take 65 = .ok (.aload_n 0, 1) := by decide +kernel
theorem dX1_take_66 : decode cX1_take 66 = .ok (.getfield 9, 3) := by decide +kernel
theorem dX1_take_69 : decode cX1_take 69 = .ok (.iload_n 1, 1) := by decide +kernel
theorem dX1_take_70 : decode cX1_take 70 = .ok (.iaload, 1) := by decide +kernel
theorem dX1_take_71 : decode cX1_take 71 = .ok (.i2l, 1) := by decide +kernel
theorem dX1_take_72 : decode cX1_take 72 = .ok (.lmul, 1) := by decide +kernel
theorem dX1_take_73 : decode cX1_take 73 = .ok (.ladd, 1) := by decide +kernel
theorem dX1_take_74 : decode cX1_take 74 = .ok (.lastore, 1) := by decide +kernel
theorem dX1_take_75 : decode cX1_take 75 = .ok (.iload_n 3, 1) := by decide +kernel
theorem dX1_take_76 : decode cX1_take 76 = .ok (.ireturn, 1) := by decide +kernel
theorem dX1_emptyBox_0 : decode cX1_emptyBox 0 = .ok (.aload_n 0, 1) := by decide +kernel
theorem dX1_emptyBox_1 : decode cX1_emptyBox 1 = .ok (.iconst 0, 1) := by decide +kernel
theorem dX1_emptyBox_2 : decode cX1_emptyBox 2 = .ok (.putfield 55, 3) := by decide +kernel
theorem dX1_emptyBox_5 : decode cX1_emptyBox 5 = .ok (.iconst 0, 1) := by decide +kernel
theorem dX1_emptyBox_6 : decode cX1_emptyBox 6 = .ok (.istore_n 1, 1) := by decide +kernel
theorem dX1_emptyBox_7 : decode cX1_emptyBox 7 = .ok (.iconst 0, 1) := by decide +kernel
theorem dX1_emptyBox_8 : decode cX1_emptyBox 8 = .ok (.istore_n 2, 1) := by decide +kernel
theorem dX1_emptyBox_9 : decode cX1_emptyBox 9 = .ok (.iload_n 2, 1) := by decide +kernel
theorem dX1_emptyBox_10 : decode cX1_emptyBox 10 = .ok (.aload_n 0, 1) := by decide +kernel
theorem dX1_emptyBox_11 : decode cX1_emptyBox 11 = .ok (.getfield 58, 3) := by decide +kernel
theorem dX1_emptyBox_14 : decode cX1_emptyBox 14 = .ok (.if_icmp .ge 32, 3) := by decide +kernel
theorem dX1_emptyBox_17 : decode cX1_emptyBox 17 = .ok (.iload_n 1, 1) := by decide +kernel
theorem dX1_emptyBox_18 : decode cX1_emptyBox 18 = .ok (.aload_n 0, 1) := by decide +kernel
theorem dX1_emptyBox_19 : decode cX1_emptyBox 19 = .ok (.getfield 23, 3) := by decide +kernel
theorem dX1_emptyBox_22 : decode cX1_emptyBox 22 = .ok (.iload_n 2, 1) := by decide +kernel
theorem dX1_emptyBox_23 : decode cX1_emptyBox 23 = .ok (.iaload, 1) := by decide +kernel
theorem dX1_emptyBox_24 : decode cX1_emptyBox 24 = .ok (.aload_n 0, 1) := by decide +kernel
theorem dX1_emptyBox_25 : decode cX1_emptyBox 25 = .ok (.getfield 9, 3) := by decide +kernel
theorem dX1_emptyBox_28 : decode cX1_emptyBox 28 = .ok (.iload_n 2, 1) := by decide +kernel
theorem dX1_emptyBox_29 : decode cX1_emptyBox 29 = .ok (.iaload, 1) := by decide +kernel
theorem dX1_emptyBox_30 : decode cX1_emptyBox 30 = .ok (.imul, 1) := by decide +kernel
theorem dX1_emptyBox_31 : decode cX1_emptyBox 31 = .ok (.iadd, 1) := by decide +kernel
theorem dX1_emptyBox_32 : decode cX1_emptyBox 32 = .ok (.istore_n 1, 1) := by decide +kernel
theorem dX1_emptyBox_33 : decode cX1_emptyBox 33 = .ok (.aload_n 0, 1) := by decide +kernel
theorem dX1_emptyBox_34 : decode cX1_emptyBox 34 = .ok (.getfield 23, 3) := by decide +kernel
theorem dX1_emptyBox_37 : decode cX1_emptyBox 37 = .ok (.iload_n 2, 1) := by decide +kernel
theorem dX1_emptyBox_38 : decode cX1_emptyBox 38 = .ok (.iconst 0, 1) := by decide +kernel
theorem dX1_emptyBox_39 : decode cX1_emptyBox 39 = .ok (.iastore, 1) := by decide +kernel
theorem dX1_emptyBox_40 : decode cX1_emptyBox 40 = .ok (.iinc 2 1, 3) := by decide +kernel
theorem dX1_emptyBox_43 : decode cX1_emptyBox 43 = .ok (.goto (-34), 3) := by decide +kernel
theorem dX1_emptyBox_46 : decode cX1_emptyBox 46 = .ok (.aload_n 0, 1) := by decide +kernel
theorem dX1_emptyBox_47 : decode cX1_emptyBox 47 = .ok (.getfield 48, 3) := by decide +kernel
theorem dX1_emptyBox_50 : decode cX1_emptyBox 50 = .ok (.bipush 6, 2) := by decide +kernel
theorem dX1_emptyBox_52 : decode cX1_emptyBox 52 = .ok (.dup2, 1) := by decide +kernel
theorem dX1_emptyBox_53 : decode cX1_emptyBox 53 = .ok (.laload, 1) := by decide +kernel
theorem dX1_emptyBox_54 : decode cX1_emptyBox 54 = .ok (.iload_n 1, 1) := by decide +kernel
theorem dX1_emptyBox_55 : decode cX1_emptyBox 55 = .ok (.i2l, 1) := by decide +kernel
theorem dX1_emptyBox_56 : decode cX1_emptyBox 56 = .ok (.ladd, 1) := by decide +kernel
theorem dX1_emptyBox_57 : decode cX1_emptyBox 57 = .ok (.lastore, 1) := by decide +kernel
theorem dX1_emptyBox_58 : decode cX1_emptyBox 58 = .ok (.iload_n 1, 1) := by decide +kernel
theorem dX1_emptyBox_59 : decode cX1_emptyBox 59 = .ok (.ireturn, 1) := by decide +kernel
set_option maxRecDepth 20000 in
theorem ggX1_accept_X1_isKind : GoodIn wsX1_accept wsX1_isKind := goodIn_r _ [7, 8, 9, 10, 11, 12, 13, 14, 15, 16, 17, 18, 19, 20, 21, 22, 23, 24, 25, 26, 27] (by decide +kernel) (by decide +kernel)
set_option maxRecDepth 20000 in
theorem gX1_accept_X1_isKind : GoodIn wsX1_accept (wsV RX1 68 RX1 yX1_isKind wsX1_isKind) := goodIn_app (goodIn_of _ (by decide +kernel)) ggX1_accept_X1_isKind
theorem dX1_accept_0 : decode cX1_accept 0 = .ok (.aload_n 0, 1) := by decide +kernel
theorem dX1_accept_1 : decode cX1_accept 1 = .ok (.aload_n 0, 1) := by decide +kernel
theorem dX1_accept_2 : decode cX1_accept 2 = .ok (.iload_n 1, 1) := by decide +kernel
theorem dX1_accept_3 : decode cX1_accept 3 = .ok (.invokevirtual 68, 3) := by decide +kernel
theorem dX1_accept_6 : decode cX1_accept 6 = .ok (.ifCond .eq 7, 3) := by decide +kernel
theorem dX1_accept_9 : decode cX1_accept 9 = .ok (.iconst 0, 1) := by decide +kernel
theorem dX1_accept_10 : decode cX1_accept 10 = .ok (.goto 4, 3) := by decide +kernel
theorem dX1_accept_13 : decode cX1_accept 13 = .ok (.iconst 1, 1) := by decide +kernel
theorem dX1_accept_14 : decode cX1_accept 14 = .ok (.putfield 55, 3) := by decide +kernel
theorem dX1_accept_17 : decode cX1_accept 17 = .ok (.aload_n 0, 1) := by decide +kernel
theorem dX1_accept_18 : decode cX1_accept 18 = .ok (.getfield 55, 3) := by decide +kernel
theorem dX1_accept_21 : decode cX1_accept 21 = .ok (.ifCond .eq 5, 3) := by decide +kernel
theorem dX1_accept_24 : decode cX1_accept 24 = .ok (.iconst 0, 1) := by decide +kernel
theorem dX1_accept_25 : decode cX1_accept 25 = .ok (.ireturn, 1) := by decide +kernel
theorem dX1_accept_26 : decode cX1_accept 26 = .ok (.aload_n 0, 1) := by decide +kernel
theorem dX1_accept_27 : decode cX1_accept 27 = .ok (.getfield 16, 3) := by decide +kernel
theorem dX1_accept_30 : decode cX1_accept 30 = .ok (.iload_n 1, 1) := by decide +kernel
theorem dX1_accept_31 : decode cX1_accept 31 = .ok (.baload, 1) := by decide +kernel
theorem dX1_accept_32 : decode cX1_accept 32 = .ok (.istore_n 3, 1) := by decide +kernel
theorem dX1_accept_33 : decode cX1_accept 33 = .ok (.aload_n 0, 1) := by decide +kernel
theorem dX1_accept_34 : decode cX1_accept 34 = .ok (.getfield 16, 3) := by decide +kernel
theorem dX1_accept_37 : decode cX1_accept 37 = .ok (.iload_n 1, 1) := by decide +kernel
theorem dX1_accept_38 : decode cX1_accept 38 = .ok (.iload_n 2, 1) := by decide +kernel
theorem dX1_accept_39 : decode cX1_accept 39 = .ok (.bastore, 1) := by decide +kernel
theorem dX1_accept_40 : decode cX1_accept 40 = .ok (.iload_n 3, 1) := by decide +kernel
theorem dX1_accept_41 : decode cX1_accept 41 = .ok (.ireturn, 1) := by decide +kernel
set_option maxRecDepth 20000 in
theorem ggX1_setLimit_X1_isAmount : GoodIn wsX1_setLimit wsX1_isAmount := goodIn_r _ [6] (by decide +kernel) (by decide +kernel)
set_option maxRecDepth 20000 in
theorem gX1_setLimit_X1_isAmount : GoodIn wsX1_setLimit (va_wsS RX1 78 yX1_isAmount wsX1_isAmount) := goodIn_app (goodIn_of _ (by decide +kernel)) ggX1_setLimit_X1_isAmount
set_option maxRecDepth 20000 in
theorem ggX1_setLimit_X1_fail : GoodIn wsX1_setLimit wsX1_fail := goodIn_r _ [10, 1, 11, 12, 13, 14, 15, 16, 17, 18, 19, 20, 21, 22, 23, 24, 25, 26, 27, 28, 29] (by decide +kernel) (by decide +kernel)
set_option maxRecDepth 20000 in
theorem gX1_setLimit_X1_fail : GoodIn wsX1_setLimit (wsV RX1 64 RX1 yX1_fail wsX1_fail) := goodIn_app (goodIn_of _ (by decide +kernel)) ggX1_setLimit_X1_fail
theorem dX1_setLimit_0 : decode cX1_setLimit 0 = .ok (.aload_n 0, 1) := by decide +kernel
theorem dX1_setLimit_1 : decode cX1_setLimit 1 = .ok (.iconst 0, 1) := by decide +kernel
theorem dX1_setLimit_2 : decode cX1_setLimit 2 = .ok (.putfield 55, 3) := by decide +kernel
theorem dX1_setLimit_5 : decode cX1_setLimit 5 = .ok (.iload_n 1, 1) := by decide +kernel
theorem dX1_setLimit_6 : decode cX1_setLimit 6 = .ok (.invokestatic 78, 3) := by decide +kernel
theorem dX1_setLimit_9 : decode cX1_setLimit 9 = .ok (.ifCond .ne 9, 3) := by decide +kernel
theorem dX1_setLimit_12 : decode cX1_setLimit 12 = .ok (.aload_n 0, 1) := by decide +kernel
theorem dX1_setLimit_13 : decode cX1_setLimit 13 = .ok (.iconst 1, 1) := by decide +kernel
theorem dX1_setLimit_14 : decode cX1_setLimit 14 = .ok (.invokevirtual 64, 3) := by decide +kernel
theorem dX1_setLimit_17 : decode cX1_setLimit 17 = .ok (.ireturn, 1) := by decide +kernel
theorem dX1_setLimit_18 : decode cX1_setLimit 18 = .ok (.aload_n 0, 1) := by decide +kernel
theorem dX1_setLimit_19 : decode cX1_setLimit 19 = .ok (.getfield 38, 3) := by decide +kernel
theorem dX1_setLimit_22 : decode cX1_setLimit 22 = .ok (.istore_n 2, 1) := by decide +kernel
theorem dX1_setLimit_23 : decode cX1_setLimit 23 = .ok (.aload_n 0, 1) := by decide +kernel
theorem dX1_setLimit_24 : decode cX1_setLimit 24 = .ok (.iload_n 1, 1) := by decide +kernel
theorem dX1_setLimit_25 : decode cX1_setLimit 25 = .ok (.putfield 38, 3) := by decide +kernel
theorem dX1_setLimit_28 : decode cX1_setLimit 28 = .ok (.iload_n 2, 1) := by decide +kernel
theorem dX1_setLimit_29 : decode cX1_setLimit 29 = .ok (.ireturn, 1) := by decide +kernel
set_option maxRecDepth 20000 in
theorem ggX1_addProduct_X1_isGoods : GoodIn wsX1_addProduct wsX1_isGoods := goodIn_r _ [8] (by decide +kernel) (by decide +kernel)
set_option maxRecDepth 20000 in
theorem gX1_addProduct_X1_isGoods : GoodIn wsX1_addProduct (va_wsS RX1 81 yX1_isGoods wsX1_isGoods) := goodIn_app (goodIn_of _ (by decide +kernel)) ggX1_addProduct_X1_isGoods
set_option maxRecDepth 20000 in
theorem ggX1_addProduct_X1_fail : GoodIn wsX1_addProduct wsX1_fail := goodIn_r _ [12, 1, 13, 14, 15, 16, 17, 18, 19, 20, 21, 22, 23, 24, 25, 26, 27, 28, 29, 30, 31] (by decide +kernel) (by decide +kernel)
set_option maxRecDepth 20000 in
theorem gX1_addProduct_X1_fail : GoodIn wsX1_addProduct (wsV RX1 64 RX1 yX1_fail wsX1_fail) := goodIn_app (goodIn_of _ (by decide +kernel)) ggX1_addProduct_X1_fail
theorem dX1_addProduct_0 : decode cX1_addProduct 0 = .ok (.aload_n 0, 1) := by decide +kernel
theorem dX1_addProduct_1 : decode cX1_addProduct 1 = .ok (.iconst 0, 1) := by decide +kernel
theorem dX1_addProduct_2 : decode cX1_addProduct 2 = .ok (.putfield 55, 3) := by decide +kernel
theorem dX1_addProduct_5 : decode cX1_addProduct 5 = .ok (.iload_n 1, 1) := by decide +kernel
theorem dX1_addProduct_6 : decode cX1_addProduct 6 = .ok (.iload_n 2, 1) := by decide +kernel
theorem dX1_addProduct_7 : decode cX1_addProduct 7 = .ok (.invokestatic 81, 3) := by decide +kernel
theorem dX1_addProduct_10 : decode cX1_addProduct 10 = .ok (.ifCond .ne 9, 3) := by decide +kernel
theorem dX1_addProduct_13 : decode cX1_addProduct 13 = .ok (.aload_n 0, 1) := by decide +kernel
theorem dX1_addProduct_14 : decode cX1_addProduct 14 = .ok (.iconst 1, 1) := by decide +kernel
theorem dX1_addProduct_15 : decode cX1_addProduct 15 = .ok (.invokevirtual 64, 3) := by decide +kernel
theorem dX1_addProduct_18 : decode cX1_addProduct 18 = .ok (.ireturn, 1) := by decide +kernel
theorem dX1_addProduct_19 : decode cX1_addProduct 19 = .ok (.aload_n 0, 1) := by decide +kernel
theorem dX1_addProduct_20 : decode cX1_addProduct 20 = .ok (.getfield 61, 3) := by decide +kernel
theorem dX1_addProduct_23 : decode cX1_addProduct 23 = .ok (.bipush 10, 2) := by decide +kernel
theorem dX1_addProduct_25 : decode cX1_addProduct 25 = .ok (.if_icmp .ne 9, 3) := by decide +kernel
theorem dX1_addProduct_28 : decode cX1_addProduct 28 = .ok (.aload_n 0, 1) := by decide +kernel
theorem dX1_addProduct_29 : decode cX1_addProduct 29 = .ok (.iconst 2, 1) := by decide +kernel
theorem dX1_addProduct_30 : decode cX1_addProduct 30 = .ok (.invokevirtual 64, 3) := by decide +kernel
theorem dX1_addProduct_33 : decode cX1_addProduct 33 = .ok (.ireturn, 1) := by decide +kernel
theorem dX1_addProduct_34 : decode cX1_addProduct 34 = .ok (.aload_n 0, 1) := by decide +kernel
theorem dX1_addProduct_35 : decode cX1_addProduct 35 = .ok (.getfield 32, 3) := by decide +kernel
theorem dX1_addProduct_38 : decode cX1_addProduct 38 = .ok (.aload_n 0, 1) := by decide +kernel
theorem dX1_addProduct_39 : decode cX1_addProduct 39 = .ok (.getfield 61, 3) := by decide +kernel
theorem dX1_addProduct_42 : decode cX1_addProduct 42 = .ok (.iload_n 1, 1) := by decide +kernel
theorem dX1_addProduct_43 : decode cX1_addProduct 43 = .ok (.iastore, 1) := by decide +kernel
theorem dX1_addProduct_44 : decode cX1_addProduct 44 = .ok (.aload_n 0, 1) := by decide +kernel
theorem dX1_addProduct_45 : decode cX1_addProduct 45 = .ok (.getfield 35, 3) := by decide +kernel
theorem dX1_addProduct_48 : decode cX1_addProduct 48 = .ok (.aload_n 0, 1) := by decide +kernel
theorem dX1_addProduct_49 : decode cX1_addProduct 49 = .ok (.getfield 61, 3) := by decide +kernel
theorem dX1_addProduct_52 : decode cX1_addProduct 52 = .ok (.iload_n 2, 1) := by decide +kernel
theorem dX1_addProduct_53 : decode cX1_addProduct 53 = .ok (.iastore, 1) := by decide +kernel
theorem dX1_addProduct_54 : decode cX1_addProduct 54 = .ok (.aload_n 0, 1) := by decide +kernel
theorem dX1_addProduct_55 : decode cX1_addProduct 55 = .ok (.dup, 1) := by decide +kernel
theorem dX1_addProduct_56 : decode cX1_addProduct 56 = .ok (.getfield 61, 3) := by decide +kernel
theorem dX1_addProduct_59 : decode cX1_addProduct 59 = .ok (.iconst 1, 1) := by decide +kernel
theorem dX1_addProduct_60 : decode cX1_addProduct 60 = .ok (.iadd, 1) := by decide +kernel
theorem dX1_addProduct_61 : decode cX1_addProduct 61 = .ok (.putfield 61, 3) := by decide +kernel
theorem dX1_addProduct_64 : decode cX1_addProduct 64 = .ok (.aload_n 0, 1) := by decide +kernel
theorem dX1_addProduct_65 : decode cX1_addProduct 65 = .ok (.getfield 61, 3) := by decide +kernel
theorem dX1_addProduct_68 : decode cX1_addProduct 68 = .ok (.iconst 1, 1) := by decide +kernel
theorem dX1_addProduct_69 : decode cX1_addProduct 69 = .ok (.isub, 1) := by decide +kernel
theorem dX1_addProduct_70 : decode cX1_addProduct 70 = .ok (.ireturn, 1) := by decide +kernel
set_option maxRecDepth 20000 in
theorem ggX1_setProduct_X1_isProduct : GoodIn wsX1_setProduct wsX1_isProduct := goodIn_r _ [8, 9, 17, 18, 19, 20, 21, 22, 23, 24, 25, 26, 27, 28, 29, 30, 31, 32, 33, 34, 35] (by decide +kernel) (by decide +kernel)
set_option maxRecDepth 20000 in
theorem gX1_setProduct_X1_isProduct : GoodIn wsX1_setProduct (wsV RX1 85 RX1 yX1_isProduct wsX1_isProduct) := goodIn_app (goodIn_of _ (by decide +kernel)) ggX1_setProduct_X1_isProduct
set_option maxRecDepth 20000 in
theorem ggX1_setProduct_X1_fail : GoodIn wsX1_setProduct wsX1_fail := goodIn_r _ [13, 1, 17, 18, 19, 20, 21, 22, 23, 24, 25, 26, 27, 28, 29, 30, 31, 32, 33, 34, 35] (by decide +kernel) (by decide +kernel)
set_option maxRecDepth 20000 in
theorem gX1_setProduct_X1_fail : GoodIn wsX1_setProduct (wsV RX1 64 RX1 yX1_fail wsX1_fail) := goodIn_app (goodIn_of _ (by decide +kernel)) ggX1_setProduct_X1_fail
set_option maxRecDepth 20000 in
theorem ggX1_setProduct_X1_isGoods : GoodIn wsX1_setProduct wsX1_isGoods := goodIn_r _ [16] (by decide +kernel) (by decide +kernel)
set_option maxRecDepth 20000 in
theorem gX1_setProduct_X1_isGoods : GoodIn wsX1_setProduct (va_wsS RX1 81 yX1_isGoods wsX1_isGoods) := goodIn_app (goodIn_of _ (by decide +kernel)) ggX1_setProduct_X1_isGoods
theorem dX1_setProduct_0 : decode cX1_setProduct 0 = .ok (.aload_n 0, 1) := by decide +kernel
theorem dX1_setProduct_1 : decode cX1_setProduct 1 = .ok (.iconst 0, 1) := by decide +kernel
theorem dX1_setProduct_2 : decode cX1_setProduct 2 = .ok (.putfield 55, 3) := by decide +kernel
theorem dX1_setProduct_5 : decode cX1_setProduct 5 = .ok (.aload_n 0, 1) := by decide +kernel
theorem dX1_setProduct_6 : decode cX1_setProduct 6 = .ok (.iload_n 1, 1) := by decide +kernel
theorem dX1_setProduct_7 : decode cX1_setProduct 7 = .ok (.invokevirtual 85, 3) := by decide +kernel
theorem dX1_setProduct_10 : decode cX1_setProduct 10 = .ok (.ifCond .ne 9, 3) := by decide +kernel
theorem dX1_setProduct_13 : decode cX1_setProduct 13 = .ok (.aload_n 0, 1) := by decide +kernel
theorem dX1_setProduct_14 : decode cX1_setProduct 14 = .ok (.iconst 1, 1) := by decide +kernel
theorem dX1_setProduct_15 : decode cX1_setProduct 15 = .ok (.invokevirtual 64, 3) := by decide +kernel
theorem dX1_setProduct_18 : decode cX1_setProduct 18 = .ok (.ireturn, 1) := by decide +kernel
theorem dX1_setProduct_19 : decode cX1_setProduct 19 = .ok (.iload_n 2, 1) := by decide +kernel
theorem dX1_setProduct_20 : decode cX1_setProduct 20 = .ok (.iload_n 3, 1) := by decide +kernel
theorem dX1_setProduct_21 : decode cX1_setProduct 21 = .ok (.invokestatic 81, 3) := by decide +kernel
theorem dX1_setProduct_24 : decode cX1_setProduct 24 = .ok (.ifCond .ne 9, 3) := by decide +kernel
theorem dX1_setProduct_27 : decode cX1_setProduct 27 = .ok (.aload_n 0, 1) := by decide +kernel
theorem dX1_setProduct_28 : decode cX1_setProduct 28 = .ok (.iconst 2, 1) := by decide +kernel
theorem dX1_setProduct_29 : decode cX1_setProduct 29 = .ok (.invokevirtual 64, 3) := by decide +kernel
theorem dX1_setProduct_32 : decode cX1_setProduct 32 = .ok (.ireturn, 1) := by decide +kernel
theorem dX1_setProduct_33 : decode cX1_setProduct 33 = .ok (.aload_n 0, 1) := by decide +kernel
theorem dX1_setProduct_34 : decode cX1_setProduct 34 = .ok (.getfield 32, 3) := by decide +kernel
theorem dX1_setProduct_37 : decode cX1_setProduct 37 = .ok (.iload_n 1, 1) := by decide +kernel
theorem dX1_setProduct_38 : decode cX1_setProduct 38 = .ok (.iaload, 1) := by decide +kernel
theorem dX1_setProduct_39 : decode cX1_setProduct 39 = .ok (.istore 4, 2) := by decide +kernel
theorem dX1_setProduct_41 : decode cX1_setProduct 41 = .ok (.aload_n 0, 1) := by decide +kernel
theorem dX1_setProduct_42 : decode cX1_setProduct 42 = .ok (.getfield 32, 3) := by decide +kernel
theorem dX1_setProduct_45 : decode cX1_setProduct 45 = .ok (.iload_n 1, 1) := by decide +kernel
theorem dX1_setProduct_46 : decode cX1_setProduct 46 = .ok (.iload_n 2, 1) := by decide +kernel
theorem dX1_setProduct_47 : decode cX1_setProduct 47 = .ok (.iastore, 1) := by decide +kernel
theorem dX1_setProduct_48 : decode cX1_setProduct 48 = .ok (.aload_n 0, 1) := by decide +kernel
theorem dX1_setProduct_49 : decode cX1_setProduct 49 = .ok (.getfield 35, 3) := by decide +kernel
theorem dX1_setProduct_52 : decode cX1_setProduct 52 = .ok (.iload_n 1, 1) := by decide +kernel
theorem dX1_setProduct_53 : decode cX1_setProduct 53 = .ok (.iload_n 3, 1) := by decide +kernel
theorem dX1_setProduct_54 : decode cX1_setProduct 54 = .ok (.iastore, 1) := by decide +kernel
theorem dX1_setProduct_55 : decode cX1_setProduct 55 = .ok (.iload 4, 2) := by decide +kernel
theorem dX1_setProduct_57 : decode cX1_setProduct 57 = .ok (.ireturn, 1) := by decide +kernel
set_option maxRecDepth 20000 in
theorem ggX1_product_X1_isProduct : GoodIn wsX1_product wsX1_isProduct := goodIn_r _ [8, 9, 14, 15, 16, 17, 18, 19, 20, 21, 22, 23, 24, 25, 26, 27, 28, 29, 30, 31, 32] (by decide +kernel) (by decide +kernel)
set_option maxRecDepth 20000 in
theorem gX1_product_X1_isProduct : GoodIn wsX1_product (wsV RX1 85 RX1 yX1_isProduct wsX1_isProduct) := goodIn_app (goodIn_of _ (by decide +kernel)) ggX1_product_X1_isProduct
set_option maxRecDepth 20000 in
theorem ggX1_product_X1_fail : GoodIn wsX1_product wsX1_fail := goodIn_r _ [13, 1, 14, 15, 16, 17, 18, 19, 20, 21, 22, 23, 24, 25, 26, 27, 28, 29, 30, 31, 32] (by decide +kernel) (by decide +kernel)
set_option maxRecDepth 20000 in
theorem gX1_product_X1_fail : GoodIn wsX1_product (wsV RX1 64 RX1 yX1_fail wsX1_fail) := goodIn_app (goodIn_of _ (by decide +kernel)) ggX1_product_X1_fail
theorem dX1_product_0 : decode cX1_product 0 = .ok (.aload_n 0, 1) := by decide +kernel
theorem dX1_product_1 : decode cX1_product 1 = .ok (.iconst 0, 1) := by decide +kernel
theorem dX1_product_2 : decode cX1_product 2 = .ok (.putfield 55, 3) := by decide +kernel
theorem dX1_product_5 : decode cX1_product 5 = .ok (.aload_n 0, 1) := by decide +kernel
theorem dX1_product_6 : decode cX1_product 6 = .ok (.iload_n 1, 1) := by decide +kernel
theorem dX1_product_7 : decode cX1_product 7 = .ok (.invokevirtual 85, 3) := by decide +kernel
theorem dX1_product_10 : decode cX1_product 10 = .ok (.ifCond .ne 11, 3) := by decide +kernel
theorem dX1_product_13 : decode cX1_product 13 = .ok (.aload_n 0, 1) := by decide +kernel
theorem dX1_product_14 : decode cX1_product 14 = .ok (.iconst 1, 1) := by decide +kernel
theorem dX1_product_15 : decode cX1_product 15 = .ok (.invokevirtual 64, 3) := by decide +kernel
theorem dX1_product_18 : decode cX1_product 18 = .ok (.goto 22, 3) := by decide +kernel
theorem dX1_product_21 : decode cX1_product 21 = .ok (.iload_n 2, 1) := by decide +kernel
theorem dX1_product_22 : decode cX1_product 22 = .ok (.ifCond .eq 12, 3) := by decide +kernel
theorem dX1_product_25 : decode cX1_product 25 = .ok (.aload_n 0, 1) := by decide +kernel
theorem dX1_product_26 : decode cX1_product 26 = .ok (.getfield 35, 3) := by decide +kernel
theorem dX1_product_29 : decode cX1_product 29 = .ok (.iload_n 1, 1) := by decide +kernel
theorem dX1_product_30 : decode cX1_product 30 = .ok (.iaload, 1) := by decide +kernel
theorem dX1_product_31 : decode cX1_product 31 = .ok (.goto 9, 3) := by decide +kernel
theorem dX1_product_34 : decode cX1_product 34 = .ok (.aload_n 0, 1) := by decide +kernel
theorem dX1_product_35 : decode cX1_product 35 = .ok (.getfield 32, 3) := by decide +kernel
theorem dX1_product_38 : decode cX1_product 38 = .ok (.iload_n 1, 1) := by decide +kernel
theorem dX1_product_39 : decode cX1_product 39 = .ok (.iaload, 1) := by decide +kernel
theorem dX1_product_40 : decode cX1_product 40 = .ok (.ireturn, 1) := by decide +kernel
theorem dX1_tabulate_0 : decode cX1_tabulate 0 = .ok (.iconst 0, 1) := by decide +kernel
theorem dX1_tabulate_1 : decode cX1_tabulate 1 = .ok (.istore_n 2, 1) := by decide +kernel
theorem dX1_tabulate_2 : decode cX1_tabulate 2 = .ok (.iload_n 2, 1) := by decide +kernel
theorem dX1_tabulate_3 : decode cX1_tabulate 3 = .ok (.iload_n 1, 1) := by decide +kernel
theorem dX1_tabulate_4 : decode cX1_tabulate 4 = .ok (.if_icmp .gt 24, 3) := by decide +kernel
theorem dX1_tabulate_7 : decode cX1_tabulate 7 = .ok (.aload_n 0, 1) := by decide +kernel
theorem dX1_tabulate_8 : decode cX1_tabulate 8 = .ok (.getfield 52, 3) := by decide +kernel
theorem dX1_tabulate_11 : decode cX1_tabulate 11 = .ok (.iload_n 2, 1) := by decide +kernel
theorem dX1_tabulate_12 : decode cX1_tabulate 12 = .ok (.iload_n 2, 1) := by decide +kernel
theorem dX1_tabulate_13 : decode cX1_tabulate 13 = .ok (.ifCond .ne 7, 3) := by decide +kernel
theorem dX1_tabulate_16 : decode cX1_tabulate 16 = .ok (.iconst 0, 1) := by decide +kernel
theorem dX1_tabulate_17 : decode cX1_tabulate 17 = .ok (.goto 4, 3) := by decide +kernel
theorem dX1_tabulate_20 : decode cX1_tabulate 20 = .ok (.iconst (-1), 1) := by decide +kernel
theorem dX1_tabulate_21 : decode cX1_tabulate 21 = .ok (.iastore, 1) := by decide +kernel
theorem dX1_tabulate_22 : decode cX1_tabulate 22 = .ok (.iinc 2 1, 3) := by decide +kernel
theorem dX1_tabulate_25 : decode cX1_tabulate 25 = .ok (.goto (-23), 3) := by decide +kernel
theorem dX1_tabulate_28 : decode cX1_tabulate 28 = .ok (.iconst 1, 1) := by decide +kernel
theorem dX1_tabulate_29 : decode cX1_tabulate 29 = .ok (.istore_n 2, 1) := by decide +kernel
theorem dX1_tabulate_30 : decode cX1_tabulate 30 = .ok (.iload_n 2, 1) := by decide +kernel
theorem dX1_tabulate_31 : decode cX1_tabulate 31 = .ok (.aload_n 0, 1) := by decide +kernel
theorem dX1_tabulate_32 : decode cX1_tabulate 32 = .ok (.getfield 58, 3) := by decide +kernel
theorem dX1_tabulate_35 : decode cX1_tabulate 35 = .ok (.if_icmp .gt 152, 3) := by decide +kernel
theorem dX1_tabulate_38 : decode cX1_tabulate 38 = .ok (.aload_n 0, 1) := by decide +kernel
theorem dX1_tabulate_39 : decode cX1_tabulate 39 = .ok (.getfield 9, 3) := by decide +kernel
theorem dX1_tabulate_42 : decode cX1_tabulate 42 = .ok (.aload_n 0, 1) := by decide +kernel
theorem dX1_tabulate_43 : decode cX1_tabulate 43 = .ok (.getfield 29, 3) := by decide +kernel
theorem dX1_tabulate_46 : decode cX1_tabulate 46 = .ok (.iload_n 2, 1) := by decide +kernel
theorem dX1_tabulate_47 : decode cX1_tabulate 47 = .ok (.iconst 1, 1) := by decide +kernel
theorem dX1_tabulate_48 : decode cX1_tabulate 48 = .ok (.isub, 1) := by decide +kernel
theorem dX1_tabulate_49 : decode cX1_tabulate 49 = .ok (.iaload, 1) := by decide +kernel
theorem dX1_tabulate_50 : decode cX1_tabulate 50 = .ok (.iaload, 1) := by decide +kernel
theorem dX1_tabulate_51 : decode cX1_tabulate 51 = .ok (.istore_n 3, 1) := by decide +kernel
theorem dX1_tabulate_52 : decode cX1_tabulate 52 = .ok (.aload_n 0, 1) := by decide +kernel
theorem dX1_tabulate_53 : decode cX1_tabulate 53 = .ok (.getfield 20, 3) := by decide +kernel
theorem dX1_tabulate_56 : decode cX1_tabulate 56 = .ok (.aload_n 0, 1) := by decide +kernel
theorem dX1_tabulate_57 : decode cX1_tabulate 57 = .ok (.getfield 29, 3) := by decide +kernel
theorem dX1_tabulate_60 : decode cX1_tabulate 60 = .ok (.iload_n 2, 1) := by decide +kernel
theorem dX1_tabulate_61 : decode cX1_tabulate 61 = .ok (.iconst 1, 1) := by decide +kernel
theorem dX1_tabulate_62 : decode cX1_tabulate 62 = .ok (.isub, 1) := by decide +kernel
theorem dX1_tabulate_63 : decode cX1_tabulate 63 = .ok (.iaload, 1) := by decide +kernel
theorem dX1_tabulate_64 : decode cX1_tabulate 64 = .ok (.iaload, 1) := by decide +kernel
theorem dX1_tabulate_65 : decode cX1_tabulate 65 = .ok (.istore 4, 2) := by decide +kernel
theorem dX1_tabulate_67 : decode cX1_tabulate 67 = .ok (.sipush 2001, 3) := by decide +kernel
theorem dX1_tabulate_70 : decode cX1_tabulate 70 = .ok (.iload_n 2, 1) := by decide +kernel
theorem dX1_tabulate_71 : decode cX1_tabulate 71 = .ok (.imul, 1) := by decide +kernel
theorem dX1_tabulate_72 : decode cX1_tabulate 72 = .ok (.istore 5, 2) := by decide +kernel
theorem dX1_tabulate_74 : decode cX1_tabulate 74 = .ok (.iconst 0, 1) := by decide +kernel
theorem dX1_tabulate_75 : decode cX1_tabulate 75 = .ok (.istore 6, 2) := by decide +kernel
theorem dX1_tabulate_77 : decode cX1_tabulate 77 = .ok (.iload 6, 2) := by decide +kernel
theorem dX1_tabulate_79 : decode cX1_tabulate 79 = .ok (.iload_n 1, 1) := by decide +kernel
theorem dX1_tabulate_80 : decode cX1_tabulate 80 = .ok (.if_icmp .gt 101, 3) := by decide +kernel
theorem dX1_tabulate_83 : decode cX1_tabulate 83 = .ok (.iconst (-1), 1) := by decide +kernel
theorem dX1_tabulate_84 : decode cX1_tabulate 84 = .ok (.istore 7, 2) := by decide +kernel
theorem dX1_tabulate_86 : decode cX1_tabulate 86 = .ok (.iconst 0, 1) := by decide +kernel
theorem dX1_tabulate_87 : decode cX1_tabulate 87 = .ok (.istore 8, 2) := by decide +kernel
theorem dX1_tabulate_89 : decode cX1_tabulate 89 = .ok (.iload 8, 2) := by decide +kernel
theorem dX1_tabulate_91 : decode cX1_tabulate 91 = .ok (.iload 4, 2) := by decide +kernel
theorem dX1_tabulate_93 : decode cX1_tabulate 93 = .ok (.if_icmp .gt 70, 3) := by decide +kernel
theorem dX1_tabulate_96 : decode cX1_tabulate 96 = .ok (.iload 8, 2) := by decide +kernel
theorem dX1_tabulate_98 : decode cX1_tabulate 98 = .ok (.iload_n 3, 1) := by decide +kernel
theorem dX1_tabulate_99 : decode cX1_tabulate 99 = .ok (.imul, 1) := by decide +kernel
theorem dX1_tabulate_100 : decode cX1_tabulate 100 = .ok (.iload 6, 2) := by decide +kernel
theorem dX1_tabulate_102 : decode cX1_tabulate 102 = .ok (.if_icmp .gt 61, 3) := by decide +kernel
theorem dX1_tabulate_105 : decode cX1_tabulate 105 = .ok (.aload_n 0, 1) := by decide +kernel
theorem dX1_tabulate_106 : decode cX1_tabulate 106 = .ok (.getfield 52, 3) := by decide +kernel
theorem dX1_tabulate_109 : decode cX1_tabulate 109 = .ok (.iload 5, 2) := by decide +kernel
theorem dX1_tabulate_111 : decode cX1_tabulate 111 = .ok (.sipush 2000, 3) := by decide +kernel
theorem dX1_tabulate_114 : decode cX1_tabulate 114 = .ok (.isub, 1) := by decide +kernel
theorem dX1_tabulate_115 : decode cX1_tabulate 115 = .ok (.iconst 1, 1) := by decide +kernel
theorem dX1_tabulate_116 : decode cX1_tabulate 116 = .ok (.isub, 1) := by decide +kernel
theorem dX1_tabulate_117 : decode cX1_tabulate 117 = .ok (.iload 6, 2) := by decide +kernel
theorem dX1_tabulate_119 : decode cX1_tabulate 119 = .ok (.iadd, 1) := by decide +kernel
theorem dX1_tabulate_120 : decode cX1_tabulate 120 = .ok (.iload 8, 2) := by decide +kernel
theorem dX1_tabulate_122 : decode cX1_tabulate 122 = .ok (.iload_n 3, 1) := by decide +kernel
theorem dX1_tabulate_123 : decode cX1_tabulate 123 = .ok (.imul, 1) := by decide +kernel
theorem dX1_tabulate_124 : decode cX1_tabulate 124 = .ok (.isub, 1) := by decide +kernel
theorem dX1_tabulate_125 : decode cX1_tabulate 125 = .ok (.iaload, 1) := by decide +kernel
theorem dX1_tabulate_126 : decode cX1_tabulate 126 = .ok (.istore 9, 2) := by decide +kernel
theorem dX1_tabulate_128 : decode cX1_tabulate 128 = .ok (.iload 9, 2) := by decide +kernel
theorem dX1_tabulate_130 : decode cX1_tabulate 130 = .ok (.iconst (-1), 1) := by decide +kernel
theorem dX1_tabulate_131 : decode cX1_tabulate 131 = .ok (.if_icmp .eq 26, 3) := by decide +kernel
theorem dX1_tabulate_134 : decode cX1_tabulate 134 = .ok (.iload 7, 2) := by decide +kernel
theorem dX1_tabulate_136 : decode cX1_tabulate 136 = .ok (.iconst (-1), 1) := by decide +kernel
theorem dX1_tabulate_137 : decode cX1_tabulate 137 = .ok (.if_icmp .eq 13, 3) := by decide +kernel
theorem dX1_tabulate_140 : decode cX1_tabulate 140 = .ok (.iload 9, 2) := by decide +kernel
theorem dX1_tabulate_142 : decode cX1_tabulate 142 = .ok (.iload 8, 2) := by decide +kernel
theorem dX1_tabulate_144 : decode cX1_tabulate 144 = .ok (.iadd, 1) := by decide +kernel
theorem dX1_tabulate_145 : decode cX1_tabulate 145 = .ok (.iload 7, 2) := by decide +kernel
theorem dX1_tabulate_147 : decode cX1_tabulate 147 = .ok (.if_icmp .ge 10, 3) := by decide +kernel
theorem dX1_tabulate_150 : decode cX1_tabulate 150 = .ok (.iload 9, 2) := by decide +kernel
theorem dX1_tabulate_152 : decode cX1_tabulate 152 = .ok (.iload 8, 2) := by decide +kernel
theorem dX1_tabulate_154 : decode cX1_tabulate 154 = .ok (.iadd, 1) := by decide +kernel
theorem dX1_tabulate_155 : decode cX1_tabulate 155 = .ok (.istore 7, 2) := by decide +kernel
theorem dX1_tabulate_157 : decode cX1_tabulate 157 = .ok (.iinc 8 1, 3) := by decide +kernel
theorem dX1_tabulate_160 : decode cX1_tabulate 160 = .ok (.goto (-71), 3) := by decide +kernel
theorem dX1_tabulate_163 : decode cX1_tabulate 163 = .ok (.aload_n 0, 1) := by decide +kernel
theorem dX1_tabulate_164 : decode cX1_tabulate 164 = .ok (.getfield 52, 3) := by decide +kernel
theorem dX1_tabulate_167 : decode cX1_tabulate 167 = .ok (.iload 5, 2) := by decide +kernel
theorem dX1_tabulate_169 : decode cX1_tabulate 169 = .ok (.iload 6, 2) := by decide +kernel
theorem dX1_tabulate_171 : decode cX1_tabulate 171 = .ok (.iadd, 1) := by decide +kernel
theorem dX1_tabulate_172 : decode cX1_tabulate 172 = .ok (.iload 7, 2) := by decide +kernel
theorem dX1_tabulate_174 : decode cX1_tabulate 174 = .ok (.iastore, 1) := by decide +kernel
theorem dX1_tabulate_175 : decode cX1_tabulate 175 = .ok (.iinc 6 1, 3) := by decide +kernel
theorem dX1_tabulate_178 : decode cX1_tabulate 178 = .ok (.goto (-101), 3) := by decide +kernel
theorem dX1_tabulate_181 : decode cX1_tabulate 181 = .ok (.iinc 2 1, 3) := by decide +kernel
theorem dX1_tabulate_184 : decode cX1_tabulate 184 = .ok (.goto (-154), 3) := by decide +kernel
theorem dX1_tabulate_187 : decode cX1_tabulate 187 = .ok (.return_, 1) := by decide +kernel
theorem dX1_inAll_0 : decode cX1_inAll 0 = .ok (.aload_n 0, 1) := by decide +kernel
theorem dX1_inAll_1 : decode cX1_inAll 1 = .ok (.getfield 52, 3) := by decide +kernel
theorem dX1_inAll_4 : decode cX1_inAll 4 = .ok (.sipush 2001, 3) := by decide +kernel
theorem dX1_inAll_7 : decode cX1_inAll 7 = .ok (.aload_n 0, 1) := by decide +kernel
theorem dX1_inAll_8 : decode cX1_inAll 8 = .ok (.getfield 58, 3) := by decide +kernel
theorem dX1_inAll_11 : decode cX1_inAll 11 = .ok (.imul, 1) := by decide +kernel
theorem dX1_inAll_12 : decode cX1_inAll 12 = .ok (.iload_n 1, 1) := by decide +kernel
theorem dX1_inAll_13 : decode cX1_inAll 13 = .ok (.iadd, 1) := by decide +kernel
theorem dX1_inAll_14 : decode cX1_inAll 14 = .ok (.iaload, 1) := by decide +kernel
theorem dX1_inAll_15 : decode cX1_inAll 15 = .ok (.ireturn, 1) := by decide +kernel
theorem dX1_partOf_0 : decode cX1_partOf 0 = .ok (.iload_n 1, 1) := by decide +kernel
theorem dX1_partOf_1 : decode cX1_partOf 1 = .ok (.istore_n 3, 1) := by decide +kernel
theorem dX1_partOf_2 : decode cX1_partOf 2 = .ok (.aload_n 0, 1) := by decide +kernel
theorem dX1_partOf_3 : decode cX1_partOf 3 = .ok (.getfield 58, 3) := by decide +kernel
theorem dX1_partOf_6 : decode cX1_partOf 6 = .ok (.istore 4, 2) := by decide +kernel
theorem dX1_partOf_8 : decode cX1_partOf 8 = .ok (.iload 4, 2) := by decide +kernel
theorem dX1_partOf_10 : decode cX1_partOf 10 = .ok (.ifCond .le 143, 3) := by decide +kernel
theorem dX1_partOf_13 : decode cX1_partOf 13 = .ok (.aload_n 0, 1) := by decide +kernel
theorem dX1_partOf_14 : decode cX1_partOf 14 = .ok (.getfield 9, 3) := by decide +kernel
theorem dX1_partOf_17 : decode cX1_partOf 17 = .ok (.aload_n 0, 1) := by decide +kernel
theorem dX1_partOf_18 : decode cX1_partOf 18 = .ok (.getfield 29, 3) := by decide +kernel
theorem dX1_partOf_21 : decode cX1_partOf 21 = .ok (.iload 4, 2) := by decide +kernel
theorem dX1_partOf_23 : decode cX1_partOf 23 = .ok (.iconst 1, 1) := by decide +kernel
theorem dX1_partOf_24 : decode cX1_partOf 24 = .ok (.isub, 1) := by decide +kernel
theorem dX1_partOf_25 : decode cX1_partOf 25 = .ok (.iaload, 1) := by decide +kernel
theorem dX1_partOf_26 : decode cX1_partOf 26 = .ok (.iaload, 1) := by decide +kernel
theorem dX1_partOf_27 : decode cX1_partOf 27 = .ok (.istore 5, 2) := by decide +kernel
theorem dX1_partOf_29 : decode cX1_partOf 29 = .ok (.sipush 2001, 3) := by decide +kernel
theorem dX1_partOf_32 : decode cX1_partOf 32 = .ok (.iload 4, 2) := by decide +kernel
theorem dX1_partOf_34 : decode cX1_partOf 34 = .ok (.iconst 1, 1) := by decide +kernel
theorem dX1_partOf_35 : decode cX1_partOf 35 = .ok (.isub, 1) := by decide +kernel
theorem dX1_partOf_36 : decode cX1_partOf 36 = .ok (.imul, 1) := by decide +kernel
theorem dX1_partOf_37 : decode cX1_partOf 37 = .ok (.istore 6, 2) := by decide +kernel
theorem dX1_partOf_39 : decode cX1_partOf 39 = .ok (.aload_n 0, 1) := by decide +kernel
theorem dX1_partOf_40 : decode cX1_partOf 40 = .ok (.getfield 20, 3) := by decide +kernel
theorem dX1_partOf_43 : decode cX1_partOf 43 = .ok (.aload_n 0, 1) := by decide +kernel
theorem dX1_partOf_44 : decode cX1_partOf 44 = .ok (.getfield 29, 3) := by decide +kernel
theorem dX1_partOf_47 : decode cX1_partOf 47 = .ok (.iload 4, 2) := by decide +kernel
theorem dX1_partOf_49 : decode cX1_partOf 49 = .ok (.iconst 1, 1) := by decide +kernel
theorem dX1_partOf_50 : decode cX1_partOf 50 = .ok (.isub, 1) := by decide +kernel
theorem dX1_partOf_51 : decode cX1_partOf 51 = .ok (.iaload, 1) := by decide +kernel
theorem dX1_partOf_52 : decode cX1_partOf 52 = .ok (.iaload, 1) := by decide +kernel
theorem dX1_partOf_53 : decode cX1_partOf 53 = .ok (.iload_n 3, 1) := by decide +kernel
theorem dX1_partOf_54 : decode cX1_partOf 54 = .ok (.iload 5, 2) := by decide +kernel
theorem dX1_partOf_56 : decode cX1_partOf 56 = .ok (.idiv, 1) := by decide +kernel
theorem dX1_partOf_57 : decode cX1_partOf 57 = .ok (.invokestatic 72, 3) := by decide +kernel
theorem dX1_partOf_60 : decode cX1_partOf 60 = .ok (.istore 7, 2) := by decide +kernel
theorem dX1_partOf_62 : decode cX1_partOf 62 = .ok (.aload_n 0, 1) := by decide +kernel
theorem dX1_partOf_63 : decode cX1_partOf 63 = .ok (.getfield 52, 3) := by decide +kernel
theorem dX1_partOf_66 : decode cX1_partOf 66 = .ok (.iload 6, 2) := by decide +kernel
theorem dX1_partOf_68 : decode cX1_partOf 68 = .ok (.iload_n 3, 1) := by decide +kernel
theorem dX1_partOf_69 : decode cX1_partOf 69 = .ok (.iadd, 1) := by decide +kernel
theorem dX1_partOf_70 : decode cX1_partOf 70 = .ok (.iload 7, 2) := by decide +kernel
theorem dX1_partOf_72 : decode cX1_partOf 72 = .ok (.iload 5, 2) := by decide +kernel
theorem dX1_partOf_74 : decode cX1_partOf 74 = .ok (.imul, 1) := by decide +kernel
theorem dX1_partOf_75 : decode cX1_partOf 75 = .ok (.isub, 1) := by decide +kernel
theorem dX1_partOf_76 : decode cX1_partOf 76 = .ok (.iaload, 1) := by decide +kernel
theorem dX1_partOf_77 : decode cX1_partOf 77 = .ok (.iconst (-1), 1) := by decide +kernel
theorem dX1_partOf_78 : decode cX1_partOf 78 = .ok (.if_icmp .eq 39, 3) := by decide +kernel
theorem dX1_partOf_81 : decode cX1_partOf 81 = .ok (.aload_n 0, 1) := by decide +kernel
theorem dX1_partOf_82 : decode cX1_partOf 82 = .ok (.getfield 52, 3) := by decide +kernel
theorem dX1_partOf_85 : decode cX1_partOf 85 = .ok (.iload 6, 2) := by decide +kernel
theorem dX1_partOf_87 : decode cX1_partOf 87 = .ok (.iload_n 3, 1) := by decide +kernel
theorem dX1_partOf_88 : decode cX1_partOf 88 = .ok (.iadd, 1) := by decide +kernel
theorem dX1_partOf_89 : decode cX1_partOf 89 = .ok (.iload 7, 2) := by decide +kernel
theorem dX1_partOf_91 : decode cX1_partOf 91 = .ok (.iload 5, 2) := by decide +kernel
theorem dX1_partOf_93 : decode cX1_partOf 93 = .ok (.imul, 1) := by decide +kernel
theorem dX1_partOf_94 : decode cX1_partOf 94 = .ok (.isub, 1) := by decide +kernel
theorem dX1_partOf_95 : decode cX1_partOf 95 = .ok (.iaload, 1) := by decide +kernel
theorem dX1_partOf_96 : decode cX1_partOf 96 = .ok (.iload 7, 2) := by decide +kernel
theorem dX1_partOf_98 : decode cX1_partOf 98 = .ok (.iadd, 1) := by decide +kernel
theorem dX1_partOf_99 : decode cX1_partOf 99 = .ok (.aload_n 0, 1) := by decide +kernel
theorem dX1_partOf_100 : decode cX1_partOf 100 = .ok (.getfield 52, 3) := by decide +kernel
theorem dX1_partOf_103 : decode cX1_partOf 103 = .ok (.iload 6, 2) := by decide +kernel
theorem dX1_partOf_105 : decode cX1_partOf 105 = .ok (.sipush 2000, 3) := by decide +kernel
theorem dX1_partOf_108 : decode cX1_partOf 108 = .ok (.iadd, 1) := by decide +kernel
theorem dX1_partOf_109 : decode cX1_partOf 109 = .ok (.iconst 1, 1) := by decide +kernel
theorem dX1_partOf_110 : decode cX1_partOf 110 = .ok (.iadd, 1) := by decide +kernel
theorem dX1_partOf_111 : decode cX1_partOf 111 = .ok (.iload_n 3, 1) := by decide +kernel
theorem dX1_partOf_112 : decode cX1_partOf 112 = .ok (.iadd, 1) := by decide +kernel
theorem dX1_partOf_113 : decode cX1_partOf 113 = .ok (.iaload, 1) := by decide +kernel
theorem dX1_partOf_114 : decode cX1_partOf 114 = .ok (.if_icmp .eq 9, 3) := by decide +kernel
theorem dX1_partOf_117 : decode cX1_partOf 117 = .ok (.iinc 7 (-1), 3) := by decide +kernel
theorem dX1_partOf_120 : decode cX1_partOf 120 = .ok (.goto (-58), 3) := by decide +kernel
theorem dX1_partOf_123 : decode cX1_partOf 123 = .ok (.aload_n 0, 1) := by decide +kernel
theorem dX1_partOf_124 : decode cX1_partOf 124 = .ok (.getfield 29, 3) := by decide +kernel
theorem dX1_partOf_127 : decode cX1_partOf 127 = .ok (.iload 4, 2) := by decide +kernel
theorem dX1_partOf_129 : decode cX1_partOf 129 = .ok (.iconst 1, 1) := by decide +kernel
theorem dX1_partOf_130 : decode cX1_partOf 130 = .ok (.isub, 1) := by decide +kernel
theorem dX1_partOf_131 : decode cX1_partOf 131 = .ok (.iaload, 1) := by decide +kernel
theorem dX1_partOf_132 : decode cX1_partOf 132 = .ok (.iload_n 2, 1) := by decide +kernel
theorem dX1_partOf_133 : decode cX1_partOf 133 = .ok (.if_icmp .ne 6, 3) := by decide +kernel
theorem dX1_partOf_136 : decode cX1_partOf 136 = .ok (.iload 7, 2) := by decide +kernel
theorem dX1_partOf_138 : decode cX1_partOf 138 = .ok (.ireturn, 1) := by decide +kernel
theorem dX1_partOf_139 : decode cX1_partOf 139 = .ok (.iload_n 3, 1) := by decide +kernel
theorem dX1_partOf_140 : decode cX1_partOf 140 = .ok (.iload 7, 2) := by decide +kernel
theorem dX1_partOf_142 : decode cX1_partOf 142 = .ok (.iload 5, 2) := by decide +kernel
theorem dX1_partOf_144 : decode cX1_partOf 144 = .ok (.imul, 1) := by decide +kernel
theorem dX1_partOf_145 : decode cX1_partOf 145 = .ok (.isub, 1) := by decide +kernel
theorem dX1_partOf_146 : decode cX1_partOf 146 = .ok (.istore_n 3, 1) := by decide +kernel
theorem dX1_partOf_147 : decode cX1_partOf 147 = .ok (.iinc 4 (-1), 3) := by decide +kernel
theorem dX1_partOf_150 : decode cX1_partOf 150 = .ok (.goto (-142), 3) := by decide +kernel
theorem dX1_partOf_153 : decode cX1_partOf 153 = .ok (.iconst 0, 1) := by decide +kernel
theorem dX1_partOf_154 : decode cX1_partOf 154 = .ok (.ireturn, 1) := by decide +kernel
set_option maxRecDepth 20000 in
theorem ggX1_pay_X1_tabulate : GoodIn wsX1_pay wsX1_tabulate := goodIn_r _ [8, 9, 1, 10, 11, 3, 24, 25, 26, 27, 28, 29, 30, 31, 32, 33, 34, 35, 36, 37, 38, 39, 40, 41, 42] (by decide +kernel) (by decide +kernel)
set_option maxRecDepth 20000 in
theorem gX1_pay_X1_tabulate : GoodIn wsX1_pay (wsV RX1 88 RX1 yX1_tabulate wsX1_tabulate) := goodIn_app (goodIn_of _ (by decide +kernel)) ggX1_pay_X1_tabulate
set_option maxRecDepth 20000 in
theorem ggX1_pay_X1_inAll : GoodIn wsX1_pay wsX1_inAll := goodIn_r _ [15, 9, 1, 24, 25, 26, 27, 28, 29, 30, 31, 32, 33, 34, 35, 36, 37, 38, 39, 40, 41, 42] (by decide +kernel) (by decide +kernel)
set_option maxRecDepth 20000 in
theorem gX1_pay_X1_inAll : GoodIn wsX1_pay (wsV RX1 92 RX1 yX1_inAll wsX1_inAll) := goodIn_app (goodIn_of _ (by decide +kernel)) ggX1_pay_X1_inAll
set_option maxRecDepth 20000 in
theorem ggX1_pay_X1_partOf : GoodIn wsX1_pay wsX1_partOf := goodIn_r _ [19, 1, 10, 11, 3, 20, 21, 22, 23, 9, 24, 25, 26, 27, 28, 29, 30, 31, 32, 33, 34, 35, 36, 37, 38, 39, 40, 41, 42] (by decide +kernel) (by decide +kernel)
set_option maxRecDepth 20000 in
theorem gX1_pay_X1_partOf : GoodIn wsX1_pay (wsV RX1 95 RX1 yX1_partOf wsX1_partOf) := goodIn_app (goodIn_of _ (by decide +kernel)) ggX1_pay_X1_partOf
theorem dX1_pay_0 : decode cX1_pay 0 = .ok (.aload_n 0, 1) := by decide +kernel
theorem dX1_pay_1 : decode cX1_pay 1 = .ok (.iload_n 1, 1) := by decide +kernel
theorem dX1_pay_2 : decode cX1_pay 2 = .ok (.invokevirtual 88, 3) := by decide +kernel
theorem dX1_pay_5 : decode cX1_pay 5 = .ok (.aload_n 0, 1) := by decide +kernel
theorem dX1_pay_6 : decode cX1_pay 6 = .ok (.iload_n 1, 1) := by decide +kernel
theorem dX1_pay_7 : decode cX1_pay 7 = .ok (.invokevirtual 92, 3) := by decide +kernel
theorem dX1_pay_10 : decode cX1_pay 10 = .ok (.iconst (-1), 1) := by decide +kernel
theorem dX1_pay_11 : decode cX1_pay 11 = .ok (.if_icmp .ne 5, 3) := by decide +kernel
theorem dX1_pay_14 : decode cX1_pay 14 = .ok (.iconst 0, 1) := by decide +kernel
theorem dX1_pay_15 : decode cX1_pay 15 = .ok (.ireturn, 1) := by decide +kernel
theorem dX1_pay_16 : decode cX1_pay 16 = .ok (.iconst 0, 1) := by decide +kernel
theorem dX1_pay_17 : decode cX1_pay 17 = .ok (.istore_n 2, 1) := by decide +kernel
theorem dX1_pay_18 : decode cX1_pay 18 = .ok (.iload_n 2, 1) := by decide +kernel
theorem dX1_pay_19 : decode cX1_pay 19 = .ok (.aload_n 0, 1) := by decide +kernel
theorem dX1_pay_20 : decode cX1_pay 20 = .ok (.getfield 58, 3) := by decide +kernel
theorem dX1_pay_23 : decode cX1_pay 23 = .ok (.if_icmp .ge 21, 3) := by decide +kernel
theorem dX1_pay_26 : decode cX1_pay 26 = .ok (.aload_n 0, 1) := by decide +kernel
theorem dX1_pay_27 : decode cX1_pay 27 = .ok (.getfield 26, 3) := by decide +kernel
theorem dX1_pay_30 : decode cX1_pay 30 = .ok (.iload_n 2, 1) := by decide +kernel
theorem dX1_pay_31 : decode cX1_pay 31 = .ok (.aload_n 0, 1) := by decide +kernel
theorem dX1_pay_32 : decode cX1_pay 32 = .ok (.iload_n 1, 1) := by decide +kernel
theorem dX1_pay_33 : decode cX1_pay 33 = .ok (.iload_n 2, 1) := by decide +kernel
theorem dX1_pay_34 : decode cX1_pay 34 = .ok (.invokevirtual 95, 3) := by decide +kernel
theorem dX1_pay_37 : decode cX1_pay 37 = .ok (.iastore, 1) := by decide +kernel
theorem dX1_pay_38 : decode cX1_pay 38 = .ok (.iinc 2 1, 3) := by decide +kernel
theorem dX1_pay_41 : decode cX1_pay 41 = .ok (.goto (-23), 3) := by decide +kernel
theorem dX1_pay_44 : decode cX1_pay 44 = .ok (.iconst 0, 1) := by decide +kernel
theorem dX1_pay_45 : decode cX1_pay 45 = .ok (.istore_n 2, 1) := by decide +kernel
theorem dX1_pay_46 : decode cX1_pay 46 = .ok (.iload_n 2, 1) := by decide +kernel
theorem dX1_pay_47 : decode cX1_pay 47 = .ok (.aload_n 0, 1) := by decide +kernel
theorem dX1_pay_48 : decode cX1_pay 48 = .ok (.getfield 58, 3) := by decide +kernel
theorem dX1_pay_51 : decode cX1_pay 51 = .ok (.if_icmp .ge 24, 3) := by decide +kernel
theorem dX1_pay_54 : decode cX1_pay 54 = .ok (.aload_n 0, 1) := by decide +kernel
theorem dX1_pay_55 : decode cX1_pay 55 = .ok (.getfield 20, 3) := by decide +kernel
theorem dX1_pay_58 : decode cX1_pay 58 = .ok (.iload_n 2, 1) := by decide +kernel
theorem dX1_pay_59 : decode cX1_pay 59 = .ok (.dup2, 1) := by decide +kernel
theorem dX1_pay_60 : decode cX1_pay 60 = .ok (.iaload, 1) := by decide +kernel
theorem dX1_pay_61 : decode cX1_pay 61 = .ok (.aload_n 0, 1) := by decide +kernel
theorem dX1_pay_62 : decode cX1_pay 62 = .ok (.getfield 26, 3) := by decide +kernel
theorem dX1_pay_65 : decode cX1_pay 65 = .ok (.iload_n 2, 1) := by decide +kernel
theorem dX1_pay_66 : decode cX1_pay 66 = .ok (.iaload, 1) := by decide +kernel
theorem dX1_pay_67 : decode cX1_pay 67 = .ok (.isub, 1) := by decide +kernel
theorem dX1_pay_68 : decode cX1_pay 68 = .ok (.iastore, 1) := by decide +kernel
theorem dX1_pay_69 : decode cX1_pay 69 = .ok (.iinc 2 1, 3) := by decide +kernel
theorem dX1_pay_72 : decode cX1_pay 72 = .ok (.goto (-26), 3) := by decide +kernel
theorem dX1_pay_75 : decode cX1_pay 75 = .ok (.iconst 1, 1) := by decide +kernel
theorem dX1_pay_76 : decode cX1_pay 76 = .ok (.ireturn, 1) := by decide +kernel
theorem dX1_creditNow_0 : decode cX1_creditNow 0 = .ok (.iconst 0, 1) := by decide +kernel
theorem dX1_creditNow_1 : decode cX1_creditNow 1 = .ok (.istore_n 1, 1) := by decide +kernel
theorem dX1_creditNow_2 : decode cX1_creditNow 2 = .ok (.iconst 0, 1) := by decide +kernel
theorem dX1_creditNow_3 : decode cX1_creditNow 3 = .ok (.istore_n 2, 1) := by decide +kernel
theorem dX1_creditNow_4 : decode cX1_creditNow 4 = .ok (.iload_n 2, 1) := by decide +kernel
theorem dX1_creditNow_5 : decode cX1_creditNow 5 = .ok (.aload_n 0, 1) := by decide +kernel
theorem dX1_creditNow_6 : decode cX1_creditNow 6 = .ok (.getfield 98, 3) := by decide +kernel
theorem dX1_creditNow_9 : decode cX1_creditNow 9 = .ok (.if_icmp .ge 23, 3) := by decide +kernel
theorem dX1_creditNow_12 : decode cX1_creditNow 12 = .ok (.iload_n 1, 1) := by decide +kernel
theorem dX1_creditNow_13 : decode cX1_creditNow 13 = .ok (.aload_n 0, 1) := by decide +kernel
theorem dX1_creditNow_14 : decode cX1_creditNow 14 = .ok (.getfield 9, 3) := by decide +kernel
theorem dX1_creditNow_17 : decode cX1_creditNow 17 = .ok (.aload_n 0, 1) := by decide +kernel
theorem dX1_creditNow_18 : decode cX1_creditNow 18 = .ok (.getfield 42, 3) := by decide +kernel
theorem dX1_creditNow_21 : decode cX1_creditNow 21 = .ok (.iload_n 2, 1) := by decide +kernel
theorem dX1_creditNow_22 : decode cX1_creditNow 22 = .ok (.iaload, 1) := by decide +kernel
theorem dX1_creditNow_23 : decode cX1_creditNow 23 = .ok (.iaload, 1) := by decide +kernel
theorem dX1_creditNow_24 : decode cX1_creditNow 24 = .ok (.iadd, 1) := by decide +kernel
theorem dX1_creditNow_25 : decode cX1_creditNow 25 = .ok (.istore_n 1, 1) := by decide +kernel
theorem dX1_creditNow_26 : decode cX1_creditNow 26 = .ok (.iinc 2 1, 3) := by decide +kernel
theorem dX1_creditNow_29 : decode cX1_creditNow 29 = .ok (.goto (-25), 3) := by decide +kernel
theorem dX1_creditNow_32 : decode cX1_creditNow 32 = .ok (.iload_n 1, 1) := by decide +kernel
theorem dX1_creditNow_33 : decode cX1_creditNow 33 = .ok (.ireturn, 1) := by decide +kernel
set_option maxRecDepth 20000 in
theorem ggX1_insert_X1_isKind : GoodIn wsX1_insert wsX1_isKind := goodIn_r _ [12, 13, 22, 23, 24, 25, 26, 27, 28, 29, 30, 31, 32, 33, 34, 35, 36, 37, 38, 39, 40] (by decide +kernel) (by decide +kernel)
set_option maxRecDepth 20000 in
theorem gX1_insert_X1_isKind : GoodIn wsX1_insert (wsV RX1 68 RX1 yX1_isKind wsX1_isKind) := goodIn_app (goodIn_of _ (by decide +kernel)) ggX1_insert_X1_isKind
set_option maxRecDepth 20000 in
theorem ggX1_insert_X1_fail : GoodIn wsX1_insert wsX1_fail := goodIn_r _ [17, 1, 22, 23, 24, 25, 26, 27, 28, 29, 30, 31, 32, 33, 34, 35, 36, 37, 38, 39, 40] (by decide +kernel) (by decide +kernel)
set_option maxRecDepth 20000 in
theorem gX1_insert_X1_fail : GoodIn wsX1_insert (wsV RX1 64 RX1 yX1_fail wsX1_fail) := goodIn_app (goodIn_of _ (by decide +kernel)) ggX1_insert_X1_fail
set_option maxRecDepth 20000 in
theorem ggX1_insert_X1_creditNow : GoodIn wsX1_insert wsX1_creditNow := goodIn_r _ [21, 3, 4, 6, 22, 23, 24, 25, 26, 27, 28, 29, 30, 31, 32, 33, 34, 35, 36, 37, 38, 39, 40] (by decide +kernel) (by decide +kernel)
set_option maxRecDepth 20000 in
theorem gX1_insert_X1_creditNow : GoodIn wsX1_insert (wsV RX1 101 RX1 yX1_creditNow wsX1_creditNow) := goodIn_app (goodIn_of _ (by decide +kernel)) ggX1_insert_X1_creditNow
theorem dX1_insert_0 : decode cX1_insert 0 = .ok (.aload_n 0, 1) := by decide +kernel
theorem dX1_insert_1 : decode cX1_insert 1 = .ok (.iconst 0, 1) := by decide +kernel
theorem dX1_insert_2 : decode cX1_insert 2 = .ok (.putfield 55, 3) := by decide +kernel
theorem dX1_insert_5 : decode cX1_insert 5 = .ok (.aload_n 0, 1) := by decide +kernel
theorem dX1_insert_6 : decode cX1_insert 6 = .ok (.iload_n 1, 1) := by decide +kernel
theorem dX1_insert_7 : decode cX1_insert 7 = .ok (.invokevirtual 68, 3) := by decide +kernel
theorem dX1_insert_10 : decode cX1_insert 10 = .ok (.ifCond .ne 9, 3) := by decide +kernel
theorem dX1_insert_13 : decode cX1_insert 13 = .ok (.aload_n 0, 1) := by decide +kernel
theorem dX1_insert_14 : decode cX1_insert 14 = .ok (.iconst 1, 1) := by decide +kernel
theorem dX1_insert_15 : decode cX1_insert 15 = .ok (.invokevirtual 64, 3) := by decide +kernel
theorem dX1_insert_18 : decode cX1_insert 18 = .ok (.ireturn, 1) := by decide +kernel
theorem dX1_insert_19 : decode cX1_insert 19 = .ok (.aload_n 0, 1) := by decide +kernel
theorem dX1_insert_20 : decode cX1_insert 20 = .ok (.getfield 16, 3) := by decide +kernel
theorem dX1_insert_23 : decode cX1_insert 23 = .ok (.iload_n 1, 1) := by decide +kernel
theorem dX1_insert_24 : decode cX1_insert 24 = .ok (.baload, 1) := by decide +kernel
theorem dX1_insert_25 : decode cX1_insert 25 = .ok (.ifCond .ne 5, 3) := by decide +kernel
theorem dX1_insert_28 : decode cX1_insert 28 = .ok (.iconst 1, 1) := by decide +kernel
theorem dX1_insert_29 : decode cX1_insert 29 = .ok (.ireturn, 1) := by decide +kernel
theorem dX1_insert_30 : decode cX1_insert 30 = .ok (.aload_n 0, 1) := by decide +kernel
theorem dX1_insert_31 : decode cX1_insert 31 = .ok (.getfield 98, 3) := by decide +kernel
theorem dX1_insert_34 : decode cX1_insert 34 = .ok (.bipush 12, 2) := by decide +kernel
theorem dX1_insert_36 : decode cX1_insert 36 = .ok (.if_icmp .ne 5, 3) := by decide +kernel
theorem dX1_insert_39 : decode cX1_insert 39 = .ok (.iconst 2, 1) := by decide +kernel
theorem dX1_insert_40 : decode cX1_insert 40 = .ok (.ireturn, 1) := by decide +kernel
theorem dX1_insert_41 : decode cX1_insert 41 = .ok (.aload_n 0, 1) := by decide +kernel
theorem dX1_insert_42 : decode cX1_insert 42 = .ok (.invokevirtual 101, 3) := by decide +kernel
theorem dX1_insert_45 : decode cX1_insert 45 = .ok (.aload_n 0, 1) := by decide +kernel
theorem dX1_insert_46 : decode cX1_insert 46 = .ok (.getfield 9, 3) := by decide +kernel
theorem dX1_insert_49 : decode cX1_insert 49 = .ok (.iload_n 1, 1) := by decide +kernel
theorem dX1_insert_50 : decode cX1_insert 50 = .ok (.iaload, 1) := by decide +kernel
theorem dX1_insert_51 : decode cX1_insert 51 = .ok (.iadd, 1) := by decide +kernel
theorem dX1_insert_52 : decode cX1_insert 52 = .ok (.aload_n 0, 1) := by decide +kernel
theorem dX1_insert_53 : decode cX1_insert 53 = .ok (.getfield 38, 3) := by decide +kernel
theorem dX1_insert_56 : decode cX1_insert 56 = .ok (.if_icmp .le 5, 3) := by decide +kernel
theorem dX1_insert_59 : decode cX1_insert 59 = .ok (.iconst 3, 1) := by decide +kernel
theorem dX1_insert_60 : decode cX1_insert 60 = .ok (.ireturn, 1) := by decide +kernel
theorem dX1_insert_61 : decode cX1_insert 61 = .ok (.aload_n 0, 1) := by decide +kernel
theorem dX1_insert_62 : decode cX1_insert 62 = .ok (.getfield 42, 3) := by decide +kernel
theorem dX1_insert_65 : decode cX1_insert 65 = .ok (.aload_n 0, 1) := by decide +kernel
theorem dX1_insert_66 : decode cX1_insert 66 = .ok (.getfield 98, 3) := by decide +kernel
theorem dX1_insert_69 : decode cX1_insert 69 = .ok (.iload_n 1, 1) := by decide +kernel
theorem dX1_insert_70 : decode cX1_insert 70 = .ok (.iastore, 1) := by decide +kernel
theorem dX1_insert_71 : decode cX1_insert 71 = .ok (.aload_n 0, 1) := by decide +kernel
theorem dX1_insert_72 : decode cX1_insert 72 = .ok (.dup, 1) := by decide +kernel
theorem dX1_insert_73 : decode cX1_insert 73 = .ok (.getfield 98, 3) := by decide +kernel
theorem dX1_insert_76 : decode cX1_insert 76 = .ok (.iconst 1, 1) := by decide +kernel
theorem dX1_insert_77 : decode cX1_insert 77 = .ok (.iadd, 1) := by decide +kernel
theorem dX1_insert_78 : decode cX1_insert 78 = .ok (.putfield 98, 3) := by decide +kernel
theorem dX1_insert_81 : decode cX1_insert 81 = .ok (.aload_n 0, 1) := by decide +kernel
theorem dX1_insert_82 : decode cX1_insert 82 = .ok (.getfield 48, 3) := by decide +kernel
theorem dX1_insert_85 : decode cX1_insert 85 = .ok (.iconst 0, 1) := by decide +kernel
theorem dX1_insert_86 : decode cX1_insert 86 = .ok (.dup2, 1) := by decide +kernel
theorem dX1_insert_87 : decode cX1_insert 87 = .ok (.laload, 1) := by decide +kernel
theorem dX1_insert_88 : decode cX1_insert 88 = .ok (.aload_n 0, 1) := by decide +kernel
theorem dX1_insert_89 : decode cX1_insert 89 = .ok (.getfield 9, 3) := by decide +kernel
theorem dX1_insert_92 : decode cX1_insert 92 = .ok (.iload_n 1, 1) := by decide +kernel
theorem dX1_insert_93 : decode cX1_insert 93 = .ok (.iaload, 1) := by decide +kernel
theorem dX1_insert_94 : decode cX1_insert 94 = .ok (.i2l, 1) := by decide +kernel
theorem dX1_insert_95 : decode cX1_insert 95 = .ok (.ladd, 1) := by decide +kernel
theorem dX1_insert_96 : decode cX1_insert 96 = .ok (.lastore, 1) := by decide +kernel
theorem dX1_insert_97 : decode cX1_insert 97 = .ok (.iconst 0, 1) := by decide +kernel
theorem dX1_insert_98 : decode cX1_insert 98 = .ok (.ireturn, 1) := by decide +kernel
set_option maxRecDepth 20000 in
theorem ggX1_cancel_X1_creditNow : GoodIn wsX1_cancel wsX1_creditNow := goodIn_r _ [8, 2, 9, 10, 11, 12, 13, 14, 15, 16, 17, 18, 19, 20, 21, 22, 23, 24, 25, 26, 27, 28, 29] (by decide +kernel) (by decide +kernel)
set_option maxRecDepth 20000 in
theorem gX1_cancel_X1_creditNow : GoodIn wsX1_cancel (wsV RX1 101 RX1 yX1_creditNow wsX1_creditNow) := goodIn_app (goodIn_of _ (by decide +kernel)) ggX1_cancel_X1_creditNow
theorem dX1_cancel_0 : decode cX1_cancel 0 = .ok (.aload_n 0, 1) := by decide +kernel
theorem dX1_cancel_1 : decode cX1_cancel 1 = .ok (.iconst 0, 1) := by decide +kernel
theorem dX1_cancel_2 : decode cX1_cancel 2 = .ok (.putfield 55, 3) := by decide +kernel
theorem dX1_cancel_5 : decode cX1_cancel 5 = .ok (.aload_n 0, 1) := by decide +kernel
theorem dX1_cancel_6 : decode cX1_cancel 6 = .ok (.invokevirtual 101, 3) := by decide +kernel
theorem dX1_cancel_9 : decode cX1_cancel 9 = .ok (.istore_n 1, 1) := by decide +kernel
theorem dX1_cancel_10 : decode cX1_cancel 10 = .ok (.aload_n 0, 1) := by decide +kernel
theorem dX1_cancel_11 : decode cX1_cancel 11 = .ok (.iconst 0, 1) := by decide +kernel
theorem dX1_cancel_12 : decode cX1_cancel 12 = .ok (.putfield 98, 3) := by decide +kernel
theorem dX1_cancel_15 : decode cX1_cancel 15 = .ok (.aload_n 0, 1) := by decide +kernel
theorem dX1_cancel_16 : decode cX1_cancel 16 = .ok (.getfield 48, 3) := by decide +kernel
theorem dX1_cancel_19 : decode cX1_cancel 19 = .ok (.iconst 1, 1) := by decide +kernel
theorem dX1_cancel_20 : decode cX1_cancel 20 = .ok (.dup2, 1) := by decide +kernel
theorem dX1_cancel_21 : decode cX1_cancel 21 = .ok (.laload, 1) := by decide +kernel
theorem dX1_cancel_22 : decode cX1_cancel 22 = .ok (.iload_n 1, 1) := by decide +kernel
theorem dX1_cancel_23 : decode cX1_cancel 23 = .ok (.i2l, 1) := by decide +kernel
theorem dX1_cancel_24 : decode cX1_cancel 24 = .ok (.ladd, 1) := by decide +kernel
theorem dX1_cancel_25 : decode cX1_cancel 25 = .ok (.lastore, 1) := by decide +kernel
theorem dX1_cancel_26 : decode cX1_cancel 26 = .ok (.iload_n 1, 1) := by decide +kernel
theorem dX1_cancel_27 : decode cX1_cancel 27 = .ok (.ireturn, 1) := by decide +kernel
set_option maxRecDepth 20000 in
theorem ggX1_buy_X1_isProduct : GoodIn wsX1_buy wsX1_isProduct := goodIn_r _ [22, 23, 57, 58, 59, 60, 61, 62, 63, 64, 65, 66, 67, 68, 69, 70, 71, 72, 73, 74, 75] (by decide +kernel) (by decide +kernel)
set_option maxRecDepth 20000 in
theorem gX1_buy_X1_isProduct : GoodIn wsX1_buy (wsV RX1 85 RX1 yX1_isProduct wsX1_isProduct) := goodIn_app (goodIn_of _ (by decide +kernel)) ggX1_buy_X1_isProduct
set_option maxRecDepth 20000 in
theorem ggX1_buy_X1_fail : GoodIn wsX1_buy wsX1_fail := goodIn_r _ [27, 1, 57, 58, 59, 60, 61, 62, 63, 64, 65, 66, 67, 68, 69, 70, 71, 72, 73, 74, 75] (by decide +kernel) (by decide +kernel)
set_option maxRecDepth 20000 in
theorem gX1_buy_X1_fail : GoodIn wsX1_buy (wsV RX1 64 RX1 yX1_fail wsX1_fail) := goodIn_app (goodIn_of _ (by decide +kernel)) ggX1_buy_X1_fail
set_option maxRecDepth 20000 in
theorem ggX1_buy_X1_creditNow : GoodIn wsX1_buy wsX1_creditNow := goodIn_r _ [31, 12, 32, 13, 57, 58, 59, 60, 61, 62, 63, 64, 65, 66, 67, 68, 69, 70, 71, 72, 73, 74, 75] (by decide +kernel) (by decide +kernel)
set_option maxRecDepth 20000 in
theorem gX1_buy_X1_creditNow : GoodIn wsX1_buy (wsV RX1 101 RX1 yX1_creditNow wsX1_creditNow) := goodIn_app (goodIn_of _ (by decide +kernel)) ggX1_buy_X1_creditNow
set_option maxRecDepth 20000 in
theorem ggX1_buy_X1_pay : GoodIn wsX1_buy wsX1_pay := goodIn_r _ [36, 37, 38, 4, 39, 40, 41, 21, 42, 43, 32, 44, 45, 46, 47, 48, 49, 50, 51, 52, 53, 54, 55, 56, 57, 58, 59, 60, 61, 62, 63, 64, 65, 66, 67, 68, 69, 70, 71, 72, 73, 74, 75] (by decide +kernel) (by decide +kernel)
set_option maxRecDepth 20000 in
theorem gX1_buy_X1_pay : GoodIn wsX1_buy (wsV RX1 110 RX1 yX1_pay wsX1_pay) := goodIn_app (goodIn_of _ (by decide +kernel)) ggX1_buy_X1_pay
theorem dX1_buy_0 : decode cX1_buy 0 = .ok (.aload_n 0, 1) := by decide +kernel
theorem dX1_buy_1 : decode cX1_buy 1 = .ok (.iconst 0, 1) := by decide +kernel
theorem dX1_buy_2 : decode cX1_buy 2 = .ok (.putfield 55, 3) := by decide +kernel
theorem dX1_buy_5 : decode cX1_buy 5 = .ok (.aload_n 0, 1) := by decide +kernel
theorem dX1_buy_6 : decode cX1_buy 6 = .ok (.iload_n 1, 1) := by decide +kernel
theorem dX1_buy_7 : decode cX1_buy 7 = .ok (.invokevirtual 85, 3) := by decide +kernel
theorem dX1_buy_10 : decode cX1_buy 10 = .ok (.ifCond .ne 9, 3) := by decide +kernel
theorem dX1_buy_13 : decode cX1_buy 13 = .ok (.aload_n 0, 1) := by decide +kernel
theorem dX1_buy_14 : decode cX1_buy 14 = .ok (.iconst 1, 1) := by decide +kernel
theorem dX1_buy_15 : decode cX1_buy 15 = .ok (.invokevirtual 64, 3) := by decide +kernel
theorem dX1_buy_18 : decode cX1_buy 18 = .ok (.ireturn, 1) := by decide +kernel
theorem dX1_buy_19 : decode cX1_buy 19 = .ok (.aload_n 0, 1) := by decide +kernel
theorem dX1_buy_20 : decode cX1_buy 20 = .ok (.getfield 35, 3) := by decide +kernel
theorem dX1_buy_23 : decode cX1_buy 23 = .ok (.iload_n 1, 1) := by decide +kernel
theorem dX1_buy_24 : decode cX1_buy 24 = .ok (.iaload, 1) := by decide +kernel
theorem dX1_buy_25 : decode cX1_buy 25 = .ok (.ifCond .ne 5, 3) := by decide +kernel
theorem dX1_buy_28 : decode cX1_buy 28 = .ok (.iconst 1, 1) := by decide +kernel
theorem dX1_buy_29 : decode cX1_buy 29 = .ok (.ireturn, 1) := by decide +kernel
theorem dX1_buy_30 : decode cX1_buy 30 = .ok (.aload_n 0, 1) := by decide +kernel
theorem dX1_buy_31 : decode cX1_buy 31 = .ok (.invokevirtual 101, 3) := by decide +kernel
theorem dX1_buy_34 : decode cX1_buy 34 = .ok (.aload_n 0, 1) := by decide +kernel
theorem dX1_buy_35 : decode cX1_buy 35 = .ok (.getfield 32, 3) := by decide +kernel
theorem dX1_buy_38 : decode cX1_buy 38 = .ok (.iload_n 1, 1) := by decide +kernel
theorem dX1_buy_39 : decode cX1_buy 39 = .ok (.iaload, 1) := by decide +kernel
theorem dX1_buy_40 : decode cX1_buy 40 = .ok (.isub, 1) := by decide +kernel
theorem dX1_buy_41 : decode cX1_buy 41 = .ok (.istore_n 2, 1) := by decide +kernel
theorem dX1_buy_42 : decode cX1_buy 42 = .ok (.iload_n 2, 1) := by decide +kernel
theorem dX1_buy_43 : decode cX1_buy 43 = .ok (.ifCond .ge 5, 3) := by decide +kernel
theorem dX1_buy_46 : decode cX1_buy 46 = .ok (.iconst 2, 1) := by decide +kernel
theorem dX1_buy_47 : decode cX1_buy 47 = .ok (.ireturn, 1) := by decide +kernel
theorem dX1_buy_48 : decode cX1_buy 48 = .ok (.aload_n 0, 1) := by decide +kernel
theorem dX1_buy_49 : decode cX1_buy 49 = .ok (.getfield 20, 3) := by decide +kernel
theorem dX1_buy_52 : decode cX1_buy 52 = .ok (.invokevirtual 105, 3) := by decide +kernel
theorem dX1_buy_55 : decode cX1_buy 55 = .ok (.checkcast 106, 3) := by decide +kernel
theorem dX1_buy_58 : decode cX1_buy 58 = .ok (.astore_n 3, 1) := by decide +kernel
theorem dX1_buy_59 : decode cX1_buy 59 = .ok (.aload_n 0, 1) := by decide +kernel
theorem dX1_buy_60 : decode cX1_buy 60 = .ok (.getfield 23, 3) := by decide +kernel
theorem dX1_buy_63 : decode cX1_buy 63 = .ok (.invokevirtual 105, 3) := by decide +kernel
theorem dX1_buy_66 : decode cX1_buy 66 = .ok (.checkcast 106, 3) := by decide +kernel
theorem dX1_buy_69 : decode cX1_buy 69 = .ok (.astore 4, 2) := by decide +kernel
theorem dX1_buy_71 : decode cX1_buy 71 = .ok (.iconst 0, 1) := by decide +kernel
theorem dX1_buy_72 : decode cX1_buy 72 = .ok (.istore 5, 2) := by decide +kernel
theorem dX1_buy_74 : decode cX1_buy 74 = .ok (.iload 5, 2) := by decide +kernel
theorem dX1_buy_76 : decode cX1_buy 76 = .ok (.aload_n 0, 1) := by decide +kernel
theorem dX1_buy_77 : decode cX1_buy 77 = .ok (.getfield 98, 3) := by decide +kernel
theorem dX1_buy_80 : decode cX1_buy 80 = .ok (.if_icmp .ge 71, 3) := by decide +kernel
theorem dX1_buy_83 : decode cX1_buy 83 = .ok (.aload_n 0, 1) := by decide +kernel
theorem dX1_buy_84 : decode cX1_buy 84 = .ok (.getfield 20, 3) := by decide +kernel
theorem dX1_buy_87 : decode cX1_buy 87 = .ok (.aload_n 0, 1) := by decide +kernel
theorem dX1_buy_88 : decode cX1_buy 88 = .ok (.getfield 42, 3) := by decide +kernel
theorem dX1_buy_91 : decode cX1_buy 91 = .ok (.iload 5, 2) := by decide +kernel
theorem dX1_buy_93 : decode cX1_buy 93 = .ok (.iaload, 1) := by decide +kernel
theorem dX1_buy_94 : decode cX1_buy 94 = .ok (.iaload, 1) := by decide +kernel
theorem dX1_buy_95 : decode cX1_buy 95 = .ok (.aload_n 0, 1) := by decide +kernel
theorem dX1_buy_96 : decode cX1_buy 96 = .ok (.getfield 13, 3) := by decide +kernel
theorem dX1_buy_99 : decode cX1_buy 99 = .ok (.aload_n 0, 1) := by decide +kernel
theorem dX1_buy_100 : decode cX1_buy 100 = .ok (.getfield 42, 3) := by decide +kernel
theorem dX1_buy_103 : decode cX1_buy 103 = .ok (.iload 5, 2) := by decide +kernel
theorem dX1_buy_105 : decode cX1_buy 105 = .ok (.iaload, 1) := by decide +kernel
theorem dX1_buy_106 : decode cX1_buy 106 = .ok (.iaload, 1) := by decide +kernel
theorem dX1_buy_107 : decode cX1_buy 107 = .ok (.if_icmp .ge 22, 3) := by decide +kernel
theorem dX1_buy_110 : decode cX1_buy 110 = .ok (.aload_n 0, 1) := by decide +kernel
theorem dX1_buy_111 : decode cX1_buy 111 = .ok (.getfield 20, 3) := by decide +kernel
theorem dX1_buy_114 : decode cX1_buy 114 = .ok (.aload_n 0, 1) := by decide +kernel
theorem dX1_buy_115 : decode cX1_buy 115 = .ok (.getfield 42, 3) := by decide +kernel
theorem dX1_buy_118 : decode cX1_buy 118 = .ok (.iload 5, 2) := by decide +kernel
theorem dX1_buy_120 : decode cX1_buy 120 = .ok (.iaload, 1) := by decide +kernel
theorem dX1_buy_121 : decode cX1_buy 121 = .ok (.dup2, 1) := by decide +kernel
theorem dX1_buy_122 : decode cX1_buy 122 = .ok (.iaload, 1) := by decide +kernel
theorem dX1_buy_123 : decode cX1_buy 123 = .ok (.iconst 1, 1) := by decide +kernel
theorem dX1_buy_124 : decode cX1_buy 124 = .ok (.iadd, 1) := by decide +kernel
theorem dX1_buy_125 : decode cX1_buy 125 = .ok (.iastore, 1) := by decide +kernel
theorem dX1_buy_126 : decode cX1_buy 126 = .ok (.goto 19, 3) := by decide +kernel
theorem dX1_buy_129 : decode cX1_buy 129 = .ok (.aload_n 0, 1) := by decide +kernel
theorem dX1_buy_130 : decode cX1_buy 130 = .ok (.getfield 23, 3) := by decide +kernel
theorem dX1_buy_133 : decode cX1_buy 133 = .ok (.aload_n 0, 1) := by decide +kernel
theorem dX1_buy_134 : decode cX1_buy 134 = .ok (.getfield 42, 3) := by decide +kernel
theorem dX1_buy_137 : decode cX1_buy 137 = .ok (.iload 5, 2) := by decide +kernel
theorem dX1_buy_139 : decode cX1_buy 139 = .ok (.iaload, 1) := by decide +kernel
theorem dX1_buy_140 : decode cX1_buy 140 = .ok (.dup2, 1) := by decide +kernel
theorem dX1_buy_141 : decode cX1_buy 141 = .ok (.iaload, 1) := by decide +kernel
theorem dX1_buy_142 : decode cX1_buy 142 = .ok (.iconst 1, 1) := by decide +kernel
theorem dX1_buy_143 : decode cX1_buy 143 = .ok (.iadd, 1) := by decide +kernel
theorem dX1_buy_144 : decode cX1_buy 144 = .ok (.iastore, 1) := by decide +kernel
theorem dX1_buy_145 : decode cX1_buy 145 = .ok (.iinc 5 1, 3) := by decide +kernel
theorem dX1_buy_148 : decode cX1_buy 148 = .ok (.goto (-74), 3) := by decide +kernel
theorem dX1_buy_151 : decode cX1_buy 151 = .ok (.aload_n 0, 1) := by decide +kernel
theorem dX1_buy_152 : decode cX1_buy 152 = .ok (.iload_n 2, 1) := by decide +kernel
theorem dX1_buy_153 : decode cX1_buy 153 = .ok (.invokevirtual 110, 3) := by decide +kernel
theorem dX1_buy_156 : decode cX1_buy 156 = .ok (.ifCond .ne 44, 3) := by decide +kernel
theorem dX1_buy_159 : decode cX1_buy 159 = .ok (.iconst 0, 1) := by decide +kernel
theorem dX1_buy_160 : decode cX1_buy 160 = .ok (.istore 5, 2) := by decide +kernel
theorem dX1_buy_162 : decode cX1_buy 162 = .ok (.iload 5, 2) := by decide +kernel
theorem dX1_buy_164 : decode cX1_buy 164 = .ok (.bipush 8, 2) := by decide +kernel
theorem dX1_buy_166 : decode cX1_buy 166 = .ok (.if_icmp .ge 32, 3) := by decide +kernel
theorem dX1_buy_169 : decode cX1_buy 169 = .ok (.aload_n 0, 1) := by decide +kernel
theorem dX1_buy_170 : decode cX1_buy 170 = .ok (.getfield 20, 3) := by decide +kernel
theorem dX1_buy_173 : decode cX1_buy 173 = .ok (.iload 5, 2) := by decide +kernel
theorem dX1_buy_175 : decode cX1_buy 175 = .ok (.aload_n 3, 1) := by decide +kernel
theorem dX1_buy_176 : decode cX1_buy 176 = .ok (.iload 5, 2) := by decide +kernel
theorem dX1_buy_178 : decode cX1_buy 178 = .ok (.iaload, 1) := by decide +kernel
theorem dX1_buy_179 : decode cX1_buy 179 = .ok (.iastore, 1) := by decide +kernel
theorem dX1_buy_180 : decode cX1_buy 180 = .ok (.aload_n 0, 1) := by decide +kernel
theorem dX1_buy_181 : decode cX1_buy 181 = .ok (.getfield 23, 3) := by decide +kernel
theorem dX1_buy_184 : decode cX1_buy 184 = .ok (.iload 5, 2) := by decide +kernel
theorem dX1_buy_186 : decode cX1_buy 186 = .ok (.aload 4, 2) := by decide +kernel
theorem dX1_buy_188 : decode cX1_buy 188 = .ok (.iload 5, 2) := by decide +kernel
theorem dX1_buy_190 : decode cX1_buy 190 = .ok (.iaload, 1) := by decide +kernel
theorem dX1_buy_191 : decode cX1_buy 191 = .ok (.iastore, 1) := by decide +kernel
theorem dX1_buy_192 : decode cX1_buy 192 = .ok (.iinc 5 1, 3) := by decide +kernel
theorem dX1_buy_195 : decode cX1_buy 195 = .ok (.goto (-33), 3) := by decide +kernel
theorem dX1_buy_198 : decode cX1_buy 198 = .ok (.iconst 3, 1) := by decide +kernel
theorem dX1_buy_199 : decode cX1_buy 199 = .ok (.ireturn, 1) := by decide +kernel
theorem dX1_buy_200 : decode cX1_buy 200 = .ok (.aload_n 0, 1) := by decide +kernel
theorem dX1_buy_201 : decode cX1_buy 201 = .ok (.iconst 0, 1) := by decide +kernel
theorem dX1_buy_202 : decode cX1_buy 202 = .ok (.putfield 98, 3) := by decide +kernel
theorem dX1_buy_205 : decode cX1_buy 205 = .ok (.aload_n 0, 1) := by decide +kernel
theorem dX1_buy_206 : decode cX1_buy 206 = .ok (.getfield 35, 3) := by decide +kernel
theorem dX1_buy_209 : decode cX1_buy 209 = .ok (.iload_n 1, 1) := by decide +kernel
theorem dX1_buy_210 : decode cX1_buy 210 = .ok (.dup2, 1) := by decide +kernel
theorem dX1_buy_211 : decode cX1_buy 211 = .ok (.iaload, 1) := by decide +kernel
theorem dX1_buy_212 : decode cX1_buy 212 = .ok (.iconst 1, 1) := by decide +kernel
theorem dX1_buy_213 : decode cX1_buy 213 = .ok (.isub, 1) := by decide +kernel
theorem dX1_buy_214 : decode cX1_buy 214 = .ok (.iastore, 1) := by decide +kernel
theorem dX1_buy_215 : decode cX1_buy 215 = .ok (.aload_n 0, 1) := by decide +kernel
theorem dX1_buy_216 : decode cX1_buy 216 = .ok (.iload_n 1, 1) := by decide +kernel
theorem dX1_buy_217 : decode cX1_buy 217 = .ok (.putfield 45, 3) := by decide +kernel
theorem dX1_buy_220 : decode cX1_buy 220 = .ok (.aload_n 0, 1) := by decide +kernel
theorem dX1_buy_221 : decode cX1_buy 221 = .ok (.aload_n 0, 1) := by decide +kernel
theorem dX1_buy_222 : decode cX1_buy 222 = .ok (.getfield 32, 3) := by decide +kernel
theorem dX1_buy_225 : decode cX1_buy 225 = .ok (.iload_n 1, 1) := by decide +kernel
theorem dX1_buy_226 : decode cX1_buy 226 = .ok (.iaload, 1) := by decide +kernel
theorem dX1_buy_227 : decode cX1_buy 227 = .ok (.putfield 113, 3) := by decide +kernel
theorem dX1_buy_230 : decode cX1_buy 230 = .ok (.aload_n 0, 1) := by decide +kernel
theorem dX1_buy_231 : decode cX1_buy 231 = .ok (.getfield 48, 3) := by decide +kernel
theorem dX1_buy_234 : decode cX1_buy 234 = .ok (.iconst 2, 1) := by decide +kernel
theorem dX1_buy_235 : decode cX1_buy 235 = .ok (.dup2, 1) := by decide +kernel
theorem dX1_buy_236 : decode cX1_buy 236 = .ok (.laload, 1) := by decide +kernel
theorem dX1_buy_237 : decode cX1_buy 237 = .ok (.iload_n 2, 1) := by decide +kernel
theorem dX1_buy_238 : decode cX1_buy 238 = .ok (.i2l, 1) := by decide +kernel
theorem dX1_buy_239 : decode cX1_buy 239 = .ok (.ladd, 1) := by decide +kernel
theorem dX1_buy_240 : decode cX1_buy 240 = .ok (.lastore, 1) := by decide +kernel
theorem dX1_buy_241 : decode cX1_buy 241 = .ok (.aload_n 0, 1) := by decide +kernel
theorem dX1_buy_242 : decode cX1_buy 242 = .ok (.getfield 48, 3) := by decide +kernel
theorem dX1_buy_245 : decode cX1_buy 245 = .ok (.bipush 7, 2) := by decide +kernel
theorem dX1_buy_247 : decode cX1_buy 247 = .ok (.dup2, 1) := by decide +kernel
theorem dX1_buy_248 : decode cX1_buy 248 = .ok (.laload, 1) := by decide +kernel
theorem dX1_buy_249 : decode cX1_buy 249 = .ok (.aload_n 0, 1) := by decide +kernel
theorem dX1_buy_250 : decode cX1_buy 250 = .ok (.getfield 113, 3) := by decide +kernel
theorem dX1_buy_253 : decode cX1_buy 253 = .ok (.i2l, 1) := by decide +kernel
theorem dX1_buy_254 : decode cX1_buy 254 = .ok (.ladd, 1) := by decide +kernel
theorem dX1_buy_255 : decode cX1_buy 255 = .ok (.lastore, 1) := by decide +kernel
theorem dX1_buy_256 : decode cX1_buy 256 = .ok (.aload_n 0, 1) := by decide +kernel
theorem dX1_buy_257 : decode cX1_buy 257 = .ok (.getfield 48, 3) := by decide +kernel
theorem dX1_buy_260 : decode cX1_buy 260 = .ok (.bipush 8, 2) := by decide +kernel
theorem dX1_buy_262 : decode cX1_buy 262 = .ok (.dup2, 1) := by decide +kernel
theorem dX1_buy_263 : decode cX1_buy 263 = .ok (.laload, 1) := by decide +kernel
theorem dX1_buy_264 : decode cX1_buy 264 = .ok (.lconst 1, 1) := by decide +kernel
theorem dX1_buy_265 : decode cX1_buy 265 = .ok (.ladd, 1) := by decide +kernel
theorem dX1_buy_266 : decode cX1_buy 266 = .ok (.lastore, 1) := by decide +kernel
theorem dX1_buy_267 : decode cX1_buy 267 = .ok (.aload_n 0, 1) := by decide +kernel
theorem dX1_buy_268 : decode cX1_buy 268 = .ok (.getfield 48, 3) := by decide +kernel
theorem dX1_buy_271 : decode cX1_buy 271 = .ok (.bipush 9, 2) := by decide +kernel
theorem dX1_buy_273 : decode cX1_buy 273 = .ok (.dup2, 1) := by decide +kernel
theorem dX1_buy_274 : decode cX1_buy 274 = .ok (.laload, 1) := by decide +kernel
theorem dX1_buy_275 : decode cX1_buy 275 = .ok (.iload_n 2, 1) := by decide +kernel
theorem dX1_buy_276 : decode cX1_buy 276 = .ok (.ifCond .ne 7, 3) := by decide +kernel
theorem dX1_buy_279 : decode cX1_buy 279 = .ok (.lconst 1, 1) := by decide +kernel
theorem dX1_buy_280 : decode cX1_buy 280 = .ok (.goto 4, 3) := by decide +kernel
theorem dX1_buy_283 : decode cX1_buy 283 = .ok (.lconst 0, 1) := by decide +kernel
theorem dX1_buy_284 : decode cX1_buy 284 = .ok (.ladd, 1) := by decide +kernel
theorem dX1_buy_285 : decode cX1_buy 285 = .ok (.lastore, 1) := by decide +kernel
theorem dX1_buy_286 : decode cX1_buy 286 = .ok (.iconst 0, 1) := by decide +kernel
theorem dX1_buy_287 : decode cX1_buy 287 = .ok (.ireturn, 1) := by decide +kernel
set_option maxRecDepth 20000 in
theorem ggX1_refund_X1_pay : GoodIn wsX1_refund wsX1_pay := goodIn_r _ [14, 15, 16, 17, 18, 19, 20, 13, 21, 22, 23, 24, 25, 26, 27, 28, 29, 30, 31, 32, 5, 6, 7, 8, 33, 34, 35, 36, 37, 38, 39, 40, 41, 42, 43, 44, 45, 46, 47, 48, 49, 50, 51] (by decide +kernel) (by decide +kernel)
set_option maxRecDepth 20000 in
theorem gX1_refund_X1_pay : GoodIn wsX1_refund (wsV RX1 110 RX1 yX1_pay wsX1_pay) := goodIn_app (goodIn_of _ (by decide +kernel)) ggX1_refund_X1_pay
theorem dX1_refund_0 : decode cX1_refund 0 = .ok (.aload_n 0, 1) := by decide +kernel
theorem dX1_refund_1 : decode cX1_refund 1 = .ok (.aload_n 0, 1) := by decide +kernel
theorem dX1_refund_2 : decode cX1_refund 2 = .ok (.getfield 45, 3) := by decide +kernel
theorem dX1_refund_5 : decode cX1_refund 5 = .ok (.iconst (-1), 1) := by decide +kernel
theorem dX1_refund_6 : decode cX1_refund 6 = .ok (.if_icmp .ne 7, 3) := by decide +kernel
theorem dX1_refund_9 : decode cX1_refund 9 = .ok (.iconst 1, 1) := by decide +kernel
theorem dX1_refund_10 : decode cX1_refund 10 = .ok (.goto 4, 3) := by decide +kernel
theorem dX1_refund_13 : decode cX1_refund 13 = .ok (.iconst 0, 1) := by decide +kernel
theorem dX1_refund_14 : decode cX1_refund 14 = .ok (.putfield 55, 3) := by decide +kernel
theorem dX1_refund_17 : decode cX1_refund 17 = .ok (.aload_n 0, 1) := by decide +kernel
theorem dX1_refund_18 : decode cX1_refund 18 = .ok (.getfield 55, 3) := by decide +kernel
theorem dX1_refund_21 : decode cX1_refund 21 = .ok (.ifCond .ne 14, 3) := by decide +kernel
theorem dX1_refund_24 : decode cX1_refund 24 = .ok (.aload_n 0, 1) := by decide +kernel
theorem dX1_refund_25 : decode cX1_refund 25 = .ok (.aload_n 0, 1) := by decide +kernel
theorem dX1_refund_26 : decode cX1_refund 26 = .ok (.getfield 113, 3) := by decide +kernel
theorem dX1_refund_29 : decode cX1_refund 29 = .ok (.invokevirtual 110, 3) := by decide +kernel
theorem dX1_refund_32 : decode cX1_refund 32 = .ok (.ifCond .ne 5, 3) := by decide +kernel
theorem dX1_refund_35 : decode cX1_refund 35 = .ok (.iconst 0, 1) := by decide +kernel
theorem dX1_refund_36 : decode cX1_refund 36 = .ok (.ireturn, 1) := by decide +kernel
theorem dX1_refund_37 : decode cX1_refund 37 = .ok (.aload_n 0, 1) := by decide +kernel
theorem dX1_refund_38 : decode cX1_refund 38 = .ok (.getfield 35, 3) := by decide +kernel
theorem dX1_refund_41 : decode cX1_refund 41 = .ok (.aload_n 0, 1) := by decide +kernel
theorem dX1_refund_42 : decode cX1_refund 42 = .ok (.getfield 45, 3) := by decide +kernel
theorem dX1_refund_45 : decode cX1_refund 45 = .ok (.bipush 99, 2) := by decide +kernel
theorem dX1_refund_47 : decode cX1_refund 47 = .ok (.aload_n 0, 1) := by decide +kernel
theorem dX1_refund_48 : decode cX1_refund 48 = .ok (.getfield 35, 3) := by decide +kernel
theorem dX1_refund_51 : decode cX1_refund 51 = .ok (.aload_n 0, 1) := by decide +kernel
theorem dX1_refund_52 : decode cX1_refund 52 = .ok (.getfield 45, 3) := by decide +kernel
theorem dX1_refund_55 : decode cX1_refund 55 = .ok (.iaload, 1) := by decide +kernel
theorem dX1_refund_56 : decode cX1_refund 56 = .ok (.iconst 1, 1) := by decide +kernel
theorem dX1_refund_57 : decode cX1_refund 57 = .ok (.iadd, 1) := by decide +kernel
theorem dX1_refund_58 : decode cX1_refund 58 = .ok (.invokestatic 72, 3) := by decide +kernel
theorem dX1_refund_61 : decode cX1_refund 61 = .ok (.iastore, 1) := by decide +kernel
theorem dX1_refund_62 : decode cX1_refund 62 = .ok (.aload_n 0, 1) := by decide +kernel
theorem dX1_refund_63 : decode cX1_refund 63 = .ok (.iconst (-1), 1) := by decide +kernel
theorem dX1_refund_64 : decode cX1_refund 64 = .ok (.putfield 45, 3) := by decide +kernel
theorem dX1_refund_67 : decode cX1_refund 67 = .ok (.aload_n 0, 1) := by decide +kernel
theorem dX1_refund_68 : decode cX1_refund 68 = .ok (.getfield 48, 3) := by decide +kernel
theorem dX1_refund_71 : decode cX1_refund 71 = .ok (.iconst 3, 1) := by decide +kernel
theorem dX1_refund_72 : decode cX1_refund 72 = .ok (.dup2, 1) := by decide +kernel
theorem dX1_refund_73 : decode cX1_refund 73 = .ok (.laload, 1) := by decide +kernel
theorem dX1_refund_74 : decode cX1_refund 74 = .ok (.aload_n 0, 1) := by decide +kernel
theorem dX1_refund_75 : decode cX1_refund 75 = .ok (.getfield 113, 3) := by decide +kernel
theorem dX1_refund_78 : decode cX1_refund 78 = .ok (.i2l, 1) := by decide +kernel
theorem dX1_refund_79 : decode cX1_refund 79 = .ok (.ladd, 1) := by decide +kernel
theorem dX1_refund_80 : decode cX1_refund 80 = .ok (.lastore, 1) := by decide +kernel
theorem dX1_refund_81 : decode cX1_refund 81 = .ok (.iconst 1, 1) := by decide +kernel
theorem dX1_refund_82 : decode cX1_refund 82 = .ok (.ireturn, 1) := by decide +kernel
set_option maxRecDepth 20000 in
theorem ggX1_credit_X1_creditNow : GoodIn wsX1_credit wsX1_creditNow := goodIn_r _ [6, 7, 8, 9, 10, 11, 12, 13, 14, 15, 16, 17, 18, 19, 20, 21, 22, 23, 24, 25, 26, 27, 28] (by decide +kernel) (by decide +kernel)
set_option maxRecDepth 20000 in
theorem gX1_credit_X1_creditNow : GoodIn wsX1_credit (wsV RX1 101 RX1 yX1_creditNow wsX1_creditNow) := goodIn_app (goodIn_of _ (by decide +kernel)) ggX1_credit_X1_creditNow
theorem dX1_credit_0 : decode cX1_credit 0 = .ok (.aload_n 0, 1) := by decide +kernel
theorem dX1_credit_1 : decode cX1_credit 1 = .ok (.iconst 0, 1) := by decide +kernel
theorem dX1_credit_2 : decode cX1_credit 2 = .ok (.putfield 55, 3) := by decide +kernel
theorem dX1_credit_5 : decode cX1_credit 5 = .ok (.aload_n 0, 1) := by decide +kernel
theorem dX1_credit_6 : decode cX1_credit 6 = .ok (.invokevirtual 101, 3) := by decide +kernel
theorem dX1_credit_9 : decode cX1_credit 9 = .ok (.ireturn, 1) := by decide +kernel
set_option maxRecDepth 20000 in
theorem ggX1_escrow_X1_fail : GoodIn wsX1_escrow wsX1_fail := goodIn_r _ [8, 1, 9, 10, 11, 12, 13, 14, 15, 16, 17, 18, 19, 20, 21, 22, 23, 24, 25, 26, 27] (by decide +kernel) (by decide +kernel)
set_option maxRecDepth 20000 in
theorem gX1_escrow_X1_fail : GoodIn wsX1_escrow (wsV RX1 64 RX1 yX1_fail wsX1_fail) := goodIn_app (goodIn_of _ (by decide +kernel)) ggX1_escrow_X1_fail
theorem dX1_escrow_0 : decode cX1_escrow 0 = .ok (.aload_n 0, 1) := by decide +kernel
theorem dX1_escrow_1 : decode cX1_escrow 1 = .ok (.iconst 0, 1) := by decide +kernel
theorem dX1_escrow_2 : decode cX1_escrow 2 = .ok (.putfield 55, 3) := by decide +kernel
theorem dX1_escrow_5 : decode cX1_escrow 5 = .ok (.iload_n 1, 1) := by decide +kernel
theorem dX1_escrow_6 : decode cX1_escrow 6 = .ok (.ifCond .lt 20, 3) := by decide +kernel
theorem dX1_escrow_9 : decode cX1_escrow 9 = .ok (.iload_n 1, 1) := by decide +kernel
theorem dX1_escrow_10 : decode cX1_escrow 10 = .ok (.aload_n 0, 1) := by decide +kernel
theorem dX1_escrow_11 : decode cX1_escrow 11 = .ok (.getfield 98, 3) := by decide +kernel
theorem dX1_escrow_14 : decode cX1_escrow 14 = .ok (.if_icmp .ge 12, 3) := by decide +kernel
theorem dX1_escrow_17 : decode cX1_escrow 17 = .ok (.aload_n 0, 1) := by decide +kernel
theorem dX1_escrow_18 : decode cX1_escrow 18 = .ok (.getfield 42, 3) := by decide +kernel
theorem dX1_escrow_21 : decode cX1_escrow 21 = .ok (.iload_n 1, 1) := by decide +kernel
theorem dX1_escrow_22 : decode cX1_escrow 22 = .ok (.iaload, 1) := by decide +kernel
theorem dX1_escrow_23 : decode cX1_escrow 23 = .ok (.goto 8, 3) := by decide +kernel
theorem dX1_escrow_26 : decode cX1_escrow 26 = .ok (.aload_n 0, 1) := by decide +kernel
theorem dX1_escrow_27 : decode cX1_escrow 27 = .ok (.iconst 1, 1) := by decide +kernel
theorem dX1_escrow_28 : decode cX1_escrow 28 = .ok (.invokevirtual 64, 3) := by decide +kernel
theorem dX1_escrow_31 : decode cX1_escrow 31 = .ok (.ireturn, 1) := by decide +kernel
theorem dX1_told_0 : decode cX1_told 0 = .ok (.iload_n 2, 1) := by decide +kernel
theorem dX1_told_1 : decode cX1_told 1 = .ok (.ifCond .ne 12, 3) := by decide +kernel
theorem dX1_told_4 : decode cX1_told 4 = .ok (.aload_n 0, 1) := by decide +kernel
theorem dX1_told_5 : decode cX1_told 5 = .ok (.getfield 9, 3) := by decide +kernel
theorem dX1_told_8 : decode cX1_told 8 = .ok (.iload_n 1, 1) := by decide +kernel
theorem dX1_told_9 : decode cX1_told 9 = .ok (.iaload, 1) := by decide +kernel
theorem dX1_told_10 : decode cX1_told 10 = .ok (.goto 37, 3) := by decide +kernel
theorem dX1_told_13 : decode cX1_told 13 = .ok (.iload_n 2, 1) := by decide +kernel
theorem dX1_told_14 : decode cX1_told 14 = .ok (.iconst 1, 1) := by decide +kernel
theorem dX1_told_15 : decode cX1_told 15 = .ok (.if_icmp .ne 12, 3) := by decide +kernel
theorem dX1_told_18 : decode cX1_told 18 = .ok (.aload_n 0, 1) := by decide +kernel
theorem dX1_told_19 : decode cX1_told 19 = .ok (.getfield 20, 3) := by decide +kernel
theorem dX1_told_22 : decode cX1_told 22 = .ok (.iload_n 1, 1) := by decide +kernel
theorem dX1_told_23 : decode cX1_told 23 = .ok (.iaload, 1) := by decide +kernel
theorem dX1_told_24 : decode cX1_told 24 = .ok (.goto 23, 3) := by decide +kernel
theorem dX1_told_27 : decode cX1_told 27 = .ok (.iload_n 2, 1) := by decide +kernel
theorem dX1_told_28 : decode cX1_told 28 = .ok (.iconst 2, 1) := by decide +kernel
theorem dX1_told_29 : decode cX1_told 29 = .ok (.if_icmp .ne 12, 3) := by decide +kernel
theorem dX1_told_32 : decode cX1_told 32 = .ok (.aload_n 0, 1) := by decide +kernel
theorem dX1_told_33 : decode cX1_told 33 = .ok (.getfield 23, 3) := by decide +kernel
theorem dX1_told_36 : decode cX1_told 36 = .ok (.iload_n 1, 1) := by decide +kernel
theorem dX1_told_37 : decode cX1_told 37 = .ok (.iaload, 1) := by decide +kernel
theorem dX1_told_38 : decode cX1_told 38 = .ok (.goto 9, 3) := by decide +kernel
theorem dX1_told_41 : decode cX1_told 41 = .ok (.aload_n 0, 1) := by decide +kernel
theorem dX1_told_42 : decode cX1_told 42 = .ok (.getfield 26, 3) := by decide +kernel
theorem dX1_told_45 : decode cX1_told 45 = .ok (.iload_n 1, 1) := by decide +kernel
theorem dX1_told_46 : decode cX1_told 46 = .ok (.iaload, 1) := by decide +kernel
theorem dX1_told_47 : decode cX1_told 47 = .ok (.ireturn, 1) := by decide +kernel
set_option maxRecDepth 20000 in
theorem ggX1_coins_X1_isKind : GoodIn wsX1_coins wsX1_isKind := goodIn_r _ [6, 7, 20, 21, 22, 23, 24, 25, 26, 27, 28, 29, 30, 31, 32, 33, 34, 35, 36, 37, 38] (by decide +kernel) (by decide +kernel)
set_option maxRecDepth 20000 in
theorem gX1_coins_X1_isKind : GoodIn wsX1_coins (wsV RX1 68 RX1 yX1_isKind wsX1_isKind) := goodIn_app (goodIn_of _ (by decide +kernel)) ggX1_coins_X1_isKind
set_option maxRecDepth 20000 in
theorem ggX1_coins_X1_told : GoodIn wsX1_coins wsX1_told := goodIn_r _ [11, 12, 13, 14, 15, 20, 21, 22, 23, 24, 25, 26, 27, 28, 29, 30, 31, 32, 33, 34, 35, 36, 37, 38] (by decide +kernel) (by decide +kernel)
set_option maxRecDepth 20000 in
theorem gX1_coins_X1_told : GoodIn wsX1_coins (wsV RX1 116 RX1 yX1_told wsX1_told) := goodIn_app (goodIn_of _ (by decide +kernel)) ggX1_coins_X1_told
set_option maxRecDepth 20000 in
theorem ggX1_coins_X1_fail : GoodIn wsX1_coins wsX1_fail := goodIn_r _ [19, 1, 20, 21, 22, 23, 24, 25, 26, 27, 28, 29, 30, 31, 32, 33, 34, 35, 36, 37, 38] (by decide +kernel) (by decide +kernel)
set_option maxRecDepth 20000 in
theorem gX1_coins_X1_fail : GoodIn wsX1_coins (wsV RX1 64 RX1 yX1_fail wsX1_fail) := goodIn_app (goodIn_of _ (by decide +kernel)) ggX1_coins_X1_fail
theorem dX1_coins_0 : decode cX1_coins 0 = .ok (.aload_n 0, 1) := by decide +kernel
theorem dX1_coins_1 : decode cX1_coins 1 = .ok (.iconst 0, 1) := by decide +kernel
theorem dX1_coins_2 : decode cX1_coins 2 = .ok (.putfield 55, 3) := by decide +kernel
theorem dX1_coins_5 : decode cX1_coins 5 = .ok (.aload_n 0, 1) := by decide +kernel
theorem dX1_coins_6 : decode cX1_coins 6 = .ok (.iload_n 1, 1) := by decide +kernel
theorem dX1_coins_7 : decode cX1_coins 7 = .ok (.invokevirtual 68, 3) := by decide +kernel
theorem dX1_coins_10 : decode cX1_coins 10 = .ok (.ifCond .eq 21, 3) := by decide +kernel
theorem dX1_coins_13 : decode cX1_coins 13 = .ok (.iload_n 2, 1) := by decide +kernel
theorem dX1_coins_14 : decode cX1_coins 14 = .ok (.ifCond .lt 17, 3) := by decide +kernel
theorem dX1_coins_17 : decode cX1_coins 17 = .ok (.iload_n 2, 1) := by decide +kernel
theorem dX1_coins_18 : decode cX1_coins 18 = .ok (.iconst 3, 1) := by decide +kernel
theorem dX1_coins_19 : decode cX1_coins 19 = .ok (.if_icmp .gt 12, 3) := by decide +kernel
theorem dX1_coins_22 : decode cX1_coins 22 = .ok (.aload_n 0, 1) := by decide +kernel
theorem dX1_coins_23 : decode cX1_coins 23 = .ok (.iload_n 1, 1) := by decide +kernel
theorem dX1_coins_24 : decode cX1_coins 24 = .ok (.iload_n 2, 1) := by decide +kernel
theorem dX1_coins_25 : decode cX1_coins 25 = .ok (.invokevirtual 116, 3) := by decide +kernel
theorem dX1_coins_28 : decode cX1_coins 28 = .ok (.goto 8, 3) := by decide +kernel
theorem dX1_coins_31 : decode cX1_coins 31 = .ok (.aload_n 0, 1) := by decide +kernel
theorem dX1_coins_32 : decode cX1_coins 32 = .ok (.iconst 1, 1) := by decide +kernel
theorem dX1_coins_33 : decode cX1_coins 33 = .ok (.invokevirtual 64, 3) := by decide +kernel
theorem dX1_coins_36 : decode cX1_coins 36 = .ok (.ireturn, 1) := by decide +kernel
set_option maxRecDepth 20000 in
theorem ggX1_fewest_X1_isAmount : GoodIn wsX1_fewest wsX1_isAmount := goodIn_r _ [5] (by decide +kernel) (by decide +kernel)
set_option maxRecDepth 20000 in
theorem gX1_fewest_X1_isAmount : GoodIn wsX1_fewest (va_wsS RX1 78 yX1_isAmount wsX1_isAmount) := goodIn_app (goodIn_of _ (by decide +kernel)) ggX1_fewest_X1_isAmount
set_option maxRecDepth 20000 in
theorem ggX1_fewest_X1_fail : GoodIn wsX1_fewest wsX1_fail := goodIn_r _ [9, 1, 23, 24, 25, 26, 27, 28, 29, 30, 31, 32, 33, 34, 35, 36, 37, 38, 39, 40, 41] (by decide +kernel) (by decide +kernel)
set_option maxRecDepth 20000 in
theorem gX1_fewest_X1_fail : GoodIn wsX1_fewest (wsV RX1 64 RX1 yX1_fail wsX1_fail) := goodIn_app (goodIn_of _ (by decide +kernel)) ggX1_fewest_X1_fail
set_option maxRecDepth 20000 in
theorem ggX1_fewest_X1_tabulate : GoodIn wsX1_fewest wsX1_tabulate := goodIn_r _ [13, 14, 15, 16, 17, 18, 23, 24, 25, 26, 27, 28, 29, 30, 31, 32, 33, 34, 35, 36, 37, 38, 39, 40, 41] (by decide +kernel) (by decide +kernel)
set_option maxRecDepth 20000 in
theorem gX1_fewest_X1_tabulate : GoodIn wsX1_fewest (wsV RX1 88 RX1 yX1_tabulate wsX1_tabulate) := goodIn_app (goodIn_of _ (by decide +kernel)) ggX1_fewest_X1_tabulate
set_option maxRecDepth 20000 in
theorem ggX1_fewest_X1_inAll : GoodIn wsX1_fewest wsX1_inAll := goodIn_r _ [22, 14, 15, 23, 24, 25, 26, 27, 28, 29, 30, 31, 32, 33, 34, 35, 36, 37, 38, 39, 40, 41] (by decide +kernel) (by decide +kernel)
set_option maxRecDepth 20000 in
theorem gX1_fewest_X1_inAll : GoodIn wsX1_fewest (wsV RX1 92 RX1 yX1_inAll wsX1_inAll) := goodIn_app (goodIn_of _ (by decide +kernel)) ggX1_fewest_X1_inAll
theorem dX1_fewest_0 : decode cX1_fewest 0 = .ok (.aload_n 0, 1) := by decide +kernel
theorem dX1_fewest_1 : decode cX1_fewest 1 = .ok (.iconst 0, 1) := by decide +kernel
theorem dX1_fewest_2 : decode cX1_fewest 2 = .ok (.putfield 55, 3) := by decide +kernel
theorem dX1_fewest_5 : decode cX1_fewest 5 = .ok (.iload_n 1, 1) := by decide +kernel
theorem dX1_fewest_6 : decode cX1_fewest 6 = .ok (.invokestatic 78, 3) := by decide +kernel
theorem dX1_fewest_9 : decode cX1_fewest 9 = .ok (.ifCond .ne 9, 3) := by decide +kernel
theorem dX1_fewest_12 : decode cX1_fewest 12 = .ok (.aload_n 0, 1) := by decide +kernel
theorem dX1_fewest_13 : decode cX1_fewest 13 = .ok (.iconst 1, 1) := by decide +kernel
theorem dX1_fewest_14 : decode cX1_fewest 14 = .ok (.invokevirtual 64, 3) := by decide +kernel
theorem dX1_fewest_17 : decode cX1_fewest 17 = .ok (.ireturn, 1) := by decide +kernel
theorem dX1_fewest_18 : decode cX1_fewest 18 = .ok (.aload_n 0, 1) := by decide +kernel
theorem dX1_fewest_19 : decode cX1_fewest 19 = .ok (.iload_n 1, 1) := by decide +kernel
theorem dX1_fewest_20 : decode cX1_fewest 20 = .ok (.invokevirtual 88, 3) := by decide +kernel
theorem dX1_fewest_23 : decode cX1_fewest 23 = .ok (.aload_n 0, 1) := by decide +kernel
theorem dX1_fewest_24 : decode cX1_fewest 24 = .ok (.iload_n 1, 1) := by decide +kernel
theorem dX1_fewest_25 : decode cX1_fewest 25 = .ok (.invokevirtual 92, 3) := by decide +kernel
theorem dX1_fewest_28 : decode cX1_fewest 28 = .ok (.ireturn, 1) := by decide +kernel
set_option maxRecDepth 20000 in
theorem ggX1_part_X1_isAmount : GoodIn wsX1_part wsX1_isAmount := goodIn_r _ [5] (by decide +kernel) (by decide +kernel)
set_option maxRecDepth 20000 in
theorem gX1_part_X1_isAmount : GoodIn wsX1_part (va_wsS RX1 78 yX1_isAmount wsX1_isAmount) := goodIn_app (goodIn_of _ (by decide +kernel)) ggX1_part_X1_isAmount
set_option maxRecDepth 20000 in
theorem ggX1_part_X1_fail : GoodIn wsX1_part wsX1_fail := goodIn_r _ [9, 1, 35, 36, 37, 38, 39, 40, 41, 42, 43, 44, 45, 46, 47, 48, 49, 50, 51, 52, 53] (by decide +kernel) (by decide +kernel)
set_option maxRecDepth 20000 in
theorem gX1_part_X1_fail : GoodIn wsX1_part (wsV RX1 64 RX1 yX1_fail wsX1_fail) := goodIn_app (goodIn_of _ (by decide +kernel)) ggX1_part_X1_fail
set_option maxRecDepth 20000 in
theorem ggX1_part_X1_isKind : GoodIn wsX1_part wsX1_isKind := goodIn_r _ [13, 14, 35, 36, 37, 38, 39, 40, 41, 42, 43, 44, 45, 46, 47, 48, 49, 50, 51, 52, 53] (by decide +kernel) (by decide +kernel)
set_option maxRecDepth 20000 in
theorem gX1_part_X1_isKind : GoodIn wsX1_part (wsV RX1 68 RX1 yX1_isKind wsX1_isKind) := goodIn_app (goodIn_of _ (by decide +kernel)) ggX1_part_X1_isKind
set_option maxRecDepth 20000 in
theorem ggX1_part_X1_tabulate : GoodIn wsX1_part wsX1_tabulate := goodIn_r _ [18, 19, 14, 20, 21, 22, 35, 36, 37, 38, 39, 40, 41, 42, 43, 44, 45, 46, 47, 48, 49, 50, 51, 52, 53] (by decide +kernel) (by decide +kernel)
set_option maxRecDepth 20000 in
theorem gX1_part_X1_tabulate : GoodIn wsX1_part (wsV RX1 88 RX1 yX1_tabulate wsX1_tabulate) := goodIn_app (goodIn_of _ (by decide +kernel)) ggX1_part_X1_tabulate
set_option maxRecDepth 20000 in
theorem ggX1_part_X1_inAll : GoodIn wsX1_part wsX1_inAll := goodIn_r _ [26, 19, 14, 35, 36, 37, 38, 39, 40, 41, 42, 43, 44, 45, 46, 47, 48, 49, 50, 51, 52, 53] (by decide +kernel) (by decide +kernel)
set_option maxRecDepth 20000 in
theorem gX1_part_X1_inAll : GoodIn wsX1_part (wsV RX1 92 RX1 yX1_inAll wsX1_inAll) := goodIn_app (goodIn_of _ (by decide +kernel)) ggX1_part_X1_inAll
set_option maxRecDepth 20000 in
theorem ggX1_part_X1_partOf : GoodIn wsX1_part wsX1_partOf := goodIn_r _ [30, 14, 20, 21, 22, 31, 32, 33, 34, 19, 35, 36, 37, 38, 39, 40, 41, 42, 43, 44, 45, 46, 47, 48, 49, 50, 51, 52, 53] (by decide +kernel) (by decide +kernel)
set_option maxRecDepth 20000 in
theorem gX1_part_X1_partOf : GoodIn wsX1_part (wsV RX1 95 RX1 yX1_partOf wsX1_partOf) := goodIn_app (goodIn_of _ (by decide +kernel)) ggX1_part_X1_partOf
theorem dX1_part_0 : decode cX1_part 0 = .ok (.aload_n 0, 1) := by decide +kernel
theorem dX1_part_1 : decode cX1_part 1 = .ok (.iconst 0, 1) := by decide +kernel
theorem dX1_part_2 : decode cX1_part 2 = .ok (.putfield 55, 3) := by decide +kernel
theorem dX1_part_5 : decode cX1_part 5 = .ok (.iload_n 1, 1) := by decide +kernel
theorem dX1_part_6 : decode cX1_part 6 = .ok (.invokestatic 78, 3) := by decide +kernel
theorem dX1_part_9 : decode cX1_part 9 = .ok (.ifCond .ne 9, 3) := by decide +kernel
theorem dX1_part_12 : decode cX1_part 12 = .ok (.aload_n 0, 1) := by decide +kernel
theorem dX1_part_13 : decode cX1_part 13 = .ok (.iconst 1, 1) := by decide +kernel
theorem dX1_part_14 : decode cX1_part 14 = .ok (.invokevirtual 64, 3) := by decide +kernel
theorem dX1_part_17 : decode cX1_part 17 = .ok (.ireturn, 1) := by decide +kernel
theorem dX1_part_18 : decode cX1_part 18 = .ok (.aload_n 0, 1) := by decide +kernel
theorem dX1_part_19 : decode cX1_part 19 = .ok (.iload_n 2, 1) := by decide +kernel
theorem dX1_part_20 : decode cX1_part 20 = .ok (.invokevirtual 68, 3) := by decide +kernel
theorem dX1_part_23 : decode cX1_part 23 = .ok (.ifCond .ne 9, 3) := by decide +kernel
theorem dX1_part_26 : decode cX1_part 26 = .ok (.aload_n 0, 1) := by decide +kernel
theorem dX1_part_27 : decode cX1_part 27 = .ok (.iconst 2, 1) := by decide +kernel
theorem dX1_part_28 : decode cX1_part 28 = .ok (.invokevirtual 64, 3) := by decide +kernel
theorem dX1_part_31 : decode cX1_part 31 = .ok (.ireturn, 1) := by decide +kernel
theorem dX1_part_32 : decode cX1_part 32 = .ok (.aload_n 0, 1) := by decide +kernel
theorem dX1_part_33 : decode cX1_part 33 = .ok (.iload_n 1, 1) := by decide +kernel
theorem dX1_part_34 : decode cX1_part 34 = .ok (.invokevirtual 88, 3) := by decide +kernel
theorem dX1_part_37 : decode cX1_part 37 = .ok (.aload_n 0, 1) := by decide +kernel
theorem dX1_part_38 : decode cX1_part 38 = .ok (.iload_n 1, 1) := by decide +kernel
theorem dX1_part_39 : decode cX1_part 39 = .ok (.invokevirtual 92, 3) := by decide +kernel
theorem dX1_part_42 : decode cX1_part 42 = .ok (.iconst (-1), 1) := by decide +kernel
theorem dX1_part_43 : decode cX1_part 43 = .ok (.if_icmp .ne 7, 3) := by decide +kernel
theorem dX1_part_46 : decode cX1_part 46 = .ok (.iconst (-1), 1) := by decide +kernel
theorem dX1_part_47 : decode cX1_part 47 = .ok (.goto 9, 3) := by decide +kernel
theorem dX1_part_50 : decode cX1_part 50 = .ok (.aload_n 0, 1) := by decide +kernel
theorem dX1_part_51 : decode cX1_part 51 = .ok (.iload_n 1, 1) := by decide +kernel
theorem dX1_part_52 : decode cX1_part 52 = .ok (.iload_n 2, 1) := by decide +kernel
theorem dX1_part_53 : decode cX1_part 53 = .ok (.invokevirtual 95, 3) := by decide +kernel
theorem dX1_part_56 : decode cX1_part 56 = .ok (.ireturn, 1) := by decide +kernel
set_option maxRecDepth 20000 in
theorem ggX1_below_X1_isAmount : GoodIn wsX1_below wsX1_isAmount := goodIn_r _ [5] (by decide +kernel) (by decide +kernel)
set_option maxRecDepth 20000 in
theorem gX1_below_X1_isAmount : GoodIn wsX1_below (va_wsS RX1 78 yX1_isAmount wsX1_isAmount) := goodIn_app (goodIn_of _ (by decide +kernel)) ggX1_below_X1_isAmount
set_option maxRecDepth 20000 in
theorem ggX1_below_X1_fail : GoodIn wsX1_below wsX1_fail := goodIn_r _ [9, 1, 23, 24, 25, 26, 27, 28, 29, 30, 31, 32, 33, 34, 35, 36, 37, 38, 39, 40, 41] (by decide +kernel) (by decide +kernel)
set_option maxRecDepth 20000 in
theorem gX1_below_X1_fail : GoodIn wsX1_below (wsV RX1 64 RX1 yX1_fail wsX1_fail) := goodIn_app (goodIn_of _ (by decide +kernel)) ggX1_below_X1_fail
set_option maxRecDepth 20000 in
theorem ggX1_below_X1_tabulate : GoodIn wsX1_below wsX1_tabulate := goodIn_r _ [13, 14, 15, 16, 17, 18, 23, 24, 25, 26, 27, 28, 29, 30, 31, 32, 33, 34, 35, 36, 37, 38, 39, 40, 41] (by decide +kernel) (by decide +kernel)
set_option maxRecDepth 20000 in
theorem gX1_below_X1_tabulate : GoodIn wsX1_below (wsV RX1 88 RX1 yX1_tabulate wsX1_tabulate) := goodIn_app (goodIn_of _ (by decide +kernel)) ggX1_below_X1_tabulate
set_option maxRecDepth 20000 in
theorem ggX1_below_X1_inAll : GoodIn wsX1_below wsX1_inAll := goodIn_r _ [22, 14, 15, 23, 24, 25, 26, 27, 28, 29, 30, 31, 32, 33, 34, 35, 36, 37, 38, 39, 40, 41] (by decide +kernel) (by decide +kernel)
set_option maxRecDepth 20000 in
theorem gX1_below_X1_inAll : GoodIn wsX1_below (wsV RX1 92 RX1 yX1_inAll wsX1_inAll) := goodIn_app (goodIn_of _ (by decide +kernel)) ggX1_below_X1_inAll
theorem dX1_below_0 : decode cX1_below 0 = .ok (.aload_n 0, 1) := by decide +kernel
theorem dX1_below_1 : decode cX1_below 1 = .ok (.iconst 0, 1) := by decide +kernel
theorem dX1_below_2 : decode cX1_below 2 = .ok (.putfield 55, 3) := by decide +kernel
theorem dX1_below_5 : decode cX1_below 5 = .ok (.iload_n 1, 1) := by decide +kernel
theorem dX1_below_6 : decode cX1_below 6 = .ok (.invokestatic 78, 3) := by decide +kernel
theorem dX1_below_9 : decode cX1_below 9 = .ok (.ifCond .ne 9, 3) := by decide +kernel
theorem dX1_below_12 : decode cX1_below 12 = .ok (.aload_n 0, 1) := by decide +kernel
theorem dX1_below_13 : decode cX1_below 13 = .ok (.iconst 1, 1) := by decide +kernel
theorem dX1_below_14 : decode cX1_below 14 = .ok (.invokevirtual 64, 3) := by decide +kernel
theorem dX1_below_17 : decode cX1_below 17 = .ok (.ireturn, 1) := by decide +kernel
theorem dX1_below_18 : decode cX1_below 18 = .ok (.aload_n 0, 1) := by decide +kernel
theorem dX1_below_19 : decode cX1_below 19 = .ok (.iload_n 1, 1) := by decide +kernel
theorem dX1_below_20 : decode cX1_below 20 = .ok (.invokevirtual 88, 3) := by decide +kernel
theorem dX1_below_23 : decode cX1_below 23 = .ok (.iload_n 1, 1) := by decide +kernel
theorem dX1_below_24 : decode cX1_below 24 = .ok (.istore_n 2, 1) := by decide +kernel
theorem dX1_below_25 : decode cX1_below 25 = .ok (.aload_n 0, 1) := by decide +kernel
theorem dX1_below_26 : decode cX1_below 26 = .ok (.iload_n 2, 1) := by decide +kernel
theorem dX1_below_27 : decode cX1_below 27 = .ok (.invokevirtual 92, 3) := by decide +kernel
theorem dX1_below_30 : decode cX1_below 30 = .ok (.iconst (-1), 1) := by decide +kernel
theorem dX1_below_31 : decode cX1_below 31 = .ok (.if_icmp .ne 9, 3) := by decide +kernel
theorem dX1_below_34 : decode cX1_below 34 = .ok (.iinc 2 (-1), 3) := by decide +kernel
theorem dX1_below_37 : decode cX1_below 37 = .ok (.goto (-12), 3) := by decide +kernel
theorem dX1_below_40 : decode cX1_below 40 = .ok (.iload_n 2, 1) := by decide +kernel
theorem dX1_below_41 : decode cX1_below 41 = .ok (.ireturn, 1) := by decide +kernel
theorem dX1_unitNow_0 : decode cX1_unitNow 0 = .ok (.iconst 0, 1) := by decide +kernel
theorem dX1_unitNow_1 : decode cX1_unitNow 1 = .ok (.istore_n 1, 1) := by decide +kernel
theorem dX1_unitNow_2 : decode cX1_unitNow 2 = .ok (.sipush 500, 3) := by decide +kernel
theorem dX1_unitNow_5 : decode cX1_unitNow 5 = .ok (.istore_n 2, 1) := by decide +kernel
theorem dX1_unitNow_6 : decode cX1_unitNow 6 = .ok (.iload_n 2, 1) := by decide +kernel
theorem dX1_unitNow_7 : decode cX1_unitNow 7 = .ok (.ifCond .le 68, 3) := by decide +kernel
theorem dX1_unitNow_10 : decode cX1_unitNow 10 = .ok (.aload_n 0, 1) := by decide +kernel
theorem dX1_unitNow_11 : decode cX1_unitNow 11 = .ok (.getfield 58, 3) := by decide +kernel
theorem dX1_unitNow_14 : decode cX1_unitNow 14 = .ok (.ifCond .le 61, 3) := by decide +kernel
theorem dX1_unitNow_17 : decode cX1_unitNow 17 = .ok (.iload_n 1, 1) := by decide +kernel
theorem dX1_unitNow_18 : decode cX1_unitNow 18 = .ok (.ifCond .ne 57, 3) := by decide +kernel
theorem dX1_unitNow_21 : decode cX1_unitNow 21 = .ok (.iconst 1, 1) := by decide +kernel
theorem dX1_unitNow_22 : decode cX1_unitNow 22 = .ok (.istore_n 3, 1) := by decide +kernel
theorem dX1_unitNow_23 : decode cX1_unitNow 23 = .ok (.iconst 0, 1) := by decide +kernel
theorem dX1_unitNow_24 : decode cX1_unitNow 24 = .ok (.istore 4, 2) := by decide +kernel
theorem dX1_unitNow_26 : decode cX1_unitNow 26 = .ok (.iload 4, 2) := by decide +kernel
theorem dX1_unitNow_28 : decode cX1_unitNow 28 = .ok (.aload_n 0, 1) := by decide +kernel
theorem dX1_unitNow_29 : decode cX1_unitNow 29 = .ok (.getfield 58, 3) := by decide +kernel
theorem dX1_unitNow_32 : decode cX1_unitNow 32 = .ok (.if_icmp .ge 31, 3) := by decide +kernel
theorem dX1_unitNow_35 : decode cX1_unitNow 35 = .ok (.iload_n 3, 1) := by decide +kernel
theorem dX1_unitNow_36 : decode cX1_unitNow 36 = .ok (.ifCond .eq 19, 3) := by decide +kernel
theorem dX1_unitNow_39 : decode cX1_unitNow 39 = .ok (.aload_n 0, 1) := by decide +kernel
theorem dX1_unitNow_40 : decode cX1_unitNow 40 = .ok (.getfield 9, 3) := by decide +kernel
theorem dX1_unitNow_43 : decode cX1_unitNow 43 = .ok (.iload 4, 2) := by decide +kernel
theorem dX1_unitNow_45 : decode cX1_unitNow 45 = .ok (.iaload, 1) := by decide +kernel
theorem dX1_unitNow_46 : decode cX1_unitNow 46 = .ok (.iload_n 2, 1) := by decide +kernel
theorem dX1_unitNow_47 : decode cX1_unitNow 47 = .ok (.irem, 1) := by decide +kernel
theorem dX1_unitNow_48 : decode cX1_unitNow 48 = .ok (.ifCond .ne 7, 3) := by decide +kernel
theorem dX1_unitNow_51 : decode cX1_unitNow 51 = .ok (.iconst 1, 1) := by decide +kernel
theorem dX1_unitNow_52 : decode cX1_unitNow 52 = .ok (.goto 4, 3) := by decide +kernel
theorem dX1_unitNow_55 : decode cX1_unitNow 55 = .ok (.iconst 0, 1) := by decide +kernel
theorem dX1_unitNow_56 : decode cX1_unitNow 56 = .ok (.istore_n 3, 1) := by decide +kernel
theorem dX1_unitNow_57 : decode cX1_unitNow 57 = .ok (.iinc 4 1, 3) := by decide +kernel
theorem dX1_unitNow_60 : decode cX1_unitNow 60 = .ok (.goto (-34), 3) := by decide +kernel
theorem dX1_unitNow_63 : decode cX1_unitNow 63 = .ok (.iload_n 3, 1) := by decide +kernel
theorem dX1_unitNow_64 : decode cX1_unitNow 64 = .ok (.ifCond .eq 5, 3) := by decide +kernel
theorem dX1_unitNow_67 : decode cX1_unitNow 67 = .ok (.iload_n 2, 1) := by decide +kernel
theorem dX1_unitNow_68 : decode cX1_unitNow 68 = .ok (.istore_n 1, 1) := by decide +kernel
theorem dX1_unitNow_69 : decode cX1_unitNow 69 = .ok (.iinc 2 (-1), 3) := by decide +kernel
theorem dX1_unitNow_72 : decode cX1_unitNow 72 = .ok (.goto (-66), 3) := by decide +kernel
theorem dX1_unitNow_75 : decode cX1_unitNow 75 = .ok (.iload_n 1, 1) := by decide +kernel
theorem dX1_unitNow_76 : decode cX1_unitNow 76 = .ok (.ireturn, 1) := by decide +kernel
set_option maxRecDepth 20000 in
theorem ggX1_gaps_X1_isAmount : GoodIn wsX1_gaps wsX1_isAmount := goodIn_r _ [5] (by decide +kernel) (by decide +kernel)
set_option maxRecDepth 20000 in
theorem gX1_gaps_X1_isAmount : GoodIn wsX1_gaps (va_wsS RX1 78 yX1_isAmount wsX1_isAmount) := goodIn_app (goodIn_of _ (by decide +kernel)) ggX1_gaps_X1_isAmount
set_option maxRecDepth 20000 in
theorem ggX1_gaps_X1_fail : GoodIn wsX1_gaps wsX1_fail := goodIn_r _ [9, 1, 27, 28, 29, 30, 31, 32, 33, 34, 35, 36, 37, 38, 39, 40, 41, 42, 43, 44, 45] (by decide +kernel) (by decide +kernel)
set_option maxRecDepth 20000 in
theorem gX1_gaps_X1_fail : GoodIn wsX1_gaps (wsV RX1 64 RX1 yX1_fail wsX1_fail) := goodIn_app (goodIn_of _ (by decide +kernel)) ggX1_gaps_X1_fail
set_option maxRecDepth 20000 in
theorem ggX1_gaps_X1_tabulate : GoodIn wsX1_gaps wsX1_tabulate := goodIn_r _ [13, 14, 15, 16, 17, 18, 27, 28, 29, 30, 31, 32, 33, 34, 35, 36, 37, 38, 39, 40, 41, 42, 43, 44, 45] (by decide +kernel) (by decide +kernel)
set_option maxRecDepth 20000 in
theorem gX1_gaps_X1_tabulate : GoodIn wsX1_gaps (wsV RX1 88 RX1 yX1_tabulate wsX1_tabulate) := goodIn_app (goodIn_of _ (by decide +kernel)) ggX1_gaps_X1_tabulate
set_option maxRecDepth 20000 in
theorem ggX1_gaps_X1_unitNow : GoodIn wsX1_gaps wsX1_unitNow := goodIn_r _ [22, 15, 16, 27, 28, 29, 30, 31, 32, 33, 34, 35, 36, 37, 38, 39, 40, 41, 42, 43, 44, 45] (by decide +kernel) (by decide +kernel)
set_option maxRecDepth 20000 in
theorem gX1_gaps_X1_unitNow : GoodIn wsX1_gaps (wsV RX1 119 RX1 yX1_unitNow wsX1_unitNow) := goodIn_app (goodIn_of _ (by decide +kernel)) ggX1_gaps_X1_unitNow
set_option maxRecDepth 20000 in
theorem ggX1_gaps_X1_inAll : GoodIn wsX1_gaps wsX1_inAll := goodIn_r _ [26, 14, 15, 27, 28, 29, 30, 31, 32, 33, 34, 35, 36, 37, 38, 39, 40, 41, 42, 43, 44, 45] (by decide +kernel) (by decide +kernel)
set_option maxRecDepth 20000 in
theorem gX1_gaps_X1_inAll : GoodIn wsX1_gaps (wsV RX1 92 RX1 yX1_inAll wsX1_inAll) := goodIn_app (goodIn_of _ (by decide +kernel)) ggX1_gaps_X1_inAll
theorem dX1_gaps_0 : decode cX1_gaps 0 = .ok (.aload_n 0, 1) := by decide +kernel
theorem dX1_gaps_1 : decode cX1_gaps 1 = .ok (.iconst 0, 1) := by decide +kernel
theorem dX1_gaps_2 : decode cX1_gaps 2 = .ok (.putfield 55, 3) := by decide +kernel
theorem dX1_gaps_5 : decode cX1_gaps 5 = .ok (.iload_n 1, 1) := by decide +kernel
theorem dX1_gaps_6 : decode cX1_gaps 6 = .ok (.invokestatic 78, 3) := by decide +kernel
theorem dX1_gaps_9 : decode cX1_gaps 9 = .ok (.ifCond .ne 9, 3) := by decide +kernel
theorem dX1_gaps_12 : decode cX1_gaps 12 = .ok (.aload_n 0, 1) := by decide +kernel
theorem dX1_gaps_13 : decode cX1_gaps 13 = .ok (.iconst 1, 1) := by decide +kernel
theorem dX1_gaps_14 : decode cX1_gaps 14 = .ok (.invokevirtual 64, 3) := by decide +kernel
theorem dX1_gaps_17 : decode cX1_gaps 17 = .ok (.ireturn, 1) := by decide +kernel
theorem dX1_gaps_18 : decode cX1_gaps 18 = .ok (.aload_n 0, 1) := by decide +kernel
theorem dX1_gaps_19 : decode cX1_gaps 19 = .ok (.iload_n 1, 1) := by decide +kernel
theorem dX1_gaps_20 : decode cX1_gaps 20 = .ok (.invokevirtual 88, 3) := by decide +kernel
theorem dX1_gaps_23 : decode cX1_gaps 23 = .ok (.aload_n 0, 1) := by decide +kernel
theorem dX1_gaps_24 : decode cX1_gaps 24 = .ok (.invokevirtual 119, 3) := by decide +kernel
theorem dX1_gaps_27 : decode cX1_gaps 27 = .ok (.istore_n 2, 1) := by decide +kernel
theorem dX1_gaps_28 : decode cX1_gaps 28 = .ok (.iconst 0, 1) := by decide +kernel
theorem dX1_gaps_29 : decode cX1_gaps 29 = .ok (.istore_n 3, 1) := by decide +kernel
theorem dX1_gaps_30 : decode cX1_gaps 30 = .ok (.iload_n 2, 1) := by decide +kernel
theorem dX1_gaps_31 : decode cX1_gaps 31 = .ok (.istore 4, 2) := by decide +kernel
theorem dX1_gaps_33 : decode cX1_gaps 33 = .ok (.iload 4, 2) := by decide +kernel
theorem dX1_gaps_35 : decode cX1_gaps 35 = .ok (.iload_n 1, 1) := by decide +kernel
theorem dX1_gaps_36 : decode cX1_gaps 36 = .ok (.if_icmp .gt 34, 3) := by decide +kernel
theorem dX1_gaps_39 : decode cX1_gaps 39 = .ok (.iload_n 2, 1) := by decide +kernel
theorem dX1_gaps_40 : decode cX1_gaps 40 = .ok (.ifCond .le 30, 3) := by decide +kernel
theorem dX1_gaps_43 : decode cX1_gaps 43 = .ok (.iload_n 3, 1) := by decide +kernel
theorem dX1_gaps_44 : decode cX1_gaps 44 = .ok (.aload_n 0, 1) := by decide +kernel
theorem dX1_gaps_45 : decode cX1_gaps 45 = .ok (.iload 4, 2) := by decide +kernel
theorem dX1_gaps_47 : decode cX1_gaps 47 = .ok (.invokevirtual 92, 3) := by decide +kernel
theorem dX1_gaps_50 : decode cX1_gaps 50 = .ok (.iconst (-1), 1) := by decide +kernel
theorem dX1_gaps_51 : decode cX1_gaps 51 = .ok (.if_icmp .ne 7, 3) := by decide +kernel
theorem dX1_gaps_54 : decode cX1_gaps 54 = .ok (.iconst 1, 1) := by decide +kernel
theorem dX1_gaps_55 : decode cX1_gaps 55 = .ok (.goto 4, 3) := by decide +kernel
theorem dX1_gaps_58 : decode cX1_gaps 58 = .ok (.iconst 0, 1) := by decide +kernel
theorem dX1_gaps_59 : decode cX1_gaps 59 = .ok (.iadd, 1) := by decide +kernel
theorem dX1_gaps_60 : decode cX1_gaps 60 = .ok (.istore_n 3, 1) := by decide +kernel
theorem dX1_gaps_61 : decode cX1_gaps 61 = .ok (.iload 4, 2) := by decide +kernel
theorem dX1_gaps_63 : decode cX1_gaps 63 = .ok (.iload_n 2, 1) := by decide +kernel
theorem dX1_gaps_64 : decode cX1_gaps 64 = .ok (.iadd, 1) := by decide +kernel
theorem dX1_gaps_65 : decode cX1_gaps 65 = .ok (.istore 4, 2) := by decide +kernel
theorem dX1_gaps_67 : decode cX1_gaps 67 = .ok (.goto (-34), 3) := by decide +kernel
theorem dX1_gaps_70 : decode cX1_gaps 70 = .ok (.iload_n 3, 1) := by decide +kernel
theorem dX1_gaps_71 : decode cX1_gaps 71 = .ok (.ireturn, 1) := by decide +kernel
set_option maxRecDepth 20000 in
theorem ggX1_unit_X1_unitNow : GoodIn wsX1_unit wsX1_unitNow := goodIn_r _ [6, 7, 8, 9, 10, 11, 12, 13, 14, 15, 16, 17, 18, 19, 20, 21, 22, 23, 24, 25, 26, 27] (by decide +kernel) (by decide +kernel)
set_option maxRecDepth 20000 in
theorem gX1_unit_X1_unitNow : GoodIn wsX1_unit (wsV RX1 119 RX1 yX1_unitNow wsX1_unitNow) := goodIn_app (goodIn_of _ (by decide +kernel)) ggX1_unit_X1_unitNow
theorem dX1_unit_0 : decode cX1_unit 0 = .ok (.aload_n 0, 1) := by decide +kernel
theorem dX1_unit_1 : decode cX1_unit 1 = .ok (.iconst 0, 1) := by decide +kernel
theorem dX1_unit_2 : decode cX1_unit 2 = .ok (.putfield 55, 3) := by decide +kernel
theorem dX1_unit_5 : decode cX1_unit 5 = .ok (.aload_n 0, 1) := by decide +kernel
theorem dX1_unit_6 : decode cX1_unit 6 = .ok (.invokevirtual 119, 3) := by decide +kernel
theorem dX1_unit_9 : decode cX1_unit 9 = .ok (.ireturn, 1) := by decide +kernel
set_option maxRecDepth 20000 in
theorem ggX1_lamp_X1_tabulate : GoodIn wsX1_lamp wsX1_tabulate := goodIn_r _ [12, 13, 3, 7, 14, 15, 20, 21, 22, 23, 24, 25, 26, 27, 28, 29, 30, 31, 32, 33, 34, 35, 36, 37, 38] (by decide +kernel) (by decide +kernel)
set_option maxRecDepth 20000 in
theorem gX1_lamp_X1_tabulate : GoodIn wsX1_lamp (wsV RX1 88 RX1 yX1_tabulate wsX1_tabulate) := goodIn_app (goodIn_of _ (by decide +kernel)) ggX1_lamp_X1_tabulate
set_option maxRecDepth 20000 in
theorem ggX1_lamp_X1_inAll : GoodIn wsX1_lamp wsX1_inAll := goodIn_r _ [19, 13, 3, 20, 21, 22, 23, 24, 25, 26, 27, 28, 29, 30, 31, 32, 33, 34, 35, 36, 37, 38] (by decide +kernel) (by decide +kernel)
set_option maxRecDepth 20000 in
theorem gX1_lamp_X1_inAll : GoodIn wsX1_lamp (wsV RX1 92 RX1 yX1_inAll wsX1_inAll) := goodIn_app (goodIn_of _ (by decide +kernel)) ggX1_lamp_X1_inAll
theorem dX1_lamp_0 : decode cX1_lamp 0 = .ok (.aload_n 0, 1) := by decide +kernel
theorem dX1_lamp_1 : decode cX1_lamp 1 = .ok (.iconst 0, 1) := by decide +kernel
theorem dX1_lamp_2 : decode cX1_lamp 2 = .ok (.putfield 55, 3) := by decide +kernel
theorem dX1_lamp_5 : decode cX1_lamp 5 = .ok (.aload_n 0, 1) := by decide +kernel
theorem dX1_lamp_6 : decode cX1_lamp 6 = .ok (.sipush 500, 3) := by decide +kernel
theorem dX1_lamp_9 : decode cX1_lamp 9 = .ok (.invokevirtual 88, 3) := by decide +kernel
theorem dX1_lamp_12 : decode cX1_lamp 12 = .ok (.iconst 0, 1) := by decide +kernel
theorem dX1_lamp_13 : decode cX1_lamp 13 = .ok (.istore_n 1, 1) := by decide +kernel
theorem dX1_lamp_14 : decode cX1_lamp 14 = .ok (.iconst 0, 1) := by decide +kernel
theorem dX1_lamp_15 : decode cX1_lamp 15 = .ok (.istore_n 2, 1) := by decide +kernel
theorem dX1_lamp_16 : decode cX1_lamp 16 = .ok (.iload_n 2, 1) := by decide +kernel
theorem dX1_lamp_17 : decode cX1_lamp 17 = .ok (.aload_n 0, 1) := by decide +kernel
theorem dX1_lamp_18 : decode cX1_lamp 18 = .ok (.getfield 61, 3) := by decide +kernel
theorem dX1_lamp_21 : decode cX1_lamp 21 = .ok (.if_icmp .ge 104, 3) := by decide +kernel
theorem dX1_lamp_24 : decode cX1_lamp 24 = .ok (.iconst 0, 1) := by decide +kernel
theorem dX1_lamp_25 : decode cX1_lamp 25 = .ok (.istore_n 3, 1) := by decide +kernel
theorem dX1_lamp_26 : decode cX1_lamp 26 = .ok (.iload_n 3, 1) := by decide +kernel
theorem dX1_lamp_27 : decode cX1_lamp 27 = .ok (.aload_n 0, 1) := by decide +kernel
theorem dX1_lamp_28 : decode cX1_lamp 28 = .ok (.getfield 58, 3) := by decide +kernel
theorem dX1_lamp_31 : decode cX1_lamp 31 = .ok (.if_icmp .ge 88, 3) := by decide +kernel
theorem dX1_lamp_34 : decode cX1_lamp 34 = .ok (.aload_n 0, 1) := by decide +kernel
theorem dX1_lamp_35 : decode cX1_lamp 35 = .ok (.getfield 35, 3) := by decide +kernel
theorem dX1_lamp_38 : decode cX1_lamp 38 = .ok (.iload_n 2, 1) := by decide +kernel
theorem dX1_lamp_39 : decode cX1_lamp 39 = .ok (.iaload, 1) := by decide +kernel
theorem dX1_lamp_40 : decode cX1_lamp 40 = .ok (.ifCond .eq 73, 3) := by decide +kernel
theorem dX1_lamp_43 : decode cX1_lamp 43 = .ok (.aload_n 0, 1) := by decide +kernel
theorem dX1_lamp_44 : decode cX1_lamp 44 = .ok (.getfield 16, 3) := by decide +kernel
theorem dX1_lamp_47 : decode cX1_lamp 47 = .ok (.iload_n 3, 1) := by decide +kernel
theorem dX1_lamp_48 : decode cX1_lamp 48 = .ok (.baload, 1) := by decide +kernel
theorem dX1_lamp_49 : decode cX1_lamp 49 = .ok (.ifCond .ne 6, 3) := by decide +kernel
theorem dX1_lamp_52 : decode cX1_lamp 52 = .ok (.goto 61, 3) := by decide +kernel
theorem dX1_lamp_55 : decode cX1_lamp 55 = .ok (.aload_n 0, 1) := by decide +kernel
theorem dX1_lamp_56 : decode cX1_lamp 56 = .ok (.getfield 32, 3) := by decide +kernel
theorem dX1_lamp_59 : decode cX1_lamp 59 = .ok (.iload_n 2, 1) := by decide +kernel
theorem dX1_lamp_60 : decode cX1_lamp 60 = .ok (.iaload, 1) := by decide +kernel
theorem dX1_lamp_61 : decode cX1_lamp 61 = .ok (.aload_n 0, 1) := by decide +kernel
theorem dX1_lamp_62 : decode cX1_lamp 62 = .ok (.getfield 9, 3) := by decide +kernel
theorem dX1_lamp_65 : decode cX1_lamp 65 = .ok (.iload_n 3, 1) := by decide +kernel
theorem dX1_lamp_66 : decode cX1_lamp 66 = .ok (.iaload, 1) := by decide +kernel
theorem dX1_lamp_67 : decode cX1_lamp 67 = .ok (.iadd, 1) := by decide +kernel
theorem dX1_lamp_68 : decode cX1_lamp 68 = .ok (.iconst 1, 1) := by decide +kernel
theorem dX1_lamp_69 : decode cX1_lamp 69 = .ok (.isub, 1) := by decide +kernel
theorem dX1_lamp_70 : decode cX1_lamp 70 = .ok (.aload_n 0, 1) := by decide +kernel
theorem dX1_lamp_71 : decode cX1_lamp 71 = .ok (.getfield 9, 3) := by decide +kernel
theorem dX1_lamp_74 : decode cX1_lamp 74 = .ok (.iload_n 3, 1) := by decide +kernel
theorem dX1_lamp_75 : decode cX1_lamp 75 = .ok (.iaload, 1) := by decide +kernel
theorem dX1_lamp_76 : decode cX1_lamp 76 = .ok (.idiv, 1) := by decide +kernel
theorem dX1_lamp_77 : decode cX1_lamp 77 = .ok (.istore 4, 2) := by decide +kernel
theorem dX1_lamp_79 : decode cX1_lamp 79 = .ok (.iload_n 1, 1) := by decide +kernel
theorem dX1_lamp_80 : decode cX1_lamp 80 = .ok (.ifCond .ne 27, 3) := by decide +kernel
theorem dX1_lamp_83 : decode cX1_lamp 83 = .ok (.aload_n 0, 1) := by decide +kernel
theorem dX1_lamp_84 : decode cX1_lamp 84 = .ok (.iload 4, 2) := by decide +kernel
theorem dX1_lamp_86 : decode cX1_lamp 86 = .ok (.aload_n 0, 1) := by decide +kernel
theorem dX1_lamp_87 : decode cX1_lamp 87 = .ok (.getfield 9, 3) := by decide +kernel
theorem dX1_lamp_90 : decode cX1_lamp 90 = .ok (.iload_n 3, 1) := by decide +kernel
theorem dX1_lamp_91 : decode cX1_lamp 91 = .ok (.iaload, 1) := by decide +kernel
theorem dX1_lamp_92 : decode cX1_lamp 92 = .ok (.imul, 1) := by decide +kernel
theorem dX1_lamp_93 : decode cX1_lamp 93 = .ok (.aload_n 0, 1) := by decide +kernel
theorem dX1_lamp_94 : decode cX1_lamp 94 = .ok (.getfield 32, 3) := by decide +kernel
theorem dX1_lamp_97 : decode cX1_lamp 97 = .ok (.iload_n 2, 1) := by decide +kernel
theorem dX1_lamp_98 : decode cX1_lamp 98 = .ok (.iaload, 1) := by decide +kernel
theorem dX1_lamp_99 : decode cX1_lamp 99 = .ok (.isub, 1) := by decide +kernel
theorem dX1_lamp_100 : decode cX1_lamp 100 = .ok (.invokevirtual 92, 3) := by decide +kernel
theorem dX1_lamp_103 : decode cX1_lamp 103 = .ok (.iconst (-1), 1) := by decide +kernel
theorem dX1_lamp_104 : decode cX1_lamp 104 = .ok (.if_icmp .ne 7, 3) := by decide +kernel
theorem dX1_lamp_107 : decode cX1_lamp 107 = .ok (.iconst 1, 1) := by decide +kernel
theorem dX1_lamp_108 : decode cX1_lamp 108 = .ok (.goto 4, 3) := by decide +kernel
theorem dX1_lamp_111 : decode cX1_lamp 111 = .ok (.iconst 0, 1) := by decide +kernel
theorem dX1_lamp_112 : decode cX1_lamp 112 = .ok (.istore_n 1, 1) := by decide +kernel
theorem dX1_lamp_113 : decode cX1_lamp 113 = .ok (.iinc 3 1, 3) := by decide +kernel
theorem dX1_lamp_116 : decode cX1_lamp 116 = .ok (.goto (-90), 3) := by decide +kernel
theorem dX1_lamp_119 : decode cX1_lamp 119 = .ok (.iinc 2 1, 3) := by decide +kernel
theorem dX1_lamp_122 : decode cX1_lamp 122 = .ok (.goto (-106), 3) := by decide +kernel
theorem dX1_lamp_125 : decode cX1_lamp 125 = .ok (.iload_n 1, 1) := by decide +kernel
theorem dX1_lamp_126 : decode cX1_lamp 126 = .ok (.ireturn, 1) := by decide +kernel
theorem dX1_audit_0 : decode cX1_audit 0 = .ok (.aload_n 0, 1) := by decide +kernel
theorem dX1_audit_1 : decode cX1_audit 1 = .ok (.iload_n 1, 1) := by decide +kernel
theorem dX1_audit_2 : decode cX1_audit 2 = .ok (.ifCond .lt 13, 3) := by decide +kernel
theorem dX1_audit_5 : decode cX1_audit 5 = .ok (.iload_n 1, 1) := by decide +kernel
theorem dX1_audit_6 : decode cX1_audit 6 = .ok (.bipush 10, 2) := by decide +kernel
theorem dX1_audit_8 : decode cX1_audit 8 = .ok (.if_icmp .ge 7, 3) := by decide +kernel
theorem dX1_audit_11 : decode cX1_audit 11 = .ok (.iconst 0, 1) := by decide +kernel
theorem dX1_audit_12 : decode cX1_audit 12 = .ok (.goto 4, 3) := by decide +kernel
theorem dX1_audit_15 : decode cX1_audit 15 = .ok (.iconst 1, 1) := by decide +kernel
theorem dX1_audit_16 : decode cX1_audit 16 = .ok (.putfield 55, 3) := by decide +kernel
theorem dX1_audit_19 : decode cX1_audit 19 = .ok (.aload_n 0, 1) := by decide +kernel
theorem dX1_audit_20 : decode cX1_audit 20 = .ok (.getfield 55, 3) := by decide +kernel
theorem dX1_audit_23 : decode cX1_audit 23 = .ok (.ifCond .ne 12, 3) := by decide +kernel
theorem dX1_audit_26 : decode cX1_audit 26 = .ok (.aload_n 0, 1) := by decide +kernel
theorem dX1_audit_27 : decode cX1_audit 27 = .ok (.getfield 48, 3) := by decide +kernel
theorem dX1_audit_30 : decode cX1_audit 30 = .ok (.iload_n 1, 1) := by decide +kernel
theorem dX1_audit_31 : decode cX1_audit 31 = .ok (.laload, 1) := by decide +kernel
theorem dX1_audit_32 : decode cX1_audit 32 = .ok (.goto 4, 3) := by decide +kernel
theorem dX1_audit_35 : decode cX1_audit 35 = .ok (.lconst 0, 1) := by decide +kernel
theorem dX1_audit_36 : decode cX1_audit 36 = .ok (.lreturn, 1) := by decide +kernel
theorem dX1_exactShare_0 : decode cX1_exactShare 0 = .ok (.aload_n 0, 1) := by decide +kernel
theorem dX1_exactShare_1 : decode cX1_exactShare 1 = .ok (.iconst 0, 1) := by decide +kernel
theorem dX1_exactShare_2 : decode cX1_exactShare 2 = .ok (.putfield 55, 3) := by decide +kernel
theorem dX1_exactShare_5 : decode cX1_exactShare 5 = .ok (.aload_n 0, 1) := by decide +kernel
theorem dX1_exactShare_6 : decode cX1_exactShare 6 = .ok (.getfield 48, 3) := by decide +kernel
theorem dX1_exactShare_9 : decode cX1_exactShare 9 = .ok (.bipush 8, 2) := by decide +kernel
theorem dX1_exactShare_11 : decode cX1_exactShare 11 = .ok (.laload, 1) := by decide +kernel
theorem dX1_exactShare_12 : decode cX1_exactShare 12 = .ok (.lconst 0, 1) := by decide +kernel
theorem dX1_exactShare_13 : decode cX1_exactShare 13 = .ok (.lcmp, 1) := by decide +kernel
theorem dX1_exactShare_14 : decode cX1_exactShare 14 = .ok (.ifCond .ne 7, 3) := by decide +kernel
theorem dX1_exactShare_17 : decode cX1_exactShare 17 = .ok (.dconst 1, 1) := by decide +kernel
theorem dX1_exactShare_18 : decode cX1_exactShare 18 = .ok (.goto 20, 3) := by decide +kernel
theorem dX1_exactShare_21 : decode cX1_exactShare 21 = .ok (.aload_n 0, 1) := by decide +kernel
theorem dX1_exactShare_22 : decode cX1_exactShare 22 = .ok (.getfield 48, 3) := by decide +kernel
theorem dX1_exactShare_25 : decode cX1_exactShare 25 = .ok (.bipush 9, 2) := by decide +kernel
theorem dX1_exactShare_27 : decode cX1_exactShare 27 = .ok (.laload, 1) := by decide +kernel
theorem dX1_exactShare_28 : decode cX1_exactShare 28 = .ok (.l2d, 1) := by decide +kernel
theorem dX1_exactShare_29 : decode cX1_exactShare 29 = .ok (.aload_n 0, 1) := by decide +kernel
theorem dX1_exactShare_30 : decode cX1_exactShare 30 = .ok (.getfield 48, 3) := by decide +kernel
theorem dX1_exactShare_33 : decode cX1_exactShare 33 = .ok (.bipush 8, 2) := by decide +kernel
theorem dX1_exactShare_35 : decode cX1_exactShare 35 = .ok (.laload, 1) := by decide +kernel
theorem dX1_exactShare_36 : decode cX1_exactShare 36 = .ok (.l2d, 1) := by decide +kernel
theorem dX1_exactShare_37 : decode cX1_exactShare 37 = .ok (.ddiv, 1) := by decide +kernel
theorem dX1_exactShare_38 : decode cX1_exactShare 38 = .ok (.dreturn, 1) := by decide +kernel
set_option maxRecDepth 20000 in
theorem ggX1_digest_X1_told : GoodIn wsX1_digest wsX1_told := goodIn_r _ [17, 18, 19, 20, 21, 22, 23, 24, 25, 26, 27, 28, 29, 30, 31, 32, 33, 34, 35, 36, 37, 38, 39, 40] (by decide +kernel) (by decide +kernel)
set_option maxRecDepth 20000 in
theorem gX1_digest_X1_told : GoodIn wsX1_digest (wsV RX1 116 RX1 yX1_told wsX1_told) := goodIn_app (goodIn_of _ (by decide +kernel)) ggX1_digest_X1_told
theorem dX1_digest_0 : decode cX1_digest 0 = .ok (.aload_n 0, 1) := by decide +kernel
theorem dX1_digest_1 : decode cX1_digest 1 = .ok (.iconst 0, 1) := by decide +kernel
theorem dX1_digest_2 : decode cX1_digest 2 = .ok (.putfield 55, 3) := by decide +kernel
theorem dX1_digest_5 : decode cX1_digest 5 = .ok (.ldc2_w 122, 3) := by decide +kernel
theorem dX1_digest_8 : decode cX1_digest 8 = .ok (.aload_n 0, 1) := by decide +kernel
theorem dX1_digest_9 : decode cX1_digest 9 = .ok (.getfield 58, 3) := by decide +kernel
theorem dX1_digest_12 : decode cX1_digest 12 = .ok (.i2l, 1) := by decide +kernel
theorem dX1_digest_13 : decode cX1_digest 13 = .ok (.ladd, 1) := by decide +kernel
theorem dX1_digest_14 : decode cX1_digest 14 = .ok (.lstore_n 1, 1) := by decide +kernel
theorem dX1_digest_15 : decode cX1_digest 15 = .ok (.iconst 0, 1) := by decide +kernel
theorem dX1_digest_16 : decode cX1_digest 16 = .ok (.istore_n 3, 1) := by decide +kernel
theorem dX1_digest_17 : decode cX1_digest 17 = .ok (.iload_n 3, 1) := by decide +kernel
theorem dX1_digest_18 : decode cX1_digest 18 = .ok (.aload_n 0, 1) := by decide +kernel
theorem dX1_digest_19 : decode cX1_digest 19 = .ok (.getfield 58, 3) := by decide +kernel
theorem dX1_digest_22 : decode cX1_digest 22 = .ok (.if_icmp .ge 60, 3) := by decide +kernel
theorem dX1_digest_25 : decode cX1_digest 25 = .ok (.iconst 0, 1) := by decide +kernel
theorem dX1_digest_26 : decode cX1_digest 26 = .ok (.istore 4, 2) := by decide +kernel
theorem dX1_digest_28 : decode cX1_digest 28 = .ok (.iload 4, 2) := by decide +kernel
theorem dX1_digest_30 : decode cX1_digest 30 = .ok (.iconst 4, 1) := by decide +kernel
theorem dX1_digest_31 : decode cX1_digest 31 = .ok (.if_icmp .ge 24, 3) := by decide +kernel
theorem dX1_digest_34 : decode cX1_digest 34 = .ok (.lload_n 1, 1) := by decide +kernel
theorem dX1_digest_35 : decode cX1_digest 35 = .ok (.ldc2_w 124, 3) := by decide +kernel
theorem dX1_digest_38 : decode cX1_digest 38 = .ok (.lmul, 1) := by decide +kernel
theorem dX1_digest_39 : decode cX1_digest 39 = .ok (.aload_n 0, 1) := by decide +kernel
theorem dX1_digest_40 : decode cX1_digest 40 = .ok (.iload_n 3, 1) := by decide +kernel
theorem dX1_digest_41 : decode cX1_digest 41 = .ok (.iload 4, 2) := by decide +kernel
theorem dX1_digest_43 : decode cX1_digest 43 = .ok (.invokevirtual 116, 3) := by decide +kernel
theorem dX1_digest_46 : decode cX1_digest 46 = .ok (.i2l, 1) := by decide +kernel
theorem dX1_digest_47 : decode cX1_digest 47 = .ok (.ladd, 1) := by decide +kernel
theorem dX1_digest_48 : decode cX1_digest 48 = .ok (.lstore_n 1, 1) := by decide +kernel
theorem dX1_digest_49 : decode cX1_digest 49 = .ok (.iinc 4 1, 3) := by decide +kernel
theorem dX1_digest_52 : decode cX1_digest 52 = .ok (.goto (-24), 3) := by decide +kernel
theorem dX1_digest_55 : decode cX1_digest 55 = .ok (.lload_n 1, 1) := by decide +kernel
theorem dX1_digest_56 : decode cX1_digest 56 = .ok (.ldc2_w 124, 3) := by decide +kernel
theorem dX1_digest_59 : decode cX1_digest 59 = .ok (.lmul, 1) := by decide +kernel
theorem dX1_digest_60 : decode cX1_digest 60 = .ok (.aload_n 0, 1) := by decide +kernel
theorem dX1_digest_61 : decode cX1_digest 61 = .ok (.getfield 16, 3) := by decide +kernel
theorem dX1_digest_64 : decode cX1_digest 64 = .ok (.iload_n 3, 1) := by decide +kernel
theorem dX1_digest_65 : decode cX1_digest 65 = .ok (.baload, 1) := by decide +kernel
theorem dX1_digest_66 : decode cX1_digest 66 = .ok (.ifCond .eq 7, 3) := by decide +kernel
theorem dX1_digest_69 : decode cX1_digest 69 = .ok (.lconst 1, 1) := by decide +kernel
theorem dX1_digest_70 : decode cX1_digest 70 = .ok (.goto 4, 3) := by decide +kernel
theorem dX1_digest_73 : decode cX1_digest 73 = .ok (.lconst 0, 1) := by decide +kernel
theorem dX1_digest_74 : decode cX1_digest 74 = .ok (.ladd, 1) := by decide +kernel
theorem dX1_digest_75 : decode cX1_digest 75 = .ok (.lstore_n 1, 1) := by decide +kernel
theorem dX1_digest_76 : decode cX1_digest 76 = .ok (.iinc 3 1, 3) := by decide +kernel
theorem dX1_digest_79 : decode cX1_digest 79 = .ok (.goto (-62), 3) := by decide +kernel
theorem dX1_digest_82 : decode cX1_digest 82 = .ok (.lload_n 1, 1) := by decide +kernel
theorem dX1_digest_83 : decode cX1_digest 83 = .ok (.ldc2_w 124, 3) := by decide +kernel
theorem dX1_digest_86 : decode cX1_digest 86 = .ok (.lmul, 1) := by decide +kernel
theorem dX1_digest_87 : decode cX1_digest 87 = .ok (.aload_n 0, 1) := by decide +kernel
theorem dX1_digest_88 : decode cX1_digest 88 = .ok (.getfield 38, 3) := by decide +kernel
theorem dX1_digest_91 : decode cX1_digest 91 = .ok (.i2l, 1) := by decide +kernel
theorem dX1_digest_92 : decode cX1_digest 92 = .ok (.ladd, 1) := by decide +kernel
theorem dX1_digest_93 : decode cX1_digest 93 = .ok (.ldc2_w 124, 3) := by decide +kernel
theorem dX1_digest_96 : decode cX1_digest 96 = .ok (.lmul, 1) := by decide +kernel
theorem dX1_digest_97 : decode cX1_digest 97 = .ok (.aload_n 0, 1) := by decide +kernel
theorem dX1_digest_98 : decode cX1_digest 98 = .ok (.getfield 61, 3) := by decide +kernel
theorem dX1_digest_101 : decode cX1_digest 101 = .ok (.i2l, 1) := by decide +kernel
theorem dX1_digest_102 : decode cX1_digest 102 = .ok (.ladd, 1) := by decide +kernel
theorem dX1_digest_103 : decode cX1_digest 103 = .ok (.lstore_n 1, 1) := by decide +kernel
theorem dX1_digest_104 : decode cX1_digest 104 = .ok (.iconst 0, 1) := by decide +kernel
theorem dX1_digest_105 : decode cX1_digest 105 = .ok (.istore_n 3, 1) := by decide +kernel
theorem dX1_digest_106 : decode cX1_digest 106 = .ok (.iload_n 3, 1) := by decide +kernel
theorem dX1_digest_107 : decode cX1_digest 107 = .ok (.aload_n 0, 1) := by decide +kernel
theorem dX1_digest_108 : decode cX1_digest 108 = .ok (.getfield 61, 3) := by decide +kernel
theorem dX1_digest_111 : decode cX1_digest 111 = .ok (.if_icmp .ge 35, 3) := by decide +kernel
theorem dX1_digest_114 : decode cX1_digest 114 = .ok (.lload_n 1, 1) := by decide +kernel
theorem dX1_digest_115 : decode cX1_digest 115 = .ok (.ldc2_w 124, 3) := by decide +kernel
theorem dX1_digest_118 : decode cX1_digest 118 = .ok (.lmul, 1) := by decide +kernel
theorem dX1_digest_119 : decode cX1_digest 119 = .ok (.aload_n 0, 1) := by decide +kernel
theorem dX1_digest_120 : decode cX1_digest 120 = .ok (.getfield 32, 3) := by decide +kernel
theorem dX1_digest_123 : decode cX1_digest 123 = .ok (.iload_n 3, 1) := by decide +kernel
theorem dX1_digest_124 : decode cX1_digest 124 = .ok (.iaload, 1) := by decide +kernel
theorem dX1_digest_125 : decode cX1_digest 125 = .ok (.i2l, 1) := by decide +kernel
theorem dX1_digest_126 : decode cX1_digest 126 = .ok (.ladd, 1) := by decide +kernel
theorem dX1_digest_127 : decode cX1_digest 127 = .ok (.ldc2_w 124, 3) := by decide +kernel
theorem dX1_digest_130 : decode cX1_digest 130 = .ok (.lmul, 1) := by decide +kernel
theorem dX1_digest_131 : decode cX1_digest 131 = .ok (.aload_n 0, 1) := by decide +kernel
theorem dX1_digest_132 : decode cX1_digest 132 = .ok (.getfield 35, 3) := by decide +kernel
theorem dX1_digest_135 : decode cX1_digest 135 = .ok (.iload_n 3, 1) := by decide +kernel
theorem dX1_digest_136 : decode cX1_digest 136 = .ok (.iaload, 1) := by decide +kernel
theorem dX1_digest_137 : decode cX1_digest 137 = .ok (.i2l, 1) := by decide +kernel
theorem dX1_digest_138 : decode cX1_digest 138 = .ok (.ladd, 1) := by decide +kernel
theorem dX1_digest_139 : decode cX1_digest 139 = .ok (.lstore_n 1, 1) := by decide +kernel
theorem dX1_digest_140 : decode cX1_digest 140 = .ok (.iinc 3 1, 3) := by decide +kernel
theorem dX1_digest_143 : decode cX1_digest 143 = .ok (.goto (-37), 3) := by decide +kernel
theorem dX1_digest_146 : decode cX1_digest 146 = .ok (.lload_n 1, 1) := by decide +kernel
theorem dX1_digest_147 : decode cX1_digest 147 = .ok (.ldc2_w 124, 3) := by decide +kernel
theorem dX1_digest_150 : decode cX1_digest 150 = .ok (.lmul, 1) := by decide +kernel
theorem dX1_digest_151 : decode cX1_digest 151 = .ok (.aload_n 0, 1) := by decide +kernel
theorem dX1_digest_152 : decode cX1_digest 152 = .ok (.getfield 98, 3) := by decide +kernel
theorem dX1_digest_155 : decode cX1_digest 155 = .ok (.i2l, 1) := by decide +kernel
theorem dX1_digest_156 : decode cX1_digest 156 = .ok (.ladd, 1) := by decide +kernel
theorem dX1_digest_157 : decode cX1_digest 157 = .ok (.lstore_n 1, 1) := by decide +kernel
theorem dX1_digest_158 : decode cX1_digest 158 = .ok (.iconst 0, 1) := by decide +kernel
theorem dX1_digest_159 : decode cX1_digest 159 = .ok (.istore_n 3, 1) := by decide +kernel
theorem dX1_digest_160 : decode cX1_digest 160 = .ok (.iload_n 3, 1) := by decide +kernel
theorem dX1_digest_161 : decode cX1_digest 161 = .ok (.aload_n 0, 1) := by decide +kernel
theorem dX1_digest_162 : decode cX1_digest 162 = .ok (.getfield 98, 3) := by decide +kernel
theorem dX1_digest_165 : decode cX1_digest 165 = .ok (.if_icmp .ge 23, 3) := by decide +kernel
theorem dX1_digest_168 : decode cX1_digest 168 = .ok (.lload_n 1, 1) := by decide +kernel
theorem dX1_digest_169 : decode cX1_digest 169 = .ok (.ldc2_w 124, 3) := by decide +kernel
theorem dX1_digest_172 : decode cX1_digest 172 = .ok (.lmul, 1) := by decide +kernel
theorem dX1_digest_173 : decode cX1_digest 173 = .ok (.aload_n 0, 1) := by decide +kernel
theorem dX1_digest_174 : decode cX1_digest 174 = .ok (.getfield 42, 3) := by decide +kernel
theorem dX1_digest_177 : decode cX1_digest 177 = .ok (.iload_n 3, 1) := by decide +kernel
theorem dX1_digest_178 : decode cX1_digest 178 = .ok (.iaload, 1) := by decide +kernel
theorem dX1_digest_179 : decode cX1_digest 179 = .ok (.i2l, 1) := by decide +kernel
theorem dX1_digest_180 : decode cX1_digest 180 = .ok (.ladd, 1) := by decide +kernel
theorem dX1_digest_181 : decode cX1_digest 181 = .ok (.lstore_n 1, 1) := by decide +kernel
theorem dX1_digest_182 : decode cX1_digest 182 = .ok (.iinc 3 1, 3) := by decide +kernel
theorem dX1_digest_185 : decode cX1_digest 185 = .ok (.goto (-25), 3) := by decide +kernel
theorem dX1_digest_188 : decode cX1_digest 188 = .ok (.aload_n 0, 1) := by decide +kernel
theorem dX1_digest_189 : decode cX1_digest 189 = .ok (.getfield 48, 3) := by decide +kernel
theorem dX1_digest_192 : decode cX1_digest 192 = .ok (.astore_n 3, 1) := by decide +kernel
theorem dX1_digest_193 : decode cX1_digest 193 = .ok (.aload_n 3, 1) := by decide +kernel
theorem dX1_digest_194 : decode cX1_digest 194 = .ok (.arraylength, 1) := by decide +kernel
theorem dX1_digest_195 : decode cX1_digest 195 = .ok (.istore 4, 2) := by decide +kernel
theorem dX1_digest_197 : decode cX1_digest 197 = .ok (.iconst 0, 1) := by decide +kernel
theorem dX1_digest_198 : decode cX1_digest 198 = .ok (.istore 5, 2) := by decide +kernel
theorem dX1_digest_200 : decode cX1_digest 200 = .ok (.iload 5, 2) := by decide +kernel
theorem dX1_digest_202 : decode cX1_digest 202 = .ok (.iload 4, 2) := by decide +kernel
theorem dX1_digest_204 : decode cX1_digest 204 = .ok (.if_icmp .ge 24, 3) := by decide +kernel
theorem dX1_digest_207 : decode cX1_digest 207 = .ok (.aload_n 3, 1) := by decide +kernel
theorem dX1_digest_208 : decode cX1_digest 208 = .ok (.iload 5, 2) := by decide +kernel
theorem dX1_digest_210 : decode cX1_digest 210 = .ok (.laload, 1) := by decide +kernel
theorem dX1_digest_211 : decode cX1_digest 211 = .ok (.lstore 6, 2) := by decide +kernel
theorem dX1_digest_213 : decode cX1_digest 213 = .ok (.lload_n 1, 1) := by decide +kernel
theorem dX1_digest_214 : decode cX1_digest 214 = .ok (.ldc2_w 124, 3) := by decide +kernel
theorem dX1_digest_217 : decode cX1_digest 217 = .ok (.lmul, 1) := by decide +kernel
theorem dX1_digest_218 : decode cX1_digest 218 = .ok (.lload 6, 2) := by decide +kernel
theorem dX1_digest_220 : decode cX1_digest 220 = .ok (.ladd, 1) := by decide +kernel
theorem dX1_digest_221 : decode cX1_digest 221 = .ok (.lstore_n 1, 1) := by decide +kernel
theorem dX1_digest_222 : decode cX1_digest 222 = .ok (.iinc 5 1, 3) := by decide +kernel
theorem dX1_digest_225 : decode cX1_digest 225 = .ok (.goto (-25), 3) := by decide +kernel
theorem dX1_digest_228 : decode cX1_digest 228 = .ok (.lload_n 1, 1) := by decide +kernel
theorem dX1_digest_229 : decode cX1_digest 229 = .ok (.lreturn, 1) := by decide +kernel
theorem dJ9_max_f86c9_0 : decode cJ9_max_f86c9 0 = .ok (.lload_n 0, 1) := by decide +kernel
theorem dJ9_max_f86c9_1 : decode cJ9_max_f86c9 1 = .ok (.lload_n 2, 1) := by decide +kernel
theorem dJ9_max_f86c9_2 : decode cJ9_max_f86c9 2 = .ok (.lcmp, 1) := by decide +kernel
theorem dJ9_max_f86c9_3 : decode cJ9_max_f86c9 3 = .ok (.ifCond .lt 7, 3) := by decide +kernel
theorem dJ9_max_f86c9_6 : decode cJ9_max_f86c9 6 = .ok (.lload_n 0, 1) := by decide +kernel
theorem dJ9_max_f86c9_7 : decode cJ9_max_f86c9 7 = .ok (.goto 4, 3) := by decide +kernel
theorem dJ9_max_f86c9_10 : decode cJ9_max_f86c9 10 = .ok (.lload_n 2, 1) := by decide +kernel
theorem dJ9_max_f86c9_11 : decode cJ9_max_f86c9 11 = .ok (.lreturn, 1) := by decide +kernel
theorem dJ9_min_7cf53_0 : decode cJ9_min_7cf53 0 = .ok (.iload_n 0, 1) := by decide +kernel
theorem dJ9_min_7cf53_1 : decode cJ9_min_7cf53 1 = .ok (.iload_n 1, 1) := by decide +kernel
theorem dJ9_min_7cf53_2 : decode cJ9_min_7cf53 2 = .ok (.if_icmp .gt 7, 3) := by decide +kernel
theorem dJ9_min_7cf53_5 : decode cJ9_min_7cf53 5 = .ok (.iload_n 0, 1) := by decide +kernel
theorem dJ9_min_7cf53_6 : decode cJ9_min_7cf53 6 = .ok (.goto 4, 3) := by decide +kernel
theorem dJ9_min_7cf53_9 : decode cJ9_min_7cf53 9 = .ok (.iload_n 1, 1) := by decide +kernel
theorem dJ9_min_7cf53_10 : decode cJ9_min_7cf53 10 = .ok (.ireturn, 1) := by decide +kernel
end
section
set_option maxRecDepth 20000 in
theorem ggL_addKind_X0_addKind : GoodIn wsL_addKind wsX0_addKind := goodIn_ca (goodIn_ca (goodIn_r _ [7, 8, 9, 10, 11, 12, 13, 14, 15, 16, 17, 18, 6, 19, 20, 21, 22, 23, 24, 25, 26, 27, 28, 29, 30, 31, 32, 33, 34, 35, 36, 37] (by decide +kernel) (by decide +kernel)) (goodIn_sub (fun _ h => List.mem_cons_of_mem _ (List.mem_append_left _ (List.mem_append_right _ h))) (by decide +kernel))) (goodIn_sub (fun _ h => List.mem_cons_of_mem _ (List.mem_append_right _ h)) (by decide +kernel))
set_option maxRecDepth 20000 in
theorem gL_addKind_X0_addKind : GoodIn wsL_addKind (wsV RL 7 RX0 yX0_addKind wsX0_addKind) := goodIn_app (goodIn_of _ (by decide +kernel)) ggL_addKind_X0_addKind
theorem dL_addKind_0 : decode cL_addKind 0 = .ok (.aload_n 3, 1) := by decide +kernel
theorem dL_addKind_1 : decode cL_addKind 1 = .ok (.iconst 0, 1) := by decide +kernel
theorem dL_addKind_2 : decode cL_addKind 2 = .ok (.aload_n 0, 1) := by decide +kernel
theorem dL_addKind_3 : decode cL_addKind 3 = .ok (.iload_n 1, 1) := by decide +kernel
theorem dL_addKind_4 : decode cL_addKind 4 = .ok (.iload_n 2, 1) := by decide +kernel
theorem dL_addKind_5 : decode cL_addKind 5 = .ok (.invokevirtual 7, 3) := by decide +kernel
theorem dL_addKind_8 : decode cL_addKind 8 = .ok (.i2l, 1) := by decide +kernel
theorem dL_addKind_9 : decode cL_addKind 9 = .ok (.lastore, 1) := by decide +kernel
theorem dL_addKind_10 : decode cL_addKind 10 = .ok (.goto 11, 3) := by decide +kernel
theorem dL_addKind_13 : decode cL_addKind 13 = .ok (.astore 4, 2) := by decide +kernel
theorem dL_addKind_15 : decode cL_addKind 15 = .ok (.iconst 1, 1) := by decide +kernel
theorem dL_addKind_16 : decode cL_addKind 16 = .ok (.ireturn, 1) := by decide +kernel
theorem dL_addKind_17 : decode cL_addKind 17 = .ok (.astore 4, 2) := by decide +kernel
theorem dL_addKind_19 : decode cL_addKind 19 = .ok (.iconst 2, 1) := by decide +kernel
theorem dL_addKind_20 : decode cL_addKind 20 = .ok (.ireturn, 1) := by decide +kernel
theorem dL_addKind_21 : decode cL_addKind 21 = .ok (.iconst 0, 1) := by decide +kernel
theorem dL_addKind_22 : decode cL_addKind 22 = .ok (.ireturn, 1) := by decide +kernel
set_option maxRecDepth 20000 in
theorem ggL_fill_X0_fill : GoodIn wsL_fill wsX0_fill := goodIn_ca (goodIn_ca (goodIn_r _ [7, 8, 9, 10, 11, 12, 13, 14, 15, 16, 17, 18, 6, 19, 20, 21, 22, 23, 24, 25, 26, 27, 28, 29, 30, 31, 32, 33, 34, 35, 36, 37, 38, 39, 40, 41, 42, 43, 44, 45] (by decide +kernel) (by decide +kernel)) (goodIn_sub (fun _ h => List.mem_cons_of_mem _ (List.mem_append_left _ (List.mem_append_right _ h))) (by decide +kernel))) (goodIn_sub (fun _ h => List.mem_cons_of_mem _ (List.mem_append_right _ h)) (by decide +kernel))
set_option maxRecDepth 20000 in
theorem gL_fill_X0_fill : GoodIn wsL_fill (wsV RL 17 RX0 yX0_fill wsX0_fill) := goodIn_app (goodIn_of _ (by decide +kernel)) ggL_fill_X0_fill
theorem dL_fill_0 : decode cL_fill 0 = .ok (.aload_n 3, 1) := by decide +kernel
theorem dL_fill_1 : decode cL_fill 1 = .ok (.iconst 0, 1) := by decide +kernel
theorem dL_fill_2 : decode cL_fill 2 = .ok (.aload_n 0, 1) := by decide +kernel
theorem dL_fill_3 : decode cL_fill 3 = .ok (.iload_n 1, 1) := by decide +kernel
theorem dL_fill_4 : decode cL_fill 4 = .ok (.iload_n 2, 1) := by decide +kernel
theorem dL_fill_5 : decode cL_fill 5 = .ok (.invokevirtual 17, 3) := by decide +kernel
theorem dL_fill_8 : decode cL_fill 8 = .ok (.i2l, 1) := by decide +kernel
theorem dL_fill_9 : decode cL_fill 9 = .ok (.lastore, 1) := by decide +kernel
theorem dL_fill_10 : decode cL_fill 10 = .ok (.goto 11, 3) := by decide +kernel
theorem dL_fill_13 : decode cL_fill 13 = .ok (.astore 4, 2) := by decide +kernel
theorem dL_fill_15 : decode cL_fill 15 = .ok (.iconst 1, 1) := by decide +kernel
theorem dL_fill_16 : decode cL_fill 16 = .ok (.ireturn, 1) := by decide +kernel
theorem dL_fill_17 : decode cL_fill 17 = .ok (.astore 4, 2) := by decide +kernel
theorem dL_fill_19 : decode cL_fill 19 = .ok (.iconst 2, 1) := by decide +kernel
theorem dL_fill_20 : decode cL_fill 20 = .ok (.ireturn, 1) := by decide +kernel
theorem dL_fill_21 : decode cL_fill 21 = .ok (.iconst 0, 1) := by decide +kernel
theorem dL_fill_22 : decode cL_fill 22 = .ok (.ireturn, 1) := by decide +kernel
set_option maxRecDepth 20000 in
theorem ggL_take_X0_take : GoodIn wsL_take wsX0_take := goodIn_ca (goodIn_ca (goodIn_r _ [7, 8, 9, 10, 11, 12, 13, 14, 15, 16, 17, 6, 18, 19, 20, 21, 22, 23, 24, 25, 26, 27, 28, 29, 30, 31, 32, 33, 34, 35, 36, 37, 38, 39, 40, 41, 42, 43, 44] (by decide +kernel) (by decide +kernel)) (goodIn_sub (fun _ h => List.mem_cons_of_mem _ (List.mem_append_left _ (List.mem_append_right _ h))) (by decide +kernel))) (goodIn_sub (fun _ h => List.mem_cons_of_mem _ (List.mem_append_right _ h)) (by decide +kernel))
set_option maxRecDepth 20000 in
theorem gL_take_X0_take : GoodIn wsL_take (wsV RL 22 RX0 yX0_take wsX0_take) := goodIn_app (goodIn_of _ (by decide +kernel)) ggL_take_X0_take
theorem dL_take_0 : decode cL_take 0 = .ok (.aload_n 3, 1) := by decide +kernel
theorem dL_take_1 : decode cL_take 1 = .ok (.iconst 0, 1) := by decide +kernel
theorem dL_take_2 : decode cL_take 2 = .ok (.aload_n 0, 1) := by decide +kernel
theorem dL_take_3 : decode cL_take 3 = .ok (.iload_n 1, 1) := by decide +kernel
theorem dL_take_4 : decode cL_take 4 = .ok (.iload_n 2, 1) := by decide +kernel
theorem dL_take_5 : decode cL_take 5 = .ok (.invokevirtual 22, 3) := by decide +kernel
theorem dL_take_8 : decode cL_take 8 = .ok (.i2l, 1) := by decide +kernel
theorem dL_take_9 : decode cL_take 9 = .ok (.lastore, 1) := by decide +kernel
theorem dL_take_10 : decode cL_take 10 = .ok (.goto 11, 3) := by decide +kernel
theorem dL_take_13 : decode cL_take 13 = .ok (.astore 4, 2) := by decide +kernel
theorem dL_take_15 : decode cL_take 15 = .ok (.iconst 1, 1) := by decide +kernel
theorem dL_take_16 : decode cL_take 16 = .ok (.ireturn, 1) := by decide +kernel
theorem dL_take_17 : decode cL_take 17 = .ok (.astore 4, 2) := by decide +kernel
theorem dL_take_19 : decode cL_take 19 = .ok (.iconst 2, 1) := by decide +kernel
theorem dL_take_20 : decode cL_take 20 = .ok (.ireturn, 1) := by decide +kernel
theorem dL_take_21 : decode cL_take 21 = .ok (.iconst 0, 1) := by decide +kernel
theorem dL_take_22 : decode cL_take 22 = .ok (.ireturn, 1) := by decide +kernel
set_option maxRecDepth 20000 in
theorem ggL_accept_X0_accept : GoodIn wsL_accept wsX0_accept := goodIn_ca (goodIn_r _ [6, 7, 8, 9, 10, 5, 11, 12, 13, 14, 15, 16, 17, 18, 19, 20, 21, 22, 23, 24, 25, 26, 27, 28, 29, 30, 31, 32] (by decide +kernel) (by decide +kernel)) (goodIn_sub (fun _ h => List.mem_cons_of_mem _ (List.mem_append_right _ h)) (by decide +kernel))
set_option maxRecDepth 20000 in
theorem gL_accept_X0_accept : GoodIn wsL_accept (wsV RL 25 RX0 yX0_accept wsX0_accept) := goodIn_app (goodIn_of _ (by decide +kernel)) ggL_accept_X0_accept
theorem dL_accept_0 : decode cL_accept 0 = .ok (.aload_n 3, 1) := by decide +kernel
theorem dL_accept_1 : decode cL_accept 1 = .ok (.iconst 0, 1) := by decide +kernel
theorem dL_accept_2 : decode cL_accept 2 = .ok (.aload_n 0, 1) := by decide +kernel
theorem dL_accept_3 : decode cL_accept 3 = .ok (.iload_n 1, 1) := by decide +kernel
theorem dL_accept_4 : decode cL_accept 4 = .ok (.iload_n 2, 1) := by decide +kernel
theorem dL_accept_5 : decode cL_accept 5 = .ok (.invokevirtual 25, 3) := by decide +kernel
theorem dL_accept_8 : decode cL_accept 8 = .ok (.ifCond .eq 7, 3) := by decide +kernel
theorem dL_accept_11 : decode cL_accept 11 = .ok (.lconst 1, 1) := by decide +kernel
theorem dL_accept_12 : decode cL_accept 12 = .ok (.goto 4, 3) := by decide +kernel
theorem dL_accept_15 : decode cL_accept 15 = .ok (.lconst 0, 1) := by decide +kernel
theorem dL_accept_16 : decode cL_accept 16 = .ok (.lastore, 1) := by decide +kernel
theorem dL_accept_17 : decode cL_accept 17 = .ok (.goto 7, 3) := by decide +kernel
theorem dL_accept_20 : decode cL_accept 20 = .ok (.astore 4, 2) := by decide +kernel
theorem dL_accept_22 : decode cL_accept 22 = .ok (.iconst 1, 1) := by decide +kernel
theorem dL_accept_23 : decode cL_accept 23 = .ok (.ireturn, 1) := by decide +kernel
theorem dL_accept_24 : decode cL_accept 24 = .ok (.iconst 0, 1) := by decide +kernel
theorem dL_accept_25 : decode cL_accept 25 = .ok (.ireturn, 1) := by decide +kernel
set_option maxRecDepth 20000 in
theorem ggL_setLimit_X0_setLimit : GoodIn wsL_setLimit wsX0_setLimit := goodIn_ca (goodIn_r _ [6, 7, 8, 9, 10, 11, 12, 13, 14, 15, 16, 17, 18, 19, 20, 21, 22, 23, 24, 25, 26, 27] (by decide +kernel) (by decide +kernel)) (goodIn_sub (fun _ h => List.mem_cons_of_mem _ (List.mem_append_right _ h)) (by decide +kernel))
set_option maxRecDepth 20000 in
theorem gL_setLimit_X0_setLimit : GoodIn wsL_setLimit (wsV RL 29 RX0 yX0_setLimit wsX0_setLimit) := goodIn_app (goodIn_of _ (by decide +kernel)) ggL_setLimit_X0_setLimit
theorem dL_setLimit_0 : decode cL_setLimit 0 = .ok (.aload_n 2, 1) := by decide +kernel
theorem dL_setLimit_1 : decode cL_setLimit 1 = .ok (.iconst 0, 1) := by decide +kernel
theorem dL_setLimit_2 : decode cL_setLimit 2 = .ok (.aload_n 0, 1) := by decide +kernel
theorem dL_setLimit_3 : decode cL_setLimit 3 = .ok (.iload_n 1, 1) := by decide +kernel
theorem dL_setLimit_4 : decode cL_setLimit 4 = .ok (.invokevirtual 29, 3) := by decide +kernel
theorem dL_setLimit_7 : decode cL_setLimit 7 = .ok (.i2l, 1) := by decide +kernel
theorem dL_setLimit_8 : decode cL_setLimit 8 = .ok (.lastore, 1) := by decide +kernel
theorem dL_setLimit_9 : decode cL_setLimit 9 = .ok (.goto 6, 3) := by decide +kernel
theorem dL_setLimit_12 : decode cL_setLimit 12 = .ok (.astore_n 3, 1) := by decide +kernel
theorem dL_setLimit_13 : decode cL_setLimit 13 = .ok (.iconst 1, 1) := by decide +kernel
theorem dL_setLimit_14 : decode cL_setLimit 14 = .ok (.ireturn, 1) := by decide +kernel
theorem dL_setLimit_15 : decode cL_setLimit 15 = .ok (.iconst 0, 1) := by decide +kernel
theorem dL_setLimit_16 : decode cL_setLimit 16 = .ok (.ireturn, 1) := by decide +kernel
set_option maxRecDepth 20000 in
theorem ggL_addProduct_X0_addProduct : GoodIn wsL_addProduct wsX0_addProduct := goodIn_ca (goodIn_ca (goodIn_r _ [7, 8, 9, 10, 11, 12, 13, 14, 6, 15, 16, 17, 18, 19, 20, 21, 22, 23, 24, 25, 26, 27, 28, 29, 30, 31, 32, 33, 34, 35] (by decide +kernel) (by decide +kernel)) (goodIn_sub (fun _ h => List.mem_cons_of_mem _ (List.mem_append_left _ (List.mem_append_right _ h))) (by decide +kernel))) (goodIn_sub (fun _ h => List.mem_cons_of_mem _ (List.mem_append_right _ h)) (by decide +kernel))
set_option maxRecDepth 20000 in
theorem gL_addProduct_X0_addProduct : GoodIn wsL_addProduct (wsV RL 33 RX0 yX0_addProduct wsX0_addProduct) := goodIn_app (goodIn_of _ (by decide +kernel)) ggL_addProduct_X0_addProduct
theorem dL_addProduct_0 : decode cL_addProduct 0 = .ok (.aload_n 3, 1) := by decide +kernel
theorem dL_addProduct_1 : decode cL_addProduct 1 = .ok (.iconst 0, 1) := by decide +kernel
theorem dL_addProduct_2 : decode cL_addProduct 2 = .ok (.aload_n 0, 1) := by decide +kernel
theorem dL_addProduct_3 : decode cL_addProduct 3 = .ok (.iload_n 1, 1) := by decide +kernel
theorem dL_addProduct_4 : decode cL_addProduct 4 = .ok (.iload_n 2, 1) := by decide +kernel
theorem dL_addProduct_5 : decode cL_addProduct 5 = .ok (.invokevirtual 33, 3) := by decide +kernel
theorem dL_addProduct_8 : decode cL_addProduct 8 = .ok (.i2l, 1) := by decide +kernel
theorem dL_addProduct_9 : decode cL_addProduct 9 = .ok (.lastore, 1) := by decide +kernel
theorem dL_addProduct_10 : decode cL_addProduct 10 = .ok (.goto 11, 3) := by decide +kernel
theorem dL_addProduct_13 : decode cL_addProduct 13 = .ok (.astore 4, 2) := by decide +kernel
theorem dL_addProduct_15 : decode cL_addProduct 15 = .ok (.iconst 1, 1) := by decide +kernel
theorem dL_addProduct_16 : decode cL_addProduct 16 = .ok (.ireturn, 1) := by decide +kernel
theorem dL_addProduct_17 : decode cL_addProduct 17 = .ok (.astore 4, 2) := by decide +kernel
theorem dL_addProduct_19 : decode cL_addProduct 19 = .ok (.iconst 2, 1) := by decide +kernel
theorem dL_addProduct_20 : decode cL_addProduct 20 = .ok (.ireturn, 1) := by decide +kernel
theorem dL_addProduct_21 : decode cL_addProduct 21 = .ok (.iconst 0, 1) := by decide +kernel
theorem dL_addProduct_22 : decode cL_addProduct 22 = .ok (.ireturn, 1) := by decide +kernel
set_option maxRecDepth 20000 in
theorem ggL_setProduct_X0_setProduct : GoodIn wsL_setProduct wsX0_setProduct := goodIn_ca (goodIn_ca (goodIn_r _ [7, 8, 9, 10, 11, 12, 6, 13, 14, 15, 16, 17, 18, 19, 20, 21, 22, 23, 24, 25, 26, 27, 28, 29, 30, 31, 32, 33, 34, 35, 36, 37, 38, 39] (by decide +kernel) (by decide +kernel)) (goodIn_sub (fun _ h => List.mem_cons_of_mem _ (List.mem_append_left _ (List.mem_append_right _ h))) (by decide +kernel))) (goodIn_sub (fun _ h => List.mem_cons_of_mem _ (List.mem_append_right _ h)) (by decide +kernel))
set_option maxRecDepth 20000 in
theorem gL_setProduct_X0_setProduct : GoodIn wsL_setProduct (wsV RL 36 RX0 yX0_setProduct wsX0_setProduct) := goodIn_app (goodIn_of _ (by decide +kernel)) ggL_setProduct_X0_setProduct
theorem dL_setProduct_0 : decode cL_setProduct 0 = .ok (.aload 4, 2) := by decide +kernel
theorem dL_setProduct_2 : decode cL_setProduct 2 = .ok (.iconst 0, 1) := by decide +kernel
theorem dL_setProduct_3 : decode cL_setProduct 3 = .ok (.aload_n 0, 1) := by decide +kernel
theorem dL_setProduct_4 : decode cL_setProduct 4 = .ok (.iload_n 1, 1) := by decide +kernel
theorem dL_setProduct_5 : decode cL_setProduct 5 = .ok (.iload_n 2, 1) := by decide +kernel
theorem dL_setProduct_6 : decode cL_setProduct 6 = .ok (.iload_n 3, 1) := by decide +kernel
theorem dL_setProduct_7 : decode cL_setProduct 7 = .ok (.invokevirtual 36, 3) := by decide +kernel
theorem dL_setProduct_10 : decode cL_setProduct 10 = .ok (.i2l, 1) := by decide +kernel
theorem dL_setProduct_11 : decode cL_setProduct 11 = .ok (.lastore, 1) := by decide +kernel
theorem dL_setProduct_12 : decode cL_setProduct 12 = .ok (.goto 11, 3) := by decide +kernel
theorem dL_setProduct_15 : decode cL_setProduct 15 = .ok (.astore 5, 2) := by decide +kernel
theorem dL_setProduct_17 : decode cL_setProduct 17 = .ok (.iconst 1, 1) := by decide +kernel
theorem dL_setProduct_18 : decode cL_setProduct 18 = .ok (.ireturn, 1) := by decide +kernel
theorem dL_setProduct_19 : decode cL_setProduct 19 = .ok (.astore 5, 2) := by decide +kernel
theorem dL_setProduct_21 : decode cL_setProduct 21 = .ok (.iconst 2, 1) := by decide +kernel
theorem dL_setProduct_22 : decode cL_setProduct 22 = .ok (.ireturn, 1) := by decide +kernel
theorem dL_setProduct_23 : decode cL_setProduct 23 = .ok (.iconst 0, 1) := by decide +kernel
theorem dL_setProduct_24 : decode cL_setProduct 24 = .ok (.ireturn, 1) := by decide +kernel
set_option maxRecDepth 20000 in
theorem ggL_product_X0_product : GoodIn wsL_product wsX0_product := goodIn_ca (goodIn_r _ [6, 7, 8, 9, 10, 11, 5, 12, 13, 14, 15, 16, 17, 18, 19, 20, 21, 22, 23, 24, 25, 26, 27, 28, 29, 30, 31, 32, 33] (by decide +kernel) (by decide +kernel)) (goodIn_sub (fun _ h => List.mem_cons_of_mem _ (List.mem_append_right _ h)) (by decide +kernel))
set_option maxRecDepth 20000 in
theorem gL_product_X0_product : GoodIn wsL_product (wsV RL 40 RX0 yX0_product wsX0_product) := goodIn_app (goodIn_of _ (by decide +kernel)) ggL_product_X0_product
theorem dL_product_0 : decode cL_product 0 = .ok (.aload_n 3, 1) := by decide +kernel
theorem dL_product_1 : decode cL_product 1 = .ok (.iconst 0, 1) := by decide +kernel
theorem dL_product_2 : decode cL_product 2 = .ok (.aload_n 0, 1) := by decide +kernel
theorem dL_product_3 : decode cL_product 3 = .ok (.iload_n 1, 1) := by decide +kernel
theorem dL_product_4 : decode cL_product 4 = .ok (.iload_n 2, 1) := by decide +kernel
theorem dL_product_5 : decode cL_product 5 = .ok (.invokevirtual 40, 3) := by decide +kernel
theorem dL_product_8 : decode cL_product 8 = .ok (.i2l, 1) := by decide +kernel
theorem dL_product_9 : decode cL_product 9 = .ok (.lastore, 1) := by decide +kernel
theorem dL_product_10 : decode cL_product 10 = .ok (.goto 7, 3) := by decide +kernel
theorem dL_product_13 : decode cL_product 13 = .ok (.astore 4, 2) := by decide +kernel
theorem dL_product_15 : decode cL_product 15 = .ok (.iconst 1, 1) := by decide +kernel
theorem dL_product_16 : decode cL_product 16 = .ok (.ireturn, 1) := by decide +kernel
theorem dL_product_17 : decode cL_product 17 = .ok (.iconst 0, 1) := by decide +kernel
theorem dL_product_18 : decode cL_product 18 = .ok (.ireturn, 1) := by decide +kernel
set_option maxRecDepth 20000 in
theorem ggL_insert_X0_insert : GoodIn wsL_insert wsX0_insert := goodIn_ca (goodIn_r _ [6, 7, 8, 9, 10, 11, 12, 13, 14, 15, 5, 16, 17, 18, 19, 20, 21, 22, 23, 24, 25, 26, 27, 28, 29, 30, 31, 32, 33, 34, 35, 36, 37, 38, 39, 40, 41, 42, 43, 44, 45] (by decide +kernel) (by decide +kernel)) (goodIn_sub (fun _ h => List.mem_cons_of_mem _ (List.mem_append_right _ h)) (by decide +kernel))
set_option maxRecDepth 20000 in
theorem gL_insert_X0_insert : GoodIn wsL_insert (wsV RL 44 RX0 yX0_insert wsX0_insert) := goodIn_app (goodIn_of _ (by decide +kernel)) ggL_insert_X0_insert
theorem dL_insert_0 : decode cL_insert 0 = .ok (.aload_n 2, 1) := by decide +kernel
theorem dL_insert_1 : decode cL_insert 1 = .ok (.iconst 0, 1) := by decide +kernel
theorem dL_insert_2 : decode cL_insert 2 = .ok (.aload_n 0, 1) := by decide +kernel
theorem dL_insert_3 : decode cL_insert 3 = .ok (.iload_n 1, 1) := by decide +kernel
theorem dL_insert_4 : decode cL_insert 4 = .ok (.invokevirtual 44, 3) := by decide +kernel
theorem dL_insert_7 : decode cL_insert 7 = .ok (.i2l, 1) := by decide +kernel
theorem dL_insert_8 : decode cL_insert 8 = .ok (.lastore, 1) := by decide +kernel
theorem dL_insert_9 : decode cL_insert 9 = .ok (.goto 6, 3) := by decide +kernel
theorem dL_insert_12 : decode cL_insert 12 = .ok (.astore_n 3, 1) := by decide +kernel
theorem dL_insert_13 : decode cL_insert 13 = .ok (.iconst 1, 1) := by decide +kernel
theorem dL_insert_14 : decode cL_insert 14 = .ok (.ireturn, 1) := by decide +kernel
theorem dL_insert_15 : decode cL_insert 15 = .ok (.iconst 0, 1) := by decide +kernel
theorem dL_insert_16 : decode cL_insert 16 = .ok (.ireturn, 1) := by decide +kernel
set_option maxRecDepth 20000 in
theorem ggL_buy_X0_buy : GoodIn wsL_buy wsX0_buy := goodIn_ca (goodIn_r _ [6, 7, 8, 9, 10, 11, 12, 13, 14, 15, 5, 16, 17, 18, 19, 20, 21, 22, 23, 24, 25, 26, 27, 28, 29, 30, 31, 32, 33, 34, 35, 36, 37, 38, 39, 40, 41, 42, 43, 44, 45, 46, 47, 48, 49, 50, 51, 52, 53, 54, 55, 56, 57, 58, 59, 60, 61, 62, 63, 64, 65, 66, 67, 68, 69, 70, 71, 72, 73, 74, 75, 76, 77, 78, 79, 80, 81, 82, 83, 84, 85, 86, 87, 88, 89, 90, 91, 92, 93, 94, 95, 96, 97, 98, 99, 100, 101, 102, 103, 104] (by decide +kernel) (by decide +kernel)) (goodIn_sub (fun _ h => List.mem_cons_of_mem _ (List.mem_append_right _ h)) (by decide +kernel))
set_option maxRecDepth 20000 in
theorem gL_buy_X0_buy : GoodIn wsL_buy (wsV RL 47 RX0 yX0_buy wsX0_buy) := goodIn_app (goodIn_of _ (by decide +kernel)) ggL_buy_X0_buy
theorem dL_buy_0 : decode cL_buy 0 = .ok (.aload_n 2, 1) := by decide +kernel
theorem dL_buy_1 : decode cL_buy 1 = .ok (.iconst 0, 1) := by decide +kernel
theorem dL_buy_2 : decode cL_buy 2 = .ok (.aload_n 0, 1) := by decide +kernel
theorem dL_buy_3 : decode cL_buy 3 = .ok (.iload_n 1, 1) := by decide +kernel
theorem dL_buy_4 : decode cL_buy 4 = .ok (.invokevirtual 47, 3) := by decide +kernel
theorem dL_buy_7 : decode cL_buy 7 = .ok (.i2l, 1) := by decide +kernel
theorem dL_buy_8 : decode cL_buy 8 = .ok (.lastore, 1) := by decide +kernel
theorem dL_buy_9 : decode cL_buy 9 = .ok (.goto 6, 3) := by decide +kernel
theorem dL_buy_12 : decode cL_buy 12 = .ok (.astore_n 3, 1) := by decide +kernel
theorem dL_buy_13 : decode cL_buy 13 = .ok (.iconst 1, 1) := by decide +kernel
theorem dL_buy_14 : decode cL_buy 14 = .ok (.ireturn, 1) := by decide +kernel
theorem dL_buy_15 : decode cL_buy 15 = .ok (.iconst 0, 1) := by decide +kernel
theorem dL_buy_16 : decode cL_buy 16 = .ok (.ireturn, 1) := by decide +kernel
set_option maxRecDepth 20000 in
theorem ggL_refund_X0_refund : GoodIn wsL_refund wsX0_refund := goodIn_ca (goodIn_r _ [6, 7, 8, 9, 10, 11, 12, 13, 14, 15, 16, 17, 18, 19, 20, 21, 22, 5, 23, 24, 25, 26, 27, 28, 29, 30, 31, 32, 33, 34, 35, 36, 37, 38, 39, 40, 41, 42, 43, 44, 45, 46, 47, 48, 49, 50, 51, 52, 53, 54, 55, 56, 57, 58, 59, 60, 61, 62, 63, 64, 65, 66, 67, 68, 69, 70, 71, 72, 73, 74] (by decide +kernel) (by decide +kernel)) (goodIn_sub (fun _ h => List.mem_cons_of_mem _ (List.mem_append_right _ h)) (by decide +kernel))
set_option maxRecDepth 20000 in
theorem gL_refund_X0_refund : GoodIn wsL_refund (wsV RL 50 RX0 yX0_refund wsX0_refund) := goodIn_app (goodIn_of _ (by decide +kernel)) ggL_refund_X0_refund
theorem dL_refund_0 : decode cL_refund 0 = .ok (.aload_n 1, 1) := by decide +kernel
theorem dL_refund_1 : decode cL_refund 1 = .ok (.iconst 0, 1) := by decide +kernel
theorem dL_refund_2 : decode cL_refund 2 = .ok (.aload_n 0, 1) := by decide +kernel
theorem dL_refund_3 : decode cL_refund 3 = .ok (.invokevirtual 50, 3) := by decide +kernel
theorem dL_refund_6 : decode cL_refund 6 = .ok (.ifCond .eq 7, 3) := by decide +kernel
theorem dL_refund_9 : decode cL_refund 9 = .ok (.lconst 1, 1) := by decide +kernel
theorem dL_refund_10 : decode cL_refund 10 = .ok (.goto 4, 3) := by decide +kernel
theorem dL_refund_13 : decode cL_refund 13 = .ok (.lconst 0, 1) := by decide +kernel
theorem dL_refund_14 : decode cL_refund 14 = .ok (.lastore, 1) := by decide +kernel
theorem dL_refund_15 : decode cL_refund 15 = .ok (.goto 6, 3) := by decide +kernel
theorem dL_refund_18 : decode cL_refund 18 = .ok (.astore_n 2, 1) := by decide +kernel
theorem dL_refund_19 : decode cL_refund 19 = .ok (.iconst 1, 1) := by decide +kernel
theorem dL_refund_20 : decode cL_refund 20 = .ok (.ireturn, 1) := by decide +kernel
theorem dL_refund_21 : decode cL_refund 21 = .ok (.iconst 0, 1) := by decide +kernel
theorem dL_refund_22 : decode cL_refund 22 = .ok (.ireturn, 1) := by decide +kernel
set_option maxRecDepth 20000 in
theorem ggL_escrow_X0_escrow : GoodIn wsL_escrow wsX0_escrow := goodIn_ca (goodIn_r _ [6, 7, 8, 9, 10, 11, 12, 13, 14, 15, 16, 17, 18, 19, 20, 21, 22, 23, 24, 25, 26, 27, 28] (by decide +kernel) (by decide +kernel)) (goodIn_sub (fun _ h => List.mem_cons_of_mem _ (List.mem_append_right _ h)) (by decide +kernel))
set_option maxRecDepth 20000 in
theorem gL_escrow_X0_escrow : GoodIn wsL_escrow (wsV RL 54 RX0 yX0_escrow wsX0_escrow) := goodIn_app (goodIn_of _ (by decide +kernel)) ggL_escrow_X0_escrow
theorem dL_escrow_0 : decode cL_escrow 0 = .ok (.aload_n 2, 1) := by decide +kernel
theorem dL_escrow_1 : decode cL_escrow 1 = .ok (.iconst 0, 1) := by decide +kernel
theorem dL_escrow_2 : decode cL_escrow 2 = .ok (.aload_n 0, 1) := by decide +kernel
theorem dL_escrow_3 : decode cL_escrow 3 = .ok (.iload_n 1, 1) := by decide +kernel
theorem dL_escrow_4 : decode cL_escrow 4 = .ok (.invokevirtual 54, 3) := by decide +kernel
theorem dL_escrow_7 : decode cL_escrow 7 = .ok (.i2l, 1) := by decide +kernel
theorem dL_escrow_8 : decode cL_escrow 8 = .ok (.lastore, 1) := by decide +kernel
theorem dL_escrow_9 : decode cL_escrow 9 = .ok (.goto 6, 3) := by decide +kernel
theorem dL_escrow_12 : decode cL_escrow 12 = .ok (.astore_n 3, 1) := by decide +kernel
theorem dL_escrow_13 : decode cL_escrow 13 = .ok (.iconst 1, 1) := by decide +kernel
theorem dL_escrow_14 : decode cL_escrow 14 = .ok (.ireturn, 1) := by decide +kernel
theorem dL_escrow_15 : decode cL_escrow 15 = .ok (.iconst 0, 1) := by decide +kernel
theorem dL_escrow_16 : decode cL_escrow 16 = .ok (.ireturn, 1) := by decide +kernel
set_option maxRecDepth 20000 in
theorem ggL_coins_X0_coins : GoodIn wsL_coins wsX0_coins := goodIn_ca (goodIn_r _ [6, 7, 8, 9, 10, 11, 5, 12, 13, 14, 15, 16, 17, 18, 19, 20, 21, 22, 23, 24, 25, 26, 27, 28, 29, 30, 31, 32, 33, 34, 35, 36, 37, 38, 39] (by decide +kernel) (by decide +kernel)) (goodIn_sub (fun _ h => List.mem_cons_of_mem _ (List.mem_append_right _ h)) (by decide +kernel))
set_option maxRecDepth 20000 in
theorem gL_coins_X0_coins : GoodIn wsL_coins (wsV RL 57 RX0 yX0_coins wsX0_coins) := goodIn_app (goodIn_of _ (by decide +kernel)) ggL_coins_X0_coins
theorem dL_coins_0 : decode cL_coins 0 = .ok (.aload_n 3, 1) := by decide +kernel
theorem dL_coins_1 : decode cL_coins 1 = .ok (.iconst 0, 1) := by decide +kernel
theorem dL_coins_2 : decode cL_coins 2 = .ok (.aload_n 0, 1) := by decide +kernel
theorem dL_coins_3 : decode cL_coins 3 = .ok (.iload_n 1, 1) := by decide +kernel
theorem dL_coins_4 : decode cL_coins 4 = .ok (.iload_n 2, 1) := by decide +kernel
theorem dL_coins_5 : decode cL_coins 5 = .ok (.invokevirtual 57, 3) := by decide +kernel
theorem dL_coins_8 : decode cL_coins 8 = .ok (.i2l, 1) := by decide +kernel
theorem dL_coins_9 : decode cL_coins 9 = .ok (.lastore, 1) := by decide +kernel
theorem dL_coins_10 : decode cL_coins 10 = .ok (.goto 7, 3) := by decide +kernel
theorem dL_coins_13 : decode cL_coins 13 = .ok (.astore 4, 2) := by decide +kernel
theorem dL_coins_15 : decode cL_coins 15 = .ok (.iconst 1, 1) := by decide +kernel
theorem dL_coins_16 : decode cL_coins 16 = .ok (.ireturn, 1) := by decide +kernel
theorem dL_coins_17 : decode cL_coins 17 = .ok (.iconst 0, 1) := by decide +kernel
theorem dL_coins_18 : decode cL_coins 18 = .ok (.ireturn, 1) := by decide +kernel
set_option maxRecDepth 20000 in
theorem ggL_fewest_X0_fewest : GoodIn wsL_fewest wsX0_fewest := goodIn_ca (goodIn_r _ [6, 7, 8, 9, 10, 5, 11, 12, 13, 14, 15, 16, 17, 18, 19, 20, 21, 22, 23, 24, 25, 26, 27, 28, 29, 30, 31, 32, 33, 34, 35, 36, 37, 38, 39, 40, 41, 42, 43, 44, 45, 46, 47, 48, 49, 50, 51, 52, 53, 54, 55, 56, 57, 58, 59, 60, 61, 62, 63, 64, 65] (by decide +kernel) (by decide +kernel)) (goodIn_sub (fun _ h => List.mem_cons_of_mem _ (List.mem_append_right _ h)) (by decide +kernel))
set_option maxRecDepth 20000 in
theorem gL_fewest_X0_fewest : GoodIn wsL_fewest (wsV RL 60 RX0 yX0_fewest wsX0_fewest) := goodIn_app (goodIn_of _ (by decide +kernel)) ggL_fewest_X0_fewest
theorem dL_fewest_0 : decode cL_fewest 0 = .ok (.aload_n 2, 1) := by decide +kernel
theorem dL_fewest_1 : decode cL_fewest 1 = .ok (.iconst 0, 1) := by decide +kernel
theorem dL_fewest_2 : decode cL_fewest 2 = .ok (.aload_n 0, 1) := by decide +kernel
theorem dL_fewest_3 : decode cL_fewest 3 = .ok (.iload_n 1, 1) := by decide +kernel
theorem dL_fewest_4 : decode cL_fewest 4 = .ok (.invokevirtual 60, 3) := by decide +kernel
theorem dL_fewest_7 : decode cL_fewest 7 = .ok (.i2l, 1) := by decide +kernel
theorem dL_fewest_8 : decode cL_fewest 8 = .ok (.lastore, 1) := by decide +kernel
theorem dL_fewest_9 : decode cL_fewest 9 = .ok (.goto 6, 3) := by decide +kernel
theorem dL_fewest_12 : decode cL_fewest 12 = .ok (.astore_n 3, 1) := by decide +kernel
theorem dL_fewest_13 : decode cL_fewest 13 = .ok (.iconst 1, 1) := by decide +kernel
theorem dL_fewest_14 : decode cL_fewest 14 = .ok (.ireturn, 1) := by decide +kernel
theorem dL_fewest_15 : decode cL_fewest 15 = .ok (.iconst 0, 1) := by decide +kernel
theorem dL_fewest_16 : decode cL_fewest 16 = .ok (.ireturn, 1) := by decide +kernel
set_option maxRecDepth 20000 in
theorem ggL_part_X0_part : GoodIn wsL_part wsX0_part := goodIn_ca (goodIn_ca (goodIn_r _ [7, 8, 9, 10, 11, 6, 12, 13, 14, 15, 16, 17, 18, 19, 20, 21, 22, 23, 24, 25, 26, 27, 28, 29, 30, 31, 32, 33, 34, 35, 36, 37, 38, 39, 40, 41, 42, 43, 44, 45, 46, 47, 48, 49, 50, 51, 52, 53, 54, 55, 56, 57, 58, 59, 60, 61, 62, 63, 64, 65, 66, 67, 68, 69, 70, 71, 72, 73, 74] (by decide +kernel) (by decide +kernel)) (goodIn_sub (fun _ h => List.mem_cons_of_mem _ (List.mem_append_left _ (List.mem_append_right _ h))) (by decide +kernel))) (goodIn_sub (fun _ h => List.mem_cons_of_mem _ (List.mem_append_right _ h)) (by decide +kernel))
set_option maxRecDepth 20000 in
theorem gL_part_X0_part : GoodIn wsL_part (wsV RL 63 RX0 yX0_part wsX0_part) := goodIn_app (goodIn_of _ (by decide +kernel)) ggL_part_X0_part
theorem dL_part_0 : decode cL_part 0 = .ok (.aload_n 3, 1) := by decide +kernel
theorem dL_part_1 : decode cL_part 1 = .ok (.iconst 0, 1) := by decide +kernel
theorem dL_part_2 : decode cL_part 2 = .ok (.aload_n 0, 1) := by decide +kernel
theorem dL_part_3 : decode cL_part 3 = .ok (.iload_n 1, 1) := by decide +kernel
theorem dL_part_4 : decode cL_part 4 = .ok (.iload_n 2, 1) := by decide +kernel
theorem dL_part_5 : decode cL_part 5 = .ok (.invokevirtual 63, 3) := by decide +kernel
theorem dL_part_8 : decode cL_part 8 = .ok (.i2l, 1) := by decide +kernel
theorem dL_part_9 : decode cL_part 9 = .ok (.lastore, 1) := by decide +kernel
theorem dL_part_10 : decode cL_part 10 = .ok (.goto 11, 3) := by decide +kernel
theorem dL_part_13 : decode cL_part 13 = .ok (.astore 4, 2) := by decide +kernel
theorem dL_part_15 : decode cL_part 15 = .ok (.iconst 1, 1) := by decide +kernel
theorem dL_part_16 : decode cL_part 16 = .ok (.ireturn, 1) := by decide +kernel
theorem dL_part_17 : decode cL_part 17 = .ok (.astore 4, 2) := by decide +kernel
theorem dL_part_19 : decode cL_part 19 = .ok (.iconst 2, 1) := by decide +kernel
theorem dL_part_20 : decode cL_part 20 = .ok (.ireturn, 1) := by decide +kernel
theorem dL_part_21 : decode cL_part 21 = .ok (.iconst 0, 1) := by decide +kernel
theorem dL_part_22 : decode cL_part 22 = .ok (.ireturn, 1) := by decide +kernel
set_option maxRecDepth 20000 in
theorem ggL_below_X0_below : GoodIn wsL_below wsX0_below := goodIn_ca (goodIn_r _ [6, 7, 8, 9, 10, 5, 11, 12, 13, 14, 15, 16, 17, 18, 19, 20, 21, 22, 23, 24, 25, 26, 27, 28, 29, 30, 31, 32, 33, 34, 35, 36, 37, 38, 39, 40, 41, 42, 43, 44, 45, 46, 47, 48, 49, 50, 51, 52, 53, 54, 55, 56, 57, 58, 59, 60, 61, 62] (by decide +kernel) (by decide +kernel)) (goodIn_sub (fun _ h => List.mem_cons_of_mem _ (List.mem_append_right _ h)) (by decide +kernel))
set_option maxRecDepth 20000 in
theorem gL_below_X0_below : GoodIn wsL_below (wsV RL 66 RX0 yX0_below wsX0_below) := goodIn_app (goodIn_of _ (by decide +kernel)) ggL_below_X0_below
theorem dL_below_0 : decode cL_below 0 = .ok (.aload_n 2, 1) := by decide +kernel
theorem dL_below_1 : decode cL_below 1 = .ok (.iconst 0, 1) := by decide +kernel
theorem dL_below_2 : decode cL_below 2 = .ok (.aload_n 0, 1) := by decide +kernel
theorem dL_below_3 : decode cL_below 3 = .ok (.iload_n 1, 1) := by decide +kernel
theorem dL_below_4 : decode cL_below 4 = .ok (.invokevirtual 66, 3) := by decide +kernel
theorem dL_below_7 : decode cL_below 7 = .ok (.i2l, 1) := by decide +kernel
theorem dL_below_8 : decode cL_below 8 = .ok (.lastore, 1) := by decide +kernel
theorem dL_below_9 : decode cL_below 9 = .ok (.goto 6, 3) := by decide +kernel
theorem dL_below_12 : decode cL_below 12 = .ok (.astore_n 3, 1) := by decide +kernel
theorem dL_below_13 : decode cL_below 13 = .ok (.iconst 1, 1) := by decide +kernel
theorem dL_below_14 : decode cL_below 14 = .ok (.ireturn, 1) := by decide +kernel
theorem dL_below_15 : decode cL_below 15 = .ok (.iconst 0, 1) := by decide +kernel
theorem dL_below_16 : decode cL_below 16 = .ok (.ireturn, 1) := by decide +kernel
set_option maxRecDepth 20000 in
theorem ggL_gaps_X0_gaps : GoodIn wsL_gaps wsX0_gaps := goodIn_ca (goodIn_r _ [6, 7, 8, 9, 10, 5, 11, 12, 13, 14, 15, 16, 17, 18, 19, 20, 21, 22, 23, 24, 25, 26, 27, 28, 29, 30, 31, 32, 33, 34, 35, 36, 37, 38, 39, 40, 41, 42, 43, 44, 45, 46, 47, 48, 49, 50, 51, 52, 53, 54, 55, 56, 57, 58, 59, 60, 61, 62, 63, 64, 65, 66, 67, 68, 69, 70] (by decide +kernel) (by decide +kernel)) (goodIn_sub (fun _ h => List.mem_cons_of_mem _ (List.mem_append_right _ h)) (by decide +kernel))
set_option maxRecDepth 20000 in
theorem gL_gaps_X0_gaps : GoodIn wsL_gaps (wsV RL 69 RX0 yX0_gaps wsX0_gaps) := goodIn_app (goodIn_of _ (by decide +kernel)) ggL_gaps_X0_gaps
theorem dL_gaps_0 : decode cL_gaps 0 = .ok (.aload_n 2, 1) := by decide +kernel
theorem dL_gaps_1 : decode cL_gaps 1 = .ok (.iconst 0, 1) := by decide +kernel
theorem dL_gaps_2 : decode cL_gaps 2 = .ok (.aload_n 0, 1) := by decide +kernel
theorem dL_gaps_3 : decode cL_gaps 3 = .ok (.iload_n 1, 1) := by decide +kernel
theorem dL_gaps_4 : decode cL_gaps 4 = .ok (.invokevirtual 69, 3) := by decide +kernel
theorem dL_gaps_7 : decode cL_gaps 7 = .ok (.i2l, 1) := by decide +kernel
theorem dL_gaps_8 : decode cL_gaps 8 = .ok (.lastore, 1) := by decide +kernel
theorem dL_gaps_9 : decode cL_gaps 9 = .ok (.goto 6, 3) := by decide +kernel
theorem dL_gaps_12 : decode cL_gaps 12 = .ok (.astore_n 3, 1) := by decide +kernel
theorem dL_gaps_13 : decode cL_gaps 13 = .ok (.iconst 1, 1) := by decide +kernel
theorem dL_gaps_14 : decode cL_gaps 14 = .ok (.ireturn, 1) := by decide +kernel
theorem dL_gaps_15 : decode cL_gaps 15 = .ok (.iconst 0, 1) := by decide +kernel
theorem dL_gaps_16 : decode cL_gaps 16 = .ok (.ireturn, 1) := by decide +kernel
set_option maxRecDepth 20000 in
theorem ggL_audit_X0_audit : GoodIn wsL_audit wsX0_audit := goodIn_ca (goodIn_r _ [6, 7, 8, 9, 10, 11, 12, 13, 14, 15, 16, 17, 18, 19, 20, 21, 22, 23, 24, 25, 26, 27] (by decide +kernel) (by decide +kernel)) (goodIn_sub (fun _ h => List.mem_cons_of_mem _ (List.mem_append_right _ h)) (by decide +kernel))
set_option maxRecDepth 20000 in
theorem gL_audit_X0_audit : GoodIn wsL_audit (wsV RL 72 RX0 yX0_audit wsX0_audit) := goodIn_app (goodIn_of _ (by decide +kernel)) ggL_audit_X0_audit
theorem dL_audit_0 : decode cL_audit 0 = .ok (.aload_n 2, 1) := by decide +kernel
theorem dL_audit_1 : decode cL_audit 1 = .ok (.iconst 0, 1) := by decide +kernel
theorem dL_audit_2 : decode cL_audit 2 = .ok (.aload_n 0, 1) := by decide +kernel
theorem dL_audit_3 : decode cL_audit 3 = .ok (.iload_n 1, 1) := by decide +kernel
theorem dL_audit_4 : decode cL_audit 4 = .ok (.invokevirtual 72, 3) := by decide +kernel
theorem dL_audit_7 : decode cL_audit 7 = .ok (.lastore, 1) := by decide +kernel
theorem dL_audit_8 : decode cL_audit 8 = .ok (.goto 6, 3) := by decide +kernel
theorem dL_audit_11 : decode cL_audit 11 = .ok (.astore_n 3, 1) := by decide +kernel
theorem dL_audit_12 : decode cL_audit 12 = .ok (.iconst 1, 1) := by decide +kernel
theorem dL_audit_13 : decode cL_audit 13 = .ok (.ireturn, 1) := by decide +kernel
theorem dL_audit_14 : decode cL_audit 14 = .ok (.iconst 0, 1) := by decide +kernel
theorem dL_audit_15 : decode cL_audit 15 = .ok (.ireturn, 1) := by decide +kernel
end
section
set_option maxRecDepth 20000 in
theorem ggL_law_X0_init : GoodIn wsL_law wsX0_init := goodIn_r _ [9, 10, 11, 12, 13, 14, 15, 16, 17, 18, 19, 20, 21, 22, 23, 24, 25, 26, 27, 28, 29, 6, 30, 31, 32, 480, 481, 482, 483, 484, 485, 486, 487, 488, 489, 490, 491, 492, 493, 494, 495, 496, 497] (by decide +kernel) (by decide +kernel)
set_option maxRecDepth 20000 in
theorem gL_law_X0_init : GoodIn wsL_law (wsX0_init) := ggL_law_X0_init
set_option maxRecDepth 20000 in
theorem ggL_law_X1_init : GoodIn wsL_law wsX1_init := goodIn_r _ [35, 36, 11, 12, 14, 37, 38, 20, 39, 40, 41, 42, 43, 44, 45, 46, 47, 48, 6, 49, 50, 498, 499, 500, 501, 502, 503, 504, 505, 506, 507, 508, 509, 510, 511, 512, 513, 514, 515, 516] (by decide +kernel) (by decide +kernel)
set_option maxRecDepth 20000 in
theorem gL_law_X1_init : GoodIn wsL_law (wsX1_init) := ggL_law_X1_init
set_option maxRecDepth 20000 in
theorem ggL_law_L_addKind : GoodIn wsL_law wsL_addKind := goodIn_ca (goodIn_ca (goodIn_r _ [54, 55, 56, 57, 58, 59, 2, 60, 61, 62, 63, 64, 13, 15, 16, 21, 65, 66, 67, 68, 480, 481, 482, 483, 484, 485, 486, 487, 488, 489, 490, 491, 492, 493, 494, 495, 496, 497] (by decide +kernel) (by decide +kernel)) (goodIn_sub (fun _ h => List.mem_append_left _ (List.mem_append_left _ (List.mem_append_right _ h))) (by decide +kernel))) (goodIn_sub (fun _ h => List.mem_append_left _ (List.mem_append_right _ h)) (by decide +kernel))
set_option maxRecDepth 20000 in
theorem gL_law_L_addKind : GoodIn wsL_law (va_wsS RL 80 yL_addKind wsL_addKind) := goodIn_app (goodIn_of _ (by decide +kernel)) ggL_law_L_addKind
set_option maxRecDepth 20000 in
theorem ggL_law_X1_addKind : GoodIn wsL_law wsX1_addKind := goodIn_r _ [72, 73, 74, 37, 38, 39, 43, 75, 76, 77, 5, 78, 498, 499, 500, 501, 502, 503, 504, 505, 506, 507, 508, 509, 510, 511, 512, 513, 514, 515, 516] (by decide +kernel) (by decide +kernel)
set_option maxRecDepth 20000 in
theorem gL_law_X1_addKind : GoodIn wsL_law (wsV RL 85 RX1 yX1_addKind wsX1_addKind) := goodIn_app (goodIn_of _ (by decide +kernel)) ggL_law_X1_addKind
set_option maxRecDepth 20000 in
theorem ggL_law_X1_thrown : GoodIn wsL_law wsX1_thrown := goodIn_r _ [82, 73, 498, 499, 500, 501, 502, 503, 504, 505, 506, 507, 508, 509, 510, 511, 512, 513, 514, 515, 516] (by decide +kernel) (by decide +kernel)
set_option maxRecDepth 20000 in
theorem gL_law_X1_thrown : GoodIn wsL_law (wsV RL 86 RX1 yX1_thrown wsX1_thrown) := goodIn_app (goodIn_of _ (by decide +kernel)) ggL_law_X1_thrown
set_option maxRecDepth 20000 in
theorem ggL_law_L_fill : GoodIn wsL_law wsL_fill := goodIn_ca (goodIn_ca (goodIn_r _ [85, 86, 55, 87, 88, 89, 2, 90, 16, 17, 91, 92, 93, 94, 30, 15, 95, 96, 97, 98, 99, 100, 13, 101, 102, 103, 61, 62, 480, 481, 482, 483, 484, 485, 486, 487, 488, 489, 490, 491, 492, 493, 494, 495, 496, 497] (by decide +kernel) (by decide +kernel)) (goodIn_sub (fun _ h => List.mem_append_right _ h) (by decide +kernel))) (goodIn_sub (fun _ h => List.mem_append_left _ (List.mem_append_left _ (List.mem_append_right _ h))) (by decide +kernel))
set_option maxRecDepth 20000 in
theorem gL_law_L_fill : GoodIn wsL_law (va_wsS RL 90 yL_fill wsL_fill) := goodIn_app (goodIn_of _ (by decide +kernel)) ggL_law_L_fill
set_option maxRecDepth 20000 in
theorem ggL_law_X1_fill : GoodIn wsL_law wsX1_fill := goodIn_r _ [107, 73, 38, 40, 108, 92, 93, 94, 49, 37, 109, 110, 111, 5, 112, 74, 75, 76, 77, 78, 498, 499, 500, 501, 502, 503, 504, 505, 506, 507, 508, 509, 510, 511, 512, 513, 514, 515, 516] (by decide +kernel) (by decide +kernel)
set_option maxRecDepth 20000 in
theorem gL_law_X1_fill : GoodIn wsL_law (wsV RL 92 RX1 yX1_fill wsX1_fill) := goodIn_app (goodIn_of _ (by decide +kernel)) ggL_law_X1_fill
set_option maxRecDepth 20000 in
theorem ggL_law_L_take : GoodIn wsL_law wsL_take := goodIn_ca (goodIn_ca (goodIn_r _ [115, 86, 55, 116, 117, 118, 2, 119, 17, 91, 92, 93, 94, 30, 15, 95, 96, 97, 98, 99, 100, 13, 101, 102, 103, 61, 62, 480, 481, 482, 483, 484, 485, 486, 487, 488, 489, 490, 491, 492, 493, 494, 495, 496, 497] (by decide +kernel) (by decide +kernel)) (goodIn_sub (fun _ h => List.mem_append_right _ h) (by decide +kernel))) (goodIn_sub (fun _ h => List.mem_append_left _ (List.mem_append_left _ (List.mem_append_right _ h))) (by decide +kernel))
set_option maxRecDepth 20000 in
theorem gL_law_L_take : GoodIn wsL_law (va_wsS RL 93 yL_take wsL_take) := goodIn_app (goodIn_of _ (by decide +kernel)) ggL_law_L_take
set_option maxRecDepth 20000 in
theorem ggL_law_X1_take : GoodIn wsL_law wsX1_take := goodIn_r _ [123, 73, 40, 108, 92, 93, 94, 49, 37, 109, 110, 111, 5, 112, 74, 75, 76, 77, 78, 498, 499, 500, 501, 502, 503, 504, 505, 506, 507, 508, 509, 510, 511, 512, 513, 514, 515, 516] (by decide +kernel) (by decide +kernel)
set_option maxRecDepth 20000 in
theorem gL_law_X1_take : GoodIn wsL_law (wsV RL 95 RX1 yX1_take wsX1_take) := goodIn_app (goodIn_of _ (by decide +kernel)) ggL_law_X1_take
set_option maxRecDepth 20000 in
theorem ggL_law_X0_emptyBox : GoodIn wsL_law wsX0_emptyBox := goodIn_r _ [127, 13, 18, 15, 30, 480, 481, 482, 483, 484, 485, 486, 487, 488, 489, 490, 491, 492, 493, 494, 495, 496, 497] (by decide +kernel) (by decide +kernel)
set_option maxRecDepth 20000 in
theorem gL_law_X0_emptyBox : GoodIn wsL_law (wsV RL 96 RX0 yX0_emptyBox wsX0_emptyBox) := goodIn_app (goodIn_of _ (by decide +kernel)) ggL_law_X0_emptyBox
set_option maxRecDepth 20000 in
theorem ggL_law_X1_emptyBox : GoodIn wsL_law wsX1_emptyBox := goodIn_r _ [131, 73, 74, 41, 37, 49, 498, 499, 500, 501, 502, 503, 504, 505, 506, 507, 508, 509, 510, 511, 512, 513, 514, 515, 516] (by decide +kernel) (by decide +kernel)
set_option maxRecDepth 20000 in
theorem gL_law_X1_emptyBox : GoodIn wsL_law (wsV RL 99 RX1 yX1_emptyBox wsX1_emptyBox) := goodIn_app (goodIn_of _ (by decide +kernel)) ggL_law_X1_emptyBox
set_option maxRecDepth 20000 in
theorem ggL_law_L_accept : GoodIn wsL_law wsL_accept := goodIn_ca (goodIn_r _ [134, 86, 135, 136, 137, 2, 138, 21, 95, 96, 97, 98, 99, 100, 13, 480, 481, 482, 483, 484, 485, 486, 487, 488, 489, 490, 491, 492, 493, 494, 495, 496, 497] (by decide +kernel) (by decide +kernel)) (goodIn_sub (fun _ h => List.mem_append_right _ h) (by decide +kernel))
set_option maxRecDepth 20000 in
theorem gL_law_L_accept : GoodIn wsL_law (va_wsS RL 100 yL_accept wsL_accept) := goodIn_app (goodIn_of _ (by decide +kernel)) ggL_law_L_accept
set_option maxRecDepth 20000 in
theorem ggL_law_X1_accept : GoodIn wsL_law wsX1_accept := goodIn_r _ [142, 73, 39, 109, 110, 111, 5, 112, 74, 498, 499, 500, 501, 502, 503, 504, 505, 506, 507, 508, 509, 510, 511, 512, 513, 514, 515, 516] (by decide +kernel) (by decide +kernel)
set_option maxRecDepth 20000 in
theorem gL_law_X1_accept : GoodIn wsL_law (wsV RL 103 RX1 yX1_accept wsX1_accept) := goodIn_app (goodIn_of _ (by decide +kernel)) ggL_law_X1_accept
set_option maxRecDepth 20000 in
theorem ggL_law_L_setLimit : GoodIn wsL_law wsL_setLimit := goodIn_ca (goodIn_r _ [145, 55, 146, 147, 148, 2, 149, 61, 62, 25, 480, 481, 482, 483, 484, 485, 486, 487, 488, 489, 490, 491, 492, 493, 494, 495, 496, 497] (by decide +kernel) (by decide +kernel)) (goodIn_sub (fun _ h => List.mem_append_left _ (List.mem_append_left _ (List.mem_append_right _ h))) (by decide +kernel))
set_option maxRecDepth 20000 in
theorem gL_law_L_setLimit : GoodIn wsL_law (va_wsS RL 104 yL_setLimit wsL_setLimit) := goodIn_app (goodIn_of _ (by decide +kernel)) ggL_law_L_setLimit
set_option maxRecDepth 20000 in
theorem ggL_law_X1_setLimit : GoodIn wsL_law wsX1_setLimit := goodIn_r _ [153, 73, 46, 154, 155, 5, 156, 75, 76, 77, 78, 498, 499, 500, 501, 502, 503, 504, 505, 506, 507, 508, 509, 510, 511, 512, 513, 514, 515, 516] (by decide +kernel) (by decide +kernel)
set_option maxRecDepth 20000 in
theorem gL_law_X1_setLimit : GoodIn wsL_law (wsV RL 107 RX1 yX1_setLimit wsX1_setLimit) := goodIn_app (goodIn_of _ (by decide +kernel)) ggL_law_X1_setLimit
set_option maxRecDepth 20000 in
theorem ggL_law_L_addProduct : GoodIn wsL_law wsL_addProduct := goodIn_ca (goodIn_ca (goodIn_r _ [159, 55, 56, 160, 161, 162, 2, 163, 63, 64, 22, 23, 24, 164, 165, 166, 61, 62, 480, 481, 482, 483, 484, 485, 486, 487, 488, 489, 490, 491, 492, 493, 494, 495, 496, 497] (by decide +kernel) (by decide +kernel)) (goodIn_sub (fun _ h => List.mem_append_left _ (List.mem_append_right _ h)) (by decide +kernel))) (goodIn_sub (fun _ h => List.mem_append_left _ (List.mem_append_left _ (List.mem_append_right _ h))) (by decide +kernel))
set_option maxRecDepth 20000 in
theorem gL_law_L_addProduct : GoodIn wsL_law (va_wsS RL 108 yL_addProduct wsL_addProduct) := goodIn_app (goodIn_of _ (by decide +kernel)) ggL_law_L_addProduct
set_option maxRecDepth 20000 in
theorem ggL_law_X1_addProduct : GoodIn wsL_law wsX1_addProduct := goodIn_r _ [170, 73, 171, 44, 45, 172, 173, 5, 174, 75, 76, 77, 78, 498, 499, 500, 501, 502, 503, 504, 505, 506, 507, 508, 509, 510, 511, 512, 513, 514, 515, 516] (by decide +kernel) (by decide +kernel)
set_option maxRecDepth 20000 in
theorem gL_law_X1_addProduct : GoodIn wsL_law (wsV RL 110 RX1 yX1_addProduct wsX1_addProduct) := goodIn_app (goodIn_of _ (by decide +kernel)) ggL_law_X1_addProduct
set_option maxRecDepth 20000 in
theorem ggL_law_L_setProduct : GoodIn wsL_law wsL_setProduct := goodIn_ca (goodIn_ca (goodIn_r _ [177, 86, 55, 178, 179, 180, 2, 181, 23, 24, 182, 183, 184, 185, 99, 100, 22, 164, 165, 166, 61, 62, 480, 481, 482, 483, 484, 485, 486, 487, 488, 489, 490, 491, 492, 493, 494, 495, 496, 497] (by decide +kernel) (by decide +kernel)) (goodIn_sub (fun _ h => List.mem_append_right _ h) (by decide +kernel))) (goodIn_sub (fun _ h => List.mem_append_left _ (List.mem_append_left _ (List.mem_append_right _ h))) (by decide +kernel))
set_option maxRecDepth 20000 in
theorem gL_law_L_setProduct : GoodIn wsL_law (va_wsS RL 111 yL_setProduct wsL_setProduct) := goodIn_app (goodIn_of _ (by decide +kernel)) ggL_law_L_setProduct
set_option maxRecDepth 20000 in
theorem ggL_law_X1_setProduct : GoodIn wsL_law wsX1_setProduct := goodIn_r _ [189, 73, 44, 45, 190, 191, 192, 5, 193, 171, 75, 76, 77, 78, 172, 173, 174, 498, 499, 500, 501, 502, 503, 504, 505, 506, 507, 508, 509, 510, 511, 512, 513, 514, 515, 516] (by decide +kernel) (by decide +kernel)
set_option maxRecDepth 20000 in
theorem gL_law_X1_setProduct : GoodIn wsL_law (wsV RL 114 RX1 yX1_setProduct wsX1_setProduct) := goodIn_app (goodIn_of _ (by decide +kernel)) ggL_law_X1_setProduct
set_option maxRecDepth 20000 in
theorem ggL_law_L_product : GoodIn wsL_law wsL_product := goodIn_ca (goodIn_r _ [196, 86, 197, 198, 199, 2, 200, 24, 23, 182, 183, 184, 185, 99, 100, 22, 480, 481, 482, 483, 484, 485, 486, 487, 488, 489, 490, 491, 492, 493, 494, 495, 496, 497] (by decide +kernel) (by decide +kernel)) (goodIn_sub (fun _ h => List.mem_append_right _ h) (by decide +kernel))
set_option maxRecDepth 20000 in
theorem gL_law_L_product : GoodIn wsL_law (va_wsS RL 115 yL_product wsL_product) := goodIn_app (goodIn_of _ (by decide +kernel)) ggL_law_L_product
set_option maxRecDepth 20000 in
theorem ggL_law_X1_product : GoodIn wsL_law wsX1_product := goodIn_r _ [204, 73, 45, 44, 190, 191, 192, 5, 193, 171, 75, 76, 77, 78, 498, 499, 500, 501, 502, 503, 504, 505, 506, 507, 508, 509, 510, 511, 512, 513, 514, 515, 516] (by decide +kernel) (by decide +kernel)
set_option maxRecDepth 20000 in
theorem gL_law_X1_product : GoodIn wsL_law (wsV RL 117 RX1 yX1_product wsX1_product) := goodIn_app (goodIn_of _ (by decide +kernel)) ggL_law_X1_product
set_option maxRecDepth 20000 in
theorem ggL_law_L_insert : GoodIn wsL_law wsL_insert := goodIn_ca (goodIn_r _ [207, 86, 208, 209, 210, 2, 211, 21, 26, 15, 25, 27, 30, 95, 96, 97, 98, 99, 100, 13, 212, 213, 214, 215, 216, 217, 218, 219, 480, 481, 482, 483, 484, 485, 486, 487, 488, 489, 490, 491, 492, 493, 494, 495, 496, 497] (by decide +kernel) (by decide +kernel)) (goodIn_sub (fun _ h => List.mem_append_right _ h) (by decide +kernel))
set_option maxRecDepth 20000 in
theorem gL_law_L_insert : GoodIn wsL_law (va_wsS RL 118 yL_insert wsL_insert) := goodIn_app (goodIn_of _ (by decide +kernel)) ggL_law_L_insert
set_option maxRecDepth 20000 in
theorem ggL_law_X1_insert : GoodIn wsL_law wsX1_insert := goodIn_r _ [223, 73, 39, 224, 37, 46, 47, 49, 109, 110, 111, 5, 112, 74, 75, 76, 77, 78, 225, 226, 227, 228, 498, 499, 500, 501, 502, 503, 504, 505, 506, 507, 508, 509, 510, 511, 512, 513, 514, 515, 516] (by decide +kernel) (by decide +kernel)
set_option maxRecDepth 20000 in
theorem gL_law_X1_insert : GoodIn wsL_law (wsV RL 120 RX1 yX1_insert wsX1_insert) := goodIn_app (goodIn_of _ (by decide +kernel)) ggL_law_X1_insert
set_option maxRecDepth 20000 in
theorem ggL_law_X0_cancel : GoodIn wsL_law wsX0_cancel := goodIn_r _ [232, 26, 30, 212, 213, 214, 2, 215, 13, 15, 216, 217, 218, 219, 27, 480, 481, 482, 483, 484, 485, 486, 487, 488, 489, 490, 491, 492, 493, 494, 495, 496, 497] (by decide +kernel) (by decide +kernel)
set_option maxRecDepth 20000 in
theorem gL_law_X0_cancel : GoodIn wsL_law (wsV RL 121 RX0 yX0_cancel wsX0_cancel) := goodIn_app (goodIn_of _ (by decide +kernel)) ggL_law_X0_cancel
set_option maxRecDepth 20000 in
theorem ggL_law_X1_cancel : GoodIn wsL_law wsX1_cancel := goodIn_r _ [236, 73, 224, 49, 225, 226, 227, 5, 228, 37, 47, 498, 499, 500, 501, 502, 503, 504, 505, 506, 507, 508, 509, 510, 511, 512, 513, 514, 515, 516] (by decide +kernel) (by decide +kernel)
set_option maxRecDepth 20000 in
theorem gL_law_X1_cancel : GoodIn wsL_law (wsV RL 124 RX1 yX1_cancel wsX1_cancel) := goodIn_app (goodIn_of _ (by decide +kernel)) ggL_law_X1_cancel
set_option maxRecDepth 20000 in
theorem ggL_law_L_buy : GoodIn wsL_law wsL_buy := goodIn_ca (goodIn_r _ [239, 86, 240, 241, 242, 2, 243, 24, 23, 32, 244, 28, 29, 182, 183, 184, 185, 99, 100, 22, 212, 213, 214, 215, 13, 15, 216, 217, 218, 219, 26, 27, 245, 246, 247, 248, 17, 16, 91, 92, 93, 94, 249, 250, 251, 252, 31, 253, 254, 255, 256, 257, 258, 259, 260, 261, 262, 263, 264, 265, 266, 267, 268, 269, 270, 271, 272, 273, 274, 275, 276, 18, 277, 278, 279, 280, 19, 281, 282, 283, 284, 285, 286, 287, 288, 289, 30, 480, 481, 482, 483, 484, 485, 486, 487, 488, 489, 490, 491, 492, 493, 494, 495, 496, 497] (by decide +kernel) (by decide +kernel)) (goodIn_sub (fun _ h => List.mem_append_right _ h) (by decide +kernel))
set_option maxRecDepth 20000 in
theorem gL_law_L_buy : GoodIn wsL_law (va_wsS RL 125 yL_buy wsL_buy) := goodIn_app (goodIn_of _ (by decide +kernel)) ggL_law_L_buy
set_option maxRecDepth 20000 in
theorem ggL_law_X1_buy : GoodIn wsL_law wsX1_buy := goodIn_r _ [293, 73, 45, 44, 40, 294, 295, 296, 297, 298, 299, 41, 224, 47, 38, 48, 300, 49, 190, 191, 192, 5, 193, 171, 75, 76, 77, 78, 225, 226, 227, 228, 37, 301, 302, 303, 304, 74, 42, 305, 306, 307, 308, 50, 43, 309, 310, 311, 312, 313, 314, 315, 316, 108, 92, 93, 94, 498, 499, 500, 501, 502, 503, 504, 505, 506, 507, 508, 509, 510, 511, 512, 513, 514, 515, 516] (by decide +kernel) (by decide +kernel)
set_option maxRecDepth 20000 in
theorem gL_law_X1_buy : GoodIn wsL_law (wsV RL 127 RX1 yX1_buy wsX1_buy) := goodIn_app (goodIn_of _ (by decide +kernel)) ggL_law_X1_buy
set_option maxRecDepth 20000 in
theorem ggL_law_L_refund : GoodIn wsL_law wsL_refund := goodIn_ca (goodIn_r _ [319, 56, 320, 321, 322, 2, 323, 63, 64, 28, 22, 29, 17, 244, 24, 91, 92, 93, 94, 30, 249, 250, 251, 252, 31, 13, 253, 254, 255, 256, 257, 15, 258, 259, 260, 261, 262, 263, 264, 265, 266, 267, 268, 269, 270, 271, 272, 277, 278, 279, 280, 19, 281, 282, 283, 284, 285, 480, 481, 482, 483, 484, 485, 486, 487, 488, 489, 490, 491, 492, 493, 494, 495, 496, 497] (by decide +kernel) (by decide +kernel)) (goodIn_sub (fun _ h => List.mem_append_left _ (List.mem_append_right _ h)) (by decide +kernel))
set_option maxRecDepth 20000 in
theorem gL_law_L_refund : GoodIn wsL_law (va_wsS RL 128 yL_refund wsL_refund) := goodIn_app (goodIn_of _ (by decide +kernel)) ggL_law_L_refund
set_option maxRecDepth 20000 in
theorem ggL_law_X1_refund : GoodIn wsL_law wsX1_refund := goodIn_r _ [327, 48, 73, 300, 45, 108, 92, 93, 94, 49, 301, 302, 303, 5, 304, 74, 42, 40, 305, 306, 307, 308, 50, 37, 43, 309, 310, 311, 312, 313, 314, 315, 316, 498, 499, 500, 501, 502, 503, 504, 505, 506, 507, 508, 509, 510, 511, 512, 513, 514, 515, 516] (by decide +kernel) (by decide +kernel)
set_option maxRecDepth 20000 in
theorem gL_law_X1_refund : GoodIn wsL_law (wsV RL 131 RX1 yX1_refund wsX1_refund) := goodIn_app (goodIn_of _ (by decide +kernel)) ggL_law_X1_refund
set_option maxRecDepth 20000 in
theorem ggL_law_X0_credit : GoodIn wsL_law wsX0_credit := goodIn_r _ [215, 13, 15, 216, 217, 218, 2, 219, 26, 27, 480, 481, 482, 483, 484, 485, 486, 487, 488, 489, 490, 491, 492, 493, 494, 495, 496, 497] (by decide +kernel) (by decide +kernel)
set_option maxRecDepth 20000 in
theorem gL_law_X0_credit : GoodIn wsL_law (wsV RL 132 RX0 yX0_credit wsX0_credit) := goodIn_app (goodIn_of _ (by decide +kernel)) ggL_law_X0_credit
set_option maxRecDepth 20000 in
theorem ggL_law_X1_credit : GoodIn wsL_law wsX1_credit := goodIn_r _ [332, 73, 225, 226, 227, 5, 228, 224, 37, 47, 498, 499, 500, 501, 502, 503, 504, 505, 506, 507, 508, 509, 510, 511, 512, 513, 514, 515, 516] (by decide +kernel) (by decide +kernel)
set_option maxRecDepth 20000 in
theorem gL_law_X1_credit : GoodIn wsL_law (wsV RL 135 RX1 yX1_credit wsX1_credit) := goodIn_app (goodIn_of _ (by decide +kernel)) ggL_law_X1_credit
set_option maxRecDepth 20000 in
theorem ggL_law_L_escrow : GoodIn wsL_law wsL_escrow := goodIn_ca (goodIn_r _ [335, 86, 336, 337, 338, 2, 339, 99, 100, 26, 27, 480, 481, 482, 483, 484, 485, 486, 487, 488, 489, 490, 491, 492, 493, 494, 495, 496, 497] (by decide +kernel) (by decide +kernel)) (goodIn_sub (fun _ h => List.mem_append_right _ h) (by decide +kernel))
set_option maxRecDepth 20000 in
theorem gL_law_L_escrow : GoodIn wsL_law (va_wsS RL 136 yL_escrow wsL_escrow) := goodIn_app (goodIn_of _ (by decide +kernel)) ggL_law_L_escrow
set_option maxRecDepth 20000 in
theorem ggL_law_X1_escrow : GoodIn wsL_law wsX1_escrow := goodIn_r _ [343, 73, 224, 47, 75, 76, 77, 5, 78, 498, 499, 500, 501, 502, 503, 504, 505, 506, 507, 508, 509, 510, 511, 512, 513, 514, 515, 516] (by decide +kernel) (by decide +kernel)
set_option maxRecDepth 20000 in
theorem gL_law_X1_escrow : GoodIn wsL_law (wsV RL 138 RX1 yX1_escrow wsX1_escrow) := goodIn_app (goodIn_of _ (by decide +kernel)) ggL_law_X1_escrow
set_option maxRecDepth 20000 in
theorem ggL_law_L_coins : GoodIn wsL_law wsL_coins := goodIn_ca (goodIn_r _ [346, 86, 347, 348, 349, 2, 350, 99, 100, 95, 96, 97, 98, 13, 351, 352, 353, 354, 15, 17, 18, 19, 480, 481, 482, 483, 484, 485, 486, 487, 488, 489, 490, 491, 492, 493, 494, 495, 496, 497] (by decide +kernel) (by decide +kernel)) (goodIn_sub (fun _ h => List.mem_append_right _ h) (by decide +kernel))
set_option maxRecDepth 20000 in
theorem gL_law_L_coins : GoodIn wsL_law (va_wsS RL 139 yL_coins wsL_coins) := goodIn_app (goodIn_of _ (by decide +kernel)) ggL_law_L_coins
set_option maxRecDepth 20000 in
theorem ggL_law_X1_coins : GoodIn wsL_law wsX1_coins := goodIn_r _ [358, 73, 109, 110, 111, 5, 112, 74, 359, 360, 361, 362, 37, 40, 41, 42, 75, 76, 77, 78, 498, 499, 500, 501, 502, 503, 504, 505, 506, 507, 508, 509, 510, 511, 512, 513, 514, 515, 516] (by decide +kernel) (by decide +kernel)
set_option maxRecDepth 20000 in
theorem gL_law_X1_coins : GoodIn wsL_law (wsV RL 141 RX1 yX1_coins wsX1_coins) := goodIn_app (goodIn_of _ (by decide +kernel)) ggL_law_X1_coins
set_option maxRecDepth 20000 in
theorem ggL_law_L_fewest : GoodIn wsL_law wsL_fewest := goodIn_ca (goodIn_r _ [365, 55, 366, 367, 368, 2, 369, 17, 244, 370, 371, 372, 61, 62, 249, 250, 251, 252, 91, 92, 93, 94, 31, 13, 253, 254, 255, 256, 257, 15, 258, 259, 260, 261, 262, 263, 264, 265, 266, 267, 268, 269, 270, 271, 272, 373, 374, 375, 480, 481, 482, 483, 484, 485, 486, 487, 488, 489, 490, 491, 492, 493, 494, 495, 496, 497] (by decide +kernel) (by decide +kernel)) (goodIn_sub (fun _ h => List.mem_append_left _ (List.mem_append_left _ (List.mem_append_right _ h))) (by decide +kernel))
set_option maxRecDepth 20000 in
theorem gL_law_L_fewest : GoodIn wsL_law (va_wsS RL 142 yL_fewest wsL_fewest) := goodIn_app (goodIn_of _ (by decide +kernel)) ggL_law_L_fewest
set_option maxRecDepth 20000 in
theorem ggL_law_X1_fewest : GoodIn wsL_law wsX1_fewest := goodIn_r _ [379, 73, 154, 155, 5, 156, 75, 76, 77, 78, 305, 306, 307, 308, 50, 74, 37, 43, 40, 309, 310, 311, 312, 498, 499, 500, 501, 502, 503, 504, 505, 506, 507, 508, 509, 510, 511, 512, 513, 514, 515, 516] (by decide +kernel) (by decide +kernel)
set_option maxRecDepth 20000 in
theorem gL_law_X1_fewest : GoodIn wsL_law (wsV RL 144 RX1 yX1_fewest wsX1_fewest) := goodIn_app (goodIn_of _ (by decide +kernel)) ggL_law_X1_fewest
set_option maxRecDepth 20000 in
theorem ggL_law_L_part : GoodIn wsL_law wsL_part := goodIn_ca (goodIn_ca (goodIn_r _ [382, 55, 86, 383, 384, 385, 2, 386, 17, 244, 370, 371, 372, 61, 62, 95, 96, 97, 98, 99, 100, 13, 249, 250, 251, 252, 91, 92, 93, 94, 31, 253, 254, 255, 256, 257, 15, 258, 259, 260, 261, 262, 263, 264, 265, 266, 267, 268, 269, 270, 271, 272, 281, 282, 283, 284, 285, 480, 481, 482, 483, 484, 485, 486, 487, 488, 489, 490, 491, 492, 493, 494, 495, 496, 497] (by decide +kernel) (by decide +kernel)) (goodIn_sub (fun _ h => List.mem_append_left _ (List.mem_append_left _ (List.mem_append_right _ h))) (by decide +kernel))) (goodIn_sub (fun _ h => List.mem_append_right _ h) (by decide +kernel))
set_option maxRecDepth 20000 in
theorem gL_law_L_part : GoodIn wsL_law (va_wsS RL 145 yL_part wsL_part) := goodIn_app (goodIn_of _ (by decide +kernel)) ggL_law_L_part
set_option maxRecDepth 20000 in
theorem ggL_law_X1_part : GoodIn wsL_law wsX1_part := goodIn_r _ [390, 73, 154, 155, 5, 156, 75, 76, 77, 78, 109, 110, 111, 112, 74, 305, 306, 307, 308, 50, 37, 43, 40, 309, 310, 311, 312, 313, 314, 315, 316, 108, 92, 93, 94, 498, 499, 500, 501, 502, 503, 504, 505, 506, 507, 508, 509, 510, 511, 512, 513, 514, 515, 516] (by decide +kernel) (by decide +kernel)
set_option maxRecDepth 20000 in
theorem gL_law_X1_part : GoodIn wsL_law (wsV RL 147 RX1 yX1_part wsX1_part) := goodIn_app (goodIn_of _ (by decide +kernel)) ggL_law_X1_part
set_option maxRecDepth 20000 in
theorem ggL_law_L_below : GoodIn wsL_law wsL_below := goodIn_ca (goodIn_r _ [393, 55, 394, 395, 396, 2, 397, 17, 244, 370, 371, 372, 61, 62, 249, 250, 251, 252, 91, 92, 93, 94, 31, 13, 253, 254, 255, 256, 257, 15, 258, 259, 260, 261, 262, 263, 264, 265, 266, 267, 268, 269, 270, 271, 272, 480, 481, 482, 483, 484, 485, 486, 487, 488, 489, 490, 491, 492, 493, 494, 495, 496, 497] (by decide +kernel) (by decide +kernel)) (goodIn_sub (fun _ h => List.mem_append_left _ (List.mem_append_left _ (List.mem_append_right _ h))) (by decide +kernel))
set_option maxRecDepth 20000 in
theorem gL_law_L_below : GoodIn wsL_law (va_wsS RL 148 yL_below wsL_below) := goodIn_app (goodIn_of _ (by decide +kernel)) ggL_law_L_below
set_option maxRecDepth 20000 in
theorem ggL_law_X1_below : GoodIn wsL_law wsX1_below := goodIn_r _ [401, 73, 154, 155, 5, 156, 75, 76, 77, 78, 305, 306, 307, 308, 50, 74, 37, 43, 40, 309, 310, 311, 312, 498, 499, 500, 501, 502, 503, 504, 505, 506, 507, 508, 509, 510, 511, 512, 513, 514, 515, 516] (by decide +kernel) (by decide +kernel)
set_option maxRecDepth 20000 in
theorem gL_law_X1_below : GoodIn wsL_law (wsV RL 150 RX1 yX1_below wsX1_below) := goodIn_app (goodIn_of _ (by decide +kernel)) ggL_law_X1_below
set_option maxRecDepth 20000 in
theorem ggL_law_L_gaps : GoodIn wsL_law wsL_gaps := goodIn_ca (goodIn_r _ [404, 55, 405, 406, 407, 2, 408, 17, 244, 370, 371, 372, 61, 62, 409, 410, 411, 412, 13, 413, 414, 415, 416, 15, 249, 250, 251, 252, 91, 92, 93, 94, 31, 253, 254, 255, 256, 257, 258, 259, 260, 261, 262, 263, 264, 265, 266, 267, 268, 269, 270, 271, 272, 480, 481, 482, 483, 484, 485, 486, 487, 488, 489, 490, 491, 492, 493, 494, 495, 496, 497] (by decide +kernel) (by decide +kernel)) (goodIn_sub (fun _ h => List.mem_append_left _ (List.mem_append_left _ (List.mem_append_right _ h))) (by decide +kernel))
set_option maxRecDepth 20000 in
theorem gL_law_L_gaps : GoodIn wsL_law (va_wsS RL 151 yL_gaps wsL_gaps) := goodIn_app (goodIn_of _ (by decide +kernel)) ggL_law_L_gaps
set_option maxRecDepth 20000 in
theorem ggL_law_X1_gaps : GoodIn wsL_law wsX1_gaps := goodIn_r _ [420, 73, 154, 155, 5, 156, 75, 76, 77, 78, 305, 306, 307, 308, 50, 74, 37, 43, 40, 421, 422, 423, 424, 309, 310, 311, 312, 498, 499, 500, 501, 502, 503, 504, 505, 506, 507, 508, 509, 510, 511, 512, 513, 514, 515, 516] (by decide +kernel) (by decide +kernel)
set_option maxRecDepth 20000 in
theorem gL_law_X1_gaps : GoodIn wsL_law (wsV RL 153 RX1 yX1_gaps wsX1_gaps) := goodIn_app (goodIn_of _ (by decide +kernel)) ggL_law_X1_gaps
set_option maxRecDepth 20000 in
theorem ggL_law_X0_unit : GoodIn wsL_law wsX0_unit := goodIn_r _ [412, 13, 413, 414, 415, 2, 416, 15, 480, 481, 482, 483, 484, 485, 486, 487, 488, 489, 490, 491, 492, 493, 494, 495, 496, 497] (by decide +kernel) (by decide +kernel)
set_option maxRecDepth 20000 in
theorem gL_law_X0_unit : GoodIn wsL_law (wsV RL 154 RX0 yX0_unit wsX0_unit) := goodIn_app (goodIn_of _ (by decide +kernel)) ggL_law_X0_unit
set_option maxRecDepth 20000 in
theorem ggL_law_X1_unit : GoodIn wsL_law wsX1_unit := goodIn_r _ [429, 73, 421, 422, 423, 5, 424, 74, 37, 498, 499, 500, 501, 502, 503, 504, 505, 506, 507, 508, 509, 510, 511, 512, 513, 514, 515, 516] (by decide +kernel) (by decide +kernel)
set_option maxRecDepth 20000 in
theorem gL_law_X1_unit : GoodIn wsL_law (wsV RL 157 RX1 yX1_unit wsX1_unit) := goodIn_app (goodIn_of _ (by decide +kernel)) ggL_law_X1_unit
set_option maxRecDepth 20000 in
theorem ggL_law_X0_lamp : GoodIn wsL_law wsX0_lamp := goodIn_r _ [433, 17, 22, 24, 23, 249, 250, 251, 2, 252, 91, 92, 93, 94, 31, 244, 13, 253, 254, 255, 256, 257, 15, 258, 259, 260, 261, 262, 263, 264, 265, 266, 267, 268, 434, 435, 436, 437, 21, 438, 439, 440, 269, 270, 271, 272, 480, 481, 482, 483, 484, 485, 486, 487, 488, 489, 490, 491, 492, 493, 494, 495, 496, 497] (by decide +kernel) (by decide +kernel)
set_option maxRecDepth 20000 in
theorem gL_law_X0_lamp : GoodIn wsL_law (wsV RL 158 RX0 yX0_lamp wsX0_lamp) := goodIn_app (goodIn_of _ (by decide +kernel)) ggL_law_X0_lamp
set_option maxRecDepth 20000 in
theorem ggL_law_X1_lamp : GoodIn wsL_law wsX1_lamp := goodIn_r _ [444, 73, 171, 74, 45, 39, 44, 37, 305, 306, 307, 5, 308, 50, 43, 40, 309, 310, 311, 312, 498, 499, 500, 501, 502, 503, 504, 505, 506, 507, 508, 509, 510, 511, 512, 513, 514, 515, 516] (by decide +kernel) (by decide +kernel)
set_option maxRecDepth 20000 in
theorem gL_law_X1_lamp : GoodIn wsL_law (wsV RL 161 RX1 yX1_lamp wsX1_lamp) := goodIn_app (goodIn_of _ (by decide +kernel)) ggL_law_X1_lamp
set_option maxRecDepth 20000 in
theorem ggL_law_L_audit : GoodIn wsL_law wsL_audit := goodIn_ca (goodIn_r _ [447, 86, 448, 449, 450, 2, 451, 99, 100, 30, 480, 481, 482, 483, 484, 485, 486, 487, 488, 489, 490, 491, 492, 493, 494, 495, 496, 497] (by decide +kernel) (by decide +kernel)) (goodIn_sub (fun _ h => List.mem_append_right _ h) (by decide +kernel))
set_option maxRecDepth 20000 in
theorem gL_law_L_audit : GoodIn wsL_law (va_wsS RL 162 yL_audit wsL_audit) := goodIn_app (goodIn_of _ (by decide +kernel)) ggL_law_L_audit
set_option maxRecDepth 20000 in
theorem ggL_law_X1_audit : GoodIn wsL_law wsX1_audit := goodIn_r _ [455, 73, 49, 498, 499, 500, 501, 502, 503, 504, 505, 506, 507, 508, 509, 510, 511, 512, 513, 514, 515, 516] (by decide +kernel) (by decide +kernel)
set_option maxRecDepth 20000 in
theorem gL_law_X1_audit : GoodIn wsL_law (wsV RL 164 RX1 yX1_audit wsX1_audit) := goodIn_app (goodIn_of _ (by decide +kernel)) ggL_law_X1_audit
set_option maxRecDepth 20000 in
theorem ggL_law_X0_exactShare : GoodIn wsL_law wsX0_exactShare := goodIn_r _ [459, 30, 480, 481, 482, 483, 484, 485, 486, 487, 488, 489, 490, 491, 492, 493, 494, 495, 496, 497] (by decide +kernel) (by decide +kernel)
set_option maxRecDepth 20000 in
theorem gL_law_X0_exactShare : GoodIn wsL_law (wsV RL 165 RX0 yX0_exactShare wsX0_exactShare) := goodIn_app (goodIn_of _ (by decide +kernel)) ggL_law_X0_exactShare
set_option maxRecDepth 20000 in
theorem ggL_law_X1_exactShare : GoodIn wsL_law wsX1_exactShare := goodIn_r _ [463, 73, 49, 498, 499, 500, 501, 502, 503, 504, 505, 506, 507, 508, 509, 510, 511, 512, 513, 514, 515, 516] (by decide +kernel) (by decide +kernel)
set_option maxRecDepth 20000 in
theorem gL_law_X1_exactShare : GoodIn wsL_law (wsV RL 169 RX1 yX1_exactShare wsX1_exactShare) := goodIn_app (goodIn_of _ (by decide +kernel)) ggL_law_X1_exactShare
set_option maxRecDepth 20000 in
theorem ggL_law_X0_digest : GoodIn wsL_law wsX0_digest := goodIn_r _ [467, 468, 469, 25, 22, 23, 24, 26, 27, 30, 470, 471, 472, 2, 473, 13, 21, 351, 352, 353, 354, 15, 17, 18, 19, 480, 481, 482, 483, 484, 485, 486, 487, 488, 489, 490, 491, 492, 493, 494, 495, 496, 497] (by decide +kernel) (by decide +kernel)
set_option maxRecDepth 20000 in
theorem gL_law_X0_digest : GoodIn wsL_law (wsV RL 170 RX0 yX0_digest wsX0_digest) := goodIn_app (goodIn_of _ (by decide +kernel)) ggL_law_X0_digest
set_option maxRecDepth 20000 in
theorem ggL_law_X1_digest : GoodIn wsL_law wsX1_digest := goodIn_r _ [477, 73, 478, 74, 479, 39, 46, 171, 44, 45, 224, 47, 49, 359, 360, 361, 5, 362, 37, 40, 41, 42, 498, 499, 500, 501, 502, 503, 504, 505, 506, 507, 508, 509, 510, 511, 512, 513, 514, 515, 516] (by decide +kernel) (by decide +kernel)
set_option maxRecDepth 20000 in
theorem gL_law_X1_digest : GoodIn wsL_law (wsV RL 174 RX1 yX1_digest wsX1_digest) := goodIn_app (goodIn_of _ (by decide +kernel)) ggL_law_X1_digest
theorem dL_law_0 : decode cL_law 0 = .ok (.new 8, 3) := by decide +kernel
theorem dL_law_3 : decode cL_law 3 = .ok (.dup, 1) := by decide +kernel
theorem dL_law_4 : decode cL_law 4 = .ok (.invokespecial 76, 3) := by decide +kernel
theorem dL_law_7 : decode cL_law 7 = .ok (.astore_n 1, 1) := by decide +kernel
theorem dL_law_8 : decode cL_law 8 = .ok (.new 77, 3) := by decide +kernel
theorem dL_law_11 : decode cL_law 11 = .ok (.dup, 1) := by decide +kernel
theorem dL_law_12 : decode cL_law 12 = .ok (.invokespecial 79, 3) := by decide +kernel
theorem dL_law_15 : decode cL_law 15 = .ok (.astore_n 2, 1) := by decide +kernel
theorem dL_law_16 : decode cL_law 16 = .ok (.iconst 1, 1) := by decide +kernel
theorem dL_law_17 : decode cL_law 17 = .ok (.newarray .long, 2) := by decide +kernel
theorem dL_law_19 : decode cL_law 19 = .ok (.astore_n 3, 1) := by decide +kernel
theorem dL_law_20 : decode cL_law 20 = .ok (.iconst 0, 1) := by decide +kernel
theorem dL_law_21 : decode cL_law 21 = .ok (.istore 4, 2) := by decide +kernel
theorem dL_law_23 : decode cL_law 23 = .ok (.iload 4, 2) := by decide +kernel
theorem dL_law_25 : decode cL_law 25 = .ok (.aload_n 0, 1) := by decide +kernel
theorem dL_law_26 : decode cL_law 26 = .ok (.arraylength, 1) := by decide +kernel
theorem dL_law_27 : decode cL_law 27 = .ok (.iconst 4, 1) := by decide +kernel
theorem dL_law_28 : decode cL_law 28 = .ok (.isub, 1) := by decide +kernel
theorem dL_law_29 : decode cL_law 29 = .ok (.if_icmp .gt 1410, 3) := by decide +kernel
theorem dL_law_32 : decode cL_law 32 = .ok (.aload_n 0, 1) := by decide +kernel
theorem dL_law_33 : decode cL_law 33 = .ok (.iload 4, 2) := by decide +kernel
theorem dL_law_35 : decode cL_law 35 = .ok (.iaload, 1) := by decide +kernel
theorem dL_law_36 : decode cL_law 36 = .ok (.bipush 31, 2) := by decide +kernel
theorem dL_law_38 : decode cL_law 38 = .ok (.iand, 1) := by decide +kernel
theorem dL_law_39 : decode cL_law 39 = .ok (.tableswitch 1394 0 24 #[113, 181, 249, 317, 330, 421, 477, 545, 625, 709, 765, 778, 834, 885, 898, 954, 1022, 1078, 1146, 1202, 1258, 1271, 1284, 1339, 1380], 113) := by decide +kernel
theorem dL_law_152 : decode cL_law 152 = .ok (.aload_n 1, 1) := by decide +kernel
theorem dL_law_153 : decode cL_law 153 = .ok (.aload_n 0, 1) := by decide +kernel
theorem dL_law_154 : decode cL_law 154 = .ok (.iload 4, 2) := by decide +kernel
theorem dL_law_156 : decode cL_law 156 = .ok (.iconst 1, 1) := by decide +kernel
theorem dL_law_157 : decode cL_law 157 = .ok (.iadd, 1) := by decide +kernel
theorem dL_law_158 : decode cL_law 158 = .ok (.iaload, 1) := by decide +kernel
theorem dL_law_159 : decode cL_law 159 = .ok (.aload_n 0, 1) := by decide +kernel
theorem dL_law_160 : decode cL_law 160 = .ok (.iload 4, 2) := by decide +kernel
theorem dL_law_162 : decode cL_law 162 = .ok (.iconst 2, 1) := by decide +kernel
theorem dL_law_163 : decode cL_law 163 = .ok (.iadd, 1) := by decide +kernel
theorem dL_law_164 : decode cL_law 164 = .ok (.iaload, 1) := by decide +kernel
theorem dL_law_165 : decode cL_law 165 = .ok (.aload_n 3, 1) := by decide +kernel
theorem dL_law_166 : decode cL_law 166 = .ok (.invokestatic 80, 3) := by decide +kernel
theorem dL_law_169 : decode cL_law 169 = .ok (.istore 5, 2) := by decide +kernel
theorem dL_law_171 : decode cL_law 171 = .ok (.aload_n 2, 1) := by decide +kernel
theorem dL_law_172 : decode cL_law 172 = .ok (.aload_n 0, 1) := by decide +kernel
theorem dL_law_173 : decode cL_law 173 = .ok (.iload 4, 2) := by decide +kernel
theorem dL_law_175 : decode cL_law 175 = .ok (.iconst 1, 1) := by decide +kernel
theorem dL_law_176 : decode cL_law 176 = .ok (.iadd, 1) := by decide +kernel
theorem dL_law_177 : decode cL_law 177 = .ok (.iaload, 1) := by decide +kernel
theorem dL_law_178 : decode cL_law 178 = .ok (.aload_n 0, 1) := by decide +kernel
theorem dL_law_179 : decode cL_law 179 = .ok (.iload 4, 2) := by decide +kernel
theorem dL_law_181 : decode cL_law 181 = .ok (.iconst 2, 1) := by decide +kernel
theorem dL_law_182 : decode cL_law 182 = .ok (.iadd, 1) := by decide +kernel
theorem dL_law_183 : decode cL_law 183 = .ok (.iaload, 1) := by decide +kernel
theorem dL_law_184 : decode cL_law 184 = .ok (.invokevirtual 85, 3) := by decide +kernel
theorem dL_law_187 : decode cL_law 187 = .ok (.istore 6, 2) := by decide +kernel
theorem dL_law_189 : decode cL_law 189 = .ok (.aload_n 2, 1) := by decide +kernel
theorem dL_law_190 : decode cL_law 190 = .ok (.invokevirtual 86, 3) := by decide +kernel
theorem dL_law_193 : decode cL_law 193 = .ok (.iload 5, 2) := by decide +kernel
theorem dL_law_195 : decode cL_law 195 = .ok (.if_icmp .eq 5, 3) := by decide +kernel
theorem dL_law_198 : decode cL_law 198 = .ok (.iconst 0, 1) := by decide +kernel
theorem dL_law_199 : decode cL_law 199 = .ok (.ireturn, 1) := by decide +kernel
theorem dL_law_200 : decode cL_law 200 = .ok (.iload 5, 2) := by decide +kernel
theorem dL_law_202 : decode cL_law 202 = .ok (.ifCond .ne 15, 3) := by decide +kernel
theorem dL_law_205 : decode cL_law 205 = .ok (.aload_n 3, 1) := by decide +kernel
theorem dL_law_206 : decode cL_law 206 = .ok (.iconst 0, 1) := by decide +kernel
theorem dL_law_207 : decode cL_law 207 = .ok (.laload, 1) := by decide +kernel
theorem dL_law_208 : decode cL_law 208 = .ok (.iload 6, 2) := by decide +kernel
theorem dL_law_210 : decode cL_law 210 = .ok (.i2l, 1) := by decide +kernel
theorem dL_law_211 : decode cL_law 211 = .ok (.lcmp, 1) := by decide +kernel
theorem dL_law_212 : decode cL_law 212 = .ok (.ifCond .eq 5, 3) := by decide +kernel
theorem dL_law_215 : decode cL_law 215 = .ok (.iconst 0, 1) := by decide +kernel
theorem dL_law_216 : decode cL_law 216 = .ok (.ireturn, 1) := by decide +kernel
theorem dL_law_217 : decode cL_law 217 = .ok (.goto 1216, 3) := by decide +kernel
theorem dL_law_220 : decode cL_law 220 = .ok (.aload_n 1, 1) := by decide +kernel
theorem dL_law_221 : decode cL_law 221 = .ok (.aload_n 0, 1) := by decide +kernel
theorem dL_law_222 : decode cL_law 222 = .ok (.iload 4, 2) := by decide +kernel
theorem dL_law_224 : decode cL_law 224 = .ok (.iconst 1, 1) := by decide +kernel
theorem dL_law_225 : decode cL_law 225 = .ok (.iadd, 1) := by decide +kernel
theorem dL_law_226 : decode cL_law 226 = .ok (.iaload, 1) := by decide +kernel
theorem dL_law_227 : decode cL_law 227 = .ok (.aload_n 0, 1) := by decide +kernel
theorem dL_law_228 : decode cL_law 228 = .ok (.iload 4, 2) := by decide +kernel
theorem dL_law_230 : decode cL_law 230 = .ok (.iconst 2, 1) := by decide +kernel
theorem dL_law_231 : decode cL_law 231 = .ok (.iadd, 1) := by decide +kernel
theorem dL_law_232 : decode cL_law 232 = .ok (.iaload, 1) := by decide +kernel
theorem dL_law_233 : decode cL_law 233 = .ok (.aload_n 3, 1) := by decide +kernel
theorem dL_law_234 : decode cL_law 234 = .ok (.invokestatic 90, 3) := by decide +kernel
theorem dL_law_237 : decode cL_law 237 = .ok (.istore 5, 2) := by decide +kernel
theorem dL_law_239 : decode cL_law 239 = .ok (.aload_n 2, 1) := by decide +kernel
theorem dL_law_240 : decode cL_law 240 = .ok (.aload_n 0, 1) := by decide +kernel
theorem dL_law_241 : decode cL_law 241 = .ok (.iload 4, 2) := by decide +kernel
theorem dL_law_243 : decode cL_law 243 = .ok (.iconst 1, 1) := by decide +kernel
theorem dL_law_244 : decode cL_law 244 = .ok (.iadd, 1) := by decide +kernel
theorem dL_law_245 : decode cL_law 245 = .ok (.iaload, 1) := by decide +kernel
theorem dL_law_246 : decode cL_law 246 = .ok (.aload_n 0, 1) := by decide +kernel
theorem dL_law_247 : decode cL_law 247 = .ok (.iload 4, 2) := by decide +kernel
theorem dL_law_249 : decode cL_law 249 = .ok (.iconst 2, 1) := by decide +kernel
theorem dL_law_250 : decode cL_law 250 = .ok (.iadd, 1) := by decide +kernel
theorem dL_law_251 : decode cL_law 251 = .ok (.iaload, 1) := by decide +kernel
theorem dL_law_252 : decode cL_law 252 = .ok (.invokevirtual 92, 3) := by decide +kernel
theorem dL_law_255 : decode cL_law 255 = .ok (.istore 6, 2) := by decide +kernel
theorem dL_law_257 : decode cL_law 257 = .ok (.aload_n 2, 1) := by decide +kernel
theorem dL_law_258 : decode cL_law 258 = .ok (.invokevirtual 86, 3) := by decide +kernel
theorem dL_law_261 : decode cL_law 261 = .ok (.iload 5, 2) := by decide +kernel
theorem dL_law_263 : decode cL_law 263 = .ok (.if_icmp .eq 5, 3) := by decide +kernel
theorem dL_law_266 : decode cL_law 266 = .ok (.iconst 0, 1) := by decide +kernel
theorem dL_law_267 : decode cL_law 267 = .ok (.ireturn, 1) := by decide +kernel
theorem dL_law_268 : decode cL_law 268 = .ok (.iload 5, 2) := by decide +kernel
theorem dL_law_270 : decode cL_law 270 = .ok (.ifCond .ne 15, 3) := by decide +kernel
theorem dL_law_273 : decode cL_law 273 = .ok (.aload_n 3, 1) := by decide +kernel
theorem dL_law_274 : decode cL_law 274 = .ok (.iconst 0, 1) := by decide +kernel
theorem dL_law_275 : decode cL_law 275 = .ok (.laload, 1) := by decide +kernel
theorem dL_law_276 : decode cL_law 276 = .ok (.iload 6, 2) := by decide +kernel
theorem dL_law_278 : decode cL_law 278 = .ok (.i2l, 1) := by decide +kernel
theorem dL_law_279 : decode cL_law 279 = .ok (.lcmp, 1) := by decide +kernel
theorem dL_law_280 : decode cL_law 280 = .ok (.ifCond .eq 5, 3) := by decide +kernel
theorem dL_law_283 : decode cL_law 283 = .ok (.iconst 0, 1) := by decide +kernel
theorem dL_law_284 : decode cL_law 284 = .ok (.ireturn, 1) := by decide +kernel
theorem dL_law_285 : decode cL_law 285 = .ok (.goto 1148, 3) := by decide +kernel
theorem dL_law_288 : decode cL_law 288 = .ok (.aload_n 1, 1) := by decide +kernel
theorem dL_law_289 : decode cL_law 289 = .ok (.aload_n 0, 1) := by decide +kernel
theorem dL_law_290 : decode cL_law 290 = .ok (.iload 4, 2) := by decide +kernel
theorem dL_law_292 : decode cL_law 292 = .ok (.iconst 1, 1) := by decide +kernel
theorem dL_law_293 : decode cL_law 293 = .ok (.iadd, 1) := by decide +kernel
theorem dL_law_294 : decode cL_law 294 = .ok (.iaload, 1) := by decide +kernel
theorem dL_law_295 : decode cL_law 295 = .ok (.aload_n 0, 1) := by decide +kernel
theorem dL_law_296 : decode cL_law 296 = .ok (.iload 4, 2) := by decide +kernel
theorem dL_law_298 : decode cL_law 298 = .ok (.iconst 2, 1) := by decide +kernel
theorem dL_law_299 : decode cL_law 299 = .ok (.iadd, 1) := by decide +kernel
theorem dL_law_300 : decode cL_law 300 = .ok (.iaload, 1) := by decide +kernel
theorem dL_law_301 : decode cL_law 301 = .ok (.aload_n 3, 1) := by decide +kernel
theorem dL_law_302 : decode cL_law 302 = .ok (.invokestatic 93, 3) := by decide +kernel
theorem dL_law_305 : decode cL_law 305 = .ok (.istore 5, 2) := by decide +kernel
theorem dL_law_307 : decode cL_law 307 = .ok (.aload_n 2, 1) := by decide +kernel
theorem dL_law_308 : decode cL_law 308 = .ok (.aload_n 0, 1) := by decide +kernel
theorem dL_law_309 : decode cL_law 309 = .ok (.iload 4, 2) := by decide +kernel
theorem dL_law_311 : decode cL_law 311 = .ok (.iconst 1, 1) := by decide +kernel
theorem dL_law_312 : decode cL_law 312 = .ok (.iadd, 1) := by decide +kernel
theorem dL_law_313 : decode cL_law 313 = .ok (.iaload, 1) := by decide +kernel
theorem dL_law_314 : decode cL_law 314 = .ok (.aload_n 0, 1) := by decide +kernel
theorem dL_law_315 : decode cL_law 315 = .ok (.iload 4, 2) := by decide +kernel
theorem dL_law_317 : decode cL_law 317 = .ok (.iconst 2, 1) := by decide +kernel
theorem dL_law_318 : decode cL_law 318 = .ok (.iadd, 1) := by decide +kernel
theorem dL_law_319 : decode cL_law 319 = .ok (.iaload, 1) := by decide +kernel
theorem dL_law_320 : decode cL_law 320 = .ok (.invokevirtual 95, 3) := by decide +kernel
theorem dL_law_323 : decode cL_law 323 = .ok (.istore 6, 2) := by decide +kernel
theorem dL_law_325 : decode cL_law 325 = .ok (.aload_n 2, 1) := by decide +kernel
theorem dL_law_326 : decode cL_law 326 = .ok (.invokevirtual 86, 3) := by decide +kernel
theorem dL_law_329 : decode cL_law 329 = .ok (.iload 5, 2) := by decide +kernel
theorem dL_law_331 : decode cL_law 331 = .ok (.if_icmp .eq 5, 3) := by decide +kernel
theorem dL_law_334 : decode cL_law 334 = .ok (.iconst 0, 1) := by decide +kernel
theorem dL_law_335 : decode cL_law 335 = .ok (.ireturn, 1) := by decide +kernel
theorem dL_law_336 : decode cL_law 336 = .ok (.iload 5, 2) := by decide +kernel
theorem dL_law_338 : decode cL_law 338 = .ok (.ifCond .ne 15, 3) := by decide +kernel
theorem dL_law_341 : decode cL_law 341 = .ok (.aload_n 3, 1) := by decide +kernel
theorem dL_law_342 : decode cL_law 342 = .ok (.iconst 0, 1) := by decide +kernel
theorem dL_law_343 : decode cL_law 343 = .ok (.laload, 1) := by decide +kernel
theorem dL_law_344 : decode cL_law 344 = .ok (.iload 6, 2) := by decide +kernel
theorem dL_law_346 : decode cL_law 346 = .ok (.i2l, 1) := by decide +kernel
theorem dL_law_347 : decode cL_law 347 = .ok (.lcmp, 1) := by decide +kernel
theorem dL_law_348 : decode cL_law 348 = .ok (.ifCond .eq 5, 3) := by decide +kernel
theorem dL_law_351 : decode cL_law 351 = .ok (.iconst 0, 1) := by decide +kernel
theorem dL_law_352 : decode cL_law 352 = .ok (.ireturn, 1) := by decide +kernel
theorem dL_law_353 : decode cL_law 353 = .ok (.goto 1080, 3) := by decide +kernel
theorem dL_law_356 : decode cL_law 356 = .ok (.aload_n 1, 1) := by decide +kernel
theorem dL_law_357 : decode cL_law 357 = .ok (.invokevirtual 96, 3) := by decide +kernel
theorem dL_law_360 : decode cL_law 360 = .ok (.aload_n 2, 1) := by decide +kernel
theorem dL_law_361 : decode cL_law 361 = .ok (.invokevirtual 99, 3) := by decide +kernel
theorem dL_law_364 : decode cL_law 364 = .ok (.if_icmp .eq 1069, 3) := by decide +kernel
theorem dL_law_367 : decode cL_law 367 = .ok (.iconst 0, 1) := by decide +kernel
theorem dL_law_368 : decode cL_law 368 = .ok (.ireturn, 1) := by decide +kernel
theorem dL_law_369 : decode cL_law 369 = .ok (.aload_n 1, 1) := by decide +kernel
theorem dL_law_370 : decode cL_law 370 = .ok (.aload_n 0, 1) := by decide +kernel
theorem dL_law_371 : decode cL_law 371 = .ok (.iload 4, 2) := by decide +kernel
theorem dL_law_373 : decode cL_law 373 = .ok (.iconst 1, 1) := by decide +kernel
theorem dL_law_374 : decode cL_law 374 = .ok (.iadd, 1) := by decide +kernel
theorem dL_law_375 : decode cL_law 375 = .ok (.iaload, 1) := by decide +kernel
theorem dL_law_376 : decode cL_law 376 = .ok (.aload_n 0, 1) := by decide +kernel
theorem dL_law_377 : decode cL_law 377 = .ok (.iload 4, 2) := by decide +kernel
theorem dL_law_379 : decode cL_law 379 = .ok (.iconst 2, 1) := by decide +kernel
theorem dL_law_380 : decode cL_law 380 = .ok (.iadd, 1) := by decide +kernel
theorem dL_law_381 : decode cL_law 381 = .ok (.iaload, 1) := by decide +kernel
theorem dL_law_382 : decode cL_law 382 = .ok (.ifCond .eq 7, 3) := by decide +kernel
theorem dL_law_385 : decode cL_law 385 = .ok (.iconst 1, 1) := by decide +kernel
theorem dL_law_386 : decode cL_law 386 = .ok (.goto 4, 3) := by decide +kernel
theorem dL_law_389 : decode cL_law 389 = .ok (.iconst 0, 1) := by decide +kernel
theorem dL_law_390 : decode cL_law 390 = .ok (.aload_n 3, 1) := by decide +kernel
theorem dL_law_391 : decode cL_law 391 = .ok (.invokestatic 100, 3) := by decide +kernel
theorem dL_law_394 : decode cL_law 394 = .ok (.istore 5, 2) := by decide +kernel
theorem dL_law_396 : decode cL_law 396 = .ok (.aload_n 2, 1) := by decide +kernel
theorem dL_law_397 : decode cL_law 397 = .ok (.aload_n 0, 1) := by decide +kernel
theorem dL_law_398 : decode cL_law 398 = .ok (.iload 4, 2) := by decide +kernel
theorem dL_law_400 : decode cL_law 400 = .ok (.iconst 1, 1) := by decide +kernel
theorem dL_law_401 : decode cL_law 401 = .ok (.iadd, 1) := by decide +kernel
theorem dL_law_402 : decode cL_law 402 = .ok (.iaload, 1) := by decide +kernel
theorem dL_law_403 : decode cL_law 403 = .ok (.aload_n 0, 1) := by decide +kernel
theorem dL_law_404 : decode cL_law 404 = .ok (.iload 4, 2) := by decide +kernel
theorem dL_law_406 : decode cL_law 406 = .ok (.iconst 2, 1) := by decide +kernel
theorem dL_law_407 : decode cL_law 407 = .ok (.iadd, 1) := by decide +kernel
theorem dL_law_408 : decode cL_law 408 = .ok (.iaload, 1) := by decide +kernel
theorem dL_law_409 : decode cL_law 409 = .ok (.ifCond .eq 7, 3) := by decide +kernel
theorem dL_law_412 : decode cL_law 412 = .ok (.iconst 1, 1) := by decide +kernel
theorem dL_law_413 : decode cL_law 413 = .ok (.goto 4, 3) := by decide +kernel
theorem dL_law_416 : decode cL_law 416 = .ok (.iconst 0, 1) := by decide +kernel
theorem dL_law_417 : decode cL_law 417 = .ok (.invokevirtual 103, 3) := by decide +kernel
theorem dL_law_420 : decode cL_law 420 = .ok (.istore 6, 2) := by decide +kernel
theorem dL_law_422 : decode cL_law 422 = .ok (.aload_n 2, 1) := by decide +kernel
theorem dL_law_423 : decode cL_law 423 = .ok (.invokevirtual 86, 3) := by decide +kernel
theorem dL_law_426 : decode cL_law 426 = .ok (.iload 5, 2) := by decide +kernel
theorem dL_law_428 : decode cL_law 428 = .ok (.if_icmp .eq 5, 3) := by decide +kernel
theorem dL_law_431 : decode cL_law 431 = .ok (.iconst 0, 1) := by decide +kernel
theorem dL_law_432 : decode cL_law 432 = .ok (.ireturn, 1) := by decide +kernel
theorem dL_law_433 : decode cL_law 433 = .ok (.iload 5, 2) := by decide +kernel
theorem dL_law_435 : decode cL_law 435 = .ok (.ifCond .ne 22, 3) := by decide +kernel
theorem dL_law_438 : decode cL_law 438 = .ok (.aload_n 3, 1) := by decide +kernel
theorem dL_law_439 : decode cL_law 439 = .ok (.iconst 0, 1) := by decide +kernel
theorem dL_law_440 : decode cL_law 440 = .ok (.laload, 1) := by decide +kernel
theorem dL_law_441 : decode cL_law 441 = .ok (.iload 6, 2) := by decide +kernel
theorem dL_law_443 : decode cL_law 443 = .ok (.ifCond .eq 7, 3) := by decide +kernel
theorem dL_law_446 : decode cL_law 446 = .ok (.lconst 1, 1) := by decide +kernel
theorem dL_law_447 : decode cL_law 447 = .ok (.goto 4, 3) := by decide +kernel
theorem dL_law_450 : decode cL_law 450 = .ok (.lconst 0, 1) := by decide +kernel
theorem dL_law_451 : decode cL_law 451 = .ok (.lcmp, 1) := by decide +kernel
theorem dL_law_452 : decode cL_law 452 = .ok (.ifCond .eq 5, 3) := by decide +kernel
theorem dL_law_455 : decode cL_law 455 = .ok (.iconst 0, 1) := by decide +kernel
theorem dL_law_456 : decode cL_law 456 = .ok (.ireturn, 1) := by decide +kernel
theorem dL_law_457 : decode cL_law 457 = .ok (.goto 976, 3) := by decide +kernel
theorem dL_law_460 : decode cL_law 460 = .ok (.aload_n 1, 1) := by decide +kernel
theorem dL_law_461 : decode cL_law 461 = .ok (.aload_n 0, 1) := by decide +kernel
theorem dL_law_462 : decode cL_law 462 = .ok (.iload 4, 2) := by decide +kernel
theorem dL_law_464 : decode cL_law 464 = .ok (.iconst 1, 1) := by decide +kernel
theorem dL_law_465 : decode cL_law 465 = .ok (.iadd, 1) := by decide +kernel
theorem dL_law_466 : decode cL_law 466 = .ok (.iaload, 1) := by decide +kernel
theorem dL_law_467 : decode cL_law 467 = .ok (.aload_n 3, 1) := by decide +kernel
theorem dL_law_468 : decode cL_law 468 = .ok (.invokestatic 104, 3) := by decide +kernel
theorem dL_law_471 : decode cL_law 471 = .ok (.istore 5, 2) := by decide +kernel
theorem dL_law_473 : decode cL_law 473 = .ok (.aload_n 2, 1) := by decide +kernel
theorem dL_law_474 : decode cL_law 474 = .ok (.aload_n 0, 1) := by decide +kernel
theorem dL_law_475 : decode cL_law 475 = .ok (.iload 4, 2) := by decide +kernel
theorem dL_law_477 : decode cL_law 477 = .ok (.iconst 1, 1) := by decide +kernel
theorem dL_law_478 : decode cL_law 478 = .ok (.iadd, 1) := by decide +kernel
theorem dL_law_479 : decode cL_law 479 = .ok (.iaload, 1) := by decide +kernel
theorem dL_law_480 : decode cL_law 480 = .ok (.invokevirtual 107, 3) := by decide +kernel
theorem dL_law_483 : decode cL_law 483 = .ok (.istore 6, 2) := by decide +kernel
theorem dL_law_485 : decode cL_law 485 = .ok (.aload_n 2, 1) := by decide +kernel
theorem dL_law_486 : decode cL_law 486 = .ok (.invokevirtual 86, 3) := by decide +kernel
theorem dL_law_489 : decode cL_law 489 = .ok (.iload 5, 2) := by decide +kernel
theorem dL_law_491 : decode cL_law 491 = .ok (.if_icmp .eq 5, 3) := by decide +kernel
theorem dL_law_494 : decode cL_law 494 = .ok (.iconst 0, 1) := by decide +kernel
theorem dL_law_495 : decode cL_law 495 = .ok (.ireturn, 1) := by decide +kernel
theorem dL_law_496 : decode cL_law 496 = .ok (.iload 5, 2) := by decide +kernel
theorem dL_law_498 : decode cL_law 498 = .ok (.ifCond .ne 15, 3) := by decide +kernel
theorem dL_law_501 : decode cL_law 501 = .ok (.aload_n 3, 1) := by decide +kernel
theorem dL_law_502 : decode cL_law 502 = .ok (.iconst 0, 1) := by decide +kernel
theorem dL_law_503 : decode cL_law 503 = .ok (.laload, 1) := by decide +kernel
theorem dL_law_504 : decode cL_law 504 = .ok (.iload 6, 2) := by decide +kernel
theorem dL_law_506 : decode cL_law 506 = .ok (.i2l, 1) := by decide +kernel
theorem dL_law_507 : decode cL_law 507 = .ok (.lcmp, 1) := by decide +kernel
theorem dL_law_508 : decode cL_law 508 = .ok (.ifCond .eq 5, 3) := by decide +kernel
theorem dL_law_511 : decode cL_law 511 = .ok (.iconst 0, 1) := by decide +kernel
theorem dL_law_512 : decode cL_law 512 = .ok (.ireturn, 1) := by decide +kernel
theorem dL_law_513 : decode cL_law 513 = .ok (.goto 920, 3) := by decide +kernel
theorem dL_law_516 : decode cL_law 516 = .ok (.aload_n 1, 1) := by decide +kernel
theorem dL_law_517 : decode cL_law 517 = .ok (.aload_n 0, 1) := by decide +kernel
theorem dL_law_518 : decode cL_law 518 = .ok (.iload 4, 2) := by decide +kernel
theorem dL_law_520 : decode cL_law 520 = .ok (.iconst 1, 1) := by decide +kernel
theorem dL_law_521 : decode cL_law 521 = .ok (.iadd, 1) := by decide +kernel
theorem dL_law_522 : decode cL_law 522 = .ok (.iaload, 1) := by decide +kernel
theorem dL_law_523 : decode cL_law 523 = .ok (.aload_n 0, 1) := by decide +kernel
theorem dL_law_524 : decode cL_law 524 = .ok (.iload 4, 2) := by decide +kernel
theorem dL_law_526 : decode cL_law 526 = .ok (.iconst 2, 1) := by decide +kernel
theorem dL_law_527 : decode cL_law 527 = .ok (.iadd, 1) := by decide +kernel
theorem dL_law_528 : decode cL_law 528 = .ok (.iaload, 1) := by decide +kernel
theorem dL_law_529 : decode cL_law 529 = .ok (.aload_n 3, 1) := by decide +kernel
theorem dL_law_530 : decode cL_law 530 = .ok (.invokestatic 108, 3) := by decide +kernel
theorem dL_law_533 : decode cL_law 533 = .ok (.istore 5, 2) := by decide +kernel
theorem dL_law_535 : decode cL_law 535 = .ok (.aload_n 2, 1) := by decide +kernel
theorem dL_law_536 : decode cL_law 536 = .ok (.aload_n 0, 1) := by decide +kernel
theorem dL_law_537 : decode cL_law 537 = .ok (.iload 4, 2) := by decide +kernel
theorem dL_law_539 : decode cL_law 539 = .ok (.iconst 1, 1) := by decide +kernel
theorem dL_law_540 : decode cL_law 540 = .ok (.iadd, 1) := by decide +kernel
theorem dL_law_541 : decode cL_law 541 = .ok (.iaload, 1) := by decide +kernel
theorem dL_law_542 : decode cL_law 542 = .ok (.aload_n 0, 1) := by decide +kernel
theorem dL_law_543 : decode cL_law 543 = .ok (.iload 4, 2) := by decide +kernel
theorem dL_law_545 : decode cL_law 545 = .ok (.iconst 2, 1) := by decide +kernel
theorem dL_law_546 : decode cL_law 546 = .ok (.iadd, 1) := by decide +kernel
theorem dL_law_547 : decode cL_law 547 = .ok (.iaload, 1) := by decide +kernel
theorem dL_law_548 : decode cL_law 548 = .ok (.invokevirtual 110, 3) := by decide +kernel
theorem dL_law_551 : decode cL_law 551 = .ok (.istore 6, 2) := by decide +kernel
theorem dL_law_553 : decode cL_law 553 = .ok (.aload_n 2, 1) := by decide +kernel
theorem dL_law_554 : decode cL_law 554 = .ok (.invokevirtual 86, 3) := by decide +kernel
theorem dL_law_557 : decode cL_law 557 = .ok (.iload 5, 2) := by decide +kernel
theorem dL_law_559 : decode cL_law 559 = .ok (.if_icmp .eq 5, 3) := by decide +kernel
theorem dL_law_562 : decode cL_law 562 = .ok (.iconst 0, 1) := by decide +kernel
theorem dL_law_563 : decode cL_law 563 = .ok (.ireturn, 1) := by decide +kernel
theorem dL_law_564 : decode cL_law 564 = .ok (.iload 5, 2) := by decide +kernel
theorem dL_law_566 : decode cL_law 566 = .ok (.ifCond .ne 15, 3) := by decide +kernel
theorem dL_law_569 : decode cL_law 569 = .ok (.aload_n 3, 1) := by decide +kernel
theorem dL_law_570 : decode cL_law 570 = .ok (.iconst 0, 1) := by decide +kernel
theorem dL_law_571 : decode cL_law 571 = .ok (.laload, 1) := by decide +kernel
theorem dL_law_572 : decode cL_law 572 = .ok (.iload 6, 2) := by decide +kernel
theorem dL_law_574 : decode cL_law 574 = .ok (.i2l, 1) := by decide +kernel
theorem dL_law_575 : decode cL_law 575 = .ok (.lcmp, 1) := by decide +kernel
theorem dL_law_576 : decode cL_law 576 = .ok (.ifCond .eq 5, 3) := by decide +kernel
theorem dL_law_579 : decode cL_law 579 = .ok (.iconst 0, 1) := by decide +kernel
theorem dL_law_580 : decode cL_law 580 = .ok (.ireturn, 1) := by decide +kernel
theorem dL_law_581 : decode cL_law 581 = .ok (.goto 852, 3) := by decide +kernel
theorem dL_law_584 : decode cL_law 584 = .ok (.aload_n 1, 1) := by decide +kernel
theorem dL_law_585 : decode cL_law 585 = .ok (.aload_n 0, 1) := by decide +kernel
theorem dL_law_586 : decode cL_law 586 = .ok (.iload 4, 2) := by decide +kernel
theorem dL_law_588 : decode cL_law 588 = .ok (.iconst 1, 1) := by decide +kernel
theorem dL_law_589 : decode cL_law 589 = .ok (.iadd, 1) := by decide +kernel
theorem dL_law_590 : decode cL_law 590 = .ok (.iaload, 1) := by decide +kernel
theorem dL_law_591 : decode cL_law 591 = .ok (.aload_n 0, 1) := by decide +kernel
theorem dL_law_592 : decode cL_law 592 = .ok (.iload 4, 2) := by decide +kernel
theorem dL_law_594 : decode cL_law 594 = .ok (.iconst 2, 1) := by decide +kernel
theorem dL_law_595 : decode cL_law 595 = .ok (.iadd, 1) := by decide +kernel
theorem dL_law_596 : decode cL_law 596 = .ok (.iaload, 1) := by decide +kernel
theorem dL_law_597 : decode cL_law 597 = .ok (.aload_n 0, 1) := by decide +kernel
theorem dL_law_598 : decode cL_law 598 = .ok (.iload 4, 2) := by decide +kernel
theorem dL_law_600 : decode cL_law 600 = .ok (.iconst 3, 1) := by decide +kernel
theorem dL_law_601 : decode cL_law 601 = .ok (.iadd, 1) := by decide +kernel
theorem dL_law_602 : decode cL_law 602 = .ok (.iaload, 1) := by decide +kernel
theorem dL_law_603 : decode cL_law 603 = .ok (.aload_n 3, 1) := by decide +kernel
theorem dL_law_604 : decode cL_law 604 = .ok (.invokestatic 111, 3) := by decide +kernel
theorem dL_law_607 : decode cL_law 607 = .ok (.istore 5, 2) := by decide +kernel
theorem dL_law_609 : decode cL_law 609 = .ok (.aload_n 2, 1) := by decide +kernel
theorem dL_law_610 : decode cL_law 610 = .ok (.aload_n 0, 1) := by decide +kernel
theorem dL_law_611 : decode cL_law 611 = .ok (.iload 4, 2) := by decide +kernel
theorem dL_law_613 : decode cL_law 613 = .ok (.iconst 1, 1) := by decide +kernel
theorem dL_law_614 : decode cL_law 614 = .ok (.iadd, 1) := by decide +kernel
theorem dL_law_615 : decode cL_law 615 = .ok (.iaload, 1) := by decide +kernel
theorem dL_law_616 : decode cL_law 616 = .ok (.aload_n 0, 1) := by decide +kernel
theorem dL_law_617 : decode cL_law 617 = .ok (.iload 4, 2) := by decide +kernel
theorem dL_law_619 : decode cL_law 619 = .ok (.iconst 2, 1) := by decide +kernel
theorem dL_law_620 : decode cL_law 620 = .ok (.iadd, 1) := by decide +kernel
theorem dL_law_621 : decode cL_law 621 = .ok (.iaload, 1) := by decide +kernel
theorem dL_law_622 : decode cL_law 622 = .ok (.aload_n 0, 1) := by decide +kernel
theorem dL_law_623 : decode cL_law 623 = .ok (.iload 4, 2) := by decide +kernel
theorem dL_law_625 : decode cL_law 625 = .ok (.iconst 3, 1) := by decide +kernel
theorem dL_law_626 : decode cL_law 626 = .ok (.iadd, 1) := by decide +kernel
theorem dL_law_627 : decode cL_law 627 = .ok (.iaload, 1) := by decide +kernel
theorem dL_law_628 : decode cL_law 628 = .ok (.invokevirtual 114, 3) := by decide +kernel
theorem dL_law_631 : decode cL_law 631 = .ok (.istore 6, 2) := by decide +kernel
theorem dL_law_633 : decode cL_law 633 = .ok (.aload_n 2, 1) := by decide +kernel
theorem dL_law_634 : decode cL_law 634 = .ok (.invokevirtual 86, 3) := by decide +kernel
theorem dL_law_637 : decode cL_law 637 = .ok (.iload 5, 2) := by decide +kernel
theorem dL_law_639 : decode cL_law 639 = .ok (.if_icmp .eq 5, 3) := by decide +kernel
theorem dL_law_642 : decode cL_law 642 = .ok (.iconst 0, 1) := by decide +kernel
theorem dL_law_643 : decode cL_law 643 = .ok (.ireturn, 1) := by decide +kernel
theorem dL_law_644 : decode cL_law 644 = .ok (.iload 5, 2) := by decide +kernel
theorem dL_law_646 : decode cL_law 646 = .ok (.ifCond .ne 15, 3) := by decide +kernel
theorem dL_law_649 : decode cL_law 649 = .ok (.aload_n 3, 1) := by decide +kernel
theorem dL_law_650 : decode cL_law 650 = .ok (.iconst 0, 1) := by decide +kernel
theorem dL_law_651 : decode cL_law 651 = .ok (.laload, 1) := by decide +kernel
theorem dL_law_652 : decode cL_law 652 = .ok (.iload 6, 2) := by decide +kernel
theorem dL_law_654 : decode cL_law 654 = .ok (.i2l, 1) := by decide +kernel
theorem dL_law_655 : decode cL_law 655 = .ok (.lcmp, 1) := by decide +kernel
theorem dL_law_656 : decode cL_law 656 = .ok (.ifCond .eq 5, 3) := by decide +kernel
theorem dL_law_659 : decode cL_law 659 = .ok (.iconst 0, 1) := by decide +kernel
theorem dL_law_660 : decode cL_law 660 = .ok (.ireturn, 1) := by decide +kernel
theorem dL_law_661 : decode cL_law 661 = .ok (.goto 772, 3) := by decide +kernel
theorem dL_law_664 : decode cL_law 664 = .ok (.aload_n 1, 1) := by decide +kernel
theorem dL_law_665 : decode cL_law 665 = .ok (.aload_n 0, 1) := by decide +kernel
theorem dL_law_666 : decode cL_law 666 = .ok (.iload 4, 2) := by decide +kernel
theorem dL_law_668 : decode cL_law 668 = .ok (.iconst 1, 1) := by decide +kernel
theorem dL_law_669 : decode cL_law 669 = .ok (.iadd, 1) := by decide +kernel
theorem dL_law_670 : decode cL_law 670 = .ok (.iaload, 1) := by decide +kernel
theorem dL_law_671 : decode cL_law 671 = .ok (.aload_n 0, 1) := by decide +kernel
theorem dL_law_672 : decode cL_law 672 = .ok (.iload 4, 2) := by decide +kernel
theorem dL_law_674 : decode cL_law 674 = .ok (.iconst 2, 1) := by decide +kernel
theorem dL_law_675 : decode cL_law 675 = .ok (.iadd, 1) := by decide +kernel
theorem dL_law_676 : decode cL_law 676 = .ok (.iaload, 1) := by decide +kernel
theorem dL_law_677 : decode cL_law 677 = .ok (.ifCond .eq 7, 3) := by decide +kernel
theorem dL_law_680 : decode cL_law 680 = .ok (.iconst 1, 1) := by decide +kernel
theorem dL_law_681 : decode cL_law 681 = .ok (.goto 4, 3) := by decide +kernel
theorem dL_law_684 : decode cL_law 684 = .ok (.iconst 0, 1) := by decide +kernel
theorem dL_law_685 : decode cL_law 685 = .ok (.aload_n 3, 1) := by decide +kernel
theorem dL_law_686 : decode cL_law 686 = .ok (.invokestatic 115, 3) := by decide +kernel
theorem dL_law_689 : decode cL_law 689 = .ok (.istore 5, 2) := by decide +kernel
theorem dL_law_691 : decode cL_law 691 = .ok (.aload_n 2, 1) := by decide +kernel
theorem dL_law_692 : decode cL_law 692 = .ok (.aload_n 0, 1) := by decide +kernel
theorem dL_law_693 : decode cL_law 693 = .ok (.iload 4, 2) := by decide +kernel
theorem dL_law_695 : decode cL_law 695 = .ok (.iconst 1, 1) := by decide +kernel
theorem dL_law_696 : decode cL_law 696 = .ok (.iadd, 1) := by decide +kernel
theorem dL_law_697 : decode cL_law 697 = .ok (.iaload, 1) := by decide +kernel
theorem dL_law_698 : decode cL_law 698 = .ok (.aload_n 0, 1) := by decide +kernel
theorem dL_law_699 : decode cL_law 699 = .ok (.iload 4, 2) := by decide +kernel
theorem dL_law_701 : decode cL_law 701 = .ok (.iconst 2, 1) := by decide +kernel
theorem dL_law_702 : decode cL_law 702 = .ok (.iadd, 1) := by decide +kernel
theorem dL_law_703 : decode cL_law 703 = .ok (.iaload, 1) := by decide +kernel
theorem dL_law_704 : decode cL_law 704 = .ok (.ifCond .eq 7, 3) := by decide +kernel
theorem dL_law_707 : decode cL_law 707 = .ok (.iconst 1, 1) := by decide +kernel
theorem dL_law_708 : decode cL_law 708 = .ok (.goto 4, 3) := by decide +kernel
theorem dL_law_711 : decode cL_law 711 = .ok (.iconst 0, 1) := by decide +kernel
theorem dL_law_712 : decode cL_law 712 = .ok (.invokevirtual 117, 3) := by decide +kernel
theorem dL_law_715 : decode cL_law 715 = .ok (.istore 6, 2) := by decide +kernel
theorem dL_law_717 : decode cL_law 717 = .ok (.aload_n 2, 1) := by decide +kernel
theorem dL_law_718 : decode cL_law 718 = .ok (.invokevirtual 86, 3) := by decide +kernel
theorem dL_law_721 : decode cL_law 721 = .ok (.iload 5, 2) := by decide +kernel
theorem dL_law_723 : decode cL_law 723 = .ok (.if_icmp .eq 5, 3) := by decide +kernel
theorem dL_law_726 : decode cL_law 726 = .ok (.iconst 0, 1) := by decide +kernel
theorem dL_law_727 : decode cL_law 727 = .ok (.ireturn, 1) := by decide +kernel
theorem dL_law_728 : decode cL_law 728 = .ok (.iload 5, 2) := by decide +kernel
theorem dL_law_730 : decode cL_law 730 = .ok (.ifCond .ne 15, 3) := by decide +kernel
theorem dL_law_733 : decode cL_law 733 = .ok (.aload_n 3, 1) := by decide +kernel
theorem dL_law_734 : decode cL_law 734 = .ok (.iconst 0, 1) := by decide +kernel
theorem dL_law_735 : decode cL_law 735 = .ok (.laload, 1) := by decide +kernel
theorem dL_law_736 : decode cL_law 736 = .ok (.iload 6, 2) := by decide +kernel
theorem dL_law_738 : decode cL_law 738 = .ok (.i2l, 1) := by decide +kernel
theorem dL_law_739 : decode cL_law 739 = .ok (.lcmp, 1) := by decide +kernel
theorem dL_law_740 : decode cL_law 740 = .ok (.ifCond .eq 5, 3) := by decide +kernel
theorem dL_law_743 : decode cL_law 743 = .ok (.iconst 0, 1) := by decide +kernel
theorem dL_law_744 : decode cL_law 744 = .ok (.ireturn, 1) := by decide +kernel
theorem dL_law_745 : decode cL_law 745 = .ok (.goto 688, 3) := by decide +kernel
theorem dL_law_748 : decode cL_law 748 = .ok (.aload_n 1, 1) := by decide +kernel
theorem dL_law_749 : decode cL_law 749 = .ok (.aload_n 0, 1) := by decide +kernel
theorem dL_law_750 : decode cL_law 750 = .ok (.iload 4, 2) := by decide +kernel
theorem dL_law_752 : decode cL_law 752 = .ok (.iconst 1, 1) := by decide +kernel
theorem dL_law_753 : decode cL_law 753 = .ok (.iadd, 1) := by decide +kernel
theorem dL_law_754 : decode cL_law 754 = .ok (.iaload, 1) := by decide +kernel
theorem dL_law_755 : decode cL_law 755 = .ok (.aload_n 3, 1) := by decide +kernel
theorem dL_law_756 : decode cL_law 756 = .ok (.invokestatic 118, 3) := by decide +kernel
theorem dL_law_759 : decode cL_law 759 = .ok (.istore 5, 2) := by decide +kernel
theorem dL_law_761 : decode cL_law 761 = .ok (.aload_n 2, 1) := by decide +kernel
theorem dL_law_762 : decode cL_law 762 = .ok (.aload_n 0, 1) := by decide +kernel
theorem dL_law_763 : decode cL_law 763 = .ok (.iload 4, 2) := by decide +kernel
theorem dL_law_765 : decode cL_law 765 = .ok (.iconst 1, 1) := by decide +kernel
theorem dL_law_766 : decode cL_law 766 = .ok (.iadd, 1) := by decide +kernel
theorem dL_law_767 : decode cL_law 767 = .ok (.iaload, 1) := by decide +kernel
theorem dL_law_768 : decode cL_law 768 = .ok (.invokevirtual 120, 3) := by decide +kernel
theorem dL_law_771 : decode cL_law 771 = .ok (.istore 6, 2) := by decide +kernel
theorem dL_law_773 : decode cL_law 773 = .ok (.aload_n 2, 1) := by decide +kernel
theorem dL_law_774 : decode cL_law 774 = .ok (.invokevirtual 86, 3) := by decide +kernel
theorem dL_law_777 : decode cL_law 777 = .ok (.iload 5, 2) := by decide +kernel
theorem dL_law_779 : decode cL_law 779 = .ok (.if_icmp .eq 5, 3) := by decide +kernel
theorem dL_law_782 : decode cL_law 782 = .ok (.iconst 0, 1) := by decide +kernel
theorem dL_law_783 : decode cL_law 783 = .ok (.ireturn, 1) := by decide +kernel
theorem dL_law_784 : decode cL_law 784 = .ok (.iload 5, 2) := by decide +kernel
theorem dL_law_786 : decode cL_law 786 = .ok (.ifCond .ne 15, 3) := by decide +kernel
theorem dL_law_789 : decode cL_law 789 = .ok (.aload_n 3, 1) := by decide +kernel
theorem dL_law_790 : decode cL_law 790 = .ok (.iconst 0, 1) := by decide +kernel
theorem dL_law_791 : decode cL_law 791 = .ok (.laload, 1) := by decide +kernel
theorem dL_law_792 : decode cL_law 792 = .ok (.iload 6, 2) := by decide +kernel
theorem dL_law_794 : decode cL_law 794 = .ok (.i2l, 1) := by decide +kernel
theorem dL_law_795 : decode cL_law 795 = .ok (.lcmp, 1) := by decide +kernel
theorem dL_law_796 : decode cL_law 796 = .ok (.ifCond .eq 5, 3) := by decide +kernel
theorem dL_law_799 : decode cL_law 799 = .ok (.iconst 0, 1) := by decide +kernel
theorem dL_law_800 : decode cL_law 800 = .ok (.ireturn, 1) := by decide +kernel
theorem dL_law_801 : decode cL_law 801 = .ok (.goto 632, 3) := by decide +kernel
theorem dL_law_804 : decode cL_law 804 = .ok (.aload_n 1, 1) := by decide +kernel
theorem dL_law_805 : decode cL_law 805 = .ok (.invokevirtual 121, 3) := by decide +kernel
theorem dL_law_808 : decode cL_law 808 = .ok (.aload_n 2, 1) := by decide +kernel
theorem dL_law_809 : decode cL_law 809 = .ok (.invokevirtual 124, 3) := by decide +kernel
theorem dL_law_812 : decode cL_law 812 = .ok (.if_icmp .eq 621, 3) := by decide +kernel
theorem dL_law_815 : decode cL_law 815 = .ok (.iconst 0, 1) := by decide +kernel
theorem dL_law_816 : decode cL_law 816 = .ok (.ireturn, 1) := by decide +kernel
theorem dL_law_817 : decode cL_law 817 = .ok (.aload_n 1, 1) := by decide +kernel
theorem dL_law_818 : decode cL_law 818 = .ok (.aload_n 0, 1) := by decide +kernel
theorem dL_law_819 : decode cL_law 819 = .ok (.iload 4, 2) := by decide +kernel
theorem dL_law_821 : decode cL_law 821 = .ok (.iconst 1, 1) := by decide +kernel
theorem dL_law_822 : decode cL_law 822 = .ok (.iadd, 1) := by decide +kernel
theorem dL_law_823 : decode cL_law 823 = .ok (.iaload, 1) := by decide +kernel
theorem dL_law_824 : decode cL_law 824 = .ok (.aload_n 3, 1) := by decide +kernel
theorem dL_law_825 : decode cL_law 825 = .ok (.invokestatic 125, 3) := by decide +kernel
theorem dL_law_828 : decode cL_law 828 = .ok (.istore 5, 2) := by decide +kernel
theorem dL_law_830 : decode cL_law 830 = .ok (.aload_n 2, 1) := by decide +kernel
theorem dL_law_831 : decode cL_law 831 = .ok (.aload_n 0, 1) := by decide +kernel
theorem dL_law_832 : decode cL_law 832 = .ok (.iload 4, 2) := by decide +kernel
theorem dL_law_834 : decode cL_law 834 = .ok (.iconst 1, 1) := by decide +kernel
theorem dL_law_835 : decode cL_law 835 = .ok (.iadd, 1) := by decide +kernel
theorem dL_law_836 : decode cL_law 836 = .ok (.iaload, 1) := by decide +kernel
theorem dL_law_837 : decode cL_law 837 = .ok (.invokevirtual 127, 3) := by decide +kernel
theorem dL_law_840 : decode cL_law 840 = .ok (.istore 6, 2) := by decide +kernel
theorem dL_law_842 : decode cL_law 842 = .ok (.aload_n 2, 1) := by decide +kernel
theorem dL_law_843 : decode cL_law 843 = .ok (.invokevirtual 86, 3) := by decide +kernel
theorem dL_law_846 : decode cL_law 846 = .ok (.iload 5, 2) := by decide +kernel
theorem dL_law_848 : decode cL_law 848 = .ok (.if_icmp .eq 5, 3) := by decide +kernel
theorem dL_law_851 : decode cL_law 851 = .ok (.iconst 0, 1) := by decide +kernel
theorem dL_law_852 : decode cL_law 852 = .ok (.ireturn, 1) := by decide +kernel
theorem dL_law_853 : decode cL_law 853 = .ok (.iload 5, 2) := by decide +kernel
theorem dL_law_855 : decode cL_law 855 = .ok (.ifCond .ne 15, 3) := by decide +kernel
theorem dL_law_858 : decode cL_law 858 = .ok (.aload_n 3, 1) := by decide +kernel
theorem dL_law_859 : decode cL_law 859 = .ok (.iconst 0, 1) := by decide +kernel
theorem dL_law_860 : decode cL_law 860 = .ok (.laload, 1) := by decide +kernel
theorem dL_law_861 : decode cL_law 861 = .ok (.iload 6, 2) := by decide +kernel
theorem dL_law_863 : decode cL_law 863 = .ok (.i2l, 1) := by decide +kernel
theorem dL_law_864 : decode cL_law 864 = .ok (.lcmp, 1) := by decide +kernel
theorem dL_law_865 : decode cL_law 865 = .ok (.ifCond .eq 5, 3) := by decide +kernel
theorem dL_law_868 : decode cL_law 868 = .ok (.iconst 0, 1) := by decide +kernel
theorem dL_law_869 : decode cL_law 869 = .ok (.ireturn, 1) := by decide +kernel
theorem dL_law_870 : decode cL_law 870 = .ok (.goto 563, 3) := by decide +kernel
theorem dL_law_873 : decode cL_law 873 = .ok (.aload_n 1, 1) := by decide +kernel
theorem dL_law_874 : decode cL_law 874 = .ok (.aload_n 3, 1) := by decide +kernel
theorem dL_law_875 : decode cL_law 875 = .ok (.invokestatic 128, 3) := by decide +kernel
theorem dL_law_878 : decode cL_law 878 = .ok (.istore 5, 2) := by decide +kernel
theorem dL_law_880 : decode cL_law 880 = .ok (.aload_n 2, 1) := by decide +kernel
theorem dL_law_881 : decode cL_law 881 = .ok (.invokevirtual 131, 3) := by decide +kernel
theorem dL_law_884 : decode cL_law 884 = .ok (.istore 6, 2) := by decide +kernel
theorem dL_law_886 : decode cL_law 886 = .ok (.aload_n 2, 1) := by decide +kernel
theorem dL_law_887 : decode cL_law 887 = .ok (.invokevirtual 86, 3) := by decide +kernel
theorem dL_law_890 : decode cL_law 890 = .ok (.iload 5, 2) := by decide +kernel
theorem dL_law_892 : decode cL_law 892 = .ok (.if_icmp .eq 5, 3) := by decide +kernel
theorem dL_law_895 : decode cL_law 895 = .ok (.iconst 0, 1) := by decide +kernel
theorem dL_law_896 : decode cL_law 896 = .ok (.ireturn, 1) := by decide +kernel
theorem dL_law_897 : decode cL_law 897 = .ok (.iload 5, 2) := by decide +kernel
theorem dL_law_899 : decode cL_law 899 = .ok (.ifCond .ne 22, 3) := by decide +kernel
theorem dL_law_902 : decode cL_law 902 = .ok (.aload_n 3, 1) := by decide +kernel
theorem dL_law_903 : decode cL_law 903 = .ok (.iconst 0, 1) := by decide +kernel
theorem dL_law_904 : decode cL_law 904 = .ok (.laload, 1) := by decide +kernel
theorem dL_law_905 : decode cL_law 905 = .ok (.iload 6, 2) := by decide +kernel
theorem dL_law_907 : decode cL_law 907 = .ok (.ifCond .eq 7, 3) := by decide +kernel
theorem dL_law_910 : decode cL_law 910 = .ok (.lconst 1, 1) := by decide +kernel
theorem dL_law_911 : decode cL_law 911 = .ok (.goto 4, 3) := by decide +kernel
theorem dL_law_914 : decode cL_law 914 = .ok (.lconst 0, 1) := by decide +kernel
theorem dL_law_915 : decode cL_law 915 = .ok (.lcmp, 1) := by decide +kernel
theorem dL_law_916 : decode cL_law 916 = .ok (.ifCond .eq 5, 3) := by decide +kernel
theorem dL_law_919 : decode cL_law 919 = .ok (.iconst 0, 1) := by decide +kernel
theorem dL_law_920 : decode cL_law 920 = .ok (.ireturn, 1) := by decide +kernel
theorem dL_law_921 : decode cL_law 921 = .ok (.goto 512, 3) := by decide +kernel
theorem dL_law_924 : decode cL_law 924 = .ok (.aload_n 1, 1) := by decide +kernel
theorem dL_law_925 : decode cL_law 925 = .ok (.invokevirtual 132, 3) := by decide +kernel
theorem dL_law_928 : decode cL_law 928 = .ok (.aload_n 2, 1) := by decide +kernel
theorem dL_law_929 : decode cL_law 929 = .ok (.invokevirtual 135, 3) := by decide +kernel
theorem dL_law_932 : decode cL_law 932 = .ok (.if_icmp .eq 501, 3) := by decide +kernel
theorem dL_law_935 : decode cL_law 935 = .ok (.iconst 0, 1) := by decide +kernel
theorem dL_law_936 : decode cL_law 936 = .ok (.ireturn, 1) := by decide +kernel
theorem dL_law_937 : decode cL_law 937 = .ok (.aload_n 1, 1) := by decide +kernel
theorem dL_law_938 : decode cL_law 938 = .ok (.aload_n 0, 1) := by decide +kernel
theorem dL_law_939 : decode cL_law 939 = .ok (.iload 4, 2) := by decide +kernel
theorem dL_law_941 : decode cL_law 941 = .ok (.iconst 1, 1) := by decide +kernel
theorem dL_law_942 : decode cL_law 942 = .ok (.iadd, 1) := by decide +kernel
theorem dL_law_943 : decode cL_law 943 = .ok (.iaload, 1) := by decide +kernel
theorem dL_law_944 : decode cL_law 944 = .ok (.aload_n 3, 1) := by decide +kernel
theorem dL_law_945 : decode cL_law 945 = .ok (.invokestatic 136, 3) := by decide +kernel
theorem dL_law_948 : decode cL_law 948 = .ok (.istore 5, 2) := by decide +kernel
theorem dL_law_950 : decode cL_law 950 = .ok (.aload_n 2, 1) := by decide +kernel
theorem dL_law_951 : decode cL_law 951 = .ok (.aload_n 0, 1) := by decide +kernel
theorem dL_law_952 : decode cL_law 952 = .ok (.iload 4, 2) := by decide +kernel
theorem dL_law_954 : decode cL_law 954 = .ok (.iconst 1, 1) := by decide +kernel
theorem dL_law_955 : decode cL_law 955 = .ok (.iadd, 1) := by decide +kernel
theorem dL_law_956 : decode cL_law 956 = .ok (.iaload, 1) := by decide +kernel
theorem dL_law_957 : decode cL_law 957 = .ok (.invokevirtual 138, 3) := by decide +kernel
theorem dL_law_960 : decode cL_law 960 = .ok (.istore 6, 2) := by decide +kernel
theorem dL_law_962 : decode cL_law 962 = .ok (.aload_n 2, 1) := by decide +kernel
theorem dL_law_963 : decode cL_law 963 = .ok (.invokevirtual 86, 3) := by decide +kernel
theorem dL_law_966 : decode cL_law 966 = .ok (.iload 5, 2) := by decide +kernel
theorem dL_law_968 : decode cL_law 968 = .ok (.if_icmp .eq 5, 3) := by decide +kernel
theorem dL_law_971 : decode cL_law 971 = .ok (.iconst 0, 1) := by decide +kernel
theorem dL_law_972 : decode cL_law 972 = .ok (.ireturn, 1) := by decide +kernel
theorem dL_law_973 : decode cL_law 973 = .ok (.iload 5, 2) := by decide +kernel
theorem dL_law_975 : decode cL_law 975 = .ok (.ifCond .ne 15, 3) := by decide +kernel
theorem dL_law_978 : decode cL_law 978 = .ok (.aload_n 3, 1) := by decide +kernel
theorem dL_law_979 : decode cL_law 979 = .ok (.iconst 0, 1) := by decide +kernel
theorem dL_law_980 : decode cL_law 980 = .ok (.laload, 1) := by decide +kernel
theorem dL_law_981 : decode cL_law 981 = .ok (.iload 6, 2) := by decide +kernel
theorem dL_law_983 : decode cL_law 983 = .ok (.i2l, 1) := by decide +kernel
theorem dL_law_984 : decode cL_law 984 = .ok (.lcmp, 1) := by decide +kernel
theorem dL_law_985 : decode cL_law 985 = .ok (.ifCond .eq 5, 3) := by decide +kernel
theorem dL_law_988 : decode cL_law 988 = .ok (.iconst 0, 1) := by decide +kernel
theorem dL_law_989 : decode cL_law 989 = .ok (.ireturn, 1) := by decide +kernel
theorem dL_law_990 : decode cL_law 990 = .ok (.goto 443, 3) := by decide +kernel
theorem dL_law_993 : decode cL_law 993 = .ok (.aload_n 1, 1) := by decide +kernel
theorem dL_law_994 : decode cL_law 994 = .ok (.aload_n 0, 1) := by decide +kernel
theorem dL_law_995 : decode cL_law 995 = .ok (.iload 4, 2) := by decide +kernel
theorem dL_law_997 : decode cL_law 997 = .ok (.iconst 1, 1) := by decide +kernel
theorem dL_law_998 : decode cL_law 998 = .ok (.iadd, 1) := by decide +kernel
theorem dL_law_999 : decode cL_law 999 = .ok (.iaload, 1) := by decide +kernel
theorem dL_law_1000 : decode cL_law 1000 = .ok (.aload_n 0, 1) := by decide +kernel
theorem dL_law_1001 : decode cL_law 1001 = .ok (.iload 4, 2) := by decide +kernel
theorem dL_law_1003 : decode cL_law 1003 = .ok (.iconst 2, 1) := by decide +kernel
theorem dL_law_1004 : decode cL_law 1004 = .ok (.iadd, 1) := by decide +kernel
theorem dL_law_1005 : decode cL_law 1005 = .ok (.iaload, 1) := by decide +kernel
theorem dL_law_1006 : decode cL_law 1006 = .ok (.aload_n 3, 1) := by decide +kernel
theorem dL_law_1007 : decode cL_law 1007 = .ok (.invokestatic 139, 3) := by decide +kernel
theorem dL_law_1010 : decode cL_law 1010 = .ok (.istore 5, 2) := by decide +kernel
theorem dL_law_1012 : decode cL_law 1012 = .ok (.aload_n 2, 1) := by decide +kernel
theorem dL_law_1013 : decode cL_law 1013 = .ok (.aload_n 0, 1) := by decide +kernel
theorem dL_law_1014 : decode cL_law 1014 = .ok (.iload 4, 2) := by decide +kernel
theorem dL_law_1016 : decode cL_law 1016 = .ok (.iconst 1, 1) := by decide +kernel
theorem dL_law_1017 : decode cL_law 1017 = .ok (.iadd, 1) := by decide +kernel
theorem dL_law_1018 : decode cL_law 1018 = .ok (.iaload, 1) := by decide +kernel
theorem dL_law_1019 : decode cL_law 1019 = .ok (.aload_n 0, 1) := by decide +kernel
theorem dL_law_1020 : decode cL_law 1020 = .ok (.iload 4, 2) := by decide +kernel
theorem dL_law_1022 : decode cL_law 1022 = .ok (.iconst 2, 1) := by decide +kernel
theorem dL_law_1023 : decode cL_law 1023 = .ok (.iadd, 1) := by decide +kernel
theorem dL_law_1024 : decode cL_law 1024 = .ok (.iaload, 1) := by decide +kernel
theorem dL_law_1025 : decode cL_law 1025 = .ok (.invokevirtual 141, 3) := by decide +kernel
theorem dL_law_1028 : decode cL_law 1028 = .ok (.istore 6, 2) := by decide +kernel
theorem dL_law_1030 : decode cL_law 1030 = .ok (.aload_n 2, 1) := by decide +kernel
theorem dL_law_1031 : decode cL_law 1031 = .ok (.invokevirtual 86, 3) := by decide +kernel
theorem dL_law_1034 : decode cL_law 1034 = .ok (.iload 5, 2) := by decide +kernel
theorem dL_law_1036 : decode cL_law 1036 = .ok (.if_icmp .eq 5, 3) := by decide +kernel
theorem dL_law_1039 : decode cL_law 1039 = .ok (.iconst 0, 1) := by decide +kernel
theorem dL_law_1040 : decode cL_law 1040 = .ok (.ireturn, 1) := by decide +kernel
theorem dL_law_1041 : decode cL_law 1041 = .ok (.iload 5, 2) := by decide +kernel
theorem dL_law_1043 : decode cL_law 1043 = .ok (.ifCond .ne 15, 3) := by decide +kernel
theorem dL_law_1046 : decode cL_law 1046 = .ok (.aload_n 3, 1) := by decide +kernel
theorem dL_law_1047 : decode cL_law 1047 = .ok (.iconst 0, 1) := by decide +kernel
theorem dL_law_1048 : decode cL_law 1048 = .ok (.laload, 1) := by decide +kernel
theorem dL_law_1049 : decode cL_law 1049 = .ok (.iload 6, 2) := by decide +kernel
theorem dL_law_1051 : decode cL_law 1051 = .ok (.i2l, 1) := by decide +kernel
theorem dL_law_1052 : decode cL_law 1052 = .ok (.lcmp, 1) := by decide +kernel
theorem dL_law_1053 : decode cL_law 1053 = .ok (.ifCond .eq 5, 3) := by decide +kernel
theorem dL_law_1056 : decode cL_law 1056 = .ok (.iconst 0, 1) := by decide +kernel
theorem dL_law_1057 : decode cL_law 1057 = .ok (.ireturn, 1) := by decide +kernel
theorem dL_law_1058 : decode cL_law 1058 = .ok (.goto 375, 3) := by decide +kernel
theorem dL_law_1061 : decode cL_law 1061 = .ok (.aload_n 1, 1) := by decide +kernel
theorem dL_law_1062 : decode cL_law 1062 = .ok (.aload_n 0, 1) := by decide +kernel
theorem dL_law_1063 : decode cL_law 1063 = .ok (.iload 4, 2) := by decide +kernel
theorem dL_law_1065 : decode cL_law 1065 = .ok (.iconst 1, 1) := by decide +kernel
theorem dL_law_1066 : decode cL_law 1066 = .ok (.iadd, 1) := by decide +kernel
theorem dL_law_1067 : decode cL_law 1067 = .ok (.iaload, 1) := by decide +kernel
theorem dL_law_1068 : decode cL_law 1068 = .ok (.aload_n 3, 1) := by decide +kernel
theorem dL_law_1069 : decode cL_law 1069 = .ok (.invokestatic 142, 3) := by decide +kernel
theorem dL_law_1072 : decode cL_law 1072 = .ok (.istore 5, 2) := by decide +kernel
theorem dL_law_1074 : decode cL_law 1074 = .ok (.aload_n 2, 1) := by decide +kernel
theorem dL_law_1075 : decode cL_law 1075 = .ok (.aload_n 0, 1) := by decide +kernel
theorem dL_law_1076 : decode cL_law 1076 = .ok (.iload 4, 2) := by decide +kernel
theorem dL_law_1078 : decode cL_law 1078 = .ok (.iconst 1, 1) := by decide +kernel
theorem dL_law_1079 : decode cL_law 1079 = .ok (.iadd, 1) := by decide +kernel
theorem dL_law_1080 : decode cL_law 1080 = .ok (.iaload, 1) := by decide +kernel
theorem dL_law_1081 : decode cL_law 1081 = .ok (.invokevirtual 144, 3) := by decide +kernel
theorem dL_law_1084 : decode cL_law 1084 = .ok (.istore 6, 2) := by decide +kernel
theorem dL_law_1086 : decode cL_law 1086 = .ok (.aload_n 2, 1) := by decide +kernel
theorem dL_law_1087 : decode cL_law 1087 = .ok (.invokevirtual 86, 3) := by decide +kernel
theorem dL_law_1090 : decode cL_law 1090 = .ok (.iload 5, 2) := by decide +kernel
theorem dL_law_1092 : decode cL_law 1092 = .ok (.if_icmp .eq 5, 3) := by decide +kernel
theorem dL_law_1095 : decode cL_law 1095 = .ok (.iconst 0, 1) := by decide +kernel
theorem dL_law_1096 : decode cL_law 1096 = .ok (.ireturn, 1) := by decide +kernel
theorem dL_law_1097 : decode cL_law 1097 = .ok (.iload 5, 2) := by decide +kernel
theorem dL_law_1099 : decode cL_law 1099 = .ok (.ifCond .ne 15, 3) := by decide +kernel
theorem dL_law_1102 : decode cL_law 1102 = .ok (.aload_n 3, 1) := by decide +kernel
theorem dL_law_1103 : decode cL_law 1103 = .ok (.iconst 0, 1) := by decide +kernel
theorem dL_law_1104 : decode cL_law 1104 = .ok (.laload, 1) := by decide +kernel
theorem dL_law_1105 : decode cL_law 1105 = .ok (.iload 6, 2) := by decide +kernel
theorem dL_law_1107 : decode cL_law 1107 = .ok (.i2l, 1) := by decide +kernel
theorem dL_law_1108 : decode cL_law 1108 = .ok (.lcmp, 1) := by decide +kernel
theorem dL_law_1109 : decode cL_law 1109 = .ok (.ifCond .eq 5, 3) := by decide +kernel
theorem dL_law_1112 : decode cL_law 1112 = .ok (.iconst 0, 1) := by decide +kernel
theorem dL_law_1113 : decode cL_law 1113 = .ok (.ireturn, 1) := by decide +kernel
theorem dL_law_1114 : decode cL_law 1114 = .ok (.goto 319, 3) := by decide +kernel
theorem dL_law_1117 : decode cL_law 1117 = .ok (.aload_n 1, 1) := by decide +kernel
theorem dL_law_1118 : decode cL_law 1118 = .ok (.aload_n 0, 1) := by decide +kernel
theorem dL_law_1119 : decode cL_law 1119 = .ok (.iload 4, 2) := by decide +kernel
theorem dL_law_1121 : decode cL_law 1121 = .ok (.iconst 1, 1) := by decide +kernel
theorem dL_law_1122 : decode cL_law 1122 = .ok (.iadd, 1) := by decide +kernel
theorem dL_law_1123 : decode cL_law 1123 = .ok (.iaload, 1) := by decide +kernel
theorem dL_law_1124 : decode cL_law 1124 = .ok (.aload_n 0, 1) := by decide +kernel
theorem dL_law_1125 : decode cL_law 1125 = .ok (.iload 4, 2) := by decide +kernel
theorem dL_law_1127 : decode cL_law 1127 = .ok (.iconst 2, 1) := by decide +kernel
theorem dL_law_1128 : decode cL_law 1128 = .ok (.iadd, 1) := by decide +kernel
theorem dL_law_1129 : decode cL_law 1129 = .ok (.iaload, 1) := by decide +kernel
theorem dL_law_1130 : decode cL_law 1130 = .ok (.aload_n 3, 1) := by decide +kernel
theorem dL_law_1131 : decode cL_law 1131 = .ok (.invokestatic 145, 3) := by decide +kernel
theorem dL_law_1134 : decode cL_law 1134 = .ok (.istore 5, 2) := by decide +kernel
theorem dL_law_1136 : decode cL_law 1136 = .ok (.aload_n 2, 1) := by decide +kernel
theorem dL_law_1137 : decode cL_law 1137 = .ok (.aload_n 0, 1) := by decide +kernel
theorem dL_law_1138 : decode cL_law 1138 = .ok (.iload 4, 2) := by decide +kernel
theorem dL_law_1140 : decode cL_law 1140 = .ok (.iconst 1, 1) := by decide +kernel
theorem dL_law_1141 : decode cL_law 1141 = .ok (.iadd, 1) := by decide +kernel
theorem dL_law_1142 : decode cL_law 1142 = .ok (.iaload, 1) := by decide +kernel
theorem dL_law_1143 : decode cL_law 1143 = .ok (.aload_n 0, 1) := by decide +kernel
theorem dL_law_1144 : decode cL_law 1144 = .ok (.iload 4, 2) := by decide +kernel
theorem dL_law_1146 : decode cL_law 1146 = .ok (.iconst 2, 1) := by decide +kernel
theorem dL_law_1147 : decode cL_law 1147 = .ok (.iadd, 1) := by decide +kernel
theorem dL_law_1148 : decode cL_law 1148 = .ok (.iaload, 1) := by decide +kernel
theorem dL_law_1149 : decode cL_law 1149 = .ok (.invokevirtual 147, 3) := by decide +kernel
theorem dL_law_1152 : decode cL_law 1152 = .ok (.istore 6, 2) := by decide +kernel
theorem dL_law_1154 : decode cL_law 1154 = .ok (.aload_n 2, 1) := by decide +kernel
theorem dL_law_1155 : decode cL_law 1155 = .ok (.invokevirtual 86, 3) := by decide +kernel
theorem dL_law_1158 : decode cL_law 1158 = .ok (.iload 5, 2) := by decide +kernel
theorem dL_law_1160 : decode cL_law 1160 = .ok (.if_icmp .eq 5, 3) := by decide +kernel
theorem dL_law_1163 : decode cL_law 1163 = .ok (.iconst 0, 1) := by decide +kernel
theorem dL_law_1164 : decode cL_law 1164 = .ok (.ireturn, 1) := by decide +kernel
theorem dL_law_1165 : decode cL_law 1165 = .ok (.iload 5, 2) := by decide +kernel
theorem dL_law_1167 : decode cL_law 1167 = .ok (.ifCond .ne 15, 3) := by decide +kernel
theorem dL_law_1170 : decode cL_law 1170 = .ok (.aload_n 3, 1) := by decide +kernel
theorem dL_law_1171 : decode cL_law 1171 = .ok (.iconst 0, 1) := by decide +kernel
theorem dL_law_1172 : decode cL_law 1172 = .ok (.laload, 1) := by decide +kernel
theorem dL_law_1173 : decode cL_law 1173 = .ok (.iload 6, 2) := by decide +kernel
theorem dL_law_1175 : decode cL_law 1175 = .ok (.i2l, 1) := by decide +kernel
theorem dL_law_1176 : decode cL_law 1176 = .ok (.lcmp, 1) := by decide +kernel
theorem dL_law_1177 : decode cL_law 1177 = .ok (.ifCond .eq 5, 3) := by decide +kernel
theorem dL_law_1180 : decode cL_law 1180 = .ok (.iconst 0, 1) := by decide +kernel
theorem dL_law_1181 : decode cL_law 1181 = .ok (.ireturn, 1) := by decide +kernel
theorem dL_law_1182 : decode cL_law 1182 = .ok (.goto 251, 3) := by decide +kernel
theorem dL_law_1185 : decode cL_law 1185 = .ok (.aload_n 1, 1) := by decide +kernel
theorem dL_law_1186 : decode cL_law 1186 = .ok (.aload_n 0, 1) := by decide +kernel
theorem dL_law_1187 : decode cL_law 1187 = .ok (.iload 4, 2) := by decide +kernel
theorem dL_law_1189 : decode cL_law 1189 = .ok (.iconst 1, 1) := by decide +kernel
theorem dL_law_1190 : decode cL_law 1190 = .ok (.iadd, 1) := by decide +kernel
theorem dL_law_1191 : decode cL_law 1191 = .ok (.iaload, 1) := by decide +kernel
theorem dL_law_1192 : decode cL_law 1192 = .ok (.aload_n 3, 1) := by decide +kernel
theorem dL_law_1193 : decode cL_law 1193 = .ok (.invokestatic 148, 3) := by decide +kernel
theorem dL_law_1196 : decode cL_law 1196 = .ok (.istore 5, 2) := by decide +kernel
theorem dL_law_1198 : decode cL_law 1198 = .ok (.aload_n 2, 1) := by decide +kernel
theorem dL_law_1199 : decode cL_law 1199 = .ok (.aload_n 0, 1) := by decide +kernel
theorem dL_law_1200 : decode cL_law 1200 = .ok (.iload 4, 2) := by decide +kernel
theorem dL_law_1202 : decode cL_law 1202 = .ok (.iconst 1, 1) := by decide +kernel
theorem dL_law_1203 : decode cL_law 1203 = .ok (.iadd, 1) := by decide +kernel
theorem dL_law_1204 : decode cL_law 1204 = .ok (.iaload, 1) := by decide +kernel
theorem dL_law_1205 : decode cL_law 1205 = .ok (.invokevirtual 150, 3) := by decide +kernel
theorem dL_law_1208 : decode cL_law 1208 = .ok (.istore 6, 2) := by decide +kernel
theorem dL_law_1210 : decode cL_law 1210 = .ok (.aload_n 2, 1) := by decide +kernel
theorem dL_law_1211 : decode cL_law 1211 = .ok (.invokevirtual 86, 3) := by decide +kernel
theorem dL_law_1214 : decode cL_law 1214 = .ok (.iload 5, 2) := by decide +kernel
theorem dL_law_1216 : decode cL_law 1216 = .ok (.if_icmp .eq 5, 3) := by decide +kernel
theorem dL_law_1219 : decode cL_law 1219 = .ok (.iconst 0, 1) := by decide +kernel
theorem dL_law_1220 : decode cL_law 1220 = .ok (.ireturn, 1) := by decide +kernel
theorem dL_law_1221 : decode cL_law 1221 = .ok (.iload 5, 2) := by decide +kernel
theorem dL_law_1223 : decode cL_law 1223 = .ok (.ifCond .ne 15, 3) := by decide +kernel
theorem dL_law_1226 : decode cL_law 1226 = .ok (.aload_n 3, 1) := by decide +kernel
theorem dL_law_1227 : decode cL_law 1227 = .ok (.iconst 0, 1) := by decide +kernel
theorem dL_law_1228 : decode cL_law 1228 = .ok (.laload, 1) := by decide +kernel
theorem dL_law_1229 : decode cL_law 1229 = .ok (.iload 6, 2) := by decide +kernel
theorem dL_law_1231 : decode cL_law 1231 = .ok (.i2l, 1) := by decide +kernel
theorem dL_law_1232 : decode cL_law 1232 = .ok (.lcmp, 1) := by decide +kernel
theorem dL_law_1233 : decode cL_law 1233 = .ok (.ifCond .eq 5, 3) := by decide +kernel
theorem dL_law_1236 : decode cL_law 1236 = .ok (.iconst 0, 1) := by decide +kernel
theorem dL_law_1237 : decode cL_law 1237 = .ok (.ireturn, 1) := by decide +kernel
theorem dL_law_1238 : decode cL_law 1238 = .ok (.goto 195, 3) := by decide +kernel
theorem dL_law_1241 : decode cL_law 1241 = .ok (.aload_n 1, 1) := by decide +kernel
theorem dL_law_1242 : decode cL_law 1242 = .ok (.aload_n 0, 1) := by decide +kernel
theorem dL_law_1243 : decode cL_law 1243 = .ok (.iload 4, 2) := by decide +kernel
theorem dL_law_1245 : decode cL_law 1245 = .ok (.iconst 1, 1) := by decide +kernel
theorem dL_law_1246 : decode cL_law 1246 = .ok (.iadd, 1) := by decide +kernel
theorem dL_law_1247 : decode cL_law 1247 = .ok (.iaload, 1) := by decide +kernel
theorem dL_law_1248 : decode cL_law 1248 = .ok (.aload_n 3, 1) := by decide +kernel
theorem dL_law_1249 : decode cL_law 1249 = .ok (.invokestatic 151, 3) := by decide +kernel
theorem dL_law_1252 : decode cL_law 1252 = .ok (.istore 5, 2) := by decide +kernel
theorem dL_law_1254 : decode cL_law 1254 = .ok (.aload_n 2, 1) := by decide +kernel
theorem dL_law_1255 : decode cL_law 1255 = .ok (.aload_n 0, 1) := by decide +kernel
theorem dL_law_1256 : decode cL_law 1256 = .ok (.iload 4, 2) := by decide +kernel
theorem dL_law_1258 : decode cL_law 1258 = .ok (.iconst 1, 1) := by decide +kernel
theorem dL_law_1259 : decode cL_law 1259 = .ok (.iadd, 1) := by decide +kernel
theorem dL_law_1260 : decode cL_law 1260 = .ok (.iaload, 1) := by decide +kernel
theorem dL_law_1261 : decode cL_law 1261 = .ok (.invokevirtual 153, 3) := by decide +kernel
theorem dL_law_1264 : decode cL_law 1264 = .ok (.istore 6, 2) := by decide +kernel
theorem dL_law_1266 : decode cL_law 1266 = .ok (.aload_n 2, 1) := by decide +kernel
theorem dL_law_1267 : decode cL_law 1267 = .ok (.invokevirtual 86, 3) := by decide +kernel
theorem dL_law_1270 : decode cL_law 1270 = .ok (.iload 5, 2) := by decide +kernel
theorem dL_law_1272 : decode cL_law 1272 = .ok (.if_icmp .eq 5, 3) := by decide +kernel
theorem dL_law_1275 : decode cL_law 1275 = .ok (.iconst 0, 1) := by decide +kernel
theorem dL_law_1276 : decode cL_law 1276 = .ok (.ireturn, 1) := by decide +kernel
theorem dL_law_1277 : decode cL_law 1277 = .ok (.iload 5, 2) := by decide +kernel
theorem dL_law_1279 : decode cL_law 1279 = .ok (.ifCond .ne 15, 3) := by decide +kernel
theorem dL_law_1282 : decode cL_law 1282 = .ok (.aload_n 3, 1) := by decide +kernel
theorem dL_law_1283 : decode cL_law 1283 = .ok (.iconst 0, 1) := by decide +kernel
theorem dL_law_1284 : decode cL_law 1284 = .ok (.laload, 1) := by decide +kernel
theorem dL_law_1285 : decode cL_law 1285 = .ok (.iload 6, 2) := by decide +kernel
theorem dL_law_1287 : decode cL_law 1287 = .ok (.i2l, 1) := by decide +kernel
theorem dL_law_1288 : decode cL_law 1288 = .ok (.lcmp, 1) := by decide +kernel
theorem dL_law_1289 : decode cL_law 1289 = .ok (.ifCond .eq 5, 3) := by decide +kernel
theorem dL_law_1292 : decode cL_law 1292 = .ok (.iconst 0, 1) := by decide +kernel
theorem dL_law_1293 : decode cL_law 1293 = .ok (.ireturn, 1) := by decide +kernel
theorem dL_law_1294 : decode cL_law 1294 = .ok (.goto 139, 3) := by decide +kernel
theorem dL_law_1297 : decode cL_law 1297 = .ok (.aload_n 1, 1) := by decide +kernel
theorem dL_law_1298 : decode cL_law 1298 = .ok (.invokevirtual 154, 3) := by decide +kernel
theorem dL_law_1301 : decode cL_law 1301 = .ok (.aload_n 2, 1) := by decide +kernel
theorem dL_law_1302 : decode cL_law 1302 = .ok (.invokevirtual 157, 3) := by decide +kernel
theorem dL_law_1305 : decode cL_law 1305 = .ok (.if_icmp .eq 128, 3) := by decide +kernel
theorem dL_law_1308 : decode cL_law 1308 = .ok (.iconst 0, 1) := by decide +kernel
theorem dL_law_1309 : decode cL_law 1309 = .ok (.ireturn, 1) := by decide +kernel
theorem dL_law_1310 : decode cL_law 1310 = .ok (.aload_n 1, 1) := by decide +kernel
theorem dL_law_1311 : decode cL_law 1311 = .ok (.invokevirtual 158, 3) := by decide +kernel
theorem dL_law_1314 : decode cL_law 1314 = .ok (.aload_n 2, 1) := by decide +kernel
theorem dL_law_1315 : decode cL_law 1315 = .ok (.invokevirtual 161, 3) := by decide +kernel
theorem dL_law_1318 : decode cL_law 1318 = .ok (.if_icmp .eq 115, 3) := by decide +kernel
theorem dL_law_1321 : decode cL_law 1321 = .ok (.iconst 0, 1) := by decide +kernel
theorem dL_law_1322 : decode cL_law 1322 = .ok (.ireturn, 1) := by decide +kernel
theorem dL_law_1323 : decode cL_law 1323 = .ok (.aload_n 1, 1) := by decide +kernel
theorem dL_law_1324 : decode cL_law 1324 = .ok (.aload_n 0, 1) := by decide +kernel
theorem dL_law_1325 : decode cL_law 1325 = .ok (.iload 4, 2) := by decide +kernel
theorem dL_law_1327 : decode cL_law 1327 = .ok (.iconst 1, 1) := by decide +kernel
theorem dL_law_1328 : decode cL_law 1328 = .ok (.iadd, 1) := by decide +kernel
theorem dL_law_1329 : decode cL_law 1329 = .ok (.iaload, 1) := by decide +kernel
theorem dL_law_1330 : decode cL_law 1330 = .ok (.aload_n 3, 1) := by decide +kernel
theorem dL_law_1331 : decode cL_law 1331 = .ok (.invokestatic 162, 3) := by decide +kernel
theorem dL_law_1334 : decode cL_law 1334 = .ok (.istore 5, 2) := by decide +kernel
theorem dL_law_1336 : decode cL_law 1336 = .ok (.aload_n 2, 1) := by decide +kernel
theorem dL_law_1337 : decode cL_law 1337 = .ok (.aload_n 0, 1) := by decide +kernel
theorem dL_law_1338 : decode cL_law 1338 = .ok (.iload 4, 2) := by decide +kernel
theorem dL_law_1340 : decode cL_law 1340 = .ok (.iconst 1, 1) := by decide +kernel
theorem dL_law_1341 : decode cL_law 1341 = .ok (.iadd, 1) := by decide +kernel
theorem dL_law_1342 : decode cL_law 1342 = .ok (.iaload, 1) := by decide +kernel
theorem dL_law_1343 : decode cL_law 1343 = .ok (.invokevirtual 164, 3) := by decide +kernel
theorem dL_law_1346 : decode cL_law 1346 = .ok (.lstore 6, 2) := by decide +kernel
theorem dL_law_1348 : decode cL_law 1348 = .ok (.aload_n 2, 1) := by decide +kernel
theorem dL_law_1349 : decode cL_law 1349 = .ok (.invokevirtual 86, 3) := by decide +kernel
theorem dL_law_1352 : decode cL_law 1352 = .ok (.iload 5, 2) := by decide +kernel
theorem dL_law_1354 : decode cL_law 1354 = .ok (.if_icmp .eq 5, 3) := by decide +kernel
theorem dL_law_1357 : decode cL_law 1357 = .ok (.iconst 0, 1) := by decide +kernel
theorem dL_law_1358 : decode cL_law 1358 = .ok (.ireturn, 1) := by decide +kernel
theorem dL_law_1359 : decode cL_law 1359 = .ok (.iload 5, 2) := by decide +kernel
theorem dL_law_1361 : decode cL_law 1361 = .ok (.ifCond .ne 14, 3) := by decide +kernel
theorem dL_law_1364 : decode cL_law 1364 = .ok (.aload_n 3, 1) := by decide +kernel
theorem dL_law_1365 : decode cL_law 1365 = .ok (.iconst 0, 1) := by decide +kernel
theorem dL_law_1366 : decode cL_law 1366 = .ok (.laload, 1) := by decide +kernel
theorem dL_law_1367 : decode cL_law 1367 = .ok (.lload 6, 2) := by decide +kernel
theorem dL_law_1369 : decode cL_law 1369 = .ok (.lcmp, 1) := by decide +kernel
theorem dL_law_1370 : decode cL_law 1370 = .ok (.ifCond .eq 5, 3) := by decide +kernel
theorem dL_law_1373 : decode cL_law 1373 = .ok (.iconst 0, 1) := by decide +kernel
theorem dL_law_1374 : decode cL_law 1374 = .ok (.ireturn, 1) := by decide +kernel
theorem dL_law_1375 : decode cL_law 1375 = .ok (.goto 58, 3) := by decide +kernel
theorem dL_law_1378 : decode cL_law 1378 = .ok (.aload_n 1, 1) := by decide +kernel
theorem dL_law_1379 : decode cL_law 1379 = .ok (.invokevirtual 165, 3) := by decide +kernel
theorem dL_law_1382 : decode cL_law 1382 = .ok (.dstore 5, 2) := by decide +kernel
theorem dL_law_1384 : decode cL_law 1384 = .ok (.aload_n 2, 1) := by decide +kernel
theorem dL_law_1385 : decode cL_law 1385 = .ok (.invokevirtual 169, 3) := by decide +kernel
theorem dL_law_1388 : decode cL_law 1388 = .ok (.dstore 7, 2) := by decide +kernel
theorem dL_law_1390 : decode cL_law 1390 = .ok (.dload 5, 2) := by decide +kernel
theorem dL_law_1392 : decode cL_law 1392 = .ok (.dload 7, 2) := by decide +kernel
theorem dL_law_1394 : decode cL_law 1394 = .ok (.dcmp .l, 1) := by decide +kernel
theorem dL_law_1395 : decode cL_law 1395 = .ok (.ifCond .eq 21, 3) := by decide +kernel
theorem dL_law_1398 : decode cL_law 1398 = .ok (.dload 5, 2) := by decide +kernel
theorem dL_law_1400 : decode cL_law 1400 = .ok (.dload 5, 2) := by decide +kernel
theorem dL_law_1402 : decode cL_law 1402 = .ok (.dcmp .l, 1) := by decide +kernel
theorem dL_law_1403 : decode cL_law 1403 = .ok (.ifCond .eq 11, 3) := by decide +kernel
theorem dL_law_1406 : decode cL_law 1406 = .ok (.dload 7, 2) := by decide +kernel
theorem dL_law_1408 : decode cL_law 1408 = .ok (.dload 7, 2) := by decide +kernel
theorem dL_law_1410 : decode cL_law 1410 = .ok (.dcmp .l, 1) := by decide +kernel
theorem dL_law_1411 : decode cL_law 1411 = .ok (.ifCond .ne 5, 3) := by decide +kernel
theorem dL_law_1414 : decode cL_law 1414 = .ok (.iconst 0, 1) := by decide +kernel
theorem dL_law_1415 : decode cL_law 1415 = .ok (.ireturn, 1) := by decide +kernel
theorem dL_law_1416 : decode cL_law 1416 = .ok (.goto 17, 3) := by decide +kernel
theorem dL_law_1419 : decode cL_law 1419 = .ok (.aload_n 1, 1) := by decide +kernel
theorem dL_law_1420 : decode cL_law 1420 = .ok (.invokevirtual 170, 3) := by decide +kernel
theorem dL_law_1423 : decode cL_law 1423 = .ok (.aload_n 2, 1) := by decide +kernel
theorem dL_law_1424 : decode cL_law 1424 = .ok (.invokevirtual 174, 3) := by decide +kernel
theorem dL_law_1427 : decode cL_law 1427 = .ok (.lcmp, 1) := by decide +kernel
theorem dL_law_1428 : decode cL_law 1428 = .ok (.ifCond .eq 5, 3) := by decide +kernel
theorem dL_law_1431 : decode cL_law 1431 = .ok (.iconst 0, 1) := by decide +kernel
theorem dL_law_1432 : decode cL_law 1432 = .ok (.ireturn, 1) := by decide +kernel
theorem dL_law_1433 : decode cL_law 1433 = .ok (.iinc 4 4, 3) := by decide +kernel
theorem dL_law_1436 : decode cL_law 1436 = .ok (.goto (-1413), 3) := by decide +kernel
theorem dL_law_1439 : decode cL_law 1439 = .ok (.iconst 1, 1) := by decide +kernel
theorem dL_law_1440 : decode cL_law 1440 = .ok (.ireturn, 1) := by decide +kernel
end
section
theorem ic_0 : Int32.ofInt 0 = nI 0 := by decide
theorem ic_1 : Int32.ofInt 1 = nI 1 := by decide
theorem ic_2 : Int32.ofInt 2 = nI 2 := by decide
theorem ic_3 : Int32.ofInt 3 = nI 3 := by decide
theorem ic_4 : Int32.ofInt 4 = nI 4 := by decide
theorem ic_5 : Int32.ofInt 5 = nI 5 := by decide
theorem ni_inc (a k : Nat) : nI a + Int32.ofInt (k : Int) = nI (a + k) := by
  rw [show Int32.ofInt (k : Int) = nI k from by
    apply Int32.toBitVec_inj.mp
    show BitVec.ofInt 32 (k : Int) = BitVec.ofNat 32 k
    exact BitVec.ofInt_natCast 32 k]
  exact nI_add a k
theorem ni_dec {a : Nat} (h : 1 ≤ a) : nI a + Int32.ofInt (-1) = nI (a - 1) := by
  obtain ⟨b, rfl⟩ : ∃ b, a = b + 1 := ⟨a - 1, by omega⟩
  rw [show Int32.ofInt (-1) = (-1 : Int32) from by decide]
  exact pk_m1 b
section RW
variable {p : Program} {l : Launch} {e : Env} {R : Room} {s : State} {m : MethodId} {args : Array Value} {below : List Frame} {meth : Method} {c : Code} {H : Heap} {locs : List Loc} {cells slots : Nat} {Q : State → Prop}
variable {cc : ByteArray} {pc : Nat} {ls : Array Slot} {rest : List Value} {D : va_G} {A : Nat → Prop} {a : Nat} {tys : List (ClassId × FieldType)} {ws ws' : va_W} {H0 : Heap} {index : Nat} {Ts : List Cond} {fs : List Value}
theorem W_absQ {g : JFrame} (h : ∀ Q', Q' = Q → W p l e R s m args below meth c H locs cells slots Q' g) : W p l e R s m args below meth c H locs cells slots Q g := h Q rfl
theorem W_absR {g : JFrame} (h : ∀ R', R' = R → W p l e R' s m args below meth c H locs cells slots Q g) : W p l e R s m args below meth c H locs cells slots Q g := h R rfl
theorem W_start {g : JFrame} (hP : va_P D vwCl ws s.heap) (h : ∀ (H : Heap) (locs : List Loc), va_P D vwCl ws H → va_S A s.heap H locs → W p l e R s m args below meth c H locs 0 0 Q g) : W p l e R s m args below meth c s.heap [] 0 0 Q g := h s.heap [] hP va_S.rf
theorem gfX (hx : p.tables.exec = Jvm.exec) (hb : c.code = cc) (hts : ∀ w ∈ Ts, w.before args s = true) (hin : ∀ w ∈ wsX00, w ∈ Ts) (hown : s.vm.findClass RX0 = some m.cls) (hK : va_K D vwCl tys s) (hP : va_P D vwCl ws H) (k : Nat) (hk : k < 18) (hm : Cond.fieldLink RX0 index "CoinMechanism" (TX0 k).2.1 (TX0 k).2.2.1 ∈ Ts) {v : Value} (he : ws[0]? = some (a, .inr (0, fs))) (hv : fs[k]? = some v) (hd : decode cc pc = .ok (.getfield index, 3)) (kk : W p l e R s m args below meth c H locs cells slots Q (F0 m (pc + 3) ls (v :: rest))) : W p l e R s m args below meth c H locs cells slots Q (F0 m pc ls (.ref a :: rest)) :=
  va_get (D := D) (ci := 0) (C := RX0) (T := TX0) (N := 18) (ref := "CoinMechanism") hx hb hts hin hown hK hP 0 he rfl k hk (hts _ hm) (fun x h9 => by
    have e0 : (TX0 k).1 = "CoinMechanism" := by
      have h : ∀ k, k < 18 → (TX0 k).1 = "CoinMechanism" := by decide +kernel
      exact h k hk
    rw [e0] at h9; exact h9) hv hd kk
theorem pfX (hx : p.tables.exec = Jvm.exec) (hb : c.code = cc) (hts : ∀ w ∈ Ts, w.before args s = true) (hin : ∀ w ∈ wsX00, w ∈ Ts) (hown : s.vm.findClass RX0 = some m.cls) (hK : va_K D vwCl tys s) (hP : va_P D vwCl ws H) (hD : va_D A ws) (hS : va_S A H0 H locs) (k : Nat) (hk : k < 18) (hm : Cond.fieldLink RX0 index "CoinMechanism" (TX0 k).2.1 (TX0 k).2.2.1 ∈ Ts) {x : Int32} (he : ws[0]? = some (a, .inr (0, fs))) (hf : (TX0 k).2.2.2 = false ∧ tyX0 k = .int) (hlen : fs.length = 18) (hw : ws.set 0 (a, .inr (0, fs.set k (.int x))) = ws') (hd : decode cc pc = .ok (.putfield index, 3)) (kk : ∀ (H1 : Heap) (locs1 : List Loc), va_P D vwCl ws' H1 → va_D A ws' → va_S A H0 H1 locs1 → W p l e R s m args below meth c H1 locs1 cells slots Q (F0 m (pc + 3) ls rest)) : W p l e R s m args below meth c H locs cells slots Q (F0 m pc ls (.int x :: .ref a :: rest)) :=
  va_put (D := D) (ci := 0) (C := RX0) (T := TX0) (N := 18) (ref := "CoinMechanism") (v := .int x) (ty := .int) hx hb hts hin tyX0 tyX0_ok nmX0 hown hK hP hD hS 0 he rfl k hk (hts _ hm) (fun x h9 => by
    have e0 : (TX0 k).1 = "CoinMechanism" := by
      have h : ∀ k, k < 18 → (TX0 k).1 = "CoinMechanism" := by decide +kernel
      exact h k hk
    rw [e0] at h9; exact h9) hf.1 ((tyX0_ok k hk).trans (congrArg some hf.2)) rfl rfl (by rw [hlen]; exact hk) hd (fun H1 locs1 h1 h2 h3 => kk H1 locs1 (hw ▸ h1) (hw ▸ h2) h3)
theorem gfM (hx : p.tables.exec = Jvm.exec) (hb : c.code = cc) (hts : ∀ w ∈ Ts, w.before args s = true) (hin : ∀ w ∈ wsX10, w ∈ Ts) (hown : s.vm.findClass RX1 = some m.cls) (hK : va_K D vwCl tys s) (hP : va_P D vwCl ws H) (k : Nat) (hk : k < 19) (hm : Cond.fieldLink RX1 index "CoinMechanismModel" (TX1 k).2.1 (TX1 k).2.2.1 ∈ Ts) {v : Value} (he : ws[0]? = some (a, .inr (1, fs))) (hv : fs[k]? = some v) (hd : decode cc pc = .ok (.getfield index, 3)) (kk : W p l e R s m args below meth c H locs cells slots Q (F0 m (pc + 3) ls (v :: rest))) : W p l e R s m args below meth c H locs cells slots Q (F0 m pc ls (.ref a :: rest)) :=
  va_get (D := D) (ci := 1) (C := RX1) (T := TX1) (N := 19) (ref := "CoinMechanismModel") hx hb hts hin hown hK hP 0 he rfl k hk (hts _ hm) (fun x h9 => by
    have e0 : (TX1 k).1 = "CoinMechanismModel" := by
      have h : ∀ k, k < 19 → (TX1 k).1 = "CoinMechanismModel" := by decide +kernel
      exact h k hk
    rw [e0] at h9; exact h9) hv hd kk
theorem pfM (hx : p.tables.exec = Jvm.exec) (hb : c.code = cc) (hts : ∀ w ∈ Ts, w.before args s = true) (hin : ∀ w ∈ wsX10, w ∈ Ts) (hown : s.vm.findClass RX1 = some m.cls) (hK : va_K D vwCl tys s) (hP : va_P D vwCl ws H) (hD : va_D A ws) (hS : va_S A H0 H locs) (k : Nat) (hk : k < 19) (hm : Cond.fieldLink RX1 index "CoinMechanismModel" (TX1 k).2.1 (TX1 k).2.2.1 ∈ Ts) {x : Int32} (he : ws[0]? = some (a, .inr (1, fs))) (hf : (TX1 k).2.2.2 = false ∧ tyX1 k = .int) (hlen : fs.length = 19) (hw : ws.set 0 (a, .inr (1, fs.set k (.int x))) = ws') (hd : decode cc pc = .ok (.putfield index, 3)) (kk : ∀ (H1 : Heap) (locs1 : List Loc), va_P D vwCl ws' H1 → va_D A ws' → va_S A H0 H1 locs1 → W p l e R s m args below meth c H1 locs1 cells slots Q (F0 m (pc + 3) ls rest)) : W p l e R s m args below meth c H locs cells slots Q (F0 m pc ls (.int x :: .ref a :: rest)) :=
  va_put (D := D) (ci := 1) (C := RX1) (T := TX1) (N := 19) (ref := "CoinMechanismModel") (v := .int x) (ty := .int) hx hb hts hin tyX1 tyX1_ok nmX1 hown hK hP hD hS 0 he rfl k hk (hts _ hm) (fun x h9 => by
    have e0 : (TX1 k).1 = "CoinMechanismModel" := by
      have h : ∀ k, k < 19 → (TX1 k).1 = "CoinMechanismModel" := by decide +kernel
      exact h k hk
    rw [e0] at h9; exact h9) hf.1 ((tyX1_ok k hk).trans (congrArg some hf.2)) rfl rfl (by rw [hlen]; exact hk) hd (fun H1 locs1 h1 h2 h3 => kk H1 locs1 (hw ▸ h1) (hw ▸ h2) h3)
theorem n_zast {cl : List vw_C} (hx : p.tables.exec = Jvm.exec) (hb : c.code = cc) (hK : va_K D cl tys s) (hP : va_P D cl ws H) (hD : va_D A ws) (hS : va_S A H0 H locs) (q0 t0 : Nat) {cA : ClassId} {n : Nat} {f : Nat → Nat} (ha : ws[q0]? = some (a, .inl (cA, n, .inl (rI f)))) (ht : tys[t0]? = some (cA, .boolean)) {i x : Nat} (hi : i < n) (hz : x ≤ 1) (hn : n < 2147483648) (hw : ws.set q0 (a, .inl (cA, n, .inl (rI (un f i x)))) = ws') (hd : decode cc pc = .ok (.bastore, 1)) (kk : ∀ (H1 : Heap) (locs1 : List Loc), va_P D cl ws' H1 → va_D A ws' → va_S A H0 H1 locs1 → W p l e R s m args below meth c H1 locs1 cells slots Q (F0 m (pc + 1) ls rest)) : W p l e R s m args below meth c H locs cells slots Q (F0 m pc ls (.int (nI x) :: .int (nI i) :: .ref a :: rest)) := by
  refine va_zast hx hb hK hP hD hS q0 t0 ha ht (vp_in_nI hi hn) hd (fun H1 locs1 h1 h2 h3 => ?_)
  have hv : vp_nar .boolean (nI x) = nI x := by
    have h : x = 0 ∨ x = 1 := by omega
    rcases h with rfl | rfl <;> rfl
  rw [nI_clamp (Nat.lt_trans hi hn), hv, rI_up, hw] at h1 h2
  exact kk H1 locs1 h1 h2 h3
end RW
end
section
/-! an argument in a range; counts, sums -/
def rg (x : Int32) (a b : Nat) : Prop := ∃ j, a ≤ j ∧ j < b ∧ x = nI j
theorem rg_iff {x : Int32} {a b : Nat} (hb : b ≤ 2147483648) : rg x a b ↔ (a : Int) ≤ x.toInt ∧ x.toInt < b := by
  constructor
  · rintro ⟨j, h1, h2, rfl⟩
    rw [nI_toInt (by omega)]; omega
  · rintro ⟨h1, h2⟩
    have h0 : ¬ x < 0 := by rw [Int32.lt_iff_toInt_lt, Int32.toInt_zero]; omega
    obtain ⟨j, hj, rfl⟩ := nI_of h0
    rw [nI_toInt hj] at h1 h2
    exact ⟨j, by omega, by omega, rfl⟩
/-- the sum of the first n -/
def sm (f : Nat → Nat) : Nat → Nat
  | 0 => 0
  | n + 1 => sm f n + f n
theorem sm_cong {f g : Nat → Nat} : ∀ {n : Nat}, (∀ i, i < n → f i = g i) → sm f n = sm g n
  | 0, _ => rfl
  | n + 1, h => by
    show sm f n + f n = sm g n + g n
    rw [sm_cong (fun i hi => h i (by omega)), h n (by omega)]
theorem sm_le {f : Nat → Nat} {c : Nat} : ∀ {n : Nat}, (∀ i, i < n → f i ≤ c) → sm f n ≤ n * c
  | 0, _ => by simp [sm]
  | n + 1, h => by
    have h1 := sm_le (n := n) (fun i hi => h i (by omega))
    have h2 := h n (by omega)
    show sm f n + f n ≤ (n + 1) * c
    rw [Nat.succ_mul]; omega
/-- how many of the first n are kd -/
def wo (WK : Nat → Nat) (kd : Nat) : Nat → Nat
  | 0 => 0
  | n + 1 => wo WK kd n + (if WK n = kd then 1 else 0)
theorem wo_le (WK : Nat → Nat) (kd : Nat) : ∀ n, wo WK kd n ≤ n
  | 0 => Nat.le_refl 0
  | n + 1 => by
    have h := wo_le WK kd n
    show wo WK kd n + (if WK n = kd then 1 else 0) ≤ n + 1
    split <;> omega
theorem wo_y {WK : Nat → Nat} {kd n : Nat} (h : WK n = kd) : wo WK kd (n + 1) = wo WK kd n + 1 := by
  show wo WK kd n + (if WK n = kd then 1 else 0) = _
  rw [if_pos h]
theorem wo_n {WK : Nat → Nat} {kd n : Nat} (h : WK n ≠ kd) : wo WK kd (n + 1) = wo WK kd n := by
  show wo WK kd n + (if WK n = kd then 1 else 0) = _
  rw [if_neg h, Nat.add_zero]
/-- the credit: the values of the coins in the escrow -/
def cr (V WK : Nat → Nat) (w : Nat) : Nat := sm (fun j => V (WK j)) w
/-- .. kind by kind -/
def crk (V WK : Nat → Nat) (w k : Nat) : Nat := sm (fun i => wo WK i w * V i) k
theorem crk_0 (V WK : Nat → Nat) : ∀ k, crk V WK 0 k = 0
  | 0 => rfl
  | k + 1 => by
    show crk V WK 0 k + wo WK k 0 * V k = 0
    rw [crk_0 V WK k]; simp [wo]
theorem crk_s (V WK : Nat → Nat) (w : Nat) : ∀ k, crk V WK (w + 1) k = crk V WK w k + (if WK w < k then V (WK w) else 0)
  | 0 => by simp [crk, sm]
  | k + 1 => by
    show crk V WK (w + 1) k + wo WK k (w + 1) * V k = crk V WK w k + wo WK k w * V k + _
    rw [crk_s V WK w k]
    by_cases h : WK w = k
    · rw [wo_y h, if_neg (by omega), if_pos (by omega), h, Nat.succ_mul]; omega
    · rw [wo_n h]
      by_cases h2 : WK w < k
      · rw [if_pos h2, if_pos (by omega)]; omega
      · rw [if_neg h2, if_neg (by omega)]; omega
theorem crk_cr (V WK : Nat → Nat) (k : Nat) : ∀ w, (∀ j, j < w → WK j < k) → crk V WK w k = cr V WK w
  | 0, _ => crk_0 V WK k
  | w + 1, h => by
    rw [crk_s, crk_cr V WK k w (fun j hj => h j (by omega)), if_pos (h w (by omega))]
    rfl
/-- B with the first i emptied -/
def zb (B : Nat → Nat) (i : Nat) : Nat → Nat := fun j => if j < i then 0 else B j
theorem zb_0 (B : Nat → Nat) : B = zb B 0 := by
  funext j
  show B j = if j < 0 then 0 else B j
  rw [if_neg (Nat.not_lt_zero j)]
theorem zb_at (B : Nat → Nat) (i : Nat) : zb B i i = B i := by
  show (if i < i then 0 else B i) = B i
  rw [if_neg (Nat.lt_irrefl i)]
theorem zb_s (B : Nat → Nat) (i : Nat) : un (zb B i) i 0 = zb B (i + 1) := by
  funext j
  show (if j = i then 0 else if j < i then 0 else B j) = if j < i + 1 then 0 else B j
  by_cases h : j = i
  · rw [if_pos h, if_pos (by omega)]
  · rw [if_neg h]
    by_cases h2 : j < i
    · rw [if_pos h2, if_pos (by omega)]
    · rw [if_neg h2, if_neg (by omega)]
/-- what coins() tells of a kind -/
def tld (V T B P : Nat → Nat) (kd wh : Nat) : Nat := if wh = 0 then V kd else if wh = 1 then T kd else if wh = 2 then B kd else P kd
/-- how many of the first n values are less than x -/
def lc (V : Nat → Nat) (x : Nat) : Nat → Nat
  | 0 => 0
  | n + 1 => lc V x n + (if V n < x then 1 else 0)
theorem lc_y {V : Nat → Nat} {x n : Nat} (h : V n < x) : lc V x (n + 1) = lc V x n + 1 := by
  show lc V x n + (if V n < x then 1 else 0) = _
  rw [if_pos h]
theorem lc_n {V : Nat → Nat} {x n : Nat} (h : x ≤ V n) : lc V x (n + 1) = lc V x n := by
  show lc V x n + (if V n < x then 1 else 0) = _
  rw [if_neg (by omega), Nat.add_zero]
theorem lc_le (V : Nat → Nat) (x : Nat) : ∀ n, lc V x n ≤ n
  | 0 => Nat.le_refl 0
  | n + 1 => by
    have h := lc_le V x n
    show lc V x n + (if V n < x then 1 else 0) ≤ n + 1
    split <;> omega
/-- what is paid too much with coins of v for pr -/
def ovp (pr v : Nat) : Nat := if pr % v = 0 then 0 else v - pr % v
/-- the unit -/
def dv (V : Nat → Nat) (k d : Nat) : Nat := if ∀ i, i < k → V i % d = 0 then 1 else 0
theorem dv_le (V : Nat → Nat) (k d : Nat) : dv V k d ≤ 1 := by unfold dv; split <;> omega
theorem dv_1 (V : Nat → Nat) (k : Nat) : dv V k 1 = 1 := by
  unfold dv
  rw [if_pos (fun i _ => Nat.mod_one _)]
theorem dv_n {V : Nat → Nat} {k d i : Nat} (h : i < k) (h2 : V i % d ≠ 0) : dv V k d = 0 := by
  unfold dv
  rw [if_neg (fun q => h2 (q i h))]
theorem dv_y {V : Nat → Nat} {k d : Nat} (h : ∀ i, i < k → V i % d = 0) : dv V k d = 1 := by
  unfold dv
  rw [if_pos h]
def fd (V : Nat → Nat) (k : Nat) : Nat → Nat
  | 0 => 0
  | d + 1 => if dv V k (d + 1) = 1 then d + 1 else fd V k d
theorem fd_y {V : Nat → Nat} {k d : Nat} (h0 : 1 ≤ d) (h : dv V k d = 1) : fd V k d = d := by
  obtain ⟨c, rfl⟩ : ∃ c, d = c + 1 := ⟨d - 1, by omega⟩
  show (if dv V k (c + 1) = 1 then c + 1 else fd V k c) = c + 1
  rw [if_pos h]
theorem fd_n {V : Nat → Nat} {k d : Nat} (h0 : 1 ≤ d) (h : dv V k d ≠ 1) : fd V k d = fd V k (d - 1) := by
  obtain ⟨c, rfl⟩ : ∃ c, d = c + 1 := ⟨d - 1, by omega⟩
  show (if dv V k (c + 1) = 1 then c + 1 else fd V k c) = fd V k c
  rw [if_neg h]
def gu (V : Nat → Nat) (k : Nat) : Nat := if k = 0 then 0 else fd V k 500
theorem fd_le (V : Nat → Nat) (k : Nat) : ∀ d, fd V k d ≤ d
  | 0 => Nat.le_refl 0
  | d + 1 => by
    have h := fd_le V k d
    show (if dv V k (d + 1) = 1 then d + 1 else fd V k d) ≤ d + 1
    split <;> omega
theorem fd_pos {V : Nat → Nat} {k : Nat} : ∀ {d : Nat}, 1 ≤ d → 1 ≤ fd V k d
  | 0, h => absurd h (by omega)
  | 1, _ => by rw [fd_y (Nat.le_refl 1) (dv_1 V k)]; omega
  | d + 2, _ => by
    have h := fd_pos (V := V) (k := k) (d := d + 1) (by omega)
    show 1 ≤ (if dv V k (d + 2) = 1 then d + 2 else fd V k (d + 1))
    split <;> omega
/-- the escrow's coins dropped, kinds below i -/
def dT (C T WK : Nat → Nat) (w i : Nat) : Nat → Nat := fun j => if j < i then T j + min (wo WK j w) (C j - T j) else T j
def dB (C T B WK : Nat → Nat) (w i : Nat) : Nat → Nat := fun j => if j < i then B j + (wo WK j w - min (wo WK j w) (C j - T j)) else B j
theorem dT_0 (C T WK : Nat → Nat) (w : Nat) : T = dT C T WK w 0 := by
  funext j
  show T j = if j < 0 then _ else T j
  rw [if_neg (Nat.not_lt_zero j)]
theorem dB_0 (C T B WK : Nat → Nat) (w : Nat) : B = dB C T B WK w 0 := by
  funext j
  show B j = if j < 0 then _ else B j
  rw [if_neg (Nat.not_lt_zero j)]
theorem dT_at (C T WK : Nat → Nat) (w i : Nat) : dT C T WK w i i = T i := by
  show (if i < i then _ else T i) = T i
  rw [if_neg (Nat.lt_irrefl i)]
theorem dB_at (C T B WK : Nat → Nat) (w i : Nat) : dB C T B WK w i i = B i := by
  show (if i < i then _ else B i) = B i
  rw [if_neg (Nat.lt_irrefl i)]
theorem dT_s (C T WK : Nat → Nat) (w i : Nat) : un (dT C T WK w i) i (T i + min (wo WK i w) (C i - T i)) = dT C T WK w (i + 1) := by
  funext j
  show (if j = i then _ else if j < i then _ else T j) = if j < i + 1 then _ else T j
  by_cases h : j = i
  · subst h
    rw [if_pos rfl, if_pos (by omega)]
  · rw [if_neg h]
    by_cases h2 : j < i
    · rw [if_pos h2, if_pos (by omega)]
    · rw [if_neg h2, if_neg (by omega)]
theorem dB_s (C T B WK : Nat → Nat) (w i : Nat) : un (dB C T B WK w i) i (B i + (wo WK i w - min (wo WK i w) (C i - T i))) = dB C T B WK w (i + 1) := by
  funext j
  show (if j = i then _ else if j < i then _ else B j) = if j < i + 1 then _ else B j
  by_cases h : j = i
  · subst h
    rw [if_pos rfl, if_pos (by omega)]
  · rw [if_neg h]
    by_cases h2 : j < i
    · rw [if_pos h2, if_pos (by omega)]
    · rw [if_neg h2, if_neg (by omega)]
/-- a sale's counters -/
def cs (CT : Nat → Int64) (pr ch : Nat) : Nat → Int64 :=
  let c1 := vp_updL CT 2 (CT 2 + lZ (ch : Int))
  let c2 := vp_updL c1 7 (c1 7 + lZ (pr : Int))
  let c3 := vp_updL c2 8 (c2 8 + lZ 1)
  if ch = 0 then vp_updL c3 9 (c3 9 + lZ 1) else c3
/-- what insert does -/
def insP (k : Nat) (V A : Nat → Nat) (li w : Nat) (WK : Nat → Nat) (CT : Nat → Int64) (i : Nat) (w' : Nat) (WK' : Nat → Nat) (CT' : Nat → Int64) (r : Nat) : Prop :=
  (A i = 0 ∧ r = 1 ∧ w' = w ∧ WK' = WK ∧ CT' = CT) ∨ (A i ≠ 0 ∧ 12 ≤ w ∧ r = 2 ∧ w' = w ∧ WK' = WK ∧ CT' = CT) ∨ (A i ≠ 0 ∧ w < 12 ∧ li < cr V WK w + V i ∧ r = 3 ∧ w' = w ∧ WK' = WK ∧ CT' = CT) ∨
  (A i ≠ 0 ∧ w < 12 ∧ cr V WK w + V i ≤ li ∧ r = 0 ∧ w' = w + 1 ∧ WK' = un WK w i ∧ CT' = vp_updL CT 0 (CT 0 + lZ ((V i : Nat) : Int)))
theorem cr_le {k : Nat} {V WK : Nat → Nat} {w : Nat} (hw : w ≤ 12) (hWK : ∀ j, j < w → WK j < k) (hV : ∀ i, i < k → 1 ≤ V i ∧ V i ≤ 500) : cr V WK w ≤ 6000 := by
  have h := sm_le (f := fun j => V (WK j)) (c := 500) (n := w) (fun j hj => (hV _ (hWK j hj)).2)
  unfold cr
  have h2 : w * 500 ≤ 12 * 500 := Nat.mul_le_mul_right _ hw
  omega
end
section
set_option maxHeartbeats 4000000 in
set_option maxRecDepth 100000 in
theorem c_X0_checkKind (l : Launch) (hst : l.stackTraces = false) (D : va_G) (q : Nat → Nat) (cI cZ cJ : ClassId) (k : Nat) (V : Nat → Nat) (C : Nat → Nat) (T : Nat → Nat) (B : Nat → Nat) (P : Nat → Nat) (A : Nat → Nat) (n : Nat) (PR : Nat → Nat) (ST : Nat → Nat) (li : Nat) (w : Nat) (WK : Nat → Nat) (so : Nat) (sp : Nat) (CT : Nat → Int64) (SC : Nat → Int) (TA : Nat → Nat) (sz : Nat) (p0 : Int32) (hk8 : k ≤ 8) : vx_Met l yX0_checkKind wsX0_checkKind ({ frames := 6, cells := 1, slots := 6, locals := 90 }) (va_Pc [.ref (q 0), .int p0] (cxP D (ty3 cI cZ cJ) (wX q cI cZ cJ k V C T B P A n PR ST li w WK so sp CT SC TA) sz)) (va_Qv (fun (_ : Unit) => rg p0 0 k) (bW D (va_A (wX q cI cZ cJ k V C T B P A n PR ST li w WK so sp CT SC TA) sz) (fun (_ : Unit) => (wX q cI cZ cJ k V C T B P A n PR ST li w WK so sp CT SC TA))) (va_A (wX q cI cZ cJ k V C T B P A n PR ST li w WK so sp CT SC TA) sz)) (xX D (fun E => E = eIB ∧ ¬ rg p0 0 k) (wX q cI cZ cJ k V C T B P A n PR ST li w WK so sp CT SC TA) (va_A (wX q cI cZ cJ k V C T B P A n PR ST li w WK so sp CT SC TA) sz)) 1 6 (va_A (wX q cI cZ cJ k V C T B P A n PR ST li w WK so sp CT SC TA) sz) := by
  refine vx_ofW (cc := cX0_checkKind) (maxL := 2) (ret := none) (by decide) rfl ?_
  intro p e s m args below meth c s₁ BB hml hout hv
  obtain ⟨hav, hsz, hP, hK, hD0, hZ, hg⟩ := hv
  subst hsz
  subst hav
  have hx := BB.exec
  have hb := BB.bytes
  have hr := BB.returns
  have hts := atoms_spec (ws := wsX0_checkKind) BB.pre
  have hown : s.vm.findClass RX0 = some m.cls := findClass_of_methodNamed BB.named
  have hlocks := BB.notSynchronized
  have hin : ∀ w ∈ wsX00, w ∈ wsX0_checkKind := fun w h => (List.mem_cons_of_mem _ (List.mem_append_left _ (List.mem_append_right _ h)))
  have hD := hD0.self (sz := s.heap.size)
  have hA : ∀ q9 : Nat, s.heap.size ≤ q9 → va_A (wX q cI cZ cJ k V C T B P A n PR ST li w WK so sp CT SC TA) s.heap.size q9 := fun _ h => Or.inr h
  have hl := lv_entry ([.ref (q 0), .int p0]) (n := 2) (Nat.le_of_ble_eq_true rfl)
  rw [lg_entry_eq]
  generalize (lg_sl ([.ref (q 0), .int p0]) ++ List.replicate (2 - (lg_sl ([.ref (q 0), .int p0])).length) Slot.unset).toArray = ls at hl ⊢
  have hl : lv_has ls 2 [(0, .ref (q 0)), (1, .int p0)] := hl
  refine W_absR (fun R hR => ?_)
  have hR : R = ({ frames := 6, cells := 1, slots := 6, locals := 90 } : Room) := hR
  refine W_absQ (fun Q hQ => ?_)
  generalize ([.ref (q 0), .int p0] : List Value).toArray = args at hts hQ ⊢
  generalize va_A (wX q cI cZ cJ k V C T B P A n PR ST li w WK so sp CT SC TA) s.heap.size = A9 at hD hZ hA hQ
  refine W_start hP (A := A9) (fun H locs hP hS => ?_)
  refine lv_iload_n hx hb dX0_checkKind_0 rfl (lv_at hl 1 rfl) ?_
  refine lv_if_lt (tgt := 12) hx hb dX0_checkKind_1 (by decide) (fun c1 => ?_) (fun c1 => ?_)
  · have hno : ¬ rg p0 0 k := by rw [rg_iff (by omega)]; simp only [Int32.lt_iff_toInt_lt, Int32.le_iff_toInt_le, Int32.toInt_zero] at c1; omega
    subst hQ
    exact k_throw hx hb hst (cls := eIB) hown (by decide +kernel) (hts _ (List.mem_of_getElem? (i := 1) rfl)) (hts _ (List.mem_of_getElem? (i := 2) rfl)) (hg.1 (184, "no such kind") (by decide)) (k_hat (fun w h => hts w (List.mem_cons_of_mem _ (List.mem_append_right _ h))) (by decide +kernel) hg.2.2.2.1 hg) (by decide +kernel) hZ hS (hl.1.trans hml.symm) dX0_checkKind_12 dX0_checkKind_15 dX0_checkKind_16 dX0_checkKind_18 dX0_checkKind_21 hout (by rw [hR]; exact Nat.le_of_ble_eq_true rfl) (by rw [hR]; exact Nat.le_of_ble_eq_true rfl) (by rw [hR]; exact Nat.le_of_ble_eq_true rfl) (by rw [hR]; exact Nat.le_of_ble_eq_true rfl) hlocks hP hD (⟨rfl, hno⟩) (Nat.le_of_ble_eq_true rfl) (Nat.le_of_ble_eq_true rfl)
  · refine lv_iload_n hx hb dX0_checkKind_4 rfl (lv_at hl 1 rfl) ?_
    refine lv_aload_n hx hb dX0_checkKind_5 rfl (lv_at hl 0 rfl) ?_
    refine gfX hx hb hts hin hown hK hP 0 (by decide) (List.mem_of_getElem? (i := 3) rfl) rfl rfl dX0_checkKind_6 ?_
    refine lv_icmp_lt (tgt := 22) hx hb dX0_checkKind_9 (by decide) (fun c9 => ?_) (fun c9 => ?_)
    · subst hQ
      exact vx_ret (e_v () hx hb hr hlocks hS hP hD (by rw [rg_iff (by omega)]; simp only [Int32.lt_iff_toInt_lt, Int32.le_iff_toInt_le, Int32.toInt_zero, nI_toInt (show k < 2 ^ 31 by omega)] at c1 c9; omega) (Nat.le_of_ble_eq_true rfl) (Nat.le_of_ble_eq_true rfl) dX0_checkKind_22)
    · have hno : ¬ rg p0 0 k := by rw [rg_iff (by omega)]; simp only [Int32.lt_iff_toInt_lt, Int32.le_iff_toInt_le, Int32.toInt_zero, nI_toInt (show k < 2 ^ 31 by omega)] at c9; omega
      subst hQ
      exact k_throw hx hb hst (cls := eIB) hown (by decide +kernel) (hts _ (List.mem_of_getElem? (i := 1) rfl)) (hts _ (List.mem_of_getElem? (i := 2) rfl)) (hg.1 (184, "no such kind") (by decide)) (k_hat (fun w h => hts w (List.mem_cons_of_mem _ (List.mem_append_right _ h))) (by decide +kernel) hg.2.2.2.1 hg) (by decide +kernel) hZ hS (hl.1.trans hml.symm) dX0_checkKind_12 dX0_checkKind_15 dX0_checkKind_16 dX0_checkKind_18 dX0_checkKind_21 hout (by rw [hR]; exact Nat.le_of_ble_eq_true rfl) (by rw [hR]; exact Nat.le_of_ble_eq_true rfl) (by rw [hR]; exact Nat.le_of_ble_eq_true rfl) (by rw [hR]; exact Nat.le_of_ble_eq_true rfl) hlocks hP hD (⟨rfl, hno⟩) (Nat.le_of_ble_eq_true rfl) (Nat.le_of_ble_eq_true rfl)
theorem hd_X0_checkKind : yX0_checkKind.cls = RX0 ∧ yX0_checkKind.cls ≠ "java/lang/invoke/MethodHandle" ∧ yX0_checkKind.cls ≠ "java/lang/invoke/VarHandle" ∧ (parseMethodDescriptor yX0_checkKind.desc).map (fun d => d.parameters.length) = some 1 := by decide +kernel

set_option maxHeartbeats 4000000 in
set_option maxRecDepth 100000 in
theorem c_X0_checkProduct (l : Launch) (hst : l.stackTraces = false) (D : va_G) (q : Nat → Nat) (cI cZ cJ : ClassId) (k : Nat) (V : Nat → Nat) (C : Nat → Nat) (T : Nat → Nat) (B : Nat → Nat) (P : Nat → Nat) (A : Nat → Nat) (n : Nat) (PR : Nat → Nat) (ST : Nat → Nat) (li : Nat) (w : Nat) (WK : Nat → Nat) (so : Nat) (sp : Nat) (CT : Nat → Int64) (SC : Nat → Int) (TA : Nat → Nat) (sz : Nat) (p0 : Int32) (hn10 : n ≤ 10) : vx_Met l yX0_checkProduct wsX0_checkProduct ({ frames := 6, cells := 1, slots := 6, locals := 90 }) (va_Pc [.ref (q 0), .int p0] (cxP D (ty3 cI cZ cJ) (wX q cI cZ cJ k V C T B P A n PR ST li w WK so sp CT SC TA) sz)) (va_Qv (fun (_ : Unit) => rg p0 0 n) (bW D (va_A (wX q cI cZ cJ k V C T B P A n PR ST li w WK so sp CT SC TA) sz) (fun (_ : Unit) => (wX q cI cZ cJ k V C T B P A n PR ST li w WK so sp CT SC TA))) (va_A (wX q cI cZ cJ k V C T B P A n PR ST li w WK so sp CT SC TA) sz)) (xX D (fun E => E = eIB ∧ ¬ rg p0 0 n) (wX q cI cZ cJ k V C T B P A n PR ST li w WK so sp CT SC TA) (va_A (wX q cI cZ cJ k V C T B P A n PR ST li w WK so sp CT SC TA) sz)) 1 6 (va_A (wX q cI cZ cJ k V C T B P A n PR ST li w WK so sp CT SC TA) sz) := by
  refine vx_ofW (cc := cX0_checkProduct) (maxL := 2) (ret := none) (by decide) rfl ?_
  intro p e s m args below meth c s₁ BB hml hout hv
  obtain ⟨hav, hsz, hP, hK, hD0, hZ, hg⟩ := hv
  subst hsz
  subst hav
  have hx := BB.exec
  have hb := BB.bytes
  have hr := BB.returns
  have hts := atoms_spec (ws := wsX0_checkProduct) BB.pre
  have hown : s.vm.findClass RX0 = some m.cls := findClass_of_methodNamed BB.named
  have hlocks := BB.notSynchronized
  have hin : ∀ w ∈ wsX00, w ∈ wsX0_checkProduct := fun w h => (List.mem_cons_of_mem _ (List.mem_append_left _ (List.mem_append_right _ h)))
  have hD := hD0.self (sz := s.heap.size)
  have hA : ∀ q9 : Nat, s.heap.size ≤ q9 → va_A (wX q cI cZ cJ k V C T B P A n PR ST li w WK so sp CT SC TA) s.heap.size q9 := fun _ h => Or.inr h
  have hl := lv_entry ([.ref (q 0), .int p0]) (n := 2) (Nat.le_of_ble_eq_true rfl)
  rw [lg_entry_eq]
  generalize (lg_sl ([.ref (q 0), .int p0]) ++ List.replicate (2 - (lg_sl ([.ref (q 0), .int p0])).length) Slot.unset).toArray = ls at hl ⊢
  have hl : lv_has ls 2 [(0, .ref (q 0)), (1, .int p0)] := hl
  refine W_absR (fun R hR => ?_)
  have hR : R = ({ frames := 6, cells := 1, slots := 6, locals := 90 } : Room) := hR
  refine W_absQ (fun Q hQ => ?_)
  generalize ([.ref (q 0), .int p0] : List Value).toArray = args at hts hQ ⊢
  generalize va_A (wX q cI cZ cJ k V C T B P A n PR ST li w WK so sp CT SC TA) s.heap.size = A9 at hD hZ hA hQ
  refine W_start hP (A := A9) (fun H locs hP hS => ?_)
  refine lv_iload_n hx hb dX0_checkProduct_0 rfl (lv_at hl 1 rfl) ?_
  refine lv_if_lt (tgt := 12) hx hb dX0_checkProduct_1 (by decide) (fun c1 => ?_) (fun c1 => ?_)
  · have hno : ¬ rg p0 0 n := by rw [rg_iff (by omega)]; simp only [Int32.lt_iff_toInt_lt, Int32.le_iff_toInt_le, Int32.toInt_zero] at c1; omega
    subst hQ
    exact k_throw hx hb hst (cls := eIB) hown (by decide +kernel) (hts _ (List.mem_of_getElem? (i := 1) rfl)) (hts _ (List.mem_of_getElem? (i := 2) rfl)) (hg.1 (186, "no such product") (by decide)) (k_hat (fun w h => hts w (List.mem_cons_of_mem _ (List.mem_append_right _ h))) (by decide +kernel) hg.2.2.2.1 hg) (by decide +kernel) hZ hS (hl.1.trans hml.symm) dX0_checkProduct_12 dX0_checkProduct_15 dX0_checkProduct_16 dX0_checkProduct_18 dX0_checkProduct_21 hout (by rw [hR]; exact Nat.le_of_ble_eq_true rfl) (by rw [hR]; exact Nat.le_of_ble_eq_true rfl) (by rw [hR]; exact Nat.le_of_ble_eq_true rfl) (by rw [hR]; exact Nat.le_of_ble_eq_true rfl) hlocks hP hD (⟨rfl, hno⟩) (Nat.le_of_ble_eq_true rfl) (Nat.le_of_ble_eq_true rfl)
  · refine lv_iload_n hx hb dX0_checkProduct_4 rfl (lv_at hl 1 rfl) ?_
    refine lv_aload_n hx hb dX0_checkProduct_5 rfl (lv_at hl 0 rfl) ?_
    refine gfX hx hb hts hin hown hK hP 7 (by decide) (List.mem_of_getElem? (i := 3) rfl) rfl rfl dX0_checkProduct_6 ?_
    refine lv_icmp_lt (tgt := 22) hx hb dX0_checkProduct_9 (by decide) (fun c9 => ?_) (fun c9 => ?_)
    · subst hQ
      exact vx_ret (e_v () hx hb hr hlocks hS hP hD (by rw [rg_iff (by omega)]; simp only [Int32.lt_iff_toInt_lt, Int32.le_iff_toInt_le, Int32.toInt_zero, nI_toInt (show n < 2 ^ 31 by omega)] at c1 c9; omega) (Nat.le_of_ble_eq_true rfl) (Nat.le_of_ble_eq_true rfl) dX0_checkProduct_22)
    · have hno : ¬ rg p0 0 n := by rw [rg_iff (by omega)]; simp only [Int32.lt_iff_toInt_lt, Int32.le_iff_toInt_le, Int32.toInt_zero, nI_toInt (show n < 2 ^ 31 by omega)] at c9; omega
      subst hQ
      exact k_throw hx hb hst (cls := eIB) hown (by decide +kernel) (hts _ (List.mem_of_getElem? (i := 1) rfl)) (hts _ (List.mem_of_getElem? (i := 2) rfl)) (hg.1 (186, "no such product") (by decide)) (k_hat (fun w h => hts w (List.mem_cons_of_mem _ (List.mem_append_right _ h))) (by decide +kernel) hg.2.2.2.1 hg) (by decide +kernel) hZ hS (hl.1.trans hml.symm) dX0_checkProduct_12 dX0_checkProduct_15 dX0_checkProduct_16 dX0_checkProduct_18 dX0_checkProduct_21 hout (by rw [hR]; exact Nat.le_of_ble_eq_true rfl) (by rw [hR]; exact Nat.le_of_ble_eq_true rfl) (by rw [hR]; exact Nat.le_of_ble_eq_true rfl) (by rw [hR]; exact Nat.le_of_ble_eq_true rfl) hlocks hP hD (⟨rfl, hno⟩) (Nat.le_of_ble_eq_true rfl) (Nat.le_of_ble_eq_true rfl)
theorem hd_X0_checkProduct : yX0_checkProduct.cls = RX0 ∧ yX0_checkProduct.cls ≠ "java/lang/invoke/MethodHandle" ∧ yX0_checkProduct.cls ≠ "java/lang/invoke/VarHandle" ∧ (parseMethodDescriptor yX0_checkProduct.desc).map (fun d => d.parameters.length) = some 1 := by decide +kernel

set_option maxHeartbeats 4000000 in
set_option maxRecDepth 100000 in
theorem c_X0_checkMany (l : Launch) (hst : l.stackTraces = false) (D : va_G) (q : Nat → Nat) (cI cZ cJ : ClassId) (k : Nat) (V : Nat → Nat) (C : Nat → Nat) (T : Nat → Nat) (B : Nat → Nat) (P : Nat → Nat) (A : Nat → Nat) (n : Nat) (PR : Nat → Nat) (ST : Nat → Nat) (li : Nat) (w : Nat) (WK : Nat → Nat) (so : Nat) (sp : Nat) (CT : Nat → Int64) (SC : Nat → Int) (TA : Nat → Nat) (sz : Nat) (p0 : Int32) : vx_Met l yX0_checkMany wsX0_checkMany ({ frames := 6, cells := 1, slots := 6, locals := 90 }) (va_Pc [.int p0] (cxP D (ty3 cI cZ cJ) (wX q cI cZ cJ k V C T B P A n PR ST li w WK so sp CT SC TA) sz)) (va_Qv (fun (_ : Unit) => rg p0 0 61) (bW D (va_A (wX q cI cZ cJ k V C T B P A n PR ST li w WK so sp CT SC TA) sz) (fun (_ : Unit) => (wX q cI cZ cJ k V C T B P A n PR ST li w WK so sp CT SC TA))) (va_A (wX q cI cZ cJ k V C T B P A n PR ST li w WK so sp CT SC TA) sz)) (xX D (fun E => E = eIA ∧ ¬ rg p0 0 61) (wX q cI cZ cJ k V C T B P A n PR ST li w WK so sp CT SC TA) (va_A (wX q cI cZ cJ k V C T B P A n PR ST li w WK so sp CT SC TA) sz)) 1 6 (va_A (wX q cI cZ cJ k V C T B P A n PR ST li w WK so sp CT SC TA) sz) := by
  refine vx_ofW (cc := cX0_checkMany) (maxL := 1) (ret := none) (by decide) rfl ?_
  intro p e s m args below meth c s₁ BB hml hout hv
  obtain ⟨hav, hsz, hP, hK, hD0, hZ, hg⟩ := hv
  subst hsz
  subst hav
  have hx := BB.exec
  have hb := BB.bytes
  have hr := BB.returns
  have hts := atoms_spec (ws := wsX0_checkMany) BB.pre
  have hown : s.vm.findClass RX0 = some m.cls := findClass_of_methodNamed BB.named
  have hlocks := BB.notSynchronized
  have hD := hD0.self (sz := s.heap.size)
  have hA : ∀ q9 : Nat, s.heap.size ≤ q9 → va_A (wX q cI cZ cJ k V C T B P A n PR ST li w WK so sp CT SC TA) s.heap.size q9 := fun _ h => Or.inr h
  have hl := lv_entry ([.int p0]) (n := 1) (Nat.le_of_ble_eq_true rfl)
  rw [lg_entry_eq]
  generalize (lg_sl ([.int p0]) ++ List.replicate (1 - (lg_sl ([.int p0])).length) Slot.unset).toArray = ls at hl ⊢
  have hl : lv_has ls 1 [(0, .int p0)] := hl
  refine W_absR (fun R hR => ?_)
  have hR : R = ({ frames := 6, cells := 1, slots := 6, locals := 90 } : Room) := hR
  refine W_absQ (fun Q hQ => ?_)
  generalize ([.int p0] : List Value).toArray = args at hts hQ ⊢
  generalize va_A (wX q cI cZ cJ k V C T B P A n PR ST li w WK so sp CT SC TA) s.heap.size = A9 at hD hZ hA hQ
  refine W_start hP (A := A9) (fun H locs hP hS => ?_)
  refine lv_iload_n hx hb dX0_checkMany_0 rfl (lv_at hl 0 rfl) ?_
  refine lv_if_lt (tgt := 10) hx hb dX0_checkMany_1 (by decide) (fun c1 => ?_) (fun c1 => ?_)
  · have hno : ¬ rg p0 0 61 := by rw [rg_iff (by omega)]; simp only [Int32.lt_iff_toInt_lt, Int32.le_iff_toInt_le, Int32.toInt_zero] at c1; omega
    subst hQ
    exact k_throw hx hb hst (cls := eIA) hown (by decide +kernel) (hts _ (List.mem_of_getElem? (i := 1) rfl)) (hts _ (List.mem_of_getElem? (i := 2) rfl)) (hg.1 (188, "many is not 0 to 60") (by decide)) (k_hat (fun w h => hts w (List.mem_cons_of_mem _ (List.mem_append_right _ h))) (by decide +kernel) hg.2.1 hg) (by decide +kernel) hZ hS (hl.1.trans hml.symm) dX0_checkMany_10 dX0_checkMany_13 dX0_checkMany_14 dX0_checkMany_16 dX0_checkMany_19 hout (by rw [hR]; exact Nat.le_of_ble_eq_true rfl) (by rw [hR]; exact Nat.le_of_ble_eq_true rfl) (by rw [hR]; exact Nat.le_of_ble_eq_true rfl) (by rw [hR]; exact Nat.le_of_ble_eq_true rfl) hlocks hP hD (⟨rfl, hno⟩) (Nat.le_of_ble_eq_true rfl) (Nat.le_of_ble_eq_true rfl)
  · refine lv_iload_n hx hb dX0_checkMany_4 rfl (lv_at hl 0 rfl) ?_
    refine lv_bipush (v := nI 60) hx hb dX0_checkMany_5 (by decide) ?_
    refine lv_icmp_le (tgt := 20) hx hb dX0_checkMany_7 (by decide) (fun c7 => ?_) (fun c7 => ?_)
    · subst hQ
      exact vx_ret (e_v () hx hb hr hlocks hS hP hD (by rw [rg_iff (by omega)]; simp only [Int32.lt_iff_toInt_lt, Int32.le_iff_toInt_le, Int32.toInt_zero, nI_toInt (show 60 < 2 ^ 31 by omega)] at c1 c7; omega) (Nat.le_of_ble_eq_true rfl) (Nat.le_of_ble_eq_true rfl) dX0_checkMany_20)
    · have hno : ¬ rg p0 0 61 := by rw [rg_iff (by omega)]; simp only [Int32.lt_iff_toInt_lt, Int32.le_iff_toInt_le, Int32.toInt_zero, nI_toInt (show 60 < 2 ^ 31 by omega)] at c7; omega
      subst hQ
      exact k_throw hx hb hst (cls := eIA) hown (by decide +kernel) (hts _ (List.mem_of_getElem? (i := 1) rfl)) (hts _ (List.mem_of_getElem? (i := 2) rfl)) (hg.1 (188, "many is not 0 to 60") (by decide)) (k_hat (fun w h => hts w (List.mem_cons_of_mem _ (List.mem_append_right _ h))) (by decide +kernel) hg.2.1 hg) (by decide +kernel) hZ hS (hl.1.trans hml.symm) dX0_checkMany_10 dX0_checkMany_13 dX0_checkMany_14 dX0_checkMany_16 dX0_checkMany_19 hout (by rw [hR]; exact Nat.le_of_ble_eq_true rfl) (by rw [hR]; exact Nat.le_of_ble_eq_true rfl) (by rw [hR]; exact Nat.le_of_ble_eq_true rfl) (by rw [hR]; exact Nat.le_of_ble_eq_true rfl) hlocks hP hD (⟨rfl, hno⟩) (Nat.le_of_ble_eq_true rfl) (Nat.le_of_ble_eq_true rfl)
theorem hd_X0_checkMany : yX0_checkMany.cls = RX0 ∧ yX0_checkMany.cls ≠ "java/lang/invoke/MethodHandle" ∧ yX0_checkMany.cls ≠ "java/lang/invoke/VarHandle" ∧ (parseMethodDescriptor yX0_checkMany.desc).map (fun d => d.parameters.length) = some 1 := by decide +kernel

set_option maxHeartbeats 4000000 in
set_option maxRecDepth 100000 in
theorem c_X0_checkAmount (l : Launch) (hst : l.stackTraces = false) (D : va_G) (q : Nat → Nat) (cI cZ cJ : ClassId) (k : Nat) (V : Nat → Nat) (C : Nat → Nat) (T : Nat → Nat) (B : Nat → Nat) (P : Nat → Nat) (A : Nat → Nat) (n : Nat) (PR : Nat → Nat) (ST : Nat → Nat) (li : Nat) (w : Nat) (WK : Nat → Nat) (so : Nat) (sp : Nat) (CT : Nat → Int64) (SC : Nat → Int) (TA : Nat → Nat) (sz : Nat) (p0 : Int32) : vx_Met l yX0_checkAmount wsX0_checkAmount ({ frames := 6, cells := 1, slots := 6, locals := 90 }) (va_Pc [.int p0] (cxP D (ty3 cI cZ cJ) (wX q cI cZ cJ k V C T B P A n PR ST li w WK so sp CT SC TA) sz)) (va_Qv (fun (_ : Unit) => rg p0 0 2001) (bW D (va_A (wX q cI cZ cJ k V C T B P A n PR ST li w WK so sp CT SC TA) sz) (fun (_ : Unit) => (wX q cI cZ cJ k V C T B P A n PR ST li w WK so sp CT SC TA))) (va_A (wX q cI cZ cJ k V C T B P A n PR ST li w WK so sp CT SC TA) sz)) (xX D (fun E => E = eIA ∧ ¬ rg p0 0 2001) (wX q cI cZ cJ k V C T B P A n PR ST li w WK so sp CT SC TA) (va_A (wX q cI cZ cJ k V C T B P A n PR ST li w WK so sp CT SC TA) sz)) 1 6 (va_A (wX q cI cZ cJ k V C T B P A n PR ST li w WK so sp CT SC TA) sz) := by
  refine vx_ofW (cc := cX0_checkAmount) (maxL := 1) (ret := none) (by decide) rfl ?_
  intro p e s m args below meth c s₁ BB hml hout hv
  obtain ⟨hav, hsz, hP, hK, hD0, hZ, hg⟩ := hv
  subst hsz
  subst hav
  have hx := BB.exec
  have hb := BB.bytes
  have hr := BB.returns
  have hts := atoms_spec (ws := wsX0_checkAmount) BB.pre
  have hown : s.vm.findClass RX0 = some m.cls := findClass_of_methodNamed BB.named
  have hlocks := BB.notSynchronized
  have hD := hD0.self (sz := s.heap.size)
  have hA : ∀ q9 : Nat, s.heap.size ≤ q9 → va_A (wX q cI cZ cJ k V C T B P A n PR ST li w WK so sp CT SC TA) s.heap.size q9 := fun _ h => Or.inr h
  have hl := lv_entry ([.int p0]) (n := 1) (Nat.le_of_ble_eq_true rfl)
  rw [lg_entry_eq]
  generalize (lg_sl ([.int p0]) ++ List.replicate (1 - (lg_sl ([.int p0])).length) Slot.unset).toArray = ls at hl ⊢
  have hl : lv_has ls 1 [(0, .int p0)] := hl
  refine W_absR (fun R hR => ?_)
  have hR : R = ({ frames := 6, cells := 1, slots := 6, locals := 90 } : Room) := hR
  refine W_absQ (fun Q hQ => ?_)
  generalize ([.int p0] : List Value).toArray = args at hts hQ ⊢
  generalize va_A (wX q cI cZ cJ k V C T B P A n PR ST li w WK so sp CT SC TA) s.heap.size = A9 at hD hZ hA hQ
  refine W_start hP (A := A9) (fun H locs hP hS => ?_)
  refine lv_iload_n hx hb dX0_checkAmount_0 rfl (lv_at hl 0 rfl) ?_
  refine lv_if_lt (tgt := 11) hx hb dX0_checkAmount_1 (by decide) (fun c1 => ?_) (fun c1 => ?_)
  · have hno : ¬ rg p0 0 2001 := by rw [rg_iff (by omega)]; simp only [Int32.lt_iff_toInt_lt, Int32.le_iff_toInt_le, Int32.toInt_zero] at c1; omega
    subst hQ
    exact k_throw hx hb hst (cls := eIA) hown (by decide +kernel) (hts _ (List.mem_of_getElem? (i := 1) rfl)) (hts _ (List.mem_of_getElem? (i := 2) rfl)) (hg.1 (194, "amount is not 0 to 2000") (by decide)) (k_hat (fun w h => hts w (List.mem_cons_of_mem _ (List.mem_append_right _ h))) (by decide +kernel) hg.2.1 hg) (by decide +kernel) hZ hS (hl.1.trans hml.symm) dX0_checkAmount_11 dX0_checkAmount_14 dX0_checkAmount_15 dX0_checkAmount_17 dX0_checkAmount_20 hout (by rw [hR]; exact Nat.le_of_ble_eq_true rfl) (by rw [hR]; exact Nat.le_of_ble_eq_true rfl) (by rw [hR]; exact Nat.le_of_ble_eq_true rfl) (by rw [hR]; exact Nat.le_of_ble_eq_true rfl) hlocks hP hD (⟨rfl, hno⟩) (Nat.le_of_ble_eq_true rfl) (Nat.le_of_ble_eq_true rfl)
  · refine lv_iload_n hx hb dX0_checkAmount_4 rfl (lv_at hl 0 rfl) ?_
    refine lv_sipush (v := nI 2000) hx hb dX0_checkAmount_5 (by decide) ?_
    refine lv_icmp_le (tgt := 21) hx hb dX0_checkAmount_8 (by decide) (fun c8 => ?_) (fun c8 => ?_)
    · subst hQ
      exact vx_ret (e_v () hx hb hr hlocks hS hP hD (by rw [rg_iff (by omega)]; simp only [Int32.lt_iff_toInt_lt, Int32.le_iff_toInt_le, Int32.toInt_zero, nI_toInt (show 2000 < 2 ^ 31 by omega)] at c1 c8; omega) (Nat.le_of_ble_eq_true rfl) (Nat.le_of_ble_eq_true rfl) dX0_checkAmount_21)
    · have hno : ¬ rg p0 0 2001 := by rw [rg_iff (by omega)]; simp only [Int32.lt_iff_toInt_lt, Int32.le_iff_toInt_le, Int32.toInt_zero, nI_toInt (show 2000 < 2 ^ 31 by omega)] at c8; omega
      subst hQ
      exact k_throw hx hb hst (cls := eIA) hown (by decide +kernel) (hts _ (List.mem_of_getElem? (i := 1) rfl)) (hts _ (List.mem_of_getElem? (i := 2) rfl)) (hg.1 (194, "amount is not 0 to 2000") (by decide)) (k_hat (fun w h => hts w (List.mem_cons_of_mem _ (List.mem_append_right _ h))) (by decide +kernel) hg.2.1 hg) (by decide +kernel) hZ hS (hl.1.trans hml.symm) dX0_checkAmount_11 dX0_checkAmount_14 dX0_checkAmount_15 dX0_checkAmount_17 dX0_checkAmount_20 hout (by rw [hR]; exact Nat.le_of_ble_eq_true rfl) (by rw [hR]; exact Nat.le_of_ble_eq_true rfl) (by rw [hR]; exact Nat.le_of_ble_eq_true rfl) (by rw [hR]; exact Nat.le_of_ble_eq_true rfl) hlocks hP hD (⟨rfl, hno⟩) (Nat.le_of_ble_eq_true rfl) (Nat.le_of_ble_eq_true rfl)
theorem hd_X0_checkAmount : yX0_checkAmount.cls = RX0 ∧ yX0_checkAmount.cls ≠ "java/lang/invoke/MethodHandle" ∧ yX0_checkAmount.cls ≠ "java/lang/invoke/VarHandle" ∧ (parseMethodDescriptor yX0_checkAmount.desc).map (fun d => d.parameters.length) = some 1 := by decide +kernel

set_option maxHeartbeats 4000000 in
set_option maxRecDepth 100000 in
theorem c_X0_checkPriceAndStock (l : Launch) (hst : l.stackTraces = false) (D : va_G) (q : Nat → Nat) (cI cZ cJ : ClassId) (k : Nat) (V : Nat → Nat) (C : Nat → Nat) (T : Nat → Nat) (B : Nat → Nat) (P : Nat → Nat) (A : Nat → Nat) (n : Nat) (PR : Nat → Nat) (ST : Nat → Nat) (li : Nat) (w : Nat) (WK : Nat → Nat) (so : Nat) (sp : Nat) (CT : Nat → Int64) (SC : Nat → Int) (TA : Nat → Nat) (sz : Nat) (p0 : Int32) (p1 : Int32) : vx_Met l yX0_checkPriceAndStock wsX0_checkPriceAndStock ({ frames := 6, cells := 1, slots := 6, locals := 90 }) (va_Pc [.int p0, .int p1] (cxP D (ty3 cI cZ cJ) (wX q cI cZ cJ k V C T B P A n PR ST li w WK so sp CT SC TA) sz)) (va_Qv (fun (_ : Unit) => rg p0 1 2001 ∧ rg p1 0 100) (bW D (va_A (wX q cI cZ cJ k V C T B P A n PR ST li w WK so sp CT SC TA) sz) (fun (_ : Unit) => (wX q cI cZ cJ k V C T B P A n PR ST li w WK so sp CT SC TA))) (va_A (wX q cI cZ cJ k V C T B P A n PR ST li w WK so sp CT SC TA) sz)) (xX D (fun E => E = eIA ∧ ¬ (rg p0 1 2001 ∧ rg p1 0 100)) (wX q cI cZ cJ k V C T B P A n PR ST li w WK so sp CT SC TA) (va_A (wX q cI cZ cJ k V C T B P A n PR ST li w WK so sp CT SC TA) sz)) 1 6 (va_A (wX q cI cZ cJ k V C T B P A n PR ST li w WK so sp CT SC TA) sz) := by
  refine vx_ofW (cc := cX0_checkPriceAndStock) (maxL := 2) (ret := none) (by decide) rfl ?_
  intro p e s m args below meth c s₁ BB hml hout hv
  obtain ⟨hav, hsz, hP, hK, hD0, hZ, hg⟩ := hv
  subst hsz
  subst hav
  have hx := BB.exec
  have hb := BB.bytes
  have hr := BB.returns
  have hts := atoms_spec (ws := wsX0_checkPriceAndStock) BB.pre
  have hown : s.vm.findClass RX0 = some m.cls := findClass_of_methodNamed BB.named
  have hlocks := BB.notSynchronized
  have hD := hD0.self (sz := s.heap.size)
  have hA : ∀ q9 : Nat, s.heap.size ≤ q9 → va_A (wX q cI cZ cJ k V C T B P A n PR ST li w WK so sp CT SC TA) s.heap.size q9 := fun _ h => Or.inr h
  have hl := lv_entry ([.int p0, .int p1]) (n := 2) (Nat.le_of_ble_eq_true rfl)
  rw [lg_entry_eq]
  generalize (lg_sl ([.int p0, .int p1]) ++ List.replicate (2 - (lg_sl ([.int p0, .int p1])).length) Slot.unset).toArray = ls at hl ⊢
  have hl : lv_has ls 2 [(0, .int p0), (1, .int p1)] := hl
  refine W_absR (fun R hR => ?_)
  have hR : R = ({ frames := 6, cells := 1, slots := 6, locals := 90 } : Room) := hR
  refine W_absQ (fun Q hQ => ?_)
  generalize ([.int p0, .int p1] : List Value).toArray = args at hts hQ ⊢
  generalize va_A (wX q cI cZ cJ k V C T B P A n PR ST li w WK so sp CT SC TA) s.heap.size = A9 at hD hZ hA hQ
  refine W_start hP (A := A9) (fun H locs hP hS => ?_)
  refine lv_iload_n hx hb dX0_checkPriceAndStock_0 rfl (lv_at hl 0 rfl) ?_
  refine lv_iconst (v := nI 1) hx hb dX0_checkPriceAndStock_1 (ic_1) ?_
  refine lv_icmp_lt (tgt := 12) hx hb dX0_checkPriceAndStock_2 (by decide) (fun c2 => ?_) (fun c2 => ?_)
  · have hno : ¬ rg p0 1 2001 := by rw [rg_iff (by omega)]; simp only [Int32.lt_iff_toInt_lt, Int32.le_iff_toInt_le, Int32.toInt_zero, nI_toInt (show 1 < 2 ^ 31 by omega)] at c2; omega
    subst hQ
    exact k_throw hx hb hst (cls := eIA) hown (by decide +kernel) (hts _ (List.mem_of_getElem? (i := 1) rfl)) (hts _ (List.mem_of_getElem? (i := 2) rfl)) (hg.1 (190, "price is not 1 to 2000") (by decide)) (k_hat (fun w h => hts w (List.mem_cons_of_mem _ (List.mem_append_right _ h))) (by decide +kernel) hg.2.1 hg) (by decide +kernel) hZ hS (hl.1.trans hml.symm) dX0_checkPriceAndStock_12 dX0_checkPriceAndStock_15 dX0_checkPriceAndStock_16 dX0_checkPriceAndStock_18 dX0_checkPriceAndStock_21 hout (by rw [hR]; exact Nat.le_of_ble_eq_true rfl) (by rw [hR]; exact Nat.le_of_ble_eq_true rfl) (by rw [hR]; exact Nat.le_of_ble_eq_true rfl) (by rw [hR]; exact Nat.le_of_ble_eq_true rfl) hlocks hP hD (⟨rfl, fun h => hno h.1⟩) (Nat.le_of_ble_eq_true rfl) (Nat.le_of_ble_eq_true rfl)
  · refine lv_iload_n hx hb dX0_checkPriceAndStock_5 rfl (lv_at hl 0 rfl) ?_
    refine lv_sipush (v := nI 2000) hx hb dX0_checkPriceAndStock_6 (by decide) ?_
    refine lv_icmp_le (tgt := 22) hx hb dX0_checkPriceAndStock_9 (by decide) (fun c9 => ?_) (fun c9 => ?_)
    · refine lv_iload_n hx hb dX0_checkPriceAndStock_22 rfl (lv_at hl 1 rfl) ?_
      refine lv_if_lt (tgt := 32) hx hb dX0_checkPriceAndStock_23 (by decide) (fun c23 => ?_) (fun c23 => ?_)
      · have hno : ¬ rg p1 0 100 := by rw [rg_iff (by omega)]; simp only [Int32.lt_iff_toInt_lt, Int32.le_iff_toInt_le, Int32.toInt_zero] at c23; omega
        subst hQ
        exact k_throw hx hb hst (cls := eIA) hown (by decide +kernel) (hts _ (List.mem_of_getElem? (i := 1) rfl)) (hts _ (List.mem_of_getElem? (i := 2) rfl)) (hg.1 (192, "stock is not 0 to 99") (by decide)) (k_hat (fun w h => hts w (List.mem_cons_of_mem _ (List.mem_append_right _ h))) (by decide +kernel) hg.2.1 hg) (by decide +kernel) hZ hS (hl.1.trans hml.symm) dX0_checkPriceAndStock_32 dX0_checkPriceAndStock_35 dX0_checkPriceAndStock_36 dX0_checkPriceAndStock_38 dX0_checkPriceAndStock_41 hout (by rw [hR]; exact Nat.le_of_ble_eq_true rfl) (by rw [hR]; exact Nat.le_of_ble_eq_true rfl) (by rw [hR]; exact Nat.le_of_ble_eq_true rfl) (by rw [hR]; exact Nat.le_of_ble_eq_true rfl) hlocks hP hD (⟨rfl, fun h => hno h.2⟩) (Nat.le_of_ble_eq_true rfl) (Nat.le_of_ble_eq_true rfl)
      · refine lv_iload_n hx hb dX0_checkPriceAndStock_26 rfl (lv_at hl 1 rfl) ?_
        refine lv_bipush (v := nI 99) hx hb dX0_checkPriceAndStock_27 (by decide) ?_
        refine lv_icmp_le (tgt := 42) hx hb dX0_checkPriceAndStock_29 (by decide) (fun c29 => ?_) (fun c29 => ?_)
        · subst hQ
          exact vx_ret (e_v () hx hb hr hlocks hS hP hD (⟨by rw [rg_iff (by omega)]; simp only [Int32.lt_iff_toInt_lt, Int32.le_iff_toInt_le, Int32.toInt_zero, nI_toInt (show 1 < 2 ^ 31 by omega), nI_toInt (show 2000 < 2 ^ 31 by omega)] at c2 c9; omega, by rw [rg_iff (by omega)]; simp only [Int32.lt_iff_toInt_lt, Int32.le_iff_toInt_le, Int32.toInt_zero, nI_toInt (show 99 < 2 ^ 31 by omega)] at c23 c29; omega⟩) (Nat.le_of_ble_eq_true rfl) (Nat.le_of_ble_eq_true rfl) dX0_checkPriceAndStock_42)
        · have hno : ¬ rg p1 0 100 := by rw [rg_iff (by omega)]; simp only [Int32.lt_iff_toInt_lt, Int32.le_iff_toInt_le, Int32.toInt_zero, nI_toInt (show 99 < 2 ^ 31 by omega)] at c29; omega
          subst hQ
          exact k_throw hx hb hst (cls := eIA) hown (by decide +kernel) (hts _ (List.mem_of_getElem? (i := 1) rfl)) (hts _ (List.mem_of_getElem? (i := 2) rfl)) (hg.1 (192, "stock is not 0 to 99") (by decide)) (k_hat (fun w h => hts w (List.mem_cons_of_mem _ (List.mem_append_right _ h))) (by decide +kernel) hg.2.1 hg) (by decide +kernel) hZ hS (hl.1.trans hml.symm) dX0_checkPriceAndStock_32 dX0_checkPriceAndStock_35 dX0_checkPriceAndStock_36 dX0_checkPriceAndStock_38 dX0_checkPriceAndStock_41 hout (by rw [hR]; exact Nat.le_of_ble_eq_true rfl) (by rw [hR]; exact Nat.le_of_ble_eq_true rfl) (by rw [hR]; exact Nat.le_of_ble_eq_true rfl) (by rw [hR]; exact Nat.le_of_ble_eq_true rfl) hlocks hP hD (⟨rfl, fun h => hno h.2⟩) (Nat.le_of_ble_eq_true rfl) (Nat.le_of_ble_eq_true rfl)
    · have hno : ¬ rg p0 1 2001 := by rw [rg_iff (by omega)]; simp only [Int32.lt_iff_toInt_lt, Int32.le_iff_toInt_le, Int32.toInt_zero, nI_toInt (show 2000 < 2 ^ 31 by omega)] at c9; omega
      subst hQ
      exact k_throw hx hb hst (cls := eIA) hown (by decide +kernel) (hts _ (List.mem_of_getElem? (i := 1) rfl)) (hts _ (List.mem_of_getElem? (i := 2) rfl)) (hg.1 (190, "price is not 1 to 2000") (by decide)) (k_hat (fun w h => hts w (List.mem_cons_of_mem _ (List.mem_append_right _ h))) (by decide +kernel) hg.2.1 hg) (by decide +kernel) hZ hS (hl.1.trans hml.symm) dX0_checkPriceAndStock_12 dX0_checkPriceAndStock_15 dX0_checkPriceAndStock_16 dX0_checkPriceAndStock_18 dX0_checkPriceAndStock_21 hout (by rw [hR]; exact Nat.le_of_ble_eq_true rfl) (by rw [hR]; exact Nat.le_of_ble_eq_true rfl) (by rw [hR]; exact Nat.le_of_ble_eq_true rfl) (by rw [hR]; exact Nat.le_of_ble_eq_true rfl) hlocks hP hD (⟨rfl, fun h => hno h.1⟩) (Nat.le_of_ble_eq_true rfl) (Nat.le_of_ble_eq_true rfl)
theorem hd_X0_checkPriceAndStock : yX0_checkPriceAndStock.cls = RX0 ∧ yX0_checkPriceAndStock.cls ≠ "java/lang/invoke/MethodHandle" ∧ yX0_checkPriceAndStock.cls ≠ "java/lang/invoke/VarHandle" ∧ (parseMethodDescriptor yX0_checkPriceAndStock.desc).map (fun d => d.parameters.length) = some 2 := by decide +kernel

set_option maxHeartbeats 4000000 in
set_option maxRecDepth 100000 in
theorem c_X0_waitingOf (l : Launch) (hst : l.stackTraces = false) (D : va_G) (q : Nat → Nat) (cI cZ cJ : ClassId) (k : Nat) (V : Nat → Nat) (C : Nat → Nat) (T : Nat → Nat) (B : Nat → Nat) (P : Nat → Nat) (A : Nat → Nat) (n : Nat) (PR : Nat → Nat) (ST : Nat → Nat) (li : Nat) (w : Nat) (WK : Nat → Nat) (so : Nat) (sp : Nat) (CT : Nat → Int64) (SC : Nat → Int) (TA : Nat → Nat) (sz : Nat) (kd : Nat) (hw12 : w ≤ 12) (hk8 : k ≤ 8) (hWK : ∀ j, j < w → WK j < k) (hkd : kd < 8) : Met l yX0_waitingOf wsX0_waitingOf ({ frames := 0, cells := 0, slots := 0, locals := 0 }) (va_Pc [.ref (q 0), .int (nI kd)] (cxP D (ty3 cI cZ cJ) (wX q cI cZ cJ k V C T B P A n PR ST li w WK so sp CT SC TA) sz)) (va_Qi (fun r (_ : Unit) => r = nI (wo WK kd w)) (bW D (va_A (wX q cI cZ cJ k V C T B P A n PR ST li w WK so sp CT SC TA) sz) (fun (_ : Unit) => (wX q cI cZ cJ k V C T B P A n PR ST li w WK so sp CT SC TA))) (va_A (wX q cI cZ cJ k V C T B P A n PR ST li w WK so sp CT SC TA) sz)) 0 0 (va_A (wX q cI cZ cJ k V C T B P A n PR ST li w WK so sp CT SC TA) sz) := by
  refine Met.ofW (cc := cX0_waitingOf) (maxL := 4) (ret := (some .int)) (by decide) rfl ?_
  intro p e s m args below meth c s₁ BB hml hv
  obtain ⟨hav, hsz, hP, hK, hD0, hZ, hg⟩ := hv
  subst hsz
  subst hav
  have hx := BB.exec
  have hb := BB.bytes
  have hr := BB.returns
  have hts := atoms_spec (ws := wsX0_waitingOf) BB.pre
  have hown : s.vm.findClass RX0 = some m.cls := findClass_of_methodNamed BB.named
  have hlocks := BB.notSynchronized
  have hin : ∀ w ∈ wsX00, w ∈ wsX0_waitingOf := fun w h => (List.mem_cons_of_mem _ (List.mem_append_right _ h))
  have hD := hD0.self (sz := s.heap.size)
  have hA : ∀ q9 : Nat, s.heap.size ≤ q9 → va_A (wX q cI cZ cJ k V C T B P A n PR ST li w WK so sp CT SC TA) s.heap.size q9 := fun _ h => Or.inr h
  have hl := lv_entry ([.ref (q 0), .int (nI kd)]) (n := 4) (Nat.le_of_ble_eq_true rfl)
  rw [lg_entry_eq]
  generalize (lg_sl ([.ref (q 0), .int (nI kd)]) ++ List.replicate (4 - (lg_sl ([.ref (q 0), .int (nI kd)])).length) Slot.unset).toArray = ls at hl ⊢
  have hl : lv_has ls 4 [(0, .ref (q 0)), (1, .int (nI kd))] := hl
  refine W_absR (fun R hR => ?_)
  have hR : R = ({ frames := 0, cells := 0, slots := 0, locals := 0 } : Room) := hR
  refine W_absQ (fun Q hQ => ?_)
  generalize ([.ref (q 0), .int (nI kd)] : List Value).toArray = args at hts hQ ⊢
  generalize va_A (wX q cI cZ cJ k V C T B P A n PR ST li w WK so sp CT SC TA) s.heap.size = A9 at hD hZ hA hQ
  refine W_start hP (A := A9) (fun H locs hP hS => ?_)
  refine lv_iconst (v := nI 0) hx hb dX0_waitingOf_0 (ic_0) ?_
  refine lv_istore_n (lv' := [(2, .int (nI 0)), (0, .ref (q 0)), (1, .int (nI kd))]) hx hb dX0_waitingOf_1 rfl hl (by decide) rfl (fun ls hl => ?_)
  refine lv_iconst (v := nI 0) hx hb dX0_waitingOf_2 (ic_0) ?_
  refine lv_istore_n (lv' := [(3, .int (nI 0)), (2, .int (nI 0)), (0, .ref (q 0)), (1, .int (nI kd))]) hx hb dX0_waitingOf_3 rfl hl (by decide) rfl (fun ls hl => ?_)
  have lp_4 : ∀ (fu : Nat) (j : Nat) (mny : Nat), w - j < fu → (j ≤ w) → (mny = wo WK kd j) → ∀ (H : Heap) (locs : List Loc), va_P D vwCl (wX q cI cZ cJ k V C T B P A n PR ST li w WK so sp CT SC TA) H → va_D A9 (wX q cI cZ cJ k V C T B P A n PR ST li w WK so sp CT SC TA) → va_S A9 s.heap H locs → ∀ ls : Array Slot, lv_has ls 4 [(3, .int (nI j)), (2, .int (nI mny)), (0, .ref (q 0)), (1, .int (nI kd))] → W p l e R s m args below meth c H locs 0 0 Q (F0 m 4 ls []) := by
    intro fu
    induction fu with
    | zero =>
      intro j mny hfu
      exact absurd hfu (Nat.not_lt_zero _)
    | succ fu ih =>
      intro j mny hfu hj hm H locs hP hD hS ls hl
      refine lv_iload_n hx hb dX0_waitingOf_4 rfl (lv_at hl 0 rfl) ?_
      refine lv_aload_n hx hb dX0_waitingOf_5 rfl (lv_at hl 2 rfl) ?_
      refine gfX hx hb hts hin hown hK hP 11 (by decide) (List.mem_of_getElem? (i := 1) rfl) rfl rfl dX0_waitingOf_6 ?_
      refine n_icmp_ge (tgt := 31) hx hb (by omega) (by omega) dX0_waitingOf_9 (by decide) (fun c9 => ?_) (fun c9 => ?_)
      · have hjw : j = w := by omega
        refine lv_iload_n hx hb dX0_waitingOf_31 rfl (lv_at hl 1 rfl) ?_
        subst hQ
        exact e_i () hx hb hr hlocks hS hP hD (by rw [hm, hjw]) (Nat.le_of_ble_eq_true rfl) (Nat.le_of_ble_eq_true rfl) dX0_waitingOf_32
      · refine lv_aload_n hx hb dX0_waitingOf_12 rfl (lv_at hl 2 rfl) ?_
        refine gfX hx hb hts hin hown hK hP 12 (by decide) (List.mem_of_getElem? (i := 2) rfl) rfl rfl dX0_waitingOf_13 ?_
        refine lv_iload_n hx hb dX0_waitingOf_16 rfl (lv_at hl 0 rfl) ?_
        refine n_iald hx hb hK hP 9 0 rfl rfl (by omega) (by decide) dX0_waitingOf_17 ?_
        refine lv_iload_n hx hb dX0_waitingOf_18 rfl (lv_at hl 3 rfl) ?_
        refine n_icmp_ne (tgt := 25) hx hb (by have := hWK j (by omega); omega) (by omega) dX0_waitingOf_19 (by decide) (fun c19 => ?_) (fun c19 => ?_)
        · have hwo := wo_n (WK := WK) c19
          refine lv_iinc (v := nI (j + 1)) (lv' := [(3, .int (nI (j + 1))), (2, .int (nI mny)), (0, .ref (q 0)), (1, .int (nI kd))]) hx hb dX0_waitingOf_25 hl (k := 0) rfl (ni_inc _ 1) (by decide) rfl (fun ls hl => ?_)
          refine lv_goto (tgt := 4) hx hb dX0_waitingOf_28 (by decide) ?_
          exact ih (j + 1) mny (by omega) (by omega) (by omega) _ _ hP hD hS ls (lv_sub hl [0, 1, 2, 3] rfl)
        · have hwo := wo_y (WK := WK) c19
          refine lv_iinc (v := nI (mny + 1)) (lv' := [(2, .int (nI (mny + 1))), (3, .int (nI j)), (0, .ref (q 0)), (1, .int (nI kd))]) hx hb dX0_waitingOf_22 hl (k := 1) rfl (ni_inc _ 1) (by decide) rfl (fun ls hl => ?_)
          refine lv_iinc (v := nI (j + 1)) (lv' := [(3, .int (nI (j + 1))), (2, .int (nI (mny + 1))), (0, .ref (q 0)), (1, .int (nI kd))]) hx hb dX0_waitingOf_25 hl (k := 1) rfl (ni_inc _ 1) (by decide) rfl (fun ls hl => ?_)
          refine lv_goto (tgt := 4) hx hb dX0_waitingOf_28 (by decide) ?_
          exact ih (j + 1) (mny + 1) (by omega) (by omega) (by omega) _ _ hP hD hS ls (lv_sub hl [0, 1, 2, 3] rfl)
  exact lp_4 _ 0 0 (Nat.lt_succ_self _) (by omega) rfl _ _ hP hD hS ls (lv_sub hl [0, 1, 2, 3] rfl)
theorem hd_X0_waitingOf : yX0_waitingOf.cls = RX0 ∧ yX0_waitingOf.cls ≠ "java/lang/invoke/MethodHandle" ∧ yX0_waitingOf.cls ≠ "java/lang/invoke/VarHandle" ∧ (parseMethodDescriptor yX0_waitingOf.desc).map (fun d => d.parameters.length) = some 1 := by decide +kernel

set_option maxHeartbeats 4000000 in
set_option maxRecDepth 100000 in
theorem c_X0_credit (l : Launch) (hst : l.stackTraces = false) (D : va_G) (q : Nat → Nat) (cI cZ cJ : ClassId) (k : Nat) (V : Nat → Nat) (C : Nat → Nat) (T : Nat → Nat) (B : Nat → Nat) (P : Nat → Nat) (A : Nat → Nat) (n : Nat) (PR : Nat → Nat) (ST : Nat → Nat) (li : Nat) (w : Nat) (WK : Nat → Nat) (so : Nat) (sp : Nat) (CT : Nat → Int64) (SC : Nat → Int) (TA : Nat → Nat) (sz : Nat) (hw12 : w ≤ 12) (hk8 : k ≤ 8) (hWK : ∀ j, j < w → WK j < k) (hV : ∀ i, i < k → 1 ≤ V i ∧ V i ≤ 500) : Met l yX0_credit wsX0_credit ({ frames := 1, cells := 0, slots := 0, locals := 23 }) (va_Pc [.ref (q 0)] (cxP D (ty3 cI cZ cJ) (wX q cI cZ cJ k V C T B P A n PR ST li w WK so sp CT SC TA) sz)) (va_Qi (fun r (_ : Unit) => r = nI (crk V WK w k)) (bW D (va_A (wX q cI cZ cJ k V C T B P A n PR ST li w WK so sp CT SC TA) sz) (fun (_ : Unit) => (wX q cI cZ cJ k V C T B P A n PR ST li w WK so sp CT SC TA))) (va_A (wX q cI cZ cJ k V C T B P A n PR ST li w WK so sp CT SC TA) sz)) 0 0 (va_A (wX q cI cZ cJ k V C T B P A n PR ST li w WK so sp CT SC TA) sz) := by
  refine Met.ofW (cc := cX0_credit) (maxL := 3) (ret := (some .int)) (by decide) rfl ?_
  intro p e s m args below meth c s₁ BB hml hv
  obtain ⟨hav, hsz, hP, hK, hD0, hZ, hg⟩ := hv
  subst hsz
  subst hav
  have hx := BB.exec
  have hb := BB.bytes
  have hr := BB.returns
  have hts := atoms_spec (ws := wsX0_credit) BB.pre
  have hown : s.vm.findClass RX0 = some m.cls := findClass_of_methodNamed BB.named
  have hlocks := BB.notSynchronized
  have hin : ∀ w ∈ wsX00, w ∈ wsX0_credit := fun w h => (List.mem_cons_of_mem _ (List.mem_append_right _ h))
  have hD := hD0.self (sz := s.heap.size)
  have hA : ∀ q9 : Nat, s.heap.size ≤ q9 → va_A (wX q cI cZ cJ k V C T B P A n PR ST li w WK so sp CT SC TA) s.heap.size q9 := fun _ h => Or.inr h
  have hl := lv_entry ([.ref (q 0)]) (n := 3) (Nat.le_of_ble_eq_true rfl)
  rw [lg_entry_eq]
  generalize (lg_sl ([.ref (q 0)]) ++ List.replicate (3 - (lg_sl ([.ref (q 0)])).length) Slot.unset).toArray = ls at hl ⊢
  have hl : lv_has ls 3 [(0, .ref (q 0))] := hl
  refine W_absR (fun R hR => ?_)
  have hR : R = ({ frames := 1, cells := 0, slots := 0, locals := 23 } : Room) := hR
  refine W_absQ (fun Q hQ => ?_)
  generalize ([.ref (q 0)] : List Value).toArray = args at hts hQ ⊢
  generalize va_A (wX q cI cZ cJ k V C T B P A n PR ST li w WK so sp CT SC TA) s.heap.size = A9 at hD hZ hA hQ
  refine W_start hP (A := A9) (fun H locs hP hS => ?_)
  refine lv_iconst (v := nI 0) hx hb dX0_credit_0 (ic_0) ?_
  refine lv_istore_n (lv' := [(1, .int (nI 0)), (0, .ref (q 0))]) hx hb dX0_credit_1 rfl hl (by decide) rfl (fun ls hl => ?_)
  refine lv_iconst (v := nI 0) hx hb dX0_credit_2 (ic_0) ?_
  refine lv_istore_n (lv' := [(2, .int (nI 0)), (1, .int (nI 0)), (0, .ref (q 0))]) hx hb dX0_credit_3 rfl hl (by decide) rfl (fun ls hl => ?_)
  have lp_4 : ∀ (fu : Nat) (i : Nat) (su : Nat), k - i < fu → (i ≤ k) → (su = crk V WK w i) → ∀ (H : Heap) (locs : List Loc), va_P D vwCl (wX q cI cZ cJ k V C T B P A n PR ST li w WK so sp CT SC TA) H → va_D A9 (wX q cI cZ cJ k V C T B P A n PR ST li w WK so sp CT SC TA) → va_S A9 s.heap H locs → ∀ ls : Array Slot, lv_has ls 3 [(2, .int (nI i)), (1, .int (nI su)), (0, .ref (q 0))] → W p l e R s m args below meth c H locs 0 0 Q (F0 m 4 ls []) := by
    intro fu
    induction fu with
    | zero =>
      intro i su hfu
      exact absurd hfu (Nat.not_lt_zero _)
    | succ fu ih =>
      intro i su hfu hi hs H locs hP hD hS ls hl
      refine lv_iload_n hx hb dX0_credit_4 rfl (lv_at hl 0 rfl) ?_
      refine lv_aload_n hx hb dX0_credit_5 rfl (lv_at hl 2 rfl) ?_
      refine gfX hx hb hts hin hown hK hP 0 (by decide) (List.mem_of_getElem? (i := 1) rfl) rfl rfl dX0_credit_6 ?_
      refine n_icmp_ge (tgt := 33) hx hb (by omega) (by omega) dX0_credit_9 (by decide) (fun c9 => ?_) (fun c9 => ?_)
      · have hik : i = k := by omega
        refine lv_iload_n hx hb dX0_credit_33 rfl (lv_at hl 1 rfl) ?_
        subst hQ
        exact e_i () hx hb hr hlocks hS hP hD (by rw [hs, hik]) (Nat.le_of_ble_eq_true rfl) (Nat.le_of_ble_eq_true rfl) dX0_credit_34
      · refine lv_iload_n hx hb dX0_credit_12 rfl (lv_at hl 1 rfl) ?_
        refine lv_aload_n hx hb dX0_credit_13 rfl (lv_at hl 2 rfl) ?_
        refine lv_iload_n hx hb dX0_credit_14 rfl (lv_at hl 0 rfl) ?_
        refine k_i (va_runV (As := [.int (nI i)]) (rest := [.int (nI su)]) ⟨hx, hb, hml, hown, hts⟩ (c_X0_waitingOf l hst D q cI cZ cJ k V C T B P A n PR ST li w WK so sp CT SC TA H.size i hw12 hk8 hWK (by omega)) (cwV 1 hts gX0_credit_X0_waitingOf rfl rfl rfl hd_X0_waitingOf ⟨(by rw [hR]; exact Nat.le_of_ble_eq_true rfl), (by rw [hR]; exact Nat.le_of_ble_eq_true rfl)⟩) (pre_V hP hK hD hS hA hZ hg 0 (ci := 0) rfl rfl) rfl rfl hl.1 rfl (lv_room (Nat.le_of_ble_eq_true rfl)) dX0_credit_15 ⟨(by rw [hR]; exact Nat.le_of_ble_eq_true rfl), (by rw [hR]; exact Nat.le_of_ble_eq_true rfl)⟩) hD hS hA (fun r_2 u_1 H locs hp_3 hP hD hS => ?_)
        subst hp_3
        refine lv_aload_n hx hb dX0_credit_18 rfl (lv_at hl 2 rfl) ?_
        refine gfX hx hb hts hin hown hK hP 1 (by decide) (List.mem_of_getElem? (i := 2) rfl) rfl rfl dX0_credit_19 ?_
        refine lv_iload_n hx hb dX0_credit_22 rfl (lv_at hl 0 rfl) ?_
        refine n_iald hx hb hK hP 1 0 rfl rfl (by omega) (by decide) dX0_credit_23 ?_
        refine n_imul hx hb dX0_credit_24 ?_
        refine n_iadd hx hb dX0_credit_25 ?_
        refine lv_istore_n (lv' := [(1, .int (nI (su + ((wo WK i w) * (V i))))), (2, .int (nI i)), (0, .ref (q 0))]) hx hb dX0_credit_26 rfl hl (by decide) rfl (fun ls hl => ?_)
        refine lv_iinc (v := nI (i + 1)) (lv' := [(2, .int (nI (i + 1))), (1, .int (nI (su + ((wo WK i w) * (V i))))), (0, .ref (q 0))]) hx hb dX0_credit_27 hl (k := 1) rfl (ni_inc _ 1) (by decide) rfl (fun ls hl => ?_)
        refine lv_goto (tgt := 4) hx hb dX0_credit_30 (by decide) ?_
        exact ih (i + 1) (su + ((wo WK i w) * (V i))) (by omega) (by omega) (by rw [hs]; rfl) _ _ hP hD hS ls (lv_sub hl [0, 1, 2] rfl)
  exact lp_4 _ 0 0 (Nat.lt_succ_self _) (by omega) rfl _ _ hP hD hS ls (lv_sub hl [0, 1, 2] rfl)
theorem hd_X0_credit : yX0_credit.cls = RX0 ∧ yX0_credit.cls ≠ "java/lang/invoke/MethodHandle" ∧ yX0_credit.cls ≠ "java/lang/invoke/VarHandle" ∧ (parseMethodDescriptor yX0_credit.desc).map (fun d => d.parameters.length) = some 0 := by decide +kernel
end
